set_option maxRecDepth 4000 in
theorem v_X11_types {G : KG} {S0 : KSh} (hL : kLay S0) {d : Nat} {P : Option AV → KMem → Prop} {c : KMem} {x1 : Int} (r1 : -2147483648 ≤ x1 ∧ x1 < 2147483648) (hp : 0 ≤ c 558 21 ∧ c 558 21 ≤ 136) (H : kW2 G S0 kM_X11_types d 2 [some (kA 558), some (kI x1), some (kI 3)] [] c P) : kC2 G S0 kM_X11_types d [kA 558, kI x1] c P := by
  refine k2_met (by decide) rfl (Nat.le_of_ble_eq_true rfl) (l0 := [some (kA 558), some (kI x1), none]) rfl ?_
  refine kw_iconst dX11_types_0 ?_
  refine kw_istore_n dX11_types_1 (Nat.le_of_ble_eq_true rfl) ?_
  exact kw_forget (ls' := [some (kA 558), some (kI x1), some (kI 3)]) ⟨Or.inr rfl, ⟨Or.inr rfl, ⟨Or.inr rfl, trivial⟩⟩⟩ H
set_option maxRecDepth 4000 in
theorem v_X11_types_2 {G : KG} {S0 : KSh} (hL : kLay S0) {d : Nat} {P : Option AV → KMem → Prop} {c : KMem} {x1 x2 : Int} (r1 : -2147483648 ≤ x1 ∧ x1 < 2147483648) (r2 : -2147483648 ≤ x2 ∧ x2 < 2147483648) (hp : -1 ≤ x2 ∧ x2 ≤ 3 ∧ 0 ≤ c 558 21 ∧ c 558 21 + x2 < 140) (H : (x2 < 0 → (P none c)) ∧ (0 ≤ x2 → (kW2 G S0 kM_X11_types d 2 [some (kA 558), some (kI x1), some (kI (x2 + -1))] [] (kup (kup c 570 (c 558 21) (ki2b (ki2b (kshr x1 (8 * x2))))) 558 21 ((c 558 21) + 1)) P))) : kW2 G S0 kM_X11_types d 2 [some (kA 558), some (kI x1), some (kI x2)] [] c P := by
  refine kw_iload_n dX11_types_2 rfl ?_
  refine kw_if_lt 38 dX11_types_3 (by decide) (k32i (by omega)) (fun h1 => ?_) (fun h1 => ?_)
  · have H := H.1 h1
    refine k2_ret dX11_types_38 rfl H
  · have H := H.2 h1
    refine kw_aload_n dX11_types_6 rfl ?_
    refine k2_getR fd_X11_16 dX11_types_7 wf_X11_45 (lsh_558 hL) (lrf_558_16 hL) ?_
    refine kw_aload_n dX11_types_10 rfl ?_
    refine k2_getI fd_X11_21 dX11_types_11 wf_X11_177 (lsh_558 hL) ?_
    refine kw_eI (b := (c 558 21)) rfl ?_
    refine kw_iload_n dX11_types_14 rfl ?_
    refine kw_bipush dX11_types_15 (by decide) ?_
    refine kw_iload_n dX11_types_17 rfl ?_
    refine kw_imul dX11_types_18 ?_
    refine kw_ishr dX11_types_19 ?_
    refine kw_i2b dX11_types_20 ?_
    refine k2_bast dX11_types_21 (lsh_570 hL) (by omega) (by omega) ?_
    refine kw_aload_n dX11_types_22 rfl ?_
    refine kw_aload_n dX11_types_23 rfl ?_
    refine k2_getI fd_X11_21 dX11_types_24 wf_X11_177 (lsh_558 hL) ?_
    refine kw_eI (kup_n (Or.inl (by decide))) ?_
    refine kw_iconst dX11_types_27 ?_
    refine kw_iadd dX11_types_28 ?_
    refine k2_putI fp_X11_21 dX11_types_29 wf_X11_177 (lsh_558 hL) ?_
    refine kw_iinc dX11_types_32 rfl ?_
    refine kw_goto 2 dX11_types_35 (by decide) ?_
    exact kw_forget (ls' := [some (kA 558), some (kI x1), some (kI (x2 + -1))]) ⟨Or.inr rfl, ⟨Or.inr rfl, ⟨Or.inr rfl, trivial⟩⟩⟩ H
set_option maxRecDepth 4000 in
theorem v_X11_feed {G : KG} {S0 : KSh} (hL : kLay S0) {d : Nat} {P : Option AV → KMem → Prop} {c : KMem} {x1 x2 x3 x4 x5 : Int} (r1 : -2147483648 ≤ x1 ∧ x1 < 2147483648) (r2 : -2147483648 ≤ x2 ∧ x2 < 2147483648) (r3 : -2147483648 ≤ x3 ∧ x3 < 2147483648) (r4 : -2147483648 ≤ x4 ∧ x4 < 2147483648) (r5 : -2147483648 ≤ x5 ∧ x5 < 2147483648) (hp : 0 ≤ c 558 21 ∧ c 558 21 ≤ 140) (H : (((c 558 21) + 20) ≤ 140 → (kC2 G S0 kM_X11_types d [kA 558, kI x1] c (kRN (fun c3 => kC2 G S0 kM_X11_types d [kA 558, kI x2] c3 (kRN (fun c5 => kC2 G S0 kM_X11_types d [kA 558, kI x3] c5 (kRN (fun c7 => kC2 G S0 kM_X11_types d [kA 558, kI x4] c7 (kRN (fun c9 => kC2 G S0 kM_X11_types d [kA 558, kI x5] c9 (kRN (fun c11 => P (some (kI (c11 558 21))) c11)))))))))))) ∧ (140 < ((c 558 21) + 20) → (P (some (kI (-1))) c))) : kC2 G S0 kM_X11_feed (d + 1) [kA 558, kI x1, kI x2, kI x3, kI x4, kI x5] c P := by
  refine k2_met (by decide) rfl (Nat.le_of_ble_eq_true rfl) (l0 := [some (kA 558), some (kI x1), some (kI x2), some (kI x3), some (kI x4), some (kI x5)]) rfl ?_
  refine kw_aload_n dX11_feed_0 rfl ?_
  refine k2_getI fd_X11_21 dX11_feed_1 wf_X11_177 (lsh_558 hL) ?_
  refine kw_eI (b := (c 558 21)) rfl ?_
  refine kw_bipush dX11_feed_4 (by decide) ?_
  refine kw_iadd dX11_feed_6 ?_
  refine kw_sipush dX11_feed_7 (by decide) ?_
  refine kw_icmp_le 15 dX11_feed_10 (by decide) (k32i (by omega)) (k32i (by omega)) (fun h1 => ?_) (fun h1 => ?_)
  · have H := H.1 h1
    refine kw_aload_n dX11_feed_15 rfl ?_
    refine kw_iload_n dX11_feed_16 rfl ?_
    refine k2_callV1N (ci := 9) (N := 38) (T := TX11) rfl (lsh_558 hL) m_X11_types dX11_feed_17 wl_X11_180 (Nat.le_of_ble_eq_true rfl) (kC2_mono H (fun r c3 H => ?_))
    obtain ⟨rfl, H⟩ := H
    refine ⟨rfl, ?_⟩
    refine kw_aload_n dX11_feed_20 rfl ?_
    refine kw_iload_n dX11_feed_21 rfl ?_
    refine k2_callV1N (ci := 9) (N := 38) (T := TX11) rfl (lsh_558 hL) m_X11_types dX11_feed_22 wl_X11_180 (Nat.le_of_ble_eq_true rfl) (kC2_mono H (fun r c5 H => ?_))
    obtain ⟨rfl, H⟩ := H
    refine ⟨rfl, ?_⟩
    refine kw_aload_n dX11_feed_25 rfl ?_
    refine kw_iload_n dX11_feed_26 rfl ?_
    refine k2_callV1N (ci := 9) (N := 38) (T := TX11) rfl (lsh_558 hL) m_X11_types dX11_feed_27 wl_X11_180 (Nat.le_of_ble_eq_true rfl) (kC2_mono H (fun r c7 H => ?_))
    obtain ⟨rfl, H⟩ := H
    refine ⟨rfl, ?_⟩
    refine kw_aload_n dX11_feed_30 rfl ?_
    refine kw_iload dX11_feed_31 rfl ?_
    refine k2_callV1N (ci := 9) (N := 38) (T := TX11) rfl (lsh_558 hL) m_X11_types dX11_feed_33 wl_X11_180 (Nat.le_of_ble_eq_true rfl) (kC2_mono H (fun r c9 H => ?_))
    obtain ⟨rfl, H⟩ := H
    refine ⟨rfl, ?_⟩
    refine kw_aload_n dX11_feed_36 rfl ?_
    refine kw_iload dX11_feed_37 rfl ?_
    refine k2_callV1N (ci := 9) (N := 38) (T := TX11) rfl (lsh_558 hL) m_X11_types dX11_feed_39 wl_X11_180 (Nat.le_of_ble_eq_true rfl) (kC2_mono H (fun r c11 H => ?_))
    obtain ⟨rfl, H⟩ := H
    refine ⟨rfl, ?_⟩
    refine kw_aload_n dX11_feed_42 rfl ?_
    refine k2_getI fd_X11_21 dX11_feed_43 wf_X11_177 (lsh_558 hL) ?_
    refine kw_eI (b := (c11 558 21)) rfl ?_
    refine k2_iret dX11_feed_46 rfl H
  · have H := H.2 h1
    refine kw_iconst dX11_feed_13 ?_
    refine k2_iret dX11_feed_14 rfl H
set_option maxRecDepth 4000 in
theorem v_X11_takesDraft {G : KG} {S0 : KSh} (hL : kLay S0) {d : Nat} {P : Option AV → KMem → Prop} {c : KMem}  (H : kW2 G S0 kM_X11_takesDraft (d + 1) 2 [some (kA 558), some (kI 0)] [] c P) : kC2 G S0 kM_X11_takesDraft (d + 1) [kA 558] c P := by
  refine k2_met (by decide) rfl (Nat.le_of_ble_eq_true rfl) (l0 := [some (kA 558), none]) rfl ?_
  refine kw_iconst dX11_takesDraft_0 ?_
  refine kw_istore_n dX11_takesDraft_1 (Nat.le_of_ble_eq_true rfl) ?_
  exact kw_forget (ls' := [some (kA 558), some (kI 0)]) ⟨Or.inr rfl, ⟨Or.inr rfl, trivial⟩⟩ H
set_option maxRecDepth 4000 in
theorem v_X11_takesDraft_2 {G : KG} {S0 : KSh} (hL : kLay S0) {d : Nat} {P : Option AV → KMem → Prop} {c : KMem} {x1 : Int} (r1 : 0 ≤ x1 ∧ x1 < 2147483648) (hp : 0 ≤ x1 ∧ x1 ≤ 12) (H : (12 ≤ x1 → (P none c)) ∧ (x1 < 12 → (kC2 G S0 kM_X11_copies d [kA 558, kI (12 + x1), kI x1] c (kRN (fun c3 => ((c3 564 (12 + x1)) = 0 ∨ (c3 564 (12 + x1)) = 1) ∧ (kW2 G S0 kM_X11_takesDraft (d + 1) 2 [some (kA 558), some (kI (x1 + 1))] [] (kup c3 564 x1 (c3 564 (12 + x1))) P)))))) : kW2 G S0 kM_X11_takesDraft (d + 1) 2 [some (kA 558), some (kI x1)] [] c P := by
  refine kw_iload_n dX11_takesDraft_2 rfl ?_
  refine kw_bipush dX11_takesDraft_3 (by decide) ?_
  refine kw_icmp_ge 38 dX11_takesDraft_5 (by decide) (k32i (by omega)) (k32i (by omega)) (fun h1 => ?_) (fun h1 => ?_)
  · have H := H.1 h1
    refine k2_ret dX11_takesDraft_38 rfl H
  · have H := H.2 h1
    refine kw_aload_n dX11_takesDraft_8 rfl ?_
    refine kw_bipush dX11_takesDraft_9 (by decide) ?_
    refine kw_iload_n dX11_takesDraft_11 rfl ?_
    refine kw_iadd dX11_takesDraft_12 ?_
    refine kw_iload_n dX11_takesDraft_13 rfl ?_
    refine k2_callV2N (ci := 9) (N := 38) (T := TX11) rfl (lsh_558 hL) m_X11_copies dX11_takesDraft_14 wl_X11_132 (Nat.le_of_ble_eq_true rfl) (kC2_mono H (fun r c3 H => ?_))
    obtain ⟨rfl, H⟩ := H
    refine ⟨rfl, ?_⟩
    refine kw_aload_n dX11_takesDraft_17 rfl ?_
    refine k2_getR fd_X11_5 dX11_takesDraft_18 wf_X11_25 (lsh_558 hL) (lrf_558_5 hL) ?_
    refine kw_iload_n dX11_takesDraft_21 rfl ?_
    refine kw_aload_n dX11_takesDraft_22 rfl ?_
    refine k2_getR fd_X11_5 dX11_takesDraft_23 wf_X11_25 (lsh_558 hL) (lrf_558_5 hL) ?_
    refine kw_bipush dX11_takesDraft_26 (by decide) ?_
    refine kw_iload_n dX11_takesDraft_28 rfl ?_
    refine kw_iadd dX11_takesDraft_29 ?_
    refine k2_zald dX11_takesDraft_30 (lsh_564 hL) (by omega) (by omega) ?_
    have o4 := H.1
    have H := H.2
    refine k2_zast1 o4 dX11_takesDraft_31 (lsh_564 hL) (by omega) (by omega) ?_
    refine kw_iinc dX11_takesDraft_32 rfl ?_
    refine kw_goto 2 dX11_takesDraft_35 (by decide) ?_
    exact kw_forget (ls' := [some (kA 558), some (kI (x1 + 1))]) ⟨Or.inr rfl, ⟨Or.inr rfl, trivial⟩⟩ H
set_option maxRecDepth 4000 in
theorem v_X11_saves {G : KG} {S0 : KSh} (hL : kLay S0) {d : Nat} {P : Option AV → KMem → Prop} {c : KMem}  (H : kW2 G S0 kM_X11_saves (d + 1) 2 [some (kA 558), some (kI 0)] [] c P) : kC2 G S0 kM_X11_saves (d + 1) [kA 558] c P := by
  refine k2_met (by decide) rfl (Nat.le_of_ble_eq_true rfl) (l0 := [some (kA 558), none]) rfl ?_
  refine kw_iconst dX11_saves_0 ?_
  refine kw_istore_n dX11_saves_1 (Nat.le_of_ble_eq_true rfl) ?_
  exact kw_forget (ls' := [some (kA 558), some (kI 0)]) ⟨Or.inr rfl, ⟨Or.inr rfl, trivial⟩⟩ H
set_option maxRecDepth 4000 in
theorem v_X11_saves_2 {G : KG} {S0 : KSh} (hL : kLay S0) {d : Nat} {P : Option AV → KMem → Prop} {c : KMem} {x1 : Int} (r1 : 0 ≤ x1 ∧ x1 < 2147483648) (hp : 0 ≤ x1 ∧ x1 ≤ 12) (H : (12 ≤ x1 → (P none c)) ∧ (x1 < 12 → (kC2 G S0 kM_X11_copies d [kA 558, kI x1, kI (32 + x1)] c (kRN (fun c3 => ((c3 564 x1) = 0 ∨ (c3 564 x1) = 1) ∧ (kW2 G S0 kM_X11_saves (d + 1) 2 [some (kA 558), some (kI (x1 + 1))] [] (kup c3 567 x1 (c3 564 x1)) P)))))) : kW2 G S0 kM_X11_saves (d + 1) 2 [some (kA 558), some (kI x1)] [] c P := by
  refine kw_iload_n dX11_saves_2 rfl ?_
  refine kw_bipush dX11_saves_3 (by decide) ?_
  refine kw_icmp_ge 35 dX11_saves_5 (by decide) (k32i (by omega)) (k32i (by omega)) (fun h1 => ?_) (fun h1 => ?_)
  · have H := H.1 h1
    refine k2_ret dX11_saves_35 rfl H
  · have H := H.2 h1
    refine kw_aload_n dX11_saves_8 rfl ?_
    refine kw_iload_n dX11_saves_9 rfl ?_
    refine kw_bipush dX11_saves_10 (by decide) ?_
    refine kw_iload_n dX11_saves_12 rfl ?_
    refine kw_iadd dX11_saves_13 ?_
    refine k2_callV2N (ci := 9) (N := 38) (T := TX11) rfl (lsh_558 hL) m_X11_copies dX11_saves_14 wl_X11_132 (Nat.le_of_ble_eq_true rfl) (kC2_mono H (fun r c3 H => ?_))
    obtain ⟨rfl, H⟩ := H
    refine ⟨rfl, ?_⟩
    refine kw_aload_n dX11_saves_17 rfl ?_
    refine k2_getR fd_X11_8 dX11_saves_18 wf_X11_35 (lsh_558 hL) (lrf_558_8 hL) ?_
    refine kw_iload_n dX11_saves_21 rfl ?_
    refine kw_aload_n dX11_saves_22 rfl ?_
    refine k2_getR fd_X11_5 dX11_saves_23 wf_X11_25 (lsh_558 hL) (lrf_558_5 hL) ?_
    refine kw_iload_n dX11_saves_26 rfl ?_
    refine k2_zald dX11_saves_27 (lsh_564 hL) (by omega) (by omega) ?_
    have o4 := H.1
    have H := H.2
    refine k2_zast1 o4 dX11_saves_28 (lsh_567 hL) (by omega) (by omega) ?_
    refine kw_iinc dX11_saves_29 rfl ?_
    refine kw_goto 2 dX11_saves_32 (by decide) ?_
    exact kw_forget (ls' := [some (kA 558), some (kI (x1 + 1))]) ⟨Or.inr rfl, ⟨Or.inr rfl, trivial⟩⟩ H
set_option maxRecDepth 4000 in
theorem v_X11_goesBack {G : KG} {S0 : KSh} (hL : kLay S0) {d : Nat} {P : Option AV → KMem → Prop} {c : KMem}  (H : kW2 G S0 kM_X11_goesBack (d + 1) 2 [some (kA 558), some (kI 0)] [] c P) : kC2 G S0 kM_X11_goesBack (d + 1) [kA 558] c P := by
  refine k2_met (by decide) rfl (Nat.le_of_ble_eq_true rfl) (l0 := [some (kA 558), none]) rfl ?_
  refine kw_iconst dX11_goesBack_0 ?_
  refine kw_istore_n dX11_goesBack_1 (Nat.le_of_ble_eq_true rfl) ?_
  exact kw_forget (ls' := [some (kA 558), some (kI 0)]) ⟨Or.inr rfl, ⟨Or.inr rfl, trivial⟩⟩ H
set_option maxRecDepth 4000 in
theorem v_X11_goesBack_2 {G : KG} {S0 : KSh} (hL : kLay S0) {d : Nat} {P : Option AV → KMem → Prop} {c : KMem} {x1 : Int} (r1 : 0 ≤ x1 ∧ x1 < 2147483648) (hp : 0 ≤ x1 ∧ x1 ≤ 12) (H : (12 ≤ x1 → (P none c)) ∧ (x1 < 12 → (kC2 G S0 kM_X11_copies d [kA 558, kI (32 + x1), kI x1] c (kRN (fun c3 => ((c3 567 x1) = 0 ∨ (c3 567 x1) = 1) ∧ (kW2 G S0 kM_X11_goesBack (d + 1) 2 [some (kA 558), some (kI (x1 + 1))] [] (kup c3 564 x1 (c3 567 x1)) P)))))) : kW2 G S0 kM_X11_goesBack (d + 1) 2 [some (kA 558), some (kI x1)] [] c P := by
  refine kw_iload_n dX11_goesBack_2 rfl ?_
  refine kw_bipush dX11_goesBack_3 (by decide) ?_
  refine kw_icmp_ge 35 dX11_goesBack_5 (by decide) (k32i (by omega)) (k32i (by omega)) (fun h1 => ?_) (fun h1 => ?_)
  · have H := H.1 h1
    refine k2_ret dX11_goesBack_35 rfl H
  · have H := H.2 h1
    refine kw_aload_n dX11_goesBack_8 rfl ?_
    refine kw_bipush dX11_goesBack_9 (by decide) ?_
    refine kw_iload_n dX11_goesBack_11 rfl ?_
    refine kw_iadd dX11_goesBack_12 ?_
    refine kw_iload_n dX11_goesBack_13 rfl ?_
    refine k2_callV2N (ci := 9) (N := 38) (T := TX11) rfl (lsh_558 hL) m_X11_copies dX11_goesBack_14 wl_X11_132 (Nat.le_of_ble_eq_true rfl) (kC2_mono H (fun r c3 H => ?_))
    obtain ⟨rfl, H⟩ := H
    refine ⟨rfl, ?_⟩
    refine kw_aload_n dX11_goesBack_17 rfl ?_
    refine k2_getR fd_X11_5 dX11_goesBack_18 wf_X11_25 (lsh_558 hL) (lrf_558_5 hL) ?_
    refine kw_iload_n dX11_goesBack_21 rfl ?_
    refine kw_aload_n dX11_goesBack_22 rfl ?_
    refine k2_getR fd_X11_8 dX11_goesBack_23 wf_X11_35 (lsh_558 hL) (lrf_558_8 hL) ?_
    refine kw_iload_n dX11_goesBack_26 rfl ?_
    refine k2_zald dX11_goesBack_27 (lsh_567 hL) (by omega) (by omega) ?_
    have o4 := H.1
    have H := H.2
    refine k2_zast1 o4 dX11_goesBack_28 (lsh_564 hL) (by omega) (by omega) ?_
    refine kw_iinc dX11_goesBack_29 rfl ?_
    refine kw_goto 2 dX11_goesBack_32 (by decide) ?_
    exact kw_forget (ls' := [some (kA 558), some (kI (x1 + 1))]) ⟨Or.inr rfl, ⟨Or.inr rfl, trivial⟩⟩ H
set_option maxRecDepth 4000 in
theorem v_X11_remembers {G : KG} {S0 : KSh} (hL : kLay S0) {d : Nat} {P : Option AV → KMem → Prop} {c : KMem}  (hp : 0 ≤ c 558 11 ∧ c 558 11 ≤ 8) (H : ((c 558 11) ≠ 8 → (kW2 G S0 kM_X11_remembers d 81 [some (kA 558), some (kI 0)] [] c P)) ∧ ((c 558 11) = 8 → (kW2 G S0 kM_X11_remembers d 11 [some (kA 558), some (kI 0)] [] c P))) : kC2 G S0 kM_X11_remembers d [kA 558] c P := by
  refine k2_met (by decide) rfl (Nat.le_of_ble_eq_true rfl) (l0 := [some (kA 558), none]) rfl ?_
  refine kw_aload_n dX11_remembers_0 rfl ?_
  refine k2_getI fd_X11_11 dX11_remembers_1 wf_X11_288 (lsh_558 hL) ?_
  refine kw_eI (b := (c 558 11)) rfl ?_
  refine kw_bipush dX11_remembers_4 (by decide) ?_
  refine kw_icmp_ne 79 dX11_remembers_6 (by decide) (k32i (by omega)) (k32i (by omega)) (fun h1 => ?_) (fun h1 => ?_)
  · have H := H.1 h1
    refine kw_iconst dX11_remembers_79 ?_
    refine kw_istore_n dX11_remembers_80 (Nat.le_of_ble_eq_true rfl) ?_
    exact kw_forget (ls' := [some (kA 558), some (kI 0)]) ⟨Or.inr rfl, ⟨Or.inr rfl, trivial⟩⟩ H
  · have H := H.2 h1
    refine kw_iconst dX11_remembers_9 ?_
    refine kw_istore_n dX11_remembers_10 (Nat.le_of_ble_eq_true rfl) ?_
    exact kw_forget (ls' := [some (kA 558), some (kI 0)]) ⟨Or.inr rfl, ⟨Or.inr rfl, trivial⟩⟩ H
set_option maxRecDepth 4000 in
theorem v_X11_remembers_81 {G : KG} {S0 : KSh} (hL : kLay S0) {d : Nat} {P : Option AV → KMem → Prop} {c : KMem} {x1 : Int} (r1 : 0 ≤ x1 ∧ x1 < 2147483648) (hp : 0 ≤ c 558 11 ∧ c 558 11 ≤ 7) (H : (192 ≤ x1 → (kW2 G S0 kM_X11_remembers d 117 [some (kA 558), some (kI 0)] [] c P)) ∧ (x1 < 192 → (kW2 G S0 kM_X11_remembers d 81 [some (kA 558), some (kI (x1 + 1))] [] (kup c 562 ((192 * (c 558 11)) + x1) (c 559 x1)) P))) : kW2 G S0 kM_X11_remembers d 81 [some (kA 558), some (kI x1)] [] c P := by
  refine kw_iload_n dX11_remembers_81 rfl ?_
  refine kw_sipush dX11_remembers_82 (by decide) ?_
  refine kw_icmp_ge 115 dX11_remembers_85 (by decide) (k32i (by omega)) (k32i (by omega)) (fun h2 => ?_) (fun h2 => ?_)
  · have H := H.1 h2
    refine kw_iconst dX11_remembers_115 ?_
    refine kw_istore_n dX11_remembers_116 (Nat.le_of_ble_eq_true rfl) ?_
    exact kw_forget (ls' := [some (kA 558), some (kI 0)]) ⟨Or.inr rfl, ⟨Or.inr rfl, trivial⟩⟩ H
  · have H := H.2 h2
    refine kw_aload_n dX11_remembers_88 rfl ?_
    refine k2_getR fd_X11_3 dX11_remembers_89 wf_X11_19 (lsh_558 hL) (lrf_558_3 hL) ?_
    refine kw_sipush dX11_remembers_92 (by decide) ?_
    refine kw_aload_n dX11_remembers_95 rfl ?_
    refine k2_getI fd_X11_11 dX11_remembers_96 wf_X11_288 (lsh_558 hL) ?_
    refine kw_eI (b := (c 558 11)) rfl ?_
    refine kw_imul dX11_remembers_99 ?_
    refine kw_iload_n dX11_remembers_100 rfl ?_
    refine kw_iadd dX11_remembers_101 ?_
    refine kw_aload_n dX11_remembers_102 rfl ?_
    refine k2_getR fd_X11_0 dX11_remembers_103 wf_X11_7 (lsh_558 hL) (lrf_558_0 hL) ?_
    refine kw_iload_n dX11_remembers_106 rfl ?_
    refine k2_lald dX11_remembers_107 (lsh_559 hL) (by omega) (by omega) ?_
    refine k2_last dX11_remembers_108 (lsh_562 hL) (by omega) (by omega) ?_
    refine kw_iinc dX11_remembers_109 rfl ?_
    refine kw_goto 81 dX11_remembers_112 (by decide) ?_
    exact kw_forget (ls' := [some (kA 558), some (kI (x1 + 1))]) ⟨Or.inr rfl, ⟨Or.inr rfl, trivial⟩⟩ H
set_option maxRecDepth 4000 in
theorem v_X11_remembers_11 {G : KG} {S0 : KSh} (hL : kLay S0) {d : Nat} {P : Option AV → KMem → Prop} {c : KMem} {x1 : Int} (r1 : 0 ≤ x1 ∧ x1 < 2147483648) (H : (1344 ≤ x1 → (kW2 G S0 kM_X11_remembers d 42 [some (kA 558), some (kI 0)] [] c P)) ∧ (x1 < 1344 → (kW2 G S0 kM_X11_remembers d 11 [some (kA 558), some (kI (x1 + 1))] [] (kup c 562 x1 (c 562 (192 + x1))) P))) : kW2 G S0 kM_X11_remembers d 11 [some (kA 558), some (kI x1)] [] c P := by
  refine kw_iload_n dX11_remembers_11 rfl ?_
  refine kw_sipush dX11_remembers_12 (by decide) ?_
  refine kw_icmp_ge 40 dX11_remembers_15 (by decide) (k32i (by omega)) (k32i (by omega)) (fun h3 => ?_) (fun h3 => ?_)
  · have H := H.1 h3
    refine kw_iconst dX11_remembers_40 ?_
    refine kw_istore_n dX11_remembers_41 (Nat.le_of_ble_eq_true rfl) ?_
    exact kw_forget (ls' := [some (kA 558), some (kI 0)]) ⟨Or.inr rfl, ⟨Or.inr rfl, trivial⟩⟩ H
  · have H := H.2 h3
    refine kw_aload_n dX11_remembers_18 rfl ?_
    refine k2_getR fd_X11_3 dX11_remembers_19 wf_X11_19 (lsh_558 hL) (lrf_558_3 hL) ?_
    refine kw_iload_n dX11_remembers_22 rfl ?_
    refine kw_aload_n dX11_remembers_23 rfl ?_
    refine k2_getR fd_X11_3 dX11_remembers_24 wf_X11_19 (lsh_558 hL) (lrf_558_3 hL) ?_
    refine kw_sipush dX11_remembers_27 (by decide) ?_
    refine kw_iload_n dX11_remembers_30 rfl ?_
    refine kw_iadd dX11_remembers_31 ?_
    refine k2_lald dX11_remembers_32 (lsh_562 hL) (by omega) (by omega) ?_
    refine k2_last dX11_remembers_33 (lsh_562 hL) (by omega) (by omega) ?_
    refine kw_iinc dX11_remembers_34 rfl ?_
    refine kw_goto 11 dX11_remembers_37 (by decide) ?_
    exact kw_forget (ls' := [some (kA 558), some (kI (x1 + 1))]) ⟨Or.inr rfl, ⟨Or.inr rfl, trivial⟩⟩ H
set_option maxRecDepth 4000 in
theorem v_X11_remembers_117 {G : KG} {S0 : KSh} (hL : kLay S0) {d : Nat} {P : Option AV → KMem → Prop} {c : KMem} {x1 : Int} (r1 : 0 ≤ x1 ∧ x1 < 2147483648) (hp : 0 ≤ c 558 11 ∧ c 558 11 ≤ 7) (H : (12 ≤ x1 → (P none (kup c 558 11 ((c 558 11) + 1)))) ∧ (x1 < 12 → (((c 564 x1) = 0 ∨ (c 564 x1) = 1) ∧ (kW2 G S0 kM_X11_remembers d 117 [some (kA 558), some (kI (x1 + 1))] [] (kup c 566 ((12 * (c 558 11)) + x1) (c 564 x1)) P)))) : kW2 G S0 kM_X11_remembers d 117 [some (kA 558), some (kI x1)] [] c P := by
  refine kw_iload_n dX11_remembers_117 rfl ?_
  refine kw_bipush dX11_remembers_118 (by decide) ?_
  refine kw_icmp_ge 149 dX11_remembers_120 (by decide) (k32i (by omega)) (k32i (by omega)) (fun h4 => ?_) (fun h4 => ?_)
  · have H := H.1 h4
    refine kw_aload_n dX11_remembers_149 rfl ?_
    refine kw_aload_n dX11_remembers_150 rfl ?_
    refine k2_getI fd_X11_11 dX11_remembers_151 wf_X11_288 (lsh_558 hL) ?_
    refine kw_eI (b := (c 558 11)) rfl ?_
    refine kw_iconst dX11_remembers_154 ?_
    refine kw_iadd dX11_remembers_155 ?_
    refine k2_putI fp_X11_11 dX11_remembers_156 wf_X11_288 (lsh_558 hL) ?_
    refine k2_ret dX11_remembers_159 rfl H
  · have H := H.2 h4
    refine kw_aload_n dX11_remembers_123 rfl ?_
    refine k2_getR fd_X11_7 dX11_remembers_124 wf_X11_32 (lsh_558 hL) (lrf_558_7 hL) ?_
    refine kw_bipush dX11_remembers_127 (by decide) ?_
    refine kw_aload_n dX11_remembers_129 rfl ?_
    refine k2_getI fd_X11_11 dX11_remembers_130 wf_X11_288 (lsh_558 hL) ?_
    refine kw_eI (b := (c 558 11)) rfl ?_
    refine kw_imul dX11_remembers_133 ?_
    refine kw_iload_n dX11_remembers_134 rfl ?_
    refine kw_iadd dX11_remembers_135 ?_
    refine kw_aload_n dX11_remembers_136 rfl ?_
    refine k2_getR fd_X11_5 dX11_remembers_137 wf_X11_25 (lsh_558 hL) (lrf_558_5 hL) ?_
    refine kw_iload_n dX11_remembers_140 rfl ?_
    refine k2_zald dX11_remembers_141 (lsh_564 hL) (by omega) (by omega) ?_
    have o5 := H.1
    have H := H.2
    refine k2_zast1 o5 dX11_remembers_142 (lsh_566 hL) (by omega) (by omega) ?_
    refine kw_iinc dX11_remembers_143 rfl ?_
    refine kw_goto 117 dX11_remembers_146 (by decide) ?_
    exact kw_forget (ls' := [some (kA 558), some (kI (x1 + 1))]) ⟨Or.inr rfl, ⟨Or.inr rfl, trivial⟩⟩ H
set_option maxRecDepth 4000 in
theorem v_X11_remembers_42 {G : KG} {S0 : KSh} (hL : kLay S0) {d : Nat} {P : Option AV → KMem → Prop} {c : KMem} {x1 : Int} (r1 : 0 ≤ x1 ∧ x1 < 2147483648) (hp : 0 ≤ c 558 11 ∧ c 558 11 ≤ 8) (H : (84 ≤ x1 → (kW2 G S0 kM_X11_remembers d 81 [some (kA 558), some (kI 0)] [] (kup c 558 11 ((c 558 11) - 1)) P)) ∧ (x1 < 84 → (((c 566 (12 + x1)) = 0 ∨ (c 566 (12 + x1)) = 1) ∧ (kW2 G S0 kM_X11_remembers d 42 [some (kA 558), some (kI (x1 + 1))] [] (kup c 566 x1 (c 566 (12 + x1))) P)))) : kW2 G S0 kM_X11_remembers d 42 [some (kA 558), some (kI x1)] [] c P := by
  refine kw_iload_n dX11_remembers_42 rfl ?_
  refine kw_bipush dX11_remembers_43 (by decide) ?_
  refine kw_icmp_ge 69 dX11_remembers_45 (by decide) (k32i (by omega)) (k32i (by omega)) (fun h6 => ?_) (fun h6 => ?_)
  · have H := H.1 h6
    refine kw_aload_n dX11_remembers_69 rfl ?_
    refine kw_aload_n dX11_remembers_70 rfl ?_
    refine k2_getI fd_X11_11 dX11_remembers_71 wf_X11_288 (lsh_558 hL) ?_
    refine kw_eI (b := (c 558 11)) rfl ?_
    refine kw_iconst dX11_remembers_74 ?_
    refine kw_isub dX11_remembers_75 ?_
    refine k2_putI fp_X11_11 dX11_remembers_76 wf_X11_288 (lsh_558 hL) ?_
    refine kw_iconst dX11_remembers_79 ?_
    refine kw_istore_n dX11_remembers_80 (Nat.le_of_ble_eq_true rfl) ?_
    exact kw_forget (ls' := [some (kA 558), some (kI 0)]) ⟨Or.inr rfl, ⟨Or.inr rfl, trivial⟩⟩ H
  · have H := H.2 h6
    refine kw_aload_n dX11_remembers_48 rfl ?_
    refine k2_getR fd_X11_7 dX11_remembers_49 wf_X11_32 (lsh_558 hL) (lrf_558_7 hL) ?_
    refine kw_iload_n dX11_remembers_52 rfl ?_
    refine kw_aload_n dX11_remembers_53 rfl ?_
    refine k2_getR fd_X11_7 dX11_remembers_54 wf_X11_32 (lsh_558 hL) (lrf_558_7 hL) ?_
    refine kw_bipush dX11_remembers_57 (by decide) ?_
    refine kw_iload_n dX11_remembers_59 rfl ?_
    refine kw_iadd dX11_remembers_60 ?_
    refine k2_zald dX11_remembers_61 (lsh_566 hL) (by omega) (by omega) ?_
    have o7 := H.1
    have H := H.2
    refine k2_zast1 o7 dX11_remembers_62 (lsh_566 hL) (by omega) (by omega) ?_
    refine kw_iinc dX11_remembers_63 rfl ?_
    refine kw_goto 42 dX11_remembers_66 (by decide) ?_
    exact kw_forget (ls' := [some (kA 558), some (kI (x1 + 1))]) ⟨Or.inr rfl, ⟨Or.inr rfl, trivial⟩⟩ H
set_option maxRecDepth 4000 in
theorem v_X11_drawn {G : KG} {S0 : KSh} (hL : kLay S0) {d : Nat} {P : Option AV → KMem → Prop} {c : KMem}  (hp : 0 ≤ c 558 12 ∧ c 558 12 ≤ 65535) (H : (k32 (Int.tmod ((25173 * (c 558 12)) + 13849) 65536)) ∧ (P (some (kI ((Int.tmod (Int.tmod ((25173 * (c 558 12)) + 13849) 65536) 21) - 10))) (kup c 558 12 (Int.tmod ((25173 * (c 558 12)) + 13849) 65536)))) : kC2 G S0 kM_X11_drawn d [kA 558] c P := by
  refine k2_met (by decide) rfl (Nat.le_of_ble_eq_true rfl) (l0 := [some (kA 558)]) rfl ?_
  refine kw_aload_n dX11_drawn_0 rfl ?_
  refine kw_sipush dX11_drawn_1 (by decide) ?_
  refine kw_aload_n dX11_drawn_4 rfl ?_
  refine k2_getI fd_X11_12 dX11_drawn_5 wf_X11_68 (lsh_558 hL) ?_
  refine kw_eI (b := (c 558 12)) rfl ?_
  refine kw_imul dX11_drawn_8 ?_
  refine kw_sipush dX11_drawn_9 (by decide) ?_
  refine kw_iadd dX11_drawn_12 ?_
  refine kw_ldcw dX11_drawn_13 wk_X11_473 ?_
  refine kw_irem dX11_drawn_16 (k32i (by omega)) (k32i (by omega)) (by decide) ?_
  refine k2_putI fp_X11_12 dX11_drawn_17 wf_X11_68 (lsh_558 hL) ?_
  refine kw_aload_n dX11_drawn_20 rfl ?_
  refine k2_getI fd_X11_12 dX11_drawn_21 wf_X11_68 (lsh_558 hL) ?_
  refine kw_eI (kup_s _ _ _ _) ?_
  refine kw_bipush dX11_drawn_24 (by decide) ?_
  have o1 := H.1
  have H := H.2
  refine kw_irem dX11_drawn_26 o1 (k32i (by omega)) (by decide) ?_
  refine kw_bipush dX11_drawn_27 (by decide) ?_
  refine kw_isub dX11_drawn_29 ?_
  refine k2_iret dX11_drawn_30 rfl H
set_option maxRecDepth 4000 in
theorem v_X11_drawsPlaces {G : KG} {S0 : KSh} (hL : kLay S0) {d : Nat} {P : Option AV → KMem → Prop} {c : KMem} {x1 : Int} (r1 : -2147483648 ≤ x1 ∧ x1 < 2147483648) (hp : 0 ≤ x1 ∧ x1 ≤ 6) (H : kW2 G S0 kM_X11_drawsPlaces (d + 2) 2 [some (kA 558), some (kI x1), some (kI 0), none] [] c P) : kC2 G S0 kM_X11_drawsPlaces (d + 2) [kA 558, kI x1] c P := by
  refine k2_met (by decide) rfl (Nat.le_of_ble_eq_true rfl) (l0 := [some (kA 558), some (kI x1), none, none]) rfl ?_
  refine kw_iconst dX11_drawsPlaces_0 ?_
  refine kw_istore_n dX11_drawsPlaces_1 (Nat.le_of_ble_eq_true rfl) ?_
  exact kw_forget (ls' := [some (kA 558), some (kI x1), some (kI 0), none]) ⟨Or.inr rfl, ⟨Or.inr rfl, ⟨Or.inr rfl, ⟨Or.inr rfl, trivial⟩⟩⟩⟩ H
set_option maxRecDepth 4000 in
theorem v_X11_drawsPlaces_2 {G : KG} {S0 : KSh} (hL : kLay S0) {d : Nat} {P : Option AV → KMem → Prop} {c : KMem} {x1 x2 : Int} (r1 : -2147483648 ≤ x1 ∧ x1 < 2147483648) (r2 : 0 ≤ x2 ∧ x2 < 2147483648) (hp : 0 ≤ x1 ∧ x1 ≤ 6) (H : (x1 ≤ x2 → (P none c)) ∧ (x2 < x1 → (kC2 G S0 kM_X11_drawn (d + 1) [kA 558] c (kRI (fun z2 c3 => (k32 z2) ∧ (kC2 G S0 kM_X11_drawn (d + 1) [kA 558] c3 (kRI (fun z5 c6 => (k32 z5) ∧ (kC2 G S0 kM_X11_laysPlace (d + 1) [kA 558, kI x2, kL z2, kL z5] c6 (kRN (fun c9 => kW2 G S0 kM_X11_drawsPlaces (d + 2) 2 [some (kA 558), some (kI x1), some (kI (x2 + 1)), none] [] (kup c9 564 x2 1) P))))))))))) : kW2 G S0 kM_X11_drawsPlaces (d + 2) 2 [some (kA 558), some (kI x1), some (kI x2), none] [] c P := by
  refine kw_iload_n dX11_drawsPlaces_2 rfl ?_
  refine kw_iload_n dX11_drawsPlaces_3 rfl ?_
  refine kw_icmp_ge 37 dX11_drawsPlaces_4 (by decide) (k32i (by omega)) (k32i (by omega)) (fun h1 => ?_) (fun h1 => ?_)
  · have H := H.1 h1
    refine k2_ret dX11_drawsPlaces_37 rfl H
  · have H := H.2 h1
    refine kw_aload_n dX11_drawsPlaces_7 rfl ?_
    refine k2_callV0I (ci := 9) (N := 38) (T := TX11) rfl (lsh_558 hL) m_X11_drawn dX11_drawsPlaces_8 wl_X11_474 (Nat.le_of_ble_eq_true rfl) (kC2_mono H (fun r c3 H => ?_))
    obtain ⟨z2, rfl, H⟩ := H
    refine ⟨z2, rfl, ?_⟩
    refine kw_istore_n dX11_drawsPlaces_11 (Nat.le_of_ble_eq_true rfl) ?_
    refine kw_aload_n dX11_drawsPlaces_12 rfl ?_
    refine kw_iload_n dX11_drawsPlaces_13 rfl ?_
    refine kw_iload_n dX11_drawsPlaces_14 rfl ?_
    have o4 := H.1
    have H := H.2
    refine kw_i2l dX11_drawsPlaces_15 o4 ?_
    refine kw_aload_n dX11_drawsPlaces_16 rfl ?_
    refine k2_callV0I (ci := 9) (N := 38) (T := TX11) rfl (lsh_558 hL) m_X11_drawn dX11_drawsPlaces_17 wl_X11_474 (Nat.le_of_ble_eq_true rfl) (kC2_mono H (fun r c6 H => ?_))
    obtain ⟨z5, rfl, H⟩ := H
    refine ⟨z5, rfl, ?_⟩
    have o7 := H.1
    have H := H.2
    refine kw_i2l dX11_drawsPlaces_20 o7 ?_
    refine k2_callV3N (ci := 9) (N := 38) (T := TX11) rfl (lsh_558 hL) m_X11_laysPlace dX11_drawsPlaces_21 wl_X11_232 (Nat.le_of_ble_eq_true rfl) (kC2_mono H (fun r c9 H => ?_))
    obtain ⟨rfl, H⟩ := H
    refine ⟨rfl, ?_⟩
    refine kw_aload_n dX11_drawsPlaces_24 rfl ?_
    refine k2_getR fd_X11_5 dX11_drawsPlaces_25 wf_X11_25 (lsh_558 hL) (lrf_558_5 hL) ?_
    refine kw_iload_n dX11_drawsPlaces_28 rfl ?_
    refine kw_iconst dX11_drawsPlaces_29 ?_
    refine k2_zast1 (Or.inr rfl) dX11_drawsPlaces_30 (lsh_564 hL) (by omega) (by omega) ?_
    refine kw_iinc dX11_drawsPlaces_31 rfl ?_
    refine kw_goto 2 dX11_drawsPlaces_34 (by decide) ?_
    exact kw_forget (ls' := [some (kA 558), some (kI x1), some (kI (x2 + 1)), none]) ⟨Or.inr rfl, ⟨Or.inr rfl, ⟨Or.inr rfl, ⟨Or.inl rfl, trivial⟩⟩⟩⟩ H
set_option maxRecDepth 4000 in
theorem v_X11_draws {G : KG} {S0 : KSh} (hL : kLay S0) {d : Nat} {P : Option AV → KMem → Prop} {c : KMem} {x1 : Int} (r1 : -2147483648 ≤ x1 ∧ x1 < 2147483648) (H : ((1 ≤ x1 ∧ x1 ≤ 6) → (kC2 G S0 kM_X11_remembers (d + 2) [kA 558] c (kRN (fun c4 => kC2 G S0 kM_X11_drawsPlaces (d + 2) [kA 558, kI x1] c4 (kRN (fun c6 => kC2 G S0 kM_X11_standing (d + 2) [kA 558] c6 (kRI (fun z7 c8 => P (some (kI z7)) c8)))))))) ∧ (¬ (1 ≤ x1 ∧ x1 ≤ 6) → (P (some (kI (-1))) c))) : kC2 G S0 kM_X11_draws (d + 3) [kA 558, kI x1] c P := by
  refine k2_met (by decide) rfl (Nat.le_of_ble_eq_true rfl) (l0 := [some (kA 558), some (kI x1)]) rfl ?_
  refine kw_iload_n dX11_draws_0 rfl ?_
  refine kw_iconst dX11_draws_1 ?_
  refine kw_bipush dX11_draws_2 (by decide) ?_
  refine k2_callS3I m_X11_in dX11_draws_4 wl_X11_100 (Nat.le_of_ble_eq_true rfl) (s_X11_in hL (k32i (by omega)) (k32i (by omega)) (k32i (by omega)) (fun h1 => ⟨_, rfl, ?_⟩) (fun h1 => ⟨_, rfl, ?_⟩))
  · have H := H.1 h1
    refine kw_if_ne 12 dX11_draws_7 (by decide) (k32i (by omega)) (fun _ => ?_) (fun h2 => absurd h2 (by decide))
    refine kw_aload_n dX11_draws_12 rfl ?_
    refine k2_callV0N (ci := 9) (N := 38) (T := TX11) rfl (lsh_558 hL) m_X11_remembers dX11_draws_13 wl_X11_295 (Nat.le_of_ble_eq_true rfl) (kC2_mono H (fun r c4 H => ?_))
    obtain ⟨rfl, H⟩ := H
    refine ⟨rfl, ?_⟩
    refine kw_aload_n dX11_draws_16 rfl ?_
    refine kw_iload_n dX11_draws_17 rfl ?_
    refine k2_callV1N (ci := 9) (N := 38) (T := TX11) rfl (lsh_558 hL) m_X11_drawsPlaces dX11_draws_18 wl_X11_477 (Nat.le_of_ble_eq_true rfl) (kC2_mono H (fun r c6 H => ?_))
    obtain ⟨rfl, H⟩ := H
    refine ⟨rfl, ?_⟩
    refine kw_aload_n dX11_draws_21 rfl ?_
    refine k2_callV0I (ci := 9) (N := 38) (T := TX11) rfl (lsh_558 hL) m_X11_standing dX11_draws_22 wl_X11_480 (Nat.le_of_ble_eq_true rfl) (kC2_mono H (fun r c8 H => ?_))
    obtain ⟨z7, rfl, H⟩ := H
    refine ⟨z7, rfl, ?_⟩
    refine k2_iret dX11_draws_25 rfl H
  · have H := H.2 h1
    refine kw_if_ne 12 dX11_draws_7 (by decide) (k32i (by omega)) (fun h9 => absurd h9 (by decide)) (fun _ => ?_)
    refine kw_iconst dX11_draws_10 ?_
    refine k2_iret dX11_draws_11 rfl H
set_option maxRecDepth 4000 in
theorem v_X11_drop {G : KG} {S0 : KSh} (hL : kLay S0) {d : Nat} {P : Option AV → KMem → Prop} {c : KMem} {x1 : Int} (r1 : -2147483648 ≤ x1 ∧ x1 < 2147483648) (H : (kStd c) ∧ (((kHas c x1) → (kC2 G S0 kM_X11_remembers (d + 1) [kA 558] c (kRN (fun c5 => P (some (kI 1)) (kup c5 564 x1 0))))) ∧ (¬ (kHas c x1) → (P (some (kI 0)) c)))) : kC2 G S0 kM_X11_drop (d + 2) [kA 558, kI x1] c P := by
  refine k2_met (by decide) rfl (Nat.le_of_ble_eq_true rfl) (l0 := [some (kA 558), some (kI x1)]) rfl ?_
  refine kw_aload_n dX11_drop_0 rfl ?_
  refine kw_iload_n dX11_drop_1 rfl ?_
  have o1 := H.1
  have H := H.2
  refine k2_callV1I (ci := 9) (N := 38) (T := TX11) rfl (lsh_558 hL) m_X11_isLetter dX11_drop_2 wl_X11_161 (Nat.le_of_ble_eq_true rfl) (s_X11_isLetter hL (k32i (by omega)) o1 (fun h2 => ⟨_, rfl, ?_⟩) (fun h2 => ⟨_, rfl, ?_⟩))
  · have H := H.1 h2
    refine kw_if_ne 10 dX11_drop_5 (by decide) (k32i (by omega)) (fun _ => ?_) (fun h3 => absurd h3 (by decide))
    refine kw_aload_n dX11_drop_10 rfl ?_
    refine k2_callV0N (ci := 9) (N := 38) (T := TX11) rfl (lsh_558 hL) m_X11_remembers dX11_drop_11 wl_X11_295 (Nat.le_of_ble_eq_true rfl) (kC2_mono H (fun r c5 H => ?_))
    obtain ⟨rfl, H⟩ := H
    refine ⟨rfl, ?_⟩
    refine kw_aload_n dX11_drop_14 rfl ?_
    refine k2_getR fd_X11_5 dX11_drop_15 wf_X11_25 (lsh_558 hL) (lrf_558_5 hL) ?_
    refine kw_iload_n dX11_drop_18 rfl ?_
    refine kw_iconst dX11_drop_19 ?_
    refine k2_zast1 (Or.inl rfl) dX11_drop_20 (lsh_564 hL) (by omega) (by omega) ?_
    refine kw_iconst dX11_drop_21 ?_
    refine k2_zret dX11_drop_22 rfl (Or.inr rfl) H
  · have H := H.2 h2
    refine kw_if_ne 10 dX11_drop_5 (by decide) (k32i (by omega)) (fun h6 => absurd h6 (by decide)) (fun _ => ?_)
    refine kw_iconst dX11_drop_8 ?_
    refine k2_zret dX11_drop_9 rfl (Or.inl rfl) H
set_option maxRecDepth 4000 in
theorem v_X11_back {G : KG} {S0 : KSh} (hL : kLay S0) {d : Nat} {P : Option AV → KMem → Prop} {c : KMem}  (hp : 0 ≤ c 558 11 ∧ c 558 11 ≤ 8) (H : ((c 558 11) ≠ 0 → (kW2 G S0 kM_X11_back d 21 [some (kA 558), some (kI 0)] [] (kup c 558 11 ((c 558 11) - 1)) P)) ∧ ((c 558 11) = 0 → (P (some (kI (-1))) c))) : kC2 G S0 kM_X11_back d [kA 558] c P := by
  refine k2_met (by decide) rfl (Nat.le_of_ble_eq_true rfl) (l0 := [some (kA 558), none]) rfl ?_
  refine kw_aload_n dX11_back_0 rfl ?_
  refine k2_getI fd_X11_11 dX11_back_1 wf_X11_288 (lsh_558 hL) ?_
  refine kw_eI (b := (c 558 11)) rfl ?_
  refine kw_if_ne 9 dX11_back_4 (by decide) (k32i (by omega)) (fun h1 => ?_) (fun h1 => ?_)
  · have H := H.1 h1
    refine kw_aload_n dX11_back_9 rfl ?_
    refine kw_aload_n dX11_back_10 rfl ?_
    refine k2_getI fd_X11_11 dX11_back_11 wf_X11_288 (lsh_558 hL) ?_
    refine kw_eI (b := (c 558 11)) rfl ?_
    refine kw_iconst dX11_back_14 ?_
    refine kw_isub dX11_back_15 ?_
    refine k2_putI fp_X11_11 dX11_back_16 wf_X11_288 (lsh_558 hL) ?_
    refine kw_iconst dX11_back_19 ?_
    refine kw_istore_n dX11_back_20 (Nat.le_of_ble_eq_true rfl) ?_
    exact kw_forget (ls' := [some (kA 558), some (kI 0)]) ⟨Or.inr rfl, ⟨Or.inr rfl, trivial⟩⟩ H
  · have H := H.2 h1
    refine kw_iconst dX11_back_7 ?_
    refine k2_iret dX11_back_8 rfl H
set_option maxRecDepth 4000 in
theorem v_X11_back_21 {G : KG} {S0 : KSh} (hL : kLay S0) {d : Nat} {P : Option AV → KMem → Prop} {c : KMem} {x1 : Int} (r1 : 0 ≤ x1 ∧ x1 < 2147483648) (hp : 0 ≤ c 558 11 ∧ c 558 11 ≤ 7) (H : (192 ≤ x1 → (kW2 G S0 kM_X11_back d 57 [some (kA 558), some (kI 0)] [] c P)) ∧ (x1 < 192 → (kW2 G S0 kM_X11_back d 21 [some (kA 558), some (kI (x1 + 1))] [] (kup c 559 x1 (c 562 ((192 * (c 558 11)) + x1))) P))) : kW2 G S0 kM_X11_back d 21 [some (kA 558), some (kI x1)] [] c P := by
  refine kw_iload_n dX11_back_21 rfl ?_
  refine kw_sipush dX11_back_22 (by decide) ?_
  refine kw_icmp_ge 55 dX11_back_25 (by decide) (k32i (by omega)) (k32i (by omega)) (fun h2 => ?_) (fun h2 => ?_)
  · have H := H.1 h2
    refine kw_iconst dX11_back_55 ?_
    refine kw_istore_n dX11_back_56 (Nat.le_of_ble_eq_true rfl) ?_
    exact kw_forget (ls' := [some (kA 558), some (kI 0)]) ⟨Or.inr rfl, ⟨Or.inr rfl, trivial⟩⟩ H
  · have H := H.2 h2
    refine kw_aload_n dX11_back_28 rfl ?_
    refine k2_getR fd_X11_0 dX11_back_29 wf_X11_7 (lsh_558 hL) (lrf_558_0 hL) ?_
    refine kw_iload_n dX11_back_32 rfl ?_
    refine kw_aload_n dX11_back_33 rfl ?_
    refine k2_getR fd_X11_3 dX11_back_34 wf_X11_19 (lsh_558 hL) (lrf_558_3 hL) ?_
    refine kw_sipush dX11_back_37 (by decide) ?_
    refine kw_aload_n dX11_back_40 rfl ?_
    refine k2_getI fd_X11_11 dX11_back_41 wf_X11_288 (lsh_558 hL) ?_
    refine kw_eI (b := (c 558 11)) rfl ?_
    refine kw_imul dX11_back_44 ?_
    refine kw_iload_n dX11_back_45 rfl ?_
    refine kw_iadd dX11_back_46 ?_
    refine k2_lald dX11_back_47 (lsh_562 hL) (by omega) (by omega) ?_
    refine k2_last dX11_back_48 (lsh_559 hL) (by omega) (by omega) ?_
    refine kw_iinc dX11_back_49 rfl ?_
    refine kw_goto 21 dX11_back_52 (by decide) ?_
    exact kw_forget (ls' := [some (kA 558), some (kI (x1 + 1))]) ⟨Or.inr rfl, ⟨Or.inr rfl, trivial⟩⟩ H
set_option maxRecDepth 4000 in
theorem v_X11_back_57 {G : KG} {S0 : KSh} (hL : kLay S0) {d : Nat} {P : Option AV → KMem → Prop} {c : KMem} {x1 : Int} (r1 : 0 ≤ x1 ∧ x1 < 2147483648) (hp : 0 ≤ c 558 11 ∧ c 558 11 ≤ 7) (H : (12 ≤ x1 → (P (some (kI (c 558 11))) c)) ∧ (x1 < 12 → (((c 566 ((12 * (c 558 11)) + x1)) = 0 ∨ (c 566 ((12 * (c 558 11)) + x1)) = 1) ∧ (kW2 G S0 kM_X11_back d 57 [some (kA 558), some (kI (x1 + 1))] [] (kup c 564 x1 (c 566 ((12 * (c 558 11)) + x1))) P)))) : kW2 G S0 kM_X11_back d 57 [some (kA 558), some (kI x1)] [] c P := by
  refine kw_iload_n dX11_back_57 rfl ?_
  refine kw_bipush dX11_back_58 (by decide) ?_
  refine kw_icmp_ge 89 dX11_back_60 (by decide) (k32i (by omega)) (k32i (by omega)) (fun h3 => ?_) (fun h3 => ?_)
  · have H := H.1 h3
    refine kw_aload_n dX11_back_89 rfl ?_
    refine k2_getI fd_X11_11 dX11_back_90 wf_X11_288 (lsh_558 hL) ?_
    refine kw_eI (b := (c 558 11)) rfl ?_
    refine k2_iret dX11_back_93 rfl H
  · have H := H.2 h3
    refine kw_aload_n dX11_back_63 rfl ?_
    refine k2_getR fd_X11_5 dX11_back_64 wf_X11_25 (lsh_558 hL) (lrf_558_5 hL) ?_
    refine kw_iload_n dX11_back_67 rfl ?_
    refine kw_aload_n dX11_back_68 rfl ?_
    refine k2_getR fd_X11_7 dX11_back_69 wf_X11_32 (lsh_558 hL) (lrf_558_7 hL) ?_
    refine kw_bipush dX11_back_72 (by decide) ?_
    refine kw_aload_n dX11_back_74 rfl ?_
    refine k2_getI fd_X11_11 dX11_back_75 wf_X11_288 (lsh_558 hL) ?_
    refine kw_eI (b := (c 558 11)) rfl ?_
    refine kw_imul dX11_back_78 ?_
    refine kw_iload_n dX11_back_79 rfl ?_
    refine kw_iadd dX11_back_80 ?_
    refine k2_zald dX11_back_81 (lsh_566 hL) (by omega) (by omega) ?_
    have o4 := H.1
    have H := H.2
    refine k2_zast1 o4 dX11_back_82 (lsh_564 hL) (by omega) (by omega) ?_
    refine kw_iinc dX11_back_83 rfl ?_
    refine kw_goto 57 dX11_back_86 (by decide) ?_
    exact kw_forget (ls' := [some (kA 558), some (kI (x1 + 1))]) ⟨Or.inr rfl, ⟨Or.inr rfl, trivial⟩⟩ H
set_option maxRecDepth 4000 in
theorem v_X11_seed {G : KG} {S0 : KSh} (hL : kLay S0) {d : Nat} {P : Option AV → KMem → Prop} {c : KMem} {x1 : Int} (r1 : -2147483648 ≤ x1 ∧ x1 < 2147483648) (H : ((0 ≤ x1 ∧ x1 ≤ 65535) → (P (some (kI 1)) (kup c 558 12 x1))) ∧ (¬ (0 ≤ x1 ∧ x1 ≤ 65535) → (P (some (kI 0)) c))) : kC2 G S0 kM_X11_seed (d + 1) [kA 558, kI x1] c P := by
  refine k2_met (by decide) rfl (Nat.le_of_ble_eq_true rfl) (l0 := [some (kA 558), some (kI x1)]) rfl ?_
  refine kw_iload_n dX11_seed_0 rfl ?_
  refine kw_iconst dX11_seed_1 ?_
  refine kw_ldcw dX11_seed_2 wk_X11_489 ?_
  refine k2_callS3I m_X11_in dX11_seed_5 wl_X11_100 (Nat.le_of_ble_eq_true rfl) (s_X11_in hL (k32i (by omega)) (k32i (by omega)) (k32i (by omega)) (fun h1 => ⟨_, rfl, ?_⟩) (fun h1 => ⟨_, rfl, ?_⟩))
  · have H := H.1 h1
    refine kw_if_ne 13 dX11_seed_8 (by decide) (k32i (by omega)) (fun _ => ?_) (fun h2 => absurd h2 (by decide))
    refine kw_aload_n dX11_seed_13 rfl ?_
    refine kw_iload_n dX11_seed_14 rfl ?_
    refine k2_putI fp_X11_12 dX11_seed_15 wf_X11_68 (lsh_558 hL) ?_
    refine kw_iconst dX11_seed_18 ?_
    refine k2_zret dX11_seed_19 rfl (Or.inr rfl) H
  · have H := H.2 h1
    refine kw_if_ne 13 dX11_seed_8 (by decide) (k32i (by omega)) (fun h3 => absurd h3 (by decide)) (fun _ => ?_)
    refine kw_iconst dX11_seed_11 ?_
    refine k2_zret dX11_seed_12 rfl (Or.inl rfl) H
set_option maxRecDepth 4000 in
theorem v_X11_keep {G : KG} {S0 : KSh} (hL : kLay S0) {d : Nat} {P : Option AV → KMem → Prop} {c : KMem}  (H : kW2 G S0 kM_X11_keep (d + 1) 15 [some (kA 558), some (kI 0)] [] (kup (kup c 558 15 1) 558 13 (c 558 12)) P) : kC2 G S0 kM_X11_keep (d + 1) [kA 558] c P := by
  refine k2_met (by decide) rfl (Nat.le_of_ble_eq_true rfl) (l0 := [some (kA 558), none]) rfl ?_
  refine kw_aload_n dX11_keep_0 rfl ?_
  refine kw_iconst dX11_keep_1 ?_
  refine k2_putZ fp_X11_15 dX11_keep_2 wf_X11_490 (lsh_558 hL) (Or.inr rfl) ?_
  refine kw_aload_n dX11_keep_5 rfl ?_
  refine kw_aload_n dX11_keep_6 rfl ?_
  refine k2_getI fd_X11_12 dX11_keep_7 wf_X11_68 (lsh_558 hL) ?_
  refine kw_eI (kup_n (Or.inr (by omega))) ?_
  refine k2_putI fp_X11_13 dX11_keep_10 wf_X11_493 (lsh_558 hL) ?_
  refine kw_iconst dX11_keep_13 ?_
  refine kw_istore_n dX11_keep_14 (Nat.le_of_ble_eq_true rfl) ?_
  exact kw_forget (ls' := [some (kA 558), some (kI 0)]) ⟨Or.inr rfl, ⟨Or.inr rfl, trivial⟩⟩ H
set_option maxRecDepth 4000 in
theorem v_X11_keep_15 {G : KG} {S0 : KSh} (hL : kLay S0) {d : Nat} {P : Option AV → KMem → Prop} {c : KMem} {x1 : Int} (r1 : 0 ≤ x1 ∧ x1 < 2147483648) (H : (192 ≤ x1 → (kW2 G S0 kM_X11_keep (d + 1) 42 [some (kA 558), some (kI 0)] [] c P)) ∧ (x1 < 192 → (kW2 G S0 kM_X11_keep (d + 1) 15 [some (kA 558), some (kI (x1 + 1))] [] (kup c 561 x1 (c 559 x1)) P))) : kW2 G S0 kM_X11_keep (d + 1) 15 [some (kA 558), some (kI x1)] [] c P := by
  refine kw_iload_n dX11_keep_15 rfl ?_
  refine kw_sipush dX11_keep_16 (by decide) ?_
  refine kw_icmp_ge 40 dX11_keep_19 (by decide) (k32i (by omega)) (k32i (by omega)) (fun h1 => ?_) (fun h1 => ?_)
  · have H := H.1 h1
    refine kw_iconst dX11_keep_40 ?_
    refine kw_istore_n dX11_keep_41 (Nat.le_of_ble_eq_true rfl) ?_
    exact kw_forget (ls' := [some (kA 558), some (kI 0)]) ⟨Or.inr rfl, ⟨Or.inr rfl, trivial⟩⟩ H
  · have H := H.2 h1
    refine kw_aload_n dX11_keep_22 rfl ?_
    refine k2_getR fd_X11_2 dX11_keep_23 wf_X11_16 (lsh_558 hL) (lrf_558_2 hL) ?_
    refine kw_iload_n dX11_keep_26 rfl ?_
    refine kw_aload_n dX11_keep_27 rfl ?_
    refine k2_getR fd_X11_0 dX11_keep_28 wf_X11_7 (lsh_558 hL) (lrf_558_0 hL) ?_
    refine kw_iload_n dX11_keep_31 rfl ?_
    refine k2_lald dX11_keep_32 (lsh_559 hL) (by omega) (by omega) ?_
    refine k2_last dX11_keep_33 (lsh_561 hL) (by omega) (by omega) ?_
    refine kw_iinc dX11_keep_34 rfl ?_
    refine kw_goto 15 dX11_keep_37 (by decide) ?_
    exact kw_forget (ls' := [some (kA 558), some (kI (x1 + 1))]) ⟨Or.inr rfl, ⟨Or.inr rfl, trivial⟩⟩ H
set_option maxRecDepth 4000 in
theorem v_X11_keep_42 {G : KG} {S0 : KSh} (hL : kLay S0) {d : Nat} {P : Option AV → KMem → Prop} {c : KMem} {x1 : Int} (r1 : 0 ≤ x1 ∧ x1 < 2147483648) (H : (12 ≤ x1 → (kC2 G S0 kM_X11_standing d [kA 558] c (kRI (fun z3 c4 => P (some (kI z3)) c4)))) ∧ (x1 < 12 → (((c 564 x1) = 0 ∨ (c 564 x1) = 1) ∧ (kW2 G S0 kM_X11_keep (d + 1) 42 [some (kA 558), some (kI (x1 + 1))] [] (kup c 565 x1 (c 564 x1)) P)))) : kW2 G S0 kM_X11_keep (d + 1) 42 [some (kA 558), some (kI x1)] [] c P := by
  refine kw_iload_n dX11_keep_42 rfl ?_
  refine kw_bipush dX11_keep_43 (by decide) ?_
  refine kw_icmp_ge 66 dX11_keep_45 (by decide) (k32i (by omega)) (k32i (by omega)) (fun h2 => ?_) (fun h2 => ?_)
  · have H := H.1 h2
    refine kw_aload_n dX11_keep_66 rfl ?_
    refine k2_callV0I (ci := 9) (N := 38) (T := TX11) rfl (lsh_558 hL) m_X11_standing dX11_keep_67 wl_X11_480 (Nat.le_of_ble_eq_true rfl) (kC2_mono H (fun r c4 H => ?_))
    obtain ⟨z3, rfl, H⟩ := H
    refine ⟨z3, rfl, ?_⟩
    refine k2_iret dX11_keep_70 rfl H
  · have H := H.2 h2
    refine kw_aload_n dX11_keep_48 rfl ?_
    refine k2_getR fd_X11_6 dX11_keep_49 wf_X11_29 (lsh_558 hL) (lrf_558_6 hL) ?_
    refine kw_iload_n dX11_keep_52 rfl ?_
    refine kw_aload_n dX11_keep_53 rfl ?_
    refine k2_getR fd_X11_5 dX11_keep_54 wf_X11_25 (lsh_558 hL) (lrf_558_5 hL) ?_
    refine kw_iload_n dX11_keep_57 rfl ?_
    refine k2_zald dX11_keep_58 (lsh_564 hL) (by omega) (by omega) ?_
    have o5 := H.1
    have H := H.2
    refine k2_zast1 o5 dX11_keep_59 (lsh_565 hL) (by omega) (by omega) ?_
    refine kw_iinc dX11_keep_60 rfl ?_
    refine kw_goto 42 dX11_keep_63 (by decide) ?_
    exact kw_forget (ls' := [some (kA 558), some (kI (x1 + 1))]) ⟨Or.inr rfl, ⟨Or.inr rfl, trivial⟩⟩ H
set_option maxRecDepth 4000 in
theorem v_X11_undo {G : KG} {S0 : KSh} (hL : kLay S0) {d : Nat} {P : Option AV → KMem → Prop} {c : KMem}  (hp : 0 ≤ c 558 15 ∧ c 558 15 ≤ 1) (H : ((c 558 15) ≠ 0 → (kW2 G S0 kM_X11_undo d 19 [some (kA 558), some (kI 0)] [] (kup c 558 12 (c 558 13)) P)) ∧ ((c 558 15) = 0 → (P (some (kI 0)) c))) : kC2 G S0 kM_X11_undo d [kA 558] c P := by
  refine k2_met (by decide) rfl (Nat.le_of_ble_eq_true rfl) (l0 := [some (kA 558), none]) rfl ?_
  refine kw_aload_n dX11_undo_0 rfl ?_
  refine k2_getI fd_X11_15 dX11_undo_1 wf_X11_490 (lsh_558 hL) ?_
  refine kw_eI (b := (c 558 15)) rfl ?_
  refine kw_if_ne 9 dX11_undo_4 (by decide) (k32i (by omega)) (fun h1 => ?_) (fun h1 => ?_)
  · have H := H.1 h1
    refine kw_aload_n dX11_undo_9 rfl ?_
    refine kw_aload_n dX11_undo_10 rfl ?_
    refine k2_getI fd_X11_13 dX11_undo_11 wf_X11_493 (lsh_558 hL) ?_
    refine kw_eI (b := (c 558 13)) rfl ?_
    refine k2_putI fp_X11_12 dX11_undo_14 wf_X11_68 (lsh_558 hL) ?_
    refine kw_iconst dX11_undo_17 ?_
    refine kw_istore_n dX11_undo_18 (Nat.le_of_ble_eq_true rfl) ?_
    exact kw_forget (ls' := [some (kA 558), some (kI 0)]) ⟨Or.inr rfl, ⟨Or.inr rfl, trivial⟩⟩ H
  · have H := H.2 h1
    refine kw_iconst dX11_undo_7 ?_
    refine k2_zret dX11_undo_8 rfl (Or.inl rfl) H
set_option maxRecDepth 4000 in
theorem v_X11_undo_19 {G : KG} {S0 : KSh} (hL : kLay S0) {d : Nat} {P : Option AV → KMem → Prop} {c : KMem} {x1 : Int} (r1 : 0 ≤ x1 ∧ x1 < 2147483648) (H : (192 ≤ x1 → (kW2 G S0 kM_X11_undo d 46 [some (kA 558), some (kI 0)] [] c P)) ∧ (x1 < 192 → (kW2 G S0 kM_X11_undo d 19 [some (kA 558), some (kI (x1 + 1))] [] (kup c 559 x1 (c 561 x1)) P))) : kW2 G S0 kM_X11_undo d 19 [some (kA 558), some (kI x1)] [] c P := by
  refine kw_iload_n dX11_undo_19 rfl ?_
  refine kw_sipush dX11_undo_20 (by decide) ?_
  refine kw_icmp_ge 44 dX11_undo_23 (by decide) (k32i (by omega)) (k32i (by omega)) (fun h2 => ?_) (fun h2 => ?_)
  · have H := H.1 h2
    refine kw_iconst dX11_undo_44 ?_
    refine kw_istore_n dX11_undo_45 (Nat.le_of_ble_eq_true rfl) ?_
    exact kw_forget (ls' := [some (kA 558), some (kI 0)]) ⟨Or.inr rfl, ⟨Or.inr rfl, trivial⟩⟩ H
  · have H := H.2 h2
    refine kw_aload_n dX11_undo_26 rfl ?_
    refine k2_getR fd_X11_0 dX11_undo_27 wf_X11_7 (lsh_558 hL) (lrf_558_0 hL) ?_
    refine kw_iload_n dX11_undo_30 rfl ?_
    refine kw_aload_n dX11_undo_31 rfl ?_
    refine k2_getR fd_X11_2 dX11_undo_32 wf_X11_16 (lsh_558 hL) (lrf_558_2 hL) ?_
    refine kw_iload_n dX11_undo_35 rfl ?_
    refine k2_lald dX11_undo_36 (lsh_561 hL) (by omega) (by omega) ?_
    refine k2_last dX11_undo_37 (lsh_559 hL) (by omega) (by omega) ?_
    refine kw_iinc dX11_undo_38 rfl ?_
    refine kw_goto 19 dX11_undo_41 (by decide) ?_
    exact kw_forget (ls' := [some (kA 558), some (kI (x1 + 1))]) ⟨Or.inr rfl, ⟨Or.inr rfl, trivial⟩⟩ H
set_option maxRecDepth 4000 in
theorem v_X11_undo_46 {G : KG} {S0 : KSh} (hL : kLay S0) {d : Nat} {P : Option AV → KMem → Prop} {c : KMem} {x1 : Int} (r1 : 0 ≤ x1 ∧ x1 < 2147483648) (H : (12 ≤ x1 → (P (some (kI 1)) (kup c 558 11 0))) ∧ (x1 < 12 → (((c 565 x1) = 0 ∨ (c 565 x1) = 1) ∧ (kW2 G S0 kM_X11_undo d 46 [some (kA 558), some (kI (x1 + 1))] [] (kup c 564 x1 (c 565 x1)) P)))) : kW2 G S0 kM_X11_undo d 46 [some (kA 558), some (kI x1)] [] c P := by
  refine kw_iload_n dX11_undo_46 rfl ?_
  refine kw_bipush dX11_undo_47 (by decide) ?_
  refine kw_icmp_ge 70 dX11_undo_49 (by decide) (k32i (by omega)) (k32i (by omega)) (fun h3 => ?_) (fun h3 => ?_)
  · have H := H.1 h3
    refine kw_aload_n dX11_undo_70 rfl ?_
    refine kw_iconst dX11_undo_71 ?_
    refine k2_putI fp_X11_11 dX11_undo_72 wf_X11_288 (lsh_558 hL) ?_
    refine kw_iconst dX11_undo_75 ?_
    refine k2_zret dX11_undo_76 rfl (Or.inr rfl) H
  · have H := H.2 h3
    refine kw_aload_n dX11_undo_52 rfl ?_
    refine k2_getR fd_X11_5 dX11_undo_53 wf_X11_25 (lsh_558 hL) (lrf_558_5 hL) ?_
    refine kw_iload_n dX11_undo_56 rfl ?_
    refine kw_aload_n dX11_undo_57 rfl ?_
    refine k2_getR fd_X11_6 dX11_undo_58 wf_X11_29 (lsh_558 hL) (lrf_558_6 hL) ?_
    refine kw_iload_n dX11_undo_61 rfl ?_
    refine k2_zald dX11_undo_62 (lsh_565 hL) (by omega) (by omega) ?_
    have o4 := H.1
    have H := H.2
    refine k2_zast1 o4 dX11_undo_63 (lsh_564 hL) (by omega) (by omega) ?_
    refine kw_iinc dX11_undo_64 rfl ?_
    refine kw_goto 46 dX11_undo_67 (by decide) ?_
    exact kw_forget (ls' := [some (kA 558), some (kI (x1 + 1))]) ⟨Or.inr rfl, ⟨Or.inr rfl, trivial⟩⟩ H
set_option maxRecDepth 4000 in
theorem v_X11_check {G : KG} {S0 : KSh} (hL : kLay S0) {d : Nat} {P : Option AV → KMem → Prop} {c : KMem} {x1 : Int} (r1 : -2147483648 ≤ x1 ∧ x1 < 2147483648) (hp : 0 ≤ c 558 21 ∧ c 558 21 ≤ 140) (H : ((0 ≤ x1 ∧ x1 ≤ 12) → ((x1 ≤ (c 558 21) → (kW2 G S0 kM_X11_check (d + 5) 27 [some (kA 558), none, some (kI (-1)), some (kI (x1 - 1))] [] c P)) ∧ ((c 558 21) < x1 → (P (some (kI (-2))) c)))) ∧ (¬ (0 ≤ x1 ∧ x1 ≤ 12) → (P (some (kI (-2))) c))) : kC2 G S0 kM_X11_check (d + 5) [kA 558, kI x1] c P := by
  refine k2_met (by decide) rfl (Nat.le_of_ble_eq_true rfl) (l0 := [some (kA 558), some (kI x1), none, none]) rfl ?_
  refine kw_iload_n dX11_check_0 rfl ?_
  refine kw_iconst dX11_check_1 ?_
  refine kw_bipush dX11_check_2 (by decide) ?_
  refine k2_callS3I m_X11_in dX11_check_4 wl_X11_100 (Nat.le_of_ble_eq_true rfl) (s_X11_in hL (k32i (by omega)) (k32i (by omega)) (k32i (by omega)) (fun h1 => ⟨_, rfl, ?_⟩) (fun h1 => ⟨_, rfl, ?_⟩))
  · have H := H.1 h1
    refine kw_if_eq 18 dX11_check_7 (by decide) (k32i (by omega)) (fun h2 => absurd h2 (by decide)) (fun _ => ?_)
    refine kw_iload_n dX11_check_10 rfl ?_
    refine kw_aload_n dX11_check_11 rfl ?_
    refine k2_getI fd_X11_21 dX11_check_12 wf_X11_177 (lsh_558 hL) ?_
    refine kw_eI (b := (c 558 21)) rfl ?_
    refine kw_icmp_le 21 dX11_check_15 (by decide) (k32i (by omega)) (k32i (by omega)) (fun h3 => ?_) (fun h3 => ?_)
    · have H := H.1 h3
      refine kw_iconst dX11_check_21 ?_
      refine kw_istore_n dX11_check_22 (Nat.le_of_ble_eq_true rfl) ?_
      refine kw_iload_n dX11_check_23 rfl ?_
      refine kw_iconst dX11_check_24 ?_
      refine kw_isub dX11_check_25 ?_
      refine kw_istore_n dX11_check_26 (Nat.le_of_ble_eq_true rfl) ?_
      exact kw_forget (ls' := [some (kA 558), none, some (kI (-1)), some (kI (x1 - 1))]) ⟨Or.inr rfl, ⟨Or.inl rfl, ⟨Or.inr rfl, ⟨Or.inr rfl, trivial⟩⟩⟩⟩ H
    · have H := H.2 h3
      refine kw_bipush dX11_check_18 (by decide) ?_
      refine k2_iret dX11_check_20 rfl H
  · have H := H.2 h1
    refine kw_if_eq 18 dX11_check_7 (by decide) (k32i (by omega)) (fun _ => ?_) (fun h4 => absurd h4 (by decide))
    refine kw_bipush dX11_check_18 (by decide) ?_
    refine k2_iret dX11_check_20 rfl H
set_option maxRecDepth 4000 in
theorem v_X11_check_27 {G : KG} {S0 : KSh} (hL : kLay S0) {d : Nat} {P : Option AV → KMem → Prop} {c : KMem} {x2 x3 : Int} (r2 : -2147483648 ≤ x2 ∧ x2 < 2147483648) (r3 : -2147483648 ≤ x3 ∧ x3 < 2147483648) (hp : x3 < 12) (H : (x3 < 0 → (P (some (kI x2)) (kup c 558 21 0))) ∧ (0 ≤ x3 → ((k32 (c 564 x3)) ∧ (((c 564 x3) = 0 → (((kand (c 570 x3) 255) = 255 → (kW2 G S0 kM_X11_check (d + 5) 27 [some (kA 558), none, some (kI x2), some (kI (x3 + -1))] [] c P)) ∧ ((kand (c 570 x3) 255) ≠ 255 → (kW2 G S0 kM_X11_check (d + 5) 27 [some (kA 558), none, some (kI x3), some (kI (x3 + -1))] [] c P)))) ∧ ((c 564 x3) ≠ 0 → (kC2 G S0 kM_X11_kindOf (d + 4) [kA 558, kI x3] c (kRI (fun z9 c10 => (k32 z9) ∧ (((kand (c 570 x3) 255) = z9 → (kW2 G S0 kM_X11_check (d + 5) 27 [some (kA 558), none, some (kI x2), some (kI (x3 + -1))] [] c10 P)) ∧ ((kand (c 570 x3) 255) ≠ z9 → (kW2 G S0 kM_X11_check (d + 5) 27 [some (kA 558), none, some (kI x3), some (kI (x3 + -1))] [] c10 P))))))))))) : kW2 G S0 kM_X11_check (d + 5) 27 [some (kA 558), none, some (kI x2), some (kI x3)] [] c P := by
  refine kw_iload_n dX11_check_27 rfl ?_
  refine kw_if_lt 72 dX11_check_28 (by decide) (k32i (by omega)) (fun h5 => ?_) (fun h5 => ?_)
  · have H := H.1 h5
    refine kw_aload_n dX11_check_72 rfl ?_
    refine kw_iconst dX11_check_73 ?_
    refine k2_putI fp_X11_21 dX11_check_74 wf_X11_177 (lsh_558 hL) ?_
    refine kw_iload_n dX11_check_77 rfl ?_
    refine k2_iret dX11_check_78 rfl H
  · have H := H.2 h5
    refine kw_aload_n dX11_check_31 rfl ?_
    refine k2_getR fd_X11_16 dX11_check_32 wf_X11_45 (lsh_558 hL) (lrf_558_16 hL) ?_
    refine kw_iload_n dX11_check_35 rfl ?_
    refine k2_bald dX11_check_36 (lsh_570 hL) (by omega) (by omega) ?_
    refine kw_sipush dX11_check_37 (by decide) ?_
    refine kw_iand dX11_check_40 ?_
    refine kw_aload_n dX11_check_41 rfl ?_
    refine k2_getR fd_X11_5 dX11_check_42 wf_X11_25 (lsh_558 hL) (lrf_558_5 hL) ?_
    refine kw_iload_n dX11_check_45 rfl ?_
    refine k2_zald dX11_check_46 (lsh_564 hL) (by omega) (by omega) ?_
    have o7 := H.1
    have H := H.2
    refine kw_if_eq 58 dX11_check_47 (by decide) o7 (fun h6 => ?_) (fun h6 => ?_)
    · have H := H.1 h6
      refine kw_sipush dX11_check_58 (by decide) ?_
      refine kw_icmp_eq 66 dX11_check_61 (by decide) (k32_kand _ _) (k32i (by omega)) (fun h8 => ?_) (fun h8 => ?_)
      · have H := H.1 h8
        refine kw_iinc dX11_check_66 rfl ?_
        refine kw_goto 27 dX11_check_69 (by decide) ?_
        exact kw_forget (ls' := [some (kA 558), none, some (kI x2), some (kI (x3 + -1))]) ⟨Or.inr rfl, ⟨Or.inr rfl, ⟨Or.inr rfl, ⟨Or.inr rfl, trivial⟩⟩⟩⟩ H
      · have H := H.2 h8
        refine kw_iload_n dX11_check_64 rfl ?_
        refine kw_istore_n dX11_check_65 (Nat.le_of_ble_eq_true rfl) ?_
        refine kw_iinc dX11_check_66 rfl ?_
        refine kw_goto 27 dX11_check_69 (by decide) ?_
        exact kw_forget (ls' := [some (kA 558), none, some (kI x3), some (kI (x3 + -1))]) ⟨Or.inr rfl, ⟨Or.inr rfl, ⟨Or.inr rfl, ⟨Or.inr rfl, trivial⟩⟩⟩⟩ H
    · have H := H.2 h6
      refine kw_aload_n dX11_check_50 rfl ?_
      refine kw_iload_n dX11_check_51 rfl ?_
      refine k2_callV1I (ci := 9) (N := 38) (T := TX11) rfl (lsh_558 hL) m_X11_kindOf dX11_check_52 wl_X11_140 (Nat.le_of_ble_eq_true rfl) (kC2_mono H (fun r c10 H => ?_))
      obtain ⟨z9, rfl, H⟩ := H
      refine ⟨z9, rfl, ?_⟩
      refine kw_goto 61 dX11_check_55 (by decide) ?_
      have o12 := H.1
      have H := H.2
      refine kw_icmp_eq 66 dX11_check_61 (by decide) (k32_kand _ _) o12 (fun h11 => ?_) (fun h11 => ?_)
      · have H := H.1 h11
        refine kw_iinc dX11_check_66 rfl ?_
        refine kw_goto 27 dX11_check_69 (by decide) ?_
        exact kw_forget (ls' := [some (kA 558), none, some (kI x2), some (kI (x3 + -1))]) ⟨Or.inr rfl, ⟨Or.inr rfl, ⟨Or.inr rfl, ⟨Or.inr rfl, trivial⟩⟩⟩⟩ H
      · have H := H.2 h11
        refine kw_iload_n dX11_check_64 rfl ?_
        refine kw_istore_n dX11_check_65 (Nat.le_of_ble_eq_true rfl) ?_
        refine kw_iinc dX11_check_66 rfl ?_
        refine kw_goto 27 dX11_check_69 (by decide) ?_
        exact kw_forget (ls' := [some (kA 558), none, some (kI x3), some (kI (x3 + -1))]) ⟨Or.inr rfl, ⟨Or.inr rfl, ⟨Or.inr rfl, ⟨Or.inr rfl, trivial⟩⟩⟩⟩ H
set_option maxRecDepth 4000 in
theorem v_X11_count {G : KG} {S0 : KSh} (hL : kLay S0) {d : Nat} {P : Option AV → KMem → Prop} {c : KMem} {x1 : Int} (r1 : -2147483648 ≤ x1 ∧ x1 < 2147483648) (H : (x1 ≠ 0 → ((x1 ≠ 1 → ((x1 ≠ 2 → ((x1 ≠ 3 → (P (some (kI (-1))) c)) ∧ (x1 = 3 → (P (some (kI (c 558 12))) c)))) ∧ (x1 = 2 → (P (some (kI (c 558 21))) c)))) ∧ (x1 = 1 → (P (some (kI (c 558 11))) c)))) ∧ (x1 = 0 → (kC2 G S0 kM_X11_standing d [kA 558] c (kRI (fun z5 c6 => P (some (kI z5)) c6))))) : kC2 G S0 kM_X11_count (d + 1) [kA 558, kI x1] c P := by
  refine k2_met (by decide) rfl (Nat.le_of_ble_eq_true rfl) (l0 := [some (kA 558), some (kI x1)]) rfl ?_
  refine kw_iload_n dX11_count_0 rfl ?_
  refine kw_if_ne 11 dX11_count_1 (by decide) (k32i (by omega)) (fun h1 => ?_) (fun h1 => ?_)
  · have H := H.1 h1
    refine kw_iload_n dX11_count_11 rfl ?_
    refine kw_iconst dX11_count_12 ?_
    refine kw_icmp_ne 23 dX11_count_13 (by decide) (k32i (by omega)) (k32i (by omega)) (fun h2 => ?_) (fun h2 => ?_)
    · have H := H.1 h2
      refine kw_iload_n dX11_count_23 rfl ?_
      refine kw_iconst dX11_count_24 ?_
      refine kw_icmp_ne 35 dX11_count_25 (by decide) (k32i (by omega)) (k32i (by omega)) (fun h3 => ?_) (fun h3 => ?_)
      · have H := H.1 h3
        refine kw_iload_n dX11_count_35 rfl ?_
        refine kw_iconst dX11_count_36 ?_
        refine kw_icmp_ne 47 dX11_count_37 (by decide) (k32i (by omega)) (k32i (by omega)) (fun h4 => ?_) (fun h4 => ?_)
        · have H := H.1 h4
          refine kw_iconst dX11_count_47 ?_
          refine k2_iret dX11_count_48 rfl H
        · have H := H.2 h4
          refine kw_aload_n dX11_count_40 rfl ?_
          refine k2_getI fd_X11_12 dX11_count_41 wf_X11_68 (lsh_558 hL) ?_
          refine kw_goto 48 dX11_count_44 (by decide) ?_
          refine k2_iret dX11_count_48 rfl H
      · have H := H.2 h3
        refine kw_aload_n dX11_count_28 rfl ?_
        refine k2_getI fd_X11_21 dX11_count_29 wf_X11_177 (lsh_558 hL) ?_
        refine kw_goto 48 dX11_count_32 (by decide) ?_
        refine k2_iret dX11_count_48 rfl H
    · have H := H.2 h2
      refine kw_aload_n dX11_count_16 rfl ?_
      refine k2_getI fd_X11_11 dX11_count_17 wf_X11_288 (lsh_558 hL) ?_
      refine kw_goto 48 dX11_count_20 (by decide) ?_
      refine k2_iret dX11_count_48 rfl H
  · have H := H.2 h1
    refine kw_aload_n dX11_count_4 rfl ?_
    refine k2_callV0I (ci := 9) (N := 38) (T := TX11) rfl (lsh_558 hL) m_X11_standing dX11_count_5 wl_X11_480 (Nat.le_of_ble_eq_true rfl) (kC2_mono H (fun r c6 H => ?_))
    obtain ⟨z5, rfl, H⟩ := H
    refine ⟨z5, rfl, ?_⟩
    refine kw_goto 48 dX11_count_8 (by decide) ?_
    refine k2_iret dX11_count_48 rfl H
set_option maxRecDepth 4000 in
theorem v_X11_book {G : KG} {S0 : KSh} (hL : kLay S0) {d : Nat} {P : Option AV → KMem → Prop} {c : KMem} {x1 : Int} (r1 : -2147483648 ≤ x1 ∧ x1 < 2147483648) (hp : 0 ≤ c 558 21 ∧ c 558 21 ≤ 140) (H : ((0 ≤ x1 ∧ x1 ≤ 120) → ((x1 ≤ (c 558 21) → (kW2 G S0 kM_X11_book (d + 1) 22 [some (kA 558), some (kI x1), some (kI 0)] [] c P)) ∧ ((c 558 21) < x1 → (P (some (kI (-1))) c)))) ∧ (¬ (0 ≤ x1 ∧ x1 ≤ 120) → (P (some (kI (-1))) c))) : kC2 G S0 kM_X11_book (d + 1) [kA 558, kI x1] c P := by
  refine k2_met (by decide) rfl (Nat.le_of_ble_eq_true rfl) (l0 := [some (kA 558), some (kI x1), none]) rfl ?_
  refine kw_iload_n dX11_book_0 rfl ?_
  refine kw_iconst dX11_book_1 ?_
  refine kw_bipush dX11_book_2 (by decide) ?_
  refine k2_callS3I m_X11_in dX11_book_4 wl_X11_100 (Nat.le_of_ble_eq_true rfl) (s_X11_in hL (k32i (by omega)) (k32i (by omega)) (k32i (by omega)) (fun h1 => ⟨_, rfl, ?_⟩) (fun h1 => ⟨_, rfl, ?_⟩))
  · have H := H.1 h1
    refine kw_if_eq 18 dX11_book_7 (by decide) (k32i (by omega)) (fun h2 => absurd h2 (by decide)) (fun _ => ?_)
    refine kw_iload_n dX11_book_10 rfl ?_
    refine kw_aload_n dX11_book_11 rfl ?_
    refine k2_getI fd_X11_21 dX11_book_12 wf_X11_177 (lsh_558 hL) ?_
    refine kw_eI (b := (c 558 21)) rfl ?_
    refine kw_icmp_le 20 dX11_book_15 (by decide) (k32i (by omega)) (k32i (by omega)) (fun h3 => ?_) (fun h3 => ?_)
    · have H := H.1 h3
      refine kw_iconst dX11_book_20 ?_
      refine kw_istore_n dX11_book_21 (Nat.le_of_ble_eq_true rfl) ?_
      exact kw_forget (ls' := [some (kA 558), some (kI x1), some (kI 0)]) ⟨Or.inr rfl, ⟨Or.inr rfl, ⟨Or.inr rfl, trivial⟩⟩⟩ H
    · have H := H.2 h3
      refine kw_iconst dX11_book_18 ?_
      refine k2_iret dX11_book_19 rfl H
  · have H := H.2 h1
    refine kw_if_eq 18 dX11_book_7 (by decide) (k32i (by omega)) (fun _ => ?_) (fun h4 => absurd h4 (by decide))
    refine kw_iconst dX11_book_18 ?_
    refine k2_iret dX11_book_19 rfl H
set_option maxRecDepth 4000 in
theorem v_X11_book_22 {G : KG} {S0 : KSh} (hL : kLay S0) {d : Nat} {P : Option AV → KMem → Prop} {c : KMem} {x1 x2 : Int} (r1 : -2147483648 ≤ x1 ∧ x1 < 2147483648) (r2 : 0 ≤ x2 ∧ x2 < 2147483648) (hp : 0 ≤ x1 ∧ x1 ≤ 120) (H : (x1 ≤ x2 → (P (some (kI x1)) (kup (kup c 558 22 x1) 558 21 0))) ∧ (x2 < x1 → (kW2 G S0 kM_X11_book (d + 1) 22 [some (kA 558), some (kI x1), some (kI (x2 + 1))] [] (kup c 571 x2 (ki2b (c 570 x2))) P))) : kW2 G S0 kM_X11_book (d + 1) 22 [some (kA 558), some (kI x1), some (kI x2)] [] c P := by
  refine kw_iload_n dX11_book_22 rfl ?_
  refine kw_iload_n dX11_book_23 rfl ?_
  refine kw_icmp_ge 45 dX11_book_24 (by decide) (k32i (by omega)) (k32i (by omega)) (fun h5 => ?_) (fun h5 => ?_)
  · have H := H.1 h5
    refine kw_aload_n dX11_book_45 rfl ?_
    refine kw_iload_n dX11_book_46 rfl ?_
    refine k2_putI fp_X11_22 dX11_book_47 wf_X11_304 (lsh_558 hL) ?_
    refine kw_aload_n dX11_book_50 rfl ?_
    refine kw_iconst dX11_book_51 ?_
    refine k2_putI fp_X11_21 dX11_book_52 wf_X11_177 (lsh_558 hL) ?_
    refine kw_iload_n dX11_book_55 rfl ?_
    refine k2_iret dX11_book_56 rfl H
  · have H := H.2 h5
    refine kw_aload_n dX11_book_27 rfl ?_
    refine k2_getR fd_X11_17 dX11_book_28 wf_X11_49 (lsh_558 hL) (lrf_558_17 hL) ?_
    refine kw_iload_n dX11_book_31 rfl ?_
    refine kw_aload_n dX11_book_32 rfl ?_
    refine k2_getR fd_X11_16 dX11_book_33 wf_X11_45 (lsh_558 hL) (lrf_558_16 hL) ?_
    refine kw_iload_n dX11_book_36 rfl ?_
    refine k2_bald dX11_book_37 (lsh_570 hL) (by omega) (by omega) ?_
    refine k2_bast dX11_book_38 (lsh_571 hL) (by omega) (by omega) ?_
    refine kw_iinc dX11_book_39 rfl ?_
    refine kw_goto 22 dX11_book_42 (by decide) ?_
    exact kw_forget (ls' := [some (kA 558), some (kI x1), some (kI (x2 + 1))]) ⟨Or.inr rfl, ⟨Or.inr rfl, ⟨Or.inr rfl, trivial⟩⟩⟩ H
