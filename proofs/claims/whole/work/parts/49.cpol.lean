set_option maxRecDepth 4000 in
theorem v_X6_clear {G : KG} {S0 : KSh} (hL : kLay S0) {d : Nat} {P : Option AV → KMem → Prop} {c : KMem}  (H : P none (kup c 222 1 0)) : kC2 G S0 kM_X6_clear d [kA 222] c P := by
  refine k2_met (by decide) rfl (Nat.le_of_ble_eq_true rfl) (l0 := [some (kA 222)]) rfl ?_
  refine kw_aload_n dX6_clear_0 rfl ?_
  refine kw_iconst dX6_clear_1 ?_
  refine k2_putI fp_X6_1 dX6_clear_2 wf_X6_16 (lsh_222 hL) ?_
  refine k2_ret dX6_clear_5 rfl H
set_option maxRecDepth 4000 in
theorem v_X6_size {G : KG} {S0 : KSh} (hL : kLay S0) {d : Nat} {P : Option AV → KMem → Prop} {c : KMem}  (H : P (some (kI (c 222 1))) c) : kC2 G S0 kM_X6_size d [kA 222] c P := by
  refine k2_met (by decide) rfl (Nat.le_of_ble_eq_true rfl) (l0 := [some (kA 222)]) rfl ?_
  refine kw_aload_n dX6_size_0 rfl ?_
  refine k2_getI fd_X6_1 dX6_size_1 wf_X6_16 (lsh_222 hL) ?_
  refine k2_iret dX6_size_4 rfl H
set_option maxRecDepth 4000 in
theorem v_X6_at {G : KG} {S0 : KSh} (hL : kLay S0) {d : Nat} {P : Option AV → KMem → Prop} {c : KMem} {x1 : Int} (r1 : -2147483648 ≤ x1 ∧ x1 < 2147483648) (hp : 0 ≤ x1 ∧ x1 < 300) (H : P (some (kA (223 + 1 + x1))) c) : kC2 G S0 kM_X6_at d [kA 222, kI x1] c P := by
  refine k2_met (by decide) rfl (Nat.le_of_ble_eq_true rfl) (l0 := [some (kA 222), some (kI x1)]) rfl ?_
  refine kw_aload_n dX6_at_0 rfl ?_
  refine k2_getR fd_X6_0 dX6_at_1 wf_X6_11 (lsh_222 hL) (lrf_222_0 hL) ?_
  refine kw_iload_n dX6_at_4 rfl ?_
  have q1 : 0 ≤ x1 ∧ x1 < 300 := (by omega)
  refine k2_aald5 dX6_at_5 (lsh_223 hL) (by omega) q1 (lrw_223 hL q1).1 (by omega) ?_
  refine k2_aret dX6_at_6 (by first | exact Or.inl ⟨_, rfl⟩ | exact Or.inr ⟨_, rfl⟩) (by omega) H
set_option maxRecDepth 4000 in
theorem v_X6_addIfNew {G : KG} {S0 : KSh} (hL : kLay S0) {d : Nat} {P : Option AV → KMem → Prop} {c : KMem} {x1 : Int} (hx1 : S0.2.1 x1 = (2, 16)) (H : kW2 G S0 kM_X6_addIfNew (d + 2) 2 [some (kA 222), some (kA x1), some (kI 0)] [] c P) : kC2 G S0 kM_X6_addIfNew (d + 2) [kA 222, kA x1] c P := by
  refine k2_met (by decide) rfl (Nat.le_of_ble_eq_true rfl) (l0 := [some (kA 222), some (kA x1), none]) rfl ?_
  refine kw_iconst dX6_addIfNew_0 ?_
  refine kw_istore_n dX6_addIfNew_1 (Nat.le_of_ble_eq_true rfl) ?_
  exact kw_forget (ls' := [some (kA 222), some (kA x1), some (kI 0)]) ⟨Or.inr rfl, ⟨Or.inr rfl, ⟨Or.inr rfl, trivial⟩⟩⟩ H
set_option maxRecDepth 4000 in
theorem v_X6_addIfNew_2 {G : KG} {S0 : KSh} (hL : kLay S0) {d : Nat} {P : Option AV → KMem → Prop} {c : KMem} {x1 x2 : Int} (hx1 : S0.2.1 x1 = (2, 16)) (r2 : 0 ≤ x2 ∧ x2 < 2147483648) (hp : 0 ≤ c 222 1 ∧ c 222 1 ≤ 300) (H : ((c 222 1) ≤ x2 → (((c 222 1) < 300 → (kC2 G S0 kM_X0_copy (d + 1) [kA x1, kA (223 + 1 + (c 222 1))] c (kRN (fun c5 => P none (kup c5 222 1 ((c5 222 1) + 1)))))) ∧ (300 ≤ (c 222 1) → (P none c)))) ∧ (x2 < (c 222 1) → (kC2 G S0 kM_X0_isSame (d + 1) [kA (223 + 1 + x2), kA x1] c (kRI (fun z7 c8 => (k32 z7) ∧ ((z7 = 0 → (kW2 G S0 kM_X6_addIfNew (d + 2) 2 [some (kA 222), some (kA x1), some (kI (x2 + 1))] [] c8 P)) ∧ (z7 ≠ 0 → (P none c8)))))))) : kW2 G S0 kM_X6_addIfNew (d + 2) 2 [some (kA 222), some (kA x1), some (kI x2)] [] c P := by
  refine kw_iload_n dX6_addIfNew_2 rfl ?_
  refine kw_aload_n dX6_addIfNew_3 rfl ?_
  refine k2_getI fd_X6_1 dX6_addIfNew_4 wf_X6_16 (lsh_222 hL) ?_
  refine kw_eI (b := (c 222 1)) rfl ?_
  refine kw_icmp_ge 30 dX6_addIfNew_7 (by decide) (k32i (by omega)) (k32i (by omega)) (fun h1 => ?_) (fun h1 => ?_)
  · have H := H.1 h1
    refine kw_aload_n dX6_addIfNew_30 rfl ?_
    refine k2_getI fd_X6_1 dX6_addIfNew_31 wf_X6_16 (lsh_222 hL) ?_
    refine kw_eI (b := (c 222 1)) rfl ?_
    refine kw_sipush dX6_addIfNew_34 (by decide) ?_
    refine kw_icmp_lt 41 dX6_addIfNew_37 (by decide) (k32i (by omega)) (k32i (by omega)) (fun h2 => ?_) (fun h2 => ?_)
    · have H := H.1 h2
      refine kw_aload_n dX6_addIfNew_41 rfl ?_
      refine kw_aload_n dX6_addIfNew_42 rfl ?_
      refine k2_getR fd_X6_0 dX6_addIfNew_43 wf_X6_11 (lsh_222 hL) (lrf_222_0 hL) ?_
      refine kw_aload_n dX6_addIfNew_46 rfl ?_
      refine k2_getI fd_X6_1 dX6_addIfNew_47 wf_X6_16 (lsh_222 hL) ?_
      refine kw_eI (b := (c 222 1)) rfl ?_
      have q3 : 0 ≤ (c 222 1) ∧ (c 222 1) < 300 := (by omega)
      refine k2_aald5 dX6_addIfNew_50 (lsh_223 hL) (by omega) q3 (lrw_223 hL q3).1 (by omega) ?_
      refine k2_callS2N m_X0_copy dX6_addIfNew_51 wl_X6_26 (Nat.le_of_ble_eq_true rfl) (kC2_mono H (fun r c5 H => ?_))
      obtain ⟨rfl, H⟩ := H
      refine ⟨rfl, ?_⟩
      refine kw_aload_n dX6_addIfNew_54 rfl ?_
      refine kw_dup dX6_addIfNew_55 rfl ?_
      refine k2_getI fd_X6_1 dX6_addIfNew_56 wf_X6_16 (lsh_222 hL) ?_
      refine kw_eI (b := (c5 222 1)) rfl ?_
      refine kw_iconst dX6_addIfNew_59 ?_
      refine kw_iadd dX6_addIfNew_60 ?_
      refine k2_putI fp_X6_1 dX6_addIfNew_61 wf_X6_16 (lsh_222 hL) ?_
      refine k2_ret dX6_addIfNew_64 rfl H
    · have H := H.2 h2
      refine k2_ret dX6_addIfNew_40 rfl H
  · have H := H.2 h1
    refine kw_aload_n dX6_addIfNew_10 rfl ?_
    refine k2_getR fd_X6_0 dX6_addIfNew_11 wf_X6_11 (lsh_222 hL) (lrf_222_0 hL) ?_
    refine kw_iload_n dX6_addIfNew_14 rfl ?_
    have q6 : 0 ≤ x2 ∧ x2 < 300 := (by omega)
    refine k2_aald5 dX6_addIfNew_15 (lsh_223 hL) (by omega) q6 (lrw_223 hL q6).1 (by omega) ?_
    refine kw_aload_n dX6_addIfNew_16 rfl ?_
    refine k2_callS2I m_X0_isSame dX6_addIfNew_17 wl_X6_20 (Nat.le_of_ble_eq_true rfl) (kC2_mono H (fun r c8 H => ?_))
    obtain ⟨z7, rfl, H⟩ := H
    refine ⟨z7, rfl, ?_⟩
    have o10 := H.1
    have H := H.2
    refine kw_if_eq 24 dX6_addIfNew_20 (by decide) o10 (fun h9 => ?_) (fun h9 => ?_)
    · have H := H.1 h9
      refine kw_iinc dX6_addIfNew_24 rfl ?_
      refine kw_goto 2 dX6_addIfNew_27 (by decide) ?_
      exact kw_forget (ls' := [some (kA 222), some (kA x1), some (kI (x2 + 1))]) ⟨Or.inr rfl, ⟨Or.inr rfl, ⟨Or.inr rfl, trivial⟩⟩⟩ H
    · have H := H.2 h9
      refine k2_ret dX6_addIfNew_23 rfl H
set_option maxRecDepth 4000 in
theorem v_X3_tellNone {G : KG} {S0 : KSh} (hL : kLay S0) {d : Nat} {P : Option AV → KMem → Prop} {c : KMem}  (H : P none (kup c 214 1 0)) : kC2 G S0 kM_X3_tellNone d [kA 214] c P := by
  refine k2_met (by decide) rfl (Nat.le_of_ble_eq_true rfl) (l0 := [some (kA 214)]) rfl ?_
  refine kw_aload_n dX3_tellNone_0 rfl ?_
  refine kw_iconst dX3_tellNone_1 ?_
  refine k2_putI fp_X3_1 dX3_tellNone_2 wf_X3_16 (lsh_214 hL) ?_
  refine k2_ret dX3_tellNone_5 rfl H
set_option maxRecDepth 4000 in
theorem v_X3_tell {G : KG} {S0 : KSh} (hL : kLay S0) {d : Nat} {P : Option AV → KMem → Prop} {c : KMem} {x1 : Int} (hx1 : S0.2.1 x1 = (2, 16)) (hp : 0 ≤ c 214 1 ∧ c 214 1 ≤ 6) (H : ((c 214 1) < 6 → (kC2 G S0 kM_X0_copy (d + 1) [kA x1, kA (215 + 1 + (c 214 1))] c (kRN (fun c4 => P none (kup c4 214 1 ((c4 214 1) + 1)))))) ∧ (6 ≤ (c 214 1) → (P none c))) : kC2 G S0 kM_X3_tell (d + 2) [kA 214, kA x1] c P := by
  refine k2_met (by decide) rfl (Nat.le_of_ble_eq_true rfl) (l0 := [some (kA 214), some (kA x1)]) rfl ?_
  refine kw_aload_n dX3_tell_0 rfl ?_
  refine k2_getI fd_X3_1 dX3_tell_1 wf_X3_16 (lsh_214 hL) ?_
  refine kw_eI (b := (c 214 1)) rfl ?_
  refine kw_bipush dX3_tell_4 (by decide) ?_
  refine kw_icmp_lt 10 dX3_tell_6 (by decide) (k32i (by omega)) (k32i (by omega)) (fun h1 => ?_) (fun h1 => ?_)
  · have H := H.1 h1
    refine kw_aload_n dX3_tell_10 rfl ?_
    refine kw_aload_n dX3_tell_11 rfl ?_
    refine k2_getR fd_X3_0 dX3_tell_12 wf_X3_11 (lsh_214 hL) (lrf_214_0 hL) ?_
    refine kw_aload_n dX3_tell_15 rfl ?_
    refine k2_getI fd_X3_1 dX3_tell_16 wf_X3_16 (lsh_214 hL) ?_
    refine kw_eI (b := (c 214 1)) rfl ?_
    have q2 : 0 ≤ (c 214 1) ∧ (c 214 1) < 6 := (by omega)
    refine k2_aald5 dX3_tell_19 (lsh_215 hL) (by omega) q2 (lrw_215 hL q2).1 (by omega) ?_
    refine k2_callS2N m_X0_copy dX3_tell_20 wl_X3_40 (Nat.le_of_ble_eq_true rfl) (kC2_mono H (fun r c4 H => ?_))
    obtain ⟨rfl, H⟩ := H
    refine ⟨rfl, ?_⟩
    refine kw_aload_n dX3_tell_23 rfl ?_
    refine kw_dup dX3_tell_24 rfl ?_
    refine k2_getI fd_X3_1 dX3_tell_25 wf_X3_16 (lsh_214 hL) ?_
    refine kw_eI (b := (c4 214 1)) rfl ?_
    refine kw_iconst dX3_tell_28 ?_
    refine kw_iadd dX3_tell_29 ?_
    refine k2_putI fp_X3_1 dX3_tell_30 wf_X3_16 (lsh_214 hL) ?_
    refine k2_ret dX3_tell_33 rfl H
  · have H := H.2 h1
    refine k2_ret dX3_tell_9 rfl H
section CPO
variable {G : KG} {S0 : KSh} {d : Nat} {P : Option AV → KMem → Prop} {c : KMem} {x0 x1 x2 x3 x4 : Int}
theorem s_X6_size (hL : kLay S0) (h : P (some (kI (c 222 1))) c) : kC2 G S0 kM_X6_size d [kA 222] c P := v_X6_size hL h
theorem s_X6_at (hL : kLay S0) (r1 : 0 ≤ x1 ∧ x1 < 300) (h : P (some (kA (223 + 1 + x1))) c) : kC2 G S0 kM_X6_at d [kA 222, kI x1] c P := v_X6_at hL (by omega) r1 h
end CPO
set_option maxRecDepth 4000 in
theorem v_X3_start {G : KG} {S0 : KSh} (hL : kLay S0) {d : Nat} {P : Option AV → KMem → Prop} {c : KMem} {x1 : Int} (hx1 : S0.2.1 x1 = (2, 16)) (H : kC2 G S0 kM_X0_copy (d + 2) [kA x1, kA 526] c (kRN (fun c2 => kC2 G S0 kM_X0_normalise (d + 2) [kA 526] c2 (kRN (fun c4 => kC2 G S0 kM_X6_clear (d + 2) [kA 222] c4 (kRN (fun c6 => kC2 G S0 kM_X6_addIfNew (d + 2) [kA 222, kA 526] c6 (kRN (fun c8 => P none c8))))))))) : kC2 G S0 kM_X3_start (d + 3) [kA 214, kA x1] c P := by
  refine k2_met (by decide) rfl (Nat.le_of_ble_eq_true rfl) (l0 := [some (kA 214), some (kA x1)]) rfl ?_
  refine kw_aload_n dX3_start_0 rfl ?_
  refine kw_aload_n dX3_start_1 rfl ?_
  refine k2_getR fd_X3_5 dX3_start_2 wf_X3_34 (lsh_214 hL) (lrf_214_5 hL) ?_
  refine k2_callS2N m_X0_copy dX3_start_5 wl_X3_40 (Nat.le_of_ble_eq_true rfl) (kC2_mono H (fun r c2 H => ?_))
  obtain ⟨rfl, H⟩ := H
  refine ⟨rfl, ?_⟩
  refine kw_aload_n dX3_start_8 rfl ?_
  refine k2_getR fd_X3_5 dX3_start_9 wf_X3_34 (lsh_214 hL) (lrf_214_5 hL) ?_
  refine k2_callS1N m_X0_normalise dX3_start_12 wl_X3_71 (Nat.le_of_ble_eq_true rfl) (kC2_mono H (fun r c4 H => ?_))
  obtain ⟨rfl, H⟩ := H
  refine ⟨rfl, ?_⟩
  refine kw_aload_n dX3_start_15 rfl ?_
  refine k2_getR fd_X3_2 dX3_start_16 wf_X3_23 (lsh_214 hL) (lrf_214_2 hL) ?_
  refine k2_callV0N (ci := 5) (N := 2) (T := TX6) rfl (lsh_222 hL) m_X6_clear dX3_start_19 wl_X3_79 (Nat.le_of_ble_eq_true rfl) (kC2_mono H (fun r c6 H => ?_))
  obtain ⟨rfl, H⟩ := H
  refine ⟨rfl, ?_⟩
  refine kw_aload_n dX3_start_22 rfl ?_
  refine k2_getR fd_X3_2 dX3_start_23 wf_X3_23 (lsh_214 hL) (lrf_214_2 hL) ?_
  refine kw_aload_n dX3_start_26 rfl ?_
  refine k2_getR fd_X3_5 dX3_start_27 wf_X3_34 (lsh_214 hL) (lrf_214_5 hL) ?_
  refine k2_callV1N (ci := 5) (N := 2) (T := TX6) rfl (lsh_222 hL) m_X6_addIfNew dX3_start_30 wl_X3_82 (Nat.le_of_ble_eq_true rfl) (kC2_mono H (fun r c8 H => ?_))
  obtain ⟨rfl, H⟩ := H
  refine ⟨rfl, ?_⟩
  refine k2_ret dX3_start_33 rfl H
set_option maxRecDepth 4000 in
theorem v_X3_hasCome {G : KG} {S0 : KSh} (hL : kLay S0) {d : Nat} {P : Option AV → KMem → Prop} {c : KMem} {x1 : Int} (r1 : -2147483648 ≤ x1 ∧ x1 < 2147483648) (H : kW2 G S0 kM_X3_hasCome (d + 1) 2 [some (kA 214), none, some (kI x1)] [] c P) : kC2 G S0 kM_X3_hasCome (d + 1) [kA 214, kI x1] c P := by
  refine k2_met (by decide) rfl (Nat.le_of_ble_eq_true rfl) (l0 := [some (kA 214), some (kI x1), none]) rfl ?_
  refine kw_iload_n dX3_hasCome_0 rfl ?_
  refine kw_istore_n dX3_hasCome_1 (Nat.le_of_ble_eq_true rfl) ?_
  exact kw_forget (ls' := [some (kA 214), none, some (kI x1)]) ⟨Or.inr rfl, ⟨Or.inl rfl, ⟨Or.inr rfl, trivial⟩⟩⟩ H
set_option maxRecDepth 4000 in
theorem v_X3_hasCome_2 {G : KG} {S0 : KSh} (hL : kLay S0) {d : Nat} {P : Option AV → KMem → Prop} {c : KMem} {x2 : Int} (r2 : -2147483648 ≤ x2 ∧ x2 < 2147483648) (H : (k32 (c 222 1)) ∧ (((c 222 1) ≤ x2 → (P (some (kI 0)) c)) ∧ (x2 < (c 222 1) → ((0 ≤ x2 ∧ x2 < 300) ∧ (kC2 G S0 kM_X0_isSame d [kA (223 + 1 + x2), kA 527] c (kRI (fun z4 c5 => (k32 z4) ∧ ((z4 = 0 → (kW2 G S0 kM_X3_hasCome (d + 1) 2 [some (kA 214), none, some (kI (x2 + 1))] [] c5 P)) ∧ (z4 ≠ 0 → (P (some (kI 1)) c5)))))))))) : kW2 G S0 kM_X3_hasCome (d + 1) 2 [some (kA 214), none, some (kI x2)] [] c P := by
  refine kw_iload_n dX3_hasCome_2 rfl ?_
  refine kw_aload_n dX3_hasCome_3 rfl ?_
  refine k2_getR fd_X3_2 dX3_hasCome_4 wf_X3_23 (lsh_214 hL) (lrf_214_2 hL) ?_
  refine k2_callV0I (ci := 5) (N := 2) (T := TX6) rfl (lsh_222 hL) m_X6_size dX3_hasCome_7 wl_X3_85 (Nat.le_of_ble_eq_true rfl) (s_X6_size hL ⟨_, rfl, ?_⟩)
  have o2 := H.1
  have H := H.2
  refine kw_icmp_ge 39 dX3_hasCome_10 (by decide) (k32i (by omega)) o2 (fun h1 => ?_) (fun h1 => ?_)
  · have H := H.1 h1
    refine kw_iconst dX3_hasCome_39 ?_
    refine k2_zret dX3_hasCome_40 rfl (Or.inl rfl) H
  · have H := H.2 h1
    refine kw_aload_n dX3_hasCome_13 rfl ?_
    refine k2_getR fd_X3_2 dX3_hasCome_14 wf_X3_23 (lsh_214 hL) (lrf_214_2 hL) ?_
    refine kw_iload_n dX3_hasCome_17 rfl ?_
    have o3 := H.1
    have H := H.2
    refine k2_callV1A (ci := 5) (N := 2) (T := TX6) rfl (lsh_222 hL) m_X6_at dX3_hasCome_18 wl_X3_89 (Nat.le_of_ble_eq_true rfl) (s_X6_at hL o3 ⟨_, rfl, ?_⟩)
    refine kw_aload_n dX3_hasCome_21 rfl ?_
    refine k2_getR fd_X3_6 dX3_hasCome_22 wf_X3_37 (lsh_214 hL) (lrf_214_6 hL) ?_
    refine k2_callS2I m_X0_isSame dX3_hasCome_25 wl_X3_113 (Nat.le_of_ble_eq_true rfl) (kC2_mono H (fun r c5 H => ?_))
    obtain ⟨z4, rfl, H⟩ := H
    refine ⟨z4, rfl, ?_⟩
    have o7 := H.1
    have H := H.2
    refine kw_if_eq 33 dX3_hasCome_28 (by decide) o7 (fun h6 => ?_) (fun h6 => ?_)
    · have H := H.1 h6
      refine kw_iinc dX3_hasCome_33 rfl ?_
      refine kw_goto 2 dX3_hasCome_36 (by decide) ?_
      exact kw_forget (ls' := [some (kA 214), none, some (kI (x2 + 1))]) ⟨Or.inr rfl, ⟨Or.inr rfl, ⟨Or.inr rfl, trivial⟩⟩⟩ H
    · have H := H.2 h6
      refine kw_iconst dX3_hasCome_31 ?_
      refine k2_zret dX3_hasCome_32 rfl (Or.inr rfl) H
set_option maxRecDepth 4000 in
theorem v_X3_addTurned {G : KG} {S0 : KSh} (hL : kLay S0) {d : Nat} {P : Option AV → KMem → Prop} {c : KMem} {x1 x2 : Int} (r1 : -2147483648 ≤ x1 ∧ x1 < 2147483648) (r2 : -2147483648 ≤ x2 ∧ x2 < 2147483648) (H : kW2 G S0 kM_X3_addTurned (d + 4) 2 [some (kA 214), none, some (kI x2), some (kI x1), none] [] c P) : kC2 G S0 kM_X3_addTurned (d + 4) [kA 214, kI x1, kI x2] c P := by
  refine k2_met (by decide) rfl (Nat.le_of_ble_eq_true rfl) (l0 := [some (kA 214), some (kI x1), some (kI x2), none, none]) rfl ?_
  refine kw_iload_n dX3_addTurned_0 rfl ?_
  refine kw_istore_n dX3_addTurned_1 (Nat.le_of_ble_eq_true rfl) ?_
  exact kw_forget (ls' := [some (kA 214), none, some (kI x2), some (kI x1), none]) ⟨Or.inr rfl, ⟨Or.inl rfl, ⟨Or.inr rfl, ⟨Or.inr rfl, ⟨Or.inr rfl, trivial⟩⟩⟩⟩⟩ H
set_option maxRecDepth 4000 in
theorem v_X3_addTurned_2 {G : KG} {S0 : KSh} (hL : kLay S0) {d : Nat} {P : Option AV → KMem → Prop} {c : KMem} {x2 x3 : Int} (r2 : -2147483648 ≤ x2 ∧ x2 < 2147483648) (r3 : -2147483648 ≤ x3 ∧ x3 < 2147483648) (H : (x2 ≤ x3 → (P none c)) ∧ (x3 < x2 → (kW2 G S0 kM_X3_addTurned (d + 4) 10 [some (kA 214), none, some (kI x2), some (kI x3), some (kI 0)] [] c P))) : kW2 G S0 kM_X3_addTurned (d + 4) 2 [some (kA 214), none, some (kI x2), some (kI x3), none] [] c P := by
  refine kw_iload_n dX3_addTurned_2 rfl ?_
  refine kw_iload_n dX3_addTurned_3 rfl ?_
  refine kw_icmp_ge 68 dX3_addTurned_4 (by decide) (k32i (by omega)) (k32i (by omega)) (fun h1 => ?_) (fun h1 => ?_)
  · have H := H.1 h1
    refine k2_ret dX3_addTurned_68 rfl H
  · have H := H.2 h1
    refine kw_iconst dX3_addTurned_7 ?_
    refine kw_istore dX3_addTurned_8 (Nat.le_of_ble_eq_true rfl) ?_
    exact kw_forget (ls' := [some (kA 214), none, some (kI x2), some (kI x3), some (kI 0)]) ⟨Or.inr rfl, ⟨Or.inr rfl, ⟨Or.inr rfl, ⟨Or.inr rfl, ⟨Or.inr rfl, trivial⟩⟩⟩⟩⟩ H
set_option maxRecDepth 4000 in
theorem v_X3_addTurned_10 {G : KG} {S0 : KSh} (hL : kLay S0) {d : Nat} {P : Option AV → KMem → Prop} {c : KMem} {x2 x3 x4 : Int} (r2 : -2147483648 ≤ x2 ∧ x2 < 2147483648) (r3 : -2147483648 ≤ x3 ∧ x3 < 2147483648) (r4 : 0 ≤ x4 ∧ x4 < 2147483648) (hp : 0 ≤ c 214 1 ∧ c 214 1 ≤ 6) (H : ((c 214 1) ≤ x4 → (kW2 G S0 kM_X3_addTurned (d + 4) 2 [some (kA 214), none, some (kI x2), some (kI (x3 + 1)), none] [] c P)) ∧ (x4 < (c 214 1) → ((0 ≤ x3 ∧ x3 < 300) ∧ (kC2 G S0 kM_X3_turn (d + 3) [kA 214, kA (223 + 1 + x3), kA (215 + 1 + x4), kA 526] c (kRI (fun z5 c6 => (k32 z5) ∧ ((z5 = 0 → (kW2 G S0 kM_X3_addTurned (d + 4) 10 [some (kA 214), none, some (kI x2), some (kI x3), some (kI (x4 + 1))] [] c6 P)) ∧ (z5 ≠ 0 → (kC2 G S0 kM_X6_addIfNew (d + 3) [kA 222, kA 526] c6 (kRN (fun c10 => kW2 G S0 kM_X3_addTurned (d + 4) 10 [some (kA 214), none, some (kI x2), some (kI x3), some (kI (x4 + 1))] [] c10 P))))))))))) : kW2 G S0 kM_X3_addTurned (d + 4) 10 [some (kA 214), none, some (kI x2), some (kI x3), some (kI x4)] [] c P := by
  refine kw_iload dX3_addTurned_10 rfl ?_
  refine kw_aload_n dX3_addTurned_12 rfl ?_
  refine k2_getI fd_X3_1 dX3_addTurned_13 wf_X3_16 (lsh_214 hL) ?_
  refine kw_eI (b := (c 214 1)) rfl ?_
  refine kw_icmp_ge 62 dX3_addTurned_16 (by decide) (k32i (by omega)) (k32i (by omega)) (fun h2 => ?_) (fun h2 => ?_)
  · have H := H.1 h2
    refine kw_iinc dX3_addTurned_62 rfl ?_
    refine kw_goto 2 dX3_addTurned_65 (by decide) ?_
    exact kw_forget (ls' := [some (kA 214), none, some (kI x2), some (kI (x3 + 1)), none]) ⟨Or.inr rfl, ⟨Or.inr rfl, ⟨Or.inr rfl, ⟨Or.inr rfl, ⟨Or.inl rfl, trivial⟩⟩⟩⟩⟩ H
  · have H := H.2 h2
    refine kw_aload_n dX3_addTurned_19 rfl ?_
    refine kw_aload_n dX3_addTurned_20 rfl ?_
    refine k2_getR fd_X3_2 dX3_addTurned_21 wf_X3_23 (lsh_214 hL) (lrf_214_2 hL) ?_
    refine kw_iload_n dX3_addTurned_24 rfl ?_
    have o3 := H.1
    have H := H.2
    refine k2_callV1A (ci := 5) (N := 2) (T := TX6) rfl (lsh_222 hL) m_X6_at dX3_addTurned_25 wl_X3_89 (Nat.le_of_ble_eq_true rfl) (s_X6_at hL o3 ⟨_, rfl, ?_⟩)
    refine kw_aload_n dX3_addTurned_28 rfl ?_
    refine k2_getR fd_X3_0 dX3_addTurned_29 wf_X3_11 (lsh_214 hL) (lrf_214_0 hL) ?_
    refine kw_iload dX3_addTurned_32 rfl ?_
    have q4 : 0 ≤ x4 ∧ x4 < 6 := (by omega)
    refine k2_aald5 dX3_addTurned_34 (lsh_215 hL) (by omega) q4 (lrw_215 hL q4).1 (by omega) ?_
    refine kw_aload_n dX3_addTurned_35 rfl ?_
    refine k2_getR fd_X3_5 dX3_addTurned_36 wf_X3_34 (lsh_214 hL) (lrf_214_5 hL) ?_
    refine k2_callV3I (ci := 2) (N := 7) (T := TX3) rfl (lsh_214 hL) m_X3_turn dX3_addTurned_39 wl_X3_117 (Nat.le_of_ble_eq_true rfl) (kC2_mono H (fun r c6 H => ?_))
    obtain ⟨z5, rfl, H⟩ := H
    refine ⟨z5, rfl, ?_⟩
    have o8 := H.1
    have H := H.2
    refine kw_if_eq 56 dX3_addTurned_42 (by decide) o8 (fun h7 => ?_) (fun h7 => ?_)
    · have H := H.1 h7
      refine kw_iinc dX3_addTurned_56 rfl ?_
      refine kw_goto 10 dX3_addTurned_59 (by decide) ?_
      exact kw_forget (ls' := [some (kA 214), none, some (kI x2), some (kI x3), some (kI (x4 + 1))]) ⟨Or.inr rfl, ⟨Or.inr rfl, ⟨Or.inr rfl, ⟨Or.inr rfl, ⟨Or.inr rfl, trivial⟩⟩⟩⟩⟩ H
    · have H := H.2 h7
      refine kw_aload_n dX3_addTurned_45 rfl ?_
      refine k2_getR fd_X3_2 dX3_addTurned_46 wf_X3_23 (lsh_214 hL) (lrf_214_2 hL) ?_
      refine kw_aload_n dX3_addTurned_49 rfl ?_
      refine k2_getR fd_X3_5 dX3_addTurned_50 wf_X3_34 (lsh_214 hL) (lrf_214_5 hL) ?_
      refine k2_callV1N (ci := 5) (N := 2) (T := TX6) rfl (lsh_222 hL) m_X6_addIfNew dX3_addTurned_53 wl_X3_82 (Nat.le_of_ble_eq_true rfl) (kC2_mono H (fun r c10 H => ?_))
      obtain ⟨rfl, H⟩ := H
      refine ⟨rfl, ?_⟩
      refine kw_iinc dX3_addTurned_56 rfl ?_
      refine kw_goto 10 dX3_addTurned_59 (by decide) ?_
      exact kw_forget (ls' := [some (kA 214), none, some (kI x2), some (kI x3), some (kI (x4 + 1))]) ⟨Or.inr rfl, ⟨Or.inr rfl, ⟨Or.inr rfl, ⟨Or.inr rfl, ⟨Or.inr rfl, trivial⟩⟩⟩⟩⟩ H
set_option maxRecDepth 4000 in
theorem v_X3_addProducts {G : KG} {S0 : KSh} (hL : kLay S0) {d : Nat} {P : Option AV → KMem → Prop} {c : KMem} {x1 : Int} (hx1 : S0.2.1 x1 = (2, 16)) (H : kW2 G S0 kM_X3_addProducts (d + 3) 2 [some (kA 214), some (kA x1), some (kI 0)] [] c P) : kC2 G S0 kM_X3_addProducts (d + 3) [kA 214, kA x1] c P := by
  refine k2_met (by decide) rfl (Nat.le_of_ble_eq_true rfl) (l0 := [some (kA 214), some (kA x1), none]) rfl ?_
  refine kw_iconst dX3_addProducts_0 ?_
  refine kw_istore_n dX3_addProducts_1 (Nat.le_of_ble_eq_true rfl) ?_
  exact kw_forget (ls' := [some (kA 214), some (kA x1), some (kI 0)]) ⟨Or.inr rfl, ⟨Or.inr rfl, ⟨Or.inr rfl, trivial⟩⟩⟩ H
set_option maxRecDepth 4000 in
theorem v_X3_addProducts_2 {G : KG} {S0 : KSh} (hL : kLay S0) {d : Nat} {P : Option AV → KMem → Prop} {c : KMem} {x1 x2 : Int} (hx1 : S0.2.1 x1 = (2, 16)) (r2 : 0 ≤ x2 ∧ x2 < 2147483648) (hp : 0 ≤ c 214 1 ∧ c 214 1 ≤ 6) (H : ((c 214 1) ≤ x2 → (P none c)) ∧ (x2 < (c 214 1) → ((k32 (c 222 1)) ∧ ((200 ≤ (c 222 1) → (P none c)) ∧ ((c 222 1) < 200 → (kC2 G S0 kM_X0_multiply (d + 2) [kI 0, kA x1, kA (215 + 1 + x2), kA 526] c (kRN (fun c6 => kC2 G S0 kM_X0_isWithinBound (d + 2) [kA 526] c6 (kRI (fun z7 c8 => (k32 z7) ∧ ((z7 = 0 → (kW2 G S0 kM_X3_addProducts (d + 3) 2 [some (kA 214), some (kA x1), some (kI (x2 + 1))] [] c8 P)) ∧ (z7 ≠ 0 → (kC2 G S0 kM_X0_normalise (d + 2) [kA 526] c8 (kRN (fun c12 => kC2 G S0 kM_X6_addIfNew (d + 2) [kA 222, kA 526] c12 (kRN (fun c14 => kW2 G S0 kM_X3_addProducts (d + 3) 2 [some (kA 214), some (kA x1), some (kI (x2 + 1))] [] c14 P))))))))))))))))) : kW2 G S0 kM_X3_addProducts (d + 3) 2 [some (kA 214), some (kA x1), some (kI x2)] [] c P := by
  refine kw_iload_n dX3_addProducts_2 rfl ?_
  refine kw_aload_n dX3_addProducts_3 rfl ?_
  refine k2_getI fd_X3_1 dX3_addProducts_4 wf_X3_16 (lsh_214 hL) ?_
  refine kw_eI (b := (c 214 1)) rfl ?_
  refine kw_icmp_ge 72 dX3_addProducts_7 (by decide) (k32i (by omega)) (k32i (by omega)) (fun h1 => ?_) (fun h1 => ?_)
  · have H := H.1 h1
    refine k2_ret dX3_addProducts_72 rfl H
  · have H := H.2 h1
    refine kw_aload_n dX3_addProducts_10 rfl ?_
    refine k2_getR fd_X3_2 dX3_addProducts_11 wf_X3_23 (lsh_214 hL) (lrf_214_2 hL) ?_
    refine k2_callV0I (ci := 5) (N := 2) (T := TX6) rfl (lsh_222 hL) m_X6_size dX3_addProducts_14 wl_X3_85 (Nat.le_of_ble_eq_true rfl) (s_X6_size hL ⟨_, rfl, ?_⟩)
    refine kw_sipush dX3_addProducts_17 (by decide) ?_
    have o3 := H.1
    have H := H.2
    refine kw_icmp_ge 72 dX3_addProducts_20 (by decide) o3 (k32i (by omega)) (fun h2 => ?_) (fun h2 => ?_)
    · have H := H.1 h2
      refine k2_ret dX3_addProducts_72 rfl H
    · have H := H.2 h2
      refine kw_iconst dX3_addProducts_23 ?_
      refine kw_aload_n dX3_addProducts_24 rfl ?_
      refine kw_aload_n dX3_addProducts_25 rfl ?_
      refine k2_getR fd_X3_0 dX3_addProducts_26 wf_X3_11 (lsh_214 hL) (lrf_214_0 hL) ?_
      refine kw_iload_n dX3_addProducts_29 rfl ?_
      have q4 : 0 ≤ x2 ∧ x2 < 6 := (by omega)
      refine k2_aald5 dX3_addProducts_30 (lsh_215 hL) (by omega) q4 (lrw_215 hL q4).1 (by omega) ?_
      refine kw_aload_n dX3_addProducts_31 rfl ?_
      refine k2_getR fd_X3_5 dX3_addProducts_32 wf_X3_34 (lsh_214 hL) (lrf_214_5 hL) ?_
      refine k2_callS4N m_X0_multiply dX3_addProducts_35 wl_X3_56 (Nat.le_of_ble_eq_true rfl) (kC2_mono H (fun r c6 H => ?_))
      obtain ⟨rfl, H⟩ := H
      refine ⟨rfl, ?_⟩
      refine kw_aload_n dX3_addProducts_38 rfl ?_
      refine k2_getR fd_X3_5 dX3_addProducts_39 wf_X3_34 (lsh_214 hL) (lrf_214_5 hL) ?_
      refine k2_callS1I m_X0_isWithinBound dX3_addProducts_42 wl_X3_63 (Nat.le_of_ble_eq_true rfl) (kC2_mono H (fun r c8 H => ?_))
      obtain ⟨z7, rfl, H⟩ := H
      refine ⟨z7, rfl, ?_⟩
      have o10 := H.1
      have H := H.2
      refine kw_if_eq 66 dX3_addProducts_45 (by decide) o10 (fun h9 => ?_) (fun h9 => ?_)
      · have H := H.1 h9
        refine kw_iinc dX3_addProducts_66 rfl ?_
        refine kw_goto 2 dX3_addProducts_69 (by decide) ?_
        exact kw_forget (ls' := [some (kA 214), some (kA x1), some (kI (x2 + 1))]) ⟨Or.inr rfl, ⟨Or.inr rfl, ⟨Or.inr rfl, trivial⟩⟩⟩ H
      · have H := H.2 h9
        refine kw_aload_n dX3_addProducts_48 rfl ?_
        refine k2_getR fd_X3_5 dX3_addProducts_49 wf_X3_34 (lsh_214 hL) (lrf_214_5 hL) ?_
        refine k2_callS1N m_X0_normalise dX3_addProducts_52 wl_X3_71 (Nat.le_of_ble_eq_true rfl) (kC2_mono H (fun r c12 H => ?_))
        obtain ⟨rfl, H⟩ := H
        refine ⟨rfl, ?_⟩
        refine kw_aload_n dX3_addProducts_55 rfl ?_
        refine k2_getR fd_X3_2 dX3_addProducts_56 wf_X3_23 (lsh_214 hL) (lrf_214_2 hL) ?_
        refine kw_aload_n dX3_addProducts_59 rfl ?_
        refine k2_getR fd_X3_5 dX3_addProducts_60 wf_X3_34 (lsh_214 hL) (lrf_214_5 hL) ?_
        refine k2_callV1N (ci := 5) (N := 2) (T := TX6) rfl (lsh_222 hL) m_X6_addIfNew dX3_addProducts_63 wl_X3_82 (Nat.le_of_ble_eq_true rfl) (kC2_mono H (fun r c14 H => ?_))
        obtain ⟨rfl, H⟩ := H
        refine ⟨rfl, ?_⟩
        refine kw_iinc dX3_addProducts_66 rfl ?_
        refine kw_goto 2 dX3_addProducts_69 (by decide) ?_
        exact kw_forget (ls' := [some (kA 214), some (kA x1), some (kI (x2 + 1))]) ⟨Or.inr rfl, ⟨Or.inr rfl, ⟨Or.inr rfl, trivial⟩⟩⟩ H
set_option maxRecDepth 4000 in
theorem v_X3_turnsBetween {G : KG} {S0 : KSh} (hL : kLay S0) {d : Nat} {P : Option AV → KMem → Prop} {c : KMem} {x1 x2 : Int} (hx1 : S0.2.1 x1 = (2, 16)) (hx2 : S0.2.1 x2 = (2, 16)) (H : kC2 G S0 kM_X0_copy (d + 4) [kA x2, kA 527] c (kRN (fun c2 => kC2 G S0 kM_X0_normalise (d + 4) [kA 527] c2 (kRN (fun c4 => kC2 G S0 kM_X3_start (d + 4) [kA 214, kA x1] c4 (kRN (fun c6 => kC2 G S0 kM_X3_hasCome (d + 4) [kA 214, kI 0] c6 (kRI (fun z7 c8 => (k32 z7) ∧ ((z7 = 0 → (kW2 G S0 kM_X3_turnsBetween (d + 5) 35 [some (kA 214), none, none, some (kI 0), some (kI 1), none] [] c8 P)) ∧ (z7 ≠ 0 → (P (some (kI 0)) c8)))))))))))) : kC2 G S0 kM_X3_turnsBetween (d + 5) [kA 214, kA x1, kA x2] c P := by
  refine k2_met (by decide) rfl (Nat.le_of_ble_eq_true rfl) (l0 := [some (kA 214), some (kA x1), some (kA x2), none, none, none]) rfl ?_
  refine kw_aload_n dX3_turnsBetween_0 rfl ?_
  refine kw_aload_n dX3_turnsBetween_1 rfl ?_
  refine k2_getR fd_X3_6 dX3_turnsBetween_2 wf_X3_37 (lsh_214 hL) (lrf_214_6 hL) ?_
  refine k2_callS2N m_X0_copy dX3_turnsBetween_5 wl_X3_40 (Nat.le_of_ble_eq_true rfl) (kC2_mono H (fun r c2 H => ?_))
  obtain ⟨rfl, H⟩ := H
  refine ⟨rfl, ?_⟩
  refine kw_aload_n dX3_turnsBetween_8 rfl ?_
  refine k2_getR fd_X3_6 dX3_turnsBetween_9 wf_X3_37 (lsh_214 hL) (lrf_214_6 hL) ?_
  refine k2_callS1N m_X0_normalise dX3_turnsBetween_12 wl_X3_71 (Nat.le_of_ble_eq_true rfl) (kC2_mono H (fun r c4 H => ?_))
  obtain ⟨rfl, H⟩ := H
  refine ⟨rfl, ?_⟩
  refine kw_aload_n dX3_turnsBetween_15 rfl ?_
  refine kw_aload_n dX3_turnsBetween_16 rfl ?_
  refine k2_callV1N (ci := 2) (N := 7) (T := TX3) rfl (lsh_214 hL) m_X3_start dX3_turnsBetween_17 wl_X3_102 (Nat.le_of_ble_eq_true rfl) (kC2_mono H (fun r c6 H => ?_))
  obtain ⟨rfl, H⟩ := H
  refine ⟨rfl, ?_⟩
  refine kw_aload_n dX3_turnsBetween_20 rfl ?_
  refine kw_iconst dX3_turnsBetween_21 ?_
  refine k2_callV1I (ci := 2) (N := 7) (T := TX3) rfl (lsh_214 hL) m_X3_hasCome dX3_turnsBetween_22 wl_X3_105 (Nat.le_of_ble_eq_true rfl) (kC2_mono H (fun r c8 H => ?_))
  obtain ⟨z7, rfl, H⟩ := H
  refine ⟨z7, rfl, ?_⟩
  have o10 := H.1
  have H := H.2
  refine kw_if_eq 30 dX3_turnsBetween_25 (by decide) o10 (fun h9 => ?_) (fun h9 => ?_)
  · have H := H.1 h9
    refine kw_iconst dX3_turnsBetween_30 ?_
    refine kw_istore_n dX3_turnsBetween_31 (Nat.le_of_ble_eq_true rfl) ?_
    refine kw_iconst dX3_turnsBetween_32 ?_
    refine kw_istore dX3_turnsBetween_33 (Nat.le_of_ble_eq_true rfl) ?_
    exact kw_forget (ls' := [some (kA 214), none, none, some (kI 0), some (kI 1), none]) ⟨Or.inr rfl, ⟨Or.inl rfl, ⟨Or.inl rfl, ⟨Or.inr rfl, ⟨Or.inr rfl, ⟨Or.inr rfl, trivial⟩⟩⟩⟩⟩⟩ H
  · have H := H.2 h9
    refine kw_iconst dX3_turnsBetween_28 ?_
    refine k2_iret dX3_turnsBetween_29 rfl H
set_option maxRecDepth 4000 in
theorem v_X3_turnsBetween_35 {G : KG} {S0 : KSh} (hL : kLay S0) {d : Nat} {P : Option AV → KMem → Prop} {c : KMem} {x3 x4 : Int} (r3 : -2147483648 ≤ x3 ∧ x3 < 2147483648) (r4 : 0 ≤ x4 ∧ x4 < 2147483648) (H : (3 < x4 → (P (some (kI (-2))) c)) ∧ (x4 ≤ 3 → (kC2 G S0 kM_X3_addTurned (d + 4) [kA 214, kI x3, kI (c 222 1)] c (kRN (fun c13 => kC2 G S0 kM_X3_hasCome (d + 4) [kA 214, kI (c 222 1)] c13 (kRI (fun z14 c15 => (k32 z14) ∧ ((z14 = 0 → (kW2 G S0 kM_X3_turnsBetween (d + 5) 35 [some (kA 214), none, none, some (kI (c 222 1)), some (kI (x4 + 1)), none] [] c15 P)) ∧ (z14 ≠ 0 → (P (some (kI x4)) c15)))))))))) : kW2 G S0 kM_X3_turnsBetween (d + 5) 35 [some (kA 214), none, none, some (kI x3), some (kI x4), none] [] c P := by
  refine kw_iload dX3_turnsBetween_35 rfl ?_
  refine kw_iconst dX3_turnsBetween_37 ?_
  refine kw_icmp_gt 78 dX3_turnsBetween_38 (by decide) (k32i (by omega)) (k32i (by omega)) (fun h11 => ?_) (fun h11 => ?_)
  · have H := H.1 h11
    refine kw_bipush dX3_turnsBetween_78 (by decide) ?_
    refine k2_iret dX3_turnsBetween_80 rfl H
  · have H := H.2 h11
    refine kw_aload_n dX3_turnsBetween_41 rfl ?_
    refine k2_getR fd_X3_2 dX3_turnsBetween_42 wf_X3_23 (lsh_214 hL) (lrf_214_2 hL) ?_
    refine k2_callV0I (ci := 5) (N := 2) (T := TX6) rfl (lsh_222 hL) m_X6_size dX3_turnsBetween_45 wl_X3_85 (Nat.le_of_ble_eq_true rfl) (s_X6_size hL ⟨_, rfl, ?_⟩)
    refine kw_istore dX3_turnsBetween_48 (Nat.le_of_ble_eq_true rfl) ?_
    refine kw_aload_n dX3_turnsBetween_50 rfl ?_
    refine kw_iload_n dX3_turnsBetween_51 rfl ?_
    refine kw_iload dX3_turnsBetween_52 rfl ?_
    refine k2_callV2N (ci := 2) (N := 7) (T := TX3) rfl (lsh_214 hL) m_X3_addTurned dX3_turnsBetween_54 wl_X3_109 (Nat.le_of_ble_eq_true rfl) (kC2_mono H (fun r c13 H => ?_))
    obtain ⟨rfl, H⟩ := H
    refine ⟨rfl, ?_⟩
    refine kw_aload_n dX3_turnsBetween_57 rfl ?_
    refine kw_iload dX3_turnsBetween_58 rfl ?_
    refine k2_callV1I (ci := 2) (N := 7) (T := TX3) rfl (lsh_214 hL) m_X3_hasCome dX3_turnsBetween_60 wl_X3_105 (Nat.le_of_ble_eq_true rfl) (kC2_mono H (fun r c15 H => ?_))
    obtain ⟨z14, rfl, H⟩ := H
    refine ⟨z14, rfl, ?_⟩
    have o17 := H.1
    have H := H.2
    refine kw_if_eq 69 dX3_turnsBetween_63 (by decide) o17 (fun h16 => ?_) (fun h16 => ?_)
    · have H := H.1 h16
      refine kw_iload dX3_turnsBetween_69 rfl ?_
      refine kw_istore_n dX3_turnsBetween_71 (Nat.le_of_ble_eq_true rfl) ?_
      refine kw_iinc dX3_turnsBetween_72 rfl ?_
      refine kw_goto 35 dX3_turnsBetween_75 (by decide) ?_
      exact kw_forget (ls' := [some (kA 214), none, none, some (kI (c 222 1)), some (kI (x4 + 1)), none]) ⟨Or.inr rfl, ⟨Or.inr rfl, ⟨Or.inr rfl, ⟨Or.inr rfl, ⟨Or.inr rfl, ⟨Or.inl rfl, trivial⟩⟩⟩⟩⟩⟩ H
    · have H := H.2 h16
      refine kw_iload dX3_turnsBetween_66 rfl ?_
      refine k2_iret dX3_turnsBetween_68 rfl H
set_option maxRecDepth 4000 in
theorem v_X3_howManyCome {G : KG} {S0 : KSh} (hL : kLay S0) {d : Nat} {P : Option AV → KMem → Prop} {c : KMem} {x1 x2 : Int} (hx1 : S0.2.1 x1 = (2, 16)) (r2 : -2147483648 ≤ x2 ∧ x2 < 2147483648) (H : kC2 G S0 kM_X3_start (d + 4) [kA 214, kA x1] c (kRN (fun c2 => kW2 G S0 kM_X3_howManyCome (d + 5) 10 [some (kA 214), none, some (kI x2), some (kI 0), some (kI 0), none] [] c2 P))) : kC2 G S0 kM_X3_howManyCome (d + 5) [kA 214, kA x1, kI x2] c P := by
  refine k2_met (by decide) rfl (Nat.le_of_ble_eq_true rfl) (l0 := [some (kA 214), some (kA x1), some (kI x2), none, none, none]) rfl ?_
  refine kw_aload_n dX3_howManyCome_0 rfl ?_
  refine kw_aload_n dX3_howManyCome_1 rfl ?_
  refine k2_callV1N (ci := 2) (N := 7) (T := TX3) rfl (lsh_214 hL) m_X3_start dX3_howManyCome_2 wl_X3_102 (Nat.le_of_ble_eq_true rfl) (kC2_mono H (fun r c2 H => ?_))
  obtain ⟨rfl, H⟩ := H
  refine ⟨rfl, ?_⟩
  refine kw_iconst dX3_howManyCome_5 ?_
  refine kw_istore_n dX3_howManyCome_6 (Nat.le_of_ble_eq_true rfl) ?_
  refine kw_iconst dX3_howManyCome_7 ?_
  refine kw_istore dX3_howManyCome_8 (Nat.le_of_ble_eq_true rfl) ?_
  exact kw_forget (ls' := [some (kA 214), none, some (kI x2), some (kI 0), some (kI 0), none]) ⟨Or.inr rfl, ⟨Or.inl rfl, ⟨Or.inr rfl, ⟨Or.inr rfl, ⟨Or.inr rfl, ⟨Or.inr rfl, trivial⟩⟩⟩⟩⟩⟩ H
set_option maxRecDepth 4000 in
theorem v_X3_howManyCome_10 {G : KG} {S0 : KSh} (hL : kLay S0) {d : Nat} {P : Option AV → KMem → Prop} {c : KMem} {x2 x3 x4 : Int} (r2 : -2147483648 ≤ x2 ∧ x2 < 2147483648) (r3 : -2147483648 ≤ x3 ∧ x3 < 2147483648) (r4 : 0 ≤ x4 ∧ x4 < 2147483648) (H : (x2 ≤ x4 → (P (some (kI (c 222 1))) c)) ∧ (x4 < x2 → (kC2 G S0 kM_X3_addTurned (d + 4) [kA 214, kI x3, kI (c 222 1)] c (kRN (fun c5 => kW2 G S0 kM_X3_howManyCome (d + 5) 10 [some (kA 214), none, some (kI x2), some (kI (c 222 1)), some (kI (x4 + 1)), none] [] c5 P))))) : kW2 G S0 kM_X3_howManyCome (d + 5) 10 [some (kA 214), none, some (kI x2), some (kI x3), some (kI x4), none] [] c P := by
  refine kw_iload dX3_howManyCome_10 rfl ?_
  refine kw_iload_n dX3_howManyCome_12 rfl ?_
  refine kw_icmp_ge 41 dX3_howManyCome_13 (by decide) (k32i (by omega)) (k32i (by omega)) (fun h3 => ?_) (fun h3 => ?_)
  · have H := H.1 h3
    refine kw_aload_n dX3_howManyCome_41 rfl ?_
    refine k2_getR fd_X3_2 dX3_howManyCome_42 wf_X3_23 (lsh_214 hL) (lrf_214_2 hL) ?_
    refine k2_callV0I (ci := 5) (N := 2) (T := TX6) rfl (lsh_222 hL) m_X6_size dX3_howManyCome_45 wl_X3_85 (Nat.le_of_ble_eq_true rfl) (s_X6_size hL ⟨_, rfl, ?_⟩)
    refine k2_iret dX3_howManyCome_48 rfl H
  · have H := H.2 h3
    refine kw_aload_n dX3_howManyCome_16 rfl ?_
    refine k2_getR fd_X3_2 dX3_howManyCome_17 wf_X3_23 (lsh_214 hL) (lrf_214_2 hL) ?_
    refine k2_callV0I (ci := 5) (N := 2) (T := TX6) rfl (lsh_222 hL) m_X6_size dX3_howManyCome_20 wl_X3_85 (Nat.le_of_ble_eq_true rfl) (s_X6_size hL ⟨_, rfl, ?_⟩)
    refine kw_istore dX3_howManyCome_23 (Nat.le_of_ble_eq_true rfl) ?_
    refine kw_aload_n dX3_howManyCome_25 rfl ?_
    refine kw_iload_n dX3_howManyCome_26 rfl ?_
    refine kw_iload dX3_howManyCome_27 rfl ?_
    refine k2_callV2N (ci := 2) (N := 7) (T := TX3) rfl (lsh_214 hL) m_X3_addTurned dX3_howManyCome_29 wl_X3_109 (Nat.le_of_ble_eq_true rfl) (kC2_mono H (fun r c5 H => ?_))
    obtain ⟨rfl, H⟩ := H
    refine ⟨rfl, ?_⟩
    refine kw_iload dX3_howManyCome_32 rfl ?_
    refine kw_istore_n dX3_howManyCome_34 (Nat.le_of_ble_eq_true rfl) ?_
    refine kw_iinc dX3_howManyCome_35 rfl ?_
    refine kw_goto 10 dX3_howManyCome_38 (by decide) ?_
    exact kw_forget (ls' := [some (kA 214), none, some (kI x2), some (kI (c 222 1)), some (kI (x4 + 1)), none]) ⟨Or.inr rfl, ⟨Or.inr rfl, ⟨Or.inr rfl, ⟨Or.inr rfl, ⟨Or.inr rfl, ⟨Or.inl rfl, trivial⟩⟩⟩⟩⟩⟩ H
set_option maxRecDepth 4000 in
theorem v_X3_groupSize {G : KG} {S0 : KSh} (hL : kLay S0) {d : Nat} {P : Option AV → KMem → Prop} {c : KMem}  (H : kC2 G S0 kM_X6_clear (d + 3) [kA 222] c (kRN (fun c2 => kW2 G S0 kM_X3_groupSize (d + 4) 9 [some (kA 214), some (kI 0)] [] c2 P))) : kC2 G S0 kM_X3_groupSize (d + 4) [kA 214] c P := by
  refine k2_met (by decide) rfl (Nat.le_of_ble_eq_true rfl) (l0 := [some (kA 214), none]) rfl ?_
  refine kw_aload_n dX3_groupSize_0 rfl ?_
  refine k2_getR fd_X3_2 dX3_groupSize_1 wf_X3_23 (lsh_214 hL) (lrf_214_2 hL) ?_
  refine k2_callV0N (ci := 5) (N := 2) (T := TX6) rfl (lsh_222 hL) m_X6_clear dX3_groupSize_4 wl_X3_79 (Nat.le_of_ble_eq_true rfl) (kC2_mono H (fun r c2 H => ?_))
  obtain ⟨rfl, H⟩ := H
  refine ⟨rfl, ?_⟩
  refine kw_iconst dX3_groupSize_7 ?_
  refine kw_istore_n dX3_groupSize_8 (Nat.le_of_ble_eq_true rfl) ?_
  exact kw_forget (ls' := [some (kA 214), some (kI 0)]) ⟨Or.inr rfl, ⟨Or.inr rfl, trivial⟩⟩ H
set_option maxRecDepth 4000 in
theorem v_X3_groupSize_9 {G : KG} {S0 : KSh} (hL : kLay S0) {d : Nat} {P : Option AV → KMem → Prop} {c : KMem} {x1 : Int} (r1 : 0 ≤ x1 ∧ x1 < 2147483648) (hp : 0 ≤ c 214 1 ∧ c 214 1 ≤ 6) (H : ((c 214 1) ≤ x1 → (kW2 G S0 kM_X3_groupSize (d + 4) 56 [some (kA 214), some (kI 0)] [] c P)) ∧ (x1 < (c 214 1) → (kC2 G S0 kM_X0_copy (d + 3) [kA (215 + 1 + x1), kA 526] c (kRN (fun c6 => kC2 G S0 kM_X0_normalise (d + 3) [kA 526] c6 (kRN (fun c8 => kC2 G S0 kM_X6_addIfNew (d + 3) [kA 222, kA 526] c8 (kRN (fun c10 => kW2 G S0 kM_X3_groupSize (d + 4) 9 [some (kA 214), some (kI (x1 + 1))] [] c10 P))))))))) : kW2 G S0 kM_X3_groupSize (d + 4) 9 [some (kA 214), some (kI x1)] [] c P := by
  refine kw_iload_n dX3_groupSize_9 rfl ?_
  refine kw_aload_n dX3_groupSize_10 rfl ?_
  refine k2_getI fd_X3_1 dX3_groupSize_11 wf_X3_16 (lsh_214 hL) ?_
  refine kw_eI (b := (c 214 1)) rfl ?_
  refine kw_icmp_ge 54 dX3_groupSize_14 (by decide) (k32i (by omega)) (k32i (by omega)) (fun h3 => ?_) (fun h3 => ?_)
  · have H := H.1 h3
    refine kw_iconst dX3_groupSize_54 ?_
    refine kw_istore_n dX3_groupSize_55 (Nat.le_of_ble_eq_true rfl) ?_
    exact kw_forget (ls' := [some (kA 214), some (kI 0)]) ⟨Or.inr rfl, ⟨Or.inr rfl, trivial⟩⟩ H
  · have H := H.2 h3
    refine kw_aload_n dX3_groupSize_17 rfl ?_
    refine k2_getR fd_X3_0 dX3_groupSize_18 wf_X3_11 (lsh_214 hL) (lrf_214_0 hL) ?_
    refine kw_iload_n dX3_groupSize_21 rfl ?_
    have q4 : 0 ≤ x1 ∧ x1 < 6 := (by omega)
    refine k2_aald5 dX3_groupSize_22 (lsh_215 hL) (by omega) q4 (lrw_215 hL q4).1 (by omega) ?_
    refine kw_aload_n dX3_groupSize_23 rfl ?_
    refine k2_getR fd_X3_5 dX3_groupSize_24 wf_X3_34 (lsh_214 hL) (lrf_214_5 hL) ?_
    refine k2_callS2N m_X0_copy dX3_groupSize_27 wl_X3_40 (Nat.le_of_ble_eq_true rfl) (kC2_mono H (fun r c6 H => ?_))
    obtain ⟨rfl, H⟩ := H
    refine ⟨rfl, ?_⟩
    refine kw_aload_n dX3_groupSize_30 rfl ?_
    refine k2_getR fd_X3_5 dX3_groupSize_31 wf_X3_34 (lsh_214 hL) (lrf_214_5 hL) ?_
    refine k2_callS1N m_X0_normalise dX3_groupSize_34 wl_X3_71 (Nat.le_of_ble_eq_true rfl) (kC2_mono H (fun r c8 H => ?_))
    obtain ⟨rfl, H⟩ := H
    refine ⟨rfl, ?_⟩
    refine kw_aload_n dX3_groupSize_37 rfl ?_
    refine k2_getR fd_X3_2 dX3_groupSize_38 wf_X3_23 (lsh_214 hL) (lrf_214_2 hL) ?_
    refine kw_aload_n dX3_groupSize_41 rfl ?_
    refine k2_getR fd_X3_5 dX3_groupSize_42 wf_X3_34 (lsh_214 hL) (lrf_214_5 hL) ?_
    refine k2_callV1N (ci := 5) (N := 2) (T := TX6) rfl (lsh_222 hL) m_X6_addIfNew dX3_groupSize_45 wl_X3_82 (Nat.le_of_ble_eq_true rfl) (kC2_mono H (fun r c10 H => ?_))
    obtain ⟨rfl, H⟩ := H
    refine ⟨rfl, ?_⟩
    refine kw_iinc dX3_groupSize_48 rfl ?_
    refine kw_goto 9 dX3_groupSize_51 (by decide) ?_
    exact kw_forget (ls' := [some (kA 214), some (kI (x1 + 1))]) ⟨Or.inr rfl, ⟨Or.inr rfl, trivial⟩⟩ H
set_option maxRecDepth 4000 in
theorem v_X3_groupSize_56 {G : KG} {S0 : KSh} (hL : kLay S0) {d : Nat} {P : Option AV → KMem → Prop} {c : KMem} {x1 : Int} (r1 : 0 ≤ x1 ∧ x1 < 2147483648) (H : (200 ≤ x1 → (kC2 G S0 kM_J9_min_7cf53 (d + 3) [kI (c 222 1), kI 200] c (kRI (fun z12 c13 => P (some (kI z12)) c13)))) ∧ (x1 < 200 → ((k32 (c 222 1)) ∧ (((c 222 1) ≤ x1 → (kC2 G S0 kM_J9_min_7cf53 (d + 3) [kI (c 222 1), kI 200] c (kRI (fun z16 c17 => P (some (kI z16)) c17)))) ∧ (x1 < (c 222 1) → ((0 ≤ x1 ∧ x1 < 300) ∧ (kC2 G S0 kM_X3_addProducts (d + 3) [kA 214, kA (223 + 1 + x1)] c (kRN (fun c20 => kW2 G S0 kM_X3_groupSize (d + 4) 56 [some (kA 214), some (kI (x1 + 1))] [] c20 P))))))))) : kW2 G S0 kM_X3_groupSize (d + 4) 56 [some (kA 214), some (kI x1)] [] c P := by
  refine kw_iload_n dX3_groupSize_56 rfl ?_
  refine kw_sipush dX3_groupSize_57 (by decide) ?_
  refine kw_icmp_ge 92 dX3_groupSize_60 (by decide) (k32i (by omega)) (k32i (by omega)) (fun h11 => ?_) (fun h11 => ?_)
  · have H := H.1 h11
    refine kw_aload_n dX3_groupSize_92 rfl ?_
    refine k2_getR fd_X3_2 dX3_groupSize_93 wf_X3_23 (lsh_214 hL) (lrf_214_2 hL) ?_
    refine k2_callV0I (ci := 5) (N := 2) (T := TX6) rfl (lsh_222 hL) m_X6_size dX3_groupSize_96 wl_X3_85 (Nat.le_of_ble_eq_true rfl) (s_X6_size hL ⟨_, rfl, ?_⟩)
    refine kw_sipush dX3_groupSize_99 (by decide) ?_
    refine k2_callS2I m_J9_min_7cf53 dX3_groupSize_102 wl_X3_96 (Nat.le_of_ble_eq_true rfl) (kC2_mono H (fun r c13 H => ?_))
    obtain ⟨z12, rfl, H⟩ := H
    refine ⟨z12, rfl, ?_⟩
    refine k2_iret dX3_groupSize_105 rfl H
  · have H := H.2 h11
    refine kw_iload_n dX3_groupSize_63 rfl ?_
    refine kw_aload_n dX3_groupSize_64 rfl ?_
    refine k2_getR fd_X3_2 dX3_groupSize_65 wf_X3_23 (lsh_214 hL) (lrf_214_2 hL) ?_
    refine k2_callV0I (ci := 5) (N := 2) (T := TX6) rfl (lsh_222 hL) m_X6_size dX3_groupSize_68 wl_X3_85 (Nat.le_of_ble_eq_true rfl) (s_X6_size hL ⟨_, rfl, ?_⟩)
    have o15 := H.1
    have H := H.2
    refine kw_icmp_ge 92 dX3_groupSize_71 (by decide) (k32i (by omega)) o15 (fun h14 => ?_) (fun h14 => ?_)
    · have H := H.1 h14
      refine kw_aload_n dX3_groupSize_92 rfl ?_
      refine k2_getR fd_X3_2 dX3_groupSize_93 wf_X3_23 (lsh_214 hL) (lrf_214_2 hL) ?_
      refine k2_callV0I (ci := 5) (N := 2) (T := TX6) rfl (lsh_222 hL) m_X6_size dX3_groupSize_96 wl_X3_85 (Nat.le_of_ble_eq_true rfl) (s_X6_size hL ⟨_, rfl, ?_⟩)
      refine kw_sipush dX3_groupSize_99 (by decide) ?_
      refine k2_callS2I m_J9_min_7cf53 dX3_groupSize_102 wl_X3_96 (Nat.le_of_ble_eq_true rfl) (kC2_mono H (fun r c17 H => ?_))
      obtain ⟨z16, rfl, H⟩ := H
      refine ⟨z16, rfl, ?_⟩
      refine k2_iret dX3_groupSize_105 rfl H
    · have H := H.2 h14
      refine kw_aload_n dX3_groupSize_74 rfl ?_
      refine kw_aload_n dX3_groupSize_75 rfl ?_
      refine k2_getR fd_X3_2 dX3_groupSize_76 wf_X3_23 (lsh_214 hL) (lrf_214_2 hL) ?_
      refine kw_iload_n dX3_groupSize_79 rfl ?_
      have o18 := H.1
      have H := H.2
      refine k2_callV1A (ci := 5) (N := 2) (T := TX6) rfl (lsh_222 hL) m_X6_at dX3_groupSize_80 wl_X3_89 (Nat.le_of_ble_eq_true rfl) (s_X6_at hL o18 ⟨_, rfl, ?_⟩)
      refine k2_callV1N (ci := 2) (N := 7) (T := TX3) rfl (lsh_214 hL) m_X3_addProducts dX3_groupSize_83 wl_X3_93 (Nat.le_of_ble_eq_true rfl) (kC2_mono H (fun r c20 H => ?_))
      obtain ⟨rfl, H⟩ := H
      refine ⟨rfl, ?_⟩
      refine kw_iinc dX3_groupSize_86 rfl ?_
      refine kw_goto 56 dX3_groupSize_89 (by decide) ?_
      exact kw_forget (ls' := [some (kA 214), some (kI (x1 + 1))]) ⟨Or.inr rfl, ⟨Or.inr rfl, trivial⟩⟩ H
set_option maxRecDepth 4000 in
theorem v_X10_areTold {G : KG} {S0 : KSh} (hL : kLay S0) {d : Nat} {P : Option AV → KMem → Prop} {c : KMem} {x1 x2 : Int} (r1 : -2147483648 ≤ x1 ∧ x1 < 2147483648) (r2 : -2147483648 ≤ x2 ∧ x2 < 2147483648) (H : (x1 < 1 → (P (some (kI 0)) c)) ∧ (1 ≤ x1 → ((4096 ≤ x1 → (P (some (kI 0)) c)) ∧ (x1 < 4096 → (((kpop (Int.toNat x1) : Int) ≤ x2 → (kW2 G S0 kM_X10_areTold (d + 1) 24 [some (kA 0), some (kI x1), none, some (kI 0)] [] c P)) ∧ (x2 < (kpop (Int.toNat x1) : Int) → (P (some (kI 0)) c))))))) : kC2 G S0 kM_X10_areTold (d + 1) [kA 0, kI x1, kI x2] c P := by
  refine k2_met (by decide) rfl (Nat.le_of_ble_eq_true rfl) (l0 := [some (kA 0), some (kI x1), some (kI x2), none]) rfl ?_
  refine kw_iload_n dX10_areTold_0 rfl ?_
  refine kw_iconst dX10_areTold_1 ?_
  refine kw_icmp_lt 20 dX10_areTold_2 (by decide) (k32i (by omega)) (k32i (by omega)) (fun h1 => ?_) (fun h1 => ?_)
  · have H := H.1 h1
    refine kw_iconst dX10_areTold_20 ?_
    refine k2_zret dX10_areTold_21 rfl (Or.inl rfl) H
  · have H := H.2 h1
    refine kw_iload_n dX10_areTold_5 rfl ?_
    refine kw_sipush dX10_areTold_6 (by decide) ?_
    refine kw_icmp_ge 20 dX10_areTold_9 (by decide) (k32i (by omega)) (k32i (by omega)) (fun h2 => ?_) (fun h2 => ?_)
    · have H := H.1 h2
      refine kw_iconst dX10_areTold_20 ?_
      refine k2_zret dX10_areTold_21 rfl (Or.inl rfl) H
    · have H := H.2 h2
      refine kw_iload_n dX10_areTold_12 rfl ?_
      refine k2_callS1I m_J6_bitCount_0f7a4 dX10_areTold_13 wl_X10_356 (Nat.le_of_ble_eq_true rfl) (s_bitCount hL (by omega) ⟨_, rfl, ?_⟩)
      refine kw_iload_n dX10_areTold_16 rfl ?_
      refine kw_icmp_le 22 dX10_areTold_17 (by decide) (k32_pop _) (k32i (by omega)) (fun h3 => ?_) (fun h3 => ?_)
      · have H := H.1 h3
        refine kw_iconst dX10_areTold_22 ?_
        refine kw_istore_n dX10_areTold_23 (Nat.le_of_ble_eq_true rfl) ?_
        exact kw_forget (ls' := [some (kA 0), some (kI x1), none, some (kI 0)]) ⟨Or.inr rfl, ⟨Or.inr rfl, ⟨Or.inl rfl, ⟨Or.inr rfl, trivial⟩⟩⟩⟩ H
      · have H := H.2 h3
        refine kw_iconst dX10_areTold_20 ?_
        refine k2_zret dX10_areTold_21 rfl (Or.inl rfl) H
set_option maxRecDepth 4000 in
theorem v_X10_areTold_24 {G : KG} {S0 : KSh} (hL : kLay S0) {d : Nat} {P : Option AV → KMem → Prop} {c : KMem} {x1 x3 : Int} (r1 : -2147483648 ≤ x1 ∧ x1 < 2147483648) (r3 : 0 ≤ x3 ∧ x3 < 2147483648) (H : (12 ≤ x3 → (P (some (kI 1)) c)) ∧ (x3 < 12 → (((kand (kshr x1 x3) 1 ≠ 0) → ((kStT c 3) ∧ (((kHs c 3 x3) → (kW2 G S0 kM_X10_areTold (d + 1) 24 [some (kA 0), some (kI x1), none, some (kI (x3 + 1))] [] c P)) ∧ (¬ (kHs c 3 x3) → (P (some (kI 0)) c))))) ∧ (¬ (kand (kshr x1 x3) 1 ≠ 0) → (kW2 G S0 kM_X10_areTold (d + 1) 24 [some (kA 0), some (kI x1), none, some (kI (x3 + 1))] [] c P))))) : kW2 G S0 kM_X10_areTold (d + 1) 24 [some (kA 0), some (kI x1), none, some (kI x3)] [] c P := by
  refine kw_iload_n dX10_areTold_24 rfl ?_
  refine kw_bipush dX10_areTold_25 (by decide) ?_
  refine kw_icmp_ge 57 dX10_areTold_27 (by decide) (k32i (by omega)) (k32i (by omega)) (fun h4 => ?_) (fun h4 => ?_)
  · have H := H.1 h4
    refine kw_iconst dX10_areTold_57 ?_
    refine k2_zret dX10_areTold_58 rfl (Or.inr rfl) H
  · have H := H.2 h4
    refine kw_iload_n dX10_areTold_30 rfl ?_
    refine kw_iload_n dX10_areTold_31 rfl ?_
    refine k2_callS2I m_X10_isIn dX10_areTold_32 wl_X10_361 (Nat.le_of_ble_eq_true rfl) (s_X10_isIn hL (k32i (by omega)) (k32i (by omega)) (fun h5 => ⟨_, rfl, ?_⟩) (fun h5 => ⟨_, rfl, ?_⟩))
    · have H := H.1 h5
      refine kw_if_eq 51 dX10_areTold_35 (by decide) (k32i (by omega)) (fun h6 => absurd h6 (by decide)) (fun _ => ?_)
      refine kw_aload_n dX10_areTold_38 rfl ?_
      refine k2_getR fd_X10_5 dX10_areTold_39 wf_X10_29 (lsh_0 hL) (lrf_0_5 hL) ?_
      refine kw_iload_n dX10_areTold_42 rfl ?_
      have o7 := H.1
      have H := H.2
      refine k2_callV1I (ci := 0) (N := 2) (T := TX1) rfl (llt_3 hL).1 m_X1_has dX10_areTold_43 wl_X10_138 (Nat.le_of_ble_eq_true rfl) (s_X1_has hL (llt_3 hL) o7 (k32i (by omega)) (fun h8 => ⟨_, rfl, ?_⟩) (fun h8 => ⟨_, rfl, ?_⟩))
      · have H := H.1 h8
        refine kw_if_ne 51 dX10_areTold_46 (by decide) (k32i (by omega)) (fun _ => ?_) (fun h9 => absurd h9 (by decide))
        refine kw_iinc dX10_areTold_51 rfl ?_
        refine kw_goto 24 dX10_areTold_54 (by decide) ?_
        exact kw_forget (ls' := [some (kA 0), some (kI x1), none, some (kI (x3 + 1))]) ⟨Or.inr rfl, ⟨Or.inr rfl, ⟨Or.inr rfl, ⟨Or.inr rfl, trivial⟩⟩⟩⟩ H
      · have H := H.2 h8
        refine kw_if_ne 51 dX10_areTold_46 (by decide) (k32i (by omega)) (fun h10 => absurd h10 (by decide)) (fun _ => ?_)
        refine kw_iconst dX10_areTold_49 ?_
        refine k2_zret dX10_areTold_50 rfl (Or.inl rfl) H
    · have H := H.2 h5
      refine kw_if_eq 51 dX10_areTold_35 (by decide) (k32i (by omega)) (fun _ => ?_) (fun h11 => absurd h11 (by decide))
      refine kw_iinc dX10_areTold_51 rfl ?_
      refine kw_goto 24 dX10_areTold_54 (by decide) ?_
      exact kw_forget (ls' := [some (kA 0), some (kI x1), none, some (kI (x3 + 1))]) ⟨Or.inr rfl, ⟨Or.inr rfl, ⟨Or.inr rfl, ⟨Or.inr rfl, trivial⟩⟩⟩⟩ H
set_option maxRecDepth 4000 in
theorem v_X10_tellMirrors {G : KG} {S0 : KSh} (hL : kLay S0) {d : Nat} {P : Option AV → KMem → Prop} {c : KMem} {x1 : Int} (r1 : -2147483648 ≤ x1 ∧ x1 < 2147483648) (H : kC2 G S0 kM_X3_tellNone (d + 5) [kA 214] c (kRN (fun c2 => kW2 G S0 kM_X10_tellMirrors (d + 6) 9 [some (kA 0), some (kI x1), some (kI 0)] [] c2 P))) : kC2 G S0 kM_X10_tellMirrors (d + 6) [kA 0, kI x1] c P := by
  refine k2_met (by decide) rfl (Nat.le_of_ble_eq_true rfl) (l0 := [some (kA 0), some (kI x1), none]) rfl ?_
  refine kw_aload_n dX10_tellMirrors_0 rfl ?_
  refine k2_getR fd_X10_12 dX10_tellMirrors_1 wf_X10_63 (lsh_0 hL) (lrf_0_12 hL) ?_
  refine k2_callV0N (ci := 2) (N := 7) (T := TX3) rfl (lsh_214 hL) m_X3_tellNone dX10_tellMirrors_4 wl_X10_364 (Nat.le_of_ble_eq_true rfl) (kC2_mono H (fun r c2 H => ?_))
  obtain ⟨rfl, H⟩ := H
  refine ⟨rfl, ?_⟩
  refine kw_iconst dX10_tellMirrors_7 ?_
  refine kw_istore_n dX10_tellMirrors_8 (Nat.le_of_ble_eq_true rfl) ?_
  exact kw_forget (ls' := [some (kA 0), some (kI x1), some (kI 0)]) ⟨Or.inr rfl, ⟨Or.inr rfl, ⟨Or.inr rfl, trivial⟩⟩⟩ H
set_option maxRecDepth 4000 in
theorem v_X10_tellMirrors_9 {G : KG} {S0 : KSh} (hL : kLay S0) {d : Nat} {P : Option AV → KMem → Prop} {c : KMem} {x1 x2 : Int} (r1 : -2147483648 ≤ x1 ∧ x1 < 2147483648) (r2 : 0 ≤ x2 ∧ x2 < 2147483648) (H : (12 ≤ x2 → (P (some (kI 1)) c)) ∧ (x2 < 12 → (((kand (kshr x1 x2) 1 ≠ 0) → (kC2 G S0 kM_X10_kindAt (d + 5) [kA 0, kI x2] c (kRI (fun z6 c7 => (k32 z6) ∧ (((kMir z6) → ((0 ≤ x2 ∧ x2 < 12) ∧ (kC2 G S0 kM_X8_vectorOf (d + 5) [kA (3 + 2 + x2), kA 555] c7 (kRN (fun c13 => kC2 G S0 kM_X3_tell (d + 5) [kA 214, kA 555] c13 (kRN (fun c15 => kW2 G S0 kM_X10_tellMirrors (d + 6) 9 [some (kA 0), some (kI x1), some (kI (x2 + 1))] [] c15 P))))))) ∧ (¬ (kMir z6) → (P (some (kI 0)) c7))))))) ∧ (¬ (kand (kshr x1 x2) 1 ≠ 0) → (kW2 G S0 kM_X10_tellMirrors (d + 6) 9 [some (kA 0), some (kI x1), some (kI (x2 + 1))] [] c P))))) : kW2 G S0 kM_X10_tellMirrors (d + 6) 9 [some (kA 0), some (kI x1), some (kI x2)] [] c P := by
  refine kw_iload_n dX10_tellMirrors_9 rfl ?_
  refine kw_bipush dX10_tellMirrors_10 (by decide) ?_
  refine kw_icmp_ge 68 dX10_tellMirrors_12 (by decide) (k32i (by omega)) (k32i (by omega)) (fun h3 => ?_) (fun h3 => ?_)
  · have H := H.1 h3
    refine kw_iconst dX10_tellMirrors_68 ?_
    refine k2_zret dX10_tellMirrors_69 rfl (Or.inr rfl) H
  · have H := H.2 h3
    refine kw_iload_n dX10_tellMirrors_15 rfl ?_
    refine kw_iload_n dX10_tellMirrors_16 rfl ?_
    refine k2_callS2I m_X10_isIn dX10_tellMirrors_17 wl_X10_361 (Nat.le_of_ble_eq_true rfl) (s_X10_isIn hL (k32i (by omega)) (k32i (by omega)) (fun h4 => ⟨_, rfl, ?_⟩) (fun h4 => ⟨_, rfl, ?_⟩))
    · have H := H.1 h4
      refine kw_if_eq 62 dX10_tellMirrors_20 (by decide) (k32i (by omega)) (fun h5 => absurd h5 (by decide)) (fun _ => ?_)
      refine kw_aload_n dX10_tellMirrors_23 rfl ?_
      refine kw_iload_n dX10_tellMirrors_24 rfl ?_
      refine k2_callV1I (ci := 8) (N := 20) (T := TX10) rfl (lsh_0 hL) m_X10_kindAt dX10_tellMirrors_25 wl_X10_180 (Nat.le_of_ble_eq_true rfl) (kC2_mono H (fun r c7 H => ?_))
      obtain ⟨z6, rfl, H⟩ := H
      refine ⟨z6, rfl, ?_⟩
      have o8 := H.1
      have H := H.2
      refine k2_callS1I m_X8_isMirror dX10_tellMirrors_28 wl_X10_192 (Nat.le_of_ble_eq_true rfl) (s_X8_isMirror hL o8 (fun h9 => ⟨_, rfl, ?_⟩) (fun h9 => ⟨_, rfl, ?_⟩))
      · have H := H.1 h9
        refine kw_if_ne 36 dX10_tellMirrors_31 (by decide) (k32i (by omega)) (fun _ => ?_) (fun h10 => absurd h10 (by decide))
        refine kw_aload_n dX10_tellMirrors_36 rfl ?_
        refine k2_getR fd_X10_5 dX10_tellMirrors_37 wf_X10_29 (lsh_0 hL) (lrf_0_5 hL) ?_
        refine kw_iload_n dX10_tellMirrors_40 rfl ?_
        have o11 := H.1
        have H := H.2
        refine k2_callV1A (ci := 0) (N := 2) (T := TX1) rfl (llt_3 hL).1 m_X1_form dX10_tellMirrors_41 wl_X10_142 (Nat.le_of_ble_eq_true rfl) (s_X1_form hL (llt_3 hL) (by omega) o11 ⟨_, rfl, ?_⟩)
        refine kw_aload_n dX10_tellMirrors_44 rfl ?_
        refine k2_getR fd_X10_17 dX10_tellMirrors_45 wf_X10_91 (lsh_0 hL) (lrf_0_17 hL) ?_
        refine k2_callS2N m_X8_vectorOf dX10_tellMirrors_48 wl_X10_215 (Nat.le_of_ble_eq_true rfl) (kC2_mono H (fun r c13 H => ?_))
        obtain ⟨rfl, H⟩ := H
        refine ⟨rfl, ?_⟩
        refine kw_aload_n dX10_tellMirrors_51 rfl ?_
        refine k2_getR fd_X10_12 dX10_tellMirrors_52 wf_X10_63 (lsh_0 hL) (lrf_0_12 hL) ?_
        refine kw_aload_n dX10_tellMirrors_55 rfl ?_
        refine k2_getR fd_X10_17 dX10_tellMirrors_56 wf_X10_91 (lsh_0 hL) (lrf_0_17 hL) ?_
        refine k2_callV1N (ci := 2) (N := 7) (T := TX3) rfl (lsh_214 hL) m_X3_tell dX10_tellMirrors_59 wl_X10_367 (Nat.le_of_ble_eq_true rfl) (kC2_mono H (fun r c15 H => ?_))
        obtain ⟨rfl, H⟩ := H
        refine ⟨rfl, ?_⟩
        refine kw_iinc dX10_tellMirrors_62 rfl ?_
        refine kw_goto 9 dX10_tellMirrors_65 (by decide) ?_
        exact kw_forget (ls' := [some (kA 0), some (kI x1), some (kI (x2 + 1))]) ⟨Or.inr rfl, ⟨Or.inr rfl, ⟨Or.inr rfl, trivial⟩⟩⟩ H
      · have H := H.2 h9
        refine kw_if_ne 36 dX10_tellMirrors_31 (by decide) (k32i (by omega)) (fun h16 => absurd h16 (by decide)) (fun _ => ?_)
        refine kw_iconst dX10_tellMirrors_34 ?_
        refine k2_zret dX10_tellMirrors_35 rfl (Or.inl rfl) H
    · have H := H.2 h4
      refine kw_if_eq 62 dX10_tellMirrors_20 (by decide) (k32i (by omega)) (fun _ => ?_) (fun h17 => absurd h17 (by decide))
      refine kw_iinc dX10_tellMirrors_62 rfl ?_
      refine kw_goto 9 dX10_tellMirrors_65 (by decide) ?_
      exact kw_forget (ls' := [some (kA 0), some (kI x1), some (kI (x2 + 1))]) ⟨Or.inr rfl, ⟨Or.inr rfl, ⟨Or.inr rfl, trivial⟩⟩⟩ H
set_option maxRecDepth 4000 in
theorem v_X10_group {G : KG} {S0 : KSh} (hL : kLay S0) {d : Nat} {P : Option AV → KMem → Prop} {c : KMem} {x1 : Int} (r1 : -2147483648 ≤ x1 ∧ x1 < 2147483648) (H : kC2 G S0 kM_X10_areTold (d + 5) [kA 0, kI x1, kI 6] c (kRI (fun z1 c2 => (k32 z1) ∧ ((z1 ≠ 0 → (kC2 G S0 kM_X3_tellNone (d + 5) [kA 214] c2 (kRN (fun c6 => kW2 G S0 kM_X10_group (d + 6) 21 [some (kA 0), some (kI x1), some (kI 0)] [] c6 P)))) ∧ (z1 = 0 → (P (some (kI (-1))) c2)))))) : kC2 G S0 kM_X10_group (d + 6) [kA 0, kI x1] c P := by
  refine k2_met (by decide) rfl (Nat.le_of_ble_eq_true rfl) (l0 := [some (kA 0), some (kI x1), none]) rfl ?_
  refine kw_aload_n dX10_group_0 rfl ?_
  refine kw_iload_n dX10_group_1 rfl ?_
  refine kw_bipush dX10_group_2 (by decide) ?_
  refine k2_callV2I (ci := 8) (N := 20) (T := TX10) rfl (lsh_0 hL) m_X10_areTold dX10_group_4 wl_X10_349 (Nat.le_of_ble_eq_true rfl) (kC2_mono H (fun r c2 H => ?_))
  obtain ⟨z1, rfl, H⟩ := H
  refine ⟨z1, rfl, ?_⟩
  have o4 := H.1
  have H := H.2
  refine kw_if_ne 12 dX10_group_7 (by decide) o4 (fun h3 => ?_) (fun h3 => ?_)
  · have H := H.1 h3
    refine kw_aload_n dX10_group_12 rfl ?_
    refine k2_getR fd_X10_12 dX10_group_13 wf_X10_63 (lsh_0 hL) (lrf_0_12 hL) ?_
    refine k2_callV0N (ci := 2) (N := 7) (T := TX3) rfl (lsh_214 hL) m_X3_tellNone dX10_group_16 wl_X10_364 (Nat.le_of_ble_eq_true rfl) (kC2_mono H (fun r c6 H => ?_))
    obtain ⟨rfl, H⟩ := H
    refine ⟨rfl, ?_⟩
    refine kw_iconst dX10_group_19 ?_
    refine kw_istore_n dX10_group_20 (Nat.le_of_ble_eq_true rfl) ?_
    exact kw_forget (ls' := [some (kA 0), some (kI x1), some (kI 0)]) ⟨Or.inr rfl, ⟨Or.inr rfl, ⟨Or.inr rfl, trivial⟩⟩⟩ H
  · have H := H.2 h3
    refine kw_iconst dX10_group_10 ?_
    refine k2_iret dX10_group_11 rfl H
set_option maxRecDepth 4000 in
theorem v_X10_group_21 {G : KG} {S0 : KSh} (hL : kLay S0) {d : Nat} {P : Option AV → KMem → Prop} {c : KMem} {x1 x2 : Int} (r1 : -2147483648 ≤ x1 ∧ x1 < 2147483648) (r2 : 0 ≤ x2 ∧ x2 < 2147483648) (H : (12 ≤ x2 → (kC2 G S0 kM_X3_groupSize (d + 5) [kA 214] c (kRI (fun z8 c9 => P (some (kI z8)) c9)))) ∧ (x2 < 12 → (((kand (kshr x1 x2) 1 ≠ 0) → ((0 ≤ x2 ∧ x2 < 12) ∧ (kC2 G S0 kM_X3_isMotion (d + 5) [kA 214, kA (3 + 2 + x2)] c (kRI (fun z13 c14 => (k32 z13) ∧ ((z13 ≠ 0 → (kC2 G S0 kM_X3_tell (d + 5) [kA 214, kA (3 + 2 + x2)] c14 (kRN (fun c18 => kW2 G S0 kM_X10_group (d + 6) 21 [some (kA 0), some (kI x1), some (kI (x2 + 1))] [] c18 P)))) ∧ (z13 = 0 → (P (some (kI (-3))) c14)))))))) ∧ (¬ (kand (kshr x1 x2) 1 ≠ 0) → (kW2 G S0 kM_X10_group (d + 6) 21 [some (kA 0), some (kI x1), some (kI (x2 + 1))] [] c P))))) : kW2 G S0 kM_X10_group (d + 6) 21 [some (kA 0), some (kI x1), some (kI x2)] [] c P := by
  refine kw_iload_n dX10_group_21 rfl ?_
  refine kw_bipush dX10_group_22 (by decide) ?_
  refine kw_icmp_ge 77 dX10_group_24 (by decide) (k32i (by omega)) (k32i (by omega)) (fun h7 => ?_) (fun h7 => ?_)
  · have H := H.1 h7
    refine kw_aload_n dX10_group_77 rfl ?_
    refine k2_getR fd_X10_12 dX10_group_78 wf_X10_63 (lsh_0 hL) (lrf_0_12 hL) ?_
    refine k2_callV0I (ci := 2) (N := 7) (T := TX3) rfl (lsh_214 hL) m_X3_groupSize dX10_group_81 wl_X10_370 (Nat.le_of_ble_eq_true rfl) (kC2_mono H (fun r c9 H => ?_))
    obtain ⟨z8, rfl, H⟩ := H
    refine ⟨z8, rfl, ?_⟩
    refine k2_iret dX10_group_84 rfl H
  · have H := H.2 h7
    refine kw_iload_n dX10_group_27 rfl ?_
    refine kw_iload_n dX10_group_28 rfl ?_
    refine k2_callS2I m_X10_isIn dX10_group_29 wl_X10_361 (Nat.le_of_ble_eq_true rfl) (s_X10_isIn hL (k32i (by omega)) (k32i (by omega)) (fun h10 => ⟨_, rfl, ?_⟩) (fun h10 => ⟨_, rfl, ?_⟩))
    · have H := H.1 h10
      refine kw_if_eq 71 dX10_group_32 (by decide) (k32i (by omega)) (fun h11 => absurd h11 (by decide)) (fun _ => ?_)
      refine kw_aload_n dX10_group_35 rfl ?_
      refine k2_getR fd_X10_12 dX10_group_36 wf_X10_63 (lsh_0 hL) (lrf_0_12 hL) ?_
      refine kw_aload_n dX10_group_39 rfl ?_
      refine k2_getR fd_X10_5 dX10_group_40 wf_X10_29 (lsh_0 hL) (lrf_0_5 hL) ?_
      refine kw_iload_n dX10_group_43 rfl ?_
      have o12 := H.1
      have H := H.2
      refine k2_callV1A (ci := 0) (N := 2) (T := TX1) rfl (llt_3 hL).1 m_X1_form dX10_group_44 wl_X10_142 (Nat.le_of_ble_eq_true rfl) (s_X1_form hL (llt_3 hL) (by omega) o12 ⟨_, rfl, ?_⟩)
      refine k2_callV1I (ci := 2) (N := 7) (T := TX3) rfl (lsh_214 hL) m_X3_isMotion dX10_group_47 wl_X10_195 (Nat.le_of_ble_eq_true rfl) (kC2_mono H (fun r c14 H => ?_))
      obtain ⟨z13, rfl, H⟩ := H
      refine ⟨z13, rfl, ?_⟩
      have o16 := H.1
      have H := H.2
      refine kw_if_ne 56 dX10_group_50 (by decide) o16 (fun h15 => ?_) (fun h15 => ?_)
      · have H := H.1 h15
        refine kw_aload_n dX10_group_56 rfl ?_
        refine k2_getR fd_X10_12 dX10_group_57 wf_X10_63 (lsh_0 hL) (lrf_0_12 hL) ?_
        refine kw_aload_n dX10_group_60 rfl ?_
        refine k2_getR fd_X10_5 dX10_group_61 wf_X10_29 (lsh_0 hL) (lrf_0_5 hL) ?_
        refine kw_iload_n dX10_group_64 rfl ?_
        refine k2_callV1A (ci := 0) (N := 2) (T := TX1) rfl (llt_3 hL).1 m_X1_form dX10_group_65 wl_X10_142 (Nat.le_of_ble_eq_true rfl) (s_X1_form hL (llt_3 hL) (by omega) o12 ⟨_, rfl, ?_⟩)
        refine k2_callV1N (ci := 2) (N := 7) (T := TX3) rfl (lsh_214 hL) m_X3_tell dX10_group_68 wl_X10_367 (Nat.le_of_ble_eq_true rfl) (kC2_mono H (fun r c18 H => ?_))
        obtain ⟨rfl, H⟩ := H
        refine ⟨rfl, ?_⟩
        refine kw_iinc dX10_group_71 rfl ?_
        refine kw_goto 21 dX10_group_74 (by decide) ?_
        exact kw_forget (ls' := [some (kA 0), some (kI x1), some (kI (x2 + 1))]) ⟨Or.inr rfl, ⟨Or.inr rfl, ⟨Or.inr rfl, trivial⟩⟩⟩ H
      · have H := H.2 h15
        refine kw_bipush dX10_group_53 (by decide) ?_
        refine k2_iret dX10_group_55 rfl H
    · have H := H.2 h10
      refine kw_if_eq 71 dX10_group_32 (by decide) (k32i (by omega)) (fun _ => ?_) (fun h19 => absurd h19 (by decide))
      refine kw_iinc dX10_group_71 rfl ?_
      refine kw_goto 21 dX10_group_74 (by decide) ?_
      exact kw_forget (ls' := [some (kA 0), some (kI x1), some (kI (x2 + 1))]) ⟨Or.inr rfl, ⟨Or.inr rfl, ⟨Or.inr rfl, trivial⟩⟩⟩ H
set_option maxRecDepth 4000 in
theorem v_X10_brought {G : KG} {S0 : KSh} (hL : kLay S0) {d : Nat} {P : Option AV → KMem → Prop} {c : KMem} {x1 x2 x3 : Int} (r1 : -2147483648 ≤ x1 ∧ x1 < 2147483648) (r2 : -2147483648 ≤ x2 ∧ x2 < 2147483648) (r3 : -2147483648 ≤ x3 ∧ x3 < 2147483648) (H : (kStT c 3) ∧ (((kHs c 3 x1) → (((kHs c 3 x2) → (kC2 G S0 kM_X10_areTold (d + 6) [kA 0, kI x3, kI 6] c (kRI (fun z6 c7 => (k32 z6) ∧ ((z6 ≠ 0 → (kC2 G S0 kM_X10_tellMirrors (d + 6) [kA 0, kI x3] c7 (kRI (fun z10 c11 => (k32 z10) ∧ ((z10 ≠ 0 → ((0 ≤ x1 ∧ x1 < 12) ∧ ((0 ≤ x2 ∧ x2 < 12) ∧ (kC2 G S0 kM_X3_turnsBetween (d + 6) [kA 214, kA (3 + 2 + x1), kA (3 + 2 + x2)] c11 (kRI (fun z16 c17 => P (some (kI z16)) c17)))))) ∧ (z10 = 0 → (P (some (kI (-3))) c11))))))) ∧ (z6 = 0 → (P (some (kI (-1))) c7))))))) ∧ (¬ (kHs c 3 x2) → (P (some (kI (-1))) c)))) ∧ (¬ (kHs c 3 x1) → (P (some (kI (-1))) c)))) : kC2 G S0 kM_X10_brought (d + 7) [kA 0, kI x1, kI x2, kI x3] c P := by
  refine k2_met (by decide) rfl (Nat.le_of_ble_eq_true rfl) (l0 := [some (kA 0), some (kI x1), some (kI x2), some (kI x3)]) rfl ?_
  refine kw_aload_n dX10_brought_0 rfl ?_
  refine k2_getR fd_X10_5 dX10_brought_1 wf_X10_29 (lsh_0 hL) (lrf_0_5 hL) ?_
  refine kw_iload_n dX10_brought_4 rfl ?_
  have o1 := H.1
  have H := H.2
  refine k2_callV1I (ci := 0) (N := 2) (T := TX1) rfl (llt_3 hL).1 m_X1_has dX10_brought_5 wl_X10_138 (Nat.le_of_ble_eq_true rfl) (s_X1_has hL (llt_3 hL) o1 (k32i (by omega)) (fun h2 => ⟨_, rfl, ?_⟩) (fun h2 => ⟨_, rfl, ?_⟩))
  · have H := H.1 h2
    refine kw_if_eq 32 dX10_brought_8 (by decide) (k32i (by omega)) (fun h3 => absurd h3 (by decide)) (fun _ => ?_)
    refine kw_aload_n dX10_brought_11 rfl ?_
    refine k2_getR fd_X10_5 dX10_brought_12 wf_X10_29 (lsh_0 hL) (lrf_0_5 hL) ?_
    refine kw_iload_n dX10_brought_15 rfl ?_
    refine k2_callV1I (ci := 0) (N := 2) (T := TX1) rfl (llt_3 hL).1 m_X1_has dX10_brought_16 wl_X10_138 (Nat.le_of_ble_eq_true rfl) (s_X1_has hL (llt_3 hL) o1 (k32i (by omega)) (fun h4 => ⟨_, rfl, ?_⟩) (fun h4 => ⟨_, rfl, ?_⟩))
    · have H := H.1 h4
      refine kw_if_eq 32 dX10_brought_19 (by decide) (k32i (by omega)) (fun h5 => absurd h5 (by decide)) (fun _ => ?_)
      refine kw_aload_n dX10_brought_22 rfl ?_
      refine kw_iload_n dX10_brought_23 rfl ?_
      refine kw_bipush dX10_brought_24 (by decide) ?_
      refine k2_callV2I (ci := 8) (N := 20) (T := TX10) rfl (lsh_0 hL) m_X10_areTold dX10_brought_26 wl_X10_349 (Nat.le_of_ble_eq_true rfl) (kC2_mono H (fun r c7 H => ?_))
      obtain ⟨z6, rfl, H⟩ := H
      refine ⟨z6, rfl, ?_⟩
      have o9 := H.1
      have H := H.2
      refine kw_if_ne 34 dX10_brought_29 (by decide) o9 (fun h8 => ?_) (fun h8 => ?_)
      · have H := H.1 h8
        refine kw_aload_n dX10_brought_34 rfl ?_
        refine kw_iload_n dX10_brought_35 rfl ?_
        refine k2_callV1I (ci := 8) (N := 20) (T := TX10) rfl (lsh_0 hL) m_X10_tellMirrors dX10_brought_36 wl_X10_381 (Nat.le_of_ble_eq_true rfl) (kC2_mono H (fun r c11 H => ?_))
        obtain ⟨z10, rfl, H⟩ := H
        refine ⟨z10, rfl, ?_⟩
        have o13 := H.1
        have H := H.2
        refine kw_if_ne 45 dX10_brought_39 (by decide) o13 (fun h12 => ?_) (fun h12 => ?_)
        · have H := H.1 h12
          refine kw_aload_n dX10_brought_45 rfl ?_
          refine k2_getR fd_X10_12 dX10_brought_46 wf_X10_63 (lsh_0 hL) (lrf_0_12 hL) ?_
          refine kw_aload_n dX10_brought_49 rfl ?_
          refine k2_getR fd_X10_5 dX10_brought_50 wf_X10_29 (lsh_0 hL) (lrf_0_5 hL) ?_
          refine kw_iload_n dX10_brought_53 rfl ?_
          have o14 := H.1
          have H := H.2
          refine k2_callV1A (ci := 0) (N := 2) (T := TX1) rfl (llt_3 hL).1 m_X1_form dX10_brought_54 wl_X10_142 (Nat.le_of_ble_eq_true rfl) (s_X1_form hL (llt_3 hL) (by omega) o14 ⟨_, rfl, ?_⟩)
          refine kw_aload_n dX10_brought_57 rfl ?_
          refine k2_getR fd_X10_5 dX10_brought_58 wf_X10_29 (lsh_0 hL) (lrf_0_5 hL) ?_
          refine kw_iload_n dX10_brought_61 rfl ?_
          have o15 := H.1
          have H := H.2
          refine k2_callV1A (ci := 0) (N := 2) (T := TX1) rfl (llt_3 hL).1 m_X1_form dX10_brought_62 wl_X10_142 (Nat.le_of_ble_eq_true rfl) (s_X1_form hL (llt_3 hL) (by omega) o15 ⟨_, rfl, ?_⟩)
          refine k2_callV2I (ci := 2) (N := 7) (T := TX3) rfl (lsh_214 hL) m_X3_turnsBetween dX10_brought_65 wl_X10_384 (Nat.le_of_ble_eq_true rfl) (kC2_mono H (fun r c17 H => ?_))
          obtain ⟨z16, rfl, H⟩ := H
          refine ⟨z16, rfl, ?_⟩
          refine k2_iret dX10_brought_68 rfl H
        · have H := H.2 h12
          refine kw_bipush dX10_brought_42 (by decide) ?_
          refine k2_iret dX10_brought_44 rfl H
      · have H := H.2 h8
        refine kw_iconst dX10_brought_32 ?_
        refine k2_iret dX10_brought_33 rfl H
    · have H := H.2 h4
      refine kw_if_eq 32 dX10_brought_19 (by decide) (k32i (by omega)) (fun _ => ?_) (fun h18 => absurd h18 (by decide))
      refine kw_iconst dX10_brought_32 ?_
      refine k2_iret dX10_brought_33 rfl H
  · have H := H.2 h2
    refine kw_if_eq 32 dX10_brought_8 (by decide) (k32i (by omega)) (fun _ => ?_) (fun h19 => absurd h19 (by decide))
    refine kw_iconst dX10_brought_32 ?_
    refine k2_iret dX10_brought_33 rfl H
set_option maxRecDepth 4000 in
theorem v_X10_come {G : KG} {S0 : KSh} (hL : kLay S0) {d : Nat} {P : Option AV → KMem → Prop} {c : KMem} {x1 x2 x3 : Int} (r1 : -2147483648 ≤ x1 ∧ x1 < 2147483648) (r2 : -2147483648 ≤ x2 ∧ x2 < 2147483648) (r3 : -2147483648 ≤ x3 ∧ x3 < 2147483648) (H : (kStT c 3) ∧ (((kHs c 3 x1) → (kC2 G S0 kM_X10_areTold (d + 6) [kA 0, kI x2, kI 6] c (kRI (fun z4 c5 => (k32 z4) ∧ ((z4 = 0 → (P (some (kI (-1))) c5)) ∧ (z4 ≠ 0 → ((x3 < 0 → (P (some (kI (-1))) c5)) ∧ (0 ≤ x3 → ((x3 ≤ 3 → (kC2 G S0 kM_X10_tellMirrors (d + 6) [kA 0, kI x2] c5 (kRI (fun z10 c11 => (k32 z10) ∧ ((z10 ≠ 0 → ((0 ≤ x1 ∧ x1 < 12) ∧ (kC2 G S0 kM_X3_howManyCome (d + 6) [kA 214, kA (3 + 2 + x1), kI x3] c11 (kRI (fun z15 c16 => P (some (kI z15)) c16))))) ∧ (z10 = 0 → (P (some (kI (-3))) c11))))))) ∧ (3 < x3 → (P (some (kI (-1))) c5))))))))))) ∧ (¬ (kHs c 3 x1) → (P (some (kI (-1))) c)))) : kC2 G S0 kM_X10_come (d + 7) [kA 0, kI x1, kI x2, kI x3] c P := by
  refine k2_met (by decide) rfl (Nat.le_of_ble_eq_true rfl) (l0 := [some (kA 0), some (kI x1), some (kI x2), some (kI x3)]) rfl ?_
  refine kw_aload_n dX10_come_0 rfl ?_
  refine k2_getR fd_X10_5 dX10_come_1 wf_X10_29 (lsh_0 hL) (lrf_0_5 hL) ?_
  refine kw_iload_n dX10_come_4 rfl ?_
  have o1 := H.1
  have H := H.2
  refine k2_callV1I (ci := 0) (N := 2) (T := TX1) rfl (llt_3 hL).1 m_X1_has dX10_come_5 wl_X10_138 (Nat.le_of_ble_eq_true rfl) (s_X1_has hL (llt_3 hL) o1 (k32i (by omega)) (fun h2 => ⟨_, rfl, ?_⟩) (fun h2 => ⟨_, rfl, ?_⟩))
  · have H := H.1 h2
    refine kw_if_eq 30 dX10_come_8 (by decide) (k32i (by omega)) (fun h3 => absurd h3 (by decide)) (fun _ => ?_)
    refine kw_aload_n dX10_come_11 rfl ?_
    refine kw_iload_n dX10_come_12 rfl ?_
    refine kw_bipush dX10_come_13 (by decide) ?_
    refine k2_callV2I (ci := 8) (N := 20) (T := TX10) rfl (lsh_0 hL) m_X10_areTold dX10_come_15 wl_X10_349 (Nat.le_of_ble_eq_true rfl) (kC2_mono H (fun r c5 H => ?_))
    obtain ⟨z4, rfl, H⟩ := H
    refine ⟨z4, rfl, ?_⟩
    have o7 := H.1
    have H := H.2
    refine kw_if_eq 30 dX10_come_18 (by decide) o7 (fun h6 => ?_) (fun h6 => ?_)
    · have H := H.1 h6
      refine kw_iconst dX10_come_30 ?_
      refine k2_iret dX10_come_31 rfl H
    · have H := H.2 h6
      refine kw_iload_n dX10_come_21 rfl ?_
      refine kw_if_lt 30 dX10_come_22 (by decide) (k32i (by omega)) (fun h8 => ?_) (fun h8 => ?_)
      · have H := H.1 h8
        refine kw_iconst dX10_come_30 ?_
        refine k2_iret dX10_come_31 rfl H
      · have H := H.2 h8
        refine kw_iload_n dX10_come_25 rfl ?_
        refine kw_iconst dX10_come_26 ?_
        refine kw_icmp_le 32 dX10_come_27 (by decide) (k32i (by omega)) (k32i (by omega)) (fun h9 => ?_) (fun h9 => ?_)
        · have H := H.1 h9
          refine kw_aload_n dX10_come_32 rfl ?_
          refine kw_iload_n dX10_come_33 rfl ?_
          refine k2_callV1I (ci := 8) (N := 20) (T := TX10) rfl (lsh_0 hL) m_X10_tellMirrors dX10_come_34 wl_X10_381 (Nat.le_of_ble_eq_true rfl) (kC2_mono H (fun r c11 H => ?_))
          obtain ⟨z10, rfl, H⟩ := H
          refine ⟨z10, rfl, ?_⟩
          have o13 := H.1
          have H := H.2
          refine kw_if_ne 43 dX10_come_37 (by decide) o13 (fun h12 => ?_) (fun h12 => ?_)
          · have H := H.1 h12
            refine kw_aload_n dX10_come_43 rfl ?_
            refine k2_getR fd_X10_12 dX10_come_44 wf_X10_63 (lsh_0 hL) (lrf_0_12 hL) ?_
            refine kw_aload_n dX10_come_47 rfl ?_
            refine k2_getR fd_X10_5 dX10_come_48 wf_X10_29 (lsh_0 hL) (lrf_0_5 hL) ?_
            refine kw_iload_n dX10_come_51 rfl ?_
            have o14 := H.1
            have H := H.2
            refine k2_callV1A (ci := 0) (N := 2) (T := TX1) rfl (llt_3 hL).1 m_X1_form dX10_come_52 wl_X10_142 (Nat.le_of_ble_eq_true rfl) (s_X1_form hL (llt_3 hL) (by omega) o14 ⟨_, rfl, ?_⟩)
            refine kw_iload_n dX10_come_55 rfl ?_
            refine k2_callV2I (ci := 2) (N := 7) (T := TX3) rfl (lsh_214 hL) m_X3_howManyCome dX10_come_56 wl_X10_388 (Nat.le_of_ble_eq_true rfl) (kC2_mono H (fun r c16 H => ?_))
            obtain ⟨z15, rfl, H⟩ := H
            refine ⟨z15, rfl, ?_⟩
            refine k2_iret dX10_come_59 rfl H
          · have H := H.2 h12
            refine kw_bipush dX10_come_40 (by decide) ?_
            refine k2_iret dX10_come_42 rfl H
        · have H := H.2 h9
          refine kw_iconst dX10_come_30 ?_
          refine k2_iret dX10_come_31 rfl H
  · have H := H.2 h2
    refine kw_if_eq 30 dX10_come_8 (by decide) (k32i (by omega)) (fun _ => ?_) (fun h17 => absurd h17 (by decide))
    refine kw_iconst dX10_come_30 ?_
    refine k2_iret dX10_come_31 rfl H
