set_option maxRecDepth 4000 in
theorem v_X8_isObject {G : KG} {S0 : KSh} (hL : kLay S0) {d : Nat} {P : Option AV → KMem → Prop} {c : KMem} {x0 : Int} (r0 : -2147483648 ≤ x0 ∧ x0 < 2147483648) (H : (x0 < 2 → ((x0 < 12 → (P (some (kI 0)) c)) ∧ (12 ≤ x0 → ((16 < x0 → (P (some (kI 0)) c)) ∧ (x0 ≤ 16 → (P (some (kI 1)) c)))))) ∧ (2 ≤ x0 → ((x0 ≤ 6 → (P (some (kI 1)) c)) ∧ (6 < x0 → ((x0 < 12 → (P (some (kI 0)) c)) ∧ (12 ≤ x0 → ((16 < x0 → (P (some (kI 0)) c)) ∧ (x0 ≤ 16 → (P (some (kI 1)) c))))))))) : kC2 G S0 kM_X8_isObject d [kI x0] c P := by
  refine k2_met (by decide) rfl (Nat.le_of_ble_eq_true rfl) (l0 := [some (kI x0)]) rfl ?_
  refine kw_iload_n dX8_isObject_0 rfl ?_
  refine kw_iconst dX8_isObject_1 ?_
  refine kw_icmp_lt 11 dX8_isObject_2 (by decide) (k32i (by omega)) (k32i (by omega)) (fun h1 => ?_) (fun h1 => ?_)
  · have H := H.1 h1
    refine kw_iload_n dX8_isObject_11 rfl ?_
    refine kw_bipush dX8_isObject_12 (by decide) ?_
    refine kw_icmp_lt 27 dX8_isObject_14 (by decide) (k32i (by omega)) (k32i (by omega)) (fun h2 => ?_) (fun h2 => ?_)
    · have H := H.1 h2
      refine kw_iconst dX8_isObject_27 ?_
      refine k2_zret dX8_isObject_28 rfl (Or.inl rfl) H
    · have H := H.2 h2
      refine kw_iload_n dX8_isObject_17 rfl ?_
      refine kw_bipush dX8_isObject_18 (by decide) ?_
      refine kw_icmp_gt 27 dX8_isObject_20 (by decide) (k32i (by omega)) (k32i (by omega)) (fun h3 => ?_) (fun h3 => ?_)
      · have H := H.1 h3
        refine kw_iconst dX8_isObject_27 ?_
        refine k2_zret dX8_isObject_28 rfl (Or.inl rfl) H
      · have H := H.2 h3
        refine kw_iconst dX8_isObject_23 ?_
        refine kw_goto 28 dX8_isObject_24 (by decide) ?_
        refine k2_zret dX8_isObject_28 rfl (Or.inr rfl) H
  · have H := H.2 h1
    refine kw_iload_n dX8_isObject_5 rfl ?_
    refine kw_bipush dX8_isObject_6 (by decide) ?_
    refine kw_icmp_le 23 dX8_isObject_8 (by decide) (k32i (by omega)) (k32i (by omega)) (fun h4 => ?_) (fun h4 => ?_)
    · have H := H.1 h4
      refine kw_iconst dX8_isObject_23 ?_
      refine kw_goto 28 dX8_isObject_24 (by decide) ?_
      refine k2_zret dX8_isObject_28 rfl (Or.inr rfl) H
    · have H := H.2 h4
      refine kw_iload_n dX8_isObject_11 rfl ?_
      refine kw_bipush dX8_isObject_12 (by decide) ?_
      refine kw_icmp_lt 27 dX8_isObject_14 (by decide) (k32i (by omega)) (k32i (by omega)) (fun h5 => ?_) (fun h5 => ?_)
      · have H := H.1 h5
        refine kw_iconst dX8_isObject_27 ?_
        refine k2_zret dX8_isObject_28 rfl (Or.inl rfl) H
      · have H := H.2 h5
        refine kw_iload_n dX8_isObject_17 rfl ?_
        refine kw_bipush dX8_isObject_18 (by decide) ?_
        refine kw_icmp_gt 27 dX8_isObject_20 (by decide) (k32i (by omega)) (k32i (by omega)) (fun h6 => ?_) (fun h6 => ?_)
        · have H := H.1 h6
          refine kw_iconst dX8_isObject_27 ?_
          refine k2_zret dX8_isObject_28 rfl (Or.inl rfl) H
        · have H := H.2 h6
          refine kw_iconst dX8_isObject_23 ?_
          refine kw_goto 28 dX8_isObject_24 (by decide) ?_
          refine k2_zret dX8_isObject_28 rfl (Or.inr rfl) H
set_option maxRecDepth 4000 in
theorem v_X8_isMirror {G : KG} {S0 : KSh} (hL : kLay S0) {d : Nat} {P : Option AV → KMem → Prop} {c : KMem} {x0 : Int} (r0 : -2147483648 ≤ x0 ∧ x0 < 2147483648) (H : (x0 = 3 → (P (some (kI 1)) c)) ∧ (x0 ≠ 3 → ((x0 = 6 → (P (some (kI 1)) c)) ∧ (x0 ≠ 6 → ((x0 = 13 → (P (some (kI 1)) c)) ∧ (x0 ≠ 13 → ((x0 ≠ 16 → (P (some (kI 0)) c)) ∧ (x0 = 16 → (P (some (kI 1)) c))))))))) : kC2 G S0 kM_X8_isMirror d [kI x0] c P := by
  refine k2_met (by decide) rfl (Nat.le_of_ble_eq_true rfl) (l0 := [some (kI x0)]) rfl ?_
  refine kw_iload_n dX8_isMirror_0 rfl ?_
  refine kw_iconst dX8_isMirror_1 ?_
  refine kw_icmp_eq 23 dX8_isMirror_2 (by decide) (k32i (by omega)) (k32i (by omega)) (fun h1 => ?_) (fun h1 => ?_)
  · have H := H.1 h1
    refine kw_iconst dX8_isMirror_23 ?_
    refine kw_goto 28 dX8_isMirror_24 (by decide) ?_
    refine k2_zret dX8_isMirror_28 rfl (Or.inr rfl) H
  · have H := H.2 h1
    refine kw_iload_n dX8_isMirror_5 rfl ?_
    refine kw_bipush dX8_isMirror_6 (by decide) ?_
    refine kw_icmp_eq 23 dX8_isMirror_8 (by decide) (k32i (by omega)) (k32i (by omega)) (fun h2 => ?_) (fun h2 => ?_)
    · have H := H.1 h2
      refine kw_iconst dX8_isMirror_23 ?_
      refine kw_goto 28 dX8_isMirror_24 (by decide) ?_
      refine k2_zret dX8_isMirror_28 rfl (Or.inr rfl) H
    · have H := H.2 h2
      refine kw_iload_n dX8_isMirror_11 rfl ?_
      refine kw_bipush dX8_isMirror_12 (by decide) ?_
      refine kw_icmp_eq 23 dX8_isMirror_14 (by decide) (k32i (by omega)) (k32i (by omega)) (fun h3 => ?_) (fun h3 => ?_)
      · have H := H.1 h3
        refine kw_iconst dX8_isMirror_23 ?_
        refine kw_goto 28 dX8_isMirror_24 (by decide) ?_
        refine k2_zret dX8_isMirror_28 rfl (Or.inr rfl) H
      · have H := H.2 h3
        refine kw_iload_n dX8_isMirror_17 rfl ?_
        refine kw_bipush dX8_isMirror_18 (by decide) ?_
        refine kw_icmp_ne 27 dX8_isMirror_20 (by decide) (k32i (by omega)) (k32i (by omega)) (fun h4 => ?_) (fun h4 => ?_)
        · have H := H.1 h4
          refine kw_iconst dX8_isMirror_27 ?_
          refine k2_zret dX8_isMirror_28 rfl (Or.inl rfl) H
        · have H := H.2 h4
          refine kw_iconst dX8_isMirror_23 ?_
          refine kw_goto 28 dX8_isMirror_24 (by decide) ?_
          refine k2_zret dX8_isMirror_28 rfl (Or.inr rfl) H
set_option maxRecDepth 4000 in
theorem v_X8_hasMiddle {G : KG} {S0 : KSh} (hL : kLay S0) {d : Nat} {P : Option AV → KMem → Prop} {c : KMem} {x0 : Int} (r0 : -2147483648 ≤ x0 ∧ x0 < 2147483648) (H : (x0 < 2 → ((x0 < 12 → (P (some (kI 0)) c)) ∧ (12 ≤ x0 → ((14 < x0 → (P (some (kI 0)) c)) ∧ (x0 ≤ 14 → (P (some (kI 1)) c)))))) ∧ (2 ≤ x0 → ((x0 ≤ 4 → (P (some (kI 1)) c)) ∧ (4 < x0 → ((x0 < 12 → (P (some (kI 0)) c)) ∧ (12 ≤ x0 → ((14 < x0 → (P (some (kI 0)) c)) ∧ (x0 ≤ 14 → (P (some (kI 1)) c))))))))) : kC2 G S0 kM_X8_hasMiddle d [kI x0] c P := by
  refine k2_met (by decide) rfl (Nat.le_of_ble_eq_true rfl) (l0 := [some (kI x0)]) rfl ?_
  refine kw_iload_n dX8_hasMiddle_0 rfl ?_
  refine kw_iconst dX8_hasMiddle_1 ?_
  refine kw_icmp_lt 10 dX8_hasMiddle_2 (by decide) (k32i (by omega)) (k32i (by omega)) (fun h1 => ?_) (fun h1 => ?_)
  · have H := H.1 h1
    refine kw_iload_n dX8_hasMiddle_10 rfl ?_
    refine kw_bipush dX8_hasMiddle_11 (by decide) ?_
    refine kw_icmp_lt 26 dX8_hasMiddle_13 (by decide) (k32i (by omega)) (k32i (by omega)) (fun h2 => ?_) (fun h2 => ?_)
    · have H := H.1 h2
      refine kw_iconst dX8_hasMiddle_26 ?_
      refine k2_zret dX8_hasMiddle_27 rfl (Or.inl rfl) H
    · have H := H.2 h2
      refine kw_iload_n dX8_hasMiddle_16 rfl ?_
      refine kw_bipush dX8_hasMiddle_17 (by decide) ?_
      refine kw_icmp_gt 26 dX8_hasMiddle_19 (by decide) (k32i (by omega)) (k32i (by omega)) (fun h3 => ?_) (fun h3 => ?_)
      · have H := H.1 h3
        refine kw_iconst dX8_hasMiddle_26 ?_
        refine k2_zret dX8_hasMiddle_27 rfl (Or.inl rfl) H
      · have H := H.2 h3
        refine kw_iconst dX8_hasMiddle_22 ?_
        refine kw_goto 27 dX8_hasMiddle_23 (by decide) ?_
        refine k2_zret dX8_hasMiddle_27 rfl (Or.inr rfl) H
  · have H := H.2 h1
    refine kw_iload_n dX8_hasMiddle_5 rfl ?_
    refine kw_iconst dX8_hasMiddle_6 ?_
    refine kw_icmp_le 22 dX8_hasMiddle_7 (by decide) (k32i (by omega)) (k32i (by omega)) (fun h4 => ?_) (fun h4 => ?_)
    · have H := H.1 h4
      refine kw_iconst dX8_hasMiddle_22 ?_
      refine kw_goto 27 dX8_hasMiddle_23 (by decide) ?_
      refine k2_zret dX8_hasMiddle_27 rfl (Or.inr rfl) H
    · have H := H.2 h4
      refine kw_iload_n dX8_hasMiddle_10 rfl ?_
      refine kw_bipush dX8_hasMiddle_11 (by decide) ?_
      refine kw_icmp_lt 26 dX8_hasMiddle_13 (by decide) (k32i (by omega)) (k32i (by omega)) (fun h5 => ?_) (fun h5 => ?_)
      · have H := H.1 h5
        refine kw_iconst dX8_hasMiddle_26 ?_
        refine k2_zret dX8_hasMiddle_27 rfl (Or.inl rfl) H
      · have H := H.2 h5
        refine kw_iload_n dX8_hasMiddle_16 rfl ?_
        refine kw_bipush dX8_hasMiddle_17 (by decide) ?_
        refine kw_icmp_gt 26 dX8_hasMiddle_19 (by decide) (k32i (by omega)) (k32i (by omega)) (fun h6 => ?_) (fun h6 => ?_)
        · have H := H.1 h6
          refine kw_iconst dX8_hasMiddle_26 ?_
          refine k2_zret dX8_hasMiddle_27 rfl (Or.inl rfl) H
        · have H := H.2 h6
          refine kw_iconst dX8_hasMiddle_22 ?_
          refine kw_goto 27 dX8_hasMiddle_23 (by decide) ?_
          refine k2_zret dX8_hasMiddle_27 rfl (Or.inr rfl) H
set_option maxRecDepth 4000 in
theorem v_X8_isPair {G : KG} {S0 : KSh} (hL : kLay S0) {d : Nat} {P : Option AV → KMem → Prop} {c : KMem} {x0 : Int} (r0 : -2147483648 ≤ x0 ∧ x0 < 2147483648) (H : (x0 < 20 → (P (some (kI 0)) c)) ∧ (20 ≤ x0 → ((22 < x0 → (P (some (kI 0)) c)) ∧ (x0 ≤ 22 → (P (some (kI 1)) c))))) : kC2 G S0 kM_X8_isPair d [kI x0] c P := by
  refine k2_met (by decide) rfl (Nat.le_of_ble_eq_true rfl) (l0 := [some (kI x0)]) rfl ?_
  refine kw_iload_n dX8_isPair_0 rfl ?_
  refine kw_bipush dX8_isPair_1 (by decide) ?_
  refine kw_icmp_lt 16 dX8_isPair_3 (by decide) (k32i (by omega)) (k32i (by omega)) (fun h1 => ?_) (fun h1 => ?_)
  · have H := H.1 h1
    refine kw_iconst dX8_isPair_16 ?_
    refine k2_zret dX8_isPair_17 rfl (Or.inl rfl) H
  · have H := H.2 h1
    refine kw_iload_n dX8_isPair_6 rfl ?_
    refine kw_bipush dX8_isPair_7 (by decide) ?_
    refine kw_icmp_gt 16 dX8_isPair_9 (by decide) (k32i (by omega)) (k32i (by omega)) (fun h2 => ?_) (fun h2 => ?_)
    · have H := H.1 h2
      refine kw_iconst dX8_isPair_16 ?_
      refine k2_zret dX8_isPair_17 rfl (Or.inl rfl) H
    · have H := H.2 h2
      refine kw_iconst dX8_isPair_12 ?_
      refine kw_goto 17 dX8_isPair_13 (by decide) ?_
      refine k2_zret dX8_isPair_17 rfl (Or.inr rfl) H
section CSH
variable {G : KG} {S0 : KSh} {d : Nat} {P : Option AV → KMem → Prop} {c : KMem} {x0 x1 x2 x3 x4 : Int} {f g : KF} {M : Int}
theorem s_X8_isObject (hL : kLay S0) (r0 : k32 x0) (h1 : kObj x0 → P (some (kI 1)) c) (h0 : ¬ kObj x0 → P (some (kI 0)) c) : kC2 G S0 kM_X8_isObject d [kI x0] c P := by
  unfold kObj at h1 h0
  exact v_X8_isObject hL r0 ⟨fun a => ⟨fun b => h0 (by omega), fun b => ⟨fun e => h0 (by omega), fun e => h1 (by omega)⟩⟩, fun a => ⟨fun b => h1 (by omega), fun b => ⟨fun e => h0 (by omega), fun e => ⟨fun z => h0 (by omega), fun z => h1 (by omega)⟩⟩⟩⟩
theorem s_X8_isMirror (hL : kLay S0) (r0 : k32 x0) (h1 : kMir x0 → P (some (kI 1)) c) (h0 : ¬ kMir x0 → P (some (kI 0)) c) : kC2 G S0 kM_X8_isMirror d [kI x0] c P := by
  unfold kMir at h1 h0
  exact v_X8_isMirror hL r0 ⟨fun a => h1 (by omega), fun a => ⟨fun b => h1 (by omega), fun b => ⟨fun e => h1 (by omega), fun e => ⟨fun z => h0 (by omega), fun z => h1 (by omega)⟩⟩⟩⟩
theorem s_X8_hasMiddle (hL : kLay S0) (r0 : k32 x0) (h1 : kMid x0 → P (some (kI 1)) c) (h0 : ¬ kMid x0 → P (some (kI 0)) c) : kC2 G S0 kM_X8_hasMiddle d [kI x0] c P := by
  unfold kMid at h1 h0
  exact v_X8_hasMiddle hL r0 ⟨fun a => ⟨fun b => h0 (by omega), fun b => ⟨fun e => h0 (by omega), fun e => h1 (by omega)⟩⟩, fun a => ⟨fun b => h1 (by omega), fun b => ⟨fun e => h0 (by omega), fun e => ⟨fun z => h0 (by omega), fun z => h1 (by omega)⟩⟩⟩⟩
theorem s_X8_isPair (hL : kLay S0) (r0 : k32 x0) (h1 : (20 ≤ x0 ∧ x0 ≤ 22) → P (some (kI 1)) c) (h0 : ¬ (20 ≤ x0 ∧ x0 ≤ 22) → P (some (kI 0)) c) : kC2 G S0 kM_X8_isPair d [kI x0] c P :=
  v_X8_isPair hL r0 ⟨fun a => h0 (by omega), fun a => ⟨fun b => h0 (by omega), fun b => h1 (by omega)⟩⟩
end CSH
set_option maxRecDepth 4000 in
theorem v_X8_canBear {G : KG} {S0 : KSh} (hL : kLay S0) {d : Nat} {P : Option AV → KMem → Prop} {c : KMem} {x0 : Int} (r0 : -2147483648 ≤ x0 ∧ x0 < 2147483648) (H : ((kObj x0) → (P (some (kI 1)) c)) ∧ (¬ (kObj x0) → (((20 ≤ x0 ∧ x0 ≤ 22) → (P (some (kI 1)) c)) ∧ (¬ (20 ≤ x0 ∧ x0 ≤ 22) → ((x0 ≠ 8 → (P (some (kI 0)) c)) ∧ (x0 = 8 → (P (some (kI 1)) c))))))) : kC2 G S0 kM_X8_canBear (d + 1) [kI x0] c P := by
  refine k2_met (by decide) rfl (Nat.le_of_ble_eq_true rfl) (l0 := [some (kI x0)]) rfl ?_
  refine kw_iload_n dX8_canBear_0 rfl ?_
  refine k2_callS1I m_X8_isObject dX8_canBear_1 wl_X8_46 (Nat.le_of_ble_eq_true rfl) (s_X8_isObject hL (k32i (by omega)) (fun h1 => ⟨_, rfl, ?_⟩) (fun h1 => ⟨_, rfl, ?_⟩))
  · have H := H.1 h1
    refine kw_if_ne 20 dX8_canBear_4 (by decide) (k32i (by omega)) (fun _ => ?_) (fun h2 => absurd h2 (by decide))
    refine kw_iconst dX8_canBear_20 ?_
    refine kw_goto 25 dX8_canBear_21 (by decide) ?_
    refine k2_zret dX8_canBear_25 rfl (Or.inr rfl) H
  · have H := H.2 h1
    refine kw_if_ne 20 dX8_canBear_4 (by decide) (k32i (by omega)) (fun h3 => absurd h3 (by decide)) (fun _ => ?_)
    refine kw_iload_n dX8_canBear_7 rfl ?_
    refine k2_callS1I m_X8_isPair dX8_canBear_8 wl_X8_50 (Nat.le_of_ble_eq_true rfl) (s_X8_isPair hL (k32i (by omega)) (fun h4 => ⟨_, rfl, ?_⟩) (fun h4 => ⟨_, rfl, ?_⟩))
    · have H := H.1 h4
      refine kw_if_ne 20 dX8_canBear_11 (by decide) (k32i (by omega)) (fun _ => ?_) (fun h5 => absurd h5 (by decide))
      refine kw_iconst dX8_canBear_20 ?_
      refine kw_goto 25 dX8_canBear_21 (by decide) ?_
      refine k2_zret dX8_canBear_25 rfl (Or.inr rfl) H
    · have H := H.2 h4
      refine kw_if_ne 20 dX8_canBear_11 (by decide) (k32i (by omega)) (fun h6 => absurd h6 (by decide)) (fun _ => ?_)
      refine kw_iload_n dX8_canBear_14 rfl ?_
      refine kw_bipush dX8_canBear_15 (by decide) ?_
      refine kw_icmp_ne 24 dX8_canBear_17 (by decide) (k32i (by omega)) (k32i (by omega)) (fun h7 => ?_) (fun h7 => ?_)
      · have H := H.1 h7
        refine kw_iconst dX8_canBear_24 ?_
        refine k2_zret dX8_canBear_25 rfl (Or.inl rfl) H
      · have H := H.2 h7
        refine kw_iconst dX8_canBear_20 ?_
        refine kw_goto 25 dX8_canBear_21 (by decide) ?_
        refine k2_zret dX8_canBear_25 rfl (Or.inr rfl) H
set_option maxRecDepth 4000 in
theorem v_X8_gradesOf {G : KG} {S0 : KSh} (hL : kLay S0) {d : Nat} {P : Option AV → KMem → Prop} {c : KMem} {x0 : Int} (hx0 : S0.2.1 x0 = (2, 16)) (H : kW2 G S0 kM_X8_gradesOf (d + 1) 4 [some (kA x0), some (kI 0), some (kI 0)] [] c P) : kC2 G S0 kM_X8_gradesOf (d + 1) [kA x0] c P := by
  refine k2_met (by decide) rfl (Nat.le_of_ble_eq_true rfl) (l0 := [some (kA x0), none, none]) rfl ?_
  refine kw_iconst dX8_gradesOf_0 ?_
  refine kw_istore_n dX8_gradesOf_1 (Nat.le_of_ble_eq_true rfl) ?_
  refine kw_iconst dX8_gradesOf_2 ?_
  refine kw_istore_n dX8_gradesOf_3 (Nat.le_of_ble_eq_true rfl) ?_
  exact kw_forget (ls' := [some (kA x0), some (kI 0), some (kI 0)]) ⟨Or.inr rfl, ⟨Or.inr rfl, ⟨Or.inr rfl, trivial⟩⟩⟩ H
set_option maxRecDepth 4000 in
theorem v_X8_gradesOf_4 {G : KG} {S0 : KSh} (hL : kLay S0) {d : Nat} {P : Option AV → KMem → Prop} {c : KMem} {x0 x1 x2 : Int} (hx0 : S0.2.1 x0 = (2, 16)) (r1 : -2147483648 ≤ x1 ∧ x1 < 2147483648) (r2 : 0 ≤ x2 ∧ x2 < 2147483648) (H : (16 ≤ x2 → (P (some (kI x1)) c)) ∧ (x2 < 16 → ((k64 (c x0 x2)) ∧ (((c x0 x2) = 0 → (kW2 G S0 kM_X8_gradesOf (d + 1) 4 [some (kA x0), some (kI x1), some (kI (x2 + 1))] [] c P)) ∧ ((c x0 x2) ≠ 0 → (kW2 G S0 kM_X8_gradesOf (d + 1) 4 [some (kA x0), some (kI (kor x1 (kshl 1 (kpop (Int.toNat x2) : Int)))), some (kI (x2 + 1))] [] c P)))))) : kW2 G S0 kM_X8_gradesOf (d + 1) 4 [some (kA x0), some (kI x1), some (kI x2)] [] c P := by
  refine kw_iload_n dX8_gradesOf_4 rfl ?_
  refine kw_bipush dX8_gradesOf_5 (by decide) ?_
  refine kw_icmp_ge 33 dX8_gradesOf_7 (by decide) (k32i (by omega)) (k32i (by omega)) (fun h1 => ?_) (fun h1 => ?_)
  · have H := H.1 h1
    refine kw_iload_n dX8_gradesOf_33 rfl ?_
    refine k2_iret dX8_gradesOf_34 rfl H
  · have H := H.2 h1
    refine kw_aload_n dX8_gradesOf_10 rfl ?_
    refine kw_iload_n dX8_gradesOf_11 rfl ?_
    refine k2_lald dX8_gradesOf_12 hx0 (by omega) (by omega) ?_
    refine kw_lconst0 dX8_gradesOf_13 ?_
    have o2 := H.1
    have H := H.2
    refine kw_lcmp_eq 27 dX8_gradesOf_14 dX8_gradesOf_15 (by decide) o2 (k64i (by omega)) (fun h3 => ?_) (fun h3 => ?_)
    · have H := H.1 h3
      refine kw_iinc dX8_gradesOf_27 rfl ?_
      refine kw_goto 4 dX8_gradesOf_30 (by decide) ?_
      exact kw_forget (ls' := [some (kA x0), some (kI x1), some (kI (x2 + 1))]) ⟨Or.inr rfl, ⟨Or.inr rfl, ⟨Or.inr rfl, trivial⟩⟩⟩ H
    · have H := H.2 h3
      refine kw_iload_n dX8_gradesOf_18 rfl ?_
      refine kw_iconst dX8_gradesOf_19 ?_
      refine kw_iload_n dX8_gradesOf_20 rfl ?_
      refine k2_callS1I m_J6_bitCount_0f7a4 dX8_gradesOf_21 wl_X8_9 (Nat.le_of_ble_eq_true rfl) (s_bitCount hL (by omega) ⟨_, rfl, ?_⟩)
      refine kw_ishl dX8_gradesOf_24 ?_
      refine kw_ior dX8_gradesOf_25 ?_
      refine kw_istore_n dX8_gradesOf_26 (Nat.le_of_ble_eq_true rfl) ?_
      refine kw_iinc dX8_gradesOf_27 rfl ?_
      refine kw_goto 4 dX8_gradesOf_30 (by decide) ?_
      exact kw_forget (ls' := [some (kA x0), some (kI (kor x1 (kshl 1 (kpop (Int.toNat x2) : Int)))), some (kI (x2 + 1))]) ⟨Or.inr rfl, ⟨Or.inr rfl, ⟨Or.inr rfl, trivial⟩⟩⟩ H
set_option maxRecDepth 4000 in
theorem v_X8_kindOfVector {G : KG} {S0 : KSh} (hL : kLay S0) {d : Nat} {P : Option AV → KMem → Prop} {c : KMem} {x0 x2 x4 x6 : Int}  (H : (k64 x4) ∧ ((k64 x6) ∧ ((x4 ≠ x6 → ((k64 ((((x0 * x0) + (x2 * x2)) + (x4 * x4)) - (x6 * x6))) ∧ ((((((x0 * x0) + (x2 * x2)) + (x4 * x4)) - (x6 * x6)) ≠ 0 → ((((((x0 * x0) + (x2 * x2)) + (x4 * x4)) - (x6 * x6)) ≤ 0 → (P (some (kI 4)) c)) ∧ (0 < ((((x0 * x0) + (x2 * x2)) + (x4 * x4)) - (x6 * x6)) → (P (some (kI 3)) c)))) ∧ (((((x0 * x0) + (x2 * x2)) + (x4 * x4)) - (x6 * x6)) = 0 → (P (some (kI 2)) c))))) ∧ (x4 = x6 → ((k64 x0) ∧ ((x0 ≠ 0 → (P (some (kI 6)) c)) ∧ (x0 = 0 → ((k64 x2) ∧ ((x2 = 0 → (P (some (kI 5)) c)) ∧ (x2 ≠ 0 → (P (some (kI 6)) c))))))))))) : kC2 G S0 kM_X8_kindOfVector d [kL x0, kL x2, kL x4, kL x6] c P := by
  refine k2_met (by decide) rfl (Nat.le_of_ble_eq_true rfl) (l0 := [some (kL x0), none, some (kL x2), none, some (kL x4), none, some (kL x6), none, none, none]) rfl ?_
  refine kw_lload dX8_kindOfVector_0 rfl ?_
  refine kw_lload dX8_kindOfVector_2 rfl ?_
  have o1 := H.1
  have H := H.2
  have o2 := H.1
  have H := H.2
  refine kw_lcmp_ne 27 dX8_kindOfVector_4 dX8_kindOfVector_5 (by decide) o1 o2 (fun h3 => ?_) (fun h3 => ?_)
  · have H := H.1 h3
    refine kw_lload_n dX8_kindOfVector_27 rfl ?_
    refine kw_lload_n dX8_kindOfVector_28 rfl ?_
    refine kw_lmul dX8_kindOfVector_29 ?_
    refine kw_lload_n dX8_kindOfVector_30 rfl ?_
    refine kw_lload_n dX8_kindOfVector_31 rfl ?_
    refine kw_lmul dX8_kindOfVector_32 ?_
    refine kw_ladd dX8_kindOfVector_33 ?_
    refine kw_lload dX8_kindOfVector_34 rfl ?_
    refine kw_lload dX8_kindOfVector_36 rfl ?_
    refine kw_lmul dX8_kindOfVector_38 ?_
    refine kw_ladd dX8_kindOfVector_39 ?_
    refine kw_lload dX8_kindOfVector_40 rfl ?_
    refine kw_lload dX8_kindOfVector_42 rfl ?_
    refine kw_lmul dX8_kindOfVector_44 ?_
    refine kw_lsub dX8_kindOfVector_45 ?_
    refine kw_lstore dX8_kindOfVector_46 (Nat.le_of_ble_eq_true rfl) ?_
    refine kw_lload dX8_kindOfVector_48 rfl ?_
    refine kw_lconst0 dX8_kindOfVector_50 ?_
    have o4 := H.1
    have H := H.2
    refine kw_lcmp_ne 57 dX8_kindOfVector_51 dX8_kindOfVector_52 (by decide) o4 (k64i (by omega)) (fun h5 => ?_) (fun h5 => ?_)
    · have H := H.1 h5
      refine kw_lload dX8_kindOfVector_57 rfl ?_
      refine kw_lconst0 dX8_kindOfVector_59 ?_
      refine kw_lcmp_le 68 dX8_kindOfVector_60 dX8_kindOfVector_61 (by decide) o4 (k64i (by omega)) (fun h6 => ?_) (fun h6 => ?_)
      · have H := H.1 h6
        refine kw_iconst dX8_kindOfVector_68 ?_
        refine k2_iret dX8_kindOfVector_69 rfl H
      · have H := H.2 h6
        refine kw_iconst dX8_kindOfVector_64 ?_
        refine kw_goto 69 dX8_kindOfVector_65 (by decide) ?_
        refine k2_iret dX8_kindOfVector_69 rfl H
    · have H := H.2 h5
      refine kw_iconst dX8_kindOfVector_55 ?_
      refine k2_iret dX8_kindOfVector_56 rfl H
  · have H := H.2 h3
    refine kw_lload_n dX8_kindOfVector_8 rfl ?_
    refine kw_lconst0 dX8_kindOfVector_9 ?_
    have o7 := H.1
    have H := H.2
    refine kw_lcmp_ne 20 dX8_kindOfVector_10 dX8_kindOfVector_11 (by decide) o7 (k64i (by omega)) (fun h8 => ?_) (fun h8 => ?_)
    · have H := H.1 h8
      refine kw_bipush dX8_kindOfVector_20 (by decide) ?_
      refine kw_goto 26 dX8_kindOfVector_22 (by decide) ?_
      refine k2_iret dX8_kindOfVector_26 rfl H
    · have H := H.2 h8
      refine kw_lload_n dX8_kindOfVector_14 rfl ?_
      refine kw_lconst0 dX8_kindOfVector_15 ?_
      have o9 := H.1
      have H := H.2
      refine kw_lcmp_eq 25 dX8_kindOfVector_16 dX8_kindOfVector_17 (by decide) o9 (k64i (by omega)) (fun h10 => ?_) (fun h10 => ?_)
      · have H := H.1 h10
        refine kw_iconst dX8_kindOfVector_25 ?_
        refine k2_iret dX8_kindOfVector_26 rfl H
      · have H := H.2 h10
        refine kw_bipush dX8_kindOfVector_20 (by decide) ?_
        refine kw_goto 26 dX8_kindOfVector_22 (by decide) ?_
        refine k2_iret dX8_kindOfVector_26 rfl H
set_option maxRecDepth 4000 in
theorem v_X8_isOnFarOne {G : KG} {S0 : KSh} (hL : kLay S0) {d : Nat} {P : Option AV → KMem → Prop} {c : KMem} {x0 : Int} (hx0 : S0.2.1 x0 = (2, 16)) (H : (k64 (c x0 3)) ∧ (((c x0 3) ≠ 0 → (P (some (kI 0)) c)) ∧ ((c x0 3) = 0 → ((k64 (c x0 5)) ∧ ((k64 (c x0 9)) ∧ (((c x0 5) ≠ (c x0 9) → (P (some (kI 0)) c)) ∧ ((c x0 5) = (c x0 9) → ((k64 (c x0 6)) ∧ ((k64 (c x0 10)) ∧ (((c x0 6) ≠ (c x0 10) → (P (some (kI 0)) c)) ∧ ((c x0 6) = (c x0 10) → (P (some (kI 1)) c)))))))))))) : kC2 G S0 kM_X8_isOnFarOne d [kA x0] c P := by
  refine k2_met (by decide) rfl (Nat.le_of_ble_eq_true rfl) (l0 := [some (kA x0)]) rfl ?_
  refine kw_aload_n dX8_isOnFarOne_0 rfl ?_
  refine kw_iconst dX8_isOnFarOne_1 ?_
  refine k2_lald dX8_isOnFarOne_2 hx0 (by omega) (by omega) ?_
  refine kw_lconst0 dX8_isOnFarOne_3 ?_
  have o1 := H.1
  have H := H.2
  refine kw_lcmp_ne 35 dX8_isOnFarOne_4 dX8_isOnFarOne_5 (by decide) o1 (k64i (by omega)) (fun h2 => ?_) (fun h2 => ?_)
  · have H := H.1 h2
    refine kw_iconst dX8_isOnFarOne_35 ?_
    refine k2_zret dX8_isOnFarOne_36 rfl (Or.inl rfl) H
  · have H := H.2 h2
    refine kw_aload_n dX8_isOnFarOne_8 rfl ?_
    refine kw_iconst dX8_isOnFarOne_9 ?_
    refine k2_lald dX8_isOnFarOne_10 hx0 (by omega) (by omega) ?_
    refine kw_aload_n dX8_isOnFarOne_11 rfl ?_
    refine kw_bipush dX8_isOnFarOne_12 (by decide) ?_
    refine k2_lald dX8_isOnFarOne_14 hx0 (by omega) (by omega) ?_
    have o3 := H.1
    have H := H.2
    have o4 := H.1
    have H := H.2
    refine kw_lcmp_ne 35 dX8_isOnFarOne_15 dX8_isOnFarOne_16 (by decide) o3 o4 (fun h5 => ?_) (fun h5 => ?_)
    · have H := H.1 h5
      refine kw_iconst dX8_isOnFarOne_35 ?_
      refine k2_zret dX8_isOnFarOne_36 rfl (Or.inl rfl) H
    · have H := H.2 h5
      refine kw_aload_n dX8_isOnFarOne_19 rfl ?_
      refine kw_bipush dX8_isOnFarOne_20 (by decide) ?_
      refine k2_lald dX8_isOnFarOne_22 hx0 (by omega) (by omega) ?_
      refine kw_aload_n dX8_isOnFarOne_23 rfl ?_
      refine kw_bipush dX8_isOnFarOne_24 (by decide) ?_
      refine k2_lald dX8_isOnFarOne_26 hx0 (by omega) (by omega) ?_
      have o6 := H.1
      have H := H.2
      have o7 := H.1
      have H := H.2
      refine kw_lcmp_ne 35 dX8_isOnFarOne_27 dX8_isOnFarOne_28 (by decide) o6 o7 (fun h8 => ?_) (fun h8 => ?_)
      · have H := H.1 h8
        refine kw_iconst dX8_isOnFarOne_35 ?_
        refine k2_zret dX8_isOnFarOne_36 rfl (Or.inl rfl) H
      · have H := H.2 h8
        refine kw_iconst dX8_isOnFarOne_31 ?_
        refine kw_goto 36 dX8_isOnFarOne_32 (by decide) ?_
        refine k2_zret dX8_isOnFarOne_36 rfl (Or.inr rfl) H
set_option maxRecDepth 4000 in
theorem v_X8_kindOfPair {G : KG} {S0 : KSh} (hL : kLay S0) {d : Nat} {P : Option AV → KMem → Prop} {c : KMem} {x0 : Int} (hx0 : S0.2.1 x0 = (2, 16)) (H : kC2 G S0 kM_X0_isOuterZero (d + 2) [kA x0, kA x0] c (kRI (fun z1 c2 => (k32 z1) ∧ ((z1 ≠ 0 → (kC2 G S0 kM_X8_isOnFarOne (d + 2) [kA x0] c2 (kRI (fun z5 c6 => (k32 z5) ∧ ((z5 = 0 → (kC2 G S0 kM_X0_square (d + 2) [kA x0] c6 (kRL (fun z9 c10 => (k64 z9) ∧ ((z9 ≤ 0 → ((z9 ≠ 0 → (P (some (kI 22)) c10)) ∧ (z9 = 0 → (P (some (kI 21)) c10)))) ∧ (0 < z9 → (P (some (kI 20)) c10))))))) ∧ (z5 ≠ 0 → (P (some (kI 8)) c6))))))) ∧ (z1 = 0 → (P (some (kI 9)) c2)))))) : kC2 G S0 kM_X8_kindOfPair (d + 3) [kA x0] c P := by
  refine k2_met (by decide) rfl (Nat.le_of_ble_eq_true rfl) (l0 := [some (kA x0), none, none]) rfl ?_
  refine kw_aload_n dX8_kindOfPair_0 rfl ?_
  refine kw_aload_n dX8_kindOfPair_1 rfl ?_
  refine k2_callS2I m_X0_isOuterZero dX8_kindOfPair_2 wl_X8_32 (Nat.le_of_ble_eq_true rfl) (kC2_mono H (fun r c2 H => ?_))
  obtain ⟨z1, rfl, H⟩ := H
  refine ⟨z1, rfl, ?_⟩
  have o4 := H.1
  have H := H.2
  refine kw_if_ne 11 dX8_kindOfPair_5 (by decide) o4 (fun h3 => ?_) (fun h3 => ?_)
  · have H := H.1 h3
    refine kw_aload_n dX8_kindOfPair_11 rfl ?_
    refine k2_callS1I m_X8_isOnFarOne dX8_kindOfPair_12 wl_X8_38 (Nat.le_of_ble_eq_true rfl) (kC2_mono H (fun r c6 H => ?_))
    obtain ⟨z5, rfl, H⟩ := H
    refine ⟨z5, rfl, ?_⟩
    have o8 := H.1
    have H := H.2
    refine kw_if_eq 21 dX8_kindOfPair_15 (by decide) o8 (fun h7 => ?_) (fun h7 => ?_)
    · have H := H.1 h7
      refine kw_aload_n dX8_kindOfPair_21 rfl ?_
      refine k2_callS1L m_X0_square dX8_kindOfPair_22 wl_X8_42 (Nat.le_of_ble_eq_true rfl) (kC2_mono H (fun r c10 H => ?_))
      obtain ⟨z9, rfl, H⟩ := H
      refine ⟨z9, rfl, ?_⟩
      refine kw_lstore_n dX8_kindOfPair_25 (Nat.le_of_ble_eq_true rfl) ?_
      refine kw_lload_n dX8_kindOfPair_26 rfl ?_
      refine kw_lconst0 dX8_kindOfPair_27 ?_
      have o11 := H.1
      have H := H.2
      refine kw_lcmp_le 35 dX8_kindOfPair_28 dX8_kindOfPair_29 (by decide) o11 (k64i (by omega)) (fun h12 => ?_) (fun h12 => ?_)
      · have H := H.1 h12
        refine kw_lload_n dX8_kindOfPair_35 rfl ?_
        refine kw_lconst0 dX8_kindOfPair_36 ?_
        refine kw_lcmp_ne 46 dX8_kindOfPair_37 dX8_kindOfPair_38 (by decide) o11 (k64i (by omega)) (fun h13 => ?_) (fun h13 => ?_)
        · have H := H.1 h13
          refine kw_bipush dX8_kindOfPair_46 (by decide) ?_
          refine k2_iret dX8_kindOfPair_48 rfl H
        · have H := H.2 h13
          refine kw_bipush dX8_kindOfPair_41 (by decide) ?_
          refine kw_goto 48 dX8_kindOfPair_43 (by decide) ?_
          refine k2_iret dX8_kindOfPair_48 rfl H
      · have H := H.2 h12
        refine kw_bipush dX8_kindOfPair_32 (by decide) ?_
        refine k2_iret dX8_kindOfPair_34 rfl H
    · have H := H.2 h7
      refine kw_bipush dX8_kindOfPair_18 (by decide) ?_
      refine k2_iret dX8_kindOfPair_20 rfl H
  · have H := H.2 h3
    refine kw_bipush dX8_kindOfPair_8 (by decide) ?_
    refine k2_iret dX8_kindOfPair_10 rfl H
set_option maxRecDepth 4000 in
theorem v_X8_vectorPart {G : KG} {S0 : KSh} (hL : kLay S0) {d : Nat} {P : Option AV → KMem → Prop} {c : KMem} {x0 x1 : Int} (hx0 : S0.2.1 x0 = (2, 16)) (r1 : -2147483648 ≤ x1 ∧ x1 < 2147483648) (hp : 0 ≤ x1 ∧ x1 < 16) (H : kC2 G S0 kM_X8_gradesOf (d + 1) [kA x0] c (kRI (fun z1 c2 => (k32 z1) ∧ ((z1 ≠ 8 → ((0 ≤ (kand x1 15) ∧ (kand x1 15) < 16) ∧ (P (some (kL (c2 x0 (kand x1 15)))) c2))) ∧ (z1 = 8 → (kC2 G S0 kM_X0_timesWholeUnit (d + 1) [kA x0, kI x1] c2 (kRL (fun z6 c7 => P (some (kL (-z6))) c7)))))))) : kC2 G S0 kM_X8_vectorPart (d + 2) [kA x0, kI x1] c P := by
  refine k2_met (by decide) rfl (Nat.le_of_ble_eq_true rfl) (l0 := [some (kA x0), some (kI x1)]) rfl ?_
  refine kw_aload_n dX8_vectorPart_0 rfl ?_
  refine k2_callS1I m_X8_gradesOf dX8_vectorPart_1 wl_X8_15 (Nat.le_of_ble_eq_true rfl) (kC2_mono H (fun r c2 H => ?_))
  obtain ⟨z1, rfl, H⟩ := H
  refine ⟨z1, rfl, ?_⟩
  refine kw_bipush dX8_vectorPart_4 (by decide) ?_
  have o4 := H.1
  have H := H.2
  refine kw_icmp_ne 18 dX8_vectorPart_6 (by decide) o4 (k32i (by omega)) (fun h3 => ?_) (fun h3 => ?_)
  · have H := H.1 h3
    refine kw_aload_n dX8_vectorPart_18 rfl ?_
    refine kw_iload_n dX8_vectorPart_19 rfl ?_
    refine kw_bipush dX8_vectorPart_20 (by decide) ?_
    refine kw_iand dX8_vectorPart_22 ?_
    have o5 := H.1
    have H := H.2
    refine k2_lald dX8_vectorPart_23 hx0 (by omega) o5 ?_
    refine k2_lret dX8_vectorPart_24 rfl H
  · have H := H.2 h3
    refine kw_aload_n dX8_vectorPart_9 rfl ?_
    refine kw_iload_n dX8_vectorPart_10 rfl ?_
    refine k2_callS2L m_X0_timesWholeUnit dX8_vectorPart_11 wl_X8_53 (Nat.le_of_ble_eq_true rfl) (kC2_mono H (fun r c7 H => ?_))
    obtain ⟨z6, rfl, H⟩ := H
    refine ⟨z6, rfl, ?_⟩
    refine kw_lneg dX8_vectorPart_14 ?_
    refine kw_goto 24 dX8_vectorPart_15 (by decide) ?_
    refine k2_lret dX8_vectorPart_24 rfl H
set_option maxRecDepth 4000 in
theorem v_X8_kindOf {G : KG} {S0 : KSh} (hL : kLay S0) {d : Nat} {P : Option AV → KMem → Prop} {c : KMem} {x0 : Int} (hx0 : S0.2.1 x0 = (2, 16)) (H : kC2 G S0 kM_X8_gradesOf (d + 3) [kA x0] c (kRI (fun z1 c2 => (k32 z1) ∧ ((z1 ≠ 0 → ((z1 ≠ 1 → ((z1 ≠ 2 → ((z1 ≠ 8 → ((z1 ≠ 4 → ((z1 ≠ 16 → (((kand z1 10) ≠ 0 → ((z1 ≠ 10 → (P (some (kI 42)) c2)) ∧ (z1 = 10 → (P (some (kI 41)) c2)))) ∧ ((kand z1 10) = 0 → (P (some (kI 40)) c2)))) ∧ (z1 = 16 → (P (some (kI 30)) c2)))) ∧ (z1 = 4 → (kC2 G S0 kM_X8_kindOfPair (d + 3) [kA x0] c2 (kRI (fun z12 c13 => P (some (kI z12)) c13)))))) ∧ (z1 = 8 → (kC2 G S0 kM_X8_vectorPart (d + 3) [kA x0, kI 1] c2 (kRL (fun z14 c15 => kC2 G S0 kM_X8_vectorPart (d + 3) [kA x0, kI 2] c15 (kRL (fun z16 c17 => kC2 G S0 kM_X8_vectorPart (d + 3) [kA x0, kI 4] c17 (kRL (fun z18 c19 => kC2 G S0 kM_X8_vectorPart (d + 3) [kA x0, kI 8] c19 (kRL (fun z20 c21 => kC2 G S0 kM_X8_kindOfVector (d + 3) [kL z14, kL z16, kL z18, kL z20] c21 (kRI (fun z22 c23 => P (some (kI (10 + z22))) c23)))))))))))))) ∧ (z1 = 2 → (kC2 G S0 kM_X8_kindOfVector (d + 3) [kL (c2 x0 1), kL (c2 x0 2), kL (c2 x0 4), kL (c2 x0 8)] c2 (kRI (fun z24 c25 => P (some (kI z24)) c25)))))) ∧ (z1 = 1 → (P (some (kI 1)) c2)))) ∧ (z1 = 0 → (P (some (kI 0)) c2)))))) : kC2 G S0 kM_X8_kindOf (d + 4) [kA x0] c P := by
  refine k2_met (by decide) rfl (Nat.le_of_ble_eq_true rfl) (l0 := [some (kA x0), none]) rfl ?_
  refine kw_aload_n dX8_kindOf_0 rfl ?_
  refine k2_callS1I m_X8_gradesOf dX8_kindOf_1 wl_X8_15 (Nat.le_of_ble_eq_true rfl) (kC2_mono H (fun r c2 H => ?_))
  obtain ⟨z1, rfl, H⟩ := H
  refine ⟨z1, rfl, ?_⟩
  refine kw_istore_n dX8_kindOf_4 (Nat.le_of_ble_eq_true rfl) ?_
  refine kw_iload_n dX8_kindOf_5 rfl ?_
  have o4 := H.1
  have H := H.2
  refine kw_if_ne 11 dX8_kindOf_6 (by decide) o4 (fun h3 => ?_) (fun h3 => ?_)
  · have H := H.1 h3
    refine kw_iload_n dX8_kindOf_11 rfl ?_
    refine kw_iconst dX8_kindOf_12 ?_
    refine kw_icmp_ne 18 dX8_kindOf_13 (by decide) o4 (k32i (by omega)) (fun h5 => ?_) (fun h5 => ?_)
    · have H := H.1 h5
      refine kw_iload_n dX8_kindOf_18 rfl ?_
      refine kw_iconst dX8_kindOf_19 ?_
      refine kw_icmp_ne 40 dX8_kindOf_20 (by decide) o4 (k32i (by omega)) (fun h6 => ?_) (fun h6 => ?_)
      · have H := H.1 h6
        refine kw_iload_n dX8_kindOf_40 rfl ?_
        refine kw_bipush dX8_kindOf_41 (by decide) ?_
        refine kw_icmp_ne 74 dX8_kindOf_43 (by decide) o4 (k32i (by omega)) (fun h7 => ?_) (fun h7 => ?_)
        · have H := H.1 h7
          refine kw_iload_n dX8_kindOf_74 rfl ?_
          refine kw_iconst dX8_kindOf_75 ?_
          refine kw_icmp_ne 84 dX8_kindOf_76 (by decide) o4 (k32i (by omega)) (fun h8 => ?_) (fun h8 => ?_)
          · have H := H.1 h8
            refine kw_iload_n dX8_kindOf_84 rfl ?_
            refine kw_bipush dX8_kindOf_85 (by decide) ?_
            refine kw_icmp_ne 93 dX8_kindOf_87 (by decide) o4 (k32i (by omega)) (fun h9 => ?_) (fun h9 => ?_)
            · have H := H.1 h9
              refine kw_iload_n dX8_kindOf_93 rfl ?_
              refine kw_bipush dX8_kindOf_94 (by decide) ?_
              refine kw_iand dX8_kindOf_96 ?_
              refine kw_if_ne 103 dX8_kindOf_97 (by decide) (k32_kand _ _) (fun h10 => ?_) (fun h10 => ?_)
              · have H := H.1 h10
                refine kw_iload_n dX8_kindOf_103 rfl ?_
                refine kw_bipush dX8_kindOf_104 (by decide) ?_
                refine kw_icmp_ne 114 dX8_kindOf_106 (by decide) o4 (k32i (by omega)) (fun h11 => ?_) (fun h11 => ?_)
                · have H := H.1 h11
                  refine kw_bipush dX8_kindOf_114 (by decide) ?_
                  refine k2_iret dX8_kindOf_116 rfl H
                · have H := H.2 h11
                  refine kw_bipush dX8_kindOf_109 (by decide) ?_
                  refine kw_goto 116 dX8_kindOf_111 (by decide) ?_
                  refine k2_iret dX8_kindOf_116 rfl H
              · have H := H.2 h10
                refine kw_bipush dX8_kindOf_100 (by decide) ?_
                refine k2_iret dX8_kindOf_102 rfl H
            · have H := H.2 h9
              refine kw_bipush dX8_kindOf_90 (by decide) ?_
              refine k2_iret dX8_kindOf_92 rfl H
          · have H := H.2 h8
            refine kw_aload_n dX8_kindOf_79 rfl ?_
            refine k2_callS1I m_X8_kindOfPair dX8_kindOf_80 wl_X8_29 (Nat.le_of_ble_eq_true rfl) (kC2_mono H (fun r c13 H => ?_))
            obtain ⟨z12, rfl, H⟩ := H
            refine ⟨z12, rfl, ?_⟩
            refine k2_iret dX8_kindOf_83 rfl H
        · have H := H.2 h7
          refine kw_bipush dX8_kindOf_46 (by decide) ?_
          refine kw_aload_n dX8_kindOf_48 rfl ?_
          refine kw_iconst dX8_kindOf_49 ?_
          refine k2_callS2L m_X8_vectorPart dX8_kindOf_50 wl_X8_25 (Nat.le_of_ble_eq_true rfl) (kC2_mono H (fun r c15 H => ?_))
          obtain ⟨z14, rfl, H⟩ := H
          refine ⟨z14, rfl, ?_⟩
          refine kw_aload_n dX8_kindOf_53 rfl ?_
          refine kw_iconst dX8_kindOf_54 ?_
          refine k2_callS2L m_X8_vectorPart dX8_kindOf_55 wl_X8_25 (Nat.le_of_ble_eq_true rfl) (kC2_mono H (fun r c17 H => ?_))
          obtain ⟨z16, rfl, H⟩ := H
          refine ⟨z16, rfl, ?_⟩
          refine kw_aload_n dX8_kindOf_58 rfl ?_
          refine kw_iconst dX8_kindOf_59 ?_
          refine k2_callS2L m_X8_vectorPart dX8_kindOf_60 wl_X8_25 (Nat.le_of_ble_eq_true rfl) (kC2_mono H (fun r c19 H => ?_))
          obtain ⟨z18, rfl, H⟩ := H
          refine ⟨z18, rfl, ?_⟩
          refine kw_aload_n dX8_kindOf_63 rfl ?_
          refine kw_bipush dX8_kindOf_64 (by decide) ?_
          refine k2_callS2L m_X8_vectorPart dX8_kindOf_66 wl_X8_25 (Nat.le_of_ble_eq_true rfl) (kC2_mono H (fun r c21 H => ?_))
          obtain ⟨z20, rfl, H⟩ := H
          refine ⟨z20, rfl, ?_⟩
          refine k2_callS4I m_X8_kindOfVector dX8_kindOf_69 wl_X8_21 (Nat.le_of_ble_eq_true rfl) (kC2_mono H (fun r c23 H => ?_))
          obtain ⟨z22, rfl, H⟩ := H
          refine ⟨z22, rfl, ?_⟩
          refine kw_iadd dX8_kindOf_72 ?_
          refine k2_iret dX8_kindOf_73 rfl H
      · have H := H.2 h6
        refine kw_aload_n dX8_kindOf_23 rfl ?_
        refine kw_iconst dX8_kindOf_24 ?_
        refine k2_lald dX8_kindOf_25 hx0 (by omega) (by omega) ?_
        refine kw_aload_n dX8_kindOf_26 rfl ?_
        refine kw_iconst dX8_kindOf_27 ?_
        refine k2_lald dX8_kindOf_28 hx0 (by omega) (by omega) ?_
        refine kw_aload_n dX8_kindOf_29 rfl ?_
        refine kw_iconst dX8_kindOf_30 ?_
        refine k2_lald dX8_kindOf_31 hx0 (by omega) (by omega) ?_
        refine kw_aload_n dX8_kindOf_32 rfl ?_
        refine kw_bipush dX8_kindOf_33 (by decide) ?_
        refine k2_lald dX8_kindOf_35 hx0 (by omega) (by omega) ?_
        refine k2_callS4I m_X8_kindOfVector dX8_kindOf_36 wl_X8_21 (Nat.le_of_ble_eq_true rfl) (kC2_mono H (fun r c25 H => ?_))
        obtain ⟨z24, rfl, H⟩ := H
        refine ⟨z24, rfl, ?_⟩
        refine k2_iret dX8_kindOf_39 rfl H
    · have H := H.2 h5
      refine kw_iconst dX8_kindOf_16 ?_
      refine k2_iret dX8_kindOf_17 rfl H
  · have H := H.2 h3
    refine kw_iconst dX8_kindOf_9 ?_
    refine k2_iret dX8_kindOf_10 rfl H
set_option maxRecDepth 4000 in
theorem v_X8_vectorOf {G : KG} {S0 : KSh} (hL : kLay S0) {d : Nat} {P : Option AV → KMem → Prop} {c : KMem} {x0 x1 : Int} (hx0 : S0.2.1 x0 = (2, 16)) (hx1 : S0.2.1 x1 = (2, 16)) (H : kW2 G S0 kM_X8_vectorOf (d + 3) 2 [some (kA x0), some (kA x1), some (kI 0)] [] c P) : kC2 G S0 kM_X8_vectorOf (d + 3) [kA x0, kA x1] c P := by
  refine k2_met (by decide) rfl (Nat.le_of_ble_eq_true rfl) (l0 := [some (kA x0), some (kA x1), none]) rfl ?_
  refine kw_iconst dX8_vectorOf_0 ?_
  refine kw_istore_n dX8_vectorOf_1 (Nat.le_of_ble_eq_true rfl) ?_
  exact kw_forget (ls' := [some (kA x0), some (kA x1), some (kI 0)]) ⟨Or.inr rfl, ⟨Or.inr rfl, ⟨Or.inr rfl, trivial⟩⟩⟩ H
set_option maxRecDepth 4000 in
theorem v_X8_vectorOf_2 {G : KG} {S0 : KSh} (hL : kLay S0) {d : Nat} {P : Option AV → KMem → Prop} {c : KMem} {x0 x1 x2 : Int} (hx0 : S0.2.1 x0 = (2, 16)) (hx1 : S0.2.1 x1 = (2, 16)) (r2 : 0 ≤ x2 ∧ x2 < 2147483648) (H : (16 ≤ x2 → (P none c)) ∧ (x2 < 16 → (kC2 G S0 kM_X8_vectorPart (d + 2) [kA x0, kI x2] c (kRL (fun z2 c3 => kW2 G S0 kM_X8_vectorOf (d + 3) 2 [some (kA x0), some (kA x1), some (kI (x2 + 1))] [] (kup c3 x1 x2 z2) P))))) : kW2 G S0 kM_X8_vectorOf (d + 3) 2 [some (kA x0), some (kA x1), some (kI x2)] [] c P := by
  refine kw_iload_n dX8_vectorOf_2 rfl ?_
  refine kw_bipush dX8_vectorOf_3 (by decide) ?_
  refine kw_icmp_ge 22 dX8_vectorOf_5 (by decide) (k32i (by omega)) (k32i (by omega)) (fun h1 => ?_) (fun h1 => ?_)
  · have H := H.1 h1
    refine k2_ret dX8_vectorOf_22 rfl H
  · have H := H.2 h1
    refine kw_aload_n dX8_vectorOf_8 rfl ?_
    refine kw_iload_n dX8_vectorOf_9 rfl ?_
    refine kw_aload_n dX8_vectorOf_10 rfl ?_
    refine kw_iload_n dX8_vectorOf_11 rfl ?_
    refine k2_callS2L m_X8_vectorPart dX8_vectorOf_12 wl_X8_25 (Nat.le_of_ble_eq_true rfl) (kC2_mono H (fun r c3 H => ?_))
    obtain ⟨z2, rfl, H⟩ := H
    refine ⟨z2, rfl, ?_⟩
    refine k2_last dX8_vectorOf_15 hx1 (by omega) (by omega) ?_
    refine kw_iinc dX8_vectorOf_16 rfl ?_
    refine kw_goto 2 dX8_vectorOf_19 (by decide) ?_
    exact kw_forget (ls' := [some (kA x0), some (kA x1), some (kI (x2 + 1))]) ⟨Or.inr rfl, ⟨Or.inr rfl, ⟨Or.inr rfl, trivial⟩⟩⟩ H
set_option maxRecDepth 4000 in
theorem v_X8_bears {G : KG} {S0 : KSh} (hL : kLay S0) {d : Nat} {P : Option AV → KMem → Prop} {c : KMem} {x0 x1 x2 : Int} (hx0 : S0.2.1 x0 = (2, 16)) (r1 : -2147483648 ≤ x1 ∧ x1 < 2147483648) (hx2 : S0.2.1 x2 = (2, 16)) (H : ((kObj x1) → (kC2 G S0 kM_X8_vectorPart (d + 2) [kA x0, kI 1] c (kRL (fun z3 c4 => kC2 G S0 kM_X8_vectorPart (d + 2) [kA x0, kI 2] c4 (kRL (fun z5 c6 => kC2 G S0 kM_X8_vectorPart (d + 2) [kA x0, kI 4] c6 (kRL (fun z7 c8 => kC2 G S0 kM_X8_vectorPart (d + 2) [kA x0, kI 8] c8 (kRL (fun z9 c10 => (k64 (((((c x2 1) * z3) + ((c4 x2 2) * z5)) + ((c6 x2 4) * z7)) - ((c8 x2 8) * z9))) ∧ (((((((c x2 1) * z3) + ((c4 x2 2) * z5)) + ((c6 x2 4) * z7)) - ((c8 x2 8) * z9)) ≠ 0 → (P (some (kI 0)) c10)) ∧ ((((((c x2 1) * z3) + ((c4 x2 2) * z5)) + ((c6 x2 4) * z7)) - ((c8 x2 8) * z9)) = 0 → (P (some (kI 1)) c10))))))))))))) ∧ (¬ (kObj x1) → (kC2 G S0 kM_X0_isOuterZero (d + 2) [kA x2, kA x0] c (kRI (fun z14 c15 => (z14 = 0 ∨ z14 = 1) ∧ (P (some (kI z14)) c15)))))) : kC2 G S0 kM_X8_bears (d + 3) [kA x0, kI x1, kA x2] c P := by
  refine k2_met (by decide) rfl (Nat.le_of_ble_eq_true rfl) (l0 := [some (kA x0), some (kI x1), some (kA x2), none, none]) rfl ?_
  refine kw_iload_n dX8_bears_0 rfl ?_
  refine k2_callS1I m_X8_isObject dX8_bears_1 wl_X8_46 (Nat.le_of_ble_eq_true rfl) (s_X8_isObject hL (k32i (by omega)) (fun h1 => ⟨_, rfl, ?_⟩) (fun h1 => ⟨_, rfl, ?_⟩))
  · have H := H.1 h1
    refine kw_if_ne 13 dX8_bears_4 (by decide) (k32i (by omega)) (fun _ => ?_) (fun h2 => absurd h2 (by decide))
    refine kw_aload_n dX8_bears_13 rfl ?_
    refine kw_iconst dX8_bears_14 ?_
    refine k2_lald dX8_bears_15 hx2 (by omega) (by omega) ?_
    refine kw_aload_n dX8_bears_16 rfl ?_
    refine kw_iconst dX8_bears_17 ?_
    refine k2_callS2L m_X8_vectorPart dX8_bears_18 wl_X8_25 (Nat.le_of_ble_eq_true rfl) (kC2_mono H (fun r c4 H => ?_))
    obtain ⟨z3, rfl, H⟩ := H
    refine ⟨z3, rfl, ?_⟩
    refine kw_lmul dX8_bears_21 ?_
    refine kw_aload_n dX8_bears_22 rfl ?_
    refine kw_iconst dX8_bears_23 ?_
    refine k2_lald dX8_bears_24 hx2 (by omega) (by omega) ?_
    refine kw_aload_n dX8_bears_25 rfl ?_
    refine kw_iconst dX8_bears_26 ?_
    refine k2_callS2L m_X8_vectorPart dX8_bears_27 wl_X8_25 (Nat.le_of_ble_eq_true rfl) (kC2_mono H (fun r c6 H => ?_))
    obtain ⟨z5, rfl, H⟩ := H
    refine ⟨z5, rfl, ?_⟩
    refine kw_lmul dX8_bears_30 ?_
    refine kw_ladd dX8_bears_31 ?_
    refine kw_aload_n dX8_bears_32 rfl ?_
    refine kw_iconst dX8_bears_33 ?_
    refine k2_lald dX8_bears_34 hx2 (by omega) (by omega) ?_
    refine kw_aload_n dX8_bears_35 rfl ?_
    refine kw_iconst dX8_bears_36 ?_
    refine k2_callS2L m_X8_vectorPart dX8_bears_37 wl_X8_25 (Nat.le_of_ble_eq_true rfl) (kC2_mono H (fun r c8 H => ?_))
    obtain ⟨z7, rfl, H⟩ := H
    refine ⟨z7, rfl, ?_⟩
    refine kw_lmul dX8_bears_40 ?_
    refine kw_ladd dX8_bears_41 ?_
    refine kw_aload_n dX8_bears_42 rfl ?_
    refine kw_bipush dX8_bears_43 (by decide) ?_
    refine k2_lald dX8_bears_45 hx2 (by omega) (by omega) ?_
    refine kw_aload_n dX8_bears_46 rfl ?_
    refine kw_bipush dX8_bears_47 (by decide) ?_
    refine k2_callS2L m_X8_vectorPart dX8_bears_49 wl_X8_25 (Nat.le_of_ble_eq_true rfl) (kC2_mono H (fun r c10 H => ?_))
    obtain ⟨z9, rfl, H⟩ := H
    refine ⟨z9, rfl, ?_⟩
    refine kw_lmul dX8_bears_52 ?_
    refine kw_lsub dX8_bears_53 ?_
    refine kw_lstore_n dX8_bears_54 (Nat.le_of_ble_eq_true rfl) ?_
    refine kw_lload_n dX8_bears_55 rfl ?_
    refine kw_lconst0 dX8_bears_56 ?_
    have o11 := H.1
    have H := H.2
    refine kw_lcmp_ne 65 dX8_bears_57 dX8_bears_58 (by decide) o11 (k64i (by omega)) (fun h12 => ?_) (fun h12 => ?_)
    · have H := H.1 h12
      refine kw_iconst dX8_bears_65 ?_
      refine k2_zret dX8_bears_66 rfl (Or.inl rfl) H
    · have H := H.2 h12
      refine kw_iconst dX8_bears_61 ?_
      refine kw_goto 66 dX8_bears_62 (by decide) ?_
      refine k2_zret dX8_bears_66 rfl (Or.inr rfl) H
  · have H := H.2 h1
    refine kw_if_ne 13 dX8_bears_4 (by decide) (k32i (by omega)) (fun h13 => absurd h13 (by decide)) (fun _ => ?_)
    refine kw_aload_n dX8_bears_7 rfl ?_
    refine kw_aload_n dX8_bears_8 rfl ?_
    refine k2_callS2I m_X0_isOuterZero dX8_bears_9 wl_X8_32 (Nat.le_of_ble_eq_true rfl) (kC2_mono H (fun r c15 H => ?_))
    obtain ⟨z14, rfl, H⟩ := H
    refine ⟨z14, rfl, ?_⟩
    have o16 := H.1
    have H := H.2
    refine k2_zret dX8_bears_12 rfl o16 H
set_option maxRecDepth 4000 in
theorem v_X8_placeInner {G : KG} {S0 : KSh} (hL : kLay S0) {d : Nat} {P : Option AV → KMem → Prop} {c : KMem} {x0 x1 x2 : Int} (r0 : -2147483648 ≤ x0 ∧ x0 < 2147483648) (r1 : -2147483648 ≤ x1 ∧ x1 < 2147483648) (hx2 : S0.2.1 x2 = (2, 16)) (H : P (some (kL (((2 * ((x0 * (c x2 1)) + (x1 * (c x2 2)))) + ((((x0 * x0) + (x1 * x1)) - 1) * (c x2 4))) - ((((x0 * x0) + (x1 * x1)) + 1) * (c x2 8))))) c) : kC2 G S0 kM_X8_placeInner d [kI x0, kI x1, kA x2] c P := by
  refine k2_met (by decide) rfl (Nat.le_of_ble_eq_true rfl) (l0 := [some (kI x0), some (kI x1), some (kA x2), none, none]) rfl ?_
  refine kw_iload_n dX8_placeInner_0 rfl ?_
  refine kw_i2l dX8_placeInner_1 (k32i (by omega)) ?_
  refine kw_iload_n dX8_placeInner_2 rfl ?_
  refine kw_i2l dX8_placeInner_3 (k32i (by omega)) ?_
  refine kw_lmul dX8_placeInner_4 ?_
  refine kw_iload_n dX8_placeInner_5 rfl ?_
  refine kw_i2l dX8_placeInner_6 (k32i (by omega)) ?_
  refine kw_iload_n dX8_placeInner_7 rfl ?_
  refine kw_i2l dX8_placeInner_8 (k32i (by omega)) ?_
  refine kw_lmul dX8_placeInner_9 ?_
  refine kw_ladd dX8_placeInner_10 ?_
  refine kw_lstore_n dX8_placeInner_11 (Nat.le_of_ble_eq_true rfl) ?_
  refine kw_ldc2 dX8_placeInner_12 wk_X8_56 ?_
  refine kw_iload_n dX8_placeInner_15 rfl ?_
  refine kw_i2l dX8_placeInner_16 (k32i (by omega)) ?_
  refine kw_aload_n dX8_placeInner_17 rfl ?_
  refine kw_iconst dX8_placeInner_18 ?_
  refine k2_lald dX8_placeInner_19 hx2 (by omega) (by omega) ?_
  refine kw_lmul dX8_placeInner_20 ?_
  refine kw_iload_n dX8_placeInner_21 rfl ?_
  refine kw_i2l dX8_placeInner_22 (k32i (by omega)) ?_
  refine kw_aload_n dX8_placeInner_23 rfl ?_
  refine kw_iconst dX8_placeInner_24 ?_
  refine k2_lald dX8_placeInner_25 hx2 (by omega) (by omega) ?_
  refine kw_lmul dX8_placeInner_26 ?_
  refine kw_ladd dX8_placeInner_27 ?_
  refine kw_lmul dX8_placeInner_28 ?_
  refine kw_lload_n dX8_placeInner_29 rfl ?_
  refine kw_lconst1 dX8_placeInner_30 ?_
  refine kw_lsub dX8_placeInner_31 ?_
  refine kw_aload_n dX8_placeInner_32 rfl ?_
  refine kw_iconst dX8_placeInner_33 ?_
  refine k2_lald dX8_placeInner_34 hx2 (by omega) (by omega) ?_
  refine kw_lmul dX8_placeInner_35 ?_
  refine kw_ladd dX8_placeInner_36 ?_
  refine kw_lload_n dX8_placeInner_37 rfl ?_
  refine kw_lconst1 dX8_placeInner_38 ?_
  refine kw_ladd dX8_placeInner_39 ?_
  refine kw_aload_n dX8_placeInner_40 rfl ?_
  refine kw_bipush dX8_placeInner_41 (by decide) ?_
  refine k2_lald dX8_placeInner_43 hx2 (by omega) (by omega) ?_
  refine kw_lmul dX8_placeInner_44 ?_
  refine kw_lsub dX8_placeInner_45 ?_
  refine k2_lret dX8_placeInner_46 rfl H
set_option maxRecDepth 4000 in
theorem v_X8_lineNumber {G : KG} {S0 : KSh} (hL : kLay S0) {d : Nat} {P : Option AV → KMem → Prop} {c : KMem} {x0 x1 : Int} (hx0 : S0.2.1 x0 = (2, 16)) (r1 : -2147483648 ≤ x1 ∧ x1 < 2147483648) (H : kC2 G S0 kM_X0_gcd d [kL (c x0 1), kL (c x0 2)] c (kRL (fun z1 c2 => kC2 G S0 kM_X0_gcd d [kL z1, kL (c2 x0 4)] c2 (kRL (fun z3 c4 => (k64 z3) ∧ ((z3 ≠ 0 → ((k64 (c4 x0 1)) ∧ (((c4 x0 1) < 0 → (kW2 G S0 kM_X8_lineNumber (d + 1) 51 [some (kA x0), some (kI x1), some (kL (-z3)), none, none, none] [] c4 P)) ∧ (0 ≤ (c4 x0 1) → (((c4 x0 1) ≠ 0 → (kW2 G S0 kM_X8_lineNumber (d + 1) 51 [some (kA x0), some (kI x1), some (kL z3), none, none, none] [] c4 P)) ∧ ((c4 x0 1) = 0 → ((k64 (c4 x0 2)) ∧ ((0 ≤ (c4 x0 2) → (kW2 G S0 kM_X8_lineNumber (d + 1) 51 [some (kA x0), some (kI x1), some (kL z3), none, none, none] [] c4 P)) ∧ ((c4 x0 2) < 0 → (kW2 G S0 kM_X8_lineNumber (d + 1) 51 [some (kA x0), some (kI x1), some (kL (-z3)), none, none, none] [] c4 P)))))))))) ∧ (z3 = 0 → (P (some (kL 0)) c4)))))))) : kC2 G S0 kM_X8_lineNumber (d + 1) [kA x0, kI x1] c P := by
  refine k2_met (by decide) rfl (Nat.le_of_ble_eq_true rfl) (l0 := [some (kA x0), some (kI x1), none, none, none, none]) rfl ?_
  refine kw_aload_n dX8_lineNumber_0 rfl ?_
  refine kw_iconst dX8_lineNumber_1 ?_
  refine k2_lald dX8_lineNumber_2 hx0 (by omega) (by omega) ?_
  refine kw_aload_n dX8_lineNumber_3 rfl ?_
  refine kw_iconst dX8_lineNumber_4 ?_
  refine k2_lald dX8_lineNumber_5 hx0 (by omega) (by omega) ?_
  refine k2_callS2L m_X0_gcd dX8_lineNumber_6 wl_X8_58 (Nat.le_of_ble_eq_true rfl) (kC2_mono H (fun r c2 H => ?_))
  obtain ⟨z1, rfl, H⟩ := H
  refine ⟨z1, rfl, ?_⟩
  refine kw_aload_n dX8_lineNumber_9 rfl ?_
  refine kw_iconst dX8_lineNumber_10 ?_
  refine k2_lald dX8_lineNumber_11 hx0 (by omega) (by omega) ?_
  refine k2_callS2L m_X0_gcd dX8_lineNumber_12 wl_X8_58 (Nat.le_of_ble_eq_true rfl) (kC2_mono H (fun r c4 H => ?_))
  obtain ⟨z3, rfl, H⟩ := H
  refine ⟨z3, rfl, ?_⟩
  refine kw_lstore_n dX8_lineNumber_15 (Nat.le_of_ble_eq_true rfl) ?_
  refine kw_lload_n dX8_lineNumber_16 rfl ?_
  refine kw_lconst0 dX8_lineNumber_17 ?_
  have o5 := H.1
  have H := H.2
  refine kw_lcmp_ne 24 dX8_lineNumber_18 dX8_lineNumber_19 (by decide) o5 (k64i (by omega)) (fun h6 => ?_) (fun h6 => ?_)
  · have H := H.1 h6
    refine kw_aload_n dX8_lineNumber_24 rfl ?_
    refine kw_iconst dX8_lineNumber_25 ?_
    refine k2_lald dX8_lineNumber_26 hx0 (by omega) (by omega) ?_
    refine kw_lconst0 dX8_lineNumber_27 ?_
    have o7 := H.1
    have H := H.2
    refine kw_lcmp_lt 48 dX8_lineNumber_28 dX8_lineNumber_29 (by decide) o7 (k64i (by omega)) (fun h8 => ?_) (fun h8 => ?_)
    · have H := H.1 h8
      refine kw_lload_n dX8_lineNumber_48 rfl ?_
      refine kw_lneg dX8_lineNumber_49 ?_
      refine kw_lstore_n dX8_lineNumber_50 (Nat.le_of_ble_eq_true rfl) ?_
      exact kw_forget (ls' := [some (kA x0), some (kI x1), some (kL (-z3)), none, none, none]) ⟨Or.inr rfl, ⟨Or.inr rfl, ⟨Or.inr rfl, ⟨Or.inr rfl, ⟨Or.inr rfl, ⟨Or.inr rfl, trivial⟩⟩⟩⟩⟩⟩ H
    · have H := H.2 h8
      refine kw_aload_n dX8_lineNumber_32 rfl ?_
      refine kw_iconst dX8_lineNumber_33 ?_
      refine k2_lald dX8_lineNumber_34 hx0 (by omega) (by omega) ?_
      refine kw_lconst0 dX8_lineNumber_35 ?_
      refine kw_lcmp_ne 51 dX8_lineNumber_36 dX8_lineNumber_37 (by decide) o7 (k64i (by omega)) (fun h9 => ?_) (fun h9 => ?_)
      · have H := H.1 h9
        exact kw_forget (ls' := [some (kA x0), some (kI x1), some (kL z3), none, none, none]) ⟨Or.inr rfl, ⟨Or.inr rfl, ⟨Or.inr rfl, ⟨Or.inr rfl, ⟨Or.inr rfl, ⟨Or.inr rfl, trivial⟩⟩⟩⟩⟩⟩ H
      · have H := H.2 h9
        refine kw_aload_n dX8_lineNumber_40 rfl ?_
        refine kw_iconst dX8_lineNumber_41 ?_
        refine k2_lald dX8_lineNumber_42 hx0 (by omega) (by omega) ?_
        refine kw_lconst0 dX8_lineNumber_43 ?_
        have o10 := H.1
        have H := H.2
        refine kw_lcmp_ge 51 dX8_lineNumber_44 dX8_lineNumber_45 (by decide) o10 (k64i (by omega)) (fun h11 => ?_) (fun h11 => ?_)
        · have H := H.1 h11
          exact kw_forget (ls' := [some (kA x0), some (kI x1), some (kL z3), none, none, none]) ⟨Or.inr rfl, ⟨Or.inr rfl, ⟨Or.inr rfl, ⟨Or.inr rfl, ⟨Or.inr rfl, ⟨Or.inr rfl, trivial⟩⟩⟩⟩⟩⟩ H
        · have H := H.2 h11
          refine kw_lload_n dX8_lineNumber_48 rfl ?_
          refine kw_lneg dX8_lineNumber_49 ?_
          refine kw_lstore_n dX8_lineNumber_50 (Nat.le_of_ble_eq_true rfl) ?_
          exact kw_forget (ls' := [some (kA x0), some (kI x1), some (kL (-z3)), none, none, none]) ⟨Or.inr rfl, ⟨Or.inr rfl, ⟨Or.inr rfl, ⟨Or.inr rfl, ⟨Or.inr rfl, ⟨Or.inr rfl, trivial⟩⟩⟩⟩⟩⟩ H
  · have H := H.2 h6
    refine kw_lconst0 dX8_lineNumber_22 ?_
    refine k2_lret dX8_lineNumber_23 rfl H
set_option maxRecDepth 4000 in
theorem v_X8_lineNumber_51 {G : KG} {S0 : KSh} (hL : kLay S0) {d : Nat} {P : Option AV → KMem → Prop} {c : KMem} {x0 x1 x2 : Int} (hx0 : S0.2.1 x0 = (2, 16)) (r1 : -2147483648 ≤ x1 ∧ x1 < 2147483648) (H : (x1 ≠ 0 → ((x1 ≠ 1 → ((k64 (c x0 4)) ∧ ((k64 x2) ∧ ((x2 ≠ 0) ∧ (P (some (kL (Int.tdiv (c x0 4) x2))) c))))) ∧ (x1 = 1 → ((k64 (c x0 2)) ∧ ((k64 x2) ∧ ((x2 ≠ 0) ∧ (P (some (kL (Int.tdiv (c x0 2) x2))) c))))))) ∧ (x1 = 0 → ((k64 (c x0 1)) ∧ ((k64 x2) ∧ ((x2 ≠ 0) ∧ (P (some (kL (Int.tdiv (c x0 1) x2))) c)))))) : kW2 G S0 kM_X8_lineNumber (d + 1) 51 [some (kA x0), some (kI x1), some (kL x2), none, none, none] [] c P := by
  refine kw_iload_n dX8_lineNumber_51 rfl ?_
  refine kw_if_ne 61 dX8_lineNumber_52 (by decide) (k32i (by omega)) (fun h12 => ?_) (fun h12 => ?_)
  · have H := H.1 h12
    refine kw_iload_n dX8_lineNumber_61 rfl ?_
    refine kw_iconst dX8_lineNumber_62 ?_
    refine kw_icmp_ne 72 dX8_lineNumber_63 (by decide) (k32i (by omega)) (k32i (by omega)) (fun h13 => ?_) (fun h13 => ?_)
    · have H := H.1 h13
      refine kw_aload_n dX8_lineNumber_72 rfl ?_
      refine kw_iconst dX8_lineNumber_73 ?_
      refine k2_lald dX8_lineNumber_74 hx0 (by omega) (by omega) ?_
      refine kw_lstore dX8_lineNumber_75 (Nat.le_of_ble_eq_true rfl) ?_
      refine kw_lload dX8_lineNumber_77 rfl ?_
      refine kw_lload_n dX8_lineNumber_79 rfl ?_
      have o14 := H.1
      have H := H.2
      have o15 := H.1
      have H := H.2
      have o16 := H.1
      have H := H.2
      refine kw_ldiv dX8_lineNumber_80 o14 o15 o16 ?_
      refine k2_lret dX8_lineNumber_81 rfl H
    · have H := H.2 h13
      refine kw_aload_n dX8_lineNumber_66 rfl ?_
      refine kw_iconst dX8_lineNumber_67 ?_
      refine k2_lald dX8_lineNumber_68 hx0 (by omega) (by omega) ?_
      refine kw_goto 75 dX8_lineNumber_69 (by decide) ?_
      refine kw_lstore dX8_lineNumber_75 (Nat.le_of_ble_eq_true rfl) ?_
      refine kw_lload dX8_lineNumber_77 rfl ?_
      refine kw_lload_n dX8_lineNumber_79 rfl ?_
      have o17 := H.1
      have H := H.2
      have o18 := H.1
      have H := H.2
      have o19 := H.1
      have H := H.2
      refine kw_ldiv dX8_lineNumber_80 o17 o18 o19 ?_
      refine k2_lret dX8_lineNumber_81 rfl H
  · have H := H.2 h12
    refine kw_aload_n dX8_lineNumber_55 rfl ?_
    refine kw_iconst dX8_lineNumber_56 ?_
    refine k2_lald dX8_lineNumber_57 hx0 (by omega) (by omega) ?_
    refine kw_goto 75 dX8_lineNumber_58 (by decide) ?_
    refine kw_lstore dX8_lineNumber_75 (Nat.le_of_ble_eq_true rfl) ?_
    refine kw_lload dX8_lineNumber_77 rfl ?_
    refine kw_lload_n dX8_lineNumber_79 rfl ?_
    have o20 := H.1
    have H := H.2
    have o21 := H.1
    have H := H.2
    have o22 := H.1
    have H := H.2
    refine kw_ldiv dX8_lineNumber_80 o20 o21 o22 ?_
    refine k2_lret dX8_lineNumber_81 rfl H
set_option maxRecDepth 4000 in
theorem v_X9_take {G : KG} {S0 : KSh} (hL : kLay S0) {d : Nat} {P : Option AV → KMem → Prop} {c : KMem} {x0 x1 : Int} (hx0 : S0.2.1 x0 = (17, 5)) (hx1 : S0.2.1 x1 = (2, 16)) (H : kW2 G S0 kM_X9_take (d + 2) 19 [some (kA x0), some (kA x1), some (kL (c x1 1)), none, some (kL (c x1 2)), none, some (kL ((c x1 4) - (c x1 8))), none, none, none, none, none] [] c P) : kC2 G S0 kM_X9_take (d + 2) [kA x0, kA x1] c P := by
  refine k2_met (by decide) rfl (Nat.le_of_ble_eq_true rfl) (l0 := [some (kA x0), some (kA x1), none, none, none, none, none, none, none, none, none, none]) rfl ?_
  refine kw_aload_n dX9_take_0 rfl ?_
  refine kw_iconst dX9_take_1 ?_
  refine k2_lald dX9_take_2 hx1 (by omega) (by omega) ?_
  refine kw_lstore_n dX9_take_3 (Nat.le_of_ble_eq_true rfl) ?_
  refine kw_aload_n dX9_take_4 rfl ?_
  refine kw_iconst dX9_take_5 ?_
  refine k2_lald dX9_take_6 hx1 (by omega) (by omega) ?_
  refine kw_lstore dX9_take_7 (Nat.le_of_ble_eq_true rfl) ?_
  refine kw_aload_n dX9_take_9 rfl ?_
  refine kw_iconst dX9_take_10 ?_
  refine k2_lald dX9_take_11 hx1 (by omega) (by omega) ?_
  refine kw_aload_n dX9_take_12 rfl ?_
  refine kw_bipush dX9_take_13 (by decide) ?_
  refine k2_lald dX9_take_15 hx1 (by omega) (by omega) ?_
  refine kw_lsub dX9_take_16 ?_
  refine kw_lstore dX9_take_17 (Nat.le_of_ble_eq_true rfl) ?_
  exact kw_forget (ls' := [some (kA x0), some (kA x1), some (kL (c x1 1)), none, some (kL (c x1 2)), none, some (kL ((c x1 4) - (c x1 8))), none, none, none, none, none]) ⟨Or.inr rfl, ⟨Or.inr rfl, ⟨Or.inr rfl, ⟨Or.inr rfl, ⟨Or.inr rfl, ⟨Or.inr rfl, ⟨Or.inr rfl, ⟨Or.inr rfl, ⟨Or.inr rfl, ⟨Or.inr rfl, ⟨Or.inr rfl, ⟨Or.inr rfl, trivial⟩⟩⟩⟩⟩⟩⟩⟩⟩⟩⟩⟩ H
set_option maxRecDepth 4000 in
theorem v_X9_take_19 {G : KG} {S0 : KSh} (hL : kLay S0) {d : Nat} {P : Option AV → KMem → Prop} {c : KMem} {x0 x1 x2 x4 x6 : Int} (hx0 : S0.2.1 x0 = (17, 5)) (hx1 : S0.2.1 x1 = (2, 16)) (H : (k64 x6) ∧ ((x6 ≠ 0 → (kC2 G S0 kM_X0_gcd (d + 1) [kL x2, kL x4] c (kRL (fun z3 c4 => kC2 G S0 kM_X0_gcd (d + 1) [kL z3, kL x6] c4 (kRL (fun z5 c6 => kW2 G S0 kM_X9_take (d + 2) 40 [some (kA x0), some (kA x1), some (kL x2), none, some (kL x4), none, some (kL x6), none, some (kL z5), none, none, none] [] c6 P)))))) ∧ (x6 = 0 → (P none c)))) : kW2 G S0 kM_X9_take (d + 2) 19 [some (kA x0), some (kA x1), some (kL x2), none, some (kL x4), none, some (kL x6), none, none, none, none, none] [] c P := by
  refine kw_lload dX9_take_19 rfl ?_
  refine kw_lconst0 dX9_take_21 ?_
  have o1 := H.1
  have H := H.2
  refine kw_lcmp_ne 27 dX9_take_22 dX9_take_23 (by decide) o1 (k64i (by omega)) (fun h2 => ?_) (fun h2 => ?_)
  · have H := H.1 h2
    refine kw_lload_n dX9_take_27 rfl ?_
    refine kw_lload dX9_take_28 rfl ?_
    refine k2_callS2L m_X0_gcd dX9_take_30 wl_X9_25 (Nat.le_of_ble_eq_true rfl) (kC2_mono H (fun r c4 H => ?_))
    obtain ⟨z3, rfl, H⟩ := H
    refine ⟨z3, rfl, ?_⟩
    refine kw_lload dX9_take_33 rfl ?_
    refine k2_callS2L m_X0_gcd dX9_take_35 wl_X9_25 (Nat.le_of_ble_eq_true rfl) (kC2_mono H (fun r c6 H => ?_))
    obtain ⟨z5, rfl, H⟩ := H
    refine ⟨z5, rfl, ?_⟩
    refine kw_lstore dX9_take_38 (Nat.le_of_ble_eq_true rfl) ?_
    exact kw_forget (ls' := [some (kA x0), some (kA x1), some (kL x2), none, some (kL x4), none, some (kL x6), none, some (kL z5), none, none, none]) ⟨Or.inr rfl, ⟨Or.inr rfl, ⟨Or.inr rfl, ⟨Or.inr rfl, ⟨Or.inr rfl, ⟨Or.inr rfl, ⟨Or.inr rfl, ⟨Or.inr rfl, ⟨Or.inr rfl, ⟨Or.inr rfl, ⟨Or.inr rfl, ⟨Or.inr rfl, trivial⟩⟩⟩⟩⟩⟩⟩⟩⟩⟩⟩⟩ H
  · have H := H.2 h2
    refine k2_ret dX9_take_26 rfl H
set_option maxRecDepth 4000 in
theorem v_X9_take_40 {G : KG} {S0 : KSh} (hL : kLay S0) {d : Nat} {P : Option AV → KMem → Prop} {c : KMem} {x0 x1 x2 x4 x6 x8 : Int} (hx0 : S0.2.1 x0 = (17, 5)) (hx1 : S0.2.1 x1 = (2, 16)) (H : (k64 x6) ∧ ((x6 ≤ 0 → (kW2 G S0 kM_X9_take (d + 2) 52 [some (kA x0), some (kA x1), some (kL x2), none, some (kL x4), none, some (kL x6), none, some (kL x8), none, none, none] [] c P)) ∧ (0 < x6 → (kW2 G S0 kM_X9_take (d + 2) 52 [some (kA x0), some (kA x1), some (kL x2), none, some (kL x4), none, some (kL x6), none, some (kL (-x8)), none, none, none] [] c P)))) : kW2 G S0 kM_X9_take (d + 2) 40 [some (kA x0), some (kA x1), some (kL x2), none, some (kL x4), none, some (kL x6), none, some (kL x8), none, none, none] [] c P := by
  refine kw_lload dX9_take_40 rfl ?_
  refine kw_lconst0 dX9_take_42 ?_
  have o7 := H.1
  have H := H.2
  refine kw_lcmp_le 52 dX9_take_43 dX9_take_44 (by decide) o7 (k64i (by omega)) (fun h8 => ?_) (fun h8 => ?_)
  · have H := H.1 h8
    exact kw_forget (ls' := [some (kA x0), some (kA x1), some (kL x2), none, some (kL x4), none, some (kL x6), none, some (kL x8), none, none, none]) ⟨Or.inr rfl, ⟨Or.inr rfl, ⟨Or.inr rfl, ⟨Or.inr rfl, ⟨Or.inr rfl, ⟨Or.inr rfl, ⟨Or.inr rfl, ⟨Or.inr rfl, ⟨Or.inr rfl, ⟨Or.inr rfl, ⟨Or.inr rfl, ⟨Or.inr rfl, trivial⟩⟩⟩⟩⟩⟩⟩⟩⟩⟩⟩⟩ H
  · have H := H.2 h8
    refine kw_lload dX9_take_47 rfl ?_
    refine kw_lneg dX9_take_49 ?_
    refine kw_lstore dX9_take_50 (Nat.le_of_ble_eq_true rfl) ?_
    exact kw_forget (ls' := [some (kA x0), some (kA x1), some (kL x2), none, some (kL x4), none, some (kL x6), none, some (kL (-x8)), none, none, none]) ⟨Or.inr rfl, ⟨Or.inr rfl, ⟨Or.inr rfl, ⟨Or.inr rfl, ⟨Or.inr rfl, ⟨Or.inr rfl, ⟨Or.inr rfl, ⟨Or.inr rfl, ⟨Or.inr rfl, ⟨Or.inr rfl, ⟨Or.inr rfl, ⟨Or.inr rfl, trivial⟩⟩⟩⟩⟩⟩⟩⟩⟩⟩⟩⟩ H
set_option maxRecDepth 4000 in
theorem v_X9_take_52 {G : KG} {S0 : KSh} (hL : kLay S0) {d : Nat} {P : Option AV → KMem → Prop} {c : KMem} {x0 x1 x2 x4 x6 x8 : Int} (hx0 : S0.2.1 x0 = (17, 5)) (hx1 : S0.2.1 x1 = (2, 16)) (H : (k64 x8) ∧ ((x8 ≠ 0 → ((k64 x2) ∧ ((x8 ≠ 0) ∧ ((k64 x4) ∧ ((k64 (-x6)) ∧ (kW2 G S0 kM_X9_take (d + 2) 87 [some (kA x0), some (kA x1), some (kL x2), none, some (kL x4), none, some (kL x6), none, none, none, none, none] [] (kup (kup (kup c x0 0 (Int.tdiv x2 x8)) x0 1 (Int.tdiv x4 x8)) x0 2 (Int.tdiv (-x6) x8)) P)))))) ∧ (x8 = 0 → (P none c)))) : kW2 G S0 kM_X9_take (d + 2) 52 [some (kA x0), some (kA x1), some (kL x2), none, some (kL x4), none, some (kL x6), none, some (kL x8), none, none, none] [] c P := by
  refine kw_lload dX9_take_52 rfl ?_
  refine kw_lconst0 dX9_take_54 ?_
  have o9 := H.1
  have H := H.2
  refine kw_lcmp_ne 60 dX9_take_55 dX9_take_56 (by decide) o9 (k64i (by omega)) (fun h10 => ?_) (fun h10 => ?_)
  · have H := H.1 h10
    refine kw_aload_n dX9_take_60 rfl ?_
    refine kw_lload_n dX9_take_61 rfl ?_
    refine kw_lload dX9_take_62 rfl ?_
    have o11 := H.1
    have H := H.2
    have o12 := H.1
    have H := H.2
    refine kw_ldiv dX9_take_64 o11 o9 o12 ?_
    refine k2_putL fp_X9_0 dX9_take_65 wf_X9_7 hx0 ?_
    refine kw_aload_n dX9_take_68 rfl ?_
    refine kw_lload dX9_take_69 rfl ?_
    refine kw_lload dX9_take_71 rfl ?_
    have o13 := H.1
    have H := H.2
    refine kw_ldiv dX9_take_73 o13 o9 o12 ?_
    refine k2_putL fp_X9_1 dX9_take_74 wf_X9_13 hx0 ?_
    refine kw_aload_n dX9_take_77 rfl ?_
    refine kw_lload dX9_take_78 rfl ?_
    refine kw_lneg dX9_take_80 ?_
    refine kw_lload dX9_take_81 rfl ?_
    have o14 := H.1
    have H := H.2
    refine kw_ldiv dX9_take_83 o14 o9 o12 ?_
    refine k2_putL fp_X9_2 dX9_take_84 wf_X9_16 hx0 ?_
    exact kw_forget (ls' := [some (kA x0), some (kA x1), some (kL x2), none, some (kL x4), none, some (kL x6), none, none, none, none, none]) ⟨Or.inr rfl, ⟨Or.inr rfl, ⟨Or.inr rfl, ⟨Or.inr rfl, ⟨Or.inr rfl, ⟨Or.inr rfl, ⟨Or.inr rfl, ⟨Or.inr rfl, ⟨Or.inl rfl, ⟨Or.inr rfl, ⟨Or.inr rfl, ⟨Or.inr rfl, trivial⟩⟩⟩⟩⟩⟩⟩⟩⟩⟩⟩⟩ H
  · have H := H.2 h10
    refine k2_ret dX9_take_59 rfl H
set_option maxRecDepth 4000 in
theorem v_X9_take_87 {G : KG} {S0 : KSh} (hL : kLay S0) {d : Nat} {P : Option AV → KMem → Prop} {c : KMem} {x0 x1 x2 x4 x6 : Int} (hx0 : S0.2.1 x0 = (17, 5)) (hx1 : S0.2.1 x1 = (2, 16)) (H : kW2 G S0 kM_X9_take (d + 2) 116 [some (kA x0), none, none, none, none, none, some (kL x6), none, none, none, some (kL ((((x2 * x2) + (x4 * x4)) + ((c x1 4) * (c x1 4))) - ((c x1 8) * (c x1 8)))), none] [] c P) : kW2 G S0 kM_X9_take (d + 2) 87 [some (kA x0), some (kA x1), some (kL x2), none, some (kL x4), none, some (kL x6), none, none, none, none, none] [] c P := by
  refine kw_lload_n dX9_take_87 rfl ?_
  refine kw_lload_n dX9_take_88 rfl ?_
  refine kw_lmul dX9_take_89 ?_
  refine kw_lload dX9_take_90 rfl ?_
  refine kw_lload dX9_take_92 rfl ?_
  refine kw_lmul dX9_take_94 ?_
  refine kw_ladd dX9_take_95 ?_
  refine kw_aload_n dX9_take_96 rfl ?_
  refine kw_iconst dX9_take_97 ?_
  refine k2_lald dX9_take_98 hx1 (by omega) (by omega) ?_
  refine kw_aload_n dX9_take_99 rfl ?_
  refine kw_iconst dX9_take_100 ?_
  refine k2_lald dX9_take_101 hx1 (by omega) (by omega) ?_
  refine kw_lmul dX9_take_102 ?_
  refine kw_ladd dX9_take_103 ?_
  refine kw_aload_n dX9_take_104 rfl ?_
  refine kw_bipush dX9_take_105 (by decide) ?_
  refine k2_lald dX9_take_107 hx1 (by omega) (by omega) ?_
  refine kw_aload_n dX9_take_108 rfl ?_
  refine kw_bipush dX9_take_109 (by decide) ?_
  refine k2_lald dX9_take_111 hx1 (by omega) (by omega) ?_
  refine kw_lmul dX9_take_112 ?_
  refine kw_lsub dX9_take_113 ?_
  refine kw_lstore dX9_take_114 (Nat.le_of_ble_eq_true rfl) ?_
  exact kw_forget (ls' := [some (kA x0), none, none, none, none, none, some (kL x6), none, none, none, some (kL ((((x2 * x2) + (x4 * x4)) + ((c x1 4) * (c x1 4))) - ((c x1 8) * (c x1 8)))), none]) ⟨Or.inr rfl, ⟨Or.inl rfl, ⟨Or.inl rfl, ⟨Or.inr rfl, ⟨Or.inl rfl, ⟨Or.inr rfl, ⟨Or.inr rfl, ⟨Or.inr rfl, ⟨Or.inr rfl, ⟨Or.inr rfl, ⟨Or.inr rfl, ⟨Or.inr rfl, trivial⟩⟩⟩⟩⟩⟩⟩⟩⟩⟩⟩⟩ H
set_option maxRecDepth 4000 in
theorem v_X9_take_116 {G : KG} {S0 : KSh} (hL : kLay S0) {d : Nat} {P : Option AV → KMem → Prop} {c : KMem} {x0 x6 x10 : Int} (hx0 : S0.2.1 x0 = (17, 5)) (H : kC2 G S0 kM_X0_lowest (d + 1) [kL x10, kL (x6 * x6), kI 0] c (kRL (fun z15 c16 => kC2 G S0 kM_X0_lowest (d + 1) [kL x10, kL (x6 * x6), kI 1] (kup c16 x0 3 z15) (kRL (fun z17 c18 => P none (kup c18 x0 4 z17)))))) : kW2 G S0 kM_X9_take (d + 2) 116 [some (kA x0), none, none, none, none, none, some (kL x6), none, none, none, some (kL x10), none] [] c P := by
  refine kw_aload_n dX9_take_116 rfl ?_
  refine kw_lload dX9_take_117 rfl ?_
  refine kw_lload dX9_take_119 rfl ?_
  refine kw_lload dX9_take_121 rfl ?_
  refine kw_lmul dX9_take_123 ?_
  refine kw_iconst dX9_take_124 ?_
  refine k2_callS3L m_X0_lowest dX9_take_125 wl_X9_31 (Nat.le_of_ble_eq_true rfl) (kC2_mono H (fun r c16 H => ?_))
  obtain ⟨z15, rfl, H⟩ := H
  refine ⟨z15, rfl, ?_⟩
  refine k2_putL fp_X9_3 dX9_take_128 wf_X9_19 hx0 ?_
  refine kw_aload_n dX9_take_131 rfl ?_
  refine kw_lload dX9_take_132 rfl ?_
  refine kw_lload dX9_take_134 rfl ?_
  refine kw_lload dX9_take_136 rfl ?_
  refine kw_lmul dX9_take_138 ?_
  refine kw_iconst dX9_take_139 ?_
  refine k2_callS3L m_X0_lowest dX9_take_140 wl_X9_31 (Nat.le_of_ble_eq_true rfl) (kC2_mono H (fun r c18 H => ?_))
  obtain ⟨z17, rfl, H⟩ := H
  refine ⟨z17, rfl, ?_⟩
  refine k2_putL fp_X9_4 dX9_take_143 wf_X9_22 hx0 ?_
  refine k2_ret dX9_take_146 rfl H
set_option maxRecDepth 4000 in
theorem v_X9_number {G : KG} {S0 : KSh} (hL : kLay S0) {d : Nat} {P : Option AV → KMem → Prop} {c : KMem} {x0 x1 : Int} (hx0 : S0.2.1 x0 = (17, 5)) (r1 : -2147483648 ≤ x1 ∧ x1 < 2147483648) (H : (x1 ≠ 0 → ((x1 ≠ 1 → ((x1 ≠ 2 → ((x1 ≠ 3 → (P (some (kL (c x0 4))) c)) ∧ (x1 = 3 → (P (some (kL (c x0 3))) c)))) ∧ (x1 = 2 → (P (some (kL (c x0 2))) c)))) ∧ (x1 = 1 → (P (some (kL (c x0 1))) c)))) ∧ (x1 = 0 → (P (some (kL (c x0 0))) c))) : kC2 G S0 kM_X9_number d [kA x0, kI x1] c P := by
  refine k2_met (by decide) rfl (Nat.le_of_ble_eq_true rfl) (l0 := [some (kA x0), some (kI x1)]) rfl ?_
  refine kw_iload_n dX9_number_0 rfl ?_
  refine kw_if_ne 9 dX9_number_1 (by decide) (k32i (by omega)) (fun h1 => ?_) (fun h1 => ?_)
  · have H := H.1 h1
    refine kw_iload_n dX9_number_9 rfl ?_
    refine kw_iconst dX9_number_10 ?_
    refine kw_icmp_ne 19 dX9_number_11 (by decide) (k32i (by omega)) (k32i (by omega)) (fun h2 => ?_) (fun h2 => ?_)
    · have H := H.1 h2
      refine kw_iload_n dX9_number_19 rfl ?_
      refine kw_iconst dX9_number_20 ?_
      refine kw_icmp_ne 29 dX9_number_21 (by decide) (k32i (by omega)) (k32i (by omega)) (fun h3 => ?_) (fun h3 => ?_)
      · have H := H.1 h3
        refine kw_iload_n dX9_number_29 rfl ?_
        refine kw_iconst dX9_number_30 ?_
        refine kw_icmp_ne 41 dX9_number_31 (by decide) (k32i (by omega)) (k32i (by omega)) (fun h4 => ?_) (fun h4 => ?_)
        · have H := H.1 h4
          refine kw_aload_n dX9_number_41 rfl ?_
          refine k2_getL fd_X9_4 dX9_number_42 wf_X9_22 hx0 ?_
          refine k2_lret dX9_number_45 rfl H
        · have H := H.2 h4
          refine kw_aload_n dX9_number_34 rfl ?_
          refine k2_getL fd_X9_3 dX9_number_35 wf_X9_19 hx0 ?_
          refine kw_goto 45 dX9_number_38 (by decide) ?_
          refine k2_lret dX9_number_45 rfl H
      · have H := H.2 h3
        refine kw_aload_n dX9_number_24 rfl ?_
        refine k2_getL fd_X9_2 dX9_number_25 wf_X9_16 hx0 ?_
        refine k2_lret dX9_number_28 rfl H
    · have H := H.2 h2
      refine kw_aload_n dX9_number_14 rfl ?_
      refine k2_getL fd_X9_1 dX9_number_15 wf_X9_13 hx0 ?_
      refine k2_lret dX9_number_18 rfl H
  · have H := H.2 h1
    refine kw_aload_n dX9_number_4 rfl ?_
    refine k2_getL fd_X9_0 dX9_number_5 wf_X9_7 hx0 ?_
    refine k2_lret dX9_number_8 rfl H
set_option maxRecDepth 4000 in
theorem v_X9_longestOfMiddle {G : KG} {S0 : KSh} (hL : kLay S0) {d : Nat} {P : Option AV → KMem → Prop} {c : KMem} {x0 : Int} (hx0 : S0.2.1 x0 = (17, 5)) (H : kC2 G S0 kM_J9_abs_067f4 d [kL (c x0 0)] c (kRL (fun z1 c2 => kC2 G S0 kM_J9_abs_067f4 d [kL (c2 x0 1)] c2 (kRL (fun z3 c4 => kC2 G S0 kM_J9_max_f86c9 d [kL z1, kL z3] c4 (kRL (fun z5 c6 => kC2 G S0 kM_J9_max_f86c9 d [kL (c x0 2), kL z5] c6 (kRL (fun z7 c8 => P (some (kL z7)) c8))))))))) : kC2 G S0 kM_X9_longestOfMiddle (d + 1) [kA x0] c P := by
  refine k2_met (by decide) rfl (Nat.le_of_ble_eq_true rfl) (l0 := [some (kA x0)]) rfl ?_
  refine kw_aload_n dX9_longestOfMiddle_0 rfl ?_
  refine k2_getL fd_X9_2 dX9_longestOfMiddle_1 wf_X9_16 hx0 ?_
  refine kw_aload_n dX9_longestOfMiddle_4 rfl ?_
  refine k2_getL fd_X9_0 dX9_longestOfMiddle_5 wf_X9_7 hx0 ?_
  refine k2_callS1L m_J9_abs_067f4 dX9_longestOfMiddle_8 wl_X9_35 (Nat.le_of_ble_eq_true rfl) (kC2_mono H (fun r c2 H => ?_))
  obtain ⟨z1, rfl, H⟩ := H
  refine ⟨z1, rfl, ?_⟩
  refine kw_aload_n dX9_longestOfMiddle_11 rfl ?_
  refine k2_getL fd_X9_1 dX9_longestOfMiddle_12 wf_X9_13 hx0 ?_
  refine k2_callS1L m_J9_abs_067f4 dX9_longestOfMiddle_15 wl_X9_35 (Nat.le_of_ble_eq_true rfl) (kC2_mono H (fun r c4 H => ?_))
  obtain ⟨z3, rfl, H⟩ := H
  refine ⟨z3, rfl, ?_⟩
  refine k2_callS2L m_J9_max_f86c9 dX9_longestOfMiddle_18 wl_X9_41 (Nat.le_of_ble_eq_true rfl) (kC2_mono H (fun r c6 H => ?_))
  obtain ⟨z5, rfl, H⟩ := H
  refine ⟨z5, rfl, ?_⟩
  refine k2_callS2L m_J9_max_f86c9 dX9_longestOfMiddle_21 wl_X9_41 (Nat.le_of_ble_eq_true rfl) (kC2_mono H (fun r c8 H => ?_))
  obtain ⟨z7, rfl, H⟩ := H
  refine ⟨z7, rfl, ?_⟩
  refine k2_lret dX9_longestOfMiddle_24 rfl H
set_option maxRecDepth 4000 in
theorem v_X9_longestOfSize {G : KG} {S0 : KSh} (hL : kLay S0) {d : Nat} {P : Option AV → KMem → Prop} {c : KMem} {x0 : Int} (hx0 : S0.2.1 x0 = (17, 5)) (H : kC2 G S0 kM_J9_abs_067f4 d [kL (c x0 3)] c (kRL (fun z1 c2 => kC2 G S0 kM_J9_max_f86c9 d [kL (c x0 4), kL z1] c2 (kRL (fun z3 c4 => P (some (kL z3)) c4))))) : kC2 G S0 kM_X9_longestOfSize (d + 1) [kA x0] c P := by
  refine k2_met (by decide) rfl (Nat.le_of_ble_eq_true rfl) (l0 := [some (kA x0)]) rfl ?_
  refine kw_aload_n dX9_longestOfSize_0 rfl ?_
  refine k2_getL fd_X9_4 dX9_longestOfSize_1 wf_X9_22 hx0 ?_
  refine kw_aload_n dX9_longestOfSize_4 rfl ?_
  refine k2_getL fd_X9_3 dX9_longestOfSize_5 wf_X9_19 hx0 ?_
  refine k2_callS1L m_J9_abs_067f4 dX9_longestOfSize_8 wl_X9_35 (Nat.le_of_ble_eq_true rfl) (kC2_mono H (fun r c2 H => ?_))
  obtain ⟨z1, rfl, H⟩ := H
  refine ⟨z1, rfl, ?_⟩
  refine k2_callS2L m_J9_max_f86c9 dX9_longestOfSize_11 wl_X9_41 (Nat.le_of_ble_eq_true rfl) (kC2_mono H (fun r c4 H => ?_))
  obtain ⟨z3, rfl, H⟩ := H
  refine ⟨z3, rfl, ?_⟩
  refine k2_lret dX9_longestOfSize_14 rfl H
set_option maxRecDepth 4000 in
theorem v_X9_distanceTo {G : KG} {S0 : KSh} (hL : kLay S0) {d : Nat} {P : Option AV → KMem → Prop} {c : KMem} {x0 x1 x2 : Int} (hx0 : S0.2.1 x0 = (17, 5)) (hx1 : S0.2.1 x1 = (17, 5)) (r2 : -2147483648 ≤ x2 ∧ x2 < 2147483648) (H : kC2 G S0 kM_X0_lowest (d + 1) [kL (((((c x0 0) * (c x1 2)) - ((c x1 0) * (c x0 2))) * (((c x0 0) * (c x1 2)) - ((c x1 0) * (c x0 2)))) + ((((c x0 1) * (c x1 2)) - ((c x1 1) * (c x0 2))) * (((c x0 1) * (c x1 2)) - ((c x1 1) * (c x0 2))))), kL (((c x0 2) * (c x1 2)) * ((c x0 2) * (c x1 2))), kI x2] c (kRL (fun z1 c2 => P (some (kL z1)) c2))) : kC2 G S0 kM_X9_distanceTo (d + 2) [kA x0, kA x1, kI x2] c P := by
  refine k2_met (by decide) rfl (Nat.le_of_ble_eq_true rfl) (l0 := [some (kA x0), some (kA x1), some (kI x2), none, none, none, none, none, none]) rfl ?_
  refine kw_aload_n dX9_distanceTo_0 rfl ?_
  refine k2_getL fd_X9_0 dX9_distanceTo_1 wf_X9_7 hx0 ?_
  refine kw_aload_n dX9_distanceTo_4 rfl ?_
  refine k2_getL fd_X9_2 dX9_distanceTo_5 wf_X9_16 hx1 ?_
  refine kw_lmul dX9_distanceTo_8 ?_
  refine kw_aload_n dX9_distanceTo_9 rfl ?_
  refine k2_getL fd_X9_0 dX9_distanceTo_10 wf_X9_7 hx1 ?_
  refine kw_aload_n dX9_distanceTo_13 rfl ?_
  refine k2_getL fd_X9_2 dX9_distanceTo_14 wf_X9_16 hx0 ?_
  refine kw_lmul dX9_distanceTo_17 ?_
  refine kw_lsub dX9_distanceTo_18 ?_
  refine kw_lstore_n dX9_distanceTo_19 (Nat.le_of_ble_eq_true rfl) ?_
  refine kw_aload_n dX9_distanceTo_20 rfl ?_
  refine k2_getL fd_X9_1 dX9_distanceTo_21 wf_X9_13 hx0 ?_
  refine kw_aload_n dX9_distanceTo_24 rfl ?_
  refine k2_getL fd_X9_2 dX9_distanceTo_25 wf_X9_16 hx1 ?_
  refine kw_lmul dX9_distanceTo_28 ?_
  refine kw_aload_n dX9_distanceTo_29 rfl ?_
  refine k2_getL fd_X9_1 dX9_distanceTo_30 wf_X9_13 hx1 ?_
  refine kw_aload_n dX9_distanceTo_33 rfl ?_
  refine k2_getL fd_X9_2 dX9_distanceTo_34 wf_X9_16 hx0 ?_
  refine kw_lmul dX9_distanceTo_37 ?_
  refine kw_lsub dX9_distanceTo_38 ?_
  refine kw_lstore dX9_distanceTo_39 (Nat.le_of_ble_eq_true rfl) ?_
  refine kw_aload_n dX9_distanceTo_41 rfl ?_
  refine k2_getL fd_X9_2 dX9_distanceTo_42 wf_X9_16 hx0 ?_
  refine kw_aload_n dX9_distanceTo_45 rfl ?_
  refine k2_getL fd_X9_2 dX9_distanceTo_46 wf_X9_16 hx1 ?_
  refine kw_lmul dX9_distanceTo_49 ?_
  refine kw_lstore dX9_distanceTo_50 (Nat.le_of_ble_eq_true rfl) ?_
  refine kw_lload_n dX9_distanceTo_52 rfl ?_
  refine kw_lload_n dX9_distanceTo_53 rfl ?_
  refine kw_lmul dX9_distanceTo_54 ?_
  refine kw_lload dX9_distanceTo_55 rfl ?_
  refine kw_lload dX9_distanceTo_57 rfl ?_
  refine kw_lmul dX9_distanceTo_59 ?_
  refine kw_ladd dX9_distanceTo_60 ?_
  refine kw_lload dX9_distanceTo_61 rfl ?_
  refine kw_lload dX9_distanceTo_63 rfl ?_
  refine kw_lmul dX9_distanceTo_65 ?_
  refine kw_iload_n dX9_distanceTo_66 rfl ?_
  refine k2_callS3L m_X0_lowest dX9_distanceTo_67 wl_X9_31 (Nat.le_of_ble_eq_true rfl) (kC2_mono H (fun r c2 H => ?_))
  obtain ⟨z1, rfl, H⟩ := H
  refine ⟨z1, rfl, ?_⟩
  refine k2_lret dX9_distanceTo_70 rfl H
set_option maxRecDepth 4000 in
theorem v_X9_powerOf {G : KG} {S0 : KSh} (hL : kLay S0) {d : Nat} {P : Option AV → KMem → Prop} {c : KMem} {x0 x1 x2 x3 : Int} (hx0 : S0.2.1 x0 = (17, 5)) (r1 : -2147483648 ≤ x1 ∧ x1 < 2147483648) (r2 : -2147483648 ≤ x2 ∧ x2 < 2147483648) (r3 : -2147483648 ≤ x3 ∧ x3 < 2147483648) (H : kC2 G S0 kM_X0_lowest (d + 1) [kL ((((((x1 * (c x0 2)) - (c x0 0)) * ((x1 * (c x0 2)) - (c x0 0))) + (((x2 * (c x0 2)) - (c x0 1)) * ((x2 * (c x0 2)) - (c x0 1)))) * (c x0 4)) - (((c x0 3) * (c x0 2)) * (c x0 2))), kL (((c x0 2) * (c x0 2)) * (c x0 4)), kI x3] c (kRL (fun z1 c2 => P (some (kL z1)) c2))) : kC2 G S0 kM_X9_powerOf (d + 2) [kA x0, kI x1, kI x2, kI x3] c P := by
  refine k2_met (by decide) rfl (Nat.le_of_ble_eq_true rfl) (l0 := [some (kA x0), some (kI x1), some (kI x2), some (kI x3), none, none, none, none, none, none]) rfl ?_
  refine kw_iload_n dX9_powerOf_0 rfl ?_
  refine kw_i2l dX9_powerOf_1 (k32i (by omega)) ?_
  refine kw_aload_n dX9_powerOf_2 rfl ?_
  refine k2_getL fd_X9_2 dX9_powerOf_3 wf_X9_16 hx0 ?_
  refine kw_lmul dX9_powerOf_6 ?_
  refine kw_aload_n dX9_powerOf_7 rfl ?_
  refine k2_getL fd_X9_0 dX9_powerOf_8 wf_X9_7 hx0 ?_
  refine kw_lsub dX9_powerOf_11 ?_
  refine kw_lstore dX9_powerOf_12 (Nat.le_of_ble_eq_true rfl) ?_
  refine kw_iload_n dX9_powerOf_14 rfl ?_
  refine kw_i2l dX9_powerOf_15 (k32i (by omega)) ?_
  refine kw_aload_n dX9_powerOf_16 rfl ?_
  refine k2_getL fd_X9_2 dX9_powerOf_17 wf_X9_16 hx0 ?_
  refine kw_lmul dX9_powerOf_20 ?_
  refine kw_aload_n dX9_powerOf_21 rfl ?_
  refine k2_getL fd_X9_1 dX9_powerOf_22 wf_X9_13 hx0 ?_
  refine kw_lsub dX9_powerOf_25 ?_
  refine kw_lstore dX9_powerOf_26 (Nat.le_of_ble_eq_true rfl) ?_
  refine kw_lload dX9_powerOf_28 rfl ?_
  refine kw_lload dX9_powerOf_30 rfl ?_
  refine kw_lmul dX9_powerOf_32 ?_
  refine kw_lload dX9_powerOf_33 rfl ?_
  refine kw_lload dX9_powerOf_35 rfl ?_
  refine kw_lmul dX9_powerOf_37 ?_
  refine kw_ladd dX9_powerOf_38 ?_
  refine kw_lstore dX9_powerOf_39 (Nat.le_of_ble_eq_true rfl) ?_
  refine kw_lload dX9_powerOf_41 rfl ?_
  refine kw_aload_n dX9_powerOf_43 rfl ?_
  refine k2_getL fd_X9_4 dX9_powerOf_44 wf_X9_22 hx0 ?_
  refine kw_lmul dX9_powerOf_47 ?_
  refine kw_aload_n dX9_powerOf_48 rfl ?_
  refine k2_getL fd_X9_3 dX9_powerOf_49 wf_X9_19 hx0 ?_
  refine kw_aload_n dX9_powerOf_52 rfl ?_
  refine k2_getL fd_X9_2 dX9_powerOf_53 wf_X9_16 hx0 ?_
  refine kw_lmul dX9_powerOf_56 ?_
  refine kw_aload_n dX9_powerOf_57 rfl ?_
  refine k2_getL fd_X9_2 dX9_powerOf_58 wf_X9_16 hx0 ?_
  refine kw_lmul dX9_powerOf_61 ?_
  refine kw_lsub dX9_powerOf_62 ?_
  refine kw_aload_n dX9_powerOf_63 rfl ?_
  refine k2_getL fd_X9_2 dX9_powerOf_64 wf_X9_16 hx0 ?_
  refine kw_aload_n dX9_powerOf_67 rfl ?_
  refine k2_getL fd_X9_2 dX9_powerOf_68 wf_X9_16 hx0 ?_
  refine kw_lmul dX9_powerOf_71 ?_
  refine kw_aload_n dX9_powerOf_72 rfl ?_
  refine k2_getL fd_X9_4 dX9_powerOf_73 wf_X9_22 hx0 ?_
  refine kw_lmul dX9_powerOf_76 ?_
  refine kw_iload_n dX9_powerOf_77 rfl ?_
  refine k2_callS3L m_X0_lowest dX9_powerOf_78 wl_X9_31 (Nat.le_of_ble_eq_true rfl) (kC2_mono H (fun r c2 H => ?_))
  obtain ⟨z1, rfl, H⟩ := H
  refine ⟨z1, rfl, ?_⟩
  refine k2_lret dX9_powerOf_81 rfl H
