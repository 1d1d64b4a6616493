set_option maxRecDepth 4000 in
theorem v_J6_bitCount_0f7a4 {G : KG} {S0 : KSh} (hL : kLay S0) {d : Nat} {P : Option AV → KMem → Prop} {c : KMem} {x0 : Int} (r0 : -2147483648 ≤ x0 ∧ x0 < 2147483648) (H : P (some (kI (kand (((kand (((kand (x0 - (kand (kushr x0 1) 1431655765)) 858993459) + (kand (kushr (x0 - (kand (kushr x0 1) 1431655765)) 2) 858993459)) + (kushr ((kand (x0 - (kand (kushr x0 1) 1431655765)) 858993459) + (kand (kushr (x0 - (kand (kushr x0 1) 1431655765)) 2) 858993459)) 4)) 252645135) + (kushr (kand (((kand (x0 - (kand (kushr x0 1) 1431655765)) 858993459) + (kand (kushr (x0 - (kand (kushr x0 1) 1431655765)) 2) 858993459)) + (kushr ((kand (x0 - (kand (kushr x0 1) 1431655765)) 858993459) + (kand (kushr (x0 - (kand (kushr x0 1) 1431655765)) 2) 858993459)) 4)) 252645135) 8)) + (kushr ((kand (((kand (x0 - (kand (kushr x0 1) 1431655765)) 858993459) + (kand (kushr (x0 - (kand (kushr x0 1) 1431655765)) 2) 858993459)) + (kushr ((kand (x0 - (kand (kushr x0 1) 1431655765)) 858993459) + (kand (kushr (x0 - (kand (kushr x0 1) 1431655765)) 2) 858993459)) 4)) 252645135) + (kushr (kand (((kand (x0 - (kand (kushr x0 1) 1431655765)) 858993459) + (kand (kushr (x0 - (kand (kushr x0 1) 1431655765)) 2) 858993459)) + (kushr ((kand (x0 - (kand (kushr x0 1) 1431655765)) 858993459) + (kand (kushr (x0 - (kand (kushr x0 1) 1431655765)) 2) 858993459)) 4)) 252645135) 8)) 16)) 63))) c) : kC2 G S0 kM_J6_bitCount_0f7a4 d [kI x0] c P := by
  refine k2_met (by decide) rfl (Nat.le_of_ble_eq_true rfl) (l0 := [some (kI x0)]) rfl ?_
  refine kw_iload_n dJ6_bitCount_0f7a4_0 rfl ?_
  refine kw_iload_n dJ6_bitCount_0f7a4_1 rfl ?_
  refine kw_iconst dJ6_bitCount_0f7a4_2 ?_
  refine kw_iushr dJ6_bitCount_0f7a4_3 ?_
  refine kw_ldcw dJ6_bitCount_0f7a4_4 wk_J6_265 ?_
  refine kw_iand dJ6_bitCount_0f7a4_7 ?_
  refine kw_isub dJ6_bitCount_0f7a4_8 ?_
  refine kw_istore_n dJ6_bitCount_0f7a4_9 (Nat.le_of_ble_eq_true rfl) ?_
  refine kw_iload_n dJ6_bitCount_0f7a4_10 rfl ?_
  refine kw_ldcw dJ6_bitCount_0f7a4_11 wk_J6_266 ?_
  refine kw_iand dJ6_bitCount_0f7a4_14 ?_
  refine kw_iload_n dJ6_bitCount_0f7a4_15 rfl ?_
  refine kw_iconst dJ6_bitCount_0f7a4_16 ?_
  refine kw_iushr dJ6_bitCount_0f7a4_17 ?_
  refine kw_ldcw dJ6_bitCount_0f7a4_18 wk_J6_266 ?_
  refine kw_iand dJ6_bitCount_0f7a4_21 ?_
  refine kw_iadd dJ6_bitCount_0f7a4_22 ?_
  refine kw_istore_n dJ6_bitCount_0f7a4_23 (Nat.le_of_ble_eq_true rfl) ?_
  refine kw_iload_n dJ6_bitCount_0f7a4_24 rfl ?_
  refine kw_iload_n dJ6_bitCount_0f7a4_25 rfl ?_
  refine kw_iconst dJ6_bitCount_0f7a4_26 ?_
  refine kw_iushr dJ6_bitCount_0f7a4_27 ?_
  refine kw_iadd dJ6_bitCount_0f7a4_28 ?_
  refine kw_ldcw dJ6_bitCount_0f7a4_29 wk_J6_267 ?_
  refine kw_iand dJ6_bitCount_0f7a4_32 ?_
  refine kw_istore_n dJ6_bitCount_0f7a4_33 (Nat.le_of_ble_eq_true rfl) ?_
  refine kw_iload_n dJ6_bitCount_0f7a4_34 rfl ?_
  refine kw_iload_n dJ6_bitCount_0f7a4_35 rfl ?_
  refine kw_bipush dJ6_bitCount_0f7a4_36 (by decide) ?_
  refine kw_iushr dJ6_bitCount_0f7a4_38 ?_
  refine kw_iadd dJ6_bitCount_0f7a4_39 ?_
  refine kw_istore_n dJ6_bitCount_0f7a4_40 (Nat.le_of_ble_eq_true rfl) ?_
  refine kw_iload_n dJ6_bitCount_0f7a4_41 rfl ?_
  refine kw_iload_n dJ6_bitCount_0f7a4_42 rfl ?_
  refine kw_bipush dJ6_bitCount_0f7a4_43 (by decide) ?_
  refine kw_iushr dJ6_bitCount_0f7a4_45 ?_
  refine kw_iadd dJ6_bitCount_0f7a4_46 ?_
  refine kw_istore_n dJ6_bitCount_0f7a4_47 (Nat.le_of_ble_eq_true rfl) ?_
  refine kw_iload_n dJ6_bitCount_0f7a4_48 rfl ?_
  refine kw_bipush dJ6_bitCount_0f7a4_49 (by decide) ?_
  refine kw_iand dJ6_bitCount_0f7a4_51 ?_
  refine k2_iret dJ6_bitCount_0f7a4_52 rfl H
set_option maxRecDepth 4000 in
theorem v_J9_abs_067f4 {G : KG} {S0 : KSh} (hL : kLay S0) {d : Nat} {P : Option AV → KMem → Prop} {c : KMem} {x0 : Int}  (H : (k64 x0) ∧ ((0 ≤ x0 → (P (some (kL x0)) c)) ∧ (x0 < 0 → (P (some (kL (-x0))) c)))) : kC2 G S0 kM_J9_abs_067f4 d [kL x0] c P := by
  refine k2_metF (by decide +kernel) rfl (Nat.le_of_ble_eq_true rfl) (l0 := [some (kL x0), none]) rfl ?_
  refine kw_lload_n dJ9_abs_067f4_0 rfl ?_
  refine kw_lconst0 dJ9_abs_067f4_1 ?_
  have o1 := H.1
  have H := H.2
  refine kw_lcmp_ge 11 dJ9_abs_067f4_2 dJ9_abs_067f4_3 (by decide) o1 (k64i (by omega)) (fun h2 => ?_) (fun h2 => ?_)
  · have H := H.1 h2
    refine kw_lload_n dJ9_abs_067f4_11 rfl ?_
    refine k2_lret dJ9_abs_067f4_12 rfl H
  · have H := H.2 h2
    refine kw_lload_n dJ9_abs_067f4_6 rfl ?_
    refine kw_lneg dJ9_abs_067f4_7 ?_
    refine kw_goto 12 dJ9_abs_067f4_8 (by decide) ?_
    refine k2_lret dJ9_abs_067f4_12 rfl H
set_option maxRecDepth 4000 in
theorem v_J9_floorMod_f86c9 {G : KG} {S0 : KSh} (hL : kLay S0) {d : Nat} {P : Option AV → KMem → Prop} {c : KMem} {x0 x2 : Int}  (H : (k64 x0) ∧ ((k64 x2) ∧ ((x2 ≠ 0) ∧ ((0 ≤ (klxor x0 x2) → (P (some (kL (Int.tmod x0 x2))) c)) ∧ ((klxor x0 x2) < 0 → ((k64 (Int.tmod x0 x2)) ∧ (((Int.tmod x0 x2) = 0 → (P (some (kL (Int.tmod x0 x2))) c)) ∧ ((Int.tmod x0 x2) ≠ 0 → (P (some (kL ((Int.tmod x0 x2) + x2))) c))))))))) : kC2 G S0 kM_J9_floorMod_f86c9 d [kL x0, kL x2] c P := by
  refine k2_metF (by decide +kernel) rfl (Nat.le_of_ble_eq_true rfl) (l0 := [some (kL x0), none, some (kL x2), none, none, none]) rfl ?_
  refine kw_lload_n dJ9_floorMod_f86c9_0 rfl ?_
  refine kw_lload_n dJ9_floorMod_f86c9_1 rfl ?_
  have o1 := H.1
  have H := H.2
  have o2 := H.1
  have H := H.2
  have o3 := H.1
  have H := H.2
  refine kw_lrem dJ9_floorMod_f86c9_2 o1 o2 o3 ?_
  refine kw_lstore dJ9_floorMod_f86c9_3 (Nat.le_of_ble_eq_true rfl) ?_
  refine kw_lload_n dJ9_floorMod_f86c9_5 rfl ?_
  refine kw_lload_n dJ9_floorMod_f86c9_6 rfl ?_
  refine kw_lxor dJ9_floorMod_f86c9_7 ?_
  refine kw_lconst0 dJ9_floorMod_f86c9_8 ?_
  refine kw_lcmp_ge 25 dJ9_floorMod_f86c9_9 dJ9_floorMod_f86c9_10 (by decide) (k64_klxor _ _) (k64i (by omega)) (fun h4 => ?_) (fun h4 => ?_)
  · have H := H.1 h4
    refine kw_lload dJ9_floorMod_f86c9_25 rfl ?_
    refine k2_lret dJ9_floorMod_f86c9_27 rfl H
  · have H := H.2 h4
    refine kw_lload dJ9_floorMod_f86c9_13 rfl ?_
    refine kw_lconst0 dJ9_floorMod_f86c9_15 ?_
    have o5 := H.1
    have H := H.2
    refine kw_lcmp_eq 25 dJ9_floorMod_f86c9_16 dJ9_floorMod_f86c9_17 (by decide) o5 (k64i (by omega)) (fun h6 => ?_) (fun h6 => ?_)
    · have H := H.1 h6
      refine kw_lload dJ9_floorMod_f86c9_25 rfl ?_
      refine k2_lret dJ9_floorMod_f86c9_27 rfl H
    · have H := H.2 h6
      refine kw_lload dJ9_floorMod_f86c9_20 rfl ?_
      refine kw_lload_n dJ9_floorMod_f86c9_22 rfl ?_
      refine kw_ladd dJ9_floorMod_f86c9_23 ?_
      refine k2_lret dJ9_floorMod_f86c9_24 rfl H
set_option maxRecDepth 4000 in
theorem v_J9_max_f86c9 {G : KG} {S0 : KSh} (hL : kLay S0) {d : Nat} {P : Option AV → KMem → Prop} {c : KMem} {x0 x2 : Int}  (H : (k64 x0) ∧ ((k64 x2) ∧ ((x0 < x2 → (P (some (kL x2)) c)) ∧ (x2 ≤ x0 → (P (some (kL x0)) c))))) : kC2 G S0 kM_J9_max_f86c9 d [kL x0, kL x2] c P := by
  refine k2_metF (by decide +kernel) rfl (Nat.le_of_ble_eq_true rfl) (l0 := [some (kL x0), none, some (kL x2), none]) rfl ?_
  refine kw_lload_n dJ9_max_f86c9_0 rfl ?_
  refine kw_lload_n dJ9_max_f86c9_1 rfl ?_
  have o1 := H.1
  have H := H.2
  have o2 := H.1
  have H := H.2
  refine kw_lcmp_lt 10 dJ9_max_f86c9_2 dJ9_max_f86c9_3 (by decide) o1 o2 (fun h3 => ?_) (fun h3 => ?_)
  · have H := H.1 h3
    refine kw_lload_n dJ9_max_f86c9_10 rfl ?_
    refine k2_lret dJ9_max_f86c9_11 rfl H
  · have H := H.2 h3
    refine kw_lload_n dJ9_max_f86c9_6 rfl ?_
    refine kw_goto 11 dJ9_max_f86c9_7 (by decide) ?_
    refine k2_lret dJ9_max_f86c9_11 rfl H
set_option maxRecDepth 4000 in
theorem v_J9_min_7cf53 {G : KG} {S0 : KSh} (hL : kLay S0) {d : Nat} {P : Option AV → KMem → Prop} {c : KMem} {x0 x1 : Int} (r0 : -2147483648 ≤ x0 ∧ x0 < 2147483648) (r1 : -2147483648 ≤ x1 ∧ x1 < 2147483648) (H : (x1 < x0 → (P (some (kI x1)) c)) ∧ (x0 ≤ x1 → (P (some (kI x0)) c))) : kC2 G S0 kM_J9_min_7cf53 d [kI x0, kI x1] c P := by
  refine k2_metF (by decide +kernel) rfl (Nat.le_of_ble_eq_true rfl) (l0 := [some (kI x0), some (kI x1)]) rfl ?_
  refine kw_iload_n dJ9_min_7cf53_0 rfl ?_
  refine kw_iload_n dJ9_min_7cf53_1 rfl ?_
  refine kw_icmp_gt 9 dJ9_min_7cf53_2 (by decide) (k32i (by omega)) (k32i (by omega)) (fun h1 => ?_) (fun h1 => ?_)
  · have H := H.1 h1
    refine kw_iload_n dJ9_min_7cf53_9 rfl ?_
    refine k2_iret dJ9_min_7cf53_10 rfl H
  · have H := H.2 h1
    refine kw_iload_n dJ9_min_7cf53_5 rfl ?_
    refine kw_goto 10 dJ9_min_7cf53_6 (by decide) ?_
    refine k2_iret dJ9_min_7cf53_10 rfl H
set_option maxRecDepth 4000 in
theorem v_X10_isBeyond {G : KG} {S0 : KSh} (hL : kLay S0) {d : Nat} {P : Option AV → KMem → Prop} {c : KMem} {x0 : Int}  (H : (k64 x0) ∧ ((100000000 < x0 → (P (some (kI 1)) c)) ∧ (x0 ≤ 100000000 → (((-100000000) ≤ x0 → (P (some (kI 0)) c)) ∧ (x0 < (-100000000) → (P (some (kI 1)) c)))))) : kC2 G S0 kM_X10_isBeyond d [kL x0] c P := by
  refine k2_met (by decide) rfl (Nat.le_of_ble_eq_true rfl) (l0 := [some (kL x0), none]) rfl ?_
  refine kw_lload_n dX10_isBeyond_0 rfl ?_
  refine kw_ldc2 dX10_isBeyond_1 wk_X10_309 ?_
  have o1 := H.1
  have H := H.2
  refine kw_lcmp_gt 16 dX10_isBeyond_4 dX10_isBeyond_5 (by decide) o1 (k64i (by omega)) (fun h2 => ?_) (fun h2 => ?_)
  · have H := H.1 h2
    refine kw_iconst dX10_isBeyond_16 ?_
    refine kw_goto 21 dX10_isBeyond_17 (by decide) ?_
    refine k2_zret dX10_isBeyond_21 rfl (Or.inr rfl) H
  · have H := H.2 h2
    refine kw_lload_n dX10_isBeyond_8 rfl ?_
    refine kw_ldc2 dX10_isBeyond_9 wk_X10_311 ?_
    refine kw_lcmp_ge 20 dX10_isBeyond_12 dX10_isBeyond_13 (by decide) o1 (k64i (by omega)) (fun h3 => ?_) (fun h3 => ?_)
    · have H := H.1 h3
      refine kw_iconst dX10_isBeyond_20 ?_
      refine k2_zret dX10_isBeyond_21 rfl (Or.inl rfl) H
    · have H := H.2 h3
      refine kw_iconst dX10_isBeyond_16 ?_
      refine kw_goto 21 dX10_isBeyond_17 (by decide) ?_
      refine k2_zret dX10_isBeyond_21 rfl (Or.inr rfl) H
set_option maxRecDepth 4000 in
theorem v_X10_isIn {G : KG} {S0 : KSh} (hL : kLay S0) {d : Nat} {P : Option AV → KMem → Prop} {c : KMem} {x0 x1 : Int} (r0 : -2147483648 ≤ x0 ∧ x0 < 2147483648) (r1 : -2147483648 ≤ x1 ∧ x1 < 2147483648) (H : ((kand (kshr x0 x1) 1) = 0 → (P (some (kI 0)) c)) ∧ ((kand (kshr x0 x1) 1) ≠ 0 → (P (some (kI 1)) c))) : kC2 G S0 kM_X10_isIn d [kI x0, kI x1] c P := by
  refine k2_met (by decide) rfl (Nat.le_of_ble_eq_true rfl) (l0 := [some (kI x0), some (kI x1)]) rfl ?_
  refine kw_iload_n dX10_isIn_0 rfl ?_
  refine kw_iload_n dX10_isIn_1 rfl ?_
  refine kw_ishr dX10_isIn_2 ?_
  refine kw_iconst dX10_isIn_3 ?_
  refine kw_iand dX10_isIn_4 ?_
  refine kw_if_eq 12 dX10_isIn_5 (by decide) (k32_kand _ _) (fun h1 => ?_) (fun h1 => ?_)
  · have H := H.1 h1
    refine kw_iconst dX10_isIn_12 ?_
    refine k2_zret dX10_isIn_13 rfl (Or.inl rfl) H
  · have H := H.2 h1
    refine kw_iconst dX10_isIn_8 ?_
    refine kw_goto 13 dX10_isIn_9 (by decide) ?_
    refine k2_zret dX10_isIn_13 rfl (Or.inr rfl) H
set_option maxRecDepth 4000 in
theorem v_X0_counts {G : KG} {S0 : KSh} (hL : kLay S0) {d : Nat} {P : Option AV → KMem → Prop} {c : KMem} {x0 x1 x2 : Int} (r0 : -2147483648 ≤ x0 ∧ x0 < 2147483648) (r1 : -2147483648 ≤ x1 ∧ x1 < 2147483648) (r2 : -2147483648 ≤ x2 ∧ x2 < 2147483648) (H : (x0 ≠ 1 → ((x0 ≠ 2 → (P (some (kI 1)) c)) ∧ (x0 = 2 → (((kand x1 x2) ≠ x1 → (P (some (kI 0)) c)) ∧ ((kand x1 x2) = x1 → (P (some (kI 1)) c)))))) ∧ (x0 = 1 → (((kand x1 x2) ≠ 0 → (P (some (kI 0)) c)) ∧ ((kand x1 x2) = 0 → (P (some (kI 1)) c))))) : kC2 G S0 kM_X0_counts d [kI x0, kI x1, kI x2] c P := by
  refine k2_met (by decide) rfl (Nat.le_of_ble_eq_true rfl) (l0 := [some (kI x0), some (kI x1), some (kI x2)]) rfl ?_
  refine kw_iload_n dX0_counts_0 rfl ?_
  refine kw_iconst dX0_counts_1 ?_
  refine kw_icmp_ne 17 dX0_counts_2 (by decide) (k32i (by omega)) (k32i (by omega)) (fun h1 => ?_) (fun h1 => ?_)
  · have H := H.1 h1
    refine kw_iload_n dX0_counts_17 rfl ?_
    refine kw_iconst dX0_counts_18 ?_
    refine kw_icmp_ne 35 dX0_counts_19 (by decide) (k32i (by omega)) (k32i (by omega)) (fun h2 => ?_) (fun h2 => ?_)
    · have H := H.1 h2
      refine kw_iconst dX0_counts_35 ?_
      refine k2_zret dX0_counts_36 rfl (Or.inr rfl) H
    · have H := H.2 h2
      refine kw_iload_n dX0_counts_22 rfl ?_
      refine kw_iload_n dX0_counts_23 rfl ?_
      refine kw_iand dX0_counts_24 ?_
      refine kw_iload_n dX0_counts_25 rfl ?_
      refine kw_icmp_ne 33 dX0_counts_26 (by decide) (k32_kand _ _) (k32i (by omega)) (fun h3 => ?_) (fun h3 => ?_)
      · have H := H.1 h3
        refine kw_iconst dX0_counts_33 ?_
        refine k2_zret dX0_counts_34 rfl (Or.inl rfl) H
      · have H := H.2 h3
        refine kw_iconst dX0_counts_29 ?_
        refine kw_goto 34 dX0_counts_30 (by decide) ?_
        refine k2_zret dX0_counts_34 rfl (Or.inr rfl) H
  · have H := H.2 h1
    refine kw_iload_n dX0_counts_5 rfl ?_
    refine kw_iload_n dX0_counts_6 rfl ?_
    refine kw_iand dX0_counts_7 ?_
    refine kw_if_ne 15 dX0_counts_8 (by decide) (k32_kand _ _) (fun h4 => ?_) (fun h4 => ?_)
    · have H := H.1 h4
      refine kw_iconst dX0_counts_15 ?_
      refine k2_zret dX0_counts_16 rfl (Or.inl rfl) H
    · have H := H.2 h4
      refine kw_iconst dX0_counts_11 ?_
      refine kw_goto 16 dX0_counts_12 (by decide) ?_
      refine k2_zret dX0_counts_16 rfl (Or.inr rfl) H
def kbcE (x0 : Int) : Int := kand (((kand (((kand (x0 - (kand (kushr x0 1) 1431655765)) 858993459) + (kand (kushr (x0 - (kand (kushr x0 1) 1431655765)) 2) 858993459)) + (kushr ((kand (x0 - (kand (kushr x0 1) 1431655765)) 858993459) + (kand (kushr (x0 - (kand (kushr x0 1) 1431655765)) 2) 858993459)) 4)) 252645135) + (kushr (kand (((kand (x0 - (kand (kushr x0 1) 1431655765)) 858993459) + (kand (kushr (x0 - (kand (kushr x0 1) 1431655765)) 2) 858993459)) + (kushr ((kand (x0 - (kand (kushr x0 1) 1431655765)) 858993459) + (kand (kushr (x0 - (kand (kushr x0 1) 1431655765)) 2) 858993459)) 4)) 252645135) 8)) + (kushr ((kand (((kand (x0 - (kand (kushr x0 1) 1431655765)) 858993459) + (kand (kushr (x0 - (kand (kushr x0 1) 1431655765)) 2) 858993459)) + (kushr ((kand (x0 - (kand (kushr x0 1) 1431655765)) 858993459) + (kand (kushr (x0 - (kand (kushr x0 1) 1431655765)) 2) 858993459)) 4)) 252645135) + (kushr (kand (((kand (x0 - (kand (kushr x0 1) 1431655765)) 858993459) + (kand (kushr (x0 - (kand (kushr x0 1) 1431655765)) 2) 858993459)) + (kushr ((kand (x0 - (kand (kushr x0 1) 1431655765)) 858993459) + (kand (kushr (x0 - (kand (kushr x0 1) 1431655765)) 2) 858993459)) 4)) 252645135) 8)) 16)) 63
theorem kbc_c : ∀ a, a < 64 → ∀ b, b < 64 → kbcE ((64 * a + b : Nat) : Int) = (kpop (64 * a + b) : Int) := by decide +kernel
section CAL
variable {G : KG} {S0 : KSh} {d : Nat} {P : Option AV → KMem → Prop} {c : KMem} {x0 x1 x2 x3 x4 : Int}
theorem s_bitCount (hL : kLay S0) (r0 : 0 ≤ x0 ∧ x0 < 4096) (h : P (some (kI (kpop x0.toNat))) c) : kC2 G S0 kM_J6_bitCount_0f7a4 d [kI x0] c P := by
  obtain ⟨n, rfl⟩ := kint_nat r0.1
  refine v_J6_bitCount_0f7a4 hL (by omega) ?_
  have := k4096 (p := fun n => kbcE (n : Int) = (kpop n : Int)) kbc_c n (by omega)
  show P (some (kI (kbcE (n : Int)))) c
  rw [this]
  exact h
theorem s_X10_isBeyond (hL : kLay S0) (r0 : k64 x0) (h1 : (100000000 < x0 ∨ x0 < -100000000) → P (some (kI 1)) c) (h0 : ¬ (100000000 < x0 ∨ x0 < -100000000) → P (some (kI 0)) c) : kC2 G S0 kM_X10_isBeyond d [kL x0] c P :=
  v_X10_isBeyond hL ⟨r0, fun a => h1 (Or.inl a), fun a => ⟨fun b => h0 (by omega), fun b => h1 (Or.inr b)⟩⟩
theorem s_X10_isIn (hL : kLay S0) (r0 : k32 x0) (r1 : k32 x1) (h1 : kand (kshr x0 x1) 1 ≠ 0 → P (some (kI 1)) c) (h0 : ¬ kand (kshr x0 x1) 1 ≠ 0 → P (some (kI 0)) c) : kC2 G S0 kM_X10_isIn d [kI x0, kI x1] c P :=
  v_X10_isIn hL r0 r1 ⟨fun a => h0 (fun q => q a), fun a => h1 a⟩
theorem s_X0_counts (hL : kLay S0) (r0 : x0 = 0 ∨ x0 = 1 ∨ x0 = 2) (r1 : k32 x1) (r2 : k32 x2) (h1 : kcb x0 x1 x2 = true → P (some (kI 1)) c) (h0 : ¬ kcb x0 x1 x2 = true → P (some (kI 0)) c) : kC2 G S0 kM_X0_counts d [kI x0, kI x1, kI x2] c P := by
  rw [kcb_iff] at h1 h0
  exact v_X0_counts hL (by omega) r1 r2 ⟨fun a => ⟨fun b => h1 (by omega), fun b => ⟨fun e => h0 (by omega), fun e => h1 (by omega)⟩⟩, fun a => ⟨fun e => h0 (by omega), fun e => h1 (by omega)⟩⟩
end CAL
set_option maxRecDepth 4000 in
theorem v_X0_partOf {G : KG} {S0 : KSh} (hL : kLay S0) {d : Nat} {P : Option AV → KMem → Prop} {c : KMem} {x0 x1 x2 x3 : Int} (r0 : -2147483648 ≤ x0 ∧ x0 < 2147483648) (hx1 : S0.2.1 x1 = (2, 16)) (hx2 : S0.2.1 x2 = (2, 16)) (r3 : -2147483648 ≤ x3 ∧ x3 < 2147483648) (H : kW2 G S0 kM_X0_partOf (d + 1) 6 [some (kI x0), some (kA x1), some (kA x2), some (kI x3), some (kL 0), none, some (kI 0), none, none, none] [] c P) : kC2 G S0 kM_X0_partOf (d + 1) [kI x0, kA x1, kA x2, kI x3] c P := by
  refine k2_met (by decide) rfl (Nat.le_of_ble_eq_true rfl) (l0 := [some (kI x0), some (kA x1), some (kA x2), some (kI x3), none, none, none, none, none, none]) rfl ?_
  refine kw_lconst0 dX0_partOf_0 ?_
  refine kw_lstore dX0_partOf_1 (Nat.le_of_ble_eq_true rfl) ?_
  refine kw_iconst dX0_partOf_3 ?_
  refine kw_istore dX0_partOf_4 (Nat.le_of_ble_eq_true rfl) ?_
  exact kw_forget (ls' := [some (kI x0), some (kA x1), some (kA x2), some (kI x3), some (kL 0), none, some (kI 0), none, none, none]) ⟨Or.inr rfl, ⟨Or.inr rfl, ⟨Or.inr rfl, ⟨Or.inr rfl, ⟨Or.inr rfl, ⟨Or.inr rfl, ⟨Or.inr rfl, ⟨Or.inr rfl, ⟨Or.inr rfl, ⟨Or.inr rfl, trivial⟩⟩⟩⟩⟩⟩⟩⟩⟩⟩ H
set_option maxRecDepth 4000 in
theorem v_X0_partOf_6 {G : KG} {S0 : KSh} (hL : kLay S0) {d : Nat} {P : Option AV → KMem → Prop} {c : KMem} {x0 x1 x2 x3 x4 x6 : Int} (r0 : -2147483648 ≤ x0 ∧ x0 < 2147483648) (hx1 : S0.2.1 x1 = (2, 16)) (hx2 : S0.2.1 x2 = (2, 16)) (r3 : -2147483648 ≤ x3 ∧ x3 < 2147483648) (r6 : 0 ≤ x6 ∧ x6 < 2147483648) (H : (16 ≤ x6 → (P (some (kL x4)) c)) ∧ (x6 < 16 → ((k64 (c x1 x6)) ∧ (((c x1 x6) = 0 → (kW2 G S0 kM_X0_partOf (d + 1) 89 [some (kI x0), some (kA x1), some (kA x2), some (kI x3), some (kL x4), none, some (kI x6), none, none, none] [] c P)) ∧ ((c x1 x6) ≠ 0 → ((0 ≤ (kand (kxor x6 x3) 15) ∧ (kand (kxor x6 x3) 15) < 16) ∧ ((k64 (c x2 (kand (kxor x6 x3) 15))) ∧ (((c x2 (kand (kxor x6 x3) 15)) = 0 → (kW2 G S0 kM_X0_partOf (d + 1) 89 [some (kI x0), some (kA x1), some (kA x2), some (kI x3), some (kL x4), none, some (kI x6), none, none, none] [] c P)) ∧ ((c x2 (kand (kxor x6 x3) 15)) ≠ 0 → ((x0 = 0 ∨ x0 = 1 ∨ x0 = 2) ∧ (((kcb x0 x6 (kand (kxor x6 x3) 15) = true) → (((kand (kshr ((kSigns.getD (Int.toNat x6) 0).toInt) (kand (kxor x6 x3) 15)) 1) = 0 → (kW2 G S0 kM_X0_partOf (d + 1) 89 [some (kI x0), some (kA x1), some (kA x2), some (kI x3), some (kL (x4 + ((c x1 x6) * (c x2 (kand (kxor x6 x3) 15))))), none, some (kI x6), none, none, none] [] c P)) ∧ ((kand (kshr ((kSigns.getD (Int.toNat x6) 0).toInt) (kand (kxor x6 x3) 15)) 1) ≠ 0 → (kW2 G S0 kM_X0_partOf (d + 1) 89 [some (kI x0), some (kA x1), some (kA x2), some (kI x3), some (kL (x4 + (-((c x1 x6) * (c x2 (kand (kxor x6 x3) 15)))))), none, some (kI x6), none, none, none] [] c P)))) ∧ (¬ (kcb x0 x6 (kand (kxor x6 x3) 15) = true) → (kW2 G S0 kM_X0_partOf (d + 1) 89 [some (kI x0), some (kA x1), some (kA x2), some (kI x3), some (kL x4), none, some (kI x6), none, none, none] [] c P))))))))))))) : kW2 G S0 kM_X0_partOf (d + 1) 6 [some (kI x0), some (kA x1), some (kA x2), some (kI x3), some (kL x4), none, some (kI x6), none, none, none] [] c P := by
  refine kw_iload dX0_partOf_6 rfl ?_
  refine kw_bipush dX0_partOf_8 (by decide) ?_
  refine kw_icmp_ge 95 dX0_partOf_10 (by decide) (k32i (by omega)) (k32i (by omega)) (fun h1 => ?_) (fun h1 => ?_)
  · have H := H.1 h1
    refine kw_lload dX0_partOf_95 rfl ?_
    refine k2_lret dX0_partOf_97 rfl H
  · have H := H.2 h1
    refine kw_iload dX0_partOf_13 rfl ?_
    refine kw_iload_n dX0_partOf_15 rfl ?_
    refine kw_ixor dX0_partOf_16 ?_
    refine kw_bipush dX0_partOf_17 (by decide) ?_
    refine kw_iand dX0_partOf_19 ?_
    refine kw_istore dX0_partOf_20 (Nat.le_of_ble_eq_true rfl) ?_
    refine kw_aload_n dX0_partOf_22 rfl ?_
    refine kw_iload dX0_partOf_23 rfl ?_
    refine k2_lald dX0_partOf_25 hx1 (by omega) (by omega) ?_
    refine kw_lconst0 dX0_partOf_26 ?_
    have o2 := H.1
    have H := H.2
    refine kw_lcmp_eq 89 dX0_partOf_27 dX0_partOf_28 (by decide) o2 (k64i (by omega)) (fun h3 => ?_) (fun h3 => ?_)
    · have H := H.1 h3
      exact kw_forget (ls' := [some (kI x0), some (kA x1), some (kA x2), some (kI x3), some (kL x4), none, some (kI x6), none, none, none]) ⟨Or.inr rfl, ⟨Or.inr rfl, ⟨Or.inr rfl, ⟨Or.inr rfl, ⟨Or.inr rfl, ⟨Or.inr rfl, ⟨Or.inr rfl, ⟨Or.inl rfl, ⟨Or.inr rfl, ⟨Or.inr rfl, trivial⟩⟩⟩⟩⟩⟩⟩⟩⟩⟩ H
    · have H := H.2 h3
      refine kw_aload_n dX0_partOf_31 rfl ?_
      refine kw_iload dX0_partOf_32 rfl ?_
      have o4 := H.1
      have H := H.2
      refine k2_lald dX0_partOf_34 hx2 (by omega) o4 ?_
      refine kw_lconst0 dX0_partOf_35 ?_
      have o5 := H.1
      have H := H.2
      refine kw_lcmp_eq 89 dX0_partOf_36 dX0_partOf_37 (by decide) o5 (k64i (by omega)) (fun h6 => ?_) (fun h6 => ?_)
      · have H := H.1 h6
        exact kw_forget (ls' := [some (kI x0), some (kA x1), some (kA x2), some (kI x3), some (kL x4), none, some (kI x6), none, none, none]) ⟨Or.inr rfl, ⟨Or.inr rfl, ⟨Or.inr rfl, ⟨Or.inr rfl, ⟨Or.inr rfl, ⟨Or.inr rfl, ⟨Or.inr rfl, ⟨Or.inl rfl, ⟨Or.inr rfl, ⟨Or.inr rfl, trivial⟩⟩⟩⟩⟩⟩⟩⟩⟩⟩ H
      · have H := H.2 h6
        refine kw_iload_n dX0_partOf_40 rfl ?_
        refine kw_iload dX0_partOf_41 rfl ?_
        refine kw_iload dX0_partOf_43 rfl ?_
        have o7 := H.1
        have H := H.2
        refine k2_callS3I m_X0_counts dX0_partOf_45 wl_X0_11 (Nat.le_of_ble_eq_true rfl) (s_X0_counts hL o7 (k32i (by omega)) (k32_kand _ _) (fun h8 => ⟨_, rfl, ?_⟩) (fun h8 => ⟨_, rfl, ?_⟩))
        · have H := H.1 h8
          refine kw_if_eq 89 dX0_partOf_48 (by decide) (k32i (by omega)) (fun h9 => absurd h9 (by decide)) (fun _ => ?_)
          refine kw_aload_n dX0_partOf_51 rfl ?_
          refine kw_iload dX0_partOf_52 rfl ?_
          refine k2_lald dX0_partOf_54 hx1 (by omega) (by omega) ?_
          refine kw_aload_n dX0_partOf_55 rfl ?_
          refine kw_iload dX0_partOf_56 rfl ?_
          refine k2_lald dX0_partOf_58 hx2 (by omega) o4 ?_
          refine kw_lmul dX0_partOf_59 ?_
          refine kw_lstore dX0_partOf_60 (Nat.le_of_ble_eq_true rfl) ?_
          refine kw_lload dX0_partOf_62 rfl ?_
          refine kw_getstatic dX0_partOf_64 wf_X0_15 ?_
          refine kw_iload dX0_partOf_67 rfl ?_
          refine kw_sgn dX0_partOf_69 (by omega) ?_
          refine kw_iload dX0_partOf_70 rfl ?_
          refine kw_ishr dX0_partOf_72 ?_
          refine kw_iconst dX0_partOf_73 ?_
          refine kw_iand dX0_partOf_74 ?_
          refine kw_if_eq 84 dX0_partOf_75 (by decide) (k32_kand _ _) (fun h10 => ?_) (fun h10 => ?_)
          · have H := H.1 h10
            refine kw_lload dX0_partOf_84 rfl ?_
            refine kw_ladd dX0_partOf_86 ?_
            refine kw_lstore dX0_partOf_87 (Nat.le_of_ble_eq_true rfl) ?_
            exact kw_forget (ls' := [some (kI x0), some (kA x1), some (kA x2), some (kI x3), some (kL (x4 + ((c x1 x6) * (c x2 (kand (kxor x6 x3) 15))))), none, some (kI x6), none, none, none]) ⟨Or.inr rfl, ⟨Or.inr rfl, ⟨Or.inr rfl, ⟨Or.inr rfl, ⟨Or.inr rfl, ⟨Or.inr rfl, ⟨Or.inr rfl, ⟨Or.inl rfl, ⟨Or.inl rfl, ⟨Or.inr rfl, trivial⟩⟩⟩⟩⟩⟩⟩⟩⟩⟩ H
          · have H := H.2 h10
            refine kw_lload dX0_partOf_78 rfl ?_
            refine kw_lneg dX0_partOf_80 ?_
            refine kw_goto 86 dX0_partOf_81 (by decide) ?_
            refine kw_ladd dX0_partOf_86 ?_
            refine kw_lstore dX0_partOf_87 (Nat.le_of_ble_eq_true rfl) ?_
            exact kw_forget (ls' := [some (kI x0), some (kA x1), some (kA x2), some (kI x3), some (kL (x4 + (-((c x1 x6) * (c x2 (kand (kxor x6 x3) 15)))))), none, some (kI x6), none, none, none]) ⟨Or.inr rfl, ⟨Or.inr rfl, ⟨Or.inr rfl, ⟨Or.inr rfl, ⟨Or.inr rfl, ⟨Or.inr rfl, ⟨Or.inr rfl, ⟨Or.inl rfl, ⟨Or.inl rfl, ⟨Or.inr rfl, trivial⟩⟩⟩⟩⟩⟩⟩⟩⟩⟩ H
        · have H := H.2 h8
          refine kw_if_eq 89 dX0_partOf_48 (by decide) (k32i (by omega)) (fun _ => ?_) (fun h11 => absurd h11 (by decide))
          exact kw_forget (ls' := [some (kI x0), some (kA x1), some (kA x2), some (kI x3), some (kL x4), none, some (kI x6), none, none, none]) ⟨Or.inr rfl, ⟨Or.inr rfl, ⟨Or.inr rfl, ⟨Or.inr rfl, ⟨Or.inr rfl, ⟨Or.inr rfl, ⟨Or.inr rfl, ⟨Or.inl rfl, ⟨Or.inr rfl, ⟨Or.inr rfl, trivial⟩⟩⟩⟩⟩⟩⟩⟩⟩⟩ H
set_option maxRecDepth 4000 in
theorem v_X0_partOf_89 {G : KG} {S0 : KSh} (hL : kLay S0) {d : Nat} {P : Option AV → KMem → Prop} {c : KMem} {x0 x1 x2 x3 x4 x6 : Int} (r0 : -2147483648 ≤ x0 ∧ x0 < 2147483648) (hx1 : S0.2.1 x1 = (2, 16)) (hx2 : S0.2.1 x2 = (2, 16)) (r3 : -2147483648 ≤ x3 ∧ x3 < 2147483648) (r6 : 0 ≤ x6 ∧ x6 < 2147483648) (H : kW2 G S0 kM_X0_partOf (d + 1) 6 [some (kI x0), some (kA x1), some (kA x2), some (kI x3), some (kL x4), none, some (kI (x6 + 1)), none, none, none] [] c P) : kW2 G S0 kM_X0_partOf (d + 1) 89 [some (kI x0), some (kA x1), some (kA x2), some (kI x3), some (kL x4), none, some (kI x6), none, none, none] [] c P := by
  refine kw_iinc dX0_partOf_89 rfl ?_
  refine kw_goto 6 dX0_partOf_92 (by decide) ?_
  exact kw_forget (ls' := [some (kI x0), some (kA x1), some (kA x2), some (kI x3), some (kL x4), none, some (kI (x6 + 1)), none, none, none]) ⟨Or.inr rfl, ⟨Or.inr rfl, ⟨Or.inr rfl, ⟨Or.inr rfl, ⟨Or.inr rfl, ⟨Or.inr rfl, ⟨Or.inr rfl, ⟨Or.inr rfl, ⟨Or.inr rfl, ⟨Or.inr rfl, trivial⟩⟩⟩⟩⟩⟩⟩⟩⟩⟩ H
set_option maxRecDepth 4000 in
theorem v_X0_multiply {G : KG} {S0 : KSh} (hL : kLay S0) {d : Nat} {P : Option AV → KMem → Prop} {c : KMem} {x0 x1 x2 x3 : Int} (r0 : -2147483648 ≤ x0 ∧ x0 < 2147483648) (hx1 : S0.2.1 x1 = (2, 16)) (hx2 : S0.2.1 x2 = (2, 16)) (hx3 : S0.2.1 x3 = (2, 16)) (H : kW2 G S0 kM_X0_multiply (d + 1) 3 [some (kI x0), some (kA x1), some (kA x2), some (kA x3), some (kI 0), none, none, none] [] c P) : kC2 G S0 kM_X0_multiply (d + 1) [kI x0, kA x1, kA x2, kA x3] c P := by
  refine k2_met (by decide) rfl (Nat.le_of_ble_eq_true rfl) (l0 := [some (kI x0), some (kA x1), some (kA x2), some (kA x3), none, none, none, none]) rfl ?_
  refine kw_iconst dX0_multiply_0 ?_
  refine kw_istore dX0_multiply_1 (Nat.le_of_ble_eq_true rfl) ?_
  exact kw_forget (ls' := [some (kI x0), some (kA x1), some (kA x2), some (kA x3), some (kI 0), none, none, none]) ⟨Or.inr rfl, ⟨Or.inr rfl, ⟨Or.inr rfl, ⟨Or.inr rfl, ⟨Or.inr rfl, ⟨Or.inr rfl, ⟨Or.inr rfl, ⟨Or.inr rfl, trivial⟩⟩⟩⟩⟩⟩⟩⟩ H
set_option maxRecDepth 4000 in
theorem v_X0_multiply_3 {G : KG} {S0 : KSh} (hL : kLay S0) {d : Nat} {P : Option AV → KMem → Prop} {c : KMem} {x0 x1 x2 x3 x4 : Int} (r0 : -2147483648 ≤ x0 ∧ x0 < 2147483648) (hx1 : S0.2.1 x1 = (2, 16)) (hx2 : S0.2.1 x2 = (2, 16)) (hx3 : S0.2.1 x3 = (2, 16)) (r4 : 0 ≤ x4 ∧ x4 < 2147483648) (H : (16 ≤ x4 → (kW2 G S0 kM_X0_multiply (d + 1) 24 [some (kI x0), some (kA x1), some (kA x2), some (kA x3), some (kI 0), none, none, none] [] c P)) ∧ (x4 < 16 → (kW2 G S0 kM_X0_multiply (d + 1) 3 [some (kI x0), some (kA x1), some (kA x2), some (kA x3), some (kI (x4 + 1)), none, none, none] [] (kup c x3 x4 0) P))) : kW2 G S0 kM_X0_multiply (d + 1) 3 [some (kI x0), some (kA x1), some (kA x2), some (kA x3), some (kI x4), none, none, none] [] c P := by
  refine kw_iload dX0_multiply_3 rfl ?_
  refine kw_bipush dX0_multiply_5 (by decide) ?_
  refine kw_icmp_ge 21 dX0_multiply_7 (by decide) (k32i (by omega)) (k32i (by omega)) (fun h1 => ?_) (fun h1 => ?_)
  · have H := H.1 h1
    refine kw_iconst dX0_multiply_21 ?_
    refine kw_istore dX0_multiply_22 (Nat.le_of_ble_eq_true rfl) ?_
    exact kw_forget (ls' := [some (kI x0), some (kA x1), some (kA x2), some (kA x3), some (kI 0), none, none, none]) ⟨Or.inr rfl, ⟨Or.inr rfl, ⟨Or.inr rfl, ⟨Or.inr rfl, ⟨Or.inr rfl, ⟨Or.inr rfl, ⟨Or.inr rfl, ⟨Or.inr rfl, trivial⟩⟩⟩⟩⟩⟩⟩⟩ H
  · have H := H.2 h1
    refine kw_aload_n dX0_multiply_10 rfl ?_
    refine kw_iload dX0_multiply_11 rfl ?_
    refine kw_lconst0 dX0_multiply_13 ?_
    refine k2_last dX0_multiply_14 hx3 (by omega) (by omega) ?_
    refine kw_iinc dX0_multiply_15 rfl ?_
    refine kw_goto 3 dX0_multiply_18 (by decide) ?_
    exact kw_forget (ls' := [some (kI x0), some (kA x1), some (kA x2), some (kA x3), some (kI (x4 + 1)), none, none, none]) ⟨Or.inr rfl, ⟨Or.inr rfl, ⟨Or.inr rfl, ⟨Or.inr rfl, ⟨Or.inr rfl, ⟨Or.inr rfl, ⟨Or.inr rfl, ⟨Or.inr rfl, trivial⟩⟩⟩⟩⟩⟩⟩⟩ H
set_option maxRecDepth 4000 in
theorem v_X0_multiply_24 {G : KG} {S0 : KSh} (hL : kLay S0) {d : Nat} {P : Option AV → KMem → Prop} {c : KMem} {x0 x1 x2 x3 x4 : Int} (r0 : -2147483648 ≤ x0 ∧ x0 < 2147483648) (hx1 : S0.2.1 x1 = (2, 16)) (hx2 : S0.2.1 x2 = (2, 16)) (hx3 : S0.2.1 x3 = (2, 16)) (r4 : 0 ≤ x4 ∧ x4 < 2147483648) (H : (16 ≤ x4 → (P none c)) ∧ (x4 < 16 → (kW2 G S0 kM_X0_multiply (d + 1) 34 [some (kI x0), some (kA x1), some (kA x2), some (kA x3), some (kI x4), some (kI 0), none, none] [] c P))) : kW2 G S0 kM_X0_multiply (d + 1) 24 [some (kI x0), some (kA x1), some (kA x2), some (kA x3), some (kI x4), none, none, none] [] c P := by
  refine kw_iload dX0_multiply_24 rfl ?_
  refine kw_bipush dX0_multiply_26 (by decide) ?_
  refine kw_icmp_ge 125 dX0_multiply_28 (by decide) (k32i (by omega)) (k32i (by omega)) (fun h2 => ?_) (fun h2 => ?_)
  · have H := H.1 h2
    refine k2_ret dX0_multiply_125 rfl H
  · have H := H.2 h2
    refine kw_iconst dX0_multiply_31 ?_
    refine kw_istore dX0_multiply_32 (Nat.le_of_ble_eq_true rfl) ?_
    exact kw_forget (ls' := [some (kI x0), some (kA x1), some (kA x2), some (kA x3), some (kI x4), some (kI 0), none, none]) ⟨Or.inr rfl, ⟨Or.inr rfl, ⟨Or.inr rfl, ⟨Or.inr rfl, ⟨Or.inr rfl, ⟨Or.inr rfl, ⟨Or.inr rfl, ⟨Or.inr rfl, trivial⟩⟩⟩⟩⟩⟩⟩⟩ H
set_option maxRecDepth 4000 in
theorem v_X0_multiply_34 {G : KG} {S0 : KSh} (hL : kLay S0) {d : Nat} {P : Option AV → KMem → Prop} {c : KMem} {x0 x1 x2 x3 x4 x5 : Int} (r0 : -2147483648 ≤ x0 ∧ x0 < 2147483648) (hx1 : S0.2.1 x1 = (2, 16)) (hx2 : S0.2.1 x2 = (2, 16)) (hx3 : S0.2.1 x3 = (2, 16)) (r4 : 0 ≤ x4 ∧ x4 < 2147483648) (r5 : 0 ≤ x5 ∧ x5 < 2147483648) (hp : 0 ≤ x4 ∧ x4 < 16) (H : (16 ≤ x5 → (kW2 G S0 kM_X0_multiply (d + 1) 24 [some (kI x0), some (kA x1), some (kA x2), some (kA x3), some (kI (x4 + 1)), none, none, none] [] c P)) ∧ (x5 < 16 → ((k64 (c x1 x4)) ∧ (((c x1 x4) = 0 → (kW2 G S0 kM_X0_multiply (d + 1) 24 [some (kI x0), some (kA x1), some (kA x2), some (kA x3), some (kI (x4 + 1)), none, none, none] [] c P)) ∧ ((c x1 x4) ≠ 0 → ((k64 (c x2 x5)) ∧ (((c x2 x5) = 0 → (kW2 G S0 kM_X0_multiply (d + 1) 113 [some (kI x0), some (kA x1), some (kA x2), some (kA x3), some (kI x4), some (kI x5), none, none] [] c P)) ∧ ((c x2 x5) ≠ 0 → ((x0 = 0 ∨ x0 = 1 ∨ x0 = 2) ∧ (((kcb x0 x4 x5 = true) → ((0 ≤ (kxor x4 x5) ∧ (kxor x4 x5) < 16) ∧ (((kand (kshr ((kSigns.getD (Int.toNat x4) 0).toInt) x5) 1) = 0 → (kW2 G S0 kM_X0_multiply (d + 1) 113 [some (kI x0), some (kA x1), some (kA x2), some (kA x3), some (kI x4), some (kI x5), none, none] [] (kup c x3 (kxor x4 x5) ((c x3 (kxor x4 x5)) + ((c x1 x4) * (c x2 x5)))) P)) ∧ ((kand (kshr ((kSigns.getD (Int.toNat x4) 0).toInt) x5) 1) ≠ 0 → (kW2 G S0 kM_X0_multiply (d + 1) 113 [some (kI x0), some (kA x1), some (kA x2), some (kA x3), some (kI x4), some (kI x5), none, none] [] (kup c x3 (kxor x4 x5) ((c x3 (kxor x4 x5)) + (-((c x1 x4) * (c x2 x5))))) P))))) ∧ (¬ (kcb x0 x4 x5 = true) → (kW2 G S0 kM_X0_multiply (d + 1) 113 [some (kI x0), some (kA x1), some (kA x2), some (kA x3), some (kI x4), some (kI x5), none, none] [] c P)))))))))))) : kW2 G S0 kM_X0_multiply (d + 1) 34 [some (kI x0), some (kA x1), some (kA x2), some (kA x3), some (kI x4), some (kI x5), none, none] [] c P := by
  refine kw_iload dX0_multiply_34 rfl ?_
  refine kw_bipush dX0_multiply_36 (by decide) ?_
  refine kw_icmp_ge 119 dX0_multiply_38 (by decide) (k32i (by omega)) (k32i (by omega)) (fun h3 => ?_) (fun h3 => ?_)
  · have H := H.1 h3
    refine kw_iinc dX0_multiply_119 rfl ?_
    refine kw_goto 24 dX0_multiply_122 (by decide) ?_
    exact kw_forget (ls' := [some (kI x0), some (kA x1), some (kA x2), some (kA x3), some (kI (x4 + 1)), none, none, none]) ⟨Or.inr rfl, ⟨Or.inr rfl, ⟨Or.inr rfl, ⟨Or.inr rfl, ⟨Or.inr rfl, ⟨Or.inl rfl, ⟨Or.inr rfl, ⟨Or.inr rfl, trivial⟩⟩⟩⟩⟩⟩⟩⟩ H
  · have H := H.2 h3
    refine kw_aload_n dX0_multiply_41 rfl ?_
    refine kw_iload dX0_multiply_42 rfl ?_
    refine k2_lald dX0_multiply_44 hx1 (by omega) (by omega) ?_
    refine kw_lconst0 dX0_multiply_45 ?_
    have o4 := H.1
    have H := H.2
    refine kw_lcmp_eq 119 dX0_multiply_46 dX0_multiply_47 (by decide) o4 (k64i (by omega)) (fun h5 => ?_) (fun h5 => ?_)
    · have H := H.1 h5
      refine kw_iinc dX0_multiply_119 rfl ?_
      refine kw_goto 24 dX0_multiply_122 (by decide) ?_
      exact kw_forget (ls' := [some (kI x0), some (kA x1), some (kA x2), some (kA x3), some (kI (x4 + 1)), none, none, none]) ⟨Or.inr rfl, ⟨Or.inr rfl, ⟨Or.inr rfl, ⟨Or.inr rfl, ⟨Or.inr rfl, ⟨Or.inl rfl, ⟨Or.inr rfl, ⟨Or.inr rfl, trivial⟩⟩⟩⟩⟩⟩⟩⟩ H
    · have H := H.2 h5
      refine kw_aload_n dX0_multiply_50 rfl ?_
      refine kw_iload dX0_multiply_51 rfl ?_
      refine k2_lald dX0_multiply_53 hx2 (by omega) (by omega) ?_
      refine kw_lconst0 dX0_multiply_54 ?_
      have o6 := H.1
      have H := H.2
      refine kw_lcmp_eq 113 dX0_multiply_55 dX0_multiply_56 (by decide) o6 (k64i (by omega)) (fun h7 => ?_) (fun h7 => ?_)
      · have H := H.1 h7
        exact kw_forget (ls' := [some (kI x0), some (kA x1), some (kA x2), some (kA x3), some (kI x4), some (kI x5), none, none]) ⟨Or.inr rfl, ⟨Or.inr rfl, ⟨Or.inr rfl, ⟨Or.inr rfl, ⟨Or.inr rfl, ⟨Or.inr rfl, ⟨Or.inr rfl, ⟨Or.inr rfl, trivial⟩⟩⟩⟩⟩⟩⟩⟩ H
      · have H := H.2 h7
        refine kw_iload_n dX0_multiply_59 rfl ?_
        refine kw_iload dX0_multiply_60 rfl ?_
        refine kw_iload dX0_multiply_62 rfl ?_
        have o8 := H.1
        have H := H.2
        refine k2_callS3I m_X0_counts dX0_multiply_64 wl_X0_11 (Nat.le_of_ble_eq_true rfl) (s_X0_counts hL o8 (k32i (by omega)) (k32i (by omega)) (fun h9 => ⟨_, rfl, ?_⟩) (fun h9 => ⟨_, rfl, ?_⟩))
        · have H := H.1 h9
          refine kw_if_eq 113 dX0_multiply_67 (by decide) (k32i (by omega)) (fun h10 => absurd h10 (by decide)) (fun _ => ?_)
          refine kw_aload_n dX0_multiply_70 rfl ?_
          refine kw_iload dX0_multiply_71 rfl ?_
          refine k2_lald dX0_multiply_73 hx1 (by omega) (by omega) ?_
          refine kw_aload_n dX0_multiply_74 rfl ?_
          refine kw_iload dX0_multiply_75 rfl ?_
          refine k2_lald dX0_multiply_77 hx2 (by omega) (by omega) ?_
          refine kw_lmul dX0_multiply_78 ?_
          refine kw_lstore dX0_multiply_79 (Nat.le_of_ble_eq_true rfl) ?_
          refine kw_aload_n dX0_multiply_81 rfl ?_
          refine kw_iload dX0_multiply_82 rfl ?_
          refine kw_iload dX0_multiply_84 rfl ?_
          refine kw_ixor dX0_multiply_86 ?_
          refine kw_dup2 dX0_multiply_87 rfl rfl ?_
          have o11 := H.1
          have H := H.2
          refine k2_lald dX0_multiply_88 hx3 (by omega) o11 ?_
          refine kw_getstatic dX0_multiply_89 wf_X0_15 ?_
          refine kw_iload dX0_multiply_92 rfl ?_
          refine kw_sgn dX0_multiply_94 (by omega) ?_
          refine kw_iload dX0_multiply_95 rfl ?_
          refine kw_ishr dX0_multiply_97 ?_
          refine kw_iconst dX0_multiply_98 ?_
          refine kw_iand dX0_multiply_99 ?_
          refine kw_if_eq 109 dX0_multiply_100 (by decide) (k32_kand _ _) (fun h12 => ?_) (fun h12 => ?_)
          · have H := H.1 h12
            refine kw_lload dX0_multiply_109 rfl ?_
            refine kw_ladd dX0_multiply_111 ?_
            refine k2_last dX0_multiply_112 hx3 (by omega) o11 ?_
            exact kw_forget (ls' := [some (kI x0), some (kA x1), some (kA x2), some (kA x3), some (kI x4), some (kI x5), none, none]) ⟨Or.inr rfl, ⟨Or.inr rfl, ⟨Or.inr rfl, ⟨Or.inr rfl, ⟨Or.inr rfl, ⟨Or.inr rfl, ⟨Or.inl rfl, ⟨Or.inr rfl, trivial⟩⟩⟩⟩⟩⟩⟩⟩ H
          · have H := H.2 h12
            refine kw_lload dX0_multiply_103 rfl ?_
            refine kw_lneg dX0_multiply_105 ?_
            refine kw_goto 111 dX0_multiply_106 (by decide) ?_
            refine kw_ladd dX0_multiply_111 ?_
            refine k2_last dX0_multiply_112 hx3 (by omega) o11 ?_
            exact kw_forget (ls' := [some (kI x0), some (kA x1), some (kA x2), some (kA x3), some (kI x4), some (kI x5), none, none]) ⟨Or.inr rfl, ⟨Or.inr rfl, ⟨Or.inr rfl, ⟨Or.inr rfl, ⟨Or.inr rfl, ⟨Or.inr rfl, ⟨Or.inl rfl, ⟨Or.inr rfl, trivial⟩⟩⟩⟩⟩⟩⟩⟩ H
        · have H := H.2 h9
          refine kw_if_eq 113 dX0_multiply_67 (by decide) (k32i (by omega)) (fun _ => ?_) (fun h13 => absurd h13 (by decide))
          exact kw_forget (ls' := [some (kI x0), some (kA x1), some (kA x2), some (kA x3), some (kI x4), some (kI x5), none, none]) ⟨Or.inr rfl, ⟨Or.inr rfl, ⟨Or.inr rfl, ⟨Or.inr rfl, ⟨Or.inr rfl, ⟨Or.inr rfl, ⟨Or.inr rfl, ⟨Or.inr rfl, trivial⟩⟩⟩⟩⟩⟩⟩⟩ H
set_option maxRecDepth 4000 in
theorem v_X0_multiply_113 {G : KG} {S0 : KSh} (hL : kLay S0) {d : Nat} {P : Option AV → KMem → Prop} {c : KMem} {x0 x1 x2 x3 x4 x5 : Int} (r0 : -2147483648 ≤ x0 ∧ x0 < 2147483648) (hx1 : S0.2.1 x1 = (2, 16)) (hx2 : S0.2.1 x2 = (2, 16)) (hx3 : S0.2.1 x3 = (2, 16)) (r4 : 0 ≤ x4 ∧ x4 < 2147483648) (r5 : 0 ≤ x5 ∧ x5 < 2147483648) (H : kW2 G S0 kM_X0_multiply (d + 1) 34 [some (kI x0), some (kA x1), some (kA x2), some (kA x3), some (kI x4), some (kI (x5 + 1)), none, none] [] c P) : kW2 G S0 kM_X0_multiply (d + 1) 113 [some (kI x0), some (kA x1), some (kA x2), some (kA x3), some (kI x4), some (kI x5), none, none] [] c P := by
  refine kw_iinc dX0_multiply_113 rfl ?_
  refine kw_goto 34 dX0_multiply_116 (by decide) ?_
  exact kw_forget (ls' := [some (kI x0), some (kA x1), some (kA x2), some (kA x3), some (kI x4), some (kI (x5 + 1)), none, none]) ⟨Or.inr rfl, ⟨Or.inr rfl, ⟨Or.inr rfl, ⟨Or.inr rfl, ⟨Or.inr rfl, ⟨Or.inr rfl, ⟨Or.inr rfl, ⟨Or.inr rfl, trivial⟩⟩⟩⟩⟩⟩⟩⟩ H
set_option maxRecDepth 4000 in
theorem v_X0_square {G : KG} {S0 : KSh} (hL : kLay S0) {d : Nat} {P : Option AV → KMem → Prop} {c : KMem} {x0 : Int} (hx0 : S0.2.1 x0 = (2, 16)) (H : kC2 G S0 kM_X0_partOf (d + 1) [kI 0, kA x0, kA x0, kI 0] c (kRL (fun z1 c2 => P (some (kL z1)) c2))) : kC2 G S0 kM_X0_square (d + 2) [kA x0] c P := by
  refine k2_met (by decide) rfl (Nat.le_of_ble_eq_true rfl) (l0 := [some (kA x0)]) rfl ?_
  refine kw_iconst dX0_square_0 ?_
  refine kw_aload_n dX0_square_1 rfl ?_
  refine kw_aload_n dX0_square_2 rfl ?_
  refine kw_iconst dX0_square_3 ?_
  refine k2_callS4L m_X0_partOf dX0_square_4 wl_X0_19 (Nat.le_of_ble_eq_true rfl) (kC2_mono H (fun r c2 H => ?_))
  obtain ⟨z1, rfl, H⟩ := H
  refine ⟨z1, rfl, ?_⟩
  refine k2_lret dX0_square_7 rfl H
set_option maxRecDepth 4000 in
theorem v_X0_isOuterZero {G : KG} {S0 : KSh} (hL : kLay S0) {d : Nat} {P : Option AV → KMem → Prop} {c : KMem} {x0 x1 : Int} (hx0 : S0.2.1 x0 = (2, 16)) (hx1 : S0.2.1 x1 = (2, 16)) (H : kW2 G S0 kM_X0_isOuterZero (d + 2) 2 [some (kA x0), some (kA x1), some (kI 0)] [] c P) : kC2 G S0 kM_X0_isOuterZero (d + 2) [kA x0, kA x1] c P := by
  refine k2_met (by decide) rfl (Nat.le_of_ble_eq_true rfl) (l0 := [some (kA x0), some (kA x1), none]) rfl ?_
  refine kw_iconst dX0_isOuterZero_0 ?_
  refine kw_istore_n dX0_isOuterZero_1 (Nat.le_of_ble_eq_true rfl) ?_
  exact kw_forget (ls' := [some (kA x0), some (kA x1), some (kI 0)]) ⟨Or.inr rfl, ⟨Or.inr rfl, ⟨Or.inr rfl, trivial⟩⟩⟩ H
set_option maxRecDepth 4000 in
theorem v_X0_isOuterZero_2 {G : KG} {S0 : KSh} (hL : kLay S0) {d : Nat} {P : Option AV → KMem → Prop} {c : KMem} {x0 x1 x2 : Int} (hx0 : S0.2.1 x0 = (2, 16)) (hx1 : S0.2.1 x1 = (2, 16)) (r2 : 0 ≤ x2 ∧ x2 < 2147483648) (H : (16 ≤ x2 → (P (some (kI 1)) c)) ∧ (x2 < 16 → (kC2 G S0 kM_X0_partOf (d + 1) [kI 1, kA x0, kA x1, kI x2] c (kRL (fun z2 c3 => (k64 z2) ∧ ((z2 = 0 → (kW2 G S0 kM_X0_isOuterZero (d + 2) 2 [some (kA x0), some (kA x1), some (kI (x2 + 1))] [] c3 P)) ∧ (z2 ≠ 0 → (P (some (kI 0)) c3)))))))) : kW2 G S0 kM_X0_isOuterZero (d + 2) 2 [some (kA x0), some (kA x1), some (kI x2)] [] c P := by
  refine kw_iload_n dX0_isOuterZero_2 rfl ?_
  refine kw_bipush dX0_isOuterZero_3 (by decide) ?_
  refine kw_icmp_ge 28 dX0_isOuterZero_5 (by decide) (k32i (by omega)) (k32i (by omega)) (fun h1 => ?_) (fun h1 => ?_)
  · have H := H.1 h1
    refine kw_iconst dX0_isOuterZero_28 ?_
    refine k2_zret dX0_isOuterZero_29 rfl (Or.inr rfl) H
  · have H := H.2 h1
    refine kw_iconst dX0_isOuterZero_8 ?_
    refine kw_aload_n dX0_isOuterZero_9 rfl ?_
    refine kw_aload_n dX0_isOuterZero_10 rfl ?_
    refine kw_iload_n dX0_isOuterZero_11 rfl ?_
    refine k2_callS4L m_X0_partOf dX0_isOuterZero_12 wl_X0_19 (Nat.le_of_ble_eq_true rfl) (kC2_mono H (fun r c3 H => ?_))
    obtain ⟨z2, rfl, H⟩ := H
    refine ⟨z2, rfl, ?_⟩
    refine kw_lconst0 dX0_isOuterZero_15 ?_
    have o4 := H.1
    have H := H.2
    refine kw_lcmp_eq 22 dX0_isOuterZero_16 dX0_isOuterZero_17 (by decide) o4 (k64i (by omega)) (fun h5 => ?_) (fun h5 => ?_)
    · have H := H.1 h5
      refine kw_iinc dX0_isOuterZero_22 rfl ?_
      refine kw_goto 2 dX0_isOuterZero_25 (by decide) ?_
      exact kw_forget (ls' := [some (kA x0), some (kA x1), some (kI (x2 + 1))]) ⟨Or.inr rfl, ⟨Or.inr rfl, ⟨Or.inr rfl, trivial⟩⟩⟩ H
    · have H := H.2 h5
      refine kw_iconst dX0_isOuterZero_20 ?_
      refine k2_zret dX0_isOuterZero_21 rfl (Or.inl rfl) H
set_option maxRecDepth 4000 in
theorem v_X0_timesWholeUnit {G : KG} {S0 : KSh} (hL : kLay S0) {d : Nat} {P : Option AV → KMem → Prop} {c : KMem} {x0 x1 : Int} (hx0 : S0.2.1 x0 = (2, 16)) (r1 : -2147483648 ≤ x1 ∧ x1 < 2147483648) (H : ((kand (kshr ((kSigns.getD (Int.toNat (kand (kxor x1 15) 15)) 0).toInt) 15) 1) = 0 → ((0 ≤ (kand (kxor x1 15) 15) ∧ (kand (kxor x1 15) 15) < 16) ∧ (P (some (kL (c x0 (kand (kxor x1 15) 15)))) c))) ∧ ((kand (kshr ((kSigns.getD (Int.toNat (kand (kxor x1 15) 15)) 0).toInt) 15) 1) ≠ 0 → ((0 ≤ (kand (kxor x1 15) 15) ∧ (kand (kxor x1 15) 15) < 16) ∧ (P (some (kL (-(c x0 (kand (kxor x1 15) 15))))) c)))) : kC2 G S0 kM_X0_timesWholeUnit d [kA x0, kI x1] c P := by
  refine k2_met (by decide) rfl (Nat.le_of_ble_eq_true rfl) (l0 := [some (kA x0), some (kI x1), none]) rfl ?_
  refine kw_iload_n dX0_timesWholeUnit_0 rfl ?_
  refine kw_bipush dX0_timesWholeUnit_1 (by decide) ?_
  refine kw_ixor dX0_timesWholeUnit_3 ?_
  refine kw_bipush dX0_timesWholeUnit_4 (by decide) ?_
  refine kw_iand dX0_timesWholeUnit_6 ?_
  refine kw_istore_n dX0_timesWholeUnit_7 (Nat.le_of_ble_eq_true rfl) ?_
  refine kw_getstatic dX0_timesWholeUnit_8 wf_X0_15 ?_
  refine kw_iload_n dX0_timesWholeUnit_11 rfl ?_
  refine kw_sgn dX0_timesWholeUnit_12 (by omega) ?_
  refine kw_bipush dX0_timesWholeUnit_13 (by decide) ?_
  refine kw_ishr dX0_timesWholeUnit_15 ?_
  refine kw_iconst dX0_timesWholeUnit_16 ?_
  refine kw_iand dX0_timesWholeUnit_17 ?_
  refine kw_if_eq 28 dX0_timesWholeUnit_18 (by decide) (k32_kand _ _) (fun h1 => ?_) (fun h1 => ?_)
  · have H := H.1 h1
    refine kw_aload_n dX0_timesWholeUnit_28 rfl ?_
    refine kw_iload_n dX0_timesWholeUnit_29 rfl ?_
    have o2 := H.1
    have H := H.2
    refine k2_lald dX0_timesWholeUnit_30 hx0 (by omega) o2 ?_
    refine k2_lret dX0_timesWholeUnit_31 rfl H
  · have H := H.2 h1
    refine kw_aload_n dX0_timesWholeUnit_21 rfl ?_
    refine kw_iload_n dX0_timesWholeUnit_22 rfl ?_
    have o3 := H.1
    have H := H.2
    refine k2_lald dX0_timesWholeUnit_23 hx0 (by omega) o3 ?_
    refine kw_lneg dX0_timesWholeUnit_24 ?_
    refine kw_goto 31 dX0_timesWholeUnit_25 (by decide) ?_
    refine k2_lret dX0_timesWholeUnit_31 rfl H
set_option maxRecDepth 4000 in
theorem v_X0_dual {G : KG} {S0 : KSh} (hL : kLay S0) {d : Nat} {P : Option AV → KMem → Prop} {c : KMem} {x0 x1 : Int} (hx0 : S0.2.1 x0 = (2, 16)) (hx1 : S0.2.1 x1 = (2, 16)) (H : kW2 G S0 kM_X0_dual (d + 1) 2 [some (kA x0), some (kA x1), some (kI 0)] [] c P) : kC2 G S0 kM_X0_dual (d + 1) [kA x0, kA x1] c P := by
  refine k2_met (by decide) rfl (Nat.le_of_ble_eq_true rfl) (l0 := [some (kA x0), some (kA x1), none]) rfl ?_
  refine kw_iconst dX0_dual_0 ?_
  refine kw_istore_n dX0_dual_1 (Nat.le_of_ble_eq_true rfl) ?_
  exact kw_forget (ls' := [some (kA x0), some (kA x1), some (kI 0)]) ⟨Or.inr rfl, ⟨Or.inr rfl, ⟨Or.inr rfl, trivial⟩⟩⟩ H
set_option maxRecDepth 4000 in
theorem v_X0_dual_2 {G : KG} {S0 : KSh} (hL : kLay S0) {d : Nat} {P : Option AV → KMem → Prop} {c : KMem} {x0 x1 x2 : Int} (hx0 : S0.2.1 x0 = (2, 16)) (hx1 : S0.2.1 x1 = (2, 16)) (r2 : 0 ≤ x2 ∧ x2 < 2147483648) (H : (16 ≤ x2 → (P none c)) ∧ (x2 < 16 → (kC2 G S0 kM_X0_timesWholeUnit d [kA x0, kI x2] c (kRL (fun z2 c3 => kW2 G S0 kM_X0_dual (d + 1) 2 [some (kA x0), some (kA x1), some (kI (x2 + 1))] [] (kup c3 x1 x2 (-z2)) P))))) : kW2 G S0 kM_X0_dual (d + 1) 2 [some (kA x0), some (kA x1), some (kI x2)] [] c P := by
  refine kw_iload_n dX0_dual_2 rfl ?_
  refine kw_bipush dX0_dual_3 (by decide) ?_
  refine kw_icmp_ge 23 dX0_dual_5 (by decide) (k32i (by omega)) (k32i (by omega)) (fun h1 => ?_) (fun h1 => ?_)
  · have H := H.1 h1
    refine k2_ret dX0_dual_23 rfl H
  · have H := H.2 h1
    refine kw_aload_n dX0_dual_8 rfl ?_
    refine kw_iload_n dX0_dual_9 rfl ?_
    refine kw_aload_n dX0_dual_10 rfl ?_
    refine kw_iload_n dX0_dual_11 rfl ?_
    refine k2_callS2L m_X0_timesWholeUnit dX0_dual_12 wl_X0_23 (Nat.le_of_ble_eq_true rfl) (kC2_mono H (fun r c3 H => ?_))
    obtain ⟨z2, rfl, H⟩ := H
    refine ⟨z2, rfl, ?_⟩
    refine kw_lneg dX0_dual_15 ?_
    refine k2_last dX0_dual_16 hx1 (by omega) (by omega) ?_
    refine kw_iinc dX0_dual_17 rfl ?_
    refine kw_goto 2 dX0_dual_20 (by decide) ?_
    exact kw_forget (ls' := [some (kA x0), some (kA x1), some (kI (x2 + 1))]) ⟨Or.inr rfl, ⟨Or.inr rfl, ⟨Or.inr rfl, trivial⟩⟩⟩ H
set_option maxRecDepth 4000 in
theorem v_X0_reverse {G : KG} {S0 : KSh} (hL : kLay S0) {d : Nat} {P : Option AV → KMem → Prop} {c : KMem} {x0 : Int} (hx0 : S0.2.1 x0 = (2, 16)) (H : kW2 G S0 kM_X0_reverse (d + 1) 2 [some (kA x0), some (kI 0), none] [] c P) : kC2 G S0 kM_X0_reverse (d + 1) [kA x0] c P := by
  refine k2_met (by decide) rfl (Nat.le_of_ble_eq_true rfl) (l0 := [some (kA x0), none, none]) rfl ?_
  refine kw_iconst dX0_reverse_0 ?_
  refine kw_istore_n dX0_reverse_1 (Nat.le_of_ble_eq_true rfl) ?_
  exact kw_forget (ls' := [some (kA x0), some (kI 0), none]) ⟨Or.inr rfl, ⟨Or.inr rfl, ⟨Or.inr rfl, trivial⟩⟩⟩ H
set_option maxRecDepth 4000 in
theorem v_X0_reverse_2 {G : KG} {S0 : KSh} (hL : kLay S0) {d : Nat} {P : Option AV → KMem → Prop} {c : KMem} {x0 x1 : Int} (hx0 : S0.2.1 x0 = (2, 16)) (r1 : 0 ≤ x1 ∧ x1 < 2147483648) (H : (16 ≤ x1 → (P none c)) ∧ (x1 < 16 → (((kpop (Int.toNat x1) : Int) = 2 → (kW2 G S0 kM_X0_reverse (d + 1) 2 [some (kA x0), some (kI (x1 + 1)), none] [] (kup c x0 x1 (-(c x0 x1))) P)) ∧ ((kpop (Int.toNat x1) : Int) ≠ 2 → (((kpop (Int.toNat x1) : Int) ≠ 3 → (kW2 G S0 kM_X0_reverse (d + 1) 2 [some (kA x0), some (kI (x1 + 1)), none] [] c P)) ∧ ((kpop (Int.toNat x1) : Int) = 3 → (kW2 G S0 kM_X0_reverse (d + 1) 2 [some (kA x0), some (kI (x1 + 1)), none] [] (kup c x0 x1 (-(c x0 x1))) P))))))) : kW2 G S0 kM_X0_reverse (d + 1) 2 [some (kA x0), some (kI x1), none] [] c P := by
  refine kw_iload_n dX0_reverse_2 rfl ?_
  refine kw_bipush dX0_reverse_3 (by decide) ?_
  refine kw_icmp_ge 36 dX0_reverse_5 (by decide) (k32i (by omega)) (k32i (by omega)) (fun h1 => ?_) (fun h1 => ?_)
  · have H := H.1 h1
    refine k2_ret dX0_reverse_36 rfl H
  · have H := H.2 h1
    refine kw_iload_n dX0_reverse_8 rfl ?_
    refine k2_callS1I m_J6_bitCount_0f7a4 dX0_reverse_9 wl_X0_42 (Nat.le_of_ble_eq_true rfl) (s_bitCount hL (by omega) ⟨_, rfl, ?_⟩)
    refine kw_istore_n dX0_reverse_12 (Nat.le_of_ble_eq_true rfl) ?_
    refine kw_iload_n dX0_reverse_13 rfl ?_
    refine kw_iconst dX0_reverse_14 ?_
    refine kw_icmp_eq 23 dX0_reverse_15 (by decide) (k32_pop _) (k32i (by omega)) (fun h2 => ?_) (fun h2 => ?_)
    · have H := H.1 h2
      refine kw_aload_n dX0_reverse_23 rfl ?_
      refine kw_iload_n dX0_reverse_24 rfl ?_
      refine kw_aload_n dX0_reverse_25 rfl ?_
      refine kw_iload_n dX0_reverse_26 rfl ?_
      refine k2_lald dX0_reverse_27 hx0 (by omega) (by omega) ?_
      refine kw_lneg dX0_reverse_28 ?_
      refine k2_last dX0_reverse_29 hx0 (by omega) (by omega) ?_
      refine kw_iinc dX0_reverse_30 rfl ?_
      refine kw_goto 2 dX0_reverse_33 (by decide) ?_
      exact kw_forget (ls' := [some (kA x0), some (kI (x1 + 1)), none]) ⟨Or.inr rfl, ⟨Or.inr rfl, ⟨Or.inl rfl, trivial⟩⟩⟩ H
    · have H := H.2 h2
      refine kw_iload_n dX0_reverse_18 rfl ?_
      refine kw_iconst dX0_reverse_19 ?_
      refine kw_icmp_ne 30 dX0_reverse_20 (by decide) (k32_pop _) (k32i (by omega)) (fun h3 => ?_) (fun h3 => ?_)
      · have H := H.1 h3
        refine kw_iinc dX0_reverse_30 rfl ?_
        refine kw_goto 2 dX0_reverse_33 (by decide) ?_
        exact kw_forget (ls' := [some (kA x0), some (kI (x1 + 1)), none]) ⟨Or.inr rfl, ⟨Or.inr rfl, ⟨Or.inl rfl, trivial⟩⟩⟩ H
      · have H := H.2 h3
        refine kw_aload_n dX0_reverse_23 rfl ?_
        refine kw_iload_n dX0_reverse_24 rfl ?_
        refine kw_aload_n dX0_reverse_25 rfl ?_
        refine kw_iload_n dX0_reverse_26 rfl ?_
        refine k2_lald dX0_reverse_27 hx0 (by omega) (by omega) ?_
        refine kw_lneg dX0_reverse_28 ?_
        refine k2_last dX0_reverse_29 hx0 (by omega) (by omega) ?_
        refine kw_iinc dX0_reverse_30 rfl ?_
        refine kw_goto 2 dX0_reverse_33 (by decide) ?_
        exact kw_forget (ls' := [some (kA x0), some (kI (x1 + 1)), none]) ⟨Or.inr rfl, ⟨Or.inr rfl, ⟨Or.inl rfl, trivial⟩⟩⟩ H
set_option maxRecDepth 4000 in
theorem v_X0_negate {G : KG} {S0 : KSh} (hL : kLay S0) {d : Nat} {P : Option AV → KMem → Prop} {c : KMem} {x0 : Int} (hx0 : S0.2.1 x0 = (2, 16)) (H : kW2 G S0 kM_X0_negate d 2 [some (kA x0), some (kI 0)] [] c P) : kC2 G S0 kM_X0_negate d [kA x0] c P := by
  refine k2_met (by decide) rfl (Nat.le_of_ble_eq_true rfl) (l0 := [some (kA x0), none]) rfl ?_
  refine kw_iconst dX0_negate_0 ?_
  refine kw_istore_n dX0_negate_1 (Nat.le_of_ble_eq_true rfl) ?_
  exact kw_forget (ls' := [some (kA x0), some (kI 0)]) ⟨Or.inr rfl, ⟨Or.inr rfl, trivial⟩⟩ H
set_option maxRecDepth 4000 in
theorem v_X0_negate_2 {G : KG} {S0 : KSh} (hL : kLay S0) {d : Nat} {P : Option AV → KMem → Prop} {c : KMem} {x0 x1 : Int} (hx0 : S0.2.1 x0 = (2, 16)) (r1 : 0 ≤ x1 ∧ x1 < 2147483648) (H : (16 ≤ x1 → (P none c)) ∧ (x1 < 16 → (kW2 G S0 kM_X0_negate d 2 [some (kA x0), some (kI (x1 + 1))] [] (kup c x0 x1 (-(c x0 x1))) P))) : kW2 G S0 kM_X0_negate d 2 [some (kA x0), some (kI x1)] [] c P := by
  refine kw_iload_n dX0_negate_2 rfl ?_
  refine kw_bipush dX0_negate_3 (by decide) ?_
  refine kw_icmp_ge 21 dX0_negate_5 (by decide) (k32i (by omega)) (k32i (by omega)) (fun h1 => ?_) (fun h1 => ?_)
  · have H := H.1 h1
    refine k2_ret dX0_negate_21 rfl H
  · have H := H.2 h1
    refine kw_aload_n dX0_negate_8 rfl ?_
    refine kw_iload_n dX0_negate_9 rfl ?_
    refine kw_aload_n dX0_negate_10 rfl ?_
    refine kw_iload_n dX0_negate_11 rfl ?_
    refine k2_lald dX0_negate_12 hx0 (by omega) (by omega) ?_
    refine kw_lneg dX0_negate_13 ?_
    refine k2_last dX0_negate_14 hx0 (by omega) (by omega) ?_
    refine kw_iinc dX0_negate_15 rfl ?_
    refine kw_goto 2 dX0_negate_18 (by decide) ?_
    exact kw_forget (ls' := [some (kA x0), some (kI (x1 + 1))]) ⟨Or.inr rfl, ⟨Or.inr rfl, trivial⟩⟩ H
set_option maxRecDepth 4000 in
theorem v_X0_keepGrade {G : KG} {S0 : KSh} (hL : kLay S0) {d : Nat} {P : Option AV → KMem → Prop} {c : KMem} {x0 x1 : Int} (hx0 : S0.2.1 x0 = (2, 16)) (r1 : -2147483648 ≤ x1 ∧ x1 < 2147483648) (H : kW2 G S0 kM_X0_keepGrade (d + 1) 2 [some (kA x0), some (kI x1), some (kI 0)] [] c P) : kC2 G S0 kM_X0_keepGrade (d + 1) [kA x0, kI x1] c P := by
  refine k2_met (by decide) rfl (Nat.le_of_ble_eq_true rfl) (l0 := [some (kA x0), some (kI x1), none]) rfl ?_
  refine kw_iconst dX0_keepGrade_0 ?_
  refine kw_istore_n dX0_keepGrade_1 (Nat.le_of_ble_eq_true rfl) ?_
  exact kw_forget (ls' := [some (kA x0), some (kI x1), some (kI 0)]) ⟨Or.inr rfl, ⟨Or.inr rfl, ⟨Or.inr rfl, trivial⟩⟩⟩ H
set_option maxRecDepth 4000 in
theorem v_X0_keepGrade_2 {G : KG} {S0 : KSh} (hL : kLay S0) {d : Nat} {P : Option AV → KMem → Prop} {c : KMem} {x0 x1 x2 : Int} (hx0 : S0.2.1 x0 = (2, 16)) (r1 : -2147483648 ≤ x1 ∧ x1 < 2147483648) (r2 : 0 ≤ x2 ∧ x2 < 2147483648) (H : (16 ≤ x2 → (P none c)) ∧ (x2 < 16 → (((kpop (Int.toNat x2) : Int) = x1 → (kW2 G S0 kM_X0_keepGrade (d + 1) 2 [some (kA x0), some (kI x1), some (kI (x2 + 1))] [] c P)) ∧ ((kpop (Int.toNat x2) : Int) ≠ x1 → (kW2 G S0 kM_X0_keepGrade (d + 1) 2 [some (kA x0), some (kI x1), some (kI (x2 + 1))] [] (kup c x0 x2 0) P))))) : kW2 G S0 kM_X0_keepGrade (d + 1) 2 [some (kA x0), some (kI x1), some (kI x2)] [] c P := by
  refine kw_iload_n dX0_keepGrade_2 rfl ?_
  refine kw_bipush dX0_keepGrade_3 (by decide) ?_
  refine kw_icmp_ge 26 dX0_keepGrade_5 (by decide) (k32i (by omega)) (k32i (by omega)) (fun h1 => ?_) (fun h1 => ?_)
  · have H := H.1 h1
    refine k2_ret dX0_keepGrade_26 rfl H
  · have H := H.2 h1
    refine kw_iload_n dX0_keepGrade_8 rfl ?_
    refine k2_callS1I m_J6_bitCount_0f7a4 dX0_keepGrade_9 wl_X0_42 (Nat.le_of_ble_eq_true rfl) (s_bitCount hL (by omega) ⟨_, rfl, ?_⟩)
    refine kw_iload_n dX0_keepGrade_12 rfl ?_
    refine kw_icmp_eq 20 dX0_keepGrade_13 (by decide) (k32_pop _) (k32i (by omega)) (fun h2 => ?_) (fun h2 => ?_)
    · have H := H.1 h2
      refine kw_iinc dX0_keepGrade_20 rfl ?_
      refine kw_goto 2 dX0_keepGrade_23 (by decide) ?_
      exact kw_forget (ls' := [some (kA x0), some (kI x1), some (kI (x2 + 1))]) ⟨Or.inr rfl, ⟨Or.inr rfl, ⟨Or.inr rfl, trivial⟩⟩⟩ H
    · have H := H.2 h2
      refine kw_aload_n dX0_keepGrade_16 rfl ?_
      refine kw_iload_n dX0_keepGrade_17 rfl ?_
      refine kw_lconst0 dX0_keepGrade_18 ?_
      refine k2_last dX0_keepGrade_19 hx0 (by omega) (by omega) ?_
      refine kw_iinc dX0_keepGrade_20 rfl ?_
      refine kw_goto 2 dX0_keepGrade_23 (by decide) ?_
      exact kw_forget (ls' := [some (kA x0), some (kI x1), some (kI (x2 + 1))]) ⟨Or.inr rfl, ⟨Or.inr rfl, ⟨Or.inr rfl, trivial⟩⟩⟩ H
set_option maxRecDepth 4000 in
theorem v_X0_add {G : KG} {S0 : KSh} (hL : kLay S0) {d : Nat} {P : Option AV → KMem → Prop} {c : KMem} {x0 x1 x2 : Int} (hx0 : S0.2.1 x0 = (2, 16)) (hx1 : S0.2.1 x1 = (2, 16)) (r2 : -2147483648 ≤ x2 ∧ x2 < 2147483648) (H : kW2 G S0 kM_X0_add d 2 [some (kA x0), some (kA x1), some (kI x2), some (kI 0)] [] c P) : kC2 G S0 kM_X0_add d [kA x0, kA x1, kI x2] c P := by
  refine k2_met (by decide) rfl (Nat.le_of_ble_eq_true rfl) (l0 := [some (kA x0), some (kA x1), some (kI x2), none]) rfl ?_
  refine kw_iconst dX0_add_0 ?_
  refine kw_istore_n dX0_add_1 (Nat.le_of_ble_eq_true rfl) ?_
  exact kw_forget (ls' := [some (kA x0), some (kA x1), some (kI x2), some (kI 0)]) ⟨Or.inr rfl, ⟨Or.inr rfl, ⟨Or.inr rfl, ⟨Or.inr rfl, trivial⟩⟩⟩⟩ H
set_option maxRecDepth 4000 in
theorem v_X0_add_2 {G : KG} {S0 : KSh} (hL : kLay S0) {d : Nat} {P : Option AV → KMem → Prop} {c : KMem} {x0 x1 x2 x3 : Int} (hx0 : S0.2.1 x0 = (2, 16)) (hx1 : S0.2.1 x1 = (2, 16)) (r2 : -2147483648 ≤ x2 ∧ x2 < 2147483648) (r3 : 0 ≤ x3 ∧ x3 < 2147483648) (H : (16 ≤ x3 → (P none c)) ∧ (x3 < 16 → ((x2 = 0 → (kW2 G S0 kM_X0_add d 2 [some (kA x0), some (kA x1), some (kI x2), some (kI (x3 + 1))] [] (kup c x1 x3 ((c x1 x3) + (c x0 x3))) P)) ∧ (x2 ≠ 0 → (kW2 G S0 kM_X0_add d 2 [some (kA x0), some (kA x1), some (kI x2), some (kI (x3 + 1))] [] (kup c x1 x3 ((c x1 x3) + (-(c x0 x3)))) P))))) : kW2 G S0 kM_X0_add d 2 [some (kA x0), some (kA x1), some (kI x2), some (kI x3)] [] c P := by
  refine kw_iload_n dX0_add_2 rfl ?_
  refine kw_bipush dX0_add_3 (by decide) ?_
  refine kw_icmp_ge 34 dX0_add_5 (by decide) (k32i (by omega)) (k32i (by omega)) (fun h1 => ?_) (fun h1 => ?_)
  · have H := H.1 h1
    refine k2_ret dX0_add_34 rfl H
  · have H := H.2 h1
    refine kw_aload_n dX0_add_8 rfl ?_
    refine kw_iload_n dX0_add_9 rfl ?_
    refine kw_dup2 dX0_add_10 rfl rfl ?_
    refine k2_lald dX0_add_11 hx1 (by omega) (by omega) ?_
    refine kw_iload_n dX0_add_12 rfl ?_
    refine kw_if_eq 23 dX0_add_13 (by decide) (k32i (by omega)) (fun h2 => ?_) (fun h2 => ?_)
    · have H := H.1 h2
      refine kw_aload_n dX0_add_23 rfl ?_
      refine kw_iload_n dX0_add_24 rfl ?_
      refine k2_lald dX0_add_25 hx0 (by omega) (by omega) ?_
      refine kw_ladd dX0_add_26 ?_
      refine k2_last dX0_add_27 hx1 (by omega) (by omega) ?_
      refine kw_iinc dX0_add_28 rfl ?_
      refine kw_goto 2 dX0_add_31 (by decide) ?_
      exact kw_forget (ls' := [some (kA x0), some (kA x1), some (kI x2), some (kI (x3 + 1))]) ⟨Or.inr rfl, ⟨Or.inr rfl, ⟨Or.inr rfl, ⟨Or.inr rfl, trivial⟩⟩⟩⟩ H
    · have H := H.2 h2
      refine kw_aload_n dX0_add_16 rfl ?_
      refine kw_iload_n dX0_add_17 rfl ?_
      refine k2_lald dX0_add_18 hx0 (by omega) (by omega) ?_
      refine kw_lneg dX0_add_19 ?_
      refine kw_goto 26 dX0_add_20 (by decide) ?_
      refine kw_ladd dX0_add_26 ?_
      refine k2_last dX0_add_27 hx1 (by omega) (by omega) ?_
      refine kw_iinc dX0_add_28 rfl ?_
      refine kw_goto 2 dX0_add_31 (by decide) ?_
      exact kw_forget (ls' := [some (kA x0), some (kA x1), some (kI x2), some (kI (x3 + 1))]) ⟨Or.inr rfl, ⟨Or.inr rfl, ⟨Or.inr rfl, ⟨Or.inr rfl, trivial⟩⟩⟩⟩ H
set_option maxRecDepth 4000 in
theorem v_X0_copy {G : KG} {S0 : KSh} (hL : kLay S0) {d : Nat} {P : Option AV → KMem → Prop} {c : KMem} {x0 x1 : Int} (hx0 : S0.2.1 x0 = (2, 16)) (hx1 : S0.2.1 x1 = (2, 16)) (H : P none (kcpy c x0 x1 0 0 16)) : kC2 G S0 kM_X0_copy (d + 1) [kA x0, kA x1] c P := by
  refine k2_met (by decide) rfl (Nat.le_of_ble_eq_true rfl) (l0 := [some (kA x0), some (kA x1)]) rfl ?_
  refine kw_aload_n dX0_copy_0 rfl ?_
  refine kw_iconst dX0_copy_1 ?_
  refine kw_aload_n dX0_copy_2 rfl ?_
  refine kw_iconst dX0_copy_3 ?_
  refine kw_bipush dX0_copy_4 (by decide) ?_
  refine k2_copyl dX0_copy_6 wl_X0_48 hx0 hx1 (by omega) (by omega) (by omega) (Nat.le_of_ble_eq_true rfl) ?_
  refine k2_ret dX0_copy_9 rfl H
set_option maxRecDepth 4000 in
theorem v_X0_number {G : KG} {S0 : KSh} (hL : kLay S0) {d : Nat} {P : Option AV → KMem → Prop} {c : KMem} {x0 x2 : Int} (hx2 : S0.2.1 x2 = (2, 16)) (H : kW2 G S0 kM_X0_number d 2 [some (kL x0), none, some (kA x2), some (kI 0)] [] c P) : kC2 G S0 kM_X0_number d [kL x0, kA x2] c P := by
  refine k2_met (by decide) rfl (Nat.le_of_ble_eq_true rfl) (l0 := [some (kL x0), none, some (kA x2), none]) rfl ?_
  refine kw_iconst dX0_number_0 ?_
  refine kw_istore_n dX0_number_1 (Nat.le_of_ble_eq_true rfl) ?_
  exact kw_forget (ls' := [some (kL x0), none, some (kA x2), some (kI 0)]) ⟨Or.inr rfl, ⟨Or.inr rfl, ⟨Or.inr rfl, ⟨Or.inr rfl, trivial⟩⟩⟩⟩ H
set_option maxRecDepth 4000 in
theorem v_X0_number_2 {G : KG} {S0 : KSh} (hL : kLay S0) {d : Nat} {P : Option AV → KMem → Prop} {c : KMem} {x0 x2 x3 : Int} (hx2 : S0.2.1 x2 = (2, 16)) (r3 : 0 ≤ x3 ∧ x3 < 2147483648) (H : (16 ≤ x3 → (P none (kup c x2 0 x0))) ∧ (x3 < 16 → (kW2 G S0 kM_X0_number d 2 [some (kL x0), none, some (kA x2), some (kI (x3 + 1))] [] (kup c x2 x3 0) P))) : kW2 G S0 kM_X0_number d 2 [some (kL x0), none, some (kA x2), some (kI x3)] [] c P := by
  refine kw_iload_n dX0_number_2 rfl ?_
  refine kw_bipush dX0_number_3 (by decide) ?_
  refine kw_icmp_ge 18 dX0_number_5 (by decide) (k32i (by omega)) (k32i (by omega)) (fun h1 => ?_) (fun h1 => ?_)
  · have H := H.1 h1
    refine kw_aload_n dX0_number_18 rfl ?_
    refine kw_iconst dX0_number_19 ?_
    refine kw_lload_n dX0_number_20 rfl ?_
    refine k2_last dX0_number_21 hx2 (by omega) (by omega) ?_
    refine k2_ret dX0_number_22 rfl H
  · have H := H.2 h1
    refine kw_aload_n dX0_number_8 rfl ?_
    refine kw_iload_n dX0_number_9 rfl ?_
    refine kw_lconst0 dX0_number_10 ?_
    refine k2_last dX0_number_11 hx2 (by omega) (by omega) ?_
    refine kw_iinc dX0_number_12 rfl ?_
    refine kw_goto 2 dX0_number_15 (by decide) ?_
    exact kw_forget (ls' := [some (kL x0), none, some (kA x2), some (kI (x3 + 1))]) ⟨Or.inr rfl, ⟨Or.inr rfl, ⟨Or.inr rfl, ⟨Or.inr rfl, trivial⟩⟩⟩⟩ H
set_option maxRecDepth 4000 in
theorem v_X0_place {G : KG} {S0 : KSh} (hL : kLay S0) {d : Nat} {P : Option AV → KMem → Prop} {c : KMem} {x0 x1 x2 : Int} (r0 : -2147483648 ≤ x0 ∧ x0 < 2147483648) (r1 : -2147483648 ≤ x1 ∧ x1 < 2147483648) (hx2 : S0.2.1 x2 = (2, 16)) (H : kC2 G S0 kM_X0_number d [kL 0, kA x2] c (kRN (fun c2 => P none (kup (kup (kup (kup c2 x2 1 (2 * x0)) x2 2 (2 * x1)) x2 4 (((x0 * x0) + (x1 * x1)) - 1)) x2 8 (((x0 * x0) + (x1 * x1)) + 1))))) : kC2 G S0 kM_X0_place (d + 1) [kI x0, kI x1, kA x2] c P := by
  refine k2_met (by decide) rfl (Nat.le_of_ble_eq_true rfl) (l0 := [some (kI x0), some (kI x1), some (kA x2), none, none]) rfl ?_
  refine kw_iload_n dX0_place_0 rfl ?_
  refine kw_i2l dX0_place_1 (k32i (by omega)) ?_
  refine kw_iload_n dX0_place_2 rfl ?_
  refine kw_i2l dX0_place_3 (k32i (by omega)) ?_
  refine kw_lmul dX0_place_4 ?_
  refine kw_iload_n dX0_place_5 rfl ?_
  refine kw_i2l dX0_place_6 (k32i (by omega)) ?_
  refine kw_iload_n dX0_place_7 rfl ?_
  refine kw_i2l dX0_place_8 (k32i (by omega)) ?_
  refine kw_lmul dX0_place_9 ?_
  refine kw_ladd dX0_place_10 ?_
  refine kw_lstore_n dX0_place_11 (Nat.le_of_ble_eq_true rfl) ?_
  refine kw_lconst0 dX0_place_12 ?_
  refine kw_aload_n dX0_place_13 rfl ?_
  refine k2_callS2N m_X0_number dX0_place_14 wl_X0_54 (Nat.le_of_ble_eq_true rfl) (kC2_mono H (fun r c2 H => ?_))
  obtain ⟨rfl, H⟩ := H
  refine ⟨rfl, ?_⟩
  refine kw_aload_n dX0_place_17 rfl ?_
  refine kw_iconst dX0_place_18 ?_
  refine kw_ldc2 dX0_place_19 wk_X0_58 ?_
  refine kw_iload_n dX0_place_22 rfl ?_
  refine kw_i2l dX0_place_23 (k32i (by omega)) ?_
  refine kw_lmul dX0_place_24 ?_
  refine k2_last dX0_place_25 hx2 (by omega) (by omega) ?_
  refine kw_aload_n dX0_place_26 rfl ?_
  refine kw_iconst dX0_place_27 ?_
  refine kw_ldc2 dX0_place_28 wk_X0_58 ?_
  refine kw_iload_n dX0_place_31 rfl ?_
  refine kw_i2l dX0_place_32 (k32i (by omega)) ?_
  refine kw_lmul dX0_place_33 ?_
  refine k2_last dX0_place_34 hx2 (by omega) (by omega) ?_
  refine kw_aload_n dX0_place_35 rfl ?_
  refine kw_iconst dX0_place_36 ?_
  refine kw_lload_n dX0_place_37 rfl ?_
  refine kw_lconst1 dX0_place_38 ?_
  refine kw_lsub dX0_place_39 ?_
  refine k2_last dX0_place_40 hx2 (by omega) (by omega) ?_
  refine kw_aload_n dX0_place_41 rfl ?_
  refine kw_bipush dX0_place_42 (by decide) ?_
  refine kw_lload_n dX0_place_44 rfl ?_
  refine kw_lconst1 dX0_place_45 ?_
  refine kw_ladd dX0_place_46 ?_
  refine k2_last dX0_place_47 hx2 (by omega) (by omega) ?_
  refine k2_ret dX0_place_48 rfl H
set_option maxRecDepth 4000 in
theorem v_X0_farOne {G : KG} {S0 : KSh} (hL : kLay S0) {d : Nat} {P : Option AV → KMem → Prop} {c : KMem} {x0 : Int} (hx0 : S0.2.1 x0 = (2, 16)) (H : kC2 G S0 kM_X0_number d [kL 0, kA x0] c (kRN (fun c2 => P none (kup (kup c2 x0 4 1) x0 8 1)))) : kC2 G S0 kM_X0_farOne (d + 1) [kA x0] c P := by
  refine k2_met (by decide) rfl (Nat.le_of_ble_eq_true rfl) (l0 := [some (kA x0)]) rfl ?_
  refine kw_lconst0 dX0_farOne_0 ?_
  refine kw_aload_n dX0_farOne_1 rfl ?_
  refine k2_callS2N m_X0_number dX0_farOne_2 wl_X0_54 (Nat.le_of_ble_eq_true rfl) (kC2_mono H (fun r c2 H => ?_))
  obtain ⟨rfl, H⟩ := H
  refine ⟨rfl, ?_⟩
  refine kw_aload_n dX0_farOne_5 rfl ?_
  refine kw_iconst dX0_farOne_6 ?_
  refine kw_lconst1 dX0_farOne_7 ?_
  refine k2_last dX0_farOne_8 hx0 (by omega) (by omega) ?_
  refine kw_aload_n dX0_farOne_9 rfl ?_
  refine kw_bipush dX0_farOne_10 (by decide) ?_
  refine kw_lconst1 dX0_farOne_12 ?_
  refine k2_last dX0_farOne_13 hx0 (by omega) (by omega) ?_
  refine k2_ret dX0_farOne_14 rfl H
set_option maxRecDepth 4000 in
theorem v_X0_gcd {G : KG} {S0 : KSh} (hL : kLay S0) {d : Nat} {P : Option AV → KMem → Prop} {c : KMem} {x0 x2 : Int}  (H : (k64 x0) ∧ ((0 ≤ x0 → ((k64 x2) ∧ ((0 ≤ x2 → (kW2 G S0 kM_X0_gcd d 31 [none, none, none, none, some (kL x0), none, some (kL x2), none, some (kI 0), none, none] [] c P)) ∧ (x2 < 0 → (kW2 G S0 kM_X0_gcd d 31 [none, none, none, none, some (kL x0), none, some (kL (-x2)), none, some (kI 0), none, none] [] c P))))) ∧ (x0 < 0 → ((k64 x2) ∧ ((0 ≤ x2 → (kW2 G S0 kM_X0_gcd d 31 [none, none, none, none, some (kL (-x0)), none, some (kL x2), none, some (kI 0), none, none] [] c P)) ∧ (x2 < 0 → (kW2 G S0 kM_X0_gcd d 31 [none, none, none, none, some (kL (-x0)), none, some (kL (-x2)), none, some (kI 0), none, none] [] c P))))))) : kC2 G S0 kM_X0_gcd d [kL x0, kL x2] c P := by
  refine k2_met (by decide) rfl (Nat.le_of_ble_eq_true rfl) (l0 := [some (kL x0), none, some (kL x2), none, none, none, none, none, none, none, none]) rfl ?_
  refine kw_lload_n dX0_gcd_0 rfl ?_
  refine kw_lconst0 dX0_gcd_1 ?_
  have o1 := H.1
  have H := H.2
  refine kw_lcmp_ge 11 dX0_gcd_2 dX0_gcd_3 (by decide) o1 (k64i (by omega)) (fun h2 => ?_) (fun h2 => ?_)
  · have H := H.1 h2
    refine kw_lload_n dX0_gcd_11 rfl ?_
    refine kw_lstore dX0_gcd_12 (Nat.le_of_ble_eq_true rfl) ?_
    refine kw_lload_n dX0_gcd_14 rfl ?_
    refine kw_lconst0 dX0_gcd_15 ?_
    have o3 := H.1
    have H := H.2
    refine kw_lcmp_ge 25 dX0_gcd_16 dX0_gcd_17 (by decide) o3 (k64i (by omega)) (fun h4 => ?_) (fun h4 => ?_)
    · have H := H.1 h4
      refine kw_lload_n dX0_gcd_25 rfl ?_
      refine kw_lstore dX0_gcd_26 (Nat.le_of_ble_eq_true rfl) ?_
      refine kw_iconst dX0_gcd_28 ?_
      refine kw_istore dX0_gcd_29 (Nat.le_of_ble_eq_true rfl) ?_
      exact kw_forget (ls' := [none, none, none, none, some (kL x0), none, some (kL x2), none, some (kI 0), none, none]) ⟨Or.inl rfl, ⟨Or.inr rfl, ⟨Or.inl rfl, ⟨Or.inr rfl, ⟨Or.inr rfl, ⟨Or.inr rfl, ⟨Or.inr rfl, ⟨Or.inr rfl, ⟨Or.inr rfl, ⟨Or.inr rfl, ⟨Or.inr rfl, trivial⟩⟩⟩⟩⟩⟩⟩⟩⟩⟩⟩ H
    · have H := H.2 h4
      refine kw_lload_n dX0_gcd_20 rfl ?_
      refine kw_lneg dX0_gcd_21 ?_
      refine kw_goto 26 dX0_gcd_22 (by decide) ?_
      refine kw_lstore dX0_gcd_26 (Nat.le_of_ble_eq_true rfl) ?_
      refine kw_iconst dX0_gcd_28 ?_
      refine kw_istore dX0_gcd_29 (Nat.le_of_ble_eq_true rfl) ?_
      exact kw_forget (ls' := [none, none, none, none, some (kL x0), none, some (kL (-x2)), none, some (kI 0), none, none]) ⟨Or.inl rfl, ⟨Or.inr rfl, ⟨Or.inl rfl, ⟨Or.inr rfl, ⟨Or.inr rfl, ⟨Or.inr rfl, ⟨Or.inr rfl, ⟨Or.inr rfl, ⟨Or.inr rfl, ⟨Or.inr rfl, ⟨Or.inr rfl, trivial⟩⟩⟩⟩⟩⟩⟩⟩⟩⟩⟩ H
  · have H := H.2 h2
    refine kw_lload_n dX0_gcd_6 rfl ?_
    refine kw_lneg dX0_gcd_7 ?_
    refine kw_goto 12 dX0_gcd_8 (by decide) ?_
    refine kw_lstore dX0_gcd_12 (Nat.le_of_ble_eq_true rfl) ?_
    refine kw_lload_n dX0_gcd_14 rfl ?_
    refine kw_lconst0 dX0_gcd_15 ?_
    have o5 := H.1
    have H := H.2
    refine kw_lcmp_ge 25 dX0_gcd_16 dX0_gcd_17 (by decide) o5 (k64i (by omega)) (fun h6 => ?_) (fun h6 => ?_)
    · have H := H.1 h6
      refine kw_lload_n dX0_gcd_25 rfl ?_
      refine kw_lstore dX0_gcd_26 (Nat.le_of_ble_eq_true rfl) ?_
      refine kw_iconst dX0_gcd_28 ?_
      refine kw_istore dX0_gcd_29 (Nat.le_of_ble_eq_true rfl) ?_
      exact kw_forget (ls' := [none, none, none, none, some (kL (-x0)), none, some (kL x2), none, some (kI 0), none, none]) ⟨Or.inl rfl, ⟨Or.inr rfl, ⟨Or.inl rfl, ⟨Or.inr rfl, ⟨Or.inr rfl, ⟨Or.inr rfl, ⟨Or.inr rfl, ⟨Or.inr rfl, ⟨Or.inr rfl, ⟨Or.inr rfl, ⟨Or.inr rfl, trivial⟩⟩⟩⟩⟩⟩⟩⟩⟩⟩⟩ H
    · have H := H.2 h6
      refine kw_lload_n dX0_gcd_20 rfl ?_
      refine kw_lneg dX0_gcd_21 ?_
      refine kw_goto 26 dX0_gcd_22 (by decide) ?_
      refine kw_lstore dX0_gcd_26 (Nat.le_of_ble_eq_true rfl) ?_
      refine kw_iconst dX0_gcd_28 ?_
      refine kw_istore dX0_gcd_29 (Nat.le_of_ble_eq_true rfl) ?_
      exact kw_forget (ls' := [none, none, none, none, some (kL (-x0)), none, some (kL (-x2)), none, some (kI 0), none, none]) ⟨Or.inl rfl, ⟨Or.inr rfl, ⟨Or.inl rfl, ⟨Or.inr rfl, ⟨Or.inr rfl, ⟨Or.inr rfl, ⟨Or.inr rfl, ⟨Or.inr rfl, ⟨Or.inr rfl, ⟨Or.inr rfl, ⟨Or.inr rfl, trivial⟩⟩⟩⟩⟩⟩⟩⟩⟩⟩⟩ H
set_option maxRecDepth 4000 in
theorem v_X0_gcd_31 {G : KG} {S0 : KSh} (hL : kLay S0) {d : Nat} {P : Option AV → KMem → Prop} {c : KMem} {x4 x6 x8 : Int} (r8 : 0 ≤ x8 ∧ x8 < 2147483648) (H : (100 ≤ x8 → (P (some (kL x4)) c)) ∧ (x8 < 100 → ((k64 x6) ∧ ((x6 = 0 → (P (some (kL x4)) c)) ∧ (x6 ≠ 0 → ((k64 x4) ∧ ((x6 ≠ 0) ∧ (kW2 G S0 kM_X0_gcd d 31 [none, none, none, none, some (kL x6), none, some (kL (Int.tmod x4 x6)), none, some (kI (x8 + 1)), none, none] [] c P)))))))) : kW2 G S0 kM_X0_gcd d 31 [none, none, none, none, some (kL x4), none, some (kL x6), none, some (kI x8), none, none] [] c P := by
  refine kw_iload dX0_gcd_31 rfl ?_
  refine kw_bipush dX0_gcd_33 (by decide) ?_
  refine kw_icmp_ge 66 dX0_gcd_35 (by decide) (k32i (by omega)) (k32i (by omega)) (fun h7 => ?_) (fun h7 => ?_)
  · have H := H.1 h7
    refine kw_lload dX0_gcd_66 rfl ?_
    refine k2_lret dX0_gcd_68 rfl H
  · have H := H.2 h7
    refine kw_lload dX0_gcd_38 rfl ?_
    refine kw_lconst0 dX0_gcd_40 ?_
    have o8 := H.1
    have H := H.2
    refine kw_lcmp_eq 66 dX0_gcd_41 dX0_gcd_42 (by decide) o8 (k64i (by omega)) (fun h9 => ?_) (fun h9 => ?_)
    · have H := H.1 h9
      refine kw_lload dX0_gcd_66 rfl ?_
      refine k2_lret dX0_gcd_68 rfl H
    · have H := H.2 h9
      refine kw_lload dX0_gcd_45 rfl ?_
      refine kw_lload dX0_gcd_47 rfl ?_
      have o10 := H.1
      have H := H.2
      have o11 := H.1
      have H := H.2
      refine kw_lrem dX0_gcd_49 o10 o8 o11 ?_
      refine kw_lstore dX0_gcd_50 (Nat.le_of_ble_eq_true rfl) ?_
      refine kw_lload dX0_gcd_52 rfl ?_
      refine kw_lstore dX0_gcd_54 (Nat.le_of_ble_eq_true rfl) ?_
      refine kw_lload dX0_gcd_56 rfl ?_
      refine kw_lstore dX0_gcd_58 (Nat.le_of_ble_eq_true rfl) ?_
      refine kw_iinc dX0_gcd_60 rfl ?_
      refine kw_goto 31 dX0_gcd_63 (by decide) ?_
      exact kw_forget (ls' := [none, none, none, none, some (kL x6), none, some (kL (Int.tmod x4 x6)), none, some (kI (x8 + 1)), none, none]) ⟨Or.inr rfl, ⟨Or.inr rfl, ⟨Or.inr rfl, ⟨Or.inr rfl, ⟨Or.inr rfl, ⟨Or.inr rfl, ⟨Or.inr rfl, ⟨Or.inr rfl, ⟨Or.inr rfl, ⟨Or.inl rfl, ⟨Or.inr rfl, trivial⟩⟩⟩⟩⟩⟩⟩⟩⟩⟩⟩ H
set_option maxRecDepth 4000 in
theorem v_X0_lowest {G : KG} {S0 : KSh} (hL : kLay S0) {d : Nat} {P : Option AV → KMem → Prop} {c : KMem} {x0 x2 x4 : Int} (r4 : -2147483648 ≤ x4 ∧ x4 < 2147483648) (H : kC2 G S0 kM_X0_gcd d [kL x0, kL x2] c (kRL (fun z1 c2 => (k64 z1) ∧ ((z1 ≠ 0 → ((k64 x2) ∧ ((0 ≤ x2 → ((x4 ≠ 0 → ((z1 ≠ 0) ∧ (P (some (kL (Int.tdiv x2 z1))) c2))) ∧ (x4 = 0 → ((k64 x0) ∧ ((z1 ≠ 0) ∧ (P (some (kL (Int.tdiv x0 z1))) c2)))))) ∧ (x2 < 0 → ((x4 ≠ 0 → ((k64 (-z1)) ∧ (((-z1) ≠ 0) ∧ (P (some (kL (Int.tdiv x2 (-z1)))) c2)))) ∧ (x4 = 0 → ((k64 x0) ∧ ((k64 (-z1)) ∧ (((-z1) ≠ 0) ∧ (P (some (kL (Int.tdiv x0 (-z1)))) c2)))))))))) ∧ (z1 = 0 → (P (some (kL 0)) c2)))))) : kC2 G S0 kM_X0_lowest (d + 1) [kL x0, kL x2, kI x4] c P := by
  refine k2_met (by decide) rfl (Nat.le_of_ble_eq_true rfl) (l0 := [some (kL x0), none, some (kL x2), none, some (kI x4), none, none]) rfl ?_
  refine kw_lload_n dX0_lowest_0 rfl ?_
  refine kw_lload_n dX0_lowest_1 rfl ?_
  refine k2_callS2L m_X0_gcd dX0_lowest_2 wl_X0_60 (Nat.le_of_ble_eq_true rfl) (kC2_mono H (fun r c2 H => ?_))
  obtain ⟨z1, rfl, H⟩ := H
  refine ⟨z1, rfl, ?_⟩
  refine kw_lstore dX0_lowest_5 (Nat.le_of_ble_eq_true rfl) ?_
  refine kw_lload dX0_lowest_7 rfl ?_
  refine kw_lconst0 dX0_lowest_9 ?_
  have o3 := H.1
  have H := H.2
  refine kw_lcmp_ne 16 dX0_lowest_10 dX0_lowest_11 (by decide) o3 (k64i (by omega)) (fun h4 => ?_) (fun h4 => ?_)
  · have H := H.1 h4
    refine kw_lload_n dX0_lowest_16 rfl ?_
    refine kw_lconst0 dX0_lowest_17 ?_
    have o5 := H.1
    have H := H.2
    refine kw_lcmp_ge 27 dX0_lowest_18 dX0_lowest_19 (by decide) o5 (k64i (by omega)) (fun h6 => ?_) (fun h6 => ?_)
    · have H := H.1 h6
      refine kw_iload dX0_lowest_27 rfl ?_
      refine kw_if_ne 36 dX0_lowest_29 (by decide) (k32i (by omega)) (fun h7 => ?_) (fun h7 => ?_)
      · have H := H.1 h7
        refine kw_lload_n dX0_lowest_36 rfl ?_
        refine kw_lload dX0_lowest_37 rfl ?_
        have o8 := H.1
        have H := H.2
        refine kw_ldiv dX0_lowest_39 o5 o3 o8 ?_
        refine k2_lret dX0_lowest_40 rfl H
      · have H := H.2 h7
        refine kw_lload_n dX0_lowest_32 rfl ?_
        refine kw_goto 37 dX0_lowest_33 (by decide) ?_
        refine kw_lload dX0_lowest_37 rfl ?_
        have o9 := H.1
        have H := H.2
        have o10 := H.1
        have H := H.2
        refine kw_ldiv dX0_lowest_39 o9 o3 o10 ?_
        refine k2_lret dX0_lowest_40 rfl H
    · have H := H.2 h6
      refine kw_lload dX0_lowest_22 rfl ?_
      refine kw_lneg dX0_lowest_24 ?_
      refine kw_lstore dX0_lowest_25 (Nat.le_of_ble_eq_true rfl) ?_
      refine kw_iload dX0_lowest_27 rfl ?_
      refine kw_if_ne 36 dX0_lowest_29 (by decide) (k32i (by omega)) (fun h11 => ?_) (fun h11 => ?_)
      · have H := H.1 h11
        refine kw_lload_n dX0_lowest_36 rfl ?_
        refine kw_lload dX0_lowest_37 rfl ?_
        have o12 := H.1
        have H := H.2
        have o13 := H.1
        have H := H.2
        refine kw_ldiv dX0_lowest_39 o5 o12 o13 ?_
        refine k2_lret dX0_lowest_40 rfl H
      · have H := H.2 h11
        refine kw_lload_n dX0_lowest_32 rfl ?_
        refine kw_goto 37 dX0_lowest_33 (by decide) ?_
        refine kw_lload dX0_lowest_37 rfl ?_
        have o14 := H.1
        have H := H.2
        have o15 := H.1
        have H := H.2
        have o16 := H.1
        have H := H.2
        refine kw_ldiv dX0_lowest_39 o14 o15 o16 ?_
        refine k2_lret dX0_lowest_40 rfl H
  · have H := H.2 h4
    refine kw_lconst0 dX0_lowest_14 ?_
    refine k2_lret dX0_lowest_15 rfl H
set_option maxRecDepth 4000 in
theorem v_X0_normalise {G : KG} {S0 : KSh} (hL : kLay S0) {d : Nat} {P : Option AV → KMem → Prop} {c : KMem} {x0 : Int} (hx0 : S0.2.1 x0 = (2, 16)) (H : kW2 G S0 kM_X0_normalise (d + 1) 7 [some (kA x0), some (kL 0), none, some (kI 0), some (kI 0)] [] c P) : kC2 G S0 kM_X0_normalise (d + 1) [kA x0] c P := by
  refine k2_met (by decide) rfl (Nat.le_of_ble_eq_true rfl) (l0 := [some (kA x0), none, none, none, none]) rfl ?_
  refine kw_lconst0 dX0_normalise_0 ?_
  refine kw_lstore_n dX0_normalise_1 (Nat.le_of_ble_eq_true rfl) ?_
  refine kw_iconst dX0_normalise_2 ?_
  refine kw_istore_n dX0_normalise_3 (Nat.le_of_ble_eq_true rfl) ?_
  refine kw_iconst dX0_normalise_4 ?_
  refine kw_istore dX0_normalise_5 (Nat.le_of_ble_eq_true rfl) ?_
  exact kw_forget (ls' := [some (kA x0), some (kL 0), none, some (kI 0), some (kI 0)]) ⟨Or.inr rfl, ⟨Or.inr rfl, ⟨Or.inr rfl, ⟨Or.inr rfl, ⟨Or.inr rfl, trivial⟩⟩⟩⟩⟩ H
set_option maxRecDepth 4000 in
theorem v_X0_normalise_7 {G : KG} {S0 : KSh} (hL : kLay S0) {d : Nat} {P : Option AV → KMem → Prop} {c : KMem} {x0 x1 x3 x4 : Int} (hx0 : S0.2.1 x0 = (2, 16)) (r3 : 0 ≤ x3 ∧ x3 < 2147483648) (r4 : 0 ≤ x4 ∧ x4 < 2147483648) (hp : 0 ≤ x4 ∧ x4 ≤ 16) (H : (16 ≤ x4 → ((k64 x1) ∧ ((x1 ≠ 0 → ((x3 = 0 → (kW2 G S0 kM_X0_normalise (d + 1) 67 [some (kA x0), some (kL x1), none, none, some (kI 0)] [] c P)) ∧ (x3 ≠ 0 → (kW2 G S0 kM_X0_normalise (d + 1) 67 [some (kA x0), some (kL (-x1)), none, none, some (kI 0)] [] c P)))) ∧ (x1 = 0 → (P none c))))) ∧ (x4 < 16 → ((k64 x1) ∧ ((x1 ≠ 0 → (kC2 G S0 kM_X0_gcd d [kL x1, kL (c x0 x4)] c (kRL (fun z7 c8 => kW2 G S0 kM_X0_normalise (d + 1) 7 [some (kA x0), some (kL z7), none, some (kI x3), some (kI (x4 + 1))] [] c8 P)))) ∧ (x1 = 0 → ((k64 (c x0 x4)) ∧ ((0 ≤ (c x0 x4) → (kC2 G S0 kM_X0_gcd d [kL x1, kL (c x0 x4)] c (kRL (fun z11 c12 => kW2 G S0 kM_X0_normalise (d + 1) 7 [some (kA x0), some (kL z11), none, some (kI 0), some (kI (x4 + 1))] [] c12 P)))) ∧ ((c x0 x4) < 0 → (kC2 G S0 kM_X0_gcd d [kL x1, kL (c x0 x4)] c (kRL (fun z13 c14 => kW2 G S0 kM_X0_normalise (d + 1) 7 [some (kA x0), some (kL z13), none, some (kI 1), some (kI (x4 + 1))] [] c14 P))))))))))) : kW2 G S0 kM_X0_normalise (d + 1) 7 [some (kA x0), some (kL x1), none, some (kI x3), some (kI x4)] [] c P := by
  refine kw_iload dX0_normalise_7 rfl ?_
  refine kw_bipush dX0_normalise_9 (by decide) ?_
  refine kw_icmp_ge 50 dX0_normalise_11 (by decide) (k32i (by omega)) (k32i (by omega)) (fun h1 => ?_) (fun h1 => ?_)
  · have H := H.1 h1
    refine kw_lload_n dX0_normalise_50 rfl ?_
    refine kw_lconst0 dX0_normalise_51 ?_
    have o2 := H.1
    have H := H.2
    refine kw_lcmp_ne 57 dX0_normalise_52 dX0_normalise_53 (by decide) o2 (k64i (by omega)) (fun h3 => ?_) (fun h3 => ?_)
    · have H := H.1 h3
      refine kw_iload_n dX0_normalise_57 rfl ?_
      refine kw_if_eq 64 dX0_normalise_58 (by decide) (k32i (by omega)) (fun h4 => ?_) (fun h4 => ?_)
      · have H := H.1 h4
        refine kw_iconst dX0_normalise_64 ?_
        refine kw_istore dX0_normalise_65 (Nat.le_of_ble_eq_true rfl) ?_
        exact kw_forget (ls' := [some (kA x0), some (kL x1), none, none, some (kI 0)]) ⟨Or.inr rfl, ⟨Or.inr rfl, ⟨Or.inr rfl, ⟨Or.inl rfl, ⟨Or.inr rfl, trivial⟩⟩⟩⟩⟩ H
      · have H := H.2 h4
        refine kw_lload_n dX0_normalise_61 rfl ?_
        refine kw_lneg dX0_normalise_62 ?_
        refine kw_lstore_n dX0_normalise_63 (Nat.le_of_ble_eq_true rfl) ?_
        refine kw_iconst dX0_normalise_64 ?_
        refine kw_istore dX0_normalise_65 (Nat.le_of_ble_eq_true rfl) ?_
        exact kw_forget (ls' := [some (kA x0), some (kL (-x1)), none, none, some (kI 0)]) ⟨Or.inr rfl, ⟨Or.inr rfl, ⟨Or.inr rfl, ⟨Or.inl rfl, ⟨Or.inr rfl, trivial⟩⟩⟩⟩⟩ H
    · have H := H.2 h3
      refine k2_ret dX0_normalise_56 rfl H
  · have H := H.2 h1
    refine kw_lload_n dX0_normalise_14 rfl ?_
    refine kw_lconst0 dX0_normalise_15 ?_
    have o5 := H.1
    have H := H.2
    refine kw_lcmp_ne 35 dX0_normalise_16 dX0_normalise_17 (by decide) o5 (k64i (by omega)) (fun h6 => ?_) (fun h6 => ?_)
    · have H := H.1 h6
      refine kw_lload_n dX0_normalise_35 rfl ?_
      refine kw_aload_n dX0_normalise_36 rfl ?_
      refine kw_iload dX0_normalise_37 rfl ?_
      refine k2_lald dX0_normalise_39 hx0 (by omega) (by omega) ?_
      refine k2_callS2L m_X0_gcd dX0_normalise_40 wl_X0_60 (Nat.le_of_ble_eq_true rfl) (kC2_mono H (fun r c8 H => ?_))
      obtain ⟨z7, rfl, H⟩ := H
      refine ⟨z7, rfl, ?_⟩
      refine kw_lstore_n dX0_normalise_43 (Nat.le_of_ble_eq_true rfl) ?_
      refine kw_iinc dX0_normalise_44 rfl ?_
      refine kw_goto 7 dX0_normalise_47 (by decide) ?_
      exact kw_forget (ls' := [some (kA x0), some (kL z7), none, some (kI x3), some (kI (x4 + 1))]) ⟨Or.inr rfl, ⟨Or.inr rfl, ⟨Or.inr rfl, ⟨Or.inr rfl, ⟨Or.inr rfl, trivial⟩⟩⟩⟩⟩ H
    · have H := H.2 h6
      refine kw_aload_n dX0_normalise_20 rfl ?_
      refine kw_iload dX0_normalise_21 rfl ?_
      refine k2_lald dX0_normalise_23 hx0 (by omega) (by omega) ?_
      refine kw_lconst0 dX0_normalise_24 ?_
      have o9 := H.1
      have H := H.2
      refine kw_lcmp_ge 33 dX0_normalise_25 dX0_normalise_26 (by decide) o9 (k64i (by omega)) (fun h10 => ?_) (fun h10 => ?_)
      · have H := H.1 h10
        refine kw_iconst dX0_normalise_33 ?_
        refine kw_istore_n dX0_normalise_34 (Nat.le_of_ble_eq_true rfl) ?_
        refine kw_lload_n dX0_normalise_35 rfl ?_
        refine kw_aload_n dX0_normalise_36 rfl ?_
        refine kw_iload dX0_normalise_37 rfl ?_
        refine k2_lald dX0_normalise_39 hx0 (by omega) (by omega) ?_
        refine k2_callS2L m_X0_gcd dX0_normalise_40 wl_X0_60 (Nat.le_of_ble_eq_true rfl) (kC2_mono H (fun r c12 H => ?_))
        obtain ⟨z11, rfl, H⟩ := H
        refine ⟨z11, rfl, ?_⟩
        refine kw_lstore_n dX0_normalise_43 (Nat.le_of_ble_eq_true rfl) ?_
        refine kw_iinc dX0_normalise_44 rfl ?_
        refine kw_goto 7 dX0_normalise_47 (by decide) ?_
        exact kw_forget (ls' := [some (kA x0), some (kL z11), none, some (kI 0), some (kI (x4 + 1))]) ⟨Or.inr rfl, ⟨Or.inr rfl, ⟨Or.inr rfl, ⟨Or.inr rfl, ⟨Or.inr rfl, trivial⟩⟩⟩⟩⟩ H
      · have H := H.2 h10
        refine kw_iconst dX0_normalise_29 ?_
        refine kw_goto 34 dX0_normalise_30 (by decide) ?_
        refine kw_istore_n dX0_normalise_34 (Nat.le_of_ble_eq_true rfl) ?_
        refine kw_lload_n dX0_normalise_35 rfl ?_
        refine kw_aload_n dX0_normalise_36 rfl ?_
        refine kw_iload dX0_normalise_37 rfl ?_
        refine k2_lald dX0_normalise_39 hx0 (by omega) (by omega) ?_
        refine k2_callS2L m_X0_gcd dX0_normalise_40 wl_X0_60 (Nat.le_of_ble_eq_true rfl) (kC2_mono H (fun r c14 H => ?_))
        obtain ⟨z13, rfl, H⟩ := H
        refine ⟨z13, rfl, ?_⟩
        refine kw_lstore_n dX0_normalise_43 (Nat.le_of_ble_eq_true rfl) ?_
        refine kw_iinc dX0_normalise_44 rfl ?_
        refine kw_goto 7 dX0_normalise_47 (by decide) ?_
        exact kw_forget (ls' := [some (kA x0), some (kL z13), none, some (kI 1), some (kI (x4 + 1))]) ⟨Or.inr rfl, ⟨Or.inr rfl, ⟨Or.inr rfl, ⟨Or.inr rfl, ⟨Or.inr rfl, trivial⟩⟩⟩⟩⟩ H
set_option maxRecDepth 4000 in
theorem v_X0_normalise_67 {G : KG} {S0 : KSh} (hL : kLay S0) {d : Nat} {P : Option AV → KMem → Prop} {c : KMem} {x0 x1 x4 : Int} (hx0 : S0.2.1 x0 = (2, 16)) (r4 : 0 ≤ x4 ∧ x4 < 2147483648) (H : (16 ≤ x4 → (P none c)) ∧ (x4 < 16 → ((k64 (c x0 x4)) ∧ ((k64 x1) ∧ ((x1 ≠ 0) ∧ (kW2 G S0 kM_X0_normalise (d + 1) 67 [some (kA x0), some (kL x1), none, none, some (kI (x4 + 1))] [] (kup c x0 x4 (Int.tdiv (c x0 x4) x1)) P)))))) : kW2 G S0 kM_X0_normalise (d + 1) 67 [some (kA x0), some (kL x1), none, none, some (kI x4)] [] c P := by
  refine kw_iload dX0_normalise_67 rfl ?_
  refine kw_bipush dX0_normalise_69 (by decide) ?_
  refine kw_icmp_ge 90 dX0_normalise_71 (by decide) (k32i (by omega)) (k32i (by omega)) (fun h15 => ?_) (fun h15 => ?_)
  · have H := H.1 h15
    refine k2_ret dX0_normalise_90 rfl H
  · have H := H.2 h15
    refine kw_aload_n dX0_normalise_74 rfl ?_
    refine kw_iload dX0_normalise_75 rfl ?_
    refine kw_aload_n dX0_normalise_77 rfl ?_
    refine kw_iload dX0_normalise_78 rfl ?_
    refine k2_lald dX0_normalise_80 hx0 (by omega) (by omega) ?_
    refine kw_lload_n dX0_normalise_81 rfl ?_
    have o16 := H.1
    have H := H.2
    have o17 := H.1
    have H := H.2
    have o18 := H.1
    have H := H.2
    refine kw_ldiv dX0_normalise_82 o16 o17 o18 ?_
    refine k2_last dX0_normalise_83 hx0 (by omega) (by omega) ?_
    refine kw_iinc dX0_normalise_84 rfl ?_
    refine kw_goto 67 dX0_normalise_87 (by decide) ?_
    exact kw_forget (ls' := [some (kA x0), some (kL x1), none, none, some (kI (x4 + 1))]) ⟨Or.inr rfl, ⟨Or.inr rfl, ⟨Or.inr rfl, ⟨Or.inr rfl, ⟨Or.inr rfl, trivial⟩⟩⟩⟩⟩ H
set_option maxRecDepth 4000 in
theorem v_X0_partsNotZero {G : KG} {S0 : KSh} (hL : kLay S0) {d : Nat} {P : Option AV → KMem → Prop} {c : KMem} {x0 : Int} (hx0 : S0.2.1 x0 = (2, 16)) (H : kW2 G S0 kM_X0_partsNotZero d 4 [some (kA x0), some (kI 0), some (kI 0)] [] c P) : kC2 G S0 kM_X0_partsNotZero d [kA x0] c P := by
  refine k2_met (by decide) rfl (Nat.le_of_ble_eq_true rfl) (l0 := [some (kA x0), none, none]) rfl ?_
  refine kw_iconst dX0_partsNotZero_0 ?_
  refine kw_istore_n dX0_partsNotZero_1 (Nat.le_of_ble_eq_true rfl) ?_
  refine kw_iconst dX0_partsNotZero_2 ?_
  refine kw_istore_n dX0_partsNotZero_3 (Nat.le_of_ble_eq_true rfl) ?_
  exact kw_forget (ls' := [some (kA x0), some (kI 0), some (kI 0)]) ⟨Or.inr rfl, ⟨Or.inr rfl, ⟨Or.inr rfl, trivial⟩⟩⟩ H
set_option maxRecDepth 4000 in
theorem v_X0_partsNotZero_4 {G : KG} {S0 : KSh} (hL : kLay S0) {d : Nat} {P : Option AV → KMem → Prop} {c : KMem} {x0 x1 x2 : Int} (hx0 : S0.2.1 x0 = (2, 16)) (r1 : 0 ≤ x1 ∧ x1 < 2147483648) (r2 : 0 ≤ x2 ∧ x2 < 2147483648) (H : (16 ≤ x2 → (P (some (kI x1)) c)) ∧ (x2 < 16 → ((k64 (c x0 x2)) ∧ (((c x0 x2) = 0 → (kW2 G S0 kM_X0_partsNotZero d 4 [some (kA x0), some (kI x1), some (kI (x2 + 1))] [] c P)) ∧ ((c x0 x2) ≠ 0 → (kW2 G S0 kM_X0_partsNotZero d 4 [some (kA x0), some (kI (x1 + 1)), some (kI (x2 + 1))] [] c P)))))) : kW2 G S0 kM_X0_partsNotZero d 4 [some (kA x0), some (kI x1), some (kI x2)] [] c P := by
  refine kw_iload_n dX0_partsNotZero_4 rfl ?_
  refine kw_bipush dX0_partsNotZero_5 (by decide) ?_
  refine kw_icmp_ge 27 dX0_partsNotZero_7 (by decide) (k32i (by omega)) (k32i (by omega)) (fun h1 => ?_) (fun h1 => ?_)
  · have H := H.1 h1
    refine kw_iload_n dX0_partsNotZero_27 rfl ?_
    refine k2_iret dX0_partsNotZero_28 rfl H
  · have H := H.2 h1
    refine kw_aload_n dX0_partsNotZero_10 rfl ?_
    refine kw_iload_n dX0_partsNotZero_11 rfl ?_
    refine k2_lald dX0_partsNotZero_12 hx0 (by omega) (by omega) ?_
    refine kw_lconst0 dX0_partsNotZero_13 ?_
    have o2 := H.1
    have H := H.2
    refine kw_lcmp_eq 21 dX0_partsNotZero_14 dX0_partsNotZero_15 (by decide) o2 (k64i (by omega)) (fun h3 => ?_) (fun h3 => ?_)
    · have H := H.1 h3
      refine kw_iinc dX0_partsNotZero_21 rfl ?_
      refine kw_goto 4 dX0_partsNotZero_24 (by decide) ?_
      exact kw_forget (ls' := [some (kA x0), some (kI x1), some (kI (x2 + 1))]) ⟨Or.inr rfl, ⟨Or.inr rfl, ⟨Or.inr rfl, trivial⟩⟩⟩ H
    · have H := H.2 h3
      refine kw_iinc dX0_partsNotZero_18 rfl ?_
      refine kw_iinc dX0_partsNotZero_21 rfl ?_
      refine kw_goto 4 dX0_partsNotZero_24 (by decide) ?_
      exact kw_forget (ls' := [some (kA x0), some (kI (x1 + 1)), some (kI (x2 + 1))]) ⟨Or.inr rfl, ⟨Or.inr rfl, ⟨Or.inr rfl, trivial⟩⟩⟩ H
set_option maxRecDepth 4000 in
theorem v_X0_isZero {G : KG} {S0 : KSh} (hL : kLay S0) {d : Nat} {P : Option AV → KMem → Prop} {c : KMem} {x0 : Int} (hx0 : S0.2.1 x0 = (2, 16)) (H : kC2 G S0 kM_X0_partsNotZero d [kA x0] c (kRI (fun z1 c2 => (k32 z1) ∧ ((z1 ≠ 0 → (P (some (kI 0)) c2)) ∧ (z1 = 0 → (P (some (kI 1)) c2)))))) : kC2 G S0 kM_X0_isZero (d + 1) [kA x0] c P := by
  refine k2_met (by decide) rfl (Nat.le_of_ble_eq_true rfl) (l0 := [some (kA x0)]) rfl ?_
  refine kw_aload_n dX0_isZero_0 rfl ?_
  refine k2_callS1I m_X0_partsNotZero dX0_isZero_1 wl_X0_64 (Nat.le_of_ble_eq_true rfl) (kC2_mono H (fun r c2 H => ?_))
  obtain ⟨z1, rfl, H⟩ := H
  refine ⟨z1, rfl, ?_⟩
  have o4 := H.1
  have H := H.2
  refine kw_if_ne 11 dX0_isZero_4 (by decide) o4 (fun h3 => ?_) (fun h3 => ?_)
  · have H := H.1 h3
    refine kw_iconst dX0_isZero_11 ?_
    refine k2_zret dX0_isZero_12 rfl (Or.inl rfl) H
  · have H := H.2 h3
    refine kw_iconst dX0_isZero_7 ?_
    refine kw_goto 12 dX0_isZero_8 (by decide) ?_
    refine k2_zret dX0_isZero_12 rfl (Or.inr rfl) H
set_option maxRecDepth 4000 in
theorem v_X0_isSame {G : KG} {S0 : KSh} (hL : kLay S0) {d : Nat} {P : Option AV → KMem → Prop} {c : KMem} {x0 x1 : Int} (hx0 : S0.2.1 x0 = (2, 16)) (hx1 : S0.2.1 x1 = (2, 16)) (H : kW2 G S0 kM_X0_isSame d 2 [some (kA x0), some (kA x1), some (kI 0)] [] c P) : kC2 G S0 kM_X0_isSame d [kA x0, kA x1] c P := by
  refine k2_met (by decide) rfl (Nat.le_of_ble_eq_true rfl) (l0 := [some (kA x0), some (kA x1), none]) rfl ?_
  refine kw_iconst dX0_isSame_0 ?_
  refine kw_istore_n dX0_isSame_1 (Nat.le_of_ble_eq_true rfl) ?_
  exact kw_forget (ls' := [some (kA x0), some (kA x1), some (kI 0)]) ⟨Or.inr rfl, ⟨Or.inr rfl, ⟨Or.inr rfl, trivial⟩⟩⟩ H
set_option maxRecDepth 4000 in
theorem v_X0_isSame_2 {G : KG} {S0 : KSh} (hL : kLay S0) {d : Nat} {P : Option AV → KMem → Prop} {c : KMem} {x0 x1 x2 : Int} (hx0 : S0.2.1 x0 = (2, 16)) (hx1 : S0.2.1 x1 = (2, 16)) (r2 : 0 ≤ x2 ∧ x2 < 2147483648) (H : (16 ≤ x2 → (P (some (kI 1)) c)) ∧ (x2 < 16 → ((k64 (c x0 x2)) ∧ ((k64 (c x1 x2)) ∧ (((c x0 x2) = (c x1 x2) → (kW2 G S0 kM_X0_isSame d 2 [some (kA x0), some (kA x1), some (kI (x2 + 1))] [] c P)) ∧ ((c x0 x2) ≠ (c x1 x2) → (P (some (kI 0)) c))))))) : kW2 G S0 kM_X0_isSame d 2 [some (kA x0), some (kA x1), some (kI x2)] [] c P := by
  refine kw_iload_n dX0_isSame_2 rfl ?_
  refine kw_bipush dX0_isSame_3 (by decide) ?_
  refine kw_icmp_ge 26 dX0_isSame_5 (by decide) (k32i (by omega)) (k32i (by omega)) (fun h1 => ?_) (fun h1 => ?_)
  · have H := H.1 h1
    refine kw_iconst dX0_isSame_26 ?_
    refine k2_zret dX0_isSame_27 rfl (Or.inr rfl) H
  · have H := H.2 h1
    refine kw_aload_n dX0_isSame_8 rfl ?_
    refine kw_iload_n dX0_isSame_9 rfl ?_
    refine k2_lald dX0_isSame_10 hx0 (by omega) (by omega) ?_
    refine kw_aload_n dX0_isSame_11 rfl ?_
    refine kw_iload_n dX0_isSame_12 rfl ?_
    refine k2_lald dX0_isSame_13 hx1 (by omega) (by omega) ?_
    have o2 := H.1
    have H := H.2
    have o3 := H.1
    have H := H.2
    refine kw_lcmp_eq 20 dX0_isSame_14 dX0_isSame_15 (by decide) o2 o3 (fun h4 => ?_) (fun h4 => ?_)
    · have H := H.1 h4
      refine kw_iinc dX0_isSame_20 rfl ?_
      refine kw_goto 2 dX0_isSame_23 (by decide) ?_
      exact kw_forget (ls' := [some (kA x0), some (kA x1), some (kI (x2 + 1))]) ⟨Or.inr rfl, ⟨Or.inr rfl, ⟨Or.inr rfl, trivial⟩⟩⟩ H
    · have H := H.2 h4
      refine kw_iconst dX0_isSame_18 ?_
      refine k2_zret dX0_isSame_19 rfl (Or.inl rfl) H
set_option maxRecDepth 4000 in
theorem v_X0_isWithinBound {G : KG} {S0 : KSh} (hL : kLay S0) {d : Nat} {P : Option AV → KMem → Prop} {c : KMem} {x0 : Int} (hx0 : S0.2.1 x0 = (2, 16)) (H : kW2 G S0 kM_X0_isWithinBound (d + 1) 2 [some (kA x0), some (kI 0)] [] c P) : kC2 G S0 kM_X0_isWithinBound (d + 1) [kA x0] c P := by
  refine k2_met (by decide) rfl (Nat.le_of_ble_eq_true rfl) (l0 := [some (kA x0), none]) rfl ?_
  refine kw_iconst dX0_isWithinBound_0 ?_
  refine kw_istore_n dX0_isWithinBound_1 (Nat.le_of_ble_eq_true rfl) ?_
  exact kw_forget (ls' := [some (kA x0), some (kI 0)]) ⟨Or.inr rfl, ⟨Or.inr rfl, trivial⟩⟩ H
set_option maxRecDepth 4000 in
theorem v_X0_isWithinBound_2 {G : KG} {S0 : KSh} (hL : kLay S0) {d : Nat} {P : Option AV → KMem → Prop} {c : KMem} {x0 x1 : Int} (hx0 : S0.2.1 x0 = (2, 16)) (r1 : 0 ≤ x1 ∧ x1 < 2147483648) (H : (16 ≤ x1 → (P (some (kI 1)) c)) ∧ (x1 < 16 → ((k64 (c x0 x1)) ∧ (((100000000 < (c x0 x1) ∨ (c x0 x1) < -100000000) → (P (some (kI 0)) c)) ∧ (¬ (100000000 < (c x0 x1) ∨ (c x0 x1) < -100000000) → (kW2 G S0 kM_X0_isWithinBound (d + 1) 2 [some (kA x0), some (kI (x1 + 1))] [] c P)))))) : kW2 G S0 kM_X0_isWithinBound (d + 1) 2 [some (kA x0), some (kI x1)] [] c P := by
  refine kw_iload_n dX0_isWithinBound_2 rfl ?_
  refine kw_bipush dX0_isWithinBound_3 (by decide) ?_
  refine kw_icmp_ge 25 dX0_isWithinBound_5 (by decide) (k32i (by omega)) (k32i (by omega)) (fun h1 => ?_) (fun h1 => ?_)
  · have H := H.1 h1
    refine kw_iconst dX0_isWithinBound_25 ?_
    refine k2_zret dX0_isWithinBound_26 rfl (Or.inr rfl) H
  · have H := H.2 h1
    refine kw_aload_n dX0_isWithinBound_8 rfl ?_
    refine kw_iload_n dX0_isWithinBound_9 rfl ?_
    refine k2_lald dX0_isWithinBound_10 hx0 (by omega) (by omega) ?_
    have o2 := H.1
    have H := H.2
    refine k2_callSN1I m_X10_isBeyond dX0_isWithinBound_11 wl_X0_68 (Nat.le_of_ble_eq_true rfl) (s_X10_isBeyond hL o2 (fun h3 => ⟨_, rfl, ?_⟩) (fun h3 => ⟨_, rfl, ?_⟩))
    · have H := H.1 h3
      refine kw_if_eq 19 dX0_isWithinBound_14 (by decide) (k32i (by omega)) (fun h4 => absurd h4 (by decide)) (fun _ => ?_)
      refine kw_iconst dX0_isWithinBound_17 ?_
      refine k2_zret dX0_isWithinBound_18 rfl (Or.inl rfl) H
    · have H := H.2 h3
      refine kw_if_eq 19 dX0_isWithinBound_14 (by decide) (k32i (by omega)) (fun _ => ?_) (fun h5 => absurd h5 (by decide))
      refine kw_iinc dX0_isWithinBound_19 rfl ?_
      refine kw_goto 2 dX0_isWithinBound_22 (by decide) ?_
      exact kw_forget (ls' := [some (kA x0), some (kI (x1 + 1))]) ⟨Or.inr rfl, ⟨Or.inr rfl, trivial⟩⟩ H
set_option maxRecDepth 4000 in
theorem v_X0_rootOf {G : KG} {S0 : KSh} (hL : kLay S0) {d : Nat} {P : Option AV → KMem → Prop} {c : KMem} {x0 : Int}  (H : kW2 G S0 kM_X0_rootOf d 10 [some (kL x0), none, some (kL 0), none, some (kL 3037000499), none, some (kI 0), none, none] [] c P) : kC2 G S0 kM_X0_rootOf d [kL x0] c P := by
  refine k2_met (by decide) rfl (Nat.le_of_ble_eq_true rfl) (l0 := [some (kL x0), none, none, none, none, none, none, none, none]) rfl ?_
  refine kw_lconst0 dX0_rootOf_0 ?_
  refine kw_lstore_n dX0_rootOf_1 (Nat.le_of_ble_eq_true rfl) ?_
  refine kw_ldc2 dX0_rootOf_2 wk_X0_72 ?_
  refine kw_lstore dX0_rootOf_5 (Nat.le_of_ble_eq_true rfl) ?_
  refine kw_iconst dX0_rootOf_7 ?_
  refine kw_istore dX0_rootOf_8 (Nat.le_of_ble_eq_true rfl) ?_
  exact kw_forget (ls' := [some (kL x0), none, some (kL 0), none, some (kL 3037000499), none, some (kI 0), none, none]) ⟨Or.inr rfl, ⟨Or.inr rfl, ⟨Or.inr rfl, ⟨Or.inr rfl, ⟨Or.inr rfl, ⟨Or.inr rfl, ⟨Or.inr rfl, ⟨Or.inr rfl, ⟨Or.inr rfl, trivial⟩⟩⟩⟩⟩⟩⟩⟩⟩ H
set_option maxRecDepth 4000 in
theorem v_X0_rootOf_10 {G : KG} {S0 : KSh} (hL : kLay S0) {d : Nat} {P : Option AV → KMem → Prop} {c : KMem} {x0 x2 x4 x6 : Int} (r6 : 0 ≤ x6 ∧ x6 < 2147483648) (H : (64 ≤ x6 → ((k64 (x2 * x2)) ∧ ((k64 x0) ∧ (((x2 * x2) ≠ x0 → (P (some (kL (-1))) c)) ∧ ((x2 * x2) = x0 → (P (some (kL x2)) c)))))) ∧ (x6 < 64 → ((k64 x2) ∧ ((k64 x4) ∧ ((x4 ≤ x2 → ((k64 (x2 * x2)) ∧ ((k64 x0) ∧ (((x2 * x2) ≠ x0 → (P (some (kL (-1))) c)) ∧ ((x2 * x2) = x0 → (P (some (kL x2)) c)))))) ∧ (x2 < x4 → ((k64 ((x4 - x2) + 1)) ∧ ((k64 ((x2 + (Int.tdiv ((x4 - x2) + 1) 2)) * (x2 + (Int.tdiv ((x4 - x2) + 1) 2)))) ∧ ((k64 x0) ∧ ((x0 < ((x2 + (Int.tdiv ((x4 - x2) + 1) 2)) * (x2 + (Int.tdiv ((x4 - x2) + 1) 2))) → (kW2 G S0 kM_X0_rootOf d 10 [some (kL x0), none, some (kL x2), none, some (kL ((x2 + (Int.tdiv ((x4 - x2) + 1) 2)) - 1)), none, some (kI (x6 + 1)), none, none] [] c P)) ∧ (((x2 + (Int.tdiv ((x4 - x2) + 1) 2)) * (x2 + (Int.tdiv ((x4 - x2) + 1) 2))) ≤ x0 → (kW2 G S0 kM_X0_rootOf d 10 [some (kL x0), none, some (kL (x2 + (Int.tdiv ((x4 - x2) + 1) 2))), none, some (kL x4), none, some (kI (x6 + 1)), none, none] [] c P)))))))))))) : kW2 G S0 kM_X0_rootOf d 10 [some (kL x0), none, some (kL x2), none, some (kL x4), none, some (kI x6), none, none] [] c P := by
  refine kw_iload dX0_rootOf_10 rfl ?_
  refine kw_bipush dX0_rootOf_12 (by decide) ?_
  refine kw_icmp_ge 66 dX0_rootOf_14 (by decide) (k32i (by omega)) (k32i (by omega)) (fun h1 => ?_) (fun h1 => ?_)
  · have H := H.1 h1
    refine kw_lload_n dX0_rootOf_66 rfl ?_
    refine kw_lload_n dX0_rootOf_67 rfl ?_
    refine kw_lmul dX0_rootOf_68 ?_
    refine kw_lload_n dX0_rootOf_69 rfl ?_
    have o2 := H.1
    have H := H.2
    have o3 := H.1
    have H := H.2
    refine kw_lcmp_ne 78 dX0_rootOf_70 dX0_rootOf_71 (by decide) o2 o3 (fun h4 => ?_) (fun h4 => ?_)
    · have H := H.1 h4
      refine kw_ldc2 dX0_rootOf_78 wk_X0_74 ?_
      refine k2_lret dX0_rootOf_81 rfl H
    · have H := H.2 h4
      refine kw_lload_n dX0_rootOf_74 rfl ?_
      refine kw_goto 81 dX0_rootOf_75 (by decide) ?_
      refine k2_lret dX0_rootOf_81 rfl H
  · have H := H.2 h1
    refine kw_lload_n dX0_rootOf_17 rfl ?_
    refine kw_lload dX0_rootOf_18 rfl ?_
    have o5 := H.1
    have H := H.2
    have o6 := H.1
    have H := H.2
    refine kw_lcmp_ge 66 dX0_rootOf_20 dX0_rootOf_21 (by decide) o5 o6 (fun h7 => ?_) (fun h7 => ?_)
    · have H := H.1 h7
      refine kw_lload_n dX0_rootOf_66 rfl ?_
      refine kw_lload_n dX0_rootOf_67 rfl ?_
      refine kw_lmul dX0_rootOf_68 ?_
      refine kw_lload_n dX0_rootOf_69 rfl ?_
      have o8 := H.1
      have H := H.2
      have o9 := H.1
      have H := H.2
      refine kw_lcmp_ne 78 dX0_rootOf_70 dX0_rootOf_71 (by decide) o8 o9 (fun h10 => ?_) (fun h10 => ?_)
      · have H := H.1 h10
        refine kw_ldc2 dX0_rootOf_78 wk_X0_74 ?_
        refine k2_lret dX0_rootOf_81 rfl H
      · have H := H.2 h10
        refine kw_lload_n dX0_rootOf_74 rfl ?_
        refine kw_goto 81 dX0_rootOf_75 (by decide) ?_
        refine k2_lret dX0_rootOf_81 rfl H
    · have H := H.2 h7
      refine kw_lload_n dX0_rootOf_24 rfl ?_
      refine kw_lload dX0_rootOf_25 rfl ?_
      refine kw_lload_n dX0_rootOf_27 rfl ?_
      refine kw_lsub dX0_rootOf_28 ?_
      refine kw_lconst1 dX0_rootOf_29 ?_
      refine kw_ladd dX0_rootOf_30 ?_
      refine kw_ldc2 dX0_rootOf_31 wk_X0_58 ?_
      have o11 := H.1
      have H := H.2
      refine kw_ldiv dX0_rootOf_34 o11 (k64i (by omega)) (by decide) ?_
      refine kw_ladd dX0_rootOf_35 ?_
      refine kw_lstore dX0_rootOf_36 (Nat.le_of_ble_eq_true rfl) ?_
      refine kw_lload dX0_rootOf_38 rfl ?_
      refine kw_lload dX0_rootOf_40 rfl ?_
      refine kw_lmul dX0_rootOf_42 ?_
      refine kw_lload_n dX0_rootOf_43 rfl ?_
      have o12 := H.1
      have H := H.2
      have o13 := H.1
      have H := H.2
      refine kw_lcmp_gt 54 dX0_rootOf_44 dX0_rootOf_45 (by decide) o12 o13 (fun h14 => ?_) (fun h14 => ?_)
      · have H := H.1 h14
        refine kw_lload dX0_rootOf_54 rfl ?_
        refine kw_lconst1 dX0_rootOf_56 ?_
        refine kw_lsub dX0_rootOf_57 ?_
        refine kw_lstore dX0_rootOf_58 (Nat.le_of_ble_eq_true rfl) ?_
        refine kw_iinc dX0_rootOf_60 rfl ?_
        refine kw_goto 10 dX0_rootOf_63 (by decide) ?_
        exact kw_forget (ls' := [some (kL x0), none, some (kL x2), none, some (kL ((x2 + (Int.tdiv ((x4 - x2) + 1) 2)) - 1)), none, some (kI (x6 + 1)), none, none]) ⟨Or.inr rfl, ⟨Or.inr rfl, ⟨Or.inr rfl, ⟨Or.inr rfl, ⟨Or.inr rfl, ⟨Or.inr rfl, ⟨Or.inr rfl, ⟨Or.inl rfl, ⟨Or.inr rfl, trivial⟩⟩⟩⟩⟩⟩⟩⟩⟩ H
      · have H := H.2 h14
        refine kw_lload dX0_rootOf_48 rfl ?_
        refine kw_lstore_n dX0_rootOf_50 (Nat.le_of_ble_eq_true rfl) ?_
        refine kw_goto 60 dX0_rootOf_51 (by decide) ?_
        refine kw_iinc dX0_rootOf_60 rfl ?_
        refine kw_goto 10 dX0_rootOf_63 (by decide) ?_
        exact kw_forget (ls' := [some (kL x0), none, some (kL (x2 + (Int.tdiv ((x4 - x2) + 1) 2))), none, some (kL x4), none, some (kI (x6 + 1)), none, none]) ⟨Or.inr rfl, ⟨Or.inr rfl, ⟨Or.inr rfl, ⟨Or.inr rfl, ⟨Or.inr rfl, ⟨Or.inr rfl, ⟨Or.inr rfl, ⟨Or.inl rfl, ⟨Or.inr rfl, trivial⟩⟩⟩⟩⟩⟩⟩⟩⟩ H
set_option maxRecDepth 4000 in
theorem v_X0_meet {G : KG} {S0 : KSh} (hL : kLay S0) {d : Nat} {P : Option AV → KMem → Prop} {c : KMem} {x0 x1 x2 x3 x4 : Int} (hx0 : S0.2.1 x0 = (2, 16)) (hx1 : S0.2.1 x1 = (2, 16)) (hx2 : S0.2.1 x2 = (2, 16)) (hx3 : S0.2.1 x3 = (2, 16)) (hx4 : S0.2.1 x4 = (2, 16)) (H : kC2 G S0 kM_X0_dual (d + 1) [kA x0, kA x2] c (kRN (fun c2 => kC2 G S0 kM_X0_dual (d + 1) [kA x1, kA x3] c2 (kRN (fun c4 => kC2 G S0 kM_X0_multiply (d + 1) [kI 1, kA x2, kA x3, kA x4] c4 (kRN (fun c6 => kC2 G S0 kM_X0_copy (d + 1) [kA x4, kA x2] c6 (kRN (fun c8 => kW2 G S0 kM_X0_meet (d + 2) 27 [none, none, some (kA x2), none, some (kA x4), some (kI 0)] [] c8 P))))))))) : kC2 G S0 kM_X0_meet (d + 2) [kA x0, kA x1, kA x2, kA x3, kA x4] c P := by
  refine k2_met (by decide) rfl (Nat.le_of_ble_eq_true rfl) (l0 := [some (kA x0), some (kA x1), some (kA x2), some (kA x3), some (kA x4), none]) rfl ?_
  refine kw_aload_n dX0_meet_0 rfl ?_
  refine kw_aload_n dX0_meet_1 rfl ?_
  refine k2_callS2N m_X0_dual dX0_meet_2 wl_X0_27 (Nat.le_of_ble_eq_true rfl) (kC2_mono H (fun r c2 H => ?_))
  obtain ⟨rfl, H⟩ := H
  refine ⟨rfl, ?_⟩
  refine kw_aload_n dX0_meet_5 rfl ?_
  refine kw_aload_n dX0_meet_6 rfl ?_
  refine k2_callS2N m_X0_dual dX0_meet_7 wl_X0_27 (Nat.le_of_ble_eq_true rfl) (kC2_mono H (fun r c4 H => ?_))
  obtain ⟨rfl, H⟩ := H
  refine ⟨rfl, ?_⟩
  refine kw_iconst dX0_meet_10 ?_
  refine kw_aload_n dX0_meet_11 rfl ?_
  refine kw_aload_n dX0_meet_12 rfl ?_
  refine kw_aload dX0_meet_13 rfl ?_
  refine k2_callS4N m_X0_multiply dX0_meet_15 wl_X0_31 (Nat.le_of_ble_eq_true rfl) (kC2_mono H (fun r c6 H => ?_))
  obtain ⟨rfl, H⟩ := H
  refine ⟨rfl, ?_⟩
  refine kw_aload dX0_meet_18 rfl ?_
  refine kw_aload_n dX0_meet_20 rfl ?_
  refine k2_callS2N m_X0_copy dX0_meet_21 wl_X0_35 (Nat.le_of_ble_eq_true rfl) (kC2_mono H (fun r c8 H => ?_))
  obtain ⟨rfl, H⟩ := H
  refine ⟨rfl, ?_⟩
  refine kw_iconst dX0_meet_24 ?_
  refine kw_istore dX0_meet_25 (Nat.le_of_ble_eq_true rfl) ?_
  exact kw_forget (ls' := [none, none, some (kA x2), none, some (kA x4), some (kI 0)]) ⟨Or.inl rfl, ⟨Or.inl rfl, ⟨Or.inr rfl, ⟨Or.inl rfl, ⟨Or.inr rfl, ⟨Or.inr rfl, trivial⟩⟩⟩⟩⟩⟩ H
set_option maxRecDepth 4000 in
theorem v_X0_meet_27 {G : KG} {S0 : KSh} (hL : kLay S0) {d : Nat} {P : Option AV → KMem → Prop} {c : KMem} {x2 x4 x5 : Int} (hx2 : S0.2.1 x2 = (2, 16)) (hx4 : S0.2.1 x4 = (2, 16)) (r5 : 0 ≤ x5 ∧ x5 < 2147483648) (H : (16 ≤ x5 → (kC2 G S0 kM_X0_isWithinBound (d + 1) [kA x2] c (kRI (fun z10 c11 => (z10 = 0 ∨ z10 = 1) ∧ (P (some (kI z10)) c11))))) ∧ (x5 < 16 → (kC2 G S0 kM_X0_timesWholeUnit (d + 1) [kA x2, kI x5] c (kRL (fun z13 c14 => kW2 G S0 kM_X0_meet (d + 2) 27 [none, none, some (kA x2), none, some (kA x4), some (kI (x5 + 1))] [] (kup c14 x4 x5 z13) P))))) : kW2 G S0 kM_X0_meet (d + 2) 27 [none, none, some (kA x2), none, some (kA x4), some (kI x5)] [] c P := by
  refine kw_iload dX0_meet_27 rfl ?_
  refine kw_bipush dX0_meet_29 (by decide) ?_
  refine kw_icmp_ge 51 dX0_meet_31 (by decide) (k32i (by omega)) (k32i (by omega)) (fun h9 => ?_) (fun h9 => ?_)
  · have H := H.1 h9
    refine kw_aload_n dX0_meet_51 rfl ?_
    refine k2_callS1I m_X0_isWithinBound dX0_meet_52 wl_X0_38 (Nat.le_of_ble_eq_true rfl) (kC2_mono H (fun r c11 H => ?_))
    obtain ⟨z10, rfl, H⟩ := H
    refine ⟨z10, rfl, ?_⟩
    have o12 := H.1
    have H := H.2
    refine k2_zret dX0_meet_55 rfl o12 H
  · have H := H.2 h9
    refine kw_aload dX0_meet_34 rfl ?_
    refine kw_iload dX0_meet_36 rfl ?_
    refine kw_aload_n dX0_meet_38 rfl ?_
    refine kw_iload dX0_meet_39 rfl ?_
    refine k2_callS2L m_X0_timesWholeUnit dX0_meet_41 wl_X0_23 (Nat.le_of_ble_eq_true rfl) (kC2_mono H (fun r c14 H => ?_))
    obtain ⟨z13, rfl, H⟩ := H
    refine ⟨z13, rfl, ?_⟩
    refine k2_last dX0_meet_44 hx4 (by omega) (by omega) ?_
    refine kw_iinc dX0_meet_45 rfl ?_
    refine kw_goto 27 dX0_meet_48 (by decide) ?_
    exact kw_forget (ls' := [none, none, some (kA x2), none, some (kA x4), some (kI (x5 + 1))]) ⟨Or.inr rfl, ⟨Or.inr rfl, ⟨Or.inr rfl, ⟨Or.inr rfl, ⟨Or.inr rfl, ⟨Or.inr rfl, trivial⟩⟩⟩⟩⟩⟩ H
