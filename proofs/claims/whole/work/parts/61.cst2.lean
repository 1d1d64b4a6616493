set_option maxRecDepth 4000 in
theorem v_X10_lay {G : KG} {S0 : KSh} (hL : kLay S0) {d : Nat} {P : Option AV → KMem → Prop} {c : KMem} {x1 : Int} (r1 : -2147483648 ≤ x1 ∧ x1 < 2147483648) (H : kW2 G S0 kM_X10_lay d 3 [some (kA 0), some (kI x1), some (kI 24)] [] c P) : kC2 G S0 kM_X10_lay d [kA 0, kI x1] c P := by
  refine k2_met (by decide) rfl (Nat.le_of_ble_eq_true rfl) (l0 := [some (kA 0), some (kI x1), none]) rfl ?_
  refine kw_bipush dX10_lay_0 (by decide) ?_
  refine kw_istore_n dX10_lay_2 (Nat.le_of_ble_eq_true rfl) ?_
  exact kw_forget (ls' := [some (kA 0), some (kI x1), some (kI 24)]) ⟨Or.inr rfl, ⟨Or.inr rfl, ⟨Or.inr rfl, trivial⟩⟩⟩ H
set_option maxRecDepth 4000 in
theorem v_X10_lay_3 {G : KG} {S0 : KSh} (hL : kLay S0) {d : Nat} {P : Option AV → KMem → Prop} {c : KMem} {x1 x2 : Int} (r1 : -2147483648 ≤ x1 ∧ x1 < 2147483648) (r2 : -2147483648 ≤ x2 ∧ x2 < 2147483648) (hp : 0 ≤ c 0 1 ∧ c 0 1 ≤ 140) (H : (x2 < 0 → (P none c)) ∧ (0 ≤ x2 → ((140 ≤ (c 0 1) → (kW2 G S0 kM_X10_lay d 3 [some (kA 0), some (kI x1), some (kI (x2 + -8))] [] c P)) ∧ ((c 0 1) < 140 → (kW2 G S0 kM_X10_lay d 3 [some (kA 0), some (kI x1), some (kI (x2 + -8))] [] (kup (kup c 1 (c 0 1) (kand (kshr x1 x2) 255)) 0 1 ((c 0 1) + 1)) P))))) : kW2 G S0 kM_X10_lay d 3 [some (kA 0), some (kI x1), some (kI x2)] [] c P := by
  refine kw_iload_n dX10_lay_3 rfl ?_
  refine kw_if_lt 49 dX10_lay_4 (by decide) (k32i (by omega)) (fun h1 => ?_) (fun h1 => ?_)
  · have H := H.1 h1
    refine k2_ret dX10_lay_49 rfl H
  · have H := H.2 h1
    refine kw_aload_n dX10_lay_7 rfl ?_
    refine k2_getI fd_X10_1 dX10_lay_8 wf_X10_13 (lsh_0 hL) ?_
    refine kw_eI (b := (c 0 1)) rfl ?_
    refine kw_sipush dX10_lay_11 (by decide) ?_
    refine kw_icmp_ge 43 dX10_lay_14 (by decide) (k32i (by omega)) (k32i (by omega)) (fun h2 => ?_) (fun h2 => ?_)
    · have H := H.1 h2
      refine kw_iinc dX10_lay_43 rfl ?_
      refine kw_goto 3 dX10_lay_46 (by decide) ?_
      exact kw_forget (ls' := [some (kA 0), some (kI x1), some (kI (x2 + -8))]) ⟨Or.inr rfl, ⟨Or.inr rfl, ⟨Or.inr rfl, trivial⟩⟩⟩ H
    · have H := H.2 h2
      refine kw_aload_n dX10_lay_17 rfl ?_
      refine k2_getR fd_X10_0 dX10_lay_18 wf_X10_9 (lsh_0 hL) (lrf_0_0 hL) ?_
      refine kw_aload_n dX10_lay_21 rfl ?_
      refine k2_getI fd_X10_1 dX10_lay_22 wf_X10_13 (lsh_0 hL) ?_
      refine kw_eI (b := (c 0 1)) rfl ?_
      refine kw_iload_n dX10_lay_25 rfl ?_
      refine kw_iload_n dX10_lay_26 rfl ?_
      refine kw_ishr dX10_lay_27 ?_
      refine kw_sipush dX10_lay_28 (by decide) ?_
      refine kw_iand dX10_lay_31 ?_
      refine k2_iast dX10_lay_32 (lsh_1 hL) (by omega) (by omega) ?_
      refine kw_aload_n dX10_lay_33 rfl ?_
      refine kw_dup dX10_lay_34 rfl ?_
      refine k2_getI fd_X10_1 dX10_lay_35 wf_X10_13 (lsh_0 hL) ?_
      refine kw_eI (kup_n (Or.inl (by decide))) ?_
      refine kw_iconst dX10_lay_38 ?_
      refine kw_iadd dX10_lay_39 ?_
      refine k2_putI fp_X10_1 dX10_lay_40 wf_X10_13 (lsh_0 hL) ?_
      refine kw_iinc dX10_lay_43 rfl ?_
      refine kw_goto 3 dX10_lay_46 (by decide) ?_
      exact kw_forget (ls' := [some (kA 0), some (kI x1), some (kI (x2 + -8))]) ⟨Or.inr rfl, ⟨Or.inr rfl, ⟨Or.inr rfl, trivial⟩⟩⟩ H
set_option maxRecDepth 4000 in
theorem v_X10_feed {G : KG} {S0 : KSh} (hL : kLay S0) {d : Nat} {P : Option AV → KMem → Prop} {c : KMem} {x1 x2 x3 x4 x5 : Int} (r1 : -2147483648 ≤ x1 ∧ x1 < 2147483648) (r2 : -2147483648 ≤ x2 ∧ x2 < 2147483648) (r3 : -2147483648 ≤ x3 ∧ x3 < 2147483648) (r4 : -2147483648 ≤ x4 ∧ x4 < 2147483648) (r5 : -2147483648 ≤ x5 ∧ x5 < 2147483648) (hp : 0 ≤ c 0 1 ∧ c 0 1 ≤ 140) (H : ((c 0 1) ≤ 120 → (kC2 G S0 kM_X10_lay d [kA 0, kI x1] c (kRN (fun c3 => kC2 G S0 kM_X10_lay d [kA 0, kI x2] c3 (kRN (fun c5 => kC2 G S0 kM_X10_lay d [kA 0, kI x3] c5 (kRN (fun c7 => kC2 G S0 kM_X10_lay d [kA 0, kI x4] c7 (kRN (fun c9 => kC2 G S0 kM_X10_lay d [kA 0, kI x5] c9 (kRN (fun c11 => P (some (kI (c11 0 1))) c11)))))))))))) ∧ (120 < (c 0 1) → (P (some (kI (-1))) c))) : kC2 G S0 kM_X10_feed (d + 1) [kA 0, kI x1, kI x2, kI x3, kI x4, kI x5] c P := by
  refine k2_met (by decide) rfl (Nat.le_of_ble_eq_true rfl) (l0 := [some (kA 0), some (kI x1), some (kI x2), some (kI x3), some (kI x4), some (kI x5)]) rfl ?_
  refine kw_aload_n dX10_feed_0 rfl ?_
  refine k2_getI fd_X10_1 dX10_feed_1 wf_X10_13 (lsh_0 hL) ?_
  refine kw_eI (b := (c 0 1)) rfl ?_
  refine kw_bipush dX10_feed_4 (by decide) ?_
  refine kw_icmp_le 11 dX10_feed_6 (by decide) (k32i (by omega)) (k32i (by omega)) (fun h1 => ?_) (fun h1 => ?_)
  · have H := H.1 h1
    refine kw_aload_n dX10_feed_11 rfl ?_
    refine kw_iload_n dX10_feed_12 rfl ?_
    refine k2_callV1N (ci := 8) (N := 20) (T := TX10) rfl (lsh_0 hL) m_X10_lay dX10_feed_13 wl_X10_101 (Nat.le_of_ble_eq_true rfl) (kC2_mono H (fun r c3 H => ?_))
    obtain ⟨rfl, H⟩ := H
    refine ⟨rfl, ?_⟩
    refine kw_aload_n dX10_feed_16 rfl ?_
    refine kw_iload_n dX10_feed_17 rfl ?_
    refine k2_callV1N (ci := 8) (N := 20) (T := TX10) rfl (lsh_0 hL) m_X10_lay dX10_feed_18 wl_X10_101 (Nat.le_of_ble_eq_true rfl) (kC2_mono H (fun r c5 H => ?_))
    obtain ⟨rfl, H⟩ := H
    refine ⟨rfl, ?_⟩
    refine kw_aload_n dX10_feed_21 rfl ?_
    refine kw_iload_n dX10_feed_22 rfl ?_
    refine k2_callV1N (ci := 8) (N := 20) (T := TX10) rfl (lsh_0 hL) m_X10_lay dX10_feed_23 wl_X10_101 (Nat.le_of_ble_eq_true rfl) (kC2_mono H (fun r c7 H => ?_))
    obtain ⟨rfl, H⟩ := H
    refine ⟨rfl, ?_⟩
    refine kw_aload_n dX10_feed_26 rfl ?_
    refine kw_iload dX10_feed_27 rfl ?_
    refine k2_callV1N (ci := 8) (N := 20) (T := TX10) rfl (lsh_0 hL) m_X10_lay dX10_feed_29 wl_X10_101 (Nat.le_of_ble_eq_true rfl) (kC2_mono H (fun r c9 H => ?_))
    obtain ⟨rfl, H⟩ := H
    refine ⟨rfl, ?_⟩
    refine kw_aload_n dX10_feed_32 rfl ?_
    refine kw_iload dX10_feed_33 rfl ?_
    refine k2_callV1N (ci := 8) (N := 20) (T := TX10) rfl (lsh_0 hL) m_X10_lay dX10_feed_35 wl_X10_101 (Nat.le_of_ble_eq_true rfl) (kC2_mono H (fun r c11 H => ?_))
    obtain ⟨rfl, H⟩ := H
    refine ⟨rfl, ?_⟩
    refine kw_aload_n dX10_feed_38 rfl ?_
    refine k2_getI fd_X10_1 dX10_feed_39 wf_X10_13 (lsh_0 hL) ?_
    refine kw_eI (b := (c11 0 1)) rfl ?_
    refine k2_iret dX10_feed_42 rfl H
  · have H := H.2 h1
    refine kw_iconst dX10_feed_9 ?_
    refine k2_iret dX10_feed_10 rfl H
set_option maxRecDepth 4000 in
theorem v_X10_book {G : KG} {S0 : KSh} (hL : kLay S0) {d : Nat} {P : Option AV → KMem → Prop} {c : KMem} {x1 : Int} (r1 : -2147483648 ≤ x1 ∧ x1 < 2147483648) (hp : 0 ≤ c 0 1 ∧ c 0 1 ≤ 140) (H : (x1 < 0 → (P (some (kI (-1))) c)) ∧ (0 ≤ x1 → ((120 < x1 → (P (some (kI (-1))) c)) ∧ (x1 ≤ 120 → ((x1 ≤ (c 0 1) → (P (some (kI x1)) (kup (kup (kcpy c 1 2 0 0 x1) 0 3 x1) 0 1 0))) ∧ ((c 0 1) < x1 → (P (some (kI (-1))) c))))))) : kC2 G S0 kM_X10_book (d + 1) [kA 0, kI x1] c P := by
  refine k2_met (by decide) rfl (Nat.le_of_ble_eq_true rfl) (l0 := [some (kA 0), some (kI x1)]) rfl ?_
  refine kw_iload_n dX10_book_0 rfl ?_
  refine kw_if_lt 18 dX10_book_1 (by decide) (k32i (by omega)) (fun h1 => ?_) (fun h1 => ?_)
  · have H := H.1 h1
    refine kw_iconst dX10_book_18 ?_
    refine k2_iret dX10_book_19 rfl H
  · have H := H.2 h1
    refine kw_iload_n dX10_book_4 rfl ?_
    refine kw_bipush dX10_book_5 (by decide) ?_
    refine kw_icmp_gt 18 dX10_book_7 (by decide) (k32i (by omega)) (k32i (by omega)) (fun h2 => ?_) (fun h2 => ?_)
    · have H := H.1 h2
      refine kw_iconst dX10_book_18 ?_
      refine k2_iret dX10_book_19 rfl H
    · have H := H.2 h2
      refine kw_iload_n dX10_book_10 rfl ?_
      refine kw_aload_n dX10_book_11 rfl ?_
      refine k2_getI fd_X10_1 dX10_book_12 wf_X10_13 (lsh_0 hL) ?_
      refine kw_eI (b := (c 0 1)) rfl ?_
      refine kw_icmp_le 20 dX10_book_15 (by decide) (k32i (by omega)) (k32i (by omega)) (fun h3 => ?_) (fun h3 => ?_)
      · have H := H.1 h3
        refine kw_aload_n dX10_book_20 rfl ?_
        refine k2_getR fd_X10_0 dX10_book_21 wf_X10_9 (lsh_0 hL) (lrf_0_0 hL) ?_
        refine kw_iconst dX10_book_24 ?_
        refine kw_aload_n dX10_book_25 rfl ?_
        refine k2_getR fd_X10_2 dX10_book_26 wf_X10_17 (lsh_0 hL) (lrf_0_2 hL) ?_
        refine kw_iconst dX10_book_29 ?_
        refine kw_iload_n dX10_book_30 rfl ?_
        refine k2_copyi dX10_book_31 wl_X10_124 (lsh_1 hL) (lsh_2 hL) (by omega) (by omega) (by omega) (Nat.le_of_ble_eq_true rfl) ?_
        refine kw_aload_n dX10_book_34 rfl ?_
        refine kw_iload_n dX10_book_35 rfl ?_
        refine k2_putI fp_X10_3 dX10_book_36 wf_X10_20 (lsh_0 hL) ?_
        refine kw_aload_n dX10_book_39 rfl ?_
        refine kw_iconst dX10_book_40 ?_
        refine k2_putI fp_X10_1 dX10_book_41 wf_X10_13 (lsh_0 hL) ?_
        refine kw_iload_n dX10_book_44 rfl ?_
        refine k2_iret dX10_book_45 rfl H
      · have H := H.2 h3
        refine kw_iconst dX10_book_18 ?_
        refine k2_iret dX10_book_19 rfl H
set_option maxRecDepth 4000 in
theorem v_X10_seed {G : KG} {S0 : KSh} (hL : kLay S0) {d : Nat} {P : Option AV → KMem → Prop} {c : KMem} {x1 : Int} (r1 : -2147483648 ≤ x1 ∧ x1 < 2147483648) (H : (x1 < 0 → (P (some (kI 0)) c)) ∧ (0 ≤ x1 → ((x1 ≤ 65535 → (P (some (kI 1)) (kup c 0 4 x1))) ∧ (65535 < x1 → (P (some (kI 0)) c))))) : kC2 G S0 kM_X10_seed d [kA 0, kI x1] c P := by
  refine k2_met (by decide) rfl (Nat.le_of_ble_eq_true rfl) (l0 := [some (kA 0), some (kI x1)]) rfl ?_
  refine kw_iload_n dX10_seed_0 rfl ?_
  refine kw_if_lt 10 dX10_seed_1 (by decide) (k32i (by omega)) (fun h1 => ?_) (fun h1 => ?_)
  · have H := H.1 h1
    refine kw_iconst dX10_seed_10 ?_
    refine k2_zret dX10_seed_11 rfl (Or.inl rfl) H
  · have H := H.2 h1
    refine kw_iload_n dX10_seed_4 rfl ?_
    refine kw_ldc dX10_seed_5 wk_X10_172 ?_
    refine kw_icmp_le 12 dX10_seed_7 (by decide) (k32i (by omega)) (k32i (by omega)) (fun h2 => ?_) (fun h2 => ?_)
    · have H := H.1 h2
      refine kw_aload_n dX10_seed_12 rfl ?_
      refine kw_iload_n dX10_seed_13 rfl ?_
      refine k2_putI fp_X10_4 dX10_seed_14 wf_X10_23 (lsh_0 hL) ?_
      refine kw_iconst dX10_seed_17 ?_
      refine k2_zret dX10_seed_18 rfl (Or.inr rfl) H
    · have H := H.2 h2
      refine kw_iconst dX10_seed_10 ?_
      refine k2_zret dX10_seed_11 rfl (Or.inl rfl) H
set_option maxRecDepth 4000 in
theorem v_X10_drawCoordinate {G : KG} {S0 : KSh} (hL : kLay S0) {d : Nat} {P : Option AV → KMem → Prop} {c : KMem}  (hp : 0 ≤ c 0 4 ∧ c 0 4 ≤ 65535) (H : (k32 (kand ((25173 * (c 0 4)) + 13849) 65535)) ∧ (P (some (kI ((Int.tmod (kand ((25173 * (c 0 4)) + 13849) 65535) 21) - 10))) (kup c 0 4 (kand ((25173 * (c 0 4)) + 13849) 65535)))) : kC2 G S0 kM_X10_drawCoordinate d [kA 0] c P := by
  refine k2_met (by decide) rfl (Nat.le_of_ble_eq_true rfl) (l0 := [some (kA 0)]) rfl ?_
  refine kw_aload_n dX10_drawCoordinate_0 rfl ?_
  refine kw_sipush dX10_drawCoordinate_1 (by decide) ?_
  refine kw_aload_n dX10_drawCoordinate_4 rfl ?_
  refine k2_getI fd_X10_4 dX10_drawCoordinate_5 wf_X10_23 (lsh_0 hL) ?_
  refine kw_eI (b := (c 0 4)) rfl ?_
  refine kw_imul dX10_drawCoordinate_8 ?_
  refine kw_sipush dX10_drawCoordinate_9 (by decide) ?_
  refine kw_iadd dX10_drawCoordinate_12 ?_
  refine kw_ldc dX10_drawCoordinate_13 wk_X10_172 ?_
  refine kw_iand dX10_drawCoordinate_15 ?_
  refine k2_putI fp_X10_4 dX10_drawCoordinate_16 wf_X10_23 (lsh_0 hL) ?_
  refine kw_aload_n dX10_drawCoordinate_19 rfl ?_
  refine k2_getI fd_X10_4 dX10_drawCoordinate_20 wf_X10_23 (lsh_0 hL) ?_
  refine kw_eI (kup_s _ _ _ _) ?_
  refine kw_bipush dX10_drawCoordinate_23 (by decide) ?_
  have o1 := H.1
  have H := H.2
  refine kw_irem dX10_drawCoordinate_25 o1 (k32i (by omega)) (by decide) ?_
  refine kw_bipush dX10_drawCoordinate_26 (by decide) ?_
  refine kw_isub dX10_drawCoordinate_28 ?_
  refine k2_iret dX10_drawCoordinate_29 rfl H
set_option maxRecDepth 4000 in
theorem v_X10_drawInto {G : KG} {S0 : KSh} (hL : kLay S0) {d : Nat} {P : Option AV → KMem → Prop} {c : KMem} {x1 x2 : Int} (hx1 : kLet S0 x1) (r2 : -2147483648 ≤ x2 ∧ x2 < 2147483648) (hp : 0 ≤ x1 ∧ 0 ≤ x2 ∧ x2 ≤ 6) (H : kW2 G S0 kM_X10_drawInto (d + 3) 2 [some (kA 0), some (kA x1), some (kI x2), some (kI 0), none, none] [] c P) : kC2 G S0 kM_X10_drawInto (d + 3) [kA 0, kA x1, kI x2] c P := by
  refine k2_met (by decide) rfl (Nat.le_of_ble_eq_true rfl) (l0 := [some (kA 0), some (kA x1), some (kI x2), none, none, none]) rfl ?_
  refine kw_iconst dX10_drawInto_0 ?_
  refine kw_istore_n dX10_drawInto_1 (Nat.le_of_ble_eq_true rfl) ?_
  exact kw_forget (ls' := [some (kA 0), some (kA x1), some (kI x2), some (kI 0), none, none]) ⟨Or.inr rfl, ⟨Or.inr rfl, ⟨Or.inr rfl, ⟨Or.inr rfl, ⟨Or.inr rfl, ⟨Or.inr rfl, trivial⟩⟩⟩⟩⟩⟩ H
set_option maxRecDepth 4000 in
theorem v_X10_drawInto_2 {G : KG} {S0 : KSh} (hL : kLay S0) {d : Nat} {P : Option AV → KMem → Prop} {c : KMem} {x1 x2 x3 : Int} (hx1 : kLet S0 x1) (r2 : -2147483648 ≤ x2 ∧ x2 < 2147483648) (r3 : 0 ≤ x3 ∧ x3 < 2147483648) (hp : 0 ≤ x1 ∧ 0 ≤ x2 ∧ x2 ≤ 6) (H : (x2 ≤ x3 → (P none c)) ∧ (x3 < x2 → (kC2 G S0 kM_X10_drawCoordinate (d + 2) [kA 0] c (kRI (fun z2 c3 => kC2 G S0 kM_X10_drawCoordinate (d + 2) [kA 0] c3 (kRI (fun z4 c5 => kC2 G S0 kM_X0_place (d + 2) [kI z2, kI z4, kA 557] c5 (kRN (fun c7 => kC2 G S0 kM_X1_put (d + 2) [kA x1, kI x3, kA 557] c7 (kRN (fun c9 => kW2 G S0 kM_X10_drawInto (d + 3) 2 [some (kA 0), some (kA x1), some (kI x2), some (kI (x3 + 1)), none, none] [] c9 P))))))))))) : kW2 G S0 kM_X10_drawInto (d + 3) 2 [some (kA 0), some (kA x1), some (kI x2), some (kI x3), none, none] [] c P := by
  refine kw_iload_n dX10_drawInto_2 rfl ?_
  refine kw_iload_n dX10_drawInto_3 rfl ?_
  refine kw_icmp_ge 45 dX10_drawInto_4 (by decide) (k32i (by omega)) (k32i (by omega)) (fun h1 => ?_) (fun h1 => ?_)
  · have H := H.1 h1
    refine k2_ret dX10_drawInto_45 rfl H
  · have H := H.2 h1
    refine kw_aload_n dX10_drawInto_7 rfl ?_
    refine k2_callV0I (ci := 8) (N := 20) (T := TX10) rfl (lsh_0 hL) m_X10_drawCoordinate dX10_drawInto_8 wl_X10_159 (Nat.le_of_ble_eq_true rfl) (kC2_mono H (fun r c3 H => ?_))
    obtain ⟨z2, rfl, H⟩ := H
    refine ⟨z2, rfl, ?_⟩
    refine kw_istore dX10_drawInto_11 (Nat.le_of_ble_eq_true rfl) ?_
    refine kw_aload_n dX10_drawInto_13 rfl ?_
    refine k2_callV0I (ci := 8) (N := 20) (T := TX10) rfl (lsh_0 hL) m_X10_drawCoordinate dX10_drawInto_14 wl_X10_159 (Nat.le_of_ble_eq_true rfl) (kC2_mono H (fun r c5 H => ?_))
    obtain ⟨z4, rfl, H⟩ := H
    refine ⟨z4, rfl, ?_⟩
    refine kw_istore dX10_drawInto_17 (Nat.le_of_ble_eq_true rfl) ?_
    refine kw_iload dX10_drawInto_19 rfl ?_
    refine kw_iload dX10_drawInto_21 rfl ?_
    refine kw_aload_n dX10_drawInto_23 rfl ?_
    refine k2_getR fd_X10_19 dX10_drawInto_24 wf_X10_98 (lsh_0 hL) (lrf_0_19 hL) ?_
    refine k2_callS3N m_X0_place dX10_drawInto_27 wl_X10_162 (Nat.le_of_ble_eq_true rfl) (kC2_mono H (fun r c7 H => ?_))
    obtain ⟨rfl, H⟩ := H
    refine ⟨rfl, ?_⟩
    refine kw_aload_n dX10_drawInto_30 rfl ?_
    refine kw_iload_n dX10_drawInto_31 rfl ?_
    refine kw_aload_n dX10_drawInto_32 rfl ?_
    refine k2_getR fd_X10_19 dX10_drawInto_33 wf_X10_98 (lsh_0 hL) (lrf_0_19 hL) ?_
    refine k2_callV2N (ci := 0) (N := 2) (T := TX1) rfl hx1.1 m_X1_put dX10_drawInto_36 wl_X10_168 (Nat.le_of_ble_eq_true rfl) (kC2_mono H (fun r c9 H => ?_))
    obtain ⟨rfl, H⟩ := H
    refine ⟨rfl, ?_⟩
    refine kw_iinc dX10_drawInto_39 rfl ?_
    refine kw_goto 2 dX10_drawInto_42 (by decide) ?_
    exact kw_forget (ls' := [some (kA 0), some (kA x1), some (kI x2), some (kI (x3 + 1)), none, none]) ⟨Or.inr rfl, ⟨Or.inr rfl, ⟨Or.inr rfl, ⟨Or.inr rfl, ⟨Or.inl rfl, ⟨Or.inl rfl, trivial⟩⟩⟩⟩⟩⟩ H
set_option maxRecDepth 4000 in
theorem v_X5_size {G : KG} {S0 : KSh} (hL : kLay S0) {d : Nat} {P : Option AV → KMem → Prop} {c : KMem}  (H : P (some (kI (c 48 2))) c) : kC2 G S0 kM_X5_size d [kA 48] c P := by
  refine k2_met (by decide) rfl (Nat.le_of_ble_eq_true rfl) (l0 := [some (kA 48)]) rfl ?_
  refine kw_aload_n dX5_size_0 rfl ?_
  refine k2_getI fd_X5_2 dX5_size_1 wf_X5_19 (lsh_48 hL) ?_
  refine k2_iret dX5_size_4 rfl H
set_option maxRecDepth 4000 in
theorem v_X5_clear {G : KG} {S0 : KSh} (hL : kLay S0) {d : Nat} {P : Option AV → KMem → Prop} {c : KMem}  (H : P none (kup c 48 2 0)) : kC2 G S0 kM_X5_clear d [kA 48] c P := by
  refine k2_met (by decide) rfl (Nat.le_of_ble_eq_true rfl) (l0 := [some (kA 48)]) rfl ?_
  refine kw_aload_n dX5_clear_0 rfl ?_
  refine kw_iconst dX5_clear_1 ?_
  refine k2_putI fp_X5_2 dX5_clear_2 wf_X5_19 (lsh_48 hL) ?_
  refine k2_ret dX5_clear_5 rfl H
set_option maxRecDepth 4000 in
theorem v_X5_remember {G : KG} {S0 : KSh} (hL : kLay S0) {d : Nat} {P : Option AV → KMem → Prop} {c : KMem} {x1 : Int} (hx1 : kLet S0 x1) (hp : 0 ≤ c 48 1 ∧ c 48 1 < 8 ∧ 0 ≤ c 48 2 ∧ c 48 2 ≤ 8) (H : (0 ≤ (c 48 1) ∧ (c 48 1) < 8) ∧ (kC2 G S0 kM_X1_become (d + 2) [kA (50 + 15 * (c 48 1)), kA x1] c (kRN (fun c4 => (k32 ((c4 48 1) + 1)) ∧ ((k32 (c4 48 2)) ∧ ((8 ≤ (c4 48 2) → (P none (kup c4 48 1 (Int.tmod ((c4 48 1) + 1) 8)))) ∧ ((c4 48 2) < 8 → (P none (kup (kup c4 48 1 (Int.tmod ((c4 48 1) + 1) 8)) 48 2 ((c4 48 2) + 1)))))))))) : kC2 G S0 kM_X5_remember (d + 3) [kA 48, kA x1] c P := by
  refine k2_met (by decide) rfl (Nat.le_of_ble_eq_true rfl) (l0 := [some (kA 48), some (kA x1)]) rfl ?_
  refine kw_aload_n dX5_remember_0 rfl ?_
  refine k2_getR fd_X5_0 dX5_remember_1 wf_X5_11 (lsh_48 hL) (lrf_48_0 hL) ?_
  refine kw_aload_n dX5_remember_4 rfl ?_
  refine k2_getI fd_X5_1 dX5_remember_5 wf_X5_15 (lsh_48 hL) ?_
  refine kw_eI (b := (c 48 1)) rfl ?_
  have o1 := H.1
  have H := H.2
  have q2 : 0 ≤ (c 48 1) ∧ (c 48 1) < 8 := o1
  refine k2_aald6 dX5_remember_8 (lsh_49 hL) (by omega) q2 (hL.2.2.2.2 _ q2.1 q2.2).1 (by omega) ?_
  refine kw_aload_n dX5_remember_9 rfl ?_
  refine k2_callV1N (ci := 0) (N := 2) (T := TX1) rfl (hL.2.2.2.2 _ q2.1 q2.2).2.1 m_X1_become dX5_remember_10 wl_X5_23 (Nat.le_of_ble_eq_true rfl) (kC2_mono H (fun r c4 H => ?_))
  obtain ⟨rfl, H⟩ := H
  refine ⟨rfl, ?_⟩
  refine kw_aload_n dX5_remember_13 rfl ?_
  refine kw_aload_n dX5_remember_14 rfl ?_
  refine k2_getI fd_X5_1 dX5_remember_15 wf_X5_15 (lsh_48 hL) ?_
  refine kw_eI (b := (c4 48 1)) rfl ?_
  refine kw_iconst dX5_remember_18 ?_
  refine kw_iadd dX5_remember_19 ?_
  refine kw_bipush dX5_remember_20 (by decide) ?_
  have o5 := H.1
  have H := H.2
  refine kw_irem dX5_remember_22 o5 (k32i (by omega)) (by decide) ?_
  refine k2_putI fp_X5_1 dX5_remember_23 wf_X5_15 (lsh_48 hL) ?_
  refine kw_aload_n dX5_remember_26 rfl ?_
  refine k2_getI fd_X5_2 dX5_remember_27 wf_X5_19 (lsh_48 hL) ?_
  refine kw_eI (kup_n (Or.inr (by omega))) ?_
  refine kw_bipush dX5_remember_30 (by decide) ?_
  have o7 := H.1
  have H := H.2
  refine kw_icmp_ge 45 dX5_remember_32 (by decide) o7 (k32i (by omega)) (fun h6 => ?_) (fun h6 => ?_)
  · have H := H.1 h6
    refine k2_ret dX5_remember_45 rfl H
  · have H := H.2 h6
    refine kw_aload_n dX5_remember_35 rfl ?_
    refine kw_dup dX5_remember_36 rfl ?_
    refine k2_getI fd_X5_2 dX5_remember_37 wf_X5_19 (lsh_48 hL) ?_
    refine kw_eI (kup_n (Or.inr (by omega))) ?_
    refine kw_iconst dX5_remember_40 ?_
    refine kw_iadd dX5_remember_41 ?_
    refine k2_putI fp_X5_2 dX5_remember_42 wf_X5_19 (lsh_48 hL) ?_
    refine k2_ret dX5_remember_45 rfl H
set_option maxRecDepth 4000 in
theorem v_X5_restore {G : KG} {S0 : KSh} (hL : kLay S0) {d : Nat} {P : Option AV → KMem → Prop} {c : KMem} {x1 : Int} (hx1 : kLet S0 x1) (hp : 0 ≤ c 48 1 ∧ c 48 1 < 8 ∧ 0 ≤ c 48 2 ∧ c 48 2 ≤ 8) (H : (k32 (c 48 2)) ∧ (((c 48 2) ≠ 0 → ((k32 (((c 48 1) + 8) - 1)) ∧ ((0 ≤ (Int.tmod (((c 48 1) + 8) - 1) 8) ∧ (Int.tmod (((c 48 1) + 8) - 1) 8) < 8) ∧ (kC2 G S0 kM_X1_become (d + 2) [kA x1, kA (50 + 15 * (Int.tmod (((c 48 1) + 8) - 1) 8))] (kup (kup c 48 1 (Int.tmod (((c 48 1) + 8) - 1) 8)) 48 2 ((c 48 2) - 1)) (kRN (fun c7 => P none c7)))))) ∧ ((c 48 2) = 0 → (P none c)))) : kC2 G S0 kM_X5_restore (d + 3) [kA 48, kA x1] c P := by
  refine k2_met (by decide) rfl (Nat.le_of_ble_eq_true rfl) (l0 := [some (kA 48), some (kA x1)]) rfl ?_
  refine kw_aload_n dX5_restore_0 rfl ?_
  refine k2_getI fd_X5_2 dX5_restore_1 wf_X5_19 (lsh_48 hL) ?_
  refine kw_eI (b := (c 48 2)) rfl ?_
  have o2 := H.1
  have H := H.2
  refine kw_if_ne 8 dX5_restore_4 (by decide) o2 (fun h1 => ?_) (fun h1 => ?_)
  · have H := H.1 h1
    refine kw_aload_n dX5_restore_8 rfl ?_
    refine kw_aload_n dX5_restore_9 rfl ?_
    refine k2_getI fd_X5_1 dX5_restore_10 wf_X5_15 (lsh_48 hL) ?_
    refine kw_eI (b := (c 48 1)) rfl ?_
    refine kw_bipush dX5_restore_13 (by decide) ?_
    refine kw_iadd dX5_restore_15 ?_
    refine kw_iconst dX5_restore_16 ?_
    refine kw_isub dX5_restore_17 ?_
    refine kw_bipush dX5_restore_18 (by decide) ?_
    have o3 := H.1
    have H := H.2
    refine kw_irem dX5_restore_20 o3 (k32i (by omega)) (by decide) ?_
    refine k2_putI fp_X5_1 dX5_restore_21 wf_X5_15 (lsh_48 hL) ?_
    refine kw_aload_n dX5_restore_24 rfl ?_
    refine kw_dup dX5_restore_25 rfl ?_
    refine k2_getI fd_X5_2 dX5_restore_26 wf_X5_19 (lsh_48 hL) ?_
    refine kw_eI (kup_n (Or.inr (by omega))) ?_
    refine kw_iconst dX5_restore_29 ?_
    refine kw_isub dX5_restore_30 ?_
    refine k2_putI fp_X5_2 dX5_restore_31 wf_X5_19 (lsh_48 hL) ?_
    refine kw_aload_n dX5_restore_34 rfl ?_
    refine kw_aload_n dX5_restore_35 rfl ?_
    refine k2_getR fd_X5_0 dX5_restore_36 wf_X5_11 (lsh_48 hL) (lrf_48_0 hL) ?_
    refine kw_aload_n dX5_restore_39 rfl ?_
    refine k2_getI fd_X5_1 dX5_restore_40 wf_X5_15 (lsh_48 hL) ?_
    refine kw_eI ((kup_n (Or.inr (by omega))).trans (kup_s _ _ _ _)) ?_
    have o4 := H.1
    have H := H.2
    have q5 : 0 ≤ (Int.tmod (((c 48 1) + 8) - 1) 8) ∧ (Int.tmod (((c 48 1) + 8) - 1) 8) < 8 := o4
    refine k2_aald6 dX5_restore_43 (lsh_49 hL) (by omega) q5 (hL.2.2.2.2 _ q5.1 q5.2).1 (by omega) ?_
    refine k2_callV1N (ci := 0) (N := 2) (T := TX1) rfl hx1.1 m_X1_become dX5_restore_44 wl_X5_23 (Nat.le_of_ble_eq_true rfl) (kC2_mono H (fun r c7 H => ?_))
    obtain ⟨rfl, H⟩ := H
    refine ⟨rfl, ?_⟩
    refine k2_ret dX5_restore_47 rfl H
  · have H := H.2 h1
    refine k2_ret dX5_restore_7 rfl H
set_option maxRecDepth 4000 in
theorem v_X10_drop {G : KG} {S0 : KSh} (hL : kLay S0) {d : Nat} {P : Option AV → KMem → Prop} {c : KMem} {x1 : Int} (r1 : -2147483648 ≤ x1 ∧ x1 < 2147483648) (H : (kStT c 3) ∧ (((kHs c 3 x1) → (kC2 G S0 kM_X5_remember (d + 3) [kA 48, kA 3] c (kRN (fun c5 => kC2 G S0 kM_X1_forget (d + 3) [kA 3, kI x1] c5 (kRN (fun c7 => P (some (kI 1)) c7)))))) ∧ (¬ (kHs c 3 x1) → (P (some (kI 0)) c)))) : kC2 G S0 kM_X10_drop (d + 4) [kA 0, kI x1] c P := by
  refine k2_met (by decide) rfl (Nat.le_of_ble_eq_true rfl) (l0 := [some (kA 0), some (kI x1)]) rfl ?_
  refine kw_aload_n dX10_drop_0 rfl ?_
  refine k2_getR fd_X10_5 dX10_drop_1 wf_X10_29 (lsh_0 hL) (lrf_0_5 hL) ?_
  refine kw_iload_n dX10_drop_4 rfl ?_
  have o1 := H.1
  have H := H.2
  refine k2_callV1I (ci := 0) (N := 2) (T := TX1) rfl (llt_3 hL).1 m_X1_has dX10_drop_5 wl_X10_138 (Nat.le_of_ble_eq_true rfl) (s_X1_has hL (llt_3 hL) o1 (k32i (by omega)) (fun h2 => ⟨_, rfl, ?_⟩) (fun h2 => ⟨_, rfl, ?_⟩))
  · have H := H.1 h2
    refine kw_if_ne 13 dX10_drop_8 (by decide) (k32i (by omega)) (fun _ => ?_) (fun h3 => absurd h3 (by decide))
    refine kw_aload_n dX10_drop_13 rfl ?_
    refine k2_getR fd_X10_10 dX10_drop_14 wf_X10_49 (lsh_0 hL) (lrf_0_10 hL) ?_
    refine kw_aload_n dX10_drop_17 rfl ?_
    refine k2_getR fd_X10_5 dX10_drop_18 wf_X10_29 (lsh_0 hL) (lrf_0_5 hL) ?_
    refine k2_callV1N (ci := 4) (N := 3) (T := TX5) rfl (lsh_48 hL) m_X5_remember dX10_drop_21 wl_X10_113 (Nat.le_of_ble_eq_true rfl) (kC2_mono H (fun r c5 H => ?_))
    obtain ⟨rfl, H⟩ := H
    refine ⟨rfl, ?_⟩
    refine kw_aload_n dX10_drop_24 rfl ?_
    refine k2_getR fd_X10_5 dX10_drop_25 wf_X10_29 (lsh_0 hL) (lrf_0_5 hL) ?_
    refine kw_iload_n dX10_drop_28 rfl ?_
    refine k2_callV1N (ci := 0) (N := 2) (T := TX1) rfl (llt_3 hL).1 m_X1_forget dX10_drop_29 wl_X10_152 (Nat.le_of_ble_eq_true rfl) (kC2_mono H (fun r c7 H => ?_))
    obtain ⟨rfl, H⟩ := H
    refine ⟨rfl, ?_⟩
    refine kw_iconst dX10_drop_32 ?_
    refine k2_zret dX10_drop_33 rfl (Or.inr rfl) H
  · have H := H.2 h2
    refine kw_if_ne 13 dX10_drop_8 (by decide) (k32i (by omega)) (fun h8 => absurd h8 (by decide)) (fun _ => ?_)
    refine kw_iconst dX10_drop_11 ?_
    refine k2_zret dX10_drop_12 rfl (Or.inl rfl) H
set_option maxRecDepth 4000 in
theorem v_X10_draws {G : KG} {S0 : KSh} (hL : kLay S0) {d : Nat} {P : Option AV → KMem → Prop} {c : KMem} {x1 : Int} (r1 : -2147483648 ≤ x1 ∧ x1 < 2147483648) (H : (x1 < 1 → (P (some (kI (-1))) c)) ∧ (1 ≤ x1 → ((x1 ≤ 6 → (kC2 G S0 kM_X5_remember (d + 3) [kA 48, kA 3] c (kRN (fun c4 => kC2 G S0 kM_X10_drawInto (d + 3) [kA 0, kA 3, kI x1] c4 (kRN (fun c6 => kC2 G S0 kM_X1_size (d + 3) [kA 3] c6 (kRI (fun z7 c8 => P (some (kI z7)) c8)))))))) ∧ (6 < x1 → (P (some (kI (-1))) c))))) : kC2 G S0 kM_X10_draws (d + 4) [kA 0, kI x1] c P := by
  refine k2_met (by decide) rfl (Nat.le_of_ble_eq_true rfl) (l0 := [some (kA 0), some (kI x1)]) rfl ?_
  refine kw_iload_n dX10_draws_0 rfl ?_
  refine kw_iconst dX10_draws_1 ?_
  refine kw_icmp_lt 11 dX10_draws_2 (by decide) (k32i (by omega)) (k32i (by omega)) (fun h1 => ?_) (fun h1 => ?_)
  · have H := H.1 h1
    refine kw_iconst dX10_draws_11 ?_
    refine k2_iret dX10_draws_12 rfl H
  · have H := H.2 h1
    refine kw_iload_n dX10_draws_5 rfl ?_
    refine kw_bipush dX10_draws_6 (by decide) ?_
    refine kw_icmp_le 13 dX10_draws_8 (by decide) (k32i (by omega)) (k32i (by omega)) (fun h2 => ?_) (fun h2 => ?_)
    · have H := H.1 h2
      refine kw_aload_n dX10_draws_13 rfl ?_
      refine k2_getR fd_X10_10 dX10_draws_14 wf_X10_49 (lsh_0 hL) (lrf_0_10 hL) ?_
      refine kw_aload_n dX10_draws_17 rfl ?_
      refine k2_getR fd_X10_5 dX10_draws_18 wf_X10_29 (lsh_0 hL) (lrf_0_5 hL) ?_
      refine k2_callV1N (ci := 4) (N := 3) (T := TX5) rfl (lsh_48 hL) m_X5_remember dX10_draws_21 wl_X10_113 (Nat.le_of_ble_eq_true rfl) (kC2_mono H (fun r c4 H => ?_))
      obtain ⟨rfl, H⟩ := H
      refine ⟨rfl, ?_⟩
      refine kw_aload_n dX10_draws_24 rfl ?_
      refine kw_aload_n dX10_draws_25 rfl ?_
      refine k2_getR fd_X10_5 dX10_draws_26 wf_X10_29 (lsh_0 hL) (lrf_0_5 hL) ?_
      refine kw_iload_n dX10_draws_29 rfl ?_
      refine k2_callV2N (ci := 8) (N := 20) (T := TX10) rfl (lsh_0 hL) m_X10_drawInto dX10_draws_30 wl_X10_134 (Nat.le_of_ble_eq_true rfl) (kC2_mono H (fun r c6 H => ?_))
      obtain ⟨rfl, H⟩ := H
      refine ⟨rfl, ?_⟩
      refine kw_aload_n dX10_draws_33 rfl ?_
      refine k2_getR fd_X10_5 dX10_draws_34 wf_X10_29 (lsh_0 hL) (lrf_0_5 hL) ?_
      refine k2_callV0I (ci := 0) (N := 2) (T := TX1) rfl (llt_3 hL).1 m_X1_size dX10_draws_37 wl_X10_155 (Nat.le_of_ble_eq_true rfl) (kC2_mono H (fun r c8 H => ?_))
      obtain ⟨z7, rfl, H⟩ := H
      refine ⟨z7, rfl, ?_⟩
      refine k2_iret dX10_draws_40 rfl H
    · have H := H.2 h2
      refine kw_iconst dX10_draws_11 ?_
      refine k2_iret dX10_draws_12 rfl H
set_option maxRecDepth 4000 in
theorem v_X10_back {G : KG} {S0 : KSh} (hL : kLay S0) {d : Nat} {P : Option AV → KMem → Prop} {c : KMem}  (hp : 0 ≤ c 48 1 ∧ c 48 1 < 8 ∧ 0 ≤ c 48 2 ∧ c 48 2 ≤ 8) (H : kC2 G S0 kM_X5_size (d + 3) [kA 48] c (kRI (fun z1 c2 => (k32 z1) ∧ ((z1 ≠ 0 → (kC2 G S0 kM_X5_restore (d + 3) [kA 48, kA 3] c2 (kRN (fun c6 => kC2 G S0 kM_X5_size (d + 3) [kA 48] c6 (kRI (fun z7 c8 => P (some (kI z7)) c8)))))) ∧ (z1 = 0 → (P (some (kI (-1))) c2)))))) : kC2 G S0 kM_X10_back (d + 4) [kA 0] c P := by
  refine k2_met (by decide) rfl (Nat.le_of_ble_eq_true rfl) (l0 := [some (kA 0)]) rfl ?_
  refine kw_aload_n dX10_back_0 rfl ?_
  refine k2_getR fd_X10_10 dX10_back_1 wf_X10_49 (lsh_0 hL) (lrf_0_10 hL) ?_
  refine k2_callV0I (ci := 4) (N := 3) (T := TX5) rfl (lsh_48 hL) m_X5_size dX10_back_4 wl_X10_173 (Nat.le_of_ble_eq_true rfl) (kC2_mono H (fun r c2 H => ?_))
  obtain ⟨z1, rfl, H⟩ := H
  refine ⟨z1, rfl, ?_⟩
  have o4 := H.1
  have H := H.2
  refine kw_if_ne 12 dX10_back_7 (by decide) o4 (fun h3 => ?_) (fun h3 => ?_)
  · have H := H.1 h3
    refine kw_aload_n dX10_back_12 rfl ?_
    refine k2_getR fd_X10_10 dX10_back_13 wf_X10_49 (lsh_0 hL) (lrf_0_10 hL) ?_
    refine kw_aload_n dX10_back_16 rfl ?_
    refine k2_getR fd_X10_5 dX10_back_17 wf_X10_29 (lsh_0 hL) (lrf_0_5 hL) ?_
    refine k2_callV1N (ci := 4) (N := 3) (T := TX5) rfl (lsh_48 hL) m_X5_restore dX10_back_20 wl_X10_174 (Nat.le_of_ble_eq_true rfl) (kC2_mono H (fun r c6 H => ?_))
    obtain ⟨rfl, H⟩ := H
    refine ⟨rfl, ?_⟩
    refine kw_aload_n dX10_back_23 rfl ?_
    refine k2_getR fd_X10_10 dX10_back_24 wf_X10_49 (lsh_0 hL) (lrf_0_10 hL) ?_
    refine k2_callV0I (ci := 4) (N := 3) (T := TX5) rfl (lsh_48 hL) m_X5_size dX10_back_27 wl_X10_173 (Nat.le_of_ble_eq_true rfl) (kC2_mono H (fun r c8 H => ?_))
    obtain ⟨z7, rfl, H⟩ := H
    refine ⟨z7, rfl, ?_⟩
    refine k2_iret dX10_back_30 rfl H
  · have H := H.2 h3
    refine kw_iconst dX10_back_10 ?_
    refine k2_iret dX10_back_11 rfl H
set_option maxRecDepth 4000 in
theorem v_X10_keep {G : KG} {S0 : KSh} (hL : kLay S0) {d : Nat} {P : Option AV → KMem → Prop} {c : KMem}  (H : kC2 G S0 kM_X1_become (d + 2) [kA 18, kA 3] c (kRN (fun c2 => kC2 G S0 kM_X1_size (d + 2) [kA 3] (kup (kup c2 0 8 (c2 0 4)) 0 7 1) (kRI (fun z3 c4 => P (some (kI z3)) c4))))) : kC2 G S0 kM_X10_keep (d + 3) [kA 0] c P := by
  refine k2_met (by decide) rfl (Nat.le_of_ble_eq_true rfl) (l0 := [some (kA 0)]) rfl ?_
  refine kw_aload_n dX10_keep_0 rfl ?_
  refine k2_getR fd_X10_6 dX10_keep_1 wf_X10_33 (lsh_0 hL) (lrf_0_6 hL) ?_
  refine kw_aload_n dX10_keep_4 rfl ?_
  refine k2_getR fd_X10_5 dX10_keep_5 wf_X10_29 (lsh_0 hL) (lrf_0_5 hL) ?_
  refine k2_callV1N (ci := 0) (N := 2) (T := TX1) rfl (llt_18 hL).1 m_X1_become dX10_keep_8 wl_X10_121 (Nat.le_of_ble_eq_true rfl) (kC2_mono H (fun r c2 H => ?_))
  obtain ⟨rfl, H⟩ := H
  refine ⟨rfl, ?_⟩
  refine kw_aload_n dX10_keep_11 rfl ?_
  refine kw_aload_n dX10_keep_12 rfl ?_
  refine k2_getI fd_X10_4 dX10_keep_13 wf_X10_23 (lsh_0 hL) ?_
  refine k2_putI fp_X10_8 dX10_keep_16 wf_X10_40 (lsh_0 hL) ?_
  refine kw_aload_n dX10_keep_19 rfl ?_
  refine kw_iconst dX10_keep_20 ?_
  refine k2_putZ fp_X10_7 dX10_keep_21 wf_X10_36 (lsh_0 hL) (Or.inr rfl) ?_
  refine kw_aload_n dX10_keep_24 rfl ?_
  refine k2_getR fd_X10_5 dX10_keep_25 wf_X10_29 (lsh_0 hL) (lrf_0_5 hL) ?_
  refine k2_callV0I (ci := 0) (N := 2) (T := TX1) rfl (llt_3 hL).1 m_X1_size dX10_keep_28 wl_X10_155 (Nat.le_of_ble_eq_true rfl) (kC2_mono H (fun r c4 H => ?_))
  obtain ⟨z3, rfl, H⟩ := H
  refine ⟨z3, rfl, ?_⟩
  refine k2_iret dX10_keep_31 rfl H
set_option maxRecDepth 4000 in
theorem v_X10_undo {G : KG} {S0 : KSh} (hL : kLay S0) {d : Nat} {P : Option AV → KMem → Prop} {c : KMem}  (hp : 0 ≤ c 0 7 ∧ c 0 7 ≤ 1) (H : ((c 0 7) ≠ 0 → (kC2 G S0 kM_X1_become (d + 2) [kA 3, kA 18] c (kRN (fun c3 => kC2 G S0 kM_X5_clear (d + 2) [kA 48] (kup c3 0 4 (c3 0 8)) (kRN (fun c5 => P (some (kI 1)) c5)))))) ∧ ((c 0 7) = 0 → (P (some (kI 0)) c))) : kC2 G S0 kM_X10_undo (d + 3) [kA 0] c P := by
  refine k2_met (by decide) rfl (Nat.le_of_ble_eq_true rfl) (l0 := [some (kA 0)]) rfl ?_
  refine kw_aload_n dX10_undo_0 rfl ?_
  refine k2_getI fd_X10_7 dX10_undo_1 wf_X10_36 (lsh_0 hL) ?_
  refine kw_eI (b := (c 0 7)) rfl ?_
  refine kw_if_ne 9 dX10_undo_4 (by decide) (k32i (by omega)) (fun h1 => ?_) (fun h1 => ?_)
  · have H := H.1 h1
    refine kw_aload_n dX10_undo_9 rfl ?_
    refine k2_getR fd_X10_5 dX10_undo_10 wf_X10_29 (lsh_0 hL) (lrf_0_5 hL) ?_
    refine kw_aload_n dX10_undo_13 rfl ?_
    refine k2_getR fd_X10_6 dX10_undo_14 wf_X10_33 (lsh_0 hL) (lrf_0_6 hL) ?_
    refine k2_callV1N (ci := 0) (N := 2) (T := TX1) rfl (llt_3 hL).1 m_X1_become dX10_undo_17 wl_X10_121 (Nat.le_of_ble_eq_true rfl) (kC2_mono H (fun r c3 H => ?_))
    obtain ⟨rfl, H⟩ := H
    refine ⟨rfl, ?_⟩
    refine kw_aload_n dX10_undo_20 rfl ?_
    refine kw_aload_n dX10_undo_21 rfl ?_
    refine k2_getI fd_X10_8 dX10_undo_22 wf_X10_40 (lsh_0 hL) ?_
    refine kw_eI (b := (c3 0 8)) rfl ?_
    refine k2_putI fp_X10_4 dX10_undo_25 wf_X10_23 (lsh_0 hL) ?_
    refine kw_aload_n dX10_undo_28 rfl ?_
    refine k2_getR fd_X10_10 dX10_undo_29 wf_X10_49 (lsh_0 hL) (lrf_0_10 hL) ?_
    refine k2_callV0N (ci := 4) (N := 3) (T := TX5) rfl (lsh_48 hL) m_X5_clear dX10_undo_32 wl_X10_177 (Nat.le_of_ble_eq_true rfl) (kC2_mono H (fun r c5 H => ?_))
    obtain ⟨rfl, H⟩ := H
    refine ⟨rfl, ?_⟩
    refine kw_iconst dX10_undo_35 ?_
    refine k2_zret dX10_undo_36 rfl (Or.inr rfl) H
  · have H := H.2 h1
    refine kw_iconst dX10_undo_7 ?_
    refine k2_zret dX10_undo_8 rfl (Or.inl rfl) H
set_option maxRecDepth 4000 in
theorem v_X10_check {G : KG} {S0 : KSh} (hL : kLay S0) {d : Nat} {P : Option AV → KMem → Prop} {c : KMem} {x1 : Int} (r1 : -2147483648 ≤ x1 ∧ x1 < 2147483648) (hp : 0 ≤ c 0 1 ∧ c 0 1 ≤ 140) (H : (x1 < 0 → (P (some (kI (-2))) c)) ∧ (0 ≤ x1 → ((12 < x1 → (P (some (kI (-2))) c)) ∧ (x1 ≤ 12 → ((x1 ≤ (c 0 1) → (kW2 G S0 kM_X10_check (d + 6) 28 [some (kA 0), some (kI x1), some (kI 0), none] [] (kup c 0 1 0) P)) ∧ ((c 0 1) < x1 → (P (some (kI (-2))) c))))))) : kC2 G S0 kM_X10_check (d + 6) [kA 0, kI x1] c P := by
  refine k2_met (by decide) rfl (Nat.le_of_ble_eq_true rfl) (l0 := [some (kA 0), some (kI x1), none, none]) rfl ?_
  refine kw_iload_n dX10_check_0 rfl ?_
  refine kw_if_lt 18 dX10_check_1 (by decide) (k32i (by omega)) (fun h1 => ?_) (fun h1 => ?_)
  · have H := H.1 h1
    refine kw_bipush dX10_check_18 (by decide) ?_
    refine k2_iret dX10_check_20 rfl H
  · have H := H.2 h1
    refine kw_iload_n dX10_check_4 rfl ?_
    refine kw_bipush dX10_check_5 (by decide) ?_
    refine kw_icmp_gt 18 dX10_check_7 (by decide) (k32i (by omega)) (k32i (by omega)) (fun h2 => ?_) (fun h2 => ?_)
    · have H := H.1 h2
      refine kw_bipush dX10_check_18 (by decide) ?_
      refine k2_iret dX10_check_20 rfl H
    · have H := H.2 h2
      refine kw_iload_n dX10_check_10 rfl ?_
      refine kw_aload_n dX10_check_11 rfl ?_
      refine k2_getI fd_X10_1 dX10_check_12 wf_X10_13 (lsh_0 hL) ?_
      refine kw_eI (b := (c 0 1)) rfl ?_
      refine kw_icmp_le 21 dX10_check_15 (by decide) (k32i (by omega)) (k32i (by omega)) (fun h3 => ?_) (fun h3 => ?_)
      · have H := H.1 h3
        refine kw_aload_n dX10_check_21 rfl ?_
        refine kw_iconst dX10_check_22 ?_
        refine k2_putI fp_X10_1 dX10_check_23 wf_X10_13 (lsh_0 hL) ?_
        refine kw_iconst dX10_check_26 ?_
        refine kw_istore_n dX10_check_27 (Nat.le_of_ble_eq_true rfl) ?_
        exact kw_forget (ls' := [some (kA 0), some (kI x1), some (kI 0), none]) ⟨Or.inr rfl, ⟨Or.inr rfl, ⟨Or.inr rfl, ⟨Or.inr rfl, trivial⟩⟩⟩⟩ H
      · have H := H.2 h3
        refine kw_bipush dX10_check_18 (by decide) ?_
        refine k2_iret dX10_check_20 rfl H
set_option maxRecDepth 4000 in
theorem v_X10_check_28 {G : KG} {S0 : KSh} (hL : kLay S0) {d : Nat} {P : Option AV → KMem → Prop} {c : KMem} {x1 x2 : Int} (r1 : -2147483648 ≤ x1 ∧ x1 < 2147483648) (r2 : 0 ≤ x2 ∧ x2 < 2147483648) (hp : 0 ≤ x1 ∧ x1 ≤ 12) (H : (x1 ≤ x2 → (P (some (kI (-1))) c)) ∧ (x2 < x1 → ((kStT c 3) ∧ (((kHs c 3 x2) → (kC2 G S0 kM_X10_kindAt (d + 5) [kA 0, kI x2] c (kRI (fun z8 c9 => (k32 (c9 1 x2)) ∧ ((k32 z8) ∧ (((c9 1 x2) = z8 → (kW2 G S0 kM_X10_check (d + 6) 28 [some (kA 0), some (kI x1), some (kI (x2 + 1)), none] [] c9 P)) ∧ ((c9 1 x2) ≠ z8 → (P (some (kI x2)) c9)))))))) ∧ (¬ (kHs c 3 x2) → ((k32 (c 1 x2)) ∧ (((c 1 x2) = 255 → (kW2 G S0 kM_X10_check (d + 6) 28 [some (kA 0), some (kI x1), some (kI (x2 + 1)), none] [] c P)) ∧ ((c 1 x2) ≠ 255 → (P (some (kI x2)) c))))))))) : kW2 G S0 kM_X10_check (d + 6) 28 [some (kA 0), some (kI x1), some (kI x2), none] [] c P := by
  refine kw_iload_n dX10_check_28 rfl ?_
  refine kw_iload_n dX10_check_29 rfl ?_
  refine kw_icmp_ge 74 dX10_check_30 (by decide) (k32i (by omega)) (k32i (by omega)) (fun h4 => ?_) (fun h4 => ?_)
  · have H := H.1 h4
    refine kw_iconst dX10_check_74 ?_
    refine k2_iret dX10_check_75 rfl H
  · have H := H.2 h4
    refine kw_aload_n dX10_check_33 rfl ?_
    refine k2_getR fd_X10_5 dX10_check_34 wf_X10_29 (lsh_0 hL) (lrf_0_5 hL) ?_
    refine kw_iload_n dX10_check_37 rfl ?_
    have o5 := H.1
    have H := H.2
    refine k2_callV1I (ci := 0) (N := 2) (T := TX1) rfl (llt_3 hL).1 m_X1_has dX10_check_38 wl_X10_138 (Nat.le_of_ble_eq_true rfl) (s_X1_has hL (llt_3 hL) o5 (k32i (by omega)) (fun h6 => ⟨_, rfl, ?_⟩) (fun h6 => ⟨_, rfl, ?_⟩))
    · have H := H.1 h6
      refine kw_if_eq 52 dX10_check_41 (by decide) (k32i (by omega)) (fun h7 => absurd h7 (by decide)) (fun _ => ?_)
      refine kw_aload_n dX10_check_44 rfl ?_
      refine kw_iload_n dX10_check_45 rfl ?_
      refine k2_callV1I (ci := 8) (N := 20) (T := TX10) rfl (lsh_0 hL) m_X10_kindAt dX10_check_46 wl_X10_180 (Nat.le_of_ble_eq_true rfl) (kC2_mono H (fun r c9 H => ?_))
      obtain ⟨z8, rfl, H⟩ := H
      refine ⟨z8, rfl, ?_⟩
      refine kw_goto 55 dX10_check_49 (by decide) ?_
      refine kw_istore_n dX10_check_55 (Nat.le_of_ble_eq_true rfl) ?_
      refine kw_aload_n dX10_check_56 rfl ?_
      refine k2_getR fd_X10_0 dX10_check_57 wf_X10_9 (lsh_0 hL) (lrf_0_0 hL) ?_
      refine kw_iload_n dX10_check_60 rfl ?_
      refine k2_iald dX10_check_61 (lsh_1 hL) (by omega) (by omega) ?_
      refine kw_iload_n dX10_check_62 rfl ?_
      have o11 := H.1
      have H := H.2
      have o12 := H.1
      have H := H.2
      refine kw_icmp_eq 68 dX10_check_63 (by decide) o11 o12 (fun h10 => ?_) (fun h10 => ?_)
      · have H := H.1 h10
        refine kw_iinc dX10_check_68 rfl ?_
        refine kw_goto 28 dX10_check_71 (by decide) ?_
        exact kw_forget (ls' := [some (kA 0), some (kI x1), some (kI (x2 + 1)), none]) ⟨Or.inr rfl, ⟨Or.inr rfl, ⟨Or.inr rfl, ⟨Or.inl rfl, trivial⟩⟩⟩⟩ H
      · have H := H.2 h10
        refine kw_iload_n dX10_check_66 rfl ?_
        refine k2_iret dX10_check_67 rfl H
    · have H := H.2 h6
      refine kw_if_eq 52 dX10_check_41 (by decide) (k32i (by omega)) (fun _ => ?_) (fun h13 => absurd h13 (by decide))
      refine kw_sipush dX10_check_52 (by decide) ?_
      refine kw_istore_n dX10_check_55 (Nat.le_of_ble_eq_true rfl) ?_
      refine kw_aload_n dX10_check_56 rfl ?_
      refine k2_getR fd_X10_0 dX10_check_57 wf_X10_9 (lsh_0 hL) (lrf_0_0 hL) ?_
      refine kw_iload_n dX10_check_60 rfl ?_
      refine k2_iald dX10_check_61 (lsh_1 hL) (by omega) (by omega) ?_
      refine kw_iload_n dX10_check_62 rfl ?_
      have o15 := H.1
      have H := H.2
      refine kw_icmp_eq 68 dX10_check_63 (by decide) o15 (k32i (by omega)) (fun h14 => ?_) (fun h14 => ?_)
      · have H := H.1 h14
        refine kw_iinc dX10_check_68 rfl ?_
        refine kw_goto 28 dX10_check_71 (by decide) ?_
        exact kw_forget (ls' := [some (kA 0), some (kI x1), some (kI (x2 + 1)), none]) ⟨Or.inr rfl, ⟨Or.inr rfl, ⟨Or.inr rfl, ⟨Or.inl rfl, trivial⟩⟩⟩⟩ H
      · have H := H.2 h14
        refine kw_iload_n dX10_check_66 rfl ?_
        refine k2_iret dX10_check_67 rfl H
set_option maxRecDepth 4000 in
theorem v_X10_count {G : KG} {S0 : KSh} (hL : kLay S0) {d : Nat} {P : Option AV → KMem → Prop} {c : KMem} {x1 : Int} (r1 : -2147483648 ≤ x1 ∧ x1 < 2147483648) (H : (x1 ≠ 0 → ((x1 ≠ 1 → ((x1 ≠ 2 → ((x1 ≠ 3 → (P (some (kI (-1))) c)) ∧ (x1 = 3 → (P (some (kI (c 0 4))) c)))) ∧ (x1 = 2 → (P (some (kI (c 0 1))) c)))) ∧ (x1 = 1 → (kC2 G S0 kM_X5_size d [kA 48] c (kRI (fun z5 c6 => P (some (kI z5)) c6)))))) ∧ (x1 = 0 → (kC2 G S0 kM_X1_size d [kA 3] c (kRI (fun z7 c8 => P (some (kI z7)) c8))))) : kC2 G S0 kM_X10_count (d + 1) [kA 0, kI x1] c P := by
  refine k2_met (by decide) rfl (Nat.le_of_ble_eq_true rfl) (l0 := [some (kA 0), some (kI x1)]) rfl ?_
  refine kw_iload_n dX10_count_0 rfl ?_
  refine kw_if_ne 12 dX10_count_1 (by decide) (k32i (by omega)) (fun h1 => ?_) (fun h1 => ?_)
  · have H := H.1 h1
    refine kw_iload_n dX10_count_12 rfl ?_
    refine kw_iconst dX10_count_13 ?_
    refine kw_icmp_ne 25 dX10_count_14 (by decide) (k32i (by omega)) (k32i (by omega)) (fun h2 => ?_) (fun h2 => ?_)
    · have H := H.1 h2
      refine kw_iload_n dX10_count_25 rfl ?_
      refine kw_iconst dX10_count_26 ?_
      refine kw_icmp_ne 35 dX10_count_27 (by decide) (k32i (by omega)) (k32i (by omega)) (fun h3 => ?_) (fun h3 => ?_)
      · have H := H.1 h3
        refine kw_iload_n dX10_count_35 rfl ?_
        refine kw_iconst dX10_count_36 ?_
        refine kw_icmp_ne 45 dX10_count_37 (by decide) (k32i (by omega)) (k32i (by omega)) (fun h4 => ?_) (fun h4 => ?_)
        · have H := H.1 h4
          refine kw_iconst dX10_count_45 ?_
          refine k2_iret dX10_count_46 rfl H
        · have H := H.2 h4
          refine kw_aload_n dX10_count_40 rfl ?_
          refine k2_getI fd_X10_4 dX10_count_41 wf_X10_23 (lsh_0 hL) ?_
          refine k2_iret dX10_count_44 rfl H
      · have H := H.2 h3
        refine kw_aload_n dX10_count_30 rfl ?_
        refine k2_getI fd_X10_1 dX10_count_31 wf_X10_13 (lsh_0 hL) ?_
        refine k2_iret dX10_count_34 rfl H
    · have H := H.2 h2
      refine kw_aload_n dX10_count_17 rfl ?_
      refine k2_getR fd_X10_10 dX10_count_18 wf_X10_49 (lsh_0 hL) (lrf_0_10 hL) ?_
      refine k2_callV0I (ci := 4) (N := 3) (T := TX5) rfl (lsh_48 hL) m_X5_size dX10_count_21 wl_X10_173 (Nat.le_of_ble_eq_true rfl) (kC2_mono H (fun r c6 H => ?_))
      obtain ⟨z5, rfl, H⟩ := H
      refine ⟨z5, rfl, ?_⟩
      refine k2_iret dX10_count_24 rfl H
  · have H := H.2 h1
    refine kw_aload_n dX10_count_4 rfl ?_
    refine k2_getR fd_X10_5 dX10_count_5 wf_X10_29 (lsh_0 hL) (lrf_0_5 hL) ?_
    refine k2_callV0I (ci := 0) (N := 2) (T := TX1) rfl (llt_3 hL).1 m_X1_size dX10_count_8 wl_X10_155 (Nat.le_of_ble_eq_true rfl) (kC2_mono H (fun r c8 H => ?_))
    obtain ⟨z7, rfl, H⟩ := H
    refine ⟨z7, rfl, ?_⟩
    refine k2_iret dX10_count_11 rfl H
