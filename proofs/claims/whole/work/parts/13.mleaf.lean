set_option maxRecDepth 4000 in
theorem v_X11_in {G : KG} {S0 : KSh} (hL : kLay S0) {d : Nat} {P : Option AV → KMem → Prop} {c : KMem} {x0 x1 x2 : Int} (r0 : -2147483648 ≤ x0 ∧ x0 < 2147483648) (r1 : -2147483648 ≤ x1 ∧ x1 < 2147483648) (r2 : -2147483648 ≤ x2 ∧ x2 < 2147483648) (H : (x0 < x1 → (P (some (kI 0)) c)) ∧ (x1 ≤ x0 → ((x2 < x0 → (P (some (kI 0)) c)) ∧ (x0 ≤ x2 → (P (some (kI 1)) c))))) : kC2 G S0 kM_X11_in d [kI x0, kI x1, kI x2] c P := by
  refine k2_met (by decide) rfl (Nat.le_of_ble_eq_true rfl) (l0 := [some (kI x0), some (kI x1), some (kI x2)]) rfl ?_
  refine kw_iload_n dX11_in_0 rfl ?_
  refine kw_iload_n dX11_in_1 rfl ?_
  refine kw_icmp_lt 14 dX11_in_2 (by decide) (k32i (by omega)) (k32i (by omega)) (fun h1 => ?_) (fun h1 => ?_)
  · have H := H.1 h1
    refine kw_iconst dX11_in_14 ?_
    refine k2_zret dX11_in_15 rfl (Or.inl rfl) H
  · have H := H.2 h1
    refine kw_iload_n dX11_in_5 rfl ?_
    refine kw_iload_n dX11_in_6 rfl ?_
    refine kw_icmp_gt 14 dX11_in_7 (by decide) (k32i (by omega)) (k32i (by omega)) (fun h2 => ?_) (fun h2 => ?_)
    · have H := H.1 h2
      refine kw_iconst dX11_in_14 ?_
      refine k2_zret dX11_in_15 rfl (Or.inl rfl) H
    · have H := H.2 h2
      refine kw_iconst dX11_in_10 ?_
      refine kw_goto 15 dX11_in_11 (by decide) ?_
      refine k2_zret dX11_in_15 rfl (Or.inr rfl) H
set_option maxRecDepth 4000 in
theorem v_X11_has {G : KG} {S0 : KSh} (hL : kLay S0) {d : Nat} {P : Option AV → KMem → Prop} {c : KMem} {x0 x1 : Int} (r0 : -2147483648 ≤ x0 ∧ x0 < 2147483648) (r1 : -2147483648 ≤ x1 ∧ x1 < 2147483648) (H : ((kand (kshr x0 x1) 1) ≠ 1 → (P (some (kI 0)) c)) ∧ ((kand (kshr x0 x1) 1) = 1 → (P (some (kI 1)) c))) : kC2 G S0 kM_X11_has d [kI x0, kI x1] c P := by
  refine k2_met (by decide) rfl (Nat.le_of_ble_eq_true rfl) (l0 := [some (kI x0), some (kI x1)]) rfl ?_
  refine kw_iload_n dX11_has_0 rfl ?_
  refine kw_iload_n dX11_has_1 rfl ?_
  refine kw_ishr dX11_has_2 ?_
  refine kw_iconst dX11_has_3 ?_
  refine kw_iand dX11_has_4 ?_
  refine kw_iconst dX11_has_5 ?_
  refine kw_icmp_ne 13 dX11_has_6 (by decide) (k32_kand _ _) (k32i (by omega)) (fun h1 => ?_) (fun h1 => ?_)
  · have H := H.1 h1
    refine kw_iconst dX11_has_13 ?_
    refine k2_zret dX11_has_14 rfl (Or.inl rfl) H
  · have H := H.2 h1
    refine kw_iconst dX11_has_9 ?_
    refine kw_goto 14 dX11_has_10 (by decide) ?_
    refine k2_zret dX11_has_14 rfl (Or.inr rfl) H
set_option maxRecDepth 4000 in
theorem v_X11_sizeOf {G : KG} {S0 : KSh} (hL : kLay S0) {d : Nat} {P : Option AV → KMem → Prop} {c : KMem} {x0 : Int} (r0 : -2147483648 ≤ x0 ∧ x0 < 2147483648) (H : kW2 G S0 kM_X11_sizeOf d 4 [none, some (kI 0), some (kI x0)] [] c P) : kC2 G S0 kM_X11_sizeOf d [kI x0] c P := by
  refine k2_met (by decide) rfl (Nat.le_of_ble_eq_true rfl) (l0 := [some (kI x0), none, none]) rfl ?_
  refine kw_iconst dX11_sizeOf_0 ?_
  refine kw_istore_n dX11_sizeOf_1 (Nat.le_of_ble_eq_true rfl) ?_
  refine kw_iload_n dX11_sizeOf_2 rfl ?_
  refine kw_istore_n dX11_sizeOf_3 (Nat.le_of_ble_eq_true rfl) ?_
  exact kw_forget (ls' := [none, some (kI 0), some (kI x0)]) ⟨Or.inl rfl, ⟨Or.inr rfl, ⟨Or.inr rfl, trivial⟩⟩⟩ H
set_option maxRecDepth 4000 in
theorem v_X11_sizeOf_4 {G : KG} {S0 : KSh} (hL : kLay S0) {d : Nat} {P : Option AV → KMem → Prop} {c : KMem} {x1 x2 : Int} (r1 : -2147483648 ≤ x1 ∧ x1 < 2147483648) (r2 : -2147483648 ≤ x2 ∧ x2 < 2147483648) (H : (x2 = 0 → (P (some (kI x1)) c)) ∧ (x2 ≠ 0 → (kW2 G S0 kM_X11_sizeOf d 4 [none, some (kI (x1 + 1)), some (kI (kand x2 (x2 - 1)))] [] c P))) : kW2 G S0 kM_X11_sizeOf d 4 [none, some (kI x1), some (kI x2)] [] c P := by
  refine kw_iload_n dX11_sizeOf_4 rfl ?_
  refine kw_if_eq 21 dX11_sizeOf_5 (by decide) (k32i (by omega)) (fun h1 => ?_) (fun h1 => ?_)
  · have H := H.1 h1
    refine kw_iload_n dX11_sizeOf_21 rfl ?_
    refine k2_iret dX11_sizeOf_22 rfl H
  · have H := H.2 h1
    refine kw_iload_n dX11_sizeOf_8 rfl ?_
    refine kw_iconst dX11_sizeOf_9 ?_
    refine kw_iadd dX11_sizeOf_10 ?_
    refine kw_istore_n dX11_sizeOf_11 (Nat.le_of_ble_eq_true rfl) ?_
    refine kw_iload_n dX11_sizeOf_12 rfl ?_
    refine kw_iload_n dX11_sizeOf_13 rfl ?_
    refine kw_iconst dX11_sizeOf_14 ?_
    refine kw_isub dX11_sizeOf_15 ?_
    refine kw_iand dX11_sizeOf_16 ?_
    refine kw_istore_n dX11_sizeOf_17 (Nat.le_of_ble_eq_true rfl) ?_
    refine kw_goto 4 dX11_sizeOf_18 (by decide) ?_
    exact kw_forget (ls' := [none, some (kI (x1 + 1)), some (kI (kand x2 (x2 - 1)))]) ⟨Or.inr rfl, ⟨Or.inr rfl, ⟨Or.inr rfl, trivial⟩⟩⟩ H
set_option maxRecDepth 4000 in
theorem v_X11_size {G : KG} {S0 : KSh} (hL : kLay S0) {d : Nat} {P : Option AV → KMem → Prop} {c : KMem} {x0 : Int}  (H : (k64 x0) ∧ ((0 ≤ x0 → (P (some (kL x0)) c)) ∧ (x0 < 0 → (P (some (kL (-x0))) c)))) : kC2 G S0 kM_X11_size d [kL x0] c P := by
  refine k2_met (by decide) rfl (Nat.le_of_ble_eq_true rfl) (l0 := [some (kL x0), none]) rfl ?_
  refine kw_lload_n dX11_size_0 rfl ?_
  refine kw_lconst0 dX11_size_1 ?_
  have o1 := H.1
  have H := H.2
  refine kw_lcmp_ge 11 dX11_size_2 dX11_size_3 (by decide) o1 (k64i (by omega)) (fun h2 => ?_) (fun h2 => ?_)
  · have H := H.1 h2
    refine kw_lload_n dX11_size_11 rfl ?_
    refine k2_lret dX11_size_12 rfl H
  · have H := H.2 h2
    refine kw_lload_n dX11_size_6 rfl ?_
    refine kw_lneg dX11_size_7 ?_
    refine kw_goto 12 dX11_size_8 (by decide) ?_
    refine k2_lret dX11_size_12 rfl H
set_option maxRecDepth 4000 in
theorem v_X11_gcd {G : KG} {S0 : KSh} (hL : kLay S0) {d : Nat} {P : Option AV → KMem → Prop} {c : KMem} {x0 x2 : Int}  (H : kC2 G S0 kM_X11_size d [kL x0] c (kRL (fun z1 c2 => kC2 G S0 kM_X11_size d [kL x2] c2 (kRL (fun z3 c4 => kW2 G S0 kM_X11_gcd (d + 1) 12 [none, none, none, none, some (kL z1), none, some (kL z3), none, none, none] [] c4 P))))) : kC2 G S0 kM_X11_gcd (d + 1) [kL x0, kL x2] c P := by
  refine k2_met (by decide) rfl (Nat.le_of_ble_eq_true rfl) (l0 := [some (kL x0), none, some (kL x2), none, none, none, none, none, none, none]) rfl ?_
  refine kw_lload_n dX11_gcd_0 rfl ?_
  refine k2_callS1L m_X11_size dX11_gcd_1 wl_X11_72 (Nat.le_of_ble_eq_true rfl) (kC2_mono H (fun r c2 H => ?_))
  obtain ⟨z1, rfl, H⟩ := H
  refine ⟨z1, rfl, ?_⟩
  refine kw_lstore dX11_gcd_4 (Nat.le_of_ble_eq_true rfl) ?_
  refine kw_lload_n dX11_gcd_6 rfl ?_
  refine k2_callS1L m_X11_size dX11_gcd_7 wl_X11_72 (Nat.le_of_ble_eq_true rfl) (kC2_mono H (fun r c4 H => ?_))
  obtain ⟨z3, rfl, H⟩ := H
  refine ⟨z3, rfl, ?_⟩
  refine kw_lstore dX11_gcd_10 (Nat.le_of_ble_eq_true rfl) ?_
  exact kw_forget (ls' := [none, none, none, none, some (kL z1), none, some (kL z3), none, none, none]) ⟨Or.inl rfl, ⟨Or.inr rfl, ⟨Or.inl rfl, ⟨Or.inr rfl, ⟨Or.inr rfl, ⟨Or.inr rfl, ⟨Or.inr rfl, ⟨Or.inr rfl, ⟨Or.inr rfl, ⟨Or.inr rfl, trivial⟩⟩⟩⟩⟩⟩⟩⟩⟩⟩ H
set_option maxRecDepth 4000 in
theorem v_X11_gcd_12 {G : KG} {S0 : KSh} (hL : kLay S0) {d : Nat} {P : Option AV → KMem → Prop} {c : KMem} {x4 x6 : Int}  (H : (k64 x6) ∧ ((x6 = 0 → (P (some (kL x4)) c)) ∧ (x6 ≠ 0 → ((k64 x4) ∧ ((x6 ≠ 0) ∧ (kW2 G S0 kM_X11_gcd (d + 1) 12 [none, none, none, none, some (kL x6), none, some (kL (Int.tmod x4 x6)), none, none, none] [] c P)))))) : kW2 G S0 kM_X11_gcd (d + 1) 12 [none, none, none, none, some (kL x4), none, some (kL x6), none, none, none] [] c P := by
  refine kw_lload dX11_gcd_12 rfl ?_
  refine kw_lconst0 dX11_gcd_14 ?_
  have o5 := H.1
  have H := H.2
  refine kw_lcmp_eq 37 dX11_gcd_15 dX11_gcd_16 (by decide) o5 (k64i (by omega)) (fun h6 => ?_) (fun h6 => ?_)
  · have H := H.1 h6
    refine kw_lload dX11_gcd_37 rfl ?_
    refine k2_lret dX11_gcd_39 rfl H
  · have H := H.2 h6
    refine kw_lload dX11_gcd_19 rfl ?_
    refine kw_lload dX11_gcd_21 rfl ?_
    have o7 := H.1
    have H := H.2
    have o8 := H.1
    have H := H.2
    refine kw_lrem dX11_gcd_23 o7 o5 o8 ?_
    refine kw_lstore dX11_gcd_24 (Nat.le_of_ble_eq_true rfl) ?_
    refine kw_lload dX11_gcd_26 rfl ?_
    refine kw_lstore dX11_gcd_28 (Nat.le_of_ble_eq_true rfl) ?_
    refine kw_lload dX11_gcd_30 rfl ?_
    refine kw_lstore dX11_gcd_32 (Nat.le_of_ble_eq_true rfl) ?_
    refine kw_goto 12 dX11_gcd_34 (by decide) ?_
    exact kw_forget (ls' := [none, none, none, none, some (kL x6), none, some (kL (Int.tmod x4 x6)), none, none, none]) ⟨Or.inr rfl, ⟨Or.inr rfl, ⟨Or.inr rfl, ⟨Or.inr rfl, ⟨Or.inr rfl, ⟨Or.inr rfl, ⟨Or.inr rfl, ⟨Or.inr rfl, ⟨Or.inl rfl, ⟨Or.inr rfl, trivial⟩⟩⟩⟩⟩⟩⟩⟩⟩⟩ H
set_option maxRecDepth 4000 in
theorem v_X11_passes {G : KG} {S0 : KSh} (hL : kLay S0) {d : Nat} {P : Option AV → KMem → Prop} {c : KMem} {x0 x1 x2 : Int} (r0 : -2147483648 ≤ x0 ∧ x0 < 2147483648) (r1 : -2147483648 ≤ x1 ∧ x1 < 2147483648) (r2 : -2147483648 ≤ x2 ∧ x2 < 2147483648) (H : (x0 = 0 → (P (some (kI 1)) c)) ∧ (x0 ≠ 0 → ((x0 ≠ 1 → ((x0 ≠ 2 → (P (some (kI 0)) c)) ∧ (x0 = 2 → (((kand x1 x2) ≠ x1 → (P (some (kI 0)) c)) ∧ ((kand x1 x2) = x1 → (P (some (kI 1)) c)))))) ∧ (x0 = 1 → (((kand x1 x2) = 0 → (P (some (kI 1)) c)) ∧ ((kand x1 x2) ≠ 0 → ((x0 ≠ 2 → (P (some (kI 0)) c)) ∧ (x0 = 2 → (((kand x1 x2) ≠ x1 → (P (some (kI 0)) c)) ∧ ((kand x1 x2) = x1 → (P (some (kI 1)) c))))))))))) : kC2 G S0 kM_X11_passes d [kI x0, kI x1, kI x2] c P := by
  refine k2_met (by decide) rfl (Nat.le_of_ble_eq_true rfl) (l0 := [some (kI x0), some (kI x1), some (kI x2)]) rfl ?_
  refine kw_iload_n dX11_passes_0 rfl ?_
  refine kw_if_eq 27 dX11_passes_1 (by decide) (k32i (by omega)) (fun h1 => ?_) (fun h1 => ?_)
  · have H := H.1 h1
    refine kw_iconst dX11_passes_27 ?_
    refine kw_goto 32 dX11_passes_28 (by decide) ?_
    refine k2_zret dX11_passes_32 rfl (Or.inr rfl) H
  · have H := H.2 h1
    refine kw_iload_n dX11_passes_4 rfl ?_
    refine kw_iconst dX11_passes_5 ?_
    refine kw_icmp_ne 15 dX11_passes_6 (by decide) (k32i (by omega)) (k32i (by omega)) (fun h2 => ?_) (fun h2 => ?_)
    · have H := H.1 h2
      refine kw_iload_n dX11_passes_15 rfl ?_
      refine kw_iconst dX11_passes_16 ?_
      refine kw_icmp_ne 31 dX11_passes_17 (by decide) (k32i (by omega)) (k32i (by omega)) (fun h3 => ?_) (fun h3 => ?_)
      · have H := H.1 h3
        refine kw_iconst dX11_passes_31 ?_
        refine k2_zret dX11_passes_32 rfl (Or.inl rfl) H
      · have H := H.2 h3
        refine kw_iload_n dX11_passes_20 rfl ?_
        refine kw_iload_n dX11_passes_21 rfl ?_
        refine kw_iand dX11_passes_22 ?_
        refine kw_iload_n dX11_passes_23 rfl ?_
        refine kw_icmp_ne 31 dX11_passes_24 (by decide) (k32_kand _ _) (k32i (by omega)) (fun h4 => ?_) (fun h4 => ?_)
        · have H := H.1 h4
          refine kw_iconst dX11_passes_31 ?_
          refine k2_zret dX11_passes_32 rfl (Or.inl rfl) H
        · have H := H.2 h4
          refine kw_iconst dX11_passes_27 ?_
          refine kw_goto 32 dX11_passes_28 (by decide) ?_
          refine k2_zret dX11_passes_32 rfl (Or.inr rfl) H
    · have H := H.2 h2
      refine kw_iload_n dX11_passes_9 rfl ?_
      refine kw_iload_n dX11_passes_10 rfl ?_
      refine kw_iand dX11_passes_11 ?_
      refine kw_if_eq 27 dX11_passes_12 (by decide) (k32_kand _ _) (fun h5 => ?_) (fun h5 => ?_)
      · have H := H.1 h5
        refine kw_iconst dX11_passes_27 ?_
        refine kw_goto 32 dX11_passes_28 (by decide) ?_
        refine k2_zret dX11_passes_32 rfl (Or.inr rfl) H
      · have H := H.2 h5
        refine kw_iload_n dX11_passes_15 rfl ?_
        refine kw_iconst dX11_passes_16 ?_
        refine kw_icmp_ne 31 dX11_passes_17 (by decide) (k32i (by omega)) (k32i (by omega)) (fun h6 => ?_) (fun h6 => ?_)
        · have H := H.1 h6
          refine kw_iconst dX11_passes_31 ?_
          refine k2_zret dX11_passes_32 rfl (Or.inl rfl) H
        · have H := H.2 h6
          refine kw_iload_n dX11_passes_20 rfl ?_
          refine kw_iload_n dX11_passes_21 rfl ?_
          refine kw_iand dX11_passes_22 ?_
          refine kw_iload_n dX11_passes_23 rfl ?_
          refine kw_icmp_ne 31 dX11_passes_24 (by decide) (k32_kand _ _) (k32i (by omega)) (fun h7 => ?_) (fun h7 => ?_)
          · have H := H.1 h7
            refine kw_iconst dX11_passes_31 ?_
            refine k2_zret dX11_passes_32 rfl (Or.inl rfl) H
          · have H := H.2 h7
            refine kw_iconst dX11_passes_27 ?_
            refine kw_goto 32 dX11_passes_28 (by decide) ?_
            refine k2_zret dX11_passes_32 rfl (Or.inr rfl) H
theorem s_X11_in {G : KG} {S0 : KSh} (hL : kLay S0) {d : Nat} {P : Option AV → KMem → Prop} {c : KMem} {x0 x1 x2 : Int} (r0 : k32 x0) (r1 : k32 x1) (r2 : k32 x2) (h1 : x1 ≤ x0 ∧ x0 ≤ x2 → P (some (kI 1)) c) (h0 : ¬ (x1 ≤ x0 ∧ x0 ≤ x2) → P (some (kI 0)) c) : kC2 G S0 kM_X11_in d [kI x0, kI x1, kI x2] c P := by
  refine v_X11_in hL r0 r1 r2 ⟨fun a => h0 (by omega), fun a => ⟨fun b => h0 (by omega), fun b => h1 (by omega)⟩⟩
theorem s_X11_has {G : KG} {S0 : KSh} (hL : kLay S0) {d : Nat} {P : Option AV → KMem → Prop} {c : KMem} {x0 x1 : Int} (r0 : k32 x0) (r1 : k32 x1) (h1 : kand (kshr x0 x1) 1 = 1 → P (some (kI 1)) c) (h0 : ¬ kand (kshr x0 x1) 1 = 1 → P (some (kI 0)) c) : kC2 G S0 kM_X11_has d [kI x0, kI x1] c P := by
  refine v_X11_has hL r0 r1 ⟨fun a => h0 a, fun a => h1 a⟩
theorem s_X11_sizeOf {G : KG} {S0 : KSh} (hL : kLay S0) {d : Nat} {P : Option AV → KMem → Prop} {c : KMem} {x0 : Int} (r0 : 0 ≤ x0 ∧ x0 < 4096) (h : P (some (kI (kpop x0.toNat))) c) : kC2 G S0 kM_X11_sizeOf d [kI x0] c P := by
  obtain ⟨n, rfl⟩ := kint_nat r0.1
  have loop : ∀ x : Nat, x < 4096 → ∀ q : Int, 0 ≤ q → q + kpop x = kpop n → q ≤ 100 → kW2 G S0 kM_X11_sizeOf d 4 [none, some (kI q), some (kI x)] [] c P := by
    intro x
    induction x using Nat.strongRecOn with
    | _ x ih =>
      intro hx q h0 hq h100
      have hk : kpop n ≤ 12 := kpop_le n (by omega)
      refine v_X11_sizeOf_4 hL (by omega) (by omega) ⟨fun e => ?_, fun e => ?_⟩
      · have e0 : x = 0 := by omega
        subst e0
        have : kpop 0 = 0 := rfl
        rw [this] at hq
        have e1 : q = kpop n := by omega
        subst e1
        exact h
      · obtain ⟨s1, s2⟩ := kpop_step x hx (by omega)
        have e1 : (x : Int) - 1 = ((x - 1 : Nat) : Int) := by omega
        rw [e1, kand_nat x (x - 1) (by omega) (by omega)]
        exact ih _ s2 (by omega) (q + 1) (by omega) (by omega) (by omega)
  exact v_X11_sizeOf hL (by omega) (loop n (by omega) 0 (by omega) (by omega) (by omega))
theorem s_X11_size {G : KG} {S0 : KSh} (hL : kLay S0) {d : Nat} {P : Option AV → KMem → Prop} {c : KMem} {x0 : Int} (r0 : k64 x0) (h : P (some (kL (x0.natAbs : Int))) c) : kC2 G S0 kM_X11_size d [kL x0] c P := by
  refine v_X11_size hL ⟨r0, fun a => ?_, fun a => ?_⟩
  · rw [show ((x0.natAbs : Nat) : Int) = x0 by omega] at h
    exact h
  · rw [show ((x0.natAbs : Nat) : Int) = -x0 by omega] at h
    exact h
/-- inside of 63 bits -/
def k63 (z : Int) : Prop := -9223372036854775808 < z ∧ z < 9223372036854775808
theorem k63_64 {z : Int} (h : k63 z) : k64 z := by unfold k63 at h; unfold k64; omega
theorem s_X11_gcd {G : KG} {S0 : KSh} (hL : kLay S0) {d : Nat} {P : Option AV → KMem → Prop} {c : KMem} {x0 x2 : Int} (r0 : k63 x0) (r2 : k63 x2) (h : P (some (kL (Int.gcd x0 x2 : Int))) c) : kC2 G S0 kM_X11_gcd (d + 1) [kL x0, kL x2] c P := by
  have loop : ∀ y : Nat, ∀ x : Nat, x < 9223372036854775808 → y < 9223372036854775808 → Nat.gcd x y = Int.gcd x0 x2 → kW2 G S0 kM_X11_gcd (d + 1) 12 [none, none, none, none, some (kL x), none, some (kL y), none, none, none] [] c P := by
    intro y
    induction y using Nat.strongRecOn with
    | _ y ih =>
      intro x hx hy e
      refine v_X11_gcd_12 hL ⟨k64i (by omega), fun q => ?_, fun q => ⟨k64i (by omega), q, ?_⟩⟩
      · have : y = 0 := by omega
        subst this
        rw [Nat.gcd_zero_right] at e
        rw [e]
        exact h
      · rw [show Int.tmod (x : Int) (y : Int) = ((x % y : Nat) : Int) from rfl]
        have hp : 0 < y := by omega
        refine ih (x % y) (Nat.mod_lt _ hp) y hy (by have := Nat.mod_lt x hp; omega) ?_
        rw [← e, Nat.gcd_comm y, ← Nat.gcd_rec, Nat.gcd_comm]
  refine v_X11_gcd hL (s_X11_size hL (k63_64 r0) ⟨_, rfl, s_X11_size hL (k63_64 r2) ⟨_, rfl, ?_⟩⟩)
  unfold k63 at r0 r2
  exact loop x2.natAbs x0.natAbs (by omega) (by omega) rfl
theorem s_X11_passes {G : KG} {S0 : KSh} (hL : kLay S0) {d : Nat} {P : Option AV → KMem → Prop} {c : KMem} {x0 x1 x2 : Int} (r0 : k32 x0) (r1 : k32 x1) (r2 : k32 x2) (h1 : kcb x0 x1 x2 = true → P (some (kI 1)) c) (h0 : ¬ kcb x0 x1 x2 = true → P (some (kI 0)) c) : kC2 G S0 kM_X11_passes d [kI x0, kI x1, kI x2] c P := by
  rw [kcb_iff] at h1 h0
  refine v_X11_passes hL r0 r1 r2 ⟨fun a => h1 (by omega), fun a => ⟨fun b => ⟨fun e => h0 (by omega), fun e => ⟨fun f => h0 (by omega), fun f => h1 (by omega)⟩⟩, fun b => ⟨fun e => h1 (by omega), fun e => ⟨fun f => h0 (by omega), fun f => ⟨fun g => h0 (by omega), fun g => h1 (by omega)⟩⟩⟩⟩⟩
