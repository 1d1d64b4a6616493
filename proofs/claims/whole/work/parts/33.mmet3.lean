/-- sums of numbers -/
def kSn (g : Nat → Nat) : Nat → Nat
  | 0 => 0
  | n + 1 => kSn g n + g n
theorem kSn_le {g : Nat → Nat} {M : Nat} (h : ∀ i, g i ≤ M) : ∀ n, kSn g n ≤ n * M
  | 0 => Nat.zero_le _
  | n + 1 => by have := kSn_le h n; have h2 := h n; show kSn g n + g n ≤ (n + 1) * M; rw [Nat.succ_mul]; omega
theorem kSn_0 {g : Nat → Nat} : ∀ n, (∀ j, j < n → g j = 0) → kSn g n = 0
  | 0, _ => rfl
  | n + 1, h => by show kSn g n + g n = 0; rw [kSn_0 n (fun j hj => h j (by omega)), h n (by omega)]
theorem kZb_Wb {f : KF} (h : kZb f = true) : kWb f = true := kWb_iff.mpr (fun k h0 h1 => by have : f k = 0 := kZb_iff.mp h k h0 h1; omega)
/-- three POINTS on a LINE -/
def kT3 (H : Int → Bool) (F : Int → KF) (a b e : Nat) : Bool := decide (a < b) && (decide (b < e) && (kPt H F a && (kPt H F b && (kPt H F e && (kWb (mulP 1 (F a) (F b)) && (kWb (mulP 1 (mulP 1 (F a) (F b)) (F e)) && kZb (mulP 1 (mulP 1 (mulP 1 (F a) (F b)) (F e)) farP)))))))
def vThr2 (H : Int → Bool) (F : Int → KF) (a b : Nat) : Nat := kCn (kT3 H F a b) 12
def vThr1 (H : Int → Bool) (F : Int → KF) (a : Nat) : Nat := kSn (vThr2 H F a) 12
def vThr (H : Int → Bool) (F : Int → KF) : Nat := kSn (vThr1 H F) 12
theorem kT3_iff {H : Int → Bool} {F : Int → KF} {a b e : Nat} (h1 : a < b) (h2 : b < e) : kT3 H F a b e = true ↔ kPt H F a = true ∧ kPt H F b = true ∧ kPt H F e = true ∧ kWb (mulP 1 (F a) (F b)) = true ∧ kWb (mulP 1 (mulP 1 (F a) (F b)) (F e)) = true ∧ kZb (mulP 1 (mulP 1 (mulP 1 (F a) (F b)) (F e)) farP) = true := by
  unfold kT3
  rw [decide_eq_true h1, decide_eq_true h2, Bool.true_and, Bool.true_and]
  simp only [Bool.and_eq_true]
theorem kor3 {a b e : Nat} (ha : a < 12) (hb : b < 12) (he : e < 12) : kor (kor (kshl 1 (a : Int)) (kshl 1 (b : Int))) (kshl 1 (e : Int)) = (((2 ^ a ||| 2 ^ b) ||| 2 ^ e : Nat) : Int) ∧ ((2 ^ a ||| 2 ^ b) ||| 2 ^ e) < 4096 ∧ ∀ k, Nat.testBit ((2 ^ a ||| 2 ^ b) ||| 2 ^ e) k = true ↔ k = a ∨ k = b ∨ k = e := by
  have pa : 2 ^ a < 2 ^ 12 := Nat.pow_lt_pow_right (by omega) ha
  have pb : 2 ^ b < 2 ^ 12 := Nat.pow_lt_pow_right (by omega) hb
  have pe : 2 ^ e < 2 ^ 12 := Nat.pow_lt_pow_right (by omega) he
  have pab : 2 ^ a ||| 2 ^ b < 2 ^ 12 := Nat.or_lt_two_pow pa pb
  have pabe : (2 ^ a ||| 2 ^ b) ||| 2 ^ e < 2 ^ 12 := Nat.or_lt_two_pow pab pe
  refine ⟨?_, pabe, fun k => ?_⟩
  · rw [kshl1 a (by omega), kshl1 b (by omega), kshl1 e (by omega), kor_nat _ _ (by omega) (by omega), kor_nat _ _ (by omega) (by omega)]
  · rw [Nat.testBit_or, Nat.testBit_or, Nat.testBit_two_pow, Nat.testBit_two_pow, Nat.testBit_two_pow]
    simp only [Bool.or_eq_true, decide_eq_true_eq]
    omega
set_option maxRecDepth 4000 in
theorem v_X11_threes {G : KG} {S0 : KSh} (hL : kLay S0) {d : Nat} {P : Option AV → KMem → Prop} {c : KMem}  (H : kW2 G S0 kM_X11_threes (d + 3) 4 [some (kA 558), some (kI 0), some (kI 0), none, none] [] c P) : kC2 G S0 kM_X11_threes (d + 3) [kA 558] c P := by
  refine k2_met (by decide) rfl (Nat.le_of_ble_eq_true rfl) (l0 := [some (kA 558), none, none, none, none]) rfl ?_
  refine kw_iconst dX11_threes_0 ?_
  refine kw_istore_n dX11_threes_1 (Nat.le_of_ble_eq_true rfl) ?_
  refine kw_iconst dX11_threes_2 ?_
  refine kw_istore_n dX11_threes_3 (Nat.le_of_ble_eq_true rfl) ?_
  exact kw_forget (ls' := [some (kA 558), some (kI 0), some (kI 0), none, none]) ⟨Or.inr rfl, ⟨Or.inr rfl, ⟨Or.inr rfl, ⟨Or.inr rfl, ⟨Or.inr rfl, trivial⟩⟩⟩⟩⟩ H
set_option maxRecDepth 4000 in
theorem v_X11_threes_4 {G : KG} {S0 : KSh} (hL : kLay S0) {d : Nat} {P : Option AV → KMem → Prop} {c : KMem} {x1 x2 : Int} (r1 : -2147483648 ≤ x1 ∧ x1 < 2147483648) (r2 : 0 ≤ x2 ∧ x2 < 2147483648) (hp : 0 ≤ x2 ∧ x2 ≤ 12 ∧ 0 ≤ x1 ∧ x1 ≤ 2000) (H : (12 ≤ x2 → (P (some (kI x1)) c)) ∧ (x2 < 12 → (kW2 G S0 kM_X11_threes (d + 3) 14 [some (kA 558), some (kI x1), some (kI x2), some (kI (x2 + 1)), none] [] c P))) : kW2 G S0 kM_X11_threes (d + 3) 4 [some (kA 558), some (kI x1), some (kI x2), none, none] [] c P := by
  refine kw_iload_n dX11_threes_4 rfl ?_
  refine kw_bipush dX11_threes_5 (by decide) ?_
  refine kw_icmp_ge 119 dX11_threes_7 (by decide) (k32i (by omega)) (k32i (by omega)) (fun h1 => ?_) (fun h1 => ?_)
  · have H := H.1 h1
    refine kw_iload_n dX11_threes_119 rfl ?_
    refine k2_iret dX11_threes_120 rfl H
  · have H := H.2 h1
    refine kw_iload_n dX11_threes_10 rfl ?_
    refine kw_iconst dX11_threes_11 ?_
    refine kw_iadd dX11_threes_12 ?_
    refine kw_istore_n dX11_threes_13 (Nat.le_of_ble_eq_true rfl) ?_
    exact kw_forget (ls' := [some (kA 558), some (kI x1), some (kI x2), some (kI (x2 + 1)), none]) ⟨Or.inr rfl, ⟨Or.inr rfl, ⟨Or.inr rfl, ⟨Or.inr rfl, ⟨Or.inr rfl, trivial⟩⟩⟩⟩⟩ H
set_option maxRecDepth 4000 in
theorem v_X11_threes_14 {G : KG} {S0 : KSh} (hL : kLay S0) {d : Nat} {P : Option AV → KMem → Prop} {c : KMem} {x1 x2 x3 : Int} (r1 : -2147483648 ≤ x1 ∧ x1 < 2147483648) (r2 : 0 ≤ x2 ∧ x2 < 2147483648) (r3 : -2147483648 ≤ x3 ∧ x3 < 2147483648) (hp : 0 ≤ x2 ∧ x2 < 12 ∧ 0 ≤ x3 ∧ x3 ≤ 12 ∧ 0 ≤ x1 ∧ x1 ≤ 2000) (H : (12 ≤ x3 → (kW2 G S0 kM_X11_threes (d + 3) 4 [some (kA 558), some (kI x1), some (kI (x2 + 1)), none, none] [] c P)) ∧ (x3 < 12 → (kW2 G S0 kM_X11_threes (d + 3) 25 [some (kA 558), some (kI x1), some (kI x2), some (kI x3), some (kI (x3 + 1))] [] c P))) : kW2 G S0 kM_X11_threes (d + 3) 14 [some (kA 558), some (kI x1), some (kI x2), some (kI x3), none] [] c P := by
  refine kw_iload_n dX11_threes_14 rfl ?_
  refine kw_bipush dX11_threes_15 (by decide) ?_
  refine kw_icmp_ge 113 dX11_threes_17 (by decide) (k32i (by omega)) (k32i (by omega)) (fun h2 => ?_) (fun h2 => ?_)
  · have H := H.1 h2
    refine kw_iinc dX11_threes_113 rfl ?_
    refine kw_goto 4 dX11_threes_116 (by decide) ?_
    exact kw_forget (ls' := [some (kA 558), some (kI x1), some (kI (x2 + 1)), none, none]) ⟨Or.inr rfl, ⟨Or.inr rfl, ⟨Or.inr rfl, ⟨Or.inl rfl, ⟨Or.inr rfl, trivial⟩⟩⟩⟩⟩ H
  · have H := H.2 h2
    refine kw_iload_n dX11_threes_20 rfl ?_
    refine kw_iconst dX11_threes_21 ?_
    refine kw_iadd dX11_threes_22 ?_
    refine kw_istore dX11_threes_23 (Nat.le_of_ble_eq_true rfl) ?_
    exact kw_forget (ls' := [some (kA 558), some (kI x1), some (kI x2), some (kI x3), some (kI (x3 + 1))]) ⟨Or.inr rfl, ⟨Or.inr rfl, ⟨Or.inr rfl, ⟨Or.inr rfl, ⟨Or.inr rfl, trivial⟩⟩⟩⟩⟩ H
set_option maxRecDepth 4000 in
theorem v_X11_threes_25 {G : KG} {S0 : KSh} (hL : kLay S0) {d : Nat} {P : Option AV → KMem → Prop} {c : KMem} {x1 x2 x3 x4 : Int} (r1 : -2147483648 ≤ x1 ∧ x1 < 2147483648) (r2 : 0 ≤ x2 ∧ x2 < 2147483648) (r3 : -2147483648 ≤ x3 ∧ x3 < 2147483648) (r4 : -2147483648 ≤ x4 ∧ x4 < 2147483648) (hp : 0 ≤ x2 ∧ x2 < 12 ∧ 0 ≤ x3 ∧ x3 < 12 ∧ 0 ≤ x4 ∧ x4 ≤ 12 ∧ 0 ≤ x1 ∧ x1 ≤ 2000) (H : (12 ≤ x4 → (kW2 G S0 kM_X11_threes (d + 3) 14 [some (kA 558), some (kI x1), some (kI x2), some (kI (x3 + 1)), none] [] c P)) ∧ (x4 < 12 → (kC2 G S0 kM_X11_arePoints (d + 2) [kA 558, kI (kor (kor (kshl 1 x2) (kshl 1 x3)) (kshl 1 x4))] c (kRI (fun z4 c5 => (k32 z4) ∧ ((z4 = 0 → (kW2 G S0 kM_X11_threes (d + 3) 101 [some (kA 558), some (kI x1), some (kI x2), some (kI x3), some (kI x4)] [] c5 P)) ∧ (z4 ≠ 0 → (kC2 G S0 kM_X11_goesOuter (d + 2) [kA 558, kI x2, kI x3, kI 24] c5 (kRI (fun z8 c9 => (k32 z8) ∧ ((z8 = 0 → (kW2 G S0 kM_X11_threes (d + 3) 101 [some (kA 558), some (kI x1), some (kI x2), some (kI x3), some (kI x4)] [] c9 P)) ∧ (z8 ≠ 0 → (kC2 G S0 kM_X11_goesOuter (d + 2) [kA 558, kI 24, kI x4, kI 24] c9 (kRI (fun z12 c13 => (k32 z12) ∧ ((z12 = 0 → (kW2 G S0 kM_X11_threes (d + 3) 101 [some (kA 558), some (kI x1), some (kI x2), some (kI x3), some (kI x4)] [] c13 P)) ∧ (z12 ≠ 0 → (kC2 G S0 kM_X11_goesOuter (d + 2) [kA 558, kI 24, kI 30, kI 24] c13 (kRI (fun z16 c17 => (k32 z16) ∧ ((z16 = 0 → (kW2 G S0 kM_X11_threes (d + 3) 101 [some (kA 558), some (kI x1), some (kI x2), some (kI x3), some (kI x4)] [] c17 P)) ∧ (z16 ≠ 0 → (kC2 G S0 kM_X11_isNothing (d + 2) [kA 558, kI 24] c17 (kRI (fun z20 c21 => (k32 z20) ∧ ((z20 = 0 → (kW2 G S0 kM_X11_threes (d + 3) 101 [some (kA 558), some (kI x1), some (kI x2), some (kI x3), some (kI x4)] [] c21 P)) ∧ (z20 ≠ 0 → (kW2 G S0 kM_X11_threes (d + 3) 101 [some (kA 558), some (kI (x1 + 1)), some (kI x2), some (kI x3), some (kI x4)] [] c21 P)))))))))))))))))))))))))))) : kW2 G S0 kM_X11_threes (d + 3) 25 [some (kA 558), some (kI x1), some (kI x2), some (kI x3), some (kI x4)] [] c P := by
  refine kw_iload dX11_threes_25 rfl ?_
  refine kw_bipush dX11_threes_27 (by decide) ?_
  refine kw_icmp_ge 107 dX11_threes_29 (by decide) (k32i (by omega)) (k32i (by omega)) (fun h3 => ?_) (fun h3 => ?_)
  · have H := H.1 h3
    refine kw_iinc dX11_threes_107 rfl ?_
    refine kw_goto 14 dX11_threes_110 (by decide) ?_
    exact kw_forget (ls' := [some (kA 558), some (kI x1), some (kI x2), some (kI (x3 + 1)), none]) ⟨Or.inr rfl, ⟨Or.inr rfl, ⟨Or.inr rfl, ⟨Or.inr rfl, ⟨Or.inl rfl, trivial⟩⟩⟩⟩⟩ H
  · have H := H.2 h3
    refine kw_aload_n dX11_threes_32 rfl ?_
    refine kw_iconst dX11_threes_33 ?_
    refine kw_iload_n dX11_threes_34 rfl ?_
    refine kw_ishl dX11_threes_35 ?_
    refine kw_iconst dX11_threes_36 ?_
    refine kw_iload_n dX11_threes_37 rfl ?_
    refine kw_ishl dX11_threes_38 ?_
    refine kw_ior dX11_threes_39 ?_
    refine kw_iconst dX11_threes_40 ?_
    refine kw_iload dX11_threes_41 rfl ?_
    refine kw_ishl dX11_threes_43 ?_
    refine kw_ior dX11_threes_44 ?_
    refine k2_callV1I (ci := 9) (N := 38) (T := TX11) rfl (lsh_558 hL) m_X11_arePoints dX11_threes_45 wl_X11_446 (Nat.le_of_ble_eq_true rfl) (kC2_mono H (fun r c5 H => ?_))
    obtain ⟨z4, rfl, H⟩ := H
    refine ⟨z4, rfl, ?_⟩
    have o7 := H.1
    have H := H.2
    refine kw_if_eq 101 dX11_threes_48 (by decide) o7 (fun h6 => ?_) (fun h6 => ?_)
    · have H := H.1 h6
      exact kw_forget (ls' := [some (kA 558), some (kI x1), some (kI x2), some (kI x3), some (kI x4)]) ⟨Or.inr rfl, ⟨Or.inr rfl, ⟨Or.inr rfl, ⟨Or.inr rfl, ⟨Or.inr rfl, trivial⟩⟩⟩⟩⟩ H
    · have H := H.2 h6
      refine kw_aload_n dX11_threes_51 rfl ?_
      refine kw_iload_n dX11_threes_52 rfl ?_
      refine kw_iload_n dX11_threes_53 rfl ?_
      refine kw_bipush dX11_threes_54 (by decide) ?_
      refine k2_callV3I (ci := 9) (N := 38) (T := TX11) rfl (lsh_558 hL) m_X11_goesOuter dX11_threes_56 wl_X11_449 (Nat.le_of_ble_eq_true rfl) (kC2_mono H (fun r c9 H => ?_))
      obtain ⟨z8, rfl, H⟩ := H
      refine ⟨z8, rfl, ?_⟩
      have o11 := H.1
      have H := H.2
      refine kw_if_eq 101 dX11_threes_59 (by decide) o11 (fun h10 => ?_) (fun h10 => ?_)
      · have H := H.1 h10
        exact kw_forget (ls' := [some (kA 558), some (kI x1), some (kI x2), some (kI x3), some (kI x4)]) ⟨Or.inr rfl, ⟨Or.inr rfl, ⟨Or.inr rfl, ⟨Or.inr rfl, ⟨Or.inr rfl, trivial⟩⟩⟩⟩⟩ H
      · have H := H.2 h10
        refine kw_aload_n dX11_threes_62 rfl ?_
        refine kw_bipush dX11_threes_63 (by decide) ?_
        refine kw_iload dX11_threes_65 rfl ?_
        refine kw_bipush dX11_threes_67 (by decide) ?_
        refine k2_callV3I (ci := 9) (N := 38) (T := TX11) rfl (lsh_558 hL) m_X11_goesOuter dX11_threes_69 wl_X11_449 (Nat.le_of_ble_eq_true rfl) (kC2_mono H (fun r c13 H => ?_))
        obtain ⟨z12, rfl, H⟩ := H
        refine ⟨z12, rfl, ?_⟩
        have o15 := H.1
        have H := H.2
        refine kw_if_eq 101 dX11_threes_72 (by decide) o15 (fun h14 => ?_) (fun h14 => ?_)
        · have H := H.1 h14
          exact kw_forget (ls' := [some (kA 558), some (kI x1), some (kI x2), some (kI x3), some (kI x4)]) ⟨Or.inr rfl, ⟨Or.inr rfl, ⟨Or.inr rfl, ⟨Or.inr rfl, ⟨Or.inr rfl, trivial⟩⟩⟩⟩⟩ H
        · have H := H.2 h14
          refine kw_aload_n dX11_threes_75 rfl ?_
          refine kw_bipush dX11_threes_76 (by decide) ?_
          refine kw_bipush dX11_threes_78 (by decide) ?_
          refine kw_bipush dX11_threes_80 (by decide) ?_
          refine k2_callV3I (ci := 9) (N := 38) (T := TX11) rfl (lsh_558 hL) m_X11_goesOuter dX11_threes_82 wl_X11_449 (Nat.le_of_ble_eq_true rfl) (kC2_mono H (fun r c17 H => ?_))
          obtain ⟨z16, rfl, H⟩ := H
          refine ⟨z16, rfl, ?_⟩
          have o19 := H.1
          have H := H.2
          refine kw_if_eq 101 dX11_threes_85 (by decide) o19 (fun h18 => ?_) (fun h18 => ?_)
          · have H := H.1 h18
            exact kw_forget (ls' := [some (kA 558), some (kI x1), some (kI x2), some (kI x3), some (kI x4)]) ⟨Or.inr rfl, ⟨Or.inr rfl, ⟨Or.inr rfl, ⟨Or.inr rfl, ⟨Or.inr rfl, trivial⟩⟩⟩⟩⟩ H
          · have H := H.2 h18
            refine kw_aload_n dX11_threes_88 rfl ?_
            refine kw_bipush dX11_threes_89 (by decide) ?_
            refine k2_callV1I (ci := 9) (N := 38) (T := TX11) rfl (lsh_558 hL) m_X11_isNothing dX11_threes_91 wl_X11_115 (Nat.le_of_ble_eq_true rfl) (kC2_mono H (fun r c21 H => ?_))
            obtain ⟨z20, rfl, H⟩ := H
            refine ⟨z20, rfl, ?_⟩
            have o23 := H.1
            have H := H.2
            refine kw_if_eq 101 dX11_threes_94 (by decide) o23 (fun h22 => ?_) (fun h22 => ?_)
            · have H := H.1 h22
              exact kw_forget (ls' := [some (kA 558), some (kI x1), some (kI x2), some (kI x3), some (kI x4)]) ⟨Or.inr rfl, ⟨Or.inr rfl, ⟨Or.inr rfl, ⟨Or.inr rfl, ⟨Or.inr rfl, trivial⟩⟩⟩⟩⟩ H
            · have H := H.2 h22
              refine kw_iload_n dX11_threes_97 rfl ?_
              refine kw_iconst dX11_threes_98 ?_
              refine kw_iadd dX11_threes_99 ?_
              refine kw_istore_n dX11_threes_100 (Nat.le_of_ble_eq_true rfl) ?_
              exact kw_forget (ls' := [some (kA 558), some (kI (x1 + 1)), some (kI x2), some (kI x3), some (kI x4)]) ⟨Or.inr rfl, ⟨Or.inr rfl, ⟨Or.inr rfl, ⟨Or.inr rfl, ⟨Or.inr rfl, trivial⟩⟩⟩⟩⟩ H
set_option maxRecDepth 4000 in
theorem v_X11_threes_101 {G : KG} {S0 : KSh} (hL : kLay S0) {d : Nat} {P : Option AV → KMem → Prop} {c : KMem} {x1 x2 x3 x4 : Int} (r1 : -2147483648 ≤ x1 ∧ x1 < 2147483648) (r2 : 0 ≤ x2 ∧ x2 < 2147483648) (r3 : -2147483648 ≤ x3 ∧ x3 < 2147483648) (r4 : -2147483648 ≤ x4 ∧ x4 < 2147483648) (hp : 0 ≤ x2 ∧ x2 < 12 ∧ 0 ≤ x3 ∧ x3 < 12 ∧ 0 ≤ x4 ∧ x4 < 12 ∧ 0 ≤ x1 ∧ x1 ≤ 2001) (H : kW2 G S0 kM_X11_threes (d + 3) 25 [some (kA 558), some (kI x1), some (kI x2), some (kI x3), some (kI (x4 + 1))] [] c P) : kW2 G S0 kM_X11_threes (d + 3) 101 [some (kA 558), some (kI x1), some (kI x2), some (kI x3), some (kI x4)] [] c P := by
  refine kw_iinc dX11_threes_101 rfl ?_
  refine kw_goto 25 dX11_threes_104 (by decide) ?_
  exact kw_forget (ls' := [some (kA 558), some (kI x1), some (kI x2), some (kI x3), some (kI (x4 + 1))]) ⟨Or.inr rfl, ⟨Or.inr rfl, ⟨Or.inr rfl, ⟨Or.inr rfl, ⟨Or.inr rfl, trivial⟩⟩⟩⟩⟩ H
section MMT
variable {G : KG} {S0 : KSh} {d : Nat} {P : Option AV → KMem → Prop} {c c0 : KMem} {Φ : Int → KF} {H : Int → Bool} {F : Int → KF} {f g : KF} {M m : Int} {S : KLs} {x0 x1 x2 x3 x4 : Int}
theorem t_threes (hL : kLay S0) (hg : kSgn c0) (hs : kPh Φ c0 c) (e3 : Φ 30 = farP) (hl : kLet2 H F Φ c0) (h37 : c0 558 37 = kPs H F) (h : ∀ (Φ' : Int → KF) c', kPh Φ' c0 c' → (∀ s : Int, 0 ≤ s → s < 12 ∨ s = 30 → Φ' s = Φ s) → P (some (kI (vThr H F))) c') : kC2 G S0 kM_X11_threes (d + 3) [kA 558] c P := by
  have L3 : ∀ (a b : Nat), a < b → b < 12 → ∀ N : Nat, N ≤ 12 * (12 * a + b) → (∀ (Φ' : Int → KF) c', kPh Φ' c0 c' → (∀ s : Int, 0 ≤ s → s < 12 ∨ s = 30 → Φ' s = Φ s) → kW2 G S0 kM_X11_threes (d + 3) 14 [some (kA 558), some (kI ((N + vThr2 H F a b : Nat) : Int)), some (kI (a : Int)), some (kI ((b + 1 : Nat) : Int)), none] [] c' P) → ∀ n e : Nat, e + n = 12 → b < e → ∀ (Φ' : Int → KF) c', kPh Φ' c0 c' → (∀ s : Int, 0 ≤ s → s < 12 ∨ s = 30 → Φ' s = Φ s) → kW2 G S0 kM_X11_threes (d + 3) 25 [some (kA 558), some (kI ((N + kCn (kT3 H F a b) e : Nat) : Int)), some (kI (a : Int)), some (kI (b : Int)), some (kI (e : Int))] [] c' P := by
    intro a b hab hb N hN K n
    induction n with
    | zero =>
      intro e he9 hbe Φ' c' hs hk
      obtain rfl : e = 12 := by omega
      have hc := kCn_le (kT3 H F a b) 12
      exact v_X11_threes_25 hL (by omega) (by omega) (by omega) (by omega) (by omega) ⟨fun _ => K Φ' c' hs hk, fun q => by omega⟩
    | succ n ih =>
      intro e he9 hbe Φ' c' hs hk
      have hc := kCn_le (kT3 H F a b) e
      have hc2 := kCn_le (kT3 H F a b) (e + 1)
      have e2 : kCn (kT3 H F a b) (e + 1) = if kT3 H F a b e = true then kCn (kT3 H F a b) e + 1 else kCn (kT3 H F a b) e := rfl
      have ei := kT3_iff (H := H) (F := F) hab hbe
      have next : ∀ (Φ' : Int → KF) c' (v : Int), kPh Φ' c0 c' → (∀ s : Int, 0 ≤ s → s < 12 ∨ s = 30 → Φ' s = Φ s) → v = ((N + kCn (kT3 H F a b) (e + 1) : Nat) : Int) → kW2 G S0 kM_X11_threes (d + 3) 101 [some (kA 558), some (kI v), some (kI (a : Int)), some (kI (b : Int)), some (kI (e : Int))] [] c' P := by
        intro Φ' c' v p q ev
        rw [ev]
        exact v_X11_threes_101 hL (by omega) (by omega) (by omega) (by omega) (by omega) (ih (e + 1) (by omega) (by omega) Φ' c' p q)
      obtain ⟨o1, o2, o3⟩ := kor3 (a := a) (b := b) (e := e) (by omega) (by omega) (by omega)
      refine v_X11_threes_25 hL (by omega) (by omega) (by omega) (by omega) (by omega) ⟨fun q => by omega, fun _ => ?_⟩
      rw [o1]
      refine t_arePoints hL hs h37 o2 (fun q => ⟨1, rfl, kr1 ?_⟩) (fun q => ⟨0, rfl, kr0 ?_⟩)
      · have pa : kPt H F a = true := q a (by omega) ((o3 a).mpr (Or.inl rfl))
        have pb : kPt H F b = true := q b (by omega) ((o3 b).mpr (Or.inr (Or.inl rfl)))
        have pe : kPt H F e = true := q e (by omega) ((o3 e).mpr (Or.inr (Or.inr rfl)))
        have ya := pa; have yb := pb; have ye := pe
        unfold kPt at ya yb ye
        rw [Bool.and_eq_true] at ya yb ye
        obtain ⟨a1, a2, a3, a4⟩ := hl.1 a ya.1
        obtain ⟨b1, b2, b3, b4⟩ := hl.1 b yb.1
        obtain ⟨c1, c2, c3, c4⟩ := hl.1 e ye.1
        have g1 : Φ' a = F a := (hk a (by omega) (by omega)).trans a3
        have g2 : Φ' b = F b := (hk b (by omega) (by omega)).trans b3
        have g3 : Φ' e = F e := (hk e (by omega) (by omega)).trans c3
        have g4 : Φ' 30 = farP := (hk 30 (by omega) (by omega)).trans e3
        refine t_goesOuter hL hg hs (fun c5 hs w1 => ⟨1, rfl, kr1 ?_⟩) (fun c5 hs w1 => ⟨0, rfl, kr0 ?_⟩) (by omega) g1 g2 a4 b4
        · have q1 := kWb_iff.mp w1
          refine t_goesOuter hL hg hs (fun c5 hs w2 => ⟨1, rfl, kr1 ?_⟩) (fun c5 hs w2 => ⟨0, rfl, kr0 ?_⟩) (by omega) kUs (kUn (by omega) g3) q1 c4
          · have q2 := kWb_iff.mp w2
            refine t_goesOuter hL hg hs (fun c5 hs w3 => ⟨1, rfl, kr1 ?_⟩) (fun c5 hs w3 => ⟨0, rfl, kr0 ?_⟩) (by omega) kUs (kUn (by omega) (kUn (by omega) g4)) q2 farP_bdL
            · refine t_isNothing hL hs (fun z => ⟨1, rfl, kr1 ?_⟩) (fun z => ⟨0, rfl, kr0 ?_⟩) kUs (mulP_bdL q2 farP_bdL) (by decide) (by omega)
              · exact next _ _ _ hs (by intro s p q; repeat (first | exact rfl | refine kUn (by omega) ?_ | exact hk s p q)) (by rw [e2, if_pos (ei.mpr ⟨pa, pb, pe, w1, w2, z⟩)]; omega)
              · exact next _ _ _ hs (by intro s p q; repeat (first | exact rfl | refine kUn (by omega) ?_ | exact hk s p q)) (by rw [e2, if_neg (fun w => z (ei.mp w).2.2.2.2.2)])
            · exact next _ _ _ hs (by intro s p q; repeat (first | exact rfl | refine kUn (by omega) ?_ | exact hk s p q)) (by rw [e2, if_neg (fun w => w3 (kZb_Wb (ei.mp w).2.2.2.2.2))])
          · exact next _ _ _ hs (by intro s p q; repeat (first | exact rfl | refine kUn (by omega) ?_ | exact hk s p q)) (by rw [e2, if_neg (fun w => w2 (ei.mp w).2.2.2.2.1)])
        · exact next _ _ _ hs (by intro s p q; repeat (first | exact rfl | refine kUn (by omega) ?_ | exact hk s p q)) (by rw [e2, if_neg (fun w => w1 (ei.mp w).2.2.2.1)])
      · have nn : ¬ kT3 H F a b e = true := fun w => q (fun k hk hb => by
          obtain ⟨u1, u2, u3, _⟩ := ei.mp w
          rcases (o3 k).mp hb with rfl | rfl | rfl <;> assumption)
        exact next _ _ _ hs hk (by rw [e2, if_neg nn])
  have L2 : ∀ (a : Nat), a < 12 → ∀ N : Nat, N ≤ 144 * a → (∀ (Φ' : Int → KF) c', kPh Φ' c0 c' → (∀ s : Int, 0 ≤ s → s < 12 ∨ s = 30 → Φ' s = Φ s) → kW2 G S0 kM_X11_threes (d + 3) 4 [some (kA 558), some (kI ((N + vThr1 H F a : Nat) : Int)), some (kI ((a + 1 : Nat) : Int)), none, none] [] c' P) → ∀ n b : Nat, b + n = 12 → a < b → ∀ (Φ' : Int → KF) c', kPh Φ' c0 c' → (∀ s : Int, 0 ≤ s → s < 12 ∨ s = 30 → Φ' s = Φ s) → kW2 G S0 kM_X11_threes (d + 3) 14 [some (kA 558), some (kI ((N + kSn (vThr2 H F a) b : Nat) : Int)), some (kI (a : Int)), some (kI (b : Int)), none] [] c' P := by
    intro a ha N hN K n
    induction n with
    | zero =>
      intro b hb9 hab Φ' c' hs hk
      obtain rfl : b = 12 := by omega
      have hc := kSn_le (g := vThr2 H F a) (M := 12) (fun i => kCn_le _ 12) 12
      exact v_X11_threes_14 hL (by omega) (by omega) (by omega) (by omega) ⟨fun _ => K Φ' c' hs hk, fun q => by omega⟩
    | succ n ih =>
      intro b hb9 hab Φ' c' hs hk
      have hc := kSn_le (g := vThr2 H F a) (M := 12) (fun i => kCn_le _ 12) b
      have z0 : kCn (kT3 H F a b) (b + 1) = 0 := kCn_0 _ (fun j hj => by unfold kT3; rw [decide_eq_true hab, decide_eq_false (by omega)]; rfl)
      have := L3 a b hab (by omega) (N + kSn (vThr2 H F a) b) (by omega) (fun Φ' c' p q => by
        have := ih (b + 1) (by omega) (by omega) Φ' c' p q
        rw [show N + kSn (vThr2 H F a) (b + 1) = N + kSn (vThr2 H F a) b + vThr2 H F a b from (Nat.add_assoc _ _ _).symm] at this
        exact this) (12 - (b + 1)) (b + 1) (by omega) (by omega) Φ' c' hs hk
      rw [z0] at this
      exact v_X11_threes_14 hL (by omega) (by omega) (by omega) (by omega) ⟨fun q => by omega, fun _ => this⟩
  have L1 : ∀ n a : Nat, a + n = 12 → ∀ (Φ' : Int → KF) c', kPh Φ' c0 c' → (∀ s : Int, 0 ≤ s → s < 12 ∨ s = 30 → Φ' s = Φ s) → kW2 G S0 kM_X11_threes (d + 3) 4 [some (kA 558), some (kI (kSn (vThr1 H F) a : Int)), some (kI (a : Int)), none, none] [] c' P := by
    have hb1 : ∀ i, vThr1 H F i ≤ 144 := fun i => kSn_le (g := vThr2 H F i) (M := 12) (fun i => kCn_le _ 12) 12
    intro n
    induction n with
    | zero =>
      intro a ha Φ' c' hs hk
      obtain rfl : a = 12 := by omega
      have hc := kSn_le hb1 12
      exact v_X11_threes_4 hL (by omega) (by omega) (by omega) ⟨fun _ => h Φ' c' hs hk, fun q => by omega⟩
    | succ n ih =>
      intro a ha Φ' c' hs hk
      have hc := kSn_le hb1 a
      have z0 : kSn (vThr2 H F a) (a + 1) = 0 := kSn_0 _ (fun j hj => kCn_0 _ (fun i hi => by unfold kT3; rw [decide_eq_false (by omega)]; rfl))
      have := L2 a (by omega) (kSn (vThr1 H F) a) (by omega) (fun Φ' c' p q => ih (a + 1) (by omega) Φ' c' p q) (12 - (a + 1)) (a + 1) (by omega) (by omega) Φ' c' hs hk
      rw [z0] at this
      exact v_X11_threes_4 hL (by omega) (by omega) (by omega) ⟨fun q => by omega, fun _ => this⟩
  exact v_X11_threes hL (L1 12 0 (by omega) Φ c hs (fun _ _ _ => rfl))
end MMT
