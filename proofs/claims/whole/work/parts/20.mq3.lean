/-- which KINDS have a MIDDLE; which can bear a PLACE -/
def kMid (k : Int) : Prop := (2 ≤ k ∧ k ≤ 4) ∨ (12 ≤ k ∧ k ≤ 14)
def kBear (k : Int) : Prop := kObj k ∨ (20 ≤ k ∧ k ≤ 22) ∨ k = 8
def kMidB (k : Int) : Bool := decide ((2 ≤ k ∧ k ≤ 4) ∨ (12 ≤ k ∧ k ≤ 14))
theorem kMidB_iff {k : Int} : kMidB k = true ↔ kMid k := by unfold kMidB kMid; exact decide_eq_true_iff
def kBearB (k : Int) : Bool := kObjB k || decide (20 ≤ k ∧ k ≤ 22) || k == 8
theorem kBearB_iff {k : Int} : kBearB k = true ↔ kBear k := by unfold kBearB kBear; rw [← kObjB_iff]; simp [or_assoc]
/-- how many letters stand -/
def kHn (H : Int → Bool) : Nat → Nat
  | 0 => 0
  | n + 1 => if H n = true then kHn H n + 1 else kHn H n
theorem kHn_le (H : Int → Bool) : ∀ n, kHn H n ≤ n
  | 0 => Nat.le_refl 0
  | n + 1 => by have := kHn_le H n; show (if H n = true then kHn H n + 1 else kHn H n) ≤ n + 1; split <;> omega
/-- MIDDLE and SIZE of a vector -/
def mdE (f : KF) : Int := f 8 - f 4
def mdG (f : KF) : Int := if mdE f < 0 then -(Int.gcd (Int.gcd (f 1) (f 2)) (mdE f) : Int) else (Int.gcd (Int.gcd (f 1) (f 2)) (mdE f) : Int)
def mdX (f : KF) : Int := Int.tdiv (f 1) (mdG f)
def mdY (f : KF) : Int := Int.tdiv (f 2) (mdG f)
def mdL (f : KF) : Int := Int.tdiv (mdE f) (mdG f)
def mdS (f : KF) (w : Int) : Int := klow (kQ4 f) (mdE f * mdE f) w
def mdN (f : KF) (w : Int) : Int := if w = 0 then mdX f else if w = 1 then mdY f else if w = 2 then mdL f else if w = 3 then mdS f 0 else mdS f 1
def vMiddle (H : Int → Bool) (F : Int → KF) (l w : Int) : Int := if H l = true ∧ 0 ≤ w ∧ w ≤ 4 then (if kMidB (kind (F l)) = true then mdN (vecP (F l)) w else -3000000000000000000) else -2000000000000000000
/-- LINE -/
def lnG (f : KF) : Int := if f 1 < 0 ∨ (f 1 = 0 ∧ f 2 < 0) then -(Int.gcd (Int.gcd (f 1) (f 2)) (f 4) : Int) else (Int.gcd (Int.gcd (f 1) (f 2)) (f 4) : Int)
def lnN (f : KF) (w : Int) : Int := Int.tdiv (if w = 0 then f 1 else if w = 1 then f 2 else f 4) (lnG f)
def vLine (H : Int → Bool) (F : Int → KF) (l w : Int) : Int := if (H l = true ∧ 0 ≤ w ∧ w ≤ 2) ∧ (kind (F l) = 6 ∨ kind (F l) = 16) then lnN (vecP (F l)) w else -1000000000
set_option maxRecDepth 4000 in
theorem v_X11_findsMiddle {G : KG} {S0 : KSh} (hL : kLay S0) {d : Nat} {P : Option AV → KMem → Prop} {c : KMem} {x1 : Int} (r1 : -2147483648 ≤ x1 ∧ x1 < 2147483648) (hp : 0 ≤ x1 ∧ x1 < 100) (H : kC2 G S0 kM_X11_gcd (d + 2) [kL (c 559 ((16 * x1) + 1)), kL (c 559 ((16 * x1) + 2))] c (kRL (fun z1 c2 => kC2 G S0 kM_X11_gcd (d + 2) [kL z1, kL ((c 559 ((16 * x1) + 8)) - (c 559 ((16 * x1) + 4)))] c2 (kRL (fun z3 c4 => (k64 ((c 559 ((16 * x1) + 8)) - (c 559 ((16 * x1) + 4)))) ∧ ((0 ≤ ((c 559 ((16 * x1) + 8)) - (c 559 ((16 * x1) + 4))) → (kW2 G S0 kM_X11_findsMiddle (d + 3) 50 [some (kA 558), some (kI x1), some (kL ((c 559 ((16 * x1) + 8)) - (c 559 ((16 * x1) + 4)))), none, none, none, none, none, none, none] [kL z3] c4 P)) ∧ (((c 559 ((16 * x1) + 8)) - (c 559 ((16 * x1) + 4))) < 0 → (kW2 G S0 kM_X11_findsMiddle (d + 3) 50 [some (kA 558), some (kI x1), some (kL ((c 559 ((16 * x1) + 8)) - (c 559 ((16 * x1) + 4)))), none, none, none, none, none, none, none] [kL (-z3)] c4 P)))))))) : kC2 G S0 kM_X11_findsMiddle (d + 3) [kA 558, kI x1] c P := by
  refine k2_met (by decide) rfl (Nat.le_of_ble_eq_true rfl) (l0 := [some (kA 558), some (kI x1), none, none, none, none, none, none, none, none]) rfl ?_
  refine kw_aload_n dX11_findsMiddle_0 rfl ?_
  refine kw_iload_n dX11_findsMiddle_1 rfl ?_
  refine kw_bipush dX11_findsMiddle_2 (by decide) ?_
  refine k2_callV2L (ci := 9) (N := 38) (T := TX11) rfl (lsh_558 hL) m_X11_at dX11_findsMiddle_4 wl_X11_84 (Nat.le_of_ble_eq_true rfl) (s_X11_at hL (k32i (by omega)) (k32i (by omega)) (by omega) ⟨_, rfl, ?_⟩)
  refine kw_aload_n dX11_findsMiddle_7 rfl ?_
  refine kw_iload_n dX11_findsMiddle_8 rfl ?_
  refine kw_iconst dX11_findsMiddle_9 ?_
  refine k2_callV2L (ci := 9) (N := 38) (T := TX11) rfl (lsh_558 hL) m_X11_at dX11_findsMiddle_10 wl_X11_84 (Nat.le_of_ble_eq_true rfl) (s_X11_at hL (k32i (by omega)) (k32i (by omega)) (by omega) ⟨_, rfl, ?_⟩)
  refine kw_lsub dX11_findsMiddle_13 ?_
  refine kw_lstore_n dX11_findsMiddle_14 (Nat.le_of_ble_eq_true rfl) ?_
  refine kw_aload_n dX11_findsMiddle_15 rfl ?_
  refine kw_iload_n dX11_findsMiddle_16 rfl ?_
  refine kw_iconst dX11_findsMiddle_17 ?_
  refine k2_callV2L (ci := 9) (N := 38) (T := TX11) rfl (lsh_558 hL) m_X11_at dX11_findsMiddle_18 wl_X11_84 (Nat.le_of_ble_eq_true rfl) (s_X11_at hL (k32i (by omega)) (k32i (by omega)) (by omega) ⟨_, rfl, ?_⟩)
  refine kw_aload_n dX11_findsMiddle_21 rfl ?_
  refine kw_iload_n dX11_findsMiddle_22 rfl ?_
  refine kw_iconst dX11_findsMiddle_23 ?_
  refine k2_callV2L (ci := 9) (N := 38) (T := TX11) rfl (lsh_558 hL) m_X11_at dX11_findsMiddle_24 wl_X11_84 (Nat.le_of_ble_eq_true rfl) (s_X11_at hL (k32i (by omega)) (k32i (by omega)) (by omega) ⟨_, rfl, ?_⟩)
  refine k2_callS2L m_X11_gcd dX11_findsMiddle_27 wl_X11_76 (Nat.le_of_ble_eq_true rfl) (kC2_mono H (fun r c2 H => ?_))
  obtain ⟨z1, rfl, H⟩ := H
  refine ⟨z1, rfl, ?_⟩
  refine kw_lload_n dX11_findsMiddle_30 rfl ?_
  refine k2_callS2L m_X11_gcd dX11_findsMiddle_31 wl_X11_76 (Nat.le_of_ble_eq_true rfl) (kC2_mono H (fun r c4 H => ?_))
  obtain ⟨z3, rfl, H⟩ := H
  refine ⟨z3, rfl, ?_⟩
  refine kw_lstore dX11_findsMiddle_34 (Nat.le_of_ble_eq_true rfl) ?_
  refine kw_lload_n dX11_findsMiddle_36 rfl ?_
  refine kw_lconst0 dX11_findsMiddle_37 ?_
  have o5 := H.1
  have H := H.2
  refine kw_lcmp_ge 48 dX11_findsMiddle_38 dX11_findsMiddle_39 (by decide) o5 (k64i (by omega)) (fun h6 => ?_) (fun h6 => ?_)
  · have H := H.1 h6
    refine kw_lload dX11_findsMiddle_48 rfl ?_
    exact kw_forget (ls' := [some (kA 558), some (kI x1), some (kL ((c 559 ((16 * x1) + 8)) - (c 559 ((16 * x1) + 4)))), none, none, none, none, none, none, none]) ⟨Or.inr rfl, ⟨Or.inr rfl, ⟨Or.inr rfl, ⟨Or.inr rfl, ⟨Or.inl rfl, ⟨Or.inr rfl, ⟨Or.inr rfl, ⟨Or.inr rfl, ⟨Or.inr rfl, ⟨Or.inr rfl, trivial⟩⟩⟩⟩⟩⟩⟩⟩⟩⟩ H
  · have H := H.2 h6
    refine kw_lload dX11_findsMiddle_42 rfl ?_
    refine kw_lneg dX11_findsMiddle_44 ?_
    refine kw_goto 50 dX11_findsMiddle_45 (by decide) ?_
    exact kw_forget (ls' := [some (kA 558), some (kI x1), some (kL ((c 559 ((16 * x1) + 8)) - (c 559 ((16 * x1) + 4)))), none, none, none, none, none, none, none]) ⟨Or.inr rfl, ⟨Or.inr rfl, ⟨Or.inr rfl, ⟨Or.inr rfl, ⟨Or.inl rfl, ⟨Or.inr rfl, ⟨Or.inr rfl, ⟨Or.inr rfl, ⟨Or.inr rfl, ⟨Or.inr rfl, trivial⟩⟩⟩⟩⟩⟩⟩⟩⟩⟩ H
set_option maxRecDepth 4000 in
theorem v_X11_findsMiddle_50 {G : KG} {S0 : KSh} (hL : kLay S0) {d : Nat} {P : Option AV → KMem → Prop} {c : KMem} {y0 : Int} {x1 x2 : Int} (r1 : -2147483648 ≤ x1 ∧ x1 < 2147483648) (hp : 0 ≤ x1 ∧ x1 < 100) (H : (k64 (c 559 ((16 * x1) + 1))) ∧ ((k64 y0) ∧ ((y0 ≠ 0) ∧ ((k64 (c 559 ((16 * x1) + 2))) ∧ ((k64 x2) ∧ (kW2 G S0 kM_X11_findsMiddle (d + 3) 86 [some (kA 558), some (kI x1), some (kL x2), none, none, none, none, none, none, none] [] (kup (kup (kup c 558 31 (Int.tdiv (c 559 ((16 * x1) + 1)) y0)) 558 32 (Int.tdiv (c 559 ((16 * x1) + 2)) y0)) 558 33 (Int.tdiv x2 y0)) P)))))) : kW2 G S0 kM_X11_findsMiddle (d + 3) 50 [some (kA 558), some (kI x1), some (kL x2), none, none, none, none, none, none, none] [kL y0] c P := by
  refine kw_lstore dX11_findsMiddle_50 (Nat.le_of_ble_eq_true rfl) ?_
  refine kw_aload_n dX11_findsMiddle_52 rfl ?_
  refine kw_aload_n dX11_findsMiddle_53 rfl ?_
  refine kw_iload_n dX11_findsMiddle_54 rfl ?_
  refine kw_iconst dX11_findsMiddle_55 ?_
  refine k2_callV2L (ci := 9) (N := 38) (T := TX11) rfl (lsh_558 hL) m_X11_at dX11_findsMiddle_56 wl_X11_84 (Nat.le_of_ble_eq_true rfl) (s_X11_at hL (k32i (by omega)) (k32i (by omega)) (by omega) ⟨_, rfl, ?_⟩)
  refine kw_lload dX11_findsMiddle_59 rfl ?_
  have o7 := H.1
  have H := H.2
  have o8 := H.1
  have H := H.2
  have o9 := H.1
  have H := H.2
  refine kw_ldiv dX11_findsMiddle_61 o7 o8 o9 ?_
  refine k2_putL fp_X11_31 dX11_findsMiddle_62 wf_X11_307 (lsh_558 hL) ?_
  refine kw_aload_n dX11_findsMiddle_65 rfl ?_
  refine kw_aload_n dX11_findsMiddle_66 rfl ?_
  refine kw_iload_n dX11_findsMiddle_67 rfl ?_
  refine kw_iconst dX11_findsMiddle_68 ?_
  refine k2_callV2L (ci := 9) (N := 38) (T := TX11) rfl (lsh_558 hL) m_X11_at dX11_findsMiddle_69 wl_X11_84 (Nat.le_of_ble_eq_true rfl) (s_X11_at hL (k32i (by omega)) (k32i (by omega)) (by omega) ⟨_, rfl, ?_⟩)
  refine kw_eL (kup_n (Or.inl (by decide))) ?_
  refine kw_lload dX11_findsMiddle_72 rfl ?_
  have o10 := H.1
  have H := H.2
  refine kw_ldiv dX11_findsMiddle_74 o10 o8 o9 ?_
  refine k2_putL fp_X11_32 dX11_findsMiddle_75 wf_X11_311 (lsh_558 hL) ?_
  refine kw_aload_n dX11_findsMiddle_78 rfl ?_
  refine kw_lload_n dX11_findsMiddle_79 rfl ?_
  refine kw_lload dX11_findsMiddle_80 rfl ?_
  have o11 := H.1
  have H := H.2
  refine kw_ldiv dX11_findsMiddle_82 o11 o8 o9 ?_
  refine k2_putL fp_X11_33 dX11_findsMiddle_83 wf_X11_314 (lsh_558 hL) ?_
  exact kw_forget (ls' := [some (kA 558), some (kI x1), some (kL x2), none, none, none, none, none, none, none]) ⟨Or.inr rfl, ⟨Or.inr rfl, ⟨Or.inr rfl, ⟨Or.inr rfl, ⟨Or.inr rfl, ⟨Or.inr rfl, ⟨Or.inl rfl, ⟨Or.inr rfl, ⟨Or.inr rfl, ⟨Or.inr rfl, trivial⟩⟩⟩⟩⟩⟩⟩⟩⟩⟩ H
set_option maxRecDepth 4000 in
theorem v_X11_findsMiddle_86 {G : KG} {S0 : KSh} (hL : kLay S0) {d : Nat} {P : Option AV → KMem → Prop} {c : KMem} {x1 x2 : Int} (r1 : -2147483648 ≤ x1 ∧ x1 < 2147483648) (hp : 0 ≤ x1 ∧ x1 < 100) (H : kW2 G S0 kM_X11_findsMiddle (d + 3) 145 [some (kA 558), none, some (kL x2), none, none, none, none, none, some (kL (((((c 559 ((16 * x1) + 1)) * (c 559 ((16 * x1) + 1))) + ((c 559 ((16 * x1) + 2)) * (c 559 ((16 * x1) + 2)))) + ((c 559 ((16 * x1) + 4)) * (c 559 ((16 * x1) + 4)))) - ((c 559 ((16 * x1) + 8)) * (c 559 ((16 * x1) + 8))))), none] [] c P) : kW2 G S0 kM_X11_findsMiddle (d + 3) 86 [some (kA 558), some (kI x1), some (kL x2), none, none, none, none, none, none, none] [] c P := by
  refine kw_aload_n dX11_findsMiddle_86 rfl ?_
  refine kw_iload_n dX11_findsMiddle_87 rfl ?_
  refine kw_iconst dX11_findsMiddle_88 ?_
  refine k2_callV2L (ci := 9) (N := 38) (T := TX11) rfl (lsh_558 hL) m_X11_at dX11_findsMiddle_89 wl_X11_84 (Nat.le_of_ble_eq_true rfl) (s_X11_at hL (k32i (by omega)) (k32i (by omega)) (by omega) ⟨_, rfl, ?_⟩)
  refine kw_aload_n dX11_findsMiddle_92 rfl ?_
  refine kw_iload_n dX11_findsMiddle_93 rfl ?_
  refine kw_iconst dX11_findsMiddle_94 ?_
  refine k2_callV2L (ci := 9) (N := 38) (T := TX11) rfl (lsh_558 hL) m_X11_at dX11_findsMiddle_95 wl_X11_84 (Nat.le_of_ble_eq_true rfl) (s_X11_at hL (k32i (by omega)) (k32i (by omega)) (by omega) ⟨_, rfl, ?_⟩)
  refine kw_lmul dX11_findsMiddle_98 ?_
  refine kw_aload_n dX11_findsMiddle_99 rfl ?_
  refine kw_iload_n dX11_findsMiddle_100 rfl ?_
  refine kw_iconst dX11_findsMiddle_101 ?_
  refine k2_callV2L (ci := 9) (N := 38) (T := TX11) rfl (lsh_558 hL) m_X11_at dX11_findsMiddle_102 wl_X11_84 (Nat.le_of_ble_eq_true rfl) (s_X11_at hL (k32i (by omega)) (k32i (by omega)) (by omega) ⟨_, rfl, ?_⟩)
  refine kw_aload_n dX11_findsMiddle_105 rfl ?_
  refine kw_iload_n dX11_findsMiddle_106 rfl ?_
  refine kw_iconst dX11_findsMiddle_107 ?_
  refine k2_callV2L (ci := 9) (N := 38) (T := TX11) rfl (lsh_558 hL) m_X11_at dX11_findsMiddle_108 wl_X11_84 (Nat.le_of_ble_eq_true rfl) (s_X11_at hL (k32i (by omega)) (k32i (by omega)) (by omega) ⟨_, rfl, ?_⟩)
  refine kw_lmul dX11_findsMiddle_111 ?_
  refine kw_ladd dX11_findsMiddle_112 ?_
  refine kw_aload_n dX11_findsMiddle_113 rfl ?_
  refine kw_iload_n dX11_findsMiddle_114 rfl ?_
  refine kw_iconst dX11_findsMiddle_115 ?_
  refine k2_callV2L (ci := 9) (N := 38) (T := TX11) rfl (lsh_558 hL) m_X11_at dX11_findsMiddle_116 wl_X11_84 (Nat.le_of_ble_eq_true rfl) (s_X11_at hL (k32i (by omega)) (k32i (by omega)) (by omega) ⟨_, rfl, ?_⟩)
  refine kw_aload_n dX11_findsMiddle_119 rfl ?_
  refine kw_iload_n dX11_findsMiddle_120 rfl ?_
  refine kw_iconst dX11_findsMiddle_121 ?_
  refine k2_callV2L (ci := 9) (N := 38) (T := TX11) rfl (lsh_558 hL) m_X11_at dX11_findsMiddle_122 wl_X11_84 (Nat.le_of_ble_eq_true rfl) (s_X11_at hL (k32i (by omega)) (k32i (by omega)) (by omega) ⟨_, rfl, ?_⟩)
  refine kw_lmul dX11_findsMiddle_125 ?_
  refine kw_ladd dX11_findsMiddle_126 ?_
  refine kw_aload_n dX11_findsMiddle_127 rfl ?_
  refine kw_iload_n dX11_findsMiddle_128 rfl ?_
  refine kw_bipush dX11_findsMiddle_129 (by decide) ?_
  refine k2_callV2L (ci := 9) (N := 38) (T := TX11) rfl (lsh_558 hL) m_X11_at dX11_findsMiddle_131 wl_X11_84 (Nat.le_of_ble_eq_true rfl) (s_X11_at hL (k32i (by omega)) (k32i (by omega)) (by omega) ⟨_, rfl, ?_⟩)
  refine kw_aload_n dX11_findsMiddle_134 rfl ?_
  refine kw_iload_n dX11_findsMiddle_135 rfl ?_
  refine kw_bipush dX11_findsMiddle_136 (by decide) ?_
  refine k2_callV2L (ci := 9) (N := 38) (T := TX11) rfl (lsh_558 hL) m_X11_at dX11_findsMiddle_138 wl_X11_84 (Nat.le_of_ble_eq_true rfl) (s_X11_at hL (k32i (by omega)) (k32i (by omega)) (by omega) ⟨_, rfl, ?_⟩)
  refine kw_lmul dX11_findsMiddle_141 ?_
  refine kw_lsub dX11_findsMiddle_142 ?_
  refine kw_lstore dX11_findsMiddle_143 (Nat.le_of_ble_eq_true rfl) ?_
  exact kw_forget (ls' := [some (kA 558), none, some (kL x2), none, none, none, none, none, some (kL (((((c 559 ((16 * x1) + 1)) * (c 559 ((16 * x1) + 1))) + ((c 559 ((16 * x1) + 2)) * (c 559 ((16 * x1) + 2)))) + ((c 559 ((16 * x1) + 4)) * (c 559 ((16 * x1) + 4)))) - ((c 559 ((16 * x1) + 8)) * (c 559 ((16 * x1) + 8))))), none]) ⟨Or.inr rfl, ⟨Or.inl rfl, ⟨Or.inr rfl, ⟨Or.inr rfl, ⟨Or.inr rfl, ⟨Or.inr rfl, ⟨Or.inr rfl, ⟨Or.inr rfl, ⟨Or.inr rfl, ⟨Or.inr rfl, trivial⟩⟩⟩⟩⟩⟩⟩⟩⟩⟩ H
set_option maxRecDepth 4000 in
theorem v_X11_findsMiddle_145 {G : KG} {S0 : KSh} (hL : kLay S0) {d : Nat} {P : Option AV → KMem → Prop} {c : KMem} {x2 x8 : Int}  (H : kC2 G S0 kM_X11_lowest (d + 2) [kL x8, kL (x2 * x2), kI 0] c (kRL (fun z12 c13 => kC2 G S0 kM_X11_lowest (d + 2) [kL x8, kL (x2 * x2), kI 1] (kup c13 558 34 z12) (kRL (fun z14 c15 => P none (kup c15 558 35 z14)))))) : kW2 G S0 kM_X11_findsMiddle (d + 3) 145 [some (kA 558), none, some (kL x2), none, none, none, none, none, some (kL x8), none] [] c P := by
  refine kw_aload_n dX11_findsMiddle_145 rfl ?_
  refine kw_lload dX11_findsMiddle_146 rfl ?_
  refine kw_lload_n dX11_findsMiddle_148 rfl ?_
  refine kw_lload_n dX11_findsMiddle_149 rfl ?_
  refine kw_lmul dX11_findsMiddle_150 ?_
  refine kw_iconst dX11_findsMiddle_151 ?_
  refine k2_callS3L m_X11_lowest dX11_findsMiddle_152 wl_X11_317 (Nat.le_of_ble_eq_true rfl) (kC2_mono H (fun r c13 H => ?_))
  obtain ⟨z12, rfl, H⟩ := H
  refine ⟨z12, rfl, ?_⟩
  refine k2_putL fp_X11_34 dX11_findsMiddle_155 wf_X11_321 (lsh_558 hL) ?_
  refine kw_aload_n dX11_findsMiddle_158 rfl ?_
  refine kw_lload dX11_findsMiddle_159 rfl ?_
  refine kw_lload_n dX11_findsMiddle_161 rfl ?_
  refine kw_lload_n dX11_findsMiddle_162 rfl ?_
  refine kw_lmul dX11_findsMiddle_163 ?_
  refine kw_iconst dX11_findsMiddle_164 ?_
  refine k2_callS3L m_X11_lowest dX11_findsMiddle_165 wl_X11_317 (Nat.le_of_ble_eq_true rfl) (kC2_mono H (fun r c15 H => ?_))
  obtain ⟨z14, rfl, H⟩ := H
  refine ⟨z14, rfl, ?_⟩
  refine k2_putL fp_X11_35 dX11_findsMiddle_168 wf_X11_324 (lsh_558 hL) ?_
  refine k2_ret dX11_findsMiddle_171 rfl H
set_option maxRecDepth 4000 in
theorem v_X11_hasMiddle {G : KG} {S0 : KSh} (hL : kLay S0) {d : Nat} {P : Option AV → KMem → Prop} {c : KMem} {x0 : Int} (r0 : -2147483648 ≤ x0 ∧ x0 < 2147483648) (H : ((2 ≤ x0 ∧ x0 ≤ 4) → (P (some (kI 1)) c)) ∧ (¬ (2 ≤ x0 ∧ x0 ≤ 4) → (((12 ≤ x0 ∧ x0 ≤ 14) → (P (some (kI 1)) c)) ∧ (¬ (12 ≤ x0 ∧ x0 ≤ 14) → (P (some (kI 0)) c))))) : kC2 G S0 kM_X11_hasMiddle (d + 1) [kI x0] c P := by
  refine k2_met (by decide) rfl (Nat.le_of_ble_eq_true rfl) (l0 := [some (kI x0)]) rfl ?_
  refine kw_iload_n dX11_hasMiddle_0 rfl ?_
  refine kw_iconst dX11_hasMiddle_1 ?_
  refine kw_iconst dX11_hasMiddle_2 ?_
  refine k2_callS3I m_X11_in dX11_hasMiddle_3 wl_X11_100 (Nat.le_of_ble_eq_true rfl) (s_X11_in hL (k32i (by omega)) (k32i (by omega)) (k32i (by omega)) (fun h1 => ⟨_, rfl, ?_⟩) (fun h1 => ⟨_, rfl, ?_⟩))
  · have H := H.1 h1
    refine kw_if_ne 20 dX11_hasMiddle_6 (by decide) (k32i (by omega)) (fun _ => ?_) (fun h2 => absurd h2 (by decide))
    refine kw_iconst dX11_hasMiddle_20 ?_
    refine kw_goto 25 dX11_hasMiddle_21 (by decide) ?_
    refine k2_zret dX11_hasMiddle_25 rfl (Or.inr rfl) H
  · have H := H.2 h1
    refine kw_if_ne 20 dX11_hasMiddle_6 (by decide) (k32i (by omega)) (fun h3 => absurd h3 (by decide)) (fun _ => ?_)
    refine kw_iload_n dX11_hasMiddle_9 rfl ?_
    refine kw_bipush dX11_hasMiddle_10 (by decide) ?_
    refine kw_bipush dX11_hasMiddle_12 (by decide) ?_
    refine k2_callS3I m_X11_in dX11_hasMiddle_14 wl_X11_100 (Nat.le_of_ble_eq_true rfl) (s_X11_in hL (k32i (by omega)) (k32i (by omega)) (k32i (by omega)) (fun h4 => ⟨_, rfl, ?_⟩) (fun h4 => ⟨_, rfl, ?_⟩))
    · have H := H.1 h4
      refine kw_if_eq 24 dX11_hasMiddle_17 (by decide) (k32i (by omega)) (fun h5 => absurd h5 (by decide)) (fun _ => ?_)
      refine kw_iconst dX11_hasMiddle_20 ?_
      refine kw_goto 25 dX11_hasMiddle_21 (by decide) ?_
      refine k2_zret dX11_hasMiddle_25 rfl (Or.inr rfl) H
    · have H := H.2 h4
      refine kw_if_eq 24 dX11_hasMiddle_17 (by decide) (k32i (by omega)) (fun _ => ?_) (fun h6 => absurd h6 (by decide))
      refine kw_iconst dX11_hasMiddle_24 ?_
      refine k2_zret dX11_hasMiddle_25 rfl (Or.inl rfl) H
section MQ3
variable {G : KG} {S0 : KSh} {d : Nat} {P : Option AV → KMem → Prop} {c c0 : KMem} {Φ : Int → KF} {H : Int → Bool} {F : Int → KF} {f g : KF} {M : Int} {x0 x1 x2 x3 x4 : Int}
theorem s_X11_standing (hL : kLay S0) (hs : RSt H F c) (h : P (some (kI (kHn H 12))) c) : kC2 G S0 kM_X11_standing d [kA 558] c P := by
  have loop : ∀ n k : Nat, k + n = 12 → kW2 G S0 kM_X11_standing d 4 [some (kA 558), some (kI (kHn H k)), some (kI k)] [] c P := by
    intro n
    induction n with
    | zero =>
      intro k hk
      obtain rfl : k = 12 := by omega
      have hb := kHn_le H 12
      exact v_X11_standing_4 hL (by omega) (by omega) ⟨fun _ => h, fun q => by omega⟩
    | succ n ih =>
      intro k hk
      have hb := kHn_le H k
      obtain ⟨s1, s2, s3⟩ := hs.st (l := k) (by omega) (by omega)
      have e1 : kHn H (k + 1) = if H k = true then kHn H k + 1 else kHn H k := rfl
      have := ih (k + 1) (by omega)
      refine v_X11_standing_4 hL (by omega) (by omega) ⟨fun q => by omega, fun _ => ⟨s1, fun q => ?_, fun q => ?_⟩⟩
      · rw [e1, if_neg (s3 q)] at this; exact this
      · rw [e1, if_pos (s2 q)] at this; exact this
  exact v_X11_standing hL (loop 12 0 (by omega))
theorem t_partsOf (hL : kLay S0) (hs : kPh Φ c0 c) (h : P (some (kI (kcnN 16 f))) c) (e : Φ x1 = f := by repeat (first | with_reducible exact kUs | with_reducible assumption | (with_reducible apply kUn; omega) | exact rfl)) (hb : kB M f := by repeat' (first | with_reducible assumption | with_reducible exact farP_bdL | with_reducible apply vecP_bd | with_reducible apply nrmP_bd | with_reducible apply revP_bd | with_reducible apply whlP_bd (Or.inr rfl) | with_reducible apply whlP_bd (Or.inl rfl) | with_reducible apply mulP_bdL | with_reducible exact plcP_bd (by omega) (by omega))) (hM : M < 9223372036854775807 := by decide) (hp : 0 ≤ x1 ∧ x1 < 100 := by omega) : kC2 G S0 kM_X11_partsOf (d + 1) [kA 558, kI x1] c P := by
  have E := hs.e hp.1 e
  have loop : ∀ n k : Nat, k + n = 16 → kW2 G S0 kM_X11_partsOf (d + 1) 4 [some (kA 558), some (kI x1), some (kI (kcnN k f)), some (kI k)] [] c P := by
    intro n
    induction n with
    | zero =>
      intro k hk
      obtain rfl : k = 16 := by omega
      have hb := kcnN_le f 16
      exact v_X11_partsOf_4 hL (by omega) (by omega) (by omega) hp ⟨fun _ => h, fun q => by omega⟩
    | succ n ih =>
      intro k hk
      have hb2 := kcnN_le f k
      have e1 : kcnN (k + 1) f = if f k = 0 then kcnN k f else kcnN k f + 1 := rfl
      have e2 : c 559 (16 * x1 + k) = f k := E k (by omega) (by omega)
      have := ih (k + 1) (by omega)
      refine v_X11_partsOf_4 hL (by omega) (by omega) (by omega) hp ⟨fun q => by omega, fun _ => ?_⟩
      rw [e2]
      refine ⟨kb64 hb hM k (by omega) (by omega), fun q => ?_, fun q => ?_⟩
      · rw [e1, if_pos q] at this; exact this
      · rw [e1, if_neg q] at this; exact this
  exact v_X11_partsOf hL (by omega) (loop 16 0 (by omega))
theorem t_orderOf (hL : kLay S0) (hg : kSgn c0) (hs : kPh Φ c0 c) (h : ∀ Φ' c', kPh Φ' c0 c' → (∀ s : Int, 0 ≤ s → s < 12 ∨ s = 30 → Φ' s = Φ s) → P (some (kI (kOrd f))) c') (e : Φ x1 = f := by repeat (first | with_reducible exact kUs | with_reducible assumption | (with_reducible apply kUn; omega) | exact rfl)) (e3 : Φ 30 = farP := by repeat (first | with_reducible exact kUs | with_reducible assumption | (with_reducible apply kUn; omega) | exact rfl)) (hb : kB kLB f := by assumption) (hp : 0 ≤ x1 ∧ x1 < 12 := by omega) : kC2 G S0 kM_X11_orderOf (d + 6) [kA 558, kI x1] c P := by
  have hp' : 0 ≤ x1 ∧ x1 < 12 := hp
  unfold kOrd at h
  refine v_X11_orderOf hL (by omega) (t_isMotion hL hg hs (fun c1 a b hs q => ⟨1, rfl, kq1 ?_⟩) (fun c1 a b hs q => ⟨0, rfl, kq0 ?_⟩))
  · rw [if_pos q] at h
    refine t_copies hL hs (fun c2 hs => ⟨rfl, ?_⟩)
    refine t_normals hL hs (fun c3 hs => ⟨rfl, ?_⟩)
    have loop : ∀ (m : Nat) (n : Int) (A : KF) (Φ' : Int → KF) (c' : KMem), n + m = 25 → 1 ≤ n → kPh Φ' c0 c' → (∀ s : Int, 0 ≤ s → s < 12 ∨ s = 30 → Φ' s = Φ s) → Φ' 24 = A → kB kLB A → (∀ Φ' c', kPh Φ' c0 c' → (∀ s : Int, 0 ≤ s → s < 12 ∨ s = 30 → Φ' s = Φ s) → P (some (kI (kOrdN f m A n))) c') → kW2 G S0 kM_X11_orderOf (d + 6) 26 [some (kA 558), some (kI x1), some (kI n)] [] c' P := by
      intro m
      induction m with
      | zero =>
        intro n A Φ' c' hn h1 hs hk eA bA h
        exact v_X11_orderOf_26 hL (by omega) (by omega) ⟨fun _ => h Φ' c' hs hk, fun q => by omega⟩
      | succ m ih =>
        intro n A Φ' c' hn h1 hs hk eA bA h
        have e' : Φ' x1 = f := (hk x1 (by omega) (by omega)).trans e
        have e3' : Φ' 30 = farP := (hk 30 (by omega) (by omega)).trans e3
        have hkr := kind_rg A
        have hd : kOrdN f (m + 1) A n = if kind A = 1 then n else if kWb (mulP 0 A f) = true then kOrdN f m (nrmP (mulP 0 A f)) (n + 1) else -2 := rfl
        rw [hd] at h
        refine v_X11_orderOf_26 hL (by omega) (by omega) ⟨fun q => by omega, fun _ => ?_⟩
        refine t_kindOf hL hg hs (fun c1 a b hs => ⟨_, rfl, ?_⟩)
        refine ⟨k32i (by omega), fun q => ?_, fun q => ?_⟩
        · rw [if_neg q] at h
          refine t_joins hL hg hs (fun c2 hs => ⟨rfl, ?_⟩)
          refine t_isWithin hL hs (fun z => ⟨1, rfl, kq1 ?_⟩) (fun z => ⟨0, rfl, kq0 ?_⟩)
          · rw [if_pos z] at h
            refine t_normals hL hs (fun c3 hs => ⟨rfl, ?_⟩)
            exact ih (n + 1) _ _ _ (by omega) (by omega) hs (by intro s p q; repeat (first | exact rfl | refine kUn (by omega) ?_ | exact hk s p q)) kUs (nrmP_bd (kWb_iff.mp z)) h
          · rw [if_neg z] at h
            exact h _ _ hs (by intro s p q; repeat (first | exact rfl | refine kUn (by omega) ?_ | exact hk s p q))
        · rw [if_pos q] at h
          exact h _ _ hs (by intro s p q; repeat (first | exact rfl | refine kUn (by omega) ?_ | exact hk s p q))
    exact loop 24 1 _ _ _ (by omega) (by omega) hs (by intro s p q; repeat (first | exact rfl | refine kUn (by omega) ?_ | exact hk s p q)) kUs (nrmP_bd hb) h
  · rw [if_neg q] at h
    exact h _ _ hs (by intro s p q; repeat (first | exact rfl | refine kUn (by omega) ?_ | exact hk s p q))
theorem s_X11_formIs (hL : kLay S0) (r1 : k32 x1) (r2 : k32 x2) (hs : RSt H F c) (h : ∀ c', kRP c c' → P (some (kI (vFormIs H F x1 x2))) c') : kC2 G S0 kM_X11_formIs (d + 7) [kA 558, kI x1, kI x2] c P := by
  obtain ⟨Φ, s0, hg, hst, hy, hn, e3, hl⟩ := hs.op
  have hP := kPi h
  refine v_X11_formIs hL r1 r2 ⟨hst, fun z1 => ?_, fun z1 => hP _ _ kRP.rf (by unfold vFormIs; rw [if_neg (fun q => hn _ z1 q.1)])⟩
  have y1 := hy _ z1
  obtain ⟨a1, b1, e1, f1⟩ := hl _ y1
  have hk := kind_rg (F x1)
  refine ⟨fun z2 => ?_, fun z2 => hP _ _ kRP.rf (by unfold vFormIs; rw [if_neg (fun q => z2 q.2)])⟩
  have u : vFormIs H F x1 x2 = _ := if_pos ⟨y1, z2⟩
  rw [u] at hP
  refine ⟨fun z => ?_, fun z => ?_, fun z => ?_, fun z => ?_, fun z => ?_⟩
  · refine t_partsOf hL s0 ⟨_, rfl, ?_⟩
    exact hP _ _ kRP.rf (by rw [if_neg (by omega), if_neg (by omega), if_neg (by omega), if_neg (by omega)])
  · refine t_kindOf hL hg s0 (fun c1 a b hs => ⟨_, rfl, ?_⟩)
    exact hP _ _ (s0.rp hs kFr.rf (by intro s p q; repeat (first | exact rfl | refine kUn (by omega) ?_ | exact hk s p q))) (by rw [if_pos z])
  · refine t_gradesOf hL s0 ⟨_, rfl, ?_⟩
    exact hP _ _ kRP.rf (by rw [if_neg (by omega), if_pos z])
  · refine t_isMotion hL hg s0 (fun c1 a b hs q => ⟨1, rfl, kr1 ?_⟩) (fun c1 a b hs q => ⟨0, rfl, kr0 ?_⟩)
    · exact hP _ _ (s0.rp hs kFr.rf (by intro s p q; repeat (first | exact rfl | refine kUn (by omega) ?_ | exact hk s p q))) (by rw [if_neg (by omega), if_neg (by omega), if_pos z, if_pos q])
    · exact hP _ _ (s0.rp hs kFr.rf (by intro s p q; repeat (first | exact rfl | refine kUn (by omega) ?_ | exact hk s p q))) (by rw [if_neg (by omega), if_neg (by omega), if_pos z, if_neg q])
  · refine t_orderOf hL hg s0 (fun Φ' c' hs hk => ⟨_, rfl, ?_⟩)
    exact hP _ _ (s0.rp hs kFr.rf hk) (by rw [if_neg (by omega), if_neg (by omega), if_neg (by omega), if_pos z])
theorem s_X11_hasMiddle (hL : kLay S0) (r0 : k32 x0) (h1 : kMid x0 → P (some (kI 1)) c) (h0 : ¬ kMid x0 → P (some (kI 0)) c) : kC2 G S0 kM_X11_hasMiddle (d + 1) [kI x0] c P := by
  unfold kMid at h1 h0
  exact v_X11_hasMiddle hL r0 ⟨fun a => h1 (Or.inl a), fun a => ⟨fun b => h1 (Or.inr b), fun b => h0 (by omega)⟩⟩
/-- after a MIDDLE was found -/
def kMd (c0 : KMem) (f : KF) : KMem := kup (kup (kup (kup (kup c0 558 31 (mdX f)) 558 32 (mdY f)) 558 33 (mdL f)) 558 34 (mdS f 0)) 558 35 (mdS f 1)
theorem kMd_31 : kMd c0 f 558 31 = mdX f := (kup_n (Or.inr (by decide))).trans ((kup_n (Or.inr (by decide))).trans ((kup_n (Or.inr (by decide))).trans ((kup_n (Or.inr (by decide))).trans (kup_s _ _ _ _))))
theorem kMd_32 : kMd c0 f 558 32 = mdY f := (kup_n (Or.inr (by decide))).trans ((kup_n (Or.inr (by decide))).trans ((kup_n (Or.inr (by decide))).trans (kup_s _ _ _ _)))
theorem kMd_33 : kMd c0 f 558 33 = mdL f := (kup_n (Or.inr (by decide))).trans ((kup_n (Or.inr (by decide))).trans (kup_s _ _ _ _))
theorem kMd_34 : kMd c0 f 558 34 = mdS f 0 := (kup_n (Or.inr (by decide))).trans (kup_s _ _ _ _)
theorem kMd_35 : kMd c0 f 558 35 = mdS f 1 := kup_s _ _ _ _
theorem kFr.md (h : kFr c c0) : kFr c (kMd c0 f) := ((((h.up (by omega)).up (by omega)).up (by omega)).up (by omega)).up (by omega)
theorem kSgn.md (h : kSgn c) : kSgn (kMd c f) := fun a b ha hb => by
  unfold kMd
  rw [kup_n (Or.inl (by decide)), kup_n (Or.inl (by decide)), kup_n (Or.inl (by decide)), kup_n (Or.inl (by decide)), kup_n (Or.inl (by decide))]
  exact h a b ha hb
theorem kgcd_bd {a b : Int} (hb : -400000000 ≤ b ∧ b ≤ 400000000) (h0 : b ≠ 0) : 0 < Int.gcd a b ∧ Int.gcd a b ≤ 400000000 := by
  have h1 : Int.gcd a b ∣ b.natAbs := Nat.gcd_dvd_right _ _
  have h2 := Nat.le_of_dvd (by omega) h1
  have h3 : 0 < Int.gcd a b := Nat.pos_of_ne_zero (fun q => h0 (Int.gcd_eq_zero_iff.mp q).2)
  omega
theorem kgcd_le {a b : Int} {N : Nat} (ha : a.natAbs ≤ N) (hb : b.natAbs ≤ N) : Int.gcd a b ≤ N := by
  by_cases h0 : b = 0
  · subst h0; rw [Int.gcd_zero_right]; exact ha
  · have h1 : Int.gcd a b ∣ b.natAbs := Nat.gcd_dvd_right _ _
    have h2 := Nat.le_of_dvd (by omega) h1
    omega
theorem t_findsMiddle (hL : kLay S0) (hs : kPh Φ c0 c) (hne : f 4 ≠ f 8) (h : ∀ c', kPh Φ (kMd c0 f) c' → P none c') (e : Φ x1 = f := by repeat (first | with_reducible exact kUs | with_reducible assumption | (with_reducible apply kUn; omega) | exact rfl)) (hb : kB kLB f := by repeat' (first | with_reducible assumption | with_reducible exact farP_bdL | with_reducible apply vecP_bd | with_reducible apply nrmP_bd | with_reducible apply revP_bd | with_reducible apply whlP_bd (Or.inr rfl) | with_reducible apply whlP_bd (Or.inl rfl) | with_reducible apply mulP_bdL | with_reducible exact plcP_bd (by omega) (by omega))) (hp : 0 ≤ x1 ∧ x1 < 100 := by omega) : kC2 G S0 kM_X11_findsMiddle (d + 3) [kA 558, kI x1] c P := by
  have E := hs.e hp.1 e
  have E1 : c 559 (16 * x1 + 1) = f 1 := E 1 (by omega) (by omega)
  have E2 : c 559 (16 * x1 + 2) = f 2 := E 2 (by omega) (by omega)
  have E4 : c 559 (16 * x1 + 4) = f 4 := E 4 (by omega) (by omega)
  have E8 : c 559 (16 * x1 + 8) = f 8 := E 8 (by omega) (by omega)
  have b1 : -100000000 ≤ f 1 ∧ f 1 ≤ 100000000 := hb 1 (by omega) (by omega)
  have b2 : -100000000 ≤ f 2 ∧ f 2 ≤ 100000000 := hb 2 (by omega) (by omega)
  have b4 : -100000000 ≤ f 4 ∧ f 4 ≤ 100000000 := hb 4 (by omega) (by omega)
  have b8 : -100000000 ≤ f 8 ∧ f 8 ≤ 100000000 := hb 8 (by omega) (by omega)
  have hq := kQ4_bd hb
  have he2 := kmul_bd (a := f 8 - f 4) (b := f 8 - f 4) (M := 200000000) (N := 200000000) (by omega) (by omega)
  have e22 : (200000000 : Int) * 200000000 = 40000000000000000 := by decide
  rw [e22] at he2
  have hgg : Int.gcd (f 1) (f 2) ≤ 100000000 := kgcd_le (by omega) (by omega)
  obtain ⟨p1, p2⟩ := kgcd_bd (a := (Int.gcd (f 1) (f 2) : Int)) (b := f 8 - f 4) (by omega) (by omega)
  have hz : (f 8 - f 4) * (f 8 - f 4) ≠ 0 := fun q => by rcases Int.mul_eq_zero.mp q with q | q <;> omega
  have rest : ∀ (g : Int) (c : KMem), (∀ c' : KMem, kPh Φ (kMd c0 f) c' → P none c') → kPh Φ c0 c → g = mdG f → k64 g → g ≠ 0 → kW2 G S0 kM_X11_findsMiddle (d + 3) 50 [some (kA 558), some (kI x1), some (kL (f 8 - f 4)), none, none, none, none, none, none, none] [kL g] c P := by
    intro g c h hs eG g64 g0
    have E := hs.e hp.1 e
    have E1 : c 559 (16 * x1 + 1) = f 1 := E 1 (by omega) (by omega)
    have E2 : c 559 (16 * x1 + 2) = f 2 := E 2 (by omega) (by omega)
    refine v_X11_findsMiddle_50 hL (by omega) hp ?_
    rw [E1, E2, eG]
    rw [eG] at g64 g0
    refine ⟨k64i (by omega), g64, g0, k64i (by omega), k64i (by omega), ?_⟩
    have hs1 : kPh Φ _ _ := ((hs.up (a := 558) (i := 31) (v := mdX f) (by omega)).up (a := 558) (i := 32) (v := mdY f) (by omega)).up (a := 558) (i := 33) (v := mdL f) (by omega)
    refine v_X11_findsMiddle_86 hL (by omega) hp ?_
    have F1 := hs1.e hp.1 e 1 (by omega) (by omega)
    have F2 := hs1.e hp.1 e 2 (by omega) (by omega)
    have F4 := hs1.e hp.1 e 4 (by omega) (by omega)
    have F8 := hs1.e hp.1 e 8 (by omega) (by omega)
    unfold mdX mdY mdL mdE at F1 F2 F4 F8
    dsimp only [kF] at F1 F2 F4 F8
    rw [F1, F2, F4, F8]
    refine v_X11_findsMiddle_145 hL ?_
    refine s_X11_lowest hL (k32i (by omega)) (by unfold k63; unfold kQ4 at hq; omega) (by unfold k63; omega) hz ⟨_, rfl, ?_⟩
    refine s_X11_lowest hL (k32i (by omega)) (by unfold k63; unfold kQ4 at hq; omega) (by unfold k63; omega) hz ⟨_, rfl, h _ ?_⟩
    exact (hs1.up (a := 558) (i := 34) (v := mdS f 0) (by omega)).up (a := 558) (i := 35) (v := mdS f 1) (by omega)
  refine v_X11_findsMiddle hL (by omega) hp ?_
  refine s_X11_gcd hL (by rw [E1]; unfold k63; omega) (by rw [E2]; unfold k63; omega) ⟨_, rfl, ?_⟩
  rw [E1, E2, E4, E8]
  refine s_X11_gcd hL (by unfold k63; omega) (by unfold k63; omega) ⟨_, rfl, ?_⟩
  refine ⟨k64i (by omega), fun z => rest _ _ h hs ?_ (k64i (by omega)) (by omega), fun z => rest _ _ h hs ?_ (k64i (by omega)) (by omega)⟩
  · exact (if_neg (by unfold mdE; omega)).symm
  · exact (if_pos (by unfold mdE; omega)).symm
end MQ3
