/-- GROUP: the told ones; one FORM times each; all -/
def gpK (m : Int) (F : Int → KF) : Nat → KLs
  | 0 => (0, fun _ _ => 0)
  | k + 1 => if kbit m k = true then lsAdd (gpK m F k) (nrmP (F k)) else gpK m F k
def gpP (m : Int) (F : Int → KF) (A : KF) : Nat → KLs → KLs
  | 0, S => S
  | k + 1, S => if (gpP m F A k S).1 < 200 ∧ kbit m k = true ∧ kWb (mulP 0 A (F k)) = true then lsAdd (gpP m F A k S) (nrmP (mulP 0 A (F k))) else gpP m F A k S
def gpG (m : Int) (F : Int → KF) : Nat → Nat → KLs → KLs
  | 0, _, S => S
  | n + 1, i, S => if i < S.1 then gpG m F n (i + 1) (gpP m F (S.2 i) 12 S) else S
theorem gpK_le (m : Int) (F : Int → KF) : ∀ k, (gpK m F k).1 ≤ kCn (kbit m) k
  | 0 => Nat.le_refl _
  | k + 1 => by
    have h := gpK_le m F k
    have g := lsAdd_le (gpK m F k) (nrmP (F k))
    have e1 : kCn (kbit m) (k + 1) = if kbit m k = true then kCn (kbit m) k + 1 else kCn (kbit m) k := rfl
    have e2 : gpK m F (k + 1) = if kbit m k = true then lsAdd (gpK m F k) (nrmP (F k)) else gpK m F k := rfl
    rw [e1, e2]
    by_cases q : kbit m k = true
    · rw [if_pos q, if_pos q]; omega
    · rw [if_neg q, if_neg q]; exact h
theorem gpP_le (m : Int) (F : Int → KF) (A : KF) (S : KLs) (hS : S.1 ≤ 200) : ∀ k, S.1 ≤ (gpP m F A k S).1 ∧ (gpP m F A k S).1 ≤ 200 ∧ ∀ i, i < S.1 → (gpP m F A k S).2 i = S.2 i
  | 0 => ⟨Nat.le_refl _, hS, fun _ _ => rfl⟩
  | k + 1 => by
    obtain ⟨h1, h2, h3⟩ := gpP_le m F A S hS k
    obtain ⟨g1, g2, g3⟩ := lsAdd_le (gpP m F A k S) (nrmP (mulP 0 A (F k)))
    have e2 : gpP m F A (k + 1) S = if (gpP m F A k S).1 < 200 ∧ kbit m k = true ∧ kWb (mulP 0 A (F k)) = true then lsAdd (gpP m F A k S) (nrmP (mulP 0 A (F k))) else gpP m F A k S := rfl
    rw [e2]
    by_cases q : (gpP m F A k S).1 < 200 ∧ kbit m k = true ∧ kWb (mulP 0 A (F k)) = true
    · rw [if_pos q]
      exact ⟨by omega, by omega, fun i hi => (g3 i (by omega)).trans (h3 i hi)⟩
    · rw [if_neg q]; exact ⟨h1, h2, h3⟩
theorem gpP_stay (m : Int) (F : Int → KF) (A : KF) (S : KLs) (k : Nat) (h : 200 ≤ (gpP m F A k S).1) : ∀ j, gpP m F A (k + j) S = gpP m F A k S
  | 0 => rfl
  | j + 1 => by
    have ih := gpP_stay m F A S k h j
    have e2 : gpP m F A (k + j + 1) S = if (gpP m F A (k + j) S).1 < 200 ∧ kbit m (k + j) = true ∧ kWb (mulP 0 A (F ((k + j : Nat) : Int))) = true then lsAdd (gpP m F A (k + j) S) (nrmP (mulP 0 A (F ((k + j : Nat) : Int)))) else gpP m F A (k + j) S := rfl
    show gpP m F A (k + j + 1) S = _
    rw [e2, if_neg (fun q => by have := q.1; rw [ih] at this; omega), ih]
def kMotS (F : Int → KF) (m : Int) : Bool := kAll (fun k => !kbit m k || kMot (F k)) 12
theorem kMotS_iff {F : Int → KF} {m : Int} : kMotS F m = true ↔ ∀ k : Nat, k < 12 → kbit m k = true → kMot (F k) = true := by
  unfold kMotS
  rw [kAll_iff]
  constructor
  · intro b k hk h
    have := b k hk
    rw [h] at this
    exact this
  · intro b k hk
    cases w : kbit m k with
    | false => rfl
    | true => rw [b k hk w]; rfl
def vGroup (H : Int → Bool) (F : Int → KF) (m : Int) : Int := if kSetB H m 6 = true then (if kMotS F m = true then ((gpG m F 200 0 (gpK m F 12)).1 : Int) else -3) else -1
set_option maxRecDepth 4000 in
theorem v_X11_group {G : KG} {S0 : KSh} (hL : kLay S0) {d : Nat} {P : Option AV → KMem → Prop} {c : KMem} {x1 : Int} (r1 : -2147483648 ≤ x1 ∧ x1 < 2147483648) (H : kC2 G S0 kM_X11_areLetters (d + 5) [kA 558, kI x1, kI 6] c (kRI (fun z1 c2 => (k32 z1) ∧ ((z1 ≠ 0 → (kW2 G S0 kM_X11_group (d + 6) 14 [some (kA 558), some (kI x1), some (kI 0), none] [] c2 P)) ∧ (z1 = 0 → (P (some (kI (-1))) c2)))))) : kC2 G S0 kM_X11_group (d + 6) [kA 558, kI x1] c P := by
  refine k2_met (by decide) rfl (Nat.le_of_ble_eq_true rfl) (l0 := [some (kA 558), some (kI x1), none, none]) rfl ?_
  refine kw_aload_n dX11_group_0 rfl ?_
  refine kw_iload_n dX11_group_1 rfl ?_
  refine kw_bipush dX11_group_2 (by decide) ?_
  refine k2_callV2I (ci := 9) (N := 38) (T := TX11) rfl (lsh_558 hL) m_X11_areLetters dX11_group_4 wl_X11_418 (Nat.le_of_ble_eq_true rfl) (kC2_mono H (fun r c2 H => ?_))
  obtain ⟨z1, rfl, H⟩ := H
  refine ⟨z1, rfl, ?_⟩
  have o4 := H.1
  have H := H.2
  refine kw_if_ne 12 dX11_group_7 (by decide) o4 (fun h3 => ?_) (fun h3 => ?_)
  · have H := H.1 h3
    refine kw_iconst dX11_group_12 ?_
    refine kw_istore_n dX11_group_13 (Nat.le_of_ble_eq_true rfl) ?_
    exact kw_forget (ls' := [some (kA 558), some (kI x1), some (kI 0), none]) ⟨Or.inr rfl, ⟨Or.inr rfl, ⟨Or.inr rfl, ⟨Or.inr rfl, trivial⟩⟩⟩⟩ H
  · have H := H.2 h3
    refine kw_iconst dX11_group_10 ?_
    refine k2_iret dX11_group_11 rfl H
set_option maxRecDepth 4000 in
theorem v_X11_group_14 {G : KG} {S0 : KSh} (hL : kLay S0) {d : Nat} {P : Option AV → KMem → Prop} {c : KMem} {x1 x2 : Int} (r1 : -2147483648 ≤ x1 ∧ x1 < 2147483648) (r2 : 0 ≤ x2 ∧ x2 < 2147483648) (H : (12 ≤ x2 → (kW2 G S0 kM_X11_group (d + 6) 52 [some (kA 558), some (kI x1), some (kI 0), none] [] (kup c 558 14 0) P)) ∧ (x2 < 12 → (((kand (kshr x1 x2) 1 = 1) → (kC2 G S0 kM_X11_isMotion (d + 5) [kA 558, kI x2] c (kRI (fun z8 c9 => (k32 z8) ∧ ((z8 ≠ 0 → (kW2 G S0 kM_X11_group (d + 6) 14 [some (kA 558), some (kI x1), some (kI (x2 + 1)), none] [] c9 P)) ∧ (z8 = 0 → (P (some (kI (-3))) c9))))))) ∧ (¬ (kand (kshr x1 x2) 1 = 1) → (kW2 G S0 kM_X11_group (d + 6) 14 [some (kA 558), some (kI x1), some (kI (x2 + 1)), none] [] c P))))) : kW2 G S0 kM_X11_group (d + 6) 14 [some (kA 558), some (kI x1), some (kI x2), none] [] c P := by
  refine kw_iload_n dX11_group_14 rfl ?_
  refine kw_bipush dX11_group_15 (by decide) ?_
  refine kw_icmp_ge 45 dX11_group_17 (by decide) (k32i (by omega)) (k32i (by omega)) (fun h5 => ?_) (fun h5 => ?_)
  · have H := H.1 h5
    refine kw_aload_n dX11_group_45 rfl ?_
    refine kw_iconst dX11_group_46 ?_
    refine k2_putI fp_X11_14 dX11_group_47 wf_X11_406 (lsh_558 hL) ?_
    refine kw_iconst dX11_group_50 ?_
    refine kw_istore_n dX11_group_51 (Nat.le_of_ble_eq_true rfl) ?_
    exact kw_forget (ls' := [some (kA 558), some (kI x1), some (kI 0), none]) ⟨Or.inr rfl, ⟨Or.inr rfl, ⟨Or.inr rfl, ⟨Or.inr rfl, trivial⟩⟩⟩⟩ H
  · have H := H.2 h5
    refine kw_iload_n dX11_group_20 rfl ?_
    refine kw_iload_n dX11_group_21 rfl ?_
    refine k2_callS2I m_X11_has dX11_group_22 wl_X11_80 (Nat.le_of_ble_eq_true rfl) (s_X11_has hL (k32i (by omega)) (k32i (by omega)) (fun h6 => ⟨_, rfl, ?_⟩) (fun h6 => ⟨_, rfl, ?_⟩))
    · have H := H.1 h6
      refine kw_if_eq 39 dX11_group_25 (by decide) (k32i (by omega)) (fun h7 => absurd h7 (by decide)) (fun _ => ?_)
      refine kw_aload_n dX11_group_28 rfl ?_
      refine kw_iload_n dX11_group_29 rfl ?_
      refine k2_callV1I (ci := 9) (N := 38) (T := TX11) rfl (lsh_558 hL) m_X11_isMotion dX11_group_30 wl_X11_155 (Nat.le_of_ble_eq_true rfl) (kC2_mono H (fun r c9 H => ?_))
      obtain ⟨z8, rfl, H⟩ := H
      refine ⟨z8, rfl, ?_⟩
      have o11 := H.1
      have H := H.2
      refine kw_if_ne 39 dX11_group_33 (by decide) o11 (fun h10 => ?_) (fun h10 => ?_)
      · have H := H.1 h10
        refine kw_iinc dX11_group_39 rfl ?_
        refine kw_goto 14 dX11_group_42 (by decide) ?_
        exact kw_forget (ls' := [some (kA 558), some (kI x1), some (kI (x2 + 1)), none]) ⟨Or.inr rfl, ⟨Or.inr rfl, ⟨Or.inr rfl, ⟨Or.inr rfl, trivial⟩⟩⟩⟩ H
      · have H := H.2 h10
        refine kw_bipush dX11_group_36 (by decide) ?_
        refine k2_iret dX11_group_38 rfl H
    · have H := H.2 h6
      refine kw_if_eq 39 dX11_group_25 (by decide) (k32i (by omega)) (fun _ => ?_) (fun h12 => absurd h12 (by decide))
      refine kw_iinc dX11_group_39 rfl ?_
      refine kw_goto 14 dX11_group_42 (by decide) ?_
      exact kw_forget (ls' := [some (kA 558), some (kI x1), some (kI (x2 + 1)), none]) ⟨Or.inr rfl, ⟨Or.inr rfl, ⟨Or.inr rfl, ⟨Or.inr rfl, trivial⟩⟩⟩⟩ H
set_option maxRecDepth 4000 in
theorem v_X11_group_52 {G : KG} {S0 : KSh} (hL : kLay S0) {d : Nat} {P : Option AV → KMem → Prop} {c : KMem} {x1 x2 : Int} (r1 : -2147483648 ≤ x1 ∧ x1 < 2147483648) (r2 : 0 ≤ x2 ∧ x2 < 2147483648) (H : (12 ≤ x2 → (kW2 G S0 kM_X11_group (d + 6) 105 [some (kA 558), some (kI x1), some (kI 0), none] [] c P)) ∧ (x2 < 12 → (((kand (kshr x1 x2) 1 = 1) → (kC2 G S0 kM_X11_copies (d + 5) [kA 558, kI x2, kI 26] c (kRN (fun c17 => kC2 G S0 kM_X11_normals (d + 5) [kA 558, kI 26] c17 (kRN (fun c19 => kC2 G S0 kM_X11_isListed (d + 5) [kA 558, kI 26] c19 (kRI (fun z20 c21 => (k32 z20) ∧ ((z20 ≠ 0 → (kW2 G S0 kM_X11_group (d + 6) 97 [some (kA 558), some (kI x1), some (kI x2), none] [] c21 P)) ∧ (z20 = 0 → (kC2 G S0 kM_X11_listsForm (d + 5) [kA 558, kI 26] c21 (kRN (fun c25 => kW2 G S0 kM_X11_group (d + 6) 97 [some (kA 558), some (kI x1), some (kI x2), none] [] c25 P))))))))))))) ∧ (¬ (kand (kshr x1 x2) 1 = 1) → (kW2 G S0 kM_X11_group (d + 6) 97 [some (kA 558), some (kI x1), some (kI x2), none] [] c P))))) : kW2 G S0 kM_X11_group (d + 6) 52 [some (kA 558), some (kI x1), some (kI x2), none] [] c P := by
  refine kw_iload_n dX11_group_52 rfl ?_
  refine kw_bipush dX11_group_53 (by decide) ?_
  refine kw_icmp_ge 103 dX11_group_55 (by decide) (k32i (by omega)) (k32i (by omega)) (fun h13 => ?_) (fun h13 => ?_)
  · have H := H.1 h13
    refine kw_iconst dX11_group_103 ?_
    refine kw_istore_n dX11_group_104 (Nat.le_of_ble_eq_true rfl) ?_
    exact kw_forget (ls' := [some (kA 558), some (kI x1), some (kI 0), none]) ⟨Or.inr rfl, ⟨Or.inr rfl, ⟨Or.inr rfl, ⟨Or.inr rfl, trivial⟩⟩⟩⟩ H
  · have H := H.2 h13
    refine kw_iload_n dX11_group_58 rfl ?_
    refine kw_iload_n dX11_group_59 rfl ?_
    refine k2_callS2I m_X11_has dX11_group_60 wl_X11_80 (Nat.le_of_ble_eq_true rfl) (s_X11_has hL (k32i (by omega)) (k32i (by omega)) (fun h14 => ⟨_, rfl, ?_⟩) (fun h14 => ⟨_, rfl, ?_⟩))
    · have H := H.1 h14
      refine kw_if_ne 69 dX11_group_63 (by decide) (k32i (by omega)) (fun _ => ?_) (fun h15 => absurd h15 (by decide))
      refine kw_aload_n dX11_group_69 rfl ?_
      refine kw_iload_n dX11_group_70 rfl ?_
      refine kw_bipush dX11_group_71 (by decide) ?_
      refine k2_callV2N (ci := 9) (N := 38) (T := TX11) rfl (lsh_558 hL) m_X11_copies dX11_group_73 wl_X11_132 (Nat.le_of_ble_eq_true rfl) (kC2_mono H (fun r c17 H => ?_))
      obtain ⟨rfl, H⟩ := H
      refine ⟨rfl, ?_⟩
      refine kw_aload_n dX11_group_76 rfl ?_
      refine kw_bipush dX11_group_77 (by decide) ?_
      refine k2_callV1N (ci := 9) (N := 38) (T := TX11) rfl (lsh_558 hL) m_X11_normals dX11_group_79 wl_X11_165 (Nat.le_of_ble_eq_true rfl) (kC2_mono H (fun r c19 H => ?_))
      obtain ⟨rfl, H⟩ := H
      refine ⟨rfl, ?_⟩
      refine kw_aload_n dX11_group_82 rfl ?_
      refine kw_bipush dX11_group_83 (by decide) ?_
      refine k2_callV1I (ci := 9) (N := 38) (T := TX11) rfl (lsh_558 hL) m_X11_isListed dX11_group_85 wl_X11_412 (Nat.le_of_ble_eq_true rfl) (kC2_mono H (fun r c21 H => ?_))
      obtain ⟨z20, rfl, H⟩ := H
      refine ⟨z20, rfl, ?_⟩
      have o23 := H.1
      have H := H.2
      refine kw_if_ne 97 dX11_group_88 (by decide) o23 (fun h22 => ?_) (fun h22 => ?_)
      · have H := H.1 h22
        exact kw_forget (ls' := [some (kA 558), some (kI x1), some (kI x2), none]) ⟨Or.inr rfl, ⟨Or.inr rfl, ⟨Or.inr rfl, ⟨Or.inr rfl, trivial⟩⟩⟩⟩ H
      · have H := H.2 h22
        refine kw_aload_n dX11_group_91 rfl ?_
        refine kw_bipush dX11_group_92 (by decide) ?_
        refine k2_callV1N (ci := 9) (N := 38) (T := TX11) rfl (lsh_558 hL) m_X11_listsForm dX11_group_94 wl_X11_415 (Nat.le_of_ble_eq_true rfl) (kC2_mono H (fun r c25 H => ?_))
        obtain ⟨rfl, H⟩ := H
        refine ⟨rfl, ?_⟩
        exact kw_forget (ls' := [some (kA 558), some (kI x1), some (kI x2), none]) ⟨Or.inr rfl, ⟨Or.inr rfl, ⟨Or.inr rfl, ⟨Or.inr rfl, trivial⟩⟩⟩⟩ H
    · have H := H.2 h14
      refine kw_if_ne 69 dX11_group_63 (by decide) (k32i (by omega)) (fun h26 => absurd h26 (by decide)) (fun _ => ?_)
      refine kw_goto 97 dX11_group_66 (by decide) ?_
      exact kw_forget (ls' := [some (kA 558), some (kI x1), some (kI x2), none]) ⟨Or.inr rfl, ⟨Or.inr rfl, ⟨Or.inr rfl, ⟨Or.inr rfl, trivial⟩⟩⟩⟩ H
set_option maxRecDepth 4000 in
theorem v_X11_group_105 {G : KG} {S0 : KSh} (hL : kLay S0) {d : Nat} {P : Option AV → KMem → Prop} {c : KMem} {x1 x2 : Int} (r1 : -2147483648 ≤ x1 ∧ x1 < 2147483648) (r2 : 0 ≤ x2 ∧ x2 < 2147483648) (hp : 0 ≤ c 558 14 ∧ c 558 14 < 301 ∧ 0 ≤ x2 ∧ x2 ≤ 200) (H : ((c 558 14) ≤ x2 → (P (some (kI (c 558 14))) c)) ∧ (x2 < (c 558 14) → (kW2 G S0 kM_X11_group (d + 6) 115 [some (kA 558), some (kI x1), some (kI x2), some (kI 0)] [] c P))) : kW2 G S0 kM_X11_group (d + 6) 105 [some (kA 558), some (kI x1), some (kI x2), none] [] c P := by
  refine kw_iload_n dX11_group_105 rfl ?_
  refine kw_aload_n dX11_group_106 rfl ?_
  refine k2_getI fd_X11_14 dX11_group_107 wf_X11_406 (lsh_558 hL) ?_
  refine kw_eI (b := (c 558 14)) rfl ?_
  refine kw_icmp_ge 204 dX11_group_110 (by decide) (k32i (by omega)) (k32i (by omega)) (fun h27 => ?_) (fun h27 => ?_)
  · have H := H.1 h27
    refine kw_aload_n dX11_group_204 rfl ?_
    refine k2_getI fd_X11_14 dX11_group_205 wf_X11_406 (lsh_558 hL) ?_
    refine kw_eI (b := (c 558 14)) rfl ?_
    refine k2_iret dX11_group_208 rfl H
  · have H := H.2 h27
    refine kw_iconst dX11_group_113 ?_
    refine kw_istore_n dX11_group_114 (Nat.le_of_ble_eq_true rfl) ?_
    exact kw_forget (ls' := [some (kA 558), some (kI x1), some (kI x2), some (kI 0)]) ⟨Or.inr rfl, ⟨Or.inr rfl, ⟨Or.inr rfl, ⟨Or.inr rfl, trivial⟩⟩⟩⟩ H
set_option maxRecDepth 4000 in
theorem v_X11_group_97 {G : KG} {S0 : KSh} (hL : kLay S0) {d : Nat} {P : Option AV → KMem → Prop} {c : KMem} {x1 x2 : Int} (r1 : -2147483648 ≤ x1 ∧ x1 < 2147483648) (r2 : 0 ≤ x2 ∧ x2 < 2147483648) (H : kW2 G S0 kM_X11_group (d + 6) 52 [some (kA 558), some (kI x1), some (kI (x2 + 1)), none] [] c P) : kW2 G S0 kM_X11_group (d + 6) 97 [some (kA 558), some (kI x1), some (kI x2), none] [] c P := by
  refine kw_iinc dX11_group_97 rfl ?_
  refine kw_goto 52 dX11_group_100 (by decide) ?_
  exact kw_forget (ls' := [some (kA 558), some (kI x1), some (kI (x2 + 1)), none]) ⟨Or.inr rfl, ⟨Or.inr rfl, ⟨Or.inr rfl, ⟨Or.inr rfl, trivial⟩⟩⟩⟩ H
set_option maxRecDepth 4000 in
theorem v_X11_group_115 {G : KG} {S0 : KSh} (hL : kLay S0) {d : Nat} {P : Option AV → KMem → Prop} {c : KMem} {x1 x2 x3 : Int} (r1 : -2147483648 ≤ x1 ∧ x1 < 2147483648) (r2 : 0 ≤ x2 ∧ x2 < 2147483648) (r3 : 0 ≤ x3 ∧ x3 < 2147483648) (hp : 0 ≤ c 558 14 ∧ c 558 14 < 301 ∧ 0 ≤ x2 ∧ x2 < 200) (H : (12 ≤ x3 → (kW2 G S0 kM_X11_group (d + 6) 105 [some (kA 558), some (kI x1), some (kI (x2 + 1)), none] [] c P)) ∧ (x3 < 12 → ((200 ≤ (c 558 14) → (kW2 G S0 kM_X11_group (d + 6) 105 [some (kA 558), some (kI x1), some (kI (x2 + 1)), none] [] c P)) ∧ ((c 558 14) < 200 → (((kand (kshr x1 x3) 1 = 1) → (kC2 G S0 kM_X11_takesListed (d + 5) [kA 558, kI x2, kI 26] c (kRN (fun c33 => kC2 G S0 kM_X11_joins (d + 5) [kA 558, kI 0, kI 26, kI x3, kI 26] c33 (kRN (fun c35 => kC2 G S0 kM_X11_isWithin (d + 5) [kA 558, kI 26] c35 (kRI (fun z36 c37 => (k32 z36) ∧ ((z36 ≠ 0 → (kC2 G S0 kM_X11_normals (d + 5) [kA 558, kI 26] c37 (kRN (fun c41 => kC2 G S0 kM_X11_isListed (d + 5) [kA 558, kI 26] c41 (kRI (fun z42 c43 => (k32 z42) ∧ ((z42 ≠ 0 → (kW2 G S0 kM_X11_group (d + 6) 192 [some (kA 558), some (kI x1), some (kI x2), some (kI x3)] [] c43 P)) ∧ (z42 = 0 → (kC2 G S0 kM_X11_listsForm (d + 5) [kA 558, kI 26] c43 (kRN (fun c47 => kW2 G S0 kM_X11_group (d + 6) 192 [some (kA 558), some (kI x1), some (kI x2), some (kI x3)] [] c47 P))))))))))) ∧ (z36 = 0 → (kW2 G S0 kM_X11_group (d + 6) 192 [some (kA 558), some (kI x1), some (kI x2), some (kI x3)] [] c37 P))))))))))) ∧ (¬ (kand (kshr x1 x3) 1 = 1) → (kW2 G S0 kM_X11_group (d + 6) 192 [some (kA 558), some (kI x1), some (kI x2), some (kI x3)] [] c P))))))) : kW2 G S0 kM_X11_group (d + 6) 115 [some (kA 558), some (kI x1), some (kI x2), some (kI x3)] [] c P := by
  refine kw_iload_n dX11_group_115 rfl ?_
  refine kw_bipush dX11_group_116 (by decide) ?_
  refine kw_icmp_ge 198 dX11_group_118 (by decide) (k32i (by omega)) (k32i (by omega)) (fun h28 => ?_) (fun h28 => ?_)
  · have H := H.1 h28
    refine kw_iinc dX11_group_198 rfl ?_
    refine kw_goto 105 dX11_group_201 (by decide) ?_
    exact kw_forget (ls' := [some (kA 558), some (kI x1), some (kI (x2 + 1)), none]) ⟨Or.inr rfl, ⟨Or.inr rfl, ⟨Or.inr rfl, ⟨Or.inl rfl, trivial⟩⟩⟩⟩ H
  · have H := H.2 h28
    refine kw_aload_n dX11_group_121 rfl ?_
    refine k2_getI fd_X11_14 dX11_group_122 wf_X11_406 (lsh_558 hL) ?_
    refine kw_eI (b := (c 558 14)) rfl ?_
    refine kw_sipush dX11_group_125 (by decide) ?_
    refine kw_icmp_ge 198 dX11_group_128 (by decide) (k32i (by omega)) (k32i (by omega)) (fun h29 => ?_) (fun h29 => ?_)
    · have H := H.1 h29
      refine kw_iinc dX11_group_198 rfl ?_
      refine kw_goto 105 dX11_group_201 (by decide) ?_
      exact kw_forget (ls' := [some (kA 558), some (kI x1), some (kI (x2 + 1)), none]) ⟨Or.inr rfl, ⟨Or.inr rfl, ⟨Or.inr rfl, ⟨Or.inl rfl, trivial⟩⟩⟩⟩ H
    · have H := H.2 h29
      refine kw_iload_n dX11_group_131 rfl ?_
      refine kw_iload_n dX11_group_132 rfl ?_
      refine k2_callS2I m_X11_has dX11_group_133 wl_X11_80 (Nat.le_of_ble_eq_true rfl) (s_X11_has hL (k32i (by omega)) (k32i (by omega)) (fun h30 => ⟨_, rfl, ?_⟩) (fun h30 => ⟨_, rfl, ?_⟩))
      · have H := H.1 h30
        refine kw_if_ne 142 dX11_group_136 (by decide) (k32i (by omega)) (fun _ => ?_) (fun h31 => absurd h31 (by decide))
        refine kw_aload_n dX11_group_142 rfl ?_
        refine kw_iload_n dX11_group_143 rfl ?_
        refine kw_bipush dX11_group_144 (by decide) ?_
        refine k2_callV2N (ci := 9) (N := 38) (T := TX11) rfl (lsh_558 hL) m_X11_takesListed dX11_group_146 wl_X11_409 (Nat.le_of_ble_eq_true rfl) (kC2_mono H (fun r c33 H => ?_))
        obtain ⟨rfl, H⟩ := H
        refine ⟨rfl, ?_⟩
        refine kw_aload_n dX11_group_149 rfl ?_
        refine kw_iconst dX11_group_150 ?_
        refine kw_bipush dX11_group_151 (by decide) ?_
        refine kw_iload_n dX11_group_153 rfl ?_
        refine kw_bipush dX11_group_154 (by decide) ?_
        refine k2_callV4N (ci := 9) (N := 38) (T := TX11) rfl (lsh_558 hL) m_X11_joins dX11_group_156 wl_X11_111 (Nat.le_of_ble_eq_true rfl) (kC2_mono H (fun r c35 H => ?_))
        obtain ⟨rfl, H⟩ := H
        refine ⟨rfl, ?_⟩
        refine kw_aload_n dX11_group_159 rfl ?_
        refine kw_bipush dX11_group_160 (by decide) ?_
        refine k2_callV1I (ci := 9) (N := 38) (T := TX11) rfl (lsh_558 hL) m_X11_isWithin dX11_group_162 wl_X11_168 (Nat.le_of_ble_eq_true rfl) (kC2_mono H (fun r c37 H => ?_))
        obtain ⟨z36, rfl, H⟩ := H
        refine ⟨z36, rfl, ?_⟩
        have o39 := H.1
        have H := H.2
        refine kw_if_ne 171 dX11_group_165 (by decide) o39 (fun h38 => ?_) (fun h38 => ?_)
        · have H := H.1 h38
          refine kw_aload_n dX11_group_171 rfl ?_
          refine kw_bipush dX11_group_172 (by decide) ?_
          refine k2_callV1N (ci := 9) (N := 38) (T := TX11) rfl (lsh_558 hL) m_X11_normals dX11_group_174 wl_X11_165 (Nat.le_of_ble_eq_true rfl) (kC2_mono H (fun r c41 H => ?_))
          obtain ⟨rfl, H⟩ := H
          refine ⟨rfl, ?_⟩
          refine kw_aload_n dX11_group_177 rfl ?_
          refine kw_bipush dX11_group_178 (by decide) ?_
          refine k2_callV1I (ci := 9) (N := 38) (T := TX11) rfl (lsh_558 hL) m_X11_isListed dX11_group_180 wl_X11_412 (Nat.le_of_ble_eq_true rfl) (kC2_mono H (fun r c43 H => ?_))
          obtain ⟨z42, rfl, H⟩ := H
          refine ⟨z42, rfl, ?_⟩
          have o45 := H.1
          have H := H.2
          refine kw_if_ne 192 dX11_group_183 (by decide) o45 (fun h44 => ?_) (fun h44 => ?_)
          · have H := H.1 h44
            exact kw_forget (ls' := [some (kA 558), some (kI x1), some (kI x2), some (kI x3)]) ⟨Or.inr rfl, ⟨Or.inr rfl, ⟨Or.inr rfl, ⟨Or.inr rfl, trivial⟩⟩⟩⟩ H
          · have H := H.2 h44
            refine kw_aload_n dX11_group_186 rfl ?_
            refine kw_bipush dX11_group_187 (by decide) ?_
            refine k2_callV1N (ci := 9) (N := 38) (T := TX11) rfl (lsh_558 hL) m_X11_listsForm dX11_group_189 wl_X11_415 (Nat.le_of_ble_eq_true rfl) (kC2_mono H (fun r c47 H => ?_))
            obtain ⟨rfl, H⟩ := H
            refine ⟨rfl, ?_⟩
            exact kw_forget (ls' := [some (kA 558), some (kI x1), some (kI x2), some (kI x3)]) ⟨Or.inr rfl, ⟨Or.inr rfl, ⟨Or.inr rfl, ⟨Or.inr rfl, trivial⟩⟩⟩⟩ H
        · have H := H.2 h38
          refine kw_goto 192 dX11_group_168 (by decide) ?_
          exact kw_forget (ls' := [some (kA 558), some (kI x1), some (kI x2), some (kI x3)]) ⟨Or.inr rfl, ⟨Or.inr rfl, ⟨Or.inr rfl, ⟨Or.inr rfl, trivial⟩⟩⟩⟩ H
      · have H := H.2 h30
        refine kw_if_ne 142 dX11_group_136 (by decide) (k32i (by omega)) (fun h48 => absurd h48 (by decide)) (fun _ => ?_)
        refine kw_goto 192 dX11_group_139 (by decide) ?_
        exact kw_forget (ls' := [some (kA 558), some (kI x1), some (kI x2), some (kI x3)]) ⟨Or.inr rfl, ⟨Or.inr rfl, ⟨Or.inr rfl, ⟨Or.inr rfl, trivial⟩⟩⟩⟩ H
set_option maxRecDepth 4000 in
theorem v_X11_group_192 {G : KG} {S0 : KSh} (hL : kLay S0) {d : Nat} {P : Option AV → KMem → Prop} {c : KMem} {x1 x2 x3 : Int} (r1 : -2147483648 ≤ x1 ∧ x1 < 2147483648) (r2 : 0 ≤ x2 ∧ x2 < 2147483648) (r3 : 0 ≤ x3 ∧ x3 < 2147483648) (H : kW2 G S0 kM_X11_group (d + 6) 115 [some (kA 558), some (kI x1), some (kI x2), some (kI (x3 + 1))] [] c P) : kW2 G S0 kM_X11_group (d + 6) 192 [some (kA 558), some (kI x1), some (kI x2), some (kI x3)] [] c P := by
  refine kw_iinc dX11_group_192 rfl ?_
  refine kw_goto 115 dX11_group_195 (by decide) ?_
  exact kw_forget (ls' := [some (kA 558), some (kI x1), some (kI x2), some (kI (x3 + 1))]) ⟨Or.inr rfl, ⟨Or.inr rfl, ⟨Or.inr rfl, ⟨Or.inr rfl, trivial⟩⟩⟩⟩ H
section MGR
variable {G : KG} {S0 : KSh} {d : Nat} {P : Option AV → KMem → Prop} {c c0 : KMem} {Φ : Int → KF} {H : Int → Bool} {F : Int → KF} {f g : KF} {M m : Int} {S : KLs} {x0 x1 x2 x3 x4 : Int}
theorem s_X11_group (hL : kLay S0) (r1 : k32 x1) (hs : RSt H F c) (h : ∀ c', kRP c c' → P (some (kI (vGroup H F x1))) c') : kC2 G S0 kM_X11_group (d + 6) [kA 558, kI x1] c P := by
  obtain ⟨Φ, s0, hg, hst, hy, hn, e3, hl⟩ := hs.op
  have hP := kPi h
  unfold vGroup at hP
  refine v_X11_group hL r1 ?_
  refine t_areLetters hL r1 hs (fun q => ⟨1, rfl, kq1 ?_⟩) (fun q => ⟨0, rfl, kq0 ?_⟩) (k32i (by omega))
  · rw [if_pos q] at hP
    obtain ⟨q1, q2⟩ := kSetB_iff.mp q
    have hm : 0 ≤ x1 ∧ x1 < 4096 := by omega
    have h6 : kCn (kbit x1) 12 ≤ 6 := by rw [← kpop_bit hm]; omega
    have L3 : ∀ n i : Nat, i + n = 200 → ∀ (T : KLs), T.1 ≤ 200 → ∀ (Φ' : Int → KF) c', kPh Φ' c' c' → kLs T c' → kFr c c' → kSgn c' → (∀ s : Int, 0 ≤ s → s < 12 ∨ s = 30 → Φ' s = Φ s) → (∀ (v : Int) (c' : KMem), kRP c c' → v = ((gpG x1 F n i T).1 : Int) → P (some (kI v)) c') → kW2 G S0 kM_X11_group (d + 6) 105 [some (kA 558), some (kI x1), some (kI (i : Int)), none] [] c' P := by
      intro n
      induction n with
      | zero =>
        intro i hi T hT Φ' c' hs hl' hf hg hk hP
        have e0 := hl'.1
        refine v_X11_group_105 hL r1 (by omega) (by omega) ⟨fun _ => ?_, fun q => by omega⟩
        rw [e0]
        exact hP _ _ (s0.rp hs hf (by intro s p q; repeat (first | exact rfl | refine kUn (by omega) ?_ | exact hk s p q))) rfl
      | succ n ih =>
        intro i hi T hT Φ' c' hs hl' hf hg hk hP
        have e0 := hl'.1
        have eg : gpG x1 F (n + 1) i T = if i < T.1 then gpG x1 F n (i + 1) (gpP x1 F (T.2 i) 12 T) else T := rfl
        rw [eg] at hP
        refine v_X11_group_105 hL r1 (by omega) (by omega) ⟨fun q => ?_, fun q => ?_⟩
        · rw [if_neg (by omega)] at hP
          rw [e0]
          exact hP _ _ (s0.rp hs hf (by intro s p q; repeat (first | exact rfl | refine kUn (by omega) ?_ | exact hk s p q))) rfl
        · rw [if_pos (by omega)] at hP
          have hiT : i < T.1 := by omega
          have out : ∀ (Φ' : Int → KF) c', kPh Φ' c' c' → kLs (gpP x1 F (T.2 i) 12 T) c' → kFr c c' → kSgn c' → (∀ s : Int, 0 ≤ s → s < 12 ∨ s = 30 → Φ' s = Φ s) → kW2 G S0 kM_X11_group (d + 6) 105 [some (kA 558), some (kI x1), some (kI ((i : Int) + 1)), none] [] c' P := fun Φ' c' a b e f g => ih (i + 1) (by omega) _ (gpP_le x1 F (T.2 i) T hT 12).2.1 Φ' c' a b e f g hP
          have inner : ∀ r k : Nat, k + r = 12 → ∀ (Φ' : Int → KF) c', kPh Φ' c' c' → kLs (gpP x1 F (T.2 i) k T) c' → kFr c c' → kSgn c' → (∀ s : Int, 0 ≤ s → s < 12 ∨ s = 30 → Φ' s = Φ s) → kW2 G S0 kM_X11_group (d + 6) 115 [some (kA 558), some (kI x1), some (kI (i : Int)), some (kI (k : Int))] [] c' P := by
            intro r
            induction r with
            | zero =>
              intro k hk9 Φ' c' hs hl' hf hg hk
              obtain rfl : k = 12 := by omega
              have hle := gpP_le x1 F (T.2 i) T hT 12
              have e0 := hl'.1
              exact v_X11_group_115 hL r1 (by omega) (by omega) (by omega) ⟨fun _ => out Φ' c' hs hl' hf hg hk, fun q => by omega⟩
            | succ r ih2 =>
              intro k hk9 Φ' c' hs hl' hf hg hk
              obtain ⟨g1, g2, g3⟩ := gpP_le x1 F (T.2 i) T hT k
              have e0 := hl'.1
              have e2 : gpP x1 F (T.2 i) (k + 1) T = if (gpP x1 F (T.2 i) k T).1 < 200 ∧ kbit x1 k = true ∧ kWb (mulP 0 (T.2 i) (F k)) = true then lsAdd (gpP x1 F (T.2 i) k T) (nrmP (mulP 0 (T.2 i) (F k))) else gpP x1 F (T.2 i) k T := rfl
              have next : ∀ (Φ' : Int → KF) c', kPh Φ' c' c' → kLs (gpP x1 F (T.2 i) (k + 1) T) c' → kFr c c' → kSgn c' → (∀ s : Int, 0 ≤ s → s < 12 ∨ s = 30 → Φ' s = Φ s) → kW2 G S0 kM_X11_group (d + 6) 192 [some (kA 558), some (kI x1), some (kI (i : Int)), some (kI (k : Int))] [] c' P := fun Φ' c' a b e f g => v_X11_group_192 hL r1 (by omega) (by omega) (ih2 (k + 1) (by omega) Φ' c' a b e f g)
              refine v_X11_group_115 hL r1 (by omega) (by omega) (by omega) ⟨fun q => by omega, fun _ => ⟨fun w => ?_, fun w => ⟨fun z => ?_, fun z => ?_⟩⟩⟩
              · have st := gpP_stay x1 F (T.2 i) T k (by omega) (12 - k)
                rw [show k + (12 - k) = 12 by omega] at st
                exact out Φ' c' hs (by rw [st]; exact hl') hf hg hk
              · have zb := (kbit_iff hm (by omega)).mp z
                obtain ⟨p1, p2, p3, p4⟩ := hl k (q2 k (by omega) zb)
                have p5 : Φ' k = F k := (hk k (by omega) (by omega)).trans p3
                have hbl := (hl'.2 i (by omega)).2
                have eT := g3 i hiT
                rw [eT] at hbl
                refine t_takesListed hL hs hl' (i := i) (by omega) (by omega) (fun c1 hs => ⟨rfl, ?_⟩) (by omega)
                rw [eT] at hs
                refine t_joins hL hg hs (fun c2 hs => ⟨rfl, ?_⟩)
                refine t_isWithin hL hs (fun y => ⟨1, rfl, kq1 ?_⟩) (fun y => ⟨0, rfl, kq0 ?_⟩)
                · have bw : kB kLB (mulP 0 (T.2 i) (F k)) := kWb_iff.mp y
                  rw [if_pos ⟨by omega, zb, y⟩] at e2
                  refine t_normals hL hs (fun c2 hs => ⟨rfl, ?_⟩)
                  refine t_isListed hL hs hl' (by omega) (fun w => ⟨1, rfl, kq1 ?_⟩) (fun w => ⟨0, rfl, kq0 ?_⟩) (by omega) kUs (nrmP_bd bw)
                  · refine next _ _ hs.own (hs.ls ?_) (hf.tr hs.fr) (hs.sgn hg) (by intro s p q; repeat (first | exact rfl | refine kUn (by omega) ?_ | exact hk s p q))
                    rw [e2]; unfold lsAdd; rw [if_pos w]; exact hl'
                  · refine t_listsForm hL hs hl' (by omega) (fun c4 hs4 hl4 hf4 hg4 => ⟨rfl, ?_⟩) (by omega) kUs (nrmP_bd bw)
                    refine next _ _ hs4 ?_ (hf.tr hf4) (hg4 hg) (by intro s p q; repeat (first | exact rfl | refine kUn (by omega) ?_ | exact hk s p q))
                    rw [e2]; unfold lsAdd; rw [if_neg w]; exact hl4
                · rw [if_neg (fun q => y q.2.2)] at e2
                  exact next _ _ hs.own (hs.ls (by rw [e2]; exact hl')) (hf.tr hs.fr) (hs.sgn hg) (by intro s p q; repeat (first | exact rfl | refine kUn (by omega) ?_ | exact hk s p q))
              · rw [if_neg (fun q => z ((kbit_iff hm (by omega)).mpr q.2.1))] at e2
                exact next _ _ hs (by rw [e2]; exact hl') hf hg hk
          exact inner 12 0 (by omega) Φ' c' hs hl' hf hg hk
    have L2 : ∀ n k : Nat, k + n = 12 → ∀ (Φ' : Int → KF) c', kPh Φ' c' c' → kLs (gpK x1 F k) c' → kFr c c' → kSgn c' → (∀ s : Int, 0 ≤ s → s < 12 ∨ s = 30 → Φ' s = Φ s) → (∀ (v : Int) (c' : KMem), kRP c c' → v = ((gpG x1 F 200 0 (gpK x1 F 12)).1 : Int) → P (some (kI v)) c') → kW2 G S0 kM_X11_group (d + 6) 52 [some (kA 558), some (kI x1), some (kI (k : Int)), none] [] c' P := by
      intro n
      induction n with
      | zero =>
        intro k hk9 Φ' c' hs hl' hf hg hk hP
        obtain rfl : k = 12 := by omega
        have hle := gpK_le x1 F 12
        exact v_X11_group_52 hL r1 (by omega) ⟨fun _ => L3 200 0 (by omega) _ (by omega) Φ' c' hs hl' hf hg hk hP, fun q => by omega⟩
      | succ n ih =>
        intro k hk9 Φ' c' hs hl' hf hg hk hP
        have hle := gpK_le x1 F k
        have hcn : kCn (kbit x1) k + (if kbit x1 k = true then 1 else 0) ≤ kCn (kbit x1) 12 := kCn_mono (kbit x1) k 12 (by omega)
        have e2 : gpK x1 F (k + 1) = if kbit x1 k = true then lsAdd (gpK x1 F k) (nrmP (F k)) else gpK x1 F k := rfl
        have next : ∀ (Φ' : Int → KF) c', kPh Φ' c' c' → kLs (gpK x1 F (k + 1)) c' → kFr c c' → kSgn c' → (∀ s : Int, 0 ≤ s → s < 12 ∨ s = 30 → Φ' s = Φ s) → kW2 G S0 kM_X11_group (d + 6) 97 [some (kA 558), some (kI x1), some (kI (k : Int)), none] [] c' P := fun Φ' c' a b e f g => v_X11_group_97 hL r1 (by omega) (ih (k + 1) (by omega) Φ' c' a b e f g hP)
        refine v_X11_group_52 hL r1 (by omega) ⟨fun q => by omega, fun _ => ⟨fun z => ?_, fun z => ?_⟩⟩
        · have zb := (kbit_iff hm (by omega)).mp z
          obtain ⟨p1, p2, p3, p4⟩ := hl k (q2 k (by omega) zb)
          have p5 : Φ' k = F k := (hk k (by omega) (by omega)).trans p3
          rw [if_pos zb] at e2
          have bn : kB kLB (nrmP (F k)) := nrmP_bd p4
          refine t_copies hL hs (fun c1 hs => ⟨rfl, ?_⟩)
          refine t_normals hL hs (fun c1 hs => ⟨rfl, ?_⟩)
          refine t_isListed hL hs hl' (by omega) (fun w => ⟨1, rfl, kq1 ?_⟩) (fun w => ⟨0, rfl, kq0 ?_⟩) (by omega) kUs bn
          · refine next _ _ hs.own (hs.ls ?_) (hf.tr hs.fr) (hs.sgn hg) (by intro s p q; repeat (first | exact rfl | refine kUn (by omega) ?_ | exact hk s p q))
            rw [e2]; unfold lsAdd; rw [if_pos w]; exact hl'
          · refine t_listsForm hL hs hl' (by omega) (fun c4 hs4 hl4 hf4 hg4 => ⟨rfl, ?_⟩) (by omega) kUs bn
            refine next _ _ hs4 ?_ (hf.tr hf4) (hg4 hg) (by intro s p q; repeat (first | exact rfl | refine kUn (by omega) ?_ | exact hk s p q))
            rw [e2]; unfold lsAdd; rw [if_neg w]; exact hl4
        · rw [if_neg (fun q => z ((kbit_iff hm (by omega)).mpr q))] at e2
          exact next _ _ hs (by rw [e2]; exact hl') hf hg hk
    have L1 : ∀ n k : Nat, k + n = 12 → ∀ (Φ' : Int → KF) c', kPh Φ' c c' → (∀ s : Int, 0 ≤ s → s < 12 ∨ s = 30 → Φ' s = Φ s) → (∀ j : Nat, j < k → kbit x1 j = true → kMot (F j) = true) → kW2 G S0 kM_X11_group (d + 6) 14 [some (kA 558), some (kI x1), some (kI (k : Int)), none] [] c' P := by
      intro n
      induction n with
      | zero =>
        intro k hk9 Φ' c' hs hk hj
        obtain rfl : k = 12 := by omega
        rw [if_pos (kMotS_iff.mpr hj)] at hP
        refine v_X11_group_14 hL r1 (by omega) ⟨fun _ => ?_, fun q => by omega⟩
        have hs2 : kPh Φ' (kup c 558 14 0) (kup c' 558 14 0) := hs.up (by omega)
        refine L2 12 0 (by omega) Φ' _ hs2.own ⟨kup_s _ _ _ _, fun i hi => absurd hi (Nat.not_lt_zero i)⟩ (hs.fr.up (by omega)) (fun a b ha hb => (kup_n (Or.inl (by decide))).trans (hs.sgn hg a b ha hb)) hk hP
      | succ n ih =>
        intro k hk9 Φ' c' hs hk hj
        have next : ∀ (Φ' : Int → KF) c', kPh Φ' c c' → (∀ s : Int, 0 ≤ s → s < 12 ∨ s = 30 → Φ' s = Φ s) → (kbit x1 k = true → kMot (F k) = true) → kW2 G S0 kM_X11_group (d + 6) 14 [some (kA 558), some (kI x1), some (kI ((k + 1 : Nat) : Int)), none] [] c' P := fun Φ' c' a b w => ih (k + 1) (by omega) Φ' c' a b (fun j hj2 hb => by
          by_cases e : j = k
          · subst e; exact w hb
          · exact hj j (by omega) hb)
        refine v_X11_group_14 hL r1 (by omega) ⟨fun q => by omega, fun _ => ⟨fun z => ?_, fun z => ?_⟩⟩
        · have zb := (kbit_iff hm (by omega)).mp z
          obtain ⟨p1, p2, p3, p4⟩ := hl k (q2 k (by omega) zb)
          have p5 : Φ' k = F k := (hk k (by omega) (by omega)).trans p3
          have p6 : Φ' 30 = farP := (hk 30 (by omega) (by omega)).trans e3
          refine t_isMotion hL hg hs (fun c1 a b hs z => ⟨1, rfl, kq1 ?_⟩) (fun c1 a b hs z => ⟨0, rfl, kq0 ?_⟩)
          · exact next _ _ hs (by intro s p q; repeat (first | exact rfl | refine kUn (by omega) ?_ | exact hk s p q)) (fun _ => z)
          · rw [if_neg (fun w => z (kMotS_iff.mp w k (by omega) zb))] at hP
            exact hP _ _ (s0.rp hs kFr.rf (by intro s p q; repeat (first | exact rfl | refine kUn (by omega) ?_ | exact hk s p q))) rfl
        · exact next _ _ hs hk (fun w => absurd ((kbit_iff hm (by omega)).mpr w) z)
    exact L1 12 0 (by omega) Φ c s0 (fun _ _ _ => rfl) (fun j hj => by omega)
  · rw [if_neg q] at hP
    exact hP _ _ kRP.rf rfl
end MGR
