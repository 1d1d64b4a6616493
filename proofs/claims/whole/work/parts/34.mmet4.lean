/-- the OUTER of the letters of a set, on the way: whether all was within the BOUND, how many, which FORM -/
def fsN (F : Int → KF) (n : Nat) : Nat → Bool × Nat × KF
  | 0 => (true, 0, fun _ => 0)
  | l + 1 => if (fsN F n l).1 = true ∧ Nat.testBit n l = true then (if (fsN F n l).2.1 = 0 then (true, 1, F l) else (kWb (mulP 1 (fsN F n l).2.2 (F l)), (fsN F n l).2.1 + 1, mulP 1 (fsN F n l).2.2 (F l))) else fsN F n l
theorem fsN_stay (F : Int → KF) (n l : Nat) (h : ¬ (fsN F n l).1 = true) : ∀ j, fsN F n (l + j) = fsN F n l
  | 0 => rfl
  | j + 1 => by
    have ih := fsN_stay F n l h j
    have e : fsN F n (l + j + 1) = if (fsN F n (l + j)).1 = true ∧ Nat.testBit n (l + j) = true then (if (fsN F n (l + j)).2.1 = 0 then (true, 1, F ((l + j : Nat) : Int)) else (kWb (mulP 1 (fsN F n (l + j)).2.2 (F ((l + j : Nat) : Int))), (fsN F n (l + j)).2.1 + 1, mulP 1 (fsN F n (l + j)).2.2 (F ((l + j : Nat) : Int)))) else fsN F n (l + j) := rfl
    show fsN F n (l + j + 1) = _
    rw [e, if_neg (fun q => by have := q.1; rw [ih] at this; exact h this), ih]
def kF4 (H : Int → Bool) (F : Int → KF) (n : Nat) : Bool := decide (kpop n = 4) && (kAll (fun k => !Nat.testBit n k || kPt H F k) 12 && ((fsN F n 12).1 && kZb (fsN F n 12).2.2))
theorem kF4_iff {H : Int → Bool} {F : Int → KF} {n : Nat} : kF4 H F n = true ↔ kpop n = 4 ∧ (∀ k, k < 12 → Nat.testBit n k = true → kPt H F k = true) ∧ (fsN F n 12).1 = true ∧ kZb (fsN F n 12).2.2 = true := by
  unfold kF4
  rw [Bool.and_eq_true, Bool.and_eq_true, Bool.and_eq_true, decide_eq_true_iff, kAll_iff]
  constructor
  · rintro ⟨a, b, e, f⟩
    exact ⟨a, fun k hk hb => by have := b k hk; rw [hb] at this; exact this, e, f⟩
  · rintro ⟨a, b, e, f⟩
    refine ⟨a, fun k hk => ?_, e, f⟩
    cases w : Nat.testBit n k with
    | false => rfl
    | true => rw [b k hk w]; rfl
def vFrs (H : Int → Bool) (F : Int → KF) : Nat := kCn (kF4 H F) 4096
set_option maxRecDepth 4000 in
theorem v_X11_fours {G : KG} {S0 : KSh} (hL : kLay S0) {d : Nat} {P : Option AV → KMem → Prop} {c : KMem}  (H : kW2 G S0 kM_X11_fours (d + 3) 4 [some (kA 558), some (kI 0), some (kI 0), none, none, none] [] c P) : kC2 G S0 kM_X11_fours (d + 3) [kA 558] c P := by
  refine k2_met (by decide) rfl (Nat.le_of_ble_eq_true rfl) (l0 := [some (kA 558), none, none, none, none, none]) rfl ?_
  refine kw_iconst dX11_fours_0 ?_
  refine kw_istore_n dX11_fours_1 (Nat.le_of_ble_eq_true rfl) ?_
  refine kw_iconst dX11_fours_2 ?_
  refine kw_istore_n dX11_fours_3 (Nat.le_of_ble_eq_true rfl) ?_
  exact kw_forget (ls' := [some (kA 558), some (kI 0), some (kI 0), none, none, none]) ⟨Or.inr rfl, ⟨Or.inr rfl, ⟨Or.inr rfl, ⟨Or.inr rfl, ⟨Or.inr rfl, ⟨Or.inr rfl, trivial⟩⟩⟩⟩⟩⟩ H
set_option maxRecDepth 4000 in
theorem v_X11_fours_4 {G : KG} {S0 : KSh} (hL : kLay S0) {d : Nat} {P : Option AV → KMem → Prop} {c : KMem} {x1 x2 : Int} (r1 : -2147483648 ≤ x1 ∧ x1 < 2147483648) (r2 : 0 ≤ x2 ∧ x2 < 2147483648) (hp : 0 ≤ x1 ∧ x1 ≤ x2 ∧ x2 ≤ 4096) (H : (4096 ≤ x2 → (P (some (kI x1)) c)) ∧ (x2 < 4096 → (((kpop (Int.toNat x2) : Int) ≠ 4 → (kW2 G S0 kM_X11_fours (d + 3) 117 [some (kA 558), some (kI x1), some (kI x2), none, none, none] [] c P)) ∧ ((kpop (Int.toNat x2) : Int) = 4 → (kC2 G S0 kM_X11_arePoints (d + 2) [kA 558, kI x2] c (kRI (fun z3 c4 => (k32 z3) ∧ ((z3 ≠ 0 → (kW2 G S0 kM_X11_fours (d + 3) 38 [some (kA 558), some (kI x1), some (kI x2), some (kI 1), some (kI 0), some (kI 0)] [] c4 P)) ∧ (z3 = 0 → (kW2 G S0 kM_X11_fours (d + 3) 117 [some (kA 558), some (kI x1), some (kI x2), none, none, none] [] c4 P)))))))))) : kW2 G S0 kM_X11_fours (d + 3) 4 [some (kA 558), some (kI x1), some (kI x2), none, none, none] [] c P := by
  refine kw_iload_n dX11_fours_4 rfl ?_
  refine kw_sipush dX11_fours_5 (by decide) ?_
  refine kw_icmp_ge 123 dX11_fours_8 (by decide) (k32i (by omega)) (k32i (by omega)) (fun h1 => ?_) (fun h1 => ?_)
  · have H := H.1 h1
    refine kw_iload_n dX11_fours_123 rfl ?_
    refine k2_iret dX11_fours_124 rfl H
  · have H := H.2 h1
    refine kw_iload_n dX11_fours_11 rfl ?_
    refine k2_callS1I m_X11_sizeOf dX11_fours_12 wl_X11_96 (Nat.le_of_ble_eq_true rfl) (s_X11_sizeOf hL (by omega) ⟨_, rfl, ?_⟩)
    refine kw_iconst dX11_fours_15 ?_
    refine kw_icmp_ne 117 dX11_fours_16 (by decide) (k32_pop _) (k32i (by omega)) (fun h2 => ?_) (fun h2 => ?_)
    · have H := H.1 h2
      exact kw_forget (ls' := [some (kA 558), some (kI x1), some (kI x2), none, none, none]) ⟨Or.inr rfl, ⟨Or.inr rfl, ⟨Or.inr rfl, ⟨Or.inr rfl, ⟨Or.inr rfl, ⟨Or.inr rfl, trivial⟩⟩⟩⟩⟩⟩ H
    · have H := H.2 h2
      refine kw_aload_n dX11_fours_19 rfl ?_
      refine kw_iload_n dX11_fours_20 rfl ?_
      refine k2_callV1I (ci := 9) (N := 38) (T := TX11) rfl (lsh_558 hL) m_X11_arePoints dX11_fours_21 wl_X11_446 (Nat.le_of_ble_eq_true rfl) (kC2_mono H (fun r c4 H => ?_))
      obtain ⟨z3, rfl, H⟩ := H
      refine ⟨z3, rfl, ?_⟩
      have o6 := H.1
      have H := H.2
      refine kw_if_ne 30 dX11_fours_24 (by decide) o6 (fun h5 => ?_) (fun h5 => ?_)
      · have H := H.1 h5
        refine kw_iconst dX11_fours_30 ?_
        refine kw_istore_n dX11_fours_31 (Nat.le_of_ble_eq_true rfl) ?_
        refine kw_iconst dX11_fours_32 ?_
        refine kw_istore dX11_fours_33 (Nat.le_of_ble_eq_true rfl) ?_
        refine kw_iconst dX11_fours_35 ?_
        refine kw_istore dX11_fours_36 (Nat.le_of_ble_eq_true rfl) ?_
        exact kw_forget (ls' := [some (kA 558), some (kI x1), some (kI x2), some (kI 1), some (kI 0), some (kI 0)]) ⟨Or.inr rfl, ⟨Or.inr rfl, ⟨Or.inr rfl, ⟨Or.inr rfl, ⟨Or.inr rfl, ⟨Or.inr rfl, trivial⟩⟩⟩⟩⟩⟩ H
      · have H := H.2 h5
        refine kw_goto 117 dX11_fours_27 (by decide) ?_
        exact kw_forget (ls' := [some (kA 558), some (kI x1), some (kI x2), none, none, none]) ⟨Or.inr rfl, ⟨Or.inr rfl, ⟨Or.inr rfl, ⟨Or.inr rfl, ⟨Or.inr rfl, ⟨Or.inr rfl, trivial⟩⟩⟩⟩⟩⟩ H
set_option maxRecDepth 4000 in
theorem v_X11_fours_117 {G : KG} {S0 : KSh} (hL : kLay S0) {d : Nat} {P : Option AV → KMem → Prop} {c : KMem} {x1 x2 : Int} (r1 : -2147483648 ≤ x1 ∧ x1 < 2147483648) (r2 : 0 ≤ x2 ∧ x2 < 2147483648) (hp : 0 ≤ x1 ∧ x1 ≤ x2 + 1 ∧ 0 ≤ x2 ∧ x2 < 4096) (H : kW2 G S0 kM_X11_fours (d + 3) 4 [some (kA 558), some (kI x1), some (kI (x2 + 1)), none, none, none] [] c P) : kW2 G S0 kM_X11_fours (d + 3) 117 [some (kA 558), some (kI x1), some (kI x2), none, none, none] [] c P := by
  refine kw_iinc dX11_fours_117 rfl ?_
  refine kw_goto 4 dX11_fours_120 (by decide) ?_
  exact kw_forget (ls' := [some (kA 558), some (kI x1), some (kI (x2 + 1)), none, none, none]) ⟨Or.inr rfl, ⟨Or.inr rfl, ⟨Or.inr rfl, ⟨Or.inr rfl, ⟨Or.inr rfl, ⟨Or.inr rfl, trivial⟩⟩⟩⟩⟩⟩ H
set_option maxRecDepth 4000 in
theorem v_X11_fours_38 {G : KG} {S0 : KSh} (hL : kLay S0) {d : Nat} {P : Option AV → KMem → Prop} {c : KMem} {x1 x2 x3 x4 x5 : Int} (r1 : -2147483648 ≤ x1 ∧ x1 < 2147483648) (r2 : 0 ≤ x2 ∧ x2 < 2147483648) (r3 : -2147483648 ≤ x3 ∧ x3 < 2147483648) (r4 : -2147483648 ≤ x4 ∧ x4 < 2147483648) (r5 : 0 ≤ x5 ∧ x5 < 2147483648) (hp : 0 ≤ x1 ∧ x1 ≤ x2 ∧ x2 < 4096 ∧ 0 ≤ x4 ∧ x4 ≤ x5 ∧ 0 ≤ x5 ∧ x5 ≤ 12 ∧ (x3 = 0 ∨ x3 = 1)) (H : (12 ≤ x5 → ((x3 = 0 → (kW2 G S0 kM_X11_fours (d + 3) 117 [some (kA 558), some (kI x1), some (kI x2), none, none, none] [] c P)) ∧ (x3 ≠ 0 → (kC2 G S0 kM_X11_isNothing (d + 2) [kA 558, kI 24] c (kRI (fun z9 c10 => (k32 z9) ∧ ((z9 = 0 → (kW2 G S0 kM_X11_fours (d + 3) 117 [some (kA 558), some (kI x1), some (kI x2), none, none, none] [] c10 P)) ∧ (z9 ≠ 0 → (kW2 G S0 kM_X11_fours (d + 3) 117 [some (kA 558), some (kI (x1 + 1)), some (kI x2), none, none, none] [] c10 P))))))))) ∧ (x5 < 12 → ((x3 = 0 → ((x3 = 0 → (kW2 G S0 kM_X11_fours (d + 3) 117 [some (kA 558), some (kI x1), some (kI x2), none, none, none] [] c P)) ∧ (x3 ≠ 0 → (kC2 G S0 kM_X11_isNothing (d + 2) [kA 558, kI 24] c (kRI (fun z15 c16 => (k32 z15) ∧ ((z15 = 0 → (kW2 G S0 kM_X11_fours (d + 3) 117 [some (kA 558), some (kI x1), some (kI x2), none, none, none] [] c16 P)) ∧ (z15 ≠ 0 → (kW2 G S0 kM_X11_fours (d + 3) 117 [some (kA 558), some (kI (x1 + 1)), some (kI x2), none, none, none] [] c16 P))))))))) ∧ (x3 ≠ 0 → (((kand (kshr x2 x5) 1 = 1) → ((x4 ≠ 0 → (kC2 G S0 kM_X11_goesOuter (d + 2) [kA 558, kI 24, kI x5, kI 24] c (kRI (fun z22 c23 => kW2 G S0 kM_X11_fours (d + 3) 38 [some (kA 558), some (kI x1), some (kI x2), some (kI z22), some (kI (x4 + 1)), some (kI (x5 + 1))] [] c23 P)))) ∧ (x4 = 0 → (kC2 G S0 kM_X11_copies (d + 2) [kA 558, kI x5, kI 24] c (kRN (fun c25 => kW2 G S0 kM_X11_fours (d + 3) 38 [some (kA 558), some (kI x1), some (kI x2), some (kI x3), some (kI (x4 + 1)), some (kI (x5 + 1))] [] c25 P)))))) ∧ (¬ (kand (kshr x2 x5) 1 = 1) → (kW2 G S0 kM_X11_fours (d + 3) 38 [some (kA 558), some (kI x1), some (kI x2), some (kI x3), some (kI x4), some (kI (x5 + 1))] [] c P))))))) : kW2 G S0 kM_X11_fours (d + 3) 38 [some (kA 558), some (kI x1), some (kI x2), some (kI x3), some (kI x4), some (kI x5)] [] c P := by
  refine kw_iload dX11_fours_38 rfl ?_
  refine kw_bipush dX11_fours_40 (by decide) ?_
  refine kw_icmp_ge 100 dX11_fours_42 (by decide) (k32i (by omega)) (k32i (by omega)) (fun h7 => ?_) (fun h7 => ?_)
  · have H := H.1 h7
    refine kw_iload_n dX11_fours_100 rfl ?_
    refine kw_if_eq 117 dX11_fours_101 (by decide) (k32i (by omega)) (fun h8 => ?_) (fun h8 => ?_)
    · have H := H.1 h8
      exact kw_forget (ls' := [some (kA 558), some (kI x1), some (kI x2), none, none, none]) ⟨Or.inr rfl, ⟨Or.inr rfl, ⟨Or.inr rfl, ⟨Or.inl rfl, ⟨Or.inl rfl, ⟨Or.inl rfl, trivial⟩⟩⟩⟩⟩⟩ H
    · have H := H.2 h8
      refine kw_aload_n dX11_fours_104 rfl ?_
      refine kw_bipush dX11_fours_105 (by decide) ?_
      refine k2_callV1I (ci := 9) (N := 38) (T := TX11) rfl (lsh_558 hL) m_X11_isNothing dX11_fours_107 wl_X11_115 (Nat.le_of_ble_eq_true rfl) (kC2_mono H (fun r c10 H => ?_))
      obtain ⟨z9, rfl, H⟩ := H
      refine ⟨z9, rfl, ?_⟩
      have o12 := H.1
      have H := H.2
      refine kw_if_eq 117 dX11_fours_110 (by decide) o12 (fun h11 => ?_) (fun h11 => ?_)
      · have H := H.1 h11
        exact kw_forget (ls' := [some (kA 558), some (kI x1), some (kI x2), none, none, none]) ⟨Or.inr rfl, ⟨Or.inr rfl, ⟨Or.inr rfl, ⟨Or.inl rfl, ⟨Or.inl rfl, ⟨Or.inl rfl, trivial⟩⟩⟩⟩⟩⟩ H
      · have H := H.2 h11
        refine kw_iload_n dX11_fours_113 rfl ?_
        refine kw_iconst dX11_fours_114 ?_
        refine kw_iadd dX11_fours_115 ?_
        refine kw_istore_n dX11_fours_116 (Nat.le_of_ble_eq_true rfl) ?_
        exact kw_forget (ls' := [some (kA 558), some (kI (x1 + 1)), some (kI x2), none, none, none]) ⟨Or.inr rfl, ⟨Or.inr rfl, ⟨Or.inr rfl, ⟨Or.inl rfl, ⟨Or.inl rfl, ⟨Or.inl rfl, trivial⟩⟩⟩⟩⟩⟩ H
  · have H := H.2 h7
    refine kw_iload_n dX11_fours_45 rfl ?_
    refine kw_if_eq 100 dX11_fours_46 (by decide) (k32i (by omega)) (fun h13 => ?_) (fun h13 => ?_)
    · have H := H.1 h13
      refine kw_iload_n dX11_fours_100 rfl ?_
      refine kw_if_eq 117 dX11_fours_101 (by decide) (k32i (by omega)) (fun h14 => ?_) (fun h14 => ?_)
      · have H := H.1 h14
        exact kw_forget (ls' := [some (kA 558), some (kI x1), some (kI x2), none, none, none]) ⟨Or.inr rfl, ⟨Or.inr rfl, ⟨Or.inr rfl, ⟨Or.inl rfl, ⟨Or.inl rfl, ⟨Or.inl rfl, trivial⟩⟩⟩⟩⟩⟩ H
      · have H := H.2 h14
        refine kw_aload_n dX11_fours_104 rfl ?_
        refine kw_bipush dX11_fours_105 (by decide) ?_
        refine k2_callV1I (ci := 9) (N := 38) (T := TX11) rfl (lsh_558 hL) m_X11_isNothing dX11_fours_107 wl_X11_115 (Nat.le_of_ble_eq_true rfl) (kC2_mono H (fun r c16 H => ?_))
        obtain ⟨z15, rfl, H⟩ := H
        refine ⟨z15, rfl, ?_⟩
        have o18 := H.1
        have H := H.2
        refine kw_if_eq 117 dX11_fours_110 (by decide) o18 (fun h17 => ?_) (fun h17 => ?_)
        · have H := H.1 h17
          exact kw_forget (ls' := [some (kA 558), some (kI x1), some (kI x2), none, none, none]) ⟨Or.inr rfl, ⟨Or.inr rfl, ⟨Or.inr rfl, ⟨Or.inl rfl, ⟨Or.inl rfl, ⟨Or.inl rfl, trivial⟩⟩⟩⟩⟩⟩ H
        · have H := H.2 h17
          refine kw_iload_n dX11_fours_113 rfl ?_
          refine kw_iconst dX11_fours_114 ?_
          refine kw_iadd dX11_fours_115 ?_
          refine kw_istore_n dX11_fours_116 (Nat.le_of_ble_eq_true rfl) ?_
          exact kw_forget (ls' := [some (kA 558), some (kI (x1 + 1)), some (kI x2), none, none, none]) ⟨Or.inr rfl, ⟨Or.inr rfl, ⟨Or.inr rfl, ⟨Or.inl rfl, ⟨Or.inl rfl, ⟨Or.inl rfl, trivial⟩⟩⟩⟩⟩⟩ H
    · have H := H.2 h13
      refine kw_iload_n dX11_fours_49 rfl ?_
      refine kw_iload dX11_fours_50 rfl ?_
      refine k2_callS2I m_X11_has dX11_fours_52 wl_X11_80 (Nat.le_of_ble_eq_true rfl) (s_X11_has hL (k32i (by omega)) (k32i (by omega)) (fun h19 => ⟨_, rfl, ?_⟩) (fun h19 => ⟨_, rfl, ?_⟩))
      · have H := H.1 h19
        refine kw_if_ne 61 dX11_fours_55 (by decide) (k32i (by omega)) (fun _ => ?_) (fun h20 => absurd h20 (by decide))
        refine kw_iload dX11_fours_61 rfl ?_
        refine kw_if_ne 77 dX11_fours_63 (by decide) (k32i (by omega)) (fun h21 => ?_) (fun h21 => ?_)
        · have H := H.1 h21
          refine kw_aload_n dX11_fours_77 rfl ?_
          refine kw_bipush dX11_fours_78 (by decide) ?_
          refine kw_iload dX11_fours_80 rfl ?_
          refine kw_bipush dX11_fours_82 (by decide) ?_
          refine k2_callV3I (ci := 9) (N := 38) (T := TX11) rfl (lsh_558 hL) m_X11_goesOuter dX11_fours_84 wl_X11_449 (Nat.le_of_ble_eq_true rfl) (kC2_mono H (fun r c23 H => ?_))
          obtain ⟨z22, rfl, H⟩ := H
          refine ⟨z22, rfl, ?_⟩
          refine kw_istore_n dX11_fours_87 (Nat.le_of_ble_eq_true rfl) ?_
          refine kw_iload dX11_fours_88 rfl ?_
          refine kw_iconst dX11_fours_90 ?_
          refine kw_iadd dX11_fours_91 ?_
          refine kw_istore dX11_fours_92 (Nat.le_of_ble_eq_true rfl) ?_
          refine kw_iinc dX11_fours_94 rfl ?_
          refine kw_goto 38 dX11_fours_97 (by decide) ?_
          exact kw_forget (ls' := [some (kA 558), some (kI x1), some (kI x2), some (kI z22), some (kI (x4 + 1)), some (kI (x5 + 1))]) ⟨Or.inr rfl, ⟨Or.inr rfl, ⟨Or.inr rfl, ⟨Or.inr rfl, ⟨Or.inr rfl, ⟨Or.inr rfl, trivial⟩⟩⟩⟩⟩⟩ H
        · have H := H.2 h21
          refine kw_aload_n dX11_fours_66 rfl ?_
          refine kw_iload dX11_fours_67 rfl ?_
          refine kw_bipush dX11_fours_69 (by decide) ?_
          refine k2_callV2N (ci := 9) (N := 38) (T := TX11) rfl (lsh_558 hL) m_X11_copies dX11_fours_71 wl_X11_132 (Nat.le_of_ble_eq_true rfl) (kC2_mono H (fun r c25 H => ?_))
          obtain ⟨rfl, H⟩ := H
          refine ⟨rfl, ?_⟩
          refine kw_goto 88 dX11_fours_74 (by decide) ?_
          refine kw_iload dX11_fours_88 rfl ?_
          refine kw_iconst dX11_fours_90 ?_
          refine kw_iadd dX11_fours_91 ?_
          refine kw_istore dX11_fours_92 (Nat.le_of_ble_eq_true rfl) ?_
          refine kw_iinc dX11_fours_94 rfl ?_
          refine kw_goto 38 dX11_fours_97 (by decide) ?_
          exact kw_forget (ls' := [some (kA 558), some (kI x1), some (kI x2), some (kI x3), some (kI (x4 + 1)), some (kI (x5 + 1))]) ⟨Or.inr rfl, ⟨Or.inr rfl, ⟨Or.inr rfl, ⟨Or.inr rfl, ⟨Or.inr rfl, ⟨Or.inr rfl, trivial⟩⟩⟩⟩⟩⟩ H
      · have H := H.2 h19
        refine kw_if_ne 61 dX11_fours_55 (by decide) (k32i (by omega)) (fun h26 => absurd h26 (by decide)) (fun _ => ?_)
        refine kw_goto 94 dX11_fours_58 (by decide) ?_
        refine kw_iinc dX11_fours_94 rfl ?_
        refine kw_goto 38 dX11_fours_97 (by decide) ?_
        exact kw_forget (ls' := [some (kA 558), some (kI x1), some (kI x2), some (kI x3), some (kI x4), some (kI (x5 + 1))]) ⟨Or.inr rfl, ⟨Or.inr rfl, ⟨Or.inr rfl, ⟨Or.inr rfl, ⟨Or.inr rfl, ⟨Or.inr rfl, trivial⟩⟩⟩⟩⟩⟩ H
section MMT
variable {G : KG} {S0 : KSh} {d : Nat} {P : Option AV → KMem → Prop} {c c0 : KMem} {Φ : Int → KF} {H : Int → Bool} {F : Int → KF} {f g : KF} {M m : Int} {S : KLs} {x0 x1 x2 x3 x4 : Int}
theorem t_fours (hL : kLay S0) (hg : kSgn c0) (hs : kPh Φ c0 c) (hl : kLet2 H F Φ c0) (h37 : c0 558 37 = kPs H F) (h : ∀ (Φ' : Int → KF) c', kPh Φ' c0 c' → (∀ s : Int, 0 ≤ s → s < 12 ∨ s = 30 → Φ' s = Φ s) → P (some (kI (vFrs H F))) c') : kC2 G S0 kM_X11_fours (d + 3) [kA 558] c P := by
  have inner : ∀ (n N : Nat), n < 4096 → N ≤ n → kpop n = 4 → (∀ k, k < 12 → Nat.testBit n k = true → kPt H F k = true) → (∀ (Φ' : Int → KF) c' (v : Int), kPh Φ' c0 c' → (∀ s : Int, 0 ≤ s → s < 12 ∨ s = 30 → Φ' s = Φ s) → v = ((N + (if kF4 H F n = true then 1 else 0) : Nat) : Int) → kW2 G S0 kM_X11_fours (d + 3) 117 [some (kA 558), some (kI v), some (kI (n : Int)), none, none, none] [] c' P) → ∀ r l : Nat, l + r = 12 → ∀ (Φ' : Int → KF) c', kPh Φ' c0 c' → (∀ s : Int, 0 ≤ s → s < 12 ∨ s = 30 → Φ' s = Φ s) → (fsN F n l).2.1 ≤ l → ((fsN F n l).1 = true → (fsN F n l).2.1 = kCn (fun k => Nat.testBit n k) l ∧ ((fsN F n l).2.1 ≠ 0 → Φ' 24 = (fsN F n l).2.2 ∧ kB kLB (fsN F n l).2.2)) → kW2 G S0 kM_X11_fours (d + 3) 38 [some (kA 558), some (kI (N : Int)), some (kI (n : Int)), some (kI (if (fsN F n l).1 = true then 1 else 0)), some (kI ((fsN F n l).2.1 : Int)), some (kI (l : Int))] [] c' P := by
    intro n N hn hN hp hpt K r
    have hbit : ∀ k : Nat, k < 12 → (kand (kshr (n : Int) (k : Int)) 1 = 1 ↔ Nat.testBit n k = true) := fun k hk => kbit_iff (m := (n : Int)) (by omega) hk
    induction r with
    | zero =>
      intro l hl9 Φ' c' hs hk hm hA
      obtain rfl : l = 12 := by omega
      refine v_X11_fours_38 hL (by omega) (by omega) (by split <;> omega) (by omega) (by omega) ⟨by omega, by omega, by omega, by omega, by omega, by omega, by omega, by split <;> omega⟩ ⟨fun _ => ⟨fun q => ?_, fun q => ?_⟩, fun q => by omega⟩
      · have nf : ¬ (fsN F n 12).1 = true := fun w => by rw [if_pos w] at q; omega
        exact K _ _ _ hs hk (by rw [if_neg (fun w => nf (kF4_iff.mp w).2.2.1)]; rfl)
      · have nf : (fsN F n 12).1 = true := Classical.byContradiction (fun w => by rw [if_neg w] at q; exact q rfl)
        obtain ⟨h1, h2⟩ := hA nf
        have hp2 := kpop_bit (m := (n : Int)) (by omega)
        have hp3 : kCn (fun k => Nat.testBit n k) 12 = 4 := hp2.symm.trans hp
        obtain ⟨h3, h4⟩ := h2 (by omega)
        refine t_isNothing hL hs (fun z => ⟨1, rfl, kr1 ?_⟩) (fun z => ⟨0, rfl, kr0 ?_⟩) h3 h4 (by decide) (by omega)
        · exact K _ _ _ hs hk (by rw [if_pos (kF4_iff.mpr ⟨hp, hpt, nf, z⟩)]; omega)
        · exact K _ _ _ hs hk (by rw [if_neg (fun w => z (kF4_iff.mp w).2.2.2)]; rfl)
    | succ r ih =>
      intro l hl9 Φ' c' hs hk hm hA
      have e2 : fsN F n (l + 1) = if (fsN F n l).1 = true ∧ Nat.testBit n l = true then (if (fsN F n l).2.1 = 0 then (true, 1, F l) else (kWb (mulP 1 (fsN F n l).2.2 (F l)), (fsN F n l).2.1 + 1, mulP 1 (fsN F n l).2.2 (F l))) else fsN F n l := rfl
      have ec : kCn (fun k => Nat.testBit n k) (l + 1) = if Nat.testBit n l = true then kCn (fun k => Nat.testBit n k) l + 1 else kCn (fun k => Nat.testBit n k) l := rfl
      have next := ih (l + 1) (by omega)
      refine v_X11_fours_38 hL (by omega) (by omega) (by split <;> omega) (by omega) (by omega) ⟨by omega, by omega, by omega, by omega, by omega, by omega, by omega, by split <;> omega⟩ ⟨fun q => by omega, fun _ => ⟨fun q => ⟨fun q => ?_, fun q2 => absurd q q2⟩, fun q => ⟨fun z => ?_, fun z => ?_⟩⟩⟩
      · have nf : ¬ (fsN F n l).1 = true := fun w => by rw [if_pos w] at q; omega
        have st := fsN_stay F n l nf (12 - l)
        rw [show l + (12 - l) = 12 by omega] at st
        exact K _ _ _ hs hk (by rw [if_neg (fun w => nf (by rw [← st]; exact (kF4_iff.mp w).2.2.1))]; rfl)
      · have nf : (fsN F n l).1 = true := Classical.byContradiction (fun w => by rw [if_neg w] at q; exact q rfl)
        have zb := (hbit l (by omega)).mp z
        obtain ⟨h1, h2⟩ := hA nf
        have pl := hpt l (by omega) zb
        unfold kPt at pl
        rw [Bool.and_eq_true] at pl
        obtain ⟨u1, u2, u3, u4⟩ := hl.1 l pl.1
        have u5 : Φ' l = F l := (hk l (by omega) (by omega)).trans u3
        rw [if_pos ⟨nf, zb⟩] at e2
        rw [if_pos zb] at ec
        refine ⟨fun w => ?_, fun w => ?_⟩
        · have m0 : ¬ (fsN F n l).2.1 = 0 := by omega
          rw [if_neg m0] at e2
          obtain ⟨h3, h4⟩ := h2 m0
          refine t_goesOuter hL hg hs (fun c5 hs w1 => ⟨1, rfl, ?_⟩) (fun c5 hs w1 => ⟨0, rfl, ?_⟩) (by omega) h3 u5 h4 u4
          · have := next _ c5 hs (by intro s p q; repeat (first | exact rfl | refine kUn (by omega) ?_ | exact hk s p q)) (by rw [e2]; show (fsN F n l).2.1 + 1 ≤ l + 1; omega) (fun _ => by rw [e2]; exact ⟨by show (fsN F n l).2.1 + 1 = _; omega, fun _ => ⟨kUs, kWb_iff.mp w1⟩⟩)
            rw [e2] at this
            rw [show (if (kWb (mulP 1 (fsN F n l).2.2 (F l)), (fsN F n l).2.1 + 1, mulP 1 (fsN F n l).2.2 (F l)).1 = true then (1 : Int) else 0) = 1 from if_pos w1] at this
            exact this
          · have := next _ c5 hs (by intro s p q; repeat (first | exact rfl | refine kUn (by omega) ?_ | exact hk s p q)) (by rw [e2]; show (fsN F n l).2.1 + 1 ≤ l + 1; omega) (fun w3 => by rw [e2] at w3; exact absurd w3 w1)
            rw [e2] at this
            rw [show (if (kWb (mulP 1 (fsN F n l).2.2 (F l)), (fsN F n l).2.1 + 1, mulP 1 (fsN F n l).2.2 (F l)).1 = true then (1 : Int) else 0) = 0 from if_neg w1] at this
            exact this
        · have m0 : (fsN F n l).2.1 = 0 := by omega
          rw [if_pos m0] at e2
          refine t_copies hL hs (fun c5 hs => ⟨rfl, ?_⟩)
          have := next _ c5 hs (by intro s p q; repeat (first | exact rfl | refine kUn (by omega) ?_ | exact hk s p q)) (by rw [e2]; show 1 ≤ l + 1; omega) (fun _ => by rw [e2]; exact ⟨by show 1 = _; omega, fun _ => ⟨kUs, u4⟩⟩)
          rw [e2] at this
          rw [m0, if_pos nf]
          exact this
      · have nf : (fsN F n l).1 = true := Classical.byContradiction (fun w => by rw [if_neg w] at q; exact q rfl)
        have zb : ¬ Nat.testBit n l = true := fun w => z ((hbit l (by omega)).mpr w)
        rw [if_neg (fun w => zb w.2)] at e2
        rw [if_neg zb] at ec
        have := next Φ' c' hs hk (by rw [e2]; omega) (fun w => by rw [e2] at w ⊢; rw [ec]; exact hA w)
        rw [e2] at this
        exact this
  have outer : ∀ r n : Nat, n + r = 4096 → ∀ (Φ' : Int → KF) c', kPh Φ' c0 c' → (∀ s : Int, 0 ≤ s → s < 12 ∨ s = 30 → Φ' s = Φ s) → kW2 G S0 kM_X11_fours (d + 3) 4 [some (kA 558), some (kI (kCn (kF4 H F) n : Int)), some (kI (n : Int)), none, none, none] [] c' P := by
    intro r
    induction r with
    | zero =>
      intro n hn Φ' c' hs hk
      obtain rfl : n = 4096 := by omega
      have hc := kCn_le (kF4 H F) 4096
      exact v_X11_fours_4 hL (by omega) (by omega) (by omega) ⟨fun _ => h Φ' c' hs hk, fun q => by omega⟩
    | succ r ih =>
      intro n hn Φ' c' hs hk
      have hc := kCn_le (kF4 H F) n
      have ec : kCn (kF4 H F) (n + 1) = if kF4 H F n = true then kCn (kF4 H F) n + 1 else kCn (kF4 H F) n := rfl
      have next : ∀ (Φ' : Int → KF) c' (v : Int), kPh Φ' c0 c' → (∀ s : Int, 0 ≤ s → s < 12 ∨ s = 30 → Φ' s = Φ s) → v = ((kCn (kF4 H F) n + (if kF4 H F n = true then 1 else 0) : Nat) : Int) → kW2 G S0 kM_X11_fours (d + 3) 117 [some (kA 558), some (kI v), some (kI (n : Int)), none, none, none] [] c' P := by
        intro Φ' c' v a b ev
        have e9 : kCn (kF4 H F) n + (if kF4 H F n = true then 1 else 0) = kCn (kF4 H F) (n + 1) := by rw [ec]; split <;> omega
        rw [e9] at ev
        have hc2 := kCn_le (kF4 H F) (n + 1)
        rw [ev]
        exact v_X11_fours_117 hL (by omega) (by omega) (by omega) (ih (n + 1) (by omega) Φ' c' a b)
      refine v_X11_fours_4 hL (by omega) (by omega) (by omega) ⟨fun q => by omega, fun _ => ⟨fun q => ?_, fun q => ?_⟩⟩
      · exact next _ _ _ hs hk (by rw [if_neg (fun w => q (by have := (kF4_iff.mp w).1; show ((kpop n : Nat) : Int) = 4; omega))]; rfl)
      · have hp : kpop n = 4 := by have q : ((kpop n : Nat) : Int) = 4 := q; omega
        refine t_arePoints hL hs h37 (by omega) (fun w => ⟨1, rfl, kq1 ?_⟩) (fun w => ⟨0, rfl, kq0 ?_⟩)
        · exact inner n (kCn (kF4 H F) n) (by omega) hc hp w next 12 0 (by omega) Φ' c' hs hk (Nat.le_refl 0) (fun _ => ⟨rfl, fun y => absurd rfl y⟩)
        · exact next _ _ _ hs hk (by rw [if_neg (fun y => w (kF4_iff.mp y).2.1)]; rfl)
  exact v_X11_fours hL (outer 4096 0 (by omega) Φ c hs (fun _ _ _ => rfl))
end MMT
