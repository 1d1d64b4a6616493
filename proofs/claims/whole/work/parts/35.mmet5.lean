def mtSum (H : Int → Bool) (F : Int → KF) (l : Nat) : Nat := if kBr H F l = true then vOnO H F l 12 else 0
/-- the fullest OBJECT and how many POINTS it bears -/
def mtBest (H : Int → Bool) (F : Int → KF) : Nat → Int × Int
  | 0 => (-2, -1)
  | l + 1 => if kBr H F l = true ∧ (mtBest H F l).2 < (vOnO H F l 12 : Int) then ((l : Int), (vOnO H F l 12 : Int)) else mtBest H F l
def vMeet (H : Int → Bool) (F : Int → KF) (w : Int) : Int := if 0 ≤ w ∧ w ≤ 4 then (if w = 1 then (vThr H F : Int) else if w = 2 then (vFrs H F : Int) else if w = 3 then (vLikes H F : Int) else if w = 0 then (kSn (mtSum H F) 12 : Int) else (mtBest H F 12).1) else -1
theorem mtBest_rg (H : Int → Bool) (F : Int → KF) : ∀ n, n ≤ 12 → -2 ≤ (mtBest H F n).1 ∧ (mtBest H F n).1 ≤ 12 ∧ -1 ≤ (mtBest H F n).2 ∧ (mtBest H F n).2 ≤ 12
  | 0, _ => by show -2 ≤ (-2 : Int) ∧ (-2 : Int) ≤ 12 ∧ -1 ≤ (-1 : Int) ∧ (-1 : Int) ≤ 12; omega
  | n + 1, h => by
    have ih := mtBest_rg H F n (by omega)
    have hv : vOnO H F n 12 ≤ 12 := kCn_le _ 12
    have e : mtBest H F (n + 1) = if kBr H F n = true ∧ (mtBest H F n).2 < (vOnO H F n 12 : Int) then ((n : Int), (vOnO H F n 12 : Int)) else mtBest H F n := rfl
    rw [e]
    by_cases q : kBr H F n = true ∧ (mtBest H F n).2 < (vOnO H F n 12 : Int)
    · rw [if_pos q]; show -2 ≤ (n : Int) ∧ (n : Int) ≤ 12 ∧ -1 ≤ (vOnO H F n 12 : Int) ∧ (vOnO H F n 12 : Int) ≤ 12; omega
    · rw [if_neg q]; exact ih
set_option maxRecDepth 4000 in
theorem v_X11_meetings {G : KG} {S0 : KSh} (hL : kLay S0) {d : Nat} {P : Option AV → KMem → Prop} {c : KMem} {x1 : Int} (r1 : -2147483648 ≤ x1 ∧ x1 < 2147483648) (H : ((0 ≤ x1 ∧ x1 ≤ 4) → (kC2 G S0 kM_X11_letters (d + 7) [kA 558, kI 1] c (kRI (fun z3 c4 => (x1 ≠ 1 → ((x1 ≠ 2 → ((x1 ≠ 3 → (kW2 G S0 kM_X11_meetings (d + 8) 61 [some (kA 558), some (kI x1), some (kI 0), some (kI (-2)), some (kI (-1)), some (kI 0), none] [] (kup c4 558 37 z3) P)) ∧ (x1 = 3 → (kC2 G S0 kM_X11_likes (d + 7) [kA 558] (kup c4 558 37 z3) (kRI (fun z8 c9 => P (some (kI z8)) c9)))))) ∧ (x1 = 2 → (kC2 G S0 kM_X11_fours (d + 7) [kA 558] (kup c4 558 37 z3) (kRI (fun z10 c11 => P (some (kI z10)) c11)))))) ∧ (x1 = 1 → (kC2 G S0 kM_X11_threes (d + 7) [kA 558] (kup c4 558 37 z3) (kRI (fun z12 c13 => P (some (kI z12)) c13)))))))) ∧ (¬ (0 ≤ x1 ∧ x1 ≤ 4) → (P (some (kI (-1))) c))) : kC2 G S0 kM_X11_meetings (d + 8) [kA 558, kI x1] c P := by
  refine k2_met (by decide) rfl (Nat.le_of_ble_eq_true rfl) (l0 := [some (kA 558), some (kI x1), none, none, none, none, none]) rfl ?_
  refine kw_iload_n dX11_meetings_0 rfl ?_
  refine kw_iconst dX11_meetings_1 ?_
  refine kw_iconst dX11_meetings_2 ?_
  refine k2_callS3I m_X11_in dX11_meetings_3 wl_X11_100 (Nat.le_of_ble_eq_true rfl) (s_X11_in hL (k32i (by omega)) (k32i (by omega)) (k32i (by omega)) (fun h1 => ⟨_, rfl, ?_⟩) (fun h1 => ⟨_, rfl, ?_⟩))
  · have H := H.1 h1
    refine kw_if_ne 11 dX11_meetings_6 (by decide) (k32i (by omega)) (fun _ => ?_) (fun h2 => absurd h2 (by decide))
    refine kw_aload_n dX11_meetings_11 rfl ?_
    refine kw_aload_n dX11_meetings_12 rfl ?_
    refine kw_iconst dX11_meetings_13 ?_
    refine k2_callV1I (ci := 9) (N := 38) (T := TX11) rfl (lsh_558 hL) m_X11_letters dX11_meetings_14 wl_X11_455 (Nat.le_of_ble_eq_true rfl) (kC2_mono H (fun r c4 H => ?_))
    obtain ⟨z3, rfl, H⟩ := H
    refine ⟨z3, rfl, ?_⟩
    refine k2_putI fp_X11_37 dX11_meetings_17 wf_X11_452 (lsh_558 hL) ?_
    refine kw_iload_n dX11_meetings_20 rfl ?_
    refine kw_iconst dX11_meetings_21 ?_
    refine kw_icmp_ne 30 dX11_meetings_22 (by decide) (k32i (by omega)) (k32i (by omega)) (fun h5 => ?_) (fun h5 => ?_)
    · have H := H.1 h5
      refine kw_iload_n dX11_meetings_30 rfl ?_
      refine kw_iconst dX11_meetings_31 ?_
      refine kw_icmp_ne 40 dX11_meetings_32 (by decide) (k32i (by omega)) (k32i (by omega)) (fun h6 => ?_) (fun h6 => ?_)
      · have H := H.1 h6
        refine kw_iload_n dX11_meetings_40 rfl ?_
        refine kw_iconst dX11_meetings_41 ?_
        refine kw_icmp_ne 50 dX11_meetings_42 (by decide) (k32i (by omega)) (k32i (by omega)) (fun h7 => ?_) (fun h7 => ?_)
        · have H := H.1 h7
          refine kw_iconst dX11_meetings_50 ?_
          refine kw_istore_n dX11_meetings_51 (Nat.le_of_ble_eq_true rfl) ?_
          refine kw_bipush dX11_meetings_52 (by decide) ?_
          refine kw_istore_n dX11_meetings_54 (Nat.le_of_ble_eq_true rfl) ?_
          refine kw_iconst dX11_meetings_55 ?_
          refine kw_istore dX11_meetings_56 (Nat.le_of_ble_eq_true rfl) ?_
          refine kw_iconst dX11_meetings_58 ?_
          refine kw_istore dX11_meetings_59 (Nat.le_of_ble_eq_true rfl) ?_
          exact kw_forget (ls' := [some (kA 558), some (kI x1), some (kI 0), some (kI (-2)), some (kI (-1)), some (kI 0), none]) ⟨Or.inr rfl, ⟨Or.inr rfl, ⟨Or.inr rfl, ⟨Or.inr rfl, ⟨Or.inr rfl, ⟨Or.inr rfl, ⟨Or.inr rfl, trivial⟩⟩⟩⟩⟩⟩⟩ H
        · have H := H.2 h7
          refine kw_aload_n dX11_meetings_45 rfl ?_
          refine k2_callV0I (ci := 9) (N := 38) (T := TX11) rfl (lsh_558 hL) m_X11_likes dX11_meetings_46 wl_X11_464 (Nat.le_of_ble_eq_true rfl) (kC2_mono H (fun r c9 H => ?_))
          obtain ⟨z8, rfl, H⟩ := H
          refine ⟨z8, rfl, ?_⟩
          refine k2_iret dX11_meetings_49 rfl H
      · have H := H.2 h6
        refine kw_aload_n dX11_meetings_35 rfl ?_
        refine k2_callV0I (ci := 9) (N := 38) (T := TX11) rfl (lsh_558 hL) m_X11_fours dX11_meetings_36 wl_X11_461 (Nat.le_of_ble_eq_true rfl) (kC2_mono H (fun r c11 H => ?_))
        obtain ⟨z10, rfl, H⟩ := H
        refine ⟨z10, rfl, ?_⟩
        refine k2_iret dX11_meetings_39 rfl H
    · have H := H.2 h5
      refine kw_aload_n dX11_meetings_25 rfl ?_
      refine k2_callV0I (ci := 9) (N := 38) (T := TX11) rfl (lsh_558 hL) m_X11_threes dX11_meetings_26 wl_X11_458 (Nat.le_of_ble_eq_true rfl) (kC2_mono H (fun r c13 H => ?_))
      obtain ⟨z12, rfl, H⟩ := H
      refine ⟨z12, rfl, ?_⟩
      refine k2_iret dX11_meetings_29 rfl H
  · have H := H.2 h1
    refine kw_if_ne 11 dX11_meetings_6 (by decide) (k32i (by omega)) (fun h14 => absurd h14 (by decide)) (fun _ => ?_)
    refine kw_iconst dX11_meetings_9 ?_
    refine k2_iret dX11_meetings_10 rfl H
set_option maxRecDepth 4000 in
theorem v_X11_meetings_61 {G : KG} {S0 : KSh} (hL : kLay S0) {d : Nat} {P : Option AV → KMem → Prop} {c : KMem} {x1 x2 x3 x4 x5 : Int} (r1 : -2147483648 ≤ x1 ∧ x1 < 2147483648) (r2 : -2147483648 ≤ x2 ∧ x2 < 2147483648) (r3 : -2147483648 ≤ x3 ∧ x3 < 2147483648) (r4 : -2147483648 ≤ x4 ∧ x4 < 2147483648) (r5 : 0 ≤ x5 ∧ x5 < 2147483648) (hp : 0 ≤ x2 ∧ x2 ≤ 200 ∧ 0 ≤ x5 ∧ x5 ≤ 12) (H : (12 ≤ x5 → ((x1 ≠ 0 → (P (some (kI x3)) c)) ∧ (x1 = 0 → (P (some (kI x2)) c)))) ∧ (x5 < 12 → (kC2 G S0 kM_X11_isPlainObject (d + 7) [kA 558, kI x5] c (kRI (fun z17 c18 => (k32 z17) ∧ ((z17 ≠ 0 → (kC2 G S0 kM_X11_onObject (d + 7) [kA 558, kI x5] c18 (kRI (fun z21 c22 => (k32 z21) ∧ ((z21 ≤ x4 → ((z21 ≤ x4 → (kW2 G S0 kM_X11_meetings (d + 8) 114 [some (kA 558), some (kI x1), some (kI (x2 + z21)), some (kI x3), some (kI x4), some (kI x5), none] [] c22 P)) ∧ (x4 < z21 → (kW2 G S0 kM_X11_meetings (d + 8) 114 [some (kA 558), some (kI x1), some (kI (x2 + z21)), some (kI x3), some (kI z21), some (kI x5), none] [] c22 P)))) ∧ (x4 < z21 → ((z21 ≤ x4 → (kW2 G S0 kM_X11_meetings (d + 8) 114 [some (kA 558), some (kI x1), some (kI (x2 + z21)), some (kI x5), some (kI x4), some (kI x5), none] [] c22 P)) ∧ (x4 < z21 → (kW2 G S0 kM_X11_meetings (d + 8) 114 [some (kA 558), some (kI x1), some (kI (x2 + z21)), some (kI x5), some (kI z21), some (kI x5), none] [] c22 P))))))))) ∧ (z17 = 0 → (kW2 G S0 kM_X11_meetings (d + 8) 114 [some (kA 558), some (kI x1), some (kI x2), some (kI x3), some (kI x4), some (kI x5), none] [] c18 P)))))))) : kW2 G S0 kM_X11_meetings (d + 8) 61 [some (kA 558), some (kI x1), some (kI x2), some (kI x3), some (kI x4), some (kI x5), none] [] c P := by
  refine kw_iload dX11_meetings_61 rfl ?_
  refine kw_bipush dX11_meetings_63 (by decide) ?_
  refine kw_icmp_ge 120 dX11_meetings_65 (by decide) (k32i (by omega)) (k32i (by omega)) (fun h15 => ?_) (fun h15 => ?_)
  · have H := H.1 h15
    refine kw_iload_n dX11_meetings_120 rfl ?_
    refine kw_if_ne 128 dX11_meetings_121 (by decide) (k32i (by omega)) (fun h16 => ?_) (fun h16 => ?_)
    · have H := H.1 h16
      refine kw_iload_n dX11_meetings_128 rfl ?_
      refine k2_iret dX11_meetings_129 rfl H
    · have H := H.2 h16
      refine kw_iload_n dX11_meetings_124 rfl ?_
      refine kw_goto 129 dX11_meetings_125 (by decide) ?_
      refine k2_iret dX11_meetings_129 rfl H
  · have H := H.2 h15
    refine kw_aload_n dX11_meetings_68 rfl ?_
    refine kw_iload dX11_meetings_69 rfl ?_
    refine k2_callV1I (ci := 9) (N := 38) (T := TX11) rfl (lsh_558 hL) m_X11_isPlainObject dX11_meetings_71 wl_X11_467 (Nat.le_of_ble_eq_true rfl) (kC2_mono H (fun r c18 H => ?_))
    obtain ⟨z17, rfl, H⟩ := H
    refine ⟨z17, rfl, ?_⟩
    have o20 := H.1
    have H := H.2
    refine kw_if_ne 80 dX11_meetings_74 (by decide) o20 (fun h19 => ?_) (fun h19 => ?_)
    · have H := H.1 h19
      refine kw_aload_n dX11_meetings_80 rfl ?_
      refine kw_iload dX11_meetings_81 rfl ?_
      refine k2_callV1I (ci := 9) (N := 38) (T := TX11) rfl (lsh_558 hL) m_X11_onObject dX11_meetings_83 wl_X11_470 (Nat.le_of_ble_eq_true rfl) (kC2_mono H (fun r c22 H => ?_))
      obtain ⟨z21, rfl, H⟩ := H
      refine ⟨z21, rfl, ?_⟩
      refine kw_istore dX11_meetings_86 (Nat.le_of_ble_eq_true rfl) ?_
      refine kw_iload_n dX11_meetings_88 rfl ?_
      refine kw_iload dX11_meetings_89 rfl ?_
      refine kw_iadd dX11_meetings_91 ?_
      refine kw_istore_n dX11_meetings_92 (Nat.le_of_ble_eq_true rfl) ?_
      refine kw_iload dX11_meetings_93 rfl ?_
      refine kw_iload dX11_meetings_95 rfl ?_
      have o24 := H.1
      have H := H.2
      refine kw_icmp_le 103 dX11_meetings_97 (by decide) o24 (k32i (by omega)) (fun h23 => ?_) (fun h23 => ?_)
      · have H := H.1 h23
        refine kw_iload dX11_meetings_103 rfl ?_
        refine kw_iload dX11_meetings_105 rfl ?_
        refine kw_icmp_le 114 dX11_meetings_107 (by decide) o24 (k32i (by omega)) (fun h25 => ?_) (fun h25 => ?_)
        · have H := H.1 h25
          exact kw_forget (ls' := [some (kA 558), some (kI x1), some (kI (x2 + z21)), some (kI x3), some (kI x4), some (kI x5), none]) ⟨Or.inr rfl, ⟨Or.inr rfl, ⟨Or.inr rfl, ⟨Or.inr rfl, ⟨Or.inr rfl, ⟨Or.inr rfl, ⟨Or.inl rfl, trivial⟩⟩⟩⟩⟩⟩⟩ H
        · have H := H.2 h25
          refine kw_iload dX11_meetings_110 rfl ?_
          refine kw_istore dX11_meetings_112 (Nat.le_of_ble_eq_true rfl) ?_
          exact kw_forget (ls' := [some (kA 558), some (kI x1), some (kI (x2 + z21)), some (kI x3), some (kI z21), some (kI x5), none]) ⟨Or.inr rfl, ⟨Or.inr rfl, ⟨Or.inr rfl, ⟨Or.inr rfl, ⟨Or.inr rfl, ⟨Or.inr rfl, ⟨Or.inl rfl, trivial⟩⟩⟩⟩⟩⟩⟩ H
      · have H := H.2 h23
        refine kw_iload dX11_meetings_100 rfl ?_
        refine kw_istore_n dX11_meetings_102 (Nat.le_of_ble_eq_true rfl) ?_
        refine kw_iload dX11_meetings_103 rfl ?_
        refine kw_iload dX11_meetings_105 rfl ?_
        refine kw_icmp_le 114 dX11_meetings_107 (by decide) o24 (k32i (by omega)) (fun h26 => ?_) (fun h26 => ?_)
        · have H := H.1 h26
          exact kw_forget (ls' := [some (kA 558), some (kI x1), some (kI (x2 + z21)), some (kI x5), some (kI x4), some (kI x5), none]) ⟨Or.inr rfl, ⟨Or.inr rfl, ⟨Or.inr rfl, ⟨Or.inr rfl, ⟨Or.inr rfl, ⟨Or.inr rfl, ⟨Or.inl rfl, trivial⟩⟩⟩⟩⟩⟩⟩ H
        · have H := H.2 h26
          refine kw_iload dX11_meetings_110 rfl ?_
          refine kw_istore dX11_meetings_112 (Nat.le_of_ble_eq_true rfl) ?_
          exact kw_forget (ls' := [some (kA 558), some (kI x1), some (kI (x2 + z21)), some (kI x5), some (kI z21), some (kI x5), none]) ⟨Or.inr rfl, ⟨Or.inr rfl, ⟨Or.inr rfl, ⟨Or.inr rfl, ⟨Or.inr rfl, ⟨Or.inr rfl, ⟨Or.inl rfl, trivial⟩⟩⟩⟩⟩⟩⟩ H
    · have H := H.2 h19
      refine kw_goto 114 dX11_meetings_77 (by decide) ?_
      exact kw_forget (ls' := [some (kA 558), some (kI x1), some (kI x2), some (kI x3), some (kI x4), some (kI x5), none]) ⟨Or.inr rfl, ⟨Or.inr rfl, ⟨Or.inr rfl, ⟨Or.inr rfl, ⟨Or.inr rfl, ⟨Or.inr rfl, ⟨Or.inr rfl, trivial⟩⟩⟩⟩⟩⟩⟩ H
set_option maxRecDepth 4000 in
theorem v_X11_meetings_114 {G : KG} {S0 : KSh} (hL : kLay S0) {d : Nat} {P : Option AV → KMem → Prop} {c : KMem} {x1 x2 x3 x4 x5 : Int} (r1 : -2147483648 ≤ x1 ∧ x1 < 2147483648) (r2 : -2147483648 ≤ x2 ∧ x2 < 2147483648) (r3 : -2147483648 ≤ x3 ∧ x3 < 2147483648) (r4 : -2147483648 ≤ x4 ∧ x4 < 2147483648) (r5 : 0 ≤ x5 ∧ x5 < 2147483648) (hp : 0 ≤ x5 ∧ x5 < 12) (H : kW2 G S0 kM_X11_meetings (d + 8) 61 [some (kA 558), some (kI x1), some (kI x2), some (kI x3), some (kI x4), some (kI (x5 + 1)), none] [] c P) : kW2 G S0 kM_X11_meetings (d + 8) 114 [some (kA 558), some (kI x1), some (kI x2), some (kI x3), some (kI x4), some (kI x5), none] [] c P := by
  refine kw_iinc dX11_meetings_114 rfl ?_
  refine kw_goto 61 dX11_meetings_117 (by decide) ?_
  exact kw_forget (ls' := [some (kA 558), some (kI x1), some (kI x2), some (kI x3), some (kI x4), some (kI (x5 + 1)), none]) ⟨Or.inr rfl, ⟨Or.inr rfl, ⟨Or.inr rfl, ⟨Or.inr rfl, ⟨Or.inr rfl, ⟨Or.inr rfl, ⟨Or.inr rfl, trivial⟩⟩⟩⟩⟩⟩⟩ H
section MMT
variable {G : KG} {S0 : KSh} {d : Nat} {P : Option AV → KMem → Prop} {c c0 : KMem} {Φ : Int → KF} {H : Int → Bool} {F : Int → KF} {f g : KF} {M m : Int} {S : KLs} {x0 x1 x2 x3 x4 : Int}
theorem s_X11_meetings (hL : kLay S0) (r1 : k32 x1) (hs : RSt H F c) (h : ∀ c', kRP c c' → P (some (kI (vMeet H F x1))) c') : kC2 G S0 kM_X11_meetings (d + 8) [kA 558, kI x1] c P := by
  have hP := kPi h
  unfold vMeet at hP
  refine v_X11_meetings hL r1 ⟨fun z0 => ?_, fun z0 => hP _ _ kRP.rf (by rw [if_neg z0])⟩
  rw [if_pos z0] at hP
  refine s_X11_letters hL (k32i (by omega)) hs (fun c4 hs hr => ⟨_, rfl, ?_⟩)
  have ev : vLetters H F 1 = kPs H F := by unfold vLetters; rw [if_pos (by omega)]; rfl
  rw [ev]
  have rp0 : kRP c c4 := hr.rp kT2s
  obtain ⟨Φ, s0, hg0, hst0, hy, hn, e3, hl0⟩ := hs.op
  have s1 : kPh Φ (kup c4 558 37 (kPs H F)) (kup c4 558 37 (kPs H F)) := s0.up (by omega)
  have hg : kSgn (kup c4 558 37 (kPs H F)) := fun a b ha hb => (kup_n (Or.inl (by decide))).trans (hg0 a b ha hb)
  have h37 : kup c4 558 37 (kPs H F) 558 37 = kPs H F := kup_s _ _ _ _
  have ef : ∀ k : Int, kup c4 558 37 (kPs H F) 564 k = c4 564 k := fun k => kup_n (Or.inl (by decide))
  have hl : kLet2 H F Φ (kup c4 558 37 (kPs H F)) := ⟨hl0, fun k k0 k1 => by rw [ef]; exact hs.st k0 k1⟩
  have fr : kFr c4 (kup c4 558 37 (kPs H F)) := kFr.rf.up (by omega)
  refine ⟨fun z1 => ⟨fun z2 => ⟨fun z3 => ?_, fun z3 => ?_⟩, fun z2 => ?_⟩, fun z1 => ?_⟩
  · rw [if_neg z1, if_neg z2, if_neg z3] at hP
    have hb1 : ∀ i, mtSum H F i ≤ 12 := fun i => by
      have hv : vOnO H F i 12 ≤ 12 := kCn_le _ 12
      unfold mtSum; split <;> omega
    have loop : ∀ n l : Nat, l + n = 12 → ∀ (Φ' : Int → KF) c', kPh Φ' (kup c4 558 37 (kPs H F)) c' → (∀ s : Int, 0 ≤ s → s < 12 ∨ s = 30 → Φ' s = Φ s) → kW2 G S0 kM_X11_meetings (d + 8) 61 [some (kA 558), some (kI x1), some (kI (kSn (mtSum H F) l : Int)), some (kI (mtBest H F l).1), some (kI (mtBest H F l).2), some (kI (l : Int)), none] [] c' P := by
      intro n
      induction n with
      | zero =>
        intro l hl9 Φ' c' hs hk
        obtain rfl : l = 12 := by omega
        have hc := kSn_le hb1 12
        have hm := mtBest_rg H F 12 (by omega)
        refine v_X11_meetings_61 hL r1 (by omega) (by omega) (by omega) (by omega) ⟨by omega, by omega, by omega, by omega⟩ ⟨fun _ => ⟨fun w => ?_, fun w => ?_⟩, fun q => by omega⟩
        · rw [if_neg w] at hP; exact hP _ _ (rp0.tr (s0.rp hs fr hk)) rfl
        · rw [if_pos w] at hP; exact hP _ _ (rp0.tr (s0.rp hs fr hk)) rfl
      | succ n ih =>
        intro l hl9 Φ' c' hs hk
        have hc := kSn_le hb1 l
        have hm := mtBest_rg H F l (by omega)
        have hv : vOnO H F l 12 ≤ 12 := kCn_le _ 12
        have e1 : kSn (mtSum H F) (l + 1) = kSn (mtSum H F) l + mtSum H F l := rfl
        have e2 : mtBest H F (l + 1) = if kBr H F l = true ∧ (mtBest H F l).2 < (vOnO H F l 12 : Int) then ((l : Int), (vOnO H F l 12 : Int)) else mtBest H F l := rfl
        have es : mtSum H F l = if kBr H F l = true then vOnO H F l 12 else 0 := rfl
        have next : ∀ (Φ' : Int → KF) c' (v b m : Int), kPh Φ' (kup c4 558 37 (kPs H F)) c' → (∀ s : Int, 0 ≤ s → s < 12 ∨ s = 30 → Φ' s = Φ s) → v = (kSn (mtSum H F) (l + 1) : Int) → b = (mtBest H F (l + 1)).1 → m = (mtBest H F (l + 1)).2 → kW2 G S0 kM_X11_meetings (d + 8) 114 [some (kA 558), some (kI x1), some (kI v), some (kI b), some (kI m), some (kI (l : Int)), none] [] c' P := by
          intro Φ' c' v b m p q ev eb em
          have hc2 := kSn_le hb1 (l + 1)
          have hm2 := mtBest_rg H F (l + 1) (by omega)
          rw [ev, eb, em]
          exact v_X11_meetings_114 hL r1 (by omega) (by omega) (by omega) (by omega) (by omega) (ih (l + 1) (by omega) Φ' c' p q)
        have e3' : Φ' 30 = farP := (hk 30 (by omega) (by omega)).trans e3
        have hl' : kLet2 H F Φ' (kup c4 558 37 (kPs H F)) := ⟨fun x hx => by have := hl.1 x hx; exact ⟨this.1, this.2.1, (hk x this.1 (Or.inl this.2.1)).trans this.2.2.1, this.2.2.2⟩, hl.2⟩
        have ec : ∀ k : Int, c' 564 k = c4 564 k := fun k => (hs.2 564 k (by decide) (by decide)).trans (ef k)
        have hst : kStd c' := fun k k0 k1 => by rw [ec]; exact hst0 k k0 k1
        have hh : ∀ k : Int, kHas c' k ↔ H k = true := fun k => by
          unfold kHas; rw [ec]
          exact ⟨fun w => hy k w, fun w => Classical.byContradiction (fun y => hn k y w)⟩
        refine v_X11_meetings_61 hL r1 (by omega) (by omega) (by omega) (by omega) ⟨by omega, by omega, by omega, by omega⟩ ⟨fun q => by omega, fun _ => ?_⟩
        refine t_isPlainObject hL hg hs e3' hl' h37 (l := l) (by omega) hst hh (fun c5 a b hs q => ⟨1, rfl, kq1 ?_⟩) (fun Φ2 c5 hs hk2 q => ⟨0, rfl, kq0 ?_⟩)
        · have q2 := q
          unfold kBr at q2
          rw [Bool.and_eq_true, Bool.and_eq_true] at q2
          have hl5 : kLet2 H F (kU (kU Φ' 29 a) 31 b) (kup c4 558 37 (kPs H F)) := ⟨fun x hx => by have := hl'.1 x hx; exact ⟨this.1, this.2.1, kUn (by omega) (kUn (by omega) this.2.2.1), this.2.2.2⟩, hl.2⟩
          refine t_onObject hL hg hs (by repeat (first | with_reducible exact kUs | with_reducible assumption | (with_reducible apply kUn; omega) | exact rfl)) hl5 h37 q2.1.1 (kObjB_iff.mp q2.1.2) (fun Φ3 c6 hs hk3 => ⟨_, rfl, ?_⟩)
          have hk4 : ∀ s : Int, 0 ≤ s → s < 12 ∨ s = 30 → Φ3 s = Φ s := fun s p q => (hk3 s p q).trans (kUn (by omega) (kUn (by omega) (hk s p q)))
          rw [if_pos q] at es
          refine ⟨k32i (by omega), fun w => ⟨fun _ => ?_, fun w2 => by omega⟩, fun w => ⟨fun w2 => by omega, fun _ => ?_⟩⟩
          · rw [if_neg (by omega)] at e2
            exact next _ _ _ _ _ hs hk4 (by rw [e1, es]; omega) (by rw [e2]) (by rw [e2])
          · rw [if_pos ⟨q, w⟩] at e2
            exact next _ _ _ _ _ hs hk4 (by rw [e1, es]; omega) (by rw [e2]) (by rw [e2])
        · rw [if_neg q] at es
          rw [if_neg (fun w => q w.1)] at e2
          exact next _ _ _ _ _ hs (fun s p q => (hk2 s p q).trans (hk s p q)) (by rw [e1, es]; omega) (by rw [e2]) (by rw [e2])
    exact loop 12 0 (by omega) Φ _ s1 (fun _ _ _ => rfl)
  · rw [if_neg z1, if_neg z2, if_pos z3] at hP
    exact t_likes hL s1 hl (fun Φ' c' hs hk => ⟨_, rfl, hP _ _ (rp0.tr (s0.rp hs fr hk)) rfl⟩)
  · rw [if_neg z1, if_pos z2] at hP
    exact t_fours hL hg s1 hl h37 (fun Φ' c' hs hk => ⟨_, rfl, hP _ _ (rp0.tr (s0.rp hs fr hk)) rfl⟩)
  · rw [if_pos z1] at hP
    exact t_threes hL hg s1 e3 hl h37 (fun Φ' c' hs hk => ⟨_, rfl, hP _ _ (rp0.tr (s0.rp hs fr hk)) rfl⟩)
end MMT
