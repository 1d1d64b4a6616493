/-- the same PARTS -/
def kSameB (f g : KF) : Bool := (List.range 16).all (fun k => f (k : Int) == g (k : Int))
theorem kSameB_iff {f g : KF} : kSameB f g = true ↔ kEq f g := by
  unfold kSameB
  rw [List.all_eq_true]
  constructor
  · intro h k h0 h1
    obtain ⟨n, rfl⟩ := kint_nat h0
    exact eq_of_beq (h n (List.mem_range.mpr (by omega)))
  · intro h k hk
    exact beq_iff_eq.mpr (h k (Int.natCast_nonneg _) (by have := List.mem_range.mp hk; omega))
def kLk (f g : KF) : Bool := kSameB (nrmP f) (nrmP g)
def metP (f g : KF) : KF := whlP 1 (mulP 1 (whlP (-1) f) (whlP (-1) g))
def vLies (H : Int → Bool) (F : Int → KF) (p o : Int) : Int := if H p = true then (if H o = true then (if kind (F p) = 2 then (if kObjB (kind (F o)) = true then (if mulP 2 (F p) (vecP (F o)) 0 = 0 then 1 else 0) else -3) else -3) else -1) else -1
def vLike (H : Int → Bool) (F : Int → KF) (a b : Int) : Int := if H a = true then (if H b = true then (if kZb (F a) = true then -2 else if kZb (F b) = true then -2 else if kLk (F a) (F b) = true then 1 else 0) else -1) else -1
abbrev kNO : Int := -2000000000000000000
abbrev kOT : Int := -3000000000000000000
def vProd (H : Int → Bool) (F : Int → KF) (kd a b p : Int) : Int := if 0 ≤ kd ∧ kd ≤ 3 then (if H a = true then (if H b = true then (if 0 ≤ p ∧ p ≤ 15 then (if kd = 3 then metP (F a) (F b) p else mulP kd (F a) (F b) p) else kNO) else kNO) else kNO) else kNO
/-- three numbers of two vectors: INNER, and the SQUARES -/
def cosN (i p q w : Int) : Int := if p ≤ 0 then kNO else if q ≤ 0 then kNO else if 100000000 < (i.natAbs : Int) then kNO else if 100000000 < p then kNO else if 100000000 < q then kNO else klow (if i < 0 then -i * i else i * i) (p * q) w
def vCos (H : Int → Bool) (F : Int → KF) (a b w : Int) : Int := if H a = true then (if H b = true then (if 0 ≤ w ∧ w ≤ 1 then (if kObjB (kind (F a)) = true then (if kObjB (kind (F b)) = true then cosN (mulP 2 (vecP (F a)) (vecP (F b)) 0) (mulP 0 (vecP (F a)) (vecP (F a)) 0) (mulP 0 (vecP (F b)) (vecP (F b)) 0) w else kNO) else kNO) else kNO) else kNO) else kNO
def kFar (f : KF) (m : Int) : Bool := decide (m < ((mdX f).natAbs : Int) ∨ m < ((mdY f).natAbs : Int) ∨ m < mdL f)
def dstN (f g : KF) (w : Int) : Int := klow ((mdX f * mdL g - mdX g * mdL f) * (mdX f * mdL g - mdX g * mdL f) + (mdY f * mdL g - mdY g * mdL f) * (mdY f * mdL g - mdY g * mdL f)) (mdL f * mdL f * mdL g * mdL g) w
def vDist (H : Int → Bool) (F : Int → KF) (a b w : Int) : Int := if H a = true then (if H b = true then (if 0 ≤ w ∧ w ≤ 1 then (if kind (F a) = 2 then (if kind (F b) = 2 then (if kFar (F a) 1000 = true then kNO else if kFar (F b) 1000 = true then kNO else dstN (F a) (F b) w) else kNO) else kNO) else kNO) else kNO) else kNO
def pwN (f : KF) (u v w : Int) : Int := klow (((u * mdL f - mdX f) * (u * mdL f - mdX f) + (v * mdL f - mdY f) * (v * mdL f - mdY f)) * mdS f 1 - mdS f 0 * (mdL f * mdL f)) (mdL f * mdL f * mdS f 1) w
def vPow (H : Int → Bool) (F : Int → KF) (l u v w : Int) : Int := if H l = true then (if -99 ≤ u ∧ u ≤ 99 then (if -99 ≤ v ∧ v ≤ 99 then (if 0 ≤ w ∧ w ≤ 1 then (if kMidB (kind (F l)) = true then (if kFar (vecP (F l)) 10000 = true then kOT else if 10000 < ((mdS (vecP (F l)) 0).natAbs : Int) then kOT else if 10000 < mdS (vecP (F l)) 1 then kOT else pwN (vecP (F l)) u v w) else kOT) else kNO) else kNO) else kNO) else kNO
set_option maxRecDepth 4000 in
theorem v_X11_liesPoint {G : KG} {S0 : KSh} (hL : kLay S0) {d : Nat} {P : Option AV → KMem → Prop} {c : KMem} {x1 x2 : Int} (r1 : -2147483648 ≤ x1 ∧ x1 < 2147483648) (r2 : -2147483648 ≤ x2 ∧ x2 < 2147483648) (H : kC2 G S0 kM_X11_laysVector (d + 2) [kA 558, kI x2, kI 24] c (kRN (fun c2 => kC2 G S0 kM_X11_innerOf (d + 2) [kA 558, kI x1, kI 24] c2 (kRL (fun z3 c4 => (k64 z3) ∧ ((z3 ≠ 0 → (P (some (kI 0)) c4)) ∧ (z3 = 0 → (P (some (kI 1)) c4)))))))) : kC2 G S0 kM_X11_liesPoint (d + 3) [kA 558, kI x1, kI x2] c P := by
  refine k2_met (by decide) rfl (Nat.le_of_ble_eq_true rfl) (l0 := [some (kA 558), some (kI x1), some (kI x2)]) rfl ?_
  refine kw_aload_n dX11_liesPoint_0 rfl ?_
  refine kw_iload_n dX11_liesPoint_1 rfl ?_
  refine kw_bipush dX11_liesPoint_2 (by decide) ?_
  refine k2_callV2N (ci := 9) (N := 38) (T := TX11) rfl (lsh_558 hL) m_X11_laysVector dX11_liesPoint_4 wl_X11_334 (Nat.le_of_ble_eq_true rfl) (kC2_mono H (fun r c2 H => ?_))
  obtain ⟨rfl, H⟩ := H
  refine ⟨rfl, ?_⟩
  refine kw_aload_n dX11_liesPoint_7 rfl ?_
  refine kw_iload_n dX11_liesPoint_8 rfl ?_
  refine kw_bipush dX11_liesPoint_9 (by decide) ?_
  refine k2_callV2L (ci := 9) (N := 38) (T := TX11) rfl (lsh_558 hL) m_X11_innerOf dX11_liesPoint_11 wl_X11_343 (Nat.le_of_ble_eq_true rfl) (kC2_mono H (fun r c4 H => ?_))
  obtain ⟨z3, rfl, H⟩ := H
  refine ⟨z3, rfl, ?_⟩
  refine kw_lconst0 dX11_liesPoint_14 ?_
  have o5 := H.1
  have H := H.2
  refine kw_lcmp_ne 23 dX11_liesPoint_15 dX11_liesPoint_16 (by decide) o5 (k64i (by omega)) (fun h6 => ?_) (fun h6 => ?_)
  · have H := H.1 h6
    refine kw_iconst dX11_liesPoint_23 ?_
    refine k2_zret dX11_liesPoint_24 rfl (Or.inl rfl) H
  · have H := H.2 h6
    refine kw_iconst dX11_liesPoint_19 ?_
    refine kw_goto 24 dX11_liesPoint_20 (by decide) ?_
    refine k2_zret dX11_liesPoint_24 rfl (Or.inr rfl) H
set_option maxRecDepth 4000 in
theorem v_X11_lies {G : KG} {S0 : KSh} (hL : kLay S0) {d : Nat} {P : Option AV → KMem → Prop} {c : KMem} {x1 x2 : Int} (r1 : -2147483648 ≤ x1 ∧ x1 < 2147483648) (r2 : -2147483648 ≤ x2 ∧ x2 < 2147483648) (H : (kStd c) ∧ (((kHas c x1) → (((kHas c x2) → (kC2 G S0 kM_X11_kindOf (d + 5) [kA 558, kI x1] c (kRI (fun z6 c7 => (k32 z6) ∧ ((z6 ≠ 2 → (P (some (kI (-3))) c7)) ∧ (z6 = 2 → (kC2 G S0 kM_X11_isObject (d + 5) [kA 558, kI x2] c7 (kRI (fun z10 c11 => (k32 z10) ∧ ((z10 ≠ 0 → (kC2 G S0 kM_X11_liesPoint (d + 5) [kA 558, kI x1, kI x2] c11 (kRI (fun z14 c15 => (k32 z14) ∧ ((z14 = 0 → (P (some (kI 0)) c15)) ∧ (z14 ≠ 0 → (P (some (kI 1)) c15))))))) ∧ (z10 = 0 → (P (some (kI (-3))) c11)))))))))))) ∧ (¬ (kHas c x2) → (P (some (kI (-1))) c)))) ∧ (¬ (kHas c x1) → (P (some (kI (-1))) c)))) : kC2 G S0 kM_X11_lies (d + 6) [kA 558, kI x1, kI x2] c P := by
  refine k2_met (by decide) rfl (Nat.le_of_ble_eq_true rfl) (l0 := [some (kA 558), some (kI x1), some (kI x2)]) rfl ?_
  refine kw_aload_n dX11_lies_0 rfl ?_
  refine kw_iload_n dX11_lies_1 rfl ?_
  have o1 := H.1
  have H := H.2
  refine k2_callV1I (ci := 9) (N := 38) (T := TX11) rfl (lsh_558 hL) m_X11_isLetter dX11_lies_2 wl_X11_161 (Nat.le_of_ble_eq_true rfl) (s_X11_isLetter hL (k32i (by omega)) o1 (fun h2 => ⟨_, rfl, ?_⟩) (fun h2 => ⟨_, rfl, ?_⟩))
  · have H := H.1 h2
    refine kw_if_eq 16 dX11_lies_5 (by decide) (k32i (by omega)) (fun h3 => absurd h3 (by decide)) (fun _ => ?_)
    refine kw_aload_n dX11_lies_8 rfl ?_
    refine kw_iload_n dX11_lies_9 rfl ?_
    refine k2_callV1I (ci := 9) (N := 38) (T := TX11) rfl (lsh_558 hL) m_X11_isLetter dX11_lies_10 wl_X11_161 (Nat.le_of_ble_eq_true rfl) (s_X11_isLetter hL (k32i (by omega)) o1 (fun h4 => ⟨_, rfl, ?_⟩) (fun h4 => ⟨_, rfl, ?_⟩))
    · have H := H.1 h4
      refine kw_if_ne 18 dX11_lies_13 (by decide) (k32i (by omega)) (fun _ => ?_) (fun h5 => absurd h5 (by decide))
      refine kw_aload_n dX11_lies_18 rfl ?_
      refine kw_iload_n dX11_lies_19 rfl ?_
      refine k2_callV1I (ci := 9) (N := 38) (T := TX11) rfl (lsh_558 hL) m_X11_kindOf dX11_lies_20 wl_X11_140 (Nat.le_of_ble_eq_true rfl) (kC2_mono H (fun r c7 H => ?_))
      obtain ⟨z6, rfl, H⟩ := H
      refine ⟨z6, rfl, ?_⟩
      refine kw_iconst dX11_lies_23 ?_
      have o9 := H.1
      have H := H.2
      refine kw_icmp_ne 35 dX11_lies_24 (by decide) o9 (k32i (by omega)) (fun h8 => ?_) (fun h8 => ?_)
      · have H := H.1 h8
        refine kw_bipush dX11_lies_35 (by decide) ?_
        refine k2_iret dX11_lies_37 rfl H
      · have H := H.2 h8
        refine kw_aload_n dX11_lies_27 rfl ?_
        refine kw_iload_n dX11_lies_28 rfl ?_
        refine k2_callV1I (ci := 9) (N := 38) (T := TX11) rfl (lsh_558 hL) m_X11_isObject dX11_lies_29 wl_X11_356 (Nat.le_of_ble_eq_true rfl) (kC2_mono H (fun r c11 H => ?_))
        obtain ⟨z10, rfl, H⟩ := H
        refine ⟨z10, rfl, ?_⟩
        have o13 := H.1
        have H := H.2
        refine kw_if_ne 38 dX11_lies_32 (by decide) o13 (fun h12 => ?_) (fun h12 => ?_)
        · have H := H.1 h12
          refine kw_aload_n dX11_lies_38 rfl ?_
          refine kw_iload_n dX11_lies_39 rfl ?_
          refine kw_iload_n dX11_lies_40 rfl ?_
          refine k2_callV2I (ci := 9) (N := 38) (T := TX11) rfl (lsh_558 hL) m_X11_liesPoint dX11_lies_41 wl_X11_363 (Nat.le_of_ble_eq_true rfl) (kC2_mono H (fun r c15 H => ?_))
          obtain ⟨z14, rfl, H⟩ := H
          refine ⟨z14, rfl, ?_⟩
          have o17 := H.1
          have H := H.2
          refine kw_if_eq 51 dX11_lies_44 (by decide) o17 (fun h16 => ?_) (fun h16 => ?_)
          · have H := H.1 h16
            refine kw_iconst dX11_lies_51 ?_
            refine k2_iret dX11_lies_52 rfl H
          · have H := H.2 h16
            refine kw_iconst dX11_lies_47 ?_
            refine kw_goto 52 dX11_lies_48 (by decide) ?_
            refine k2_iret dX11_lies_52 rfl H
        · have H := H.2 h12
          refine kw_bipush dX11_lies_35 (by decide) ?_
          refine k2_iret dX11_lies_37 rfl H
    · have H := H.2 h4
      refine kw_if_ne 18 dX11_lies_13 (by decide) (k32i (by omega)) (fun h18 => absurd h18 (by decide)) (fun _ => ?_)
      refine kw_iconst dX11_lies_16 ?_
      refine k2_iret dX11_lies_17 rfl H
  · have H := H.2 h2
    refine kw_if_eq 16 dX11_lies_5 (by decide) (k32i (by omega)) (fun _ => ?_) (fun h19 => absurd h19 (by decide))
    refine kw_iconst dX11_lies_16 ?_
    refine k2_iret dX11_lies_17 rfl H
set_option maxRecDepth 4000 in
theorem v_X11_areLike {G : KG} {S0 : KSh} (hL : kLay S0) {d : Nat} {P : Option AV → KMem → Prop} {c : KMem} {x1 x2 : Int} (r1 : -2147483648 ≤ x1 ∧ x1 < 2147483648) (r2 : -2147483648 ≤ x2 ∧ x2 < 2147483648) (H : kC2 G S0 kM_X11_copies (d + 2) [kA 558, kI x1, kI 24] c (kRN (fun c2 => kC2 G S0 kM_X11_copies (d + 2) [kA 558, kI x2, kI 25] c2 (kRN (fun c4 => kC2 G S0 kM_X11_normals (d + 2) [kA 558, kI 24] c4 (kRN (fun c6 => kC2 G S0 kM_X11_normals (d + 2) [kA 558, kI 25] c6 (kRN (fun c8 => kC2 G S0 kM_X11_areSame (d + 2) [kA 558, kI 24, kI 25] c8 (kRI (fun z9 c10 => (z9 = 0 ∨ z9 = 1) ∧ (P (some (kI z9)) c10)))))))))))) : kC2 G S0 kM_X11_areLike (d + 3) [kA 558, kI x1, kI x2] c P := by
  refine k2_met (by decide) rfl (Nat.le_of_ble_eq_true rfl) (l0 := [some (kA 558), some (kI x1), some (kI x2)]) rfl ?_
  refine kw_aload_n dX11_areLike_0 rfl ?_
  refine kw_iload_n dX11_areLike_1 rfl ?_
  refine kw_bipush dX11_areLike_2 (by decide) ?_
  refine k2_callV2N (ci := 9) (N := 38) (T := TX11) rfl (lsh_558 hL) m_X11_copies dX11_areLike_4 wl_X11_132 (Nat.le_of_ble_eq_true rfl) (kC2_mono H (fun r c2 H => ?_))
  obtain ⟨rfl, H⟩ := H
  refine ⟨rfl, ?_⟩
  refine kw_aload_n dX11_areLike_7 rfl ?_
  refine kw_iload_n dX11_areLike_8 rfl ?_
  refine kw_bipush dX11_areLike_9 (by decide) ?_
  refine k2_callV2N (ci := 9) (N := 38) (T := TX11) rfl (lsh_558 hL) m_X11_copies dX11_areLike_11 wl_X11_132 (Nat.le_of_ble_eq_true rfl) (kC2_mono H (fun r c4 H => ?_))
  obtain ⟨rfl, H⟩ := H
  refine ⟨rfl, ?_⟩
  refine kw_aload_n dX11_areLike_14 rfl ?_
  refine kw_bipush dX11_areLike_15 (by decide) ?_
  refine k2_callV1N (ci := 9) (N := 38) (T := TX11) rfl (lsh_558 hL) m_X11_normals dX11_areLike_17 wl_X11_165 (Nat.le_of_ble_eq_true rfl) (kC2_mono H (fun r c6 H => ?_))
  obtain ⟨rfl, H⟩ := H
  refine ⟨rfl, ?_⟩
  refine kw_aload_n dX11_areLike_20 rfl ?_
  refine kw_bipush dX11_areLike_21 (by decide) ?_
  refine k2_callV1N (ci := 9) (N := 38) (T := TX11) rfl (lsh_558 hL) m_X11_normals dX11_areLike_23 wl_X11_165 (Nat.le_of_ble_eq_true rfl) (kC2_mono H (fun r c8 H => ?_))
  obtain ⟨rfl, H⟩ := H
  refine ⟨rfl, ?_⟩
  refine kw_aload_n dX11_areLike_26 rfl ?_
  refine kw_bipush dX11_areLike_27 (by decide) ?_
  refine kw_bipush dX11_areLike_29 (by decide) ?_
  refine k2_callV2I (ci := 9) (N := 38) (T := TX11) rfl (lsh_558 hL) m_X11_areSame dX11_areLike_31 wl_X11_366 (Nat.le_of_ble_eq_true rfl) (kC2_mono H (fun r c10 H => ?_))
  obtain ⟨z9, rfl, H⟩ := H
  refine ⟨z9, rfl, ?_⟩
  have o11 := H.1
  have H := H.2
  refine k2_zret dX11_areLike_34 rfl o11 H
set_option maxRecDepth 4000 in
theorem v_X11_like {G : KG} {S0 : KSh} (hL : kLay S0) {d : Nat} {P : Option AV → KMem → Prop} {c : KMem} {x1 x2 : Int} (r1 : -2147483648 ≤ x1 ∧ x1 < 2147483648) (r2 : -2147483648 ≤ x2 ∧ x2 < 2147483648) (H : (kStd c) ∧ (((kHas c x1) → (((kHas c x2) → (kC2 G S0 kM_X11_isNothing (d + 3) [kA 558, kI x1] c (kRI (fun z6 c7 => (k32 z6) ∧ ((z6 ≠ 0 → (P (some (kI (-2))) c7)) ∧ (z6 = 0 → (kC2 G S0 kM_X11_isNothing (d + 3) [kA 558, kI x2] c7 (kRI (fun z10 c11 => (k32 z10) ∧ ((z10 = 0 → (kC2 G S0 kM_X11_areLike (d + 3) [kA 558, kI x1, kI x2] c11 (kRI (fun z14 c15 => (k32 z14) ∧ ((z14 = 0 → (P (some (kI 0)) c15)) ∧ (z14 ≠ 0 → (P (some (kI 1)) c15))))))) ∧ (z10 ≠ 0 → (P (some (kI (-2))) c11)))))))))))) ∧ (¬ (kHas c x2) → (P (some (kI (-1))) c)))) ∧ (¬ (kHas c x1) → (P (some (kI (-1))) c)))) : kC2 G S0 kM_X11_like (d + 4) [kA 558, kI x1, kI x2] c P := by
  refine k2_met (by decide) rfl (Nat.le_of_ble_eq_true rfl) (l0 := [some (kA 558), some (kI x1), some (kI x2)]) rfl ?_
  refine kw_aload_n dX11_like_0 rfl ?_
  refine kw_iload_n dX11_like_1 rfl ?_
  have o1 := H.1
  have H := H.2
  refine k2_callV1I (ci := 9) (N := 38) (T := TX11) rfl (lsh_558 hL) m_X11_isLetter dX11_like_2 wl_X11_161 (Nat.le_of_ble_eq_true rfl) (s_X11_isLetter hL (k32i (by omega)) o1 (fun h2 => ⟨_, rfl, ?_⟩) (fun h2 => ⟨_, rfl, ?_⟩))
  · have H := H.1 h2
    refine kw_if_eq 16 dX11_like_5 (by decide) (k32i (by omega)) (fun h3 => absurd h3 (by decide)) (fun _ => ?_)
    refine kw_aload_n dX11_like_8 rfl ?_
    refine kw_iload_n dX11_like_9 rfl ?_
    refine k2_callV1I (ci := 9) (N := 38) (T := TX11) rfl (lsh_558 hL) m_X11_isLetter dX11_like_10 wl_X11_161 (Nat.le_of_ble_eq_true rfl) (s_X11_isLetter hL (k32i (by omega)) o1 (fun h4 => ⟨_, rfl, ?_⟩) (fun h4 => ⟨_, rfl, ?_⟩))
    · have H := H.1 h4
      refine kw_if_ne 18 dX11_like_13 (by decide) (k32i (by omega)) (fun _ => ?_) (fun h5 => absurd h5 (by decide))
      refine kw_aload_n dX11_like_18 rfl ?_
      refine kw_iload_n dX11_like_19 rfl ?_
      refine k2_callV1I (ci := 9) (N := 38) (T := TX11) rfl (lsh_558 hL) m_X11_isNothing dX11_like_20 wl_X11_115 (Nat.le_of_ble_eq_true rfl) (kC2_mono H (fun r c7 H => ?_))
      obtain ⟨z6, rfl, H⟩ := H
      refine ⟨z6, rfl, ?_⟩
      have o9 := H.1
      have H := H.2
      refine kw_if_ne 34 dX11_like_23 (by decide) o9 (fun h8 => ?_) (fun h8 => ?_)
      · have H := H.1 h8
        refine kw_bipush dX11_like_34 (by decide) ?_
        refine k2_iret dX11_like_36 rfl H
      · have H := H.2 h8
        refine kw_aload_n dX11_like_26 rfl ?_
        refine kw_iload_n dX11_like_27 rfl ?_
        refine k2_callV1I (ci := 9) (N := 38) (T := TX11) rfl (lsh_558 hL) m_X11_isNothing dX11_like_28 wl_X11_115 (Nat.le_of_ble_eq_true rfl) (kC2_mono H (fun r c11 H => ?_))
        obtain ⟨z10, rfl, H⟩ := H
        refine ⟨z10, rfl, ?_⟩
        have o13 := H.1
        have H := H.2
        refine kw_if_eq 37 dX11_like_31 (by decide) o13 (fun h12 => ?_) (fun h12 => ?_)
        · have H := H.1 h12
          refine kw_aload_n dX11_like_37 rfl ?_
          refine kw_iload_n dX11_like_38 rfl ?_
          refine kw_iload_n dX11_like_39 rfl ?_
          refine k2_callV2I (ci := 9) (N := 38) (T := TX11) rfl (lsh_558 hL) m_X11_areLike dX11_like_40 wl_X11_369 (Nat.le_of_ble_eq_true rfl) (kC2_mono H (fun r c15 H => ?_))
          obtain ⟨z14, rfl, H⟩ := H
          refine ⟨z14, rfl, ?_⟩
          have o17 := H.1
          have H := H.2
          refine kw_if_eq 50 dX11_like_43 (by decide) o17 (fun h16 => ?_) (fun h16 => ?_)
          · have H := H.1 h16
            refine kw_iconst dX11_like_50 ?_
            refine k2_iret dX11_like_51 rfl H
          · have H := H.2 h16
            refine kw_iconst dX11_like_46 ?_
            refine kw_goto 51 dX11_like_47 (by decide) ?_
            refine k2_iret dX11_like_51 rfl H
        · have H := H.2 h12
          refine kw_bipush dX11_like_34 (by decide) ?_
          refine k2_iret dX11_like_36 rfl H
    · have H := H.2 h4
      refine kw_if_ne 18 dX11_like_13 (by decide) (k32i (by omega)) (fun h18 => absurd h18 (by decide)) (fun _ => ?_)
      refine kw_iconst dX11_like_16 ?_
      refine k2_iret dX11_like_17 rfl H
  · have H := H.2 h2
    refine kw_if_eq 16 dX11_like_5 (by decide) (k32i (by omega)) (fun _ => ?_) (fun h19 => absurd h19 (by decide))
    refine kw_iconst dX11_like_16 ?_
    refine k2_iret dX11_like_17 rfl H
set_option maxRecDepth 4000 in
theorem v_X11_meets {G : KG} {S0 : KSh} (hL : kLay S0) {d : Nat} {P : Option AV → KMem → Prop} {c : KMem} {x1 x2 : Int} (r1 : -2147483648 ≤ x1 ∧ x1 < 2147483648) (r2 : -2147483648 ≤ x2 ∧ x2 < 2147483648) (H : kC2 G S0 kM_X11_turnsWhole (d + 1) [kA 558, kI x1, kI 1] c (kRN (fun c2 => kC2 G S0 kM_X11_turnsWhole (d + 1) [kA 558, kI x2, kI 1] c2 (kRN (fun c4 => kC2 G S0 kM_X11_joins (d + 1) [kA 558, kI 1, kI x1, kI x2, kI x1] c4 (kRN (fun c6 => kC2 G S0 kM_X11_isWithin (d + 1) [kA 558, kI x1] c6 (kRI (fun z7 c8 => kC2 G S0 kM_X11_turnsWhole (d + 1) [kA 558, kI x1, kI 0] c8 (kRN (fun c10 => (z7 = 0 ∨ z7 = 1) ∧ (P (some (kI z7)) c10)))))))))))) : kC2 G S0 kM_X11_meets (d + 2) [kA 558, kI x1, kI x2] c P := by
  refine k2_met (by decide) rfl (Nat.le_of_ble_eq_true rfl) (l0 := [some (kA 558), some (kI x1), some (kI x2), none]) rfl ?_
  refine kw_aload_n dX11_meets_0 rfl ?_
  refine kw_iload_n dX11_meets_1 rfl ?_
  refine kw_iconst dX11_meets_2 ?_
  refine k2_callV2N (ci := 9) (N := 38) (T := TX11) rfl (lsh_558 hL) m_X11_turnsWhole dX11_meets_3 wl_X11_136 (Nat.le_of_ble_eq_true rfl) (kC2_mono H (fun r c2 H => ?_))
  obtain ⟨rfl, H⟩ := H
  refine ⟨rfl, ?_⟩
  refine kw_aload_n dX11_meets_6 rfl ?_
  refine kw_iload_n dX11_meets_7 rfl ?_
  refine kw_iconst dX11_meets_8 ?_
  refine k2_callV2N (ci := 9) (N := 38) (T := TX11) rfl (lsh_558 hL) m_X11_turnsWhole dX11_meets_9 wl_X11_136 (Nat.le_of_ble_eq_true rfl) (kC2_mono H (fun r c4 H => ?_))
  obtain ⟨rfl, H⟩ := H
  refine ⟨rfl, ?_⟩
  refine kw_aload_n dX11_meets_12 rfl ?_
  refine kw_iconst dX11_meets_13 ?_
  refine kw_iload_n dX11_meets_14 rfl ?_
  refine kw_iload_n dX11_meets_15 rfl ?_
  refine kw_iload_n dX11_meets_16 rfl ?_
  refine k2_callV4N (ci := 9) (N := 38) (T := TX11) rfl (lsh_558 hL) m_X11_joins dX11_meets_17 wl_X11_111 (Nat.le_of_ble_eq_true rfl) (kC2_mono H (fun r c6 H => ?_))
  obtain ⟨rfl, H⟩ := H
  refine ⟨rfl, ?_⟩
  refine kw_aload_n dX11_meets_20 rfl ?_
  refine kw_iload_n dX11_meets_21 rfl ?_
  refine k2_callV1I (ci := 9) (N := 38) (T := TX11) rfl (lsh_558 hL) m_X11_isWithin dX11_meets_22 wl_X11_168 (Nat.le_of_ble_eq_true rfl) (kC2_mono H (fun r c8 H => ?_))
  obtain ⟨z7, rfl, H⟩ := H
  refine ⟨z7, rfl, ?_⟩
  refine kw_istore_n dX11_meets_25 (Nat.le_of_ble_eq_true rfl) ?_
  refine kw_aload_n dX11_meets_26 rfl ?_
  refine kw_iload_n dX11_meets_27 rfl ?_
  refine kw_iconst dX11_meets_28 ?_
  refine k2_callV2N (ci := 9) (N := 38) (T := TX11) rfl (lsh_558 hL) m_X11_turnsWhole dX11_meets_29 wl_X11_136 (Nat.le_of_ble_eq_true rfl) (kC2_mono H (fun r c10 H => ?_))
  obtain ⟨rfl, H⟩ := H
  refine ⟨rfl, ?_⟩
  refine kw_iload_n dX11_meets_32 rfl ?_
  have o11 := H.1
  have H := H.2
  refine k2_zret dX11_meets_33 rfl o11 H
set_option maxRecDepth 4000 in
theorem v_X11_product {G : KG} {S0 : KSh} (hL : kLay S0) {d : Nat} {P : Option AV → KMem → Prop} {c : KMem} {x1 x2 x3 x4 : Int} (r1 : -2147483648 ≤ x1 ∧ x1 < 2147483648) (r2 : -2147483648 ≤ x2 ∧ x2 < 2147483648) (r3 : -2147483648 ≤ x3 ∧ x3 < 2147483648) (r4 : -2147483648 ≤ x4 ∧ x4 < 2147483648) (H : ((0 ≤ x1 ∧ x1 ≤ 3) → ((kStd c) ∧ (((kHas c x2) → (((kHas c x3) → (((0 ≤ x4 ∧ x4 ≤ 15) → (kC2 G S0 kM_X11_copies (d + 2) [kA 558, kI x2, kI 24] c (kRN (fun c11 => kC2 G S0 kM_X11_copies (d + 2) [kA 558, kI x3, kI 25] c11 (kRN (fun c13 => (x1 ≠ 3 → (kC2 G S0 kM_X11_joins (d + 2) [kA 558, kI x1, kI 24, kI 25, kI 24] c13 (kRN (fun c16 => P (some (kL (c16 559 ((16 * 24) + x4)))) c16)))) ∧ (x1 = 3 → (kC2 G S0 kM_X11_meets (d + 2) [kA 558, kI 24, kI 25] c13 (kRI (fun z17 c18 => P (some (kL (c18 559 ((16 * 24) + x4)))) c18)))))))))) ∧ (¬ (0 ≤ x4 ∧ x4 ≤ 15) → (P (some (kL (-2000000000000000000))) c)))) ∧ (¬ (kHas c x3) → (P (some (kL (-2000000000000000000))) c)))) ∧ (¬ (kHas c x2) → (P (some (kL (-2000000000000000000))) c))))) ∧ (¬ (0 ≤ x1 ∧ x1 ≤ 3) → (P (some (kL (-2000000000000000000))) c))) : kC2 G S0 kM_X11_product (d + 3) [kA 558, kI x1, kI x2, kI x3, kI x4] c P := by
  refine k2_met (by decide) rfl (Nat.le_of_ble_eq_true rfl) (l0 := [some (kA 558), some (kI x1), some (kI x2), some (kI x3), some (kI x4)]) rfl ?_
  refine kw_iload_n dX11_product_0 rfl ?_
  refine kw_iconst dX11_product_1 ?_
  refine kw_iconst dX11_product_2 ?_
  refine k2_callS3I m_X11_in dX11_product_3 wl_X11_100 (Nat.le_of_ble_eq_true rfl) (s_X11_in hL (k32i (by omega)) (k32i (by omega)) (k32i (by omega)) (fun h1 => ⟨_, rfl, ?_⟩) (fun h1 => ⟨_, rfl, ?_⟩))
  · have H := H.1 h1
    refine kw_if_eq 36 dX11_product_6 (by decide) (k32i (by omega)) (fun h2 => absurd h2 (by decide)) (fun _ => ?_)
    refine kw_aload_n dX11_product_9 rfl ?_
    refine kw_iload_n dX11_product_10 rfl ?_
    have o3 := H.1
    have H := H.2
    refine k2_callV1I (ci := 9) (N := 38) (T := TX11) rfl (lsh_558 hL) m_X11_isLetter dX11_product_11 wl_X11_161 (Nat.le_of_ble_eq_true rfl) (s_X11_isLetter hL (k32i (by omega)) o3 (fun h4 => ⟨_, rfl, ?_⟩) (fun h4 => ⟨_, rfl, ?_⟩))
    · have H := H.1 h4
      refine kw_if_eq 36 dX11_product_14 (by decide) (k32i (by omega)) (fun h5 => absurd h5 (by decide)) (fun _ => ?_)
      refine kw_aload_n dX11_product_17 rfl ?_
      refine kw_iload_n dX11_product_18 rfl ?_
      refine k2_callV1I (ci := 9) (N := 38) (T := TX11) rfl (lsh_558 hL) m_X11_isLetter dX11_product_19 wl_X11_161 (Nat.le_of_ble_eq_true rfl) (s_X11_isLetter hL (k32i (by omega)) o3 (fun h6 => ⟨_, rfl, ?_⟩) (fun h6 => ⟨_, rfl, ?_⟩))
      · have H := H.1 h6
        refine kw_if_eq 36 dX11_product_22 (by decide) (k32i (by omega)) (fun h7 => absurd h7 (by decide)) (fun _ => ?_)
        refine kw_iload dX11_product_25 rfl ?_
        refine kw_iconst dX11_product_27 ?_
        refine kw_bipush dX11_product_28 (by decide) ?_
        refine k2_callS3I m_X11_in dX11_product_30 wl_X11_100 (Nat.le_of_ble_eq_true rfl) (s_X11_in hL (k32i (by omega)) (k32i (by omega)) (k32i (by omega)) (fun h8 => ⟨_, rfl, ?_⟩) (fun h8 => ⟨_, rfl, ?_⟩))
        · have H := H.1 h8
          refine kw_if_ne 40 dX11_product_33 (by decide) (k32i (by omega)) (fun _ => ?_) (fun h9 => absurd h9 (by decide))
          refine kw_aload_n dX11_product_40 rfl ?_
          refine kw_iload_n dX11_product_41 rfl ?_
          refine kw_bipush dX11_product_42 (by decide) ?_
          refine k2_callV2N (ci := 9) (N := 38) (T := TX11) rfl (lsh_558 hL) m_X11_copies dX11_product_44 wl_X11_132 (Nat.le_of_ble_eq_true rfl) (kC2_mono H (fun r c11 H => ?_))
          obtain ⟨rfl, H⟩ := H
          refine ⟨rfl, ?_⟩
          refine kw_aload_n dX11_product_47 rfl ?_
          refine kw_iload_n dX11_product_48 rfl ?_
          refine kw_bipush dX11_product_49 (by decide) ?_
          refine k2_callV2N (ci := 9) (N := 38) (T := TX11) rfl (lsh_558 hL) m_X11_copies dX11_product_51 wl_X11_132 (Nat.le_of_ble_eq_true rfl) (kC2_mono H (fun r c13 H => ?_))
          obtain ⟨rfl, H⟩ := H
          refine ⟨rfl, ?_⟩
          refine kw_iload_n dX11_product_54 rfl ?_
          refine kw_iconst dX11_product_55 ?_
          refine kw_icmp_ne 71 dX11_product_56 (by decide) (k32i (by omega)) (k32i (by omega)) (fun h14 => ?_) (fun h14 => ?_)
          · have H := H.1 h14
            refine kw_aload_n dX11_product_71 rfl ?_
            refine kw_iload_n dX11_product_72 rfl ?_
            refine kw_bipush dX11_product_73 (by decide) ?_
            refine kw_bipush dX11_product_75 (by decide) ?_
            refine kw_bipush dX11_product_77 (by decide) ?_
            refine k2_callV4N (ci := 9) (N := 38) (T := TX11) rfl (lsh_558 hL) m_X11_joins dX11_product_79 wl_X11_111 (Nat.le_of_ble_eq_true rfl) (kC2_mono H (fun r c16 H => ?_))
            obtain ⟨rfl, H⟩ := H
            refine ⟨rfl, ?_⟩
            refine kw_aload_n dX11_product_82 rfl ?_
            refine kw_bipush dX11_product_83 (by decide) ?_
            refine kw_iload dX11_product_85 rfl ?_
            refine k2_callV2L (ci := 9) (N := 38) (T := TX11) rfl (lsh_558 hL) m_X11_at dX11_product_87 wl_X11_84 (Nat.le_of_ble_eq_true rfl) (s_X11_at hL (k32i (by omega)) (k32i (by omega)) (by omega) ⟨_, rfl, ?_⟩)
            refine k2_lret dX11_product_90 rfl H
          · have H := H.2 h14
            refine kw_aload_n dX11_product_59 rfl ?_
            refine kw_bipush dX11_product_60 (by decide) ?_
            refine kw_bipush dX11_product_62 (by decide) ?_
            refine k2_callV2I (ci := 9) (N := 38) (T := TX11) rfl (lsh_558 hL) m_X11_meets dX11_product_64 wl_X11_246 (Nat.le_of_ble_eq_true rfl) (kC2_mono H (fun r c18 H => ?_))
            obtain ⟨z17, rfl, H⟩ := H
            refine ⟨z17, rfl, ?_⟩
            refine kw_pop dX11_product_67 rfl ?_
            refine kw_goto 82 dX11_product_68 (by decide) ?_
            refine kw_aload_n dX11_product_82 rfl ?_
            refine kw_bipush dX11_product_83 (by decide) ?_
            refine kw_iload dX11_product_85 rfl ?_
            refine k2_callV2L (ci := 9) (N := 38) (T := TX11) rfl (lsh_558 hL) m_X11_at dX11_product_87 wl_X11_84 (Nat.le_of_ble_eq_true rfl) (s_X11_at hL (k32i (by omega)) (k32i (by omega)) (by omega) ⟨_, rfl, ?_⟩)
            refine k2_lret dX11_product_90 rfl H
        · have H := H.2 h8
          refine kw_if_ne 40 dX11_product_33 (by decide) (k32i (by omega)) (fun h19 => absurd h19 (by decide)) (fun _ => ?_)
          refine kw_ldc2 dX11_product_36 wk_X11_327 ?_
          refine k2_lret dX11_product_39 rfl H
      · have H := H.2 h6
        refine kw_if_eq 36 dX11_product_22 (by decide) (k32i (by omega)) (fun _ => ?_) (fun h20 => absurd h20 (by decide))
        refine kw_ldc2 dX11_product_36 wk_X11_327 ?_
        refine k2_lret dX11_product_39 rfl H
    · have H := H.2 h4
      refine kw_if_eq 36 dX11_product_14 (by decide) (k32i (by omega)) (fun _ => ?_) (fun h21 => absurd h21 (by decide))
      refine kw_ldc2 dX11_product_36 wk_X11_327 ?_
      refine k2_lret dX11_product_39 rfl H
  · have H := H.2 h1
    refine kw_if_eq 36 dX11_product_6 (by decide) (k32i (by omega)) (fun _ => ?_) (fun h22 => absurd h22 (by decide))
    refine kw_ldc2 dX11_product_36 wk_X11_327 ?_
    refine k2_lret dX11_product_39 rfl H
set_option maxRecDepth 4000 in
theorem v_X11_cosine {G : KG} {S0 : KSh} (hL : kLay S0) {d : Nat} {P : Option AV → KMem → Prop} {c : KMem} {x1 x2 x3 : Int} (r1 : -2147483648 ≤ x1 ∧ x1 < 2147483648) (r2 : -2147483648 ≤ x2 ∧ x2 < 2147483648) (r3 : -2147483648 ≤ x3 ∧ x3 < 2147483648) (H : (kStd c) ∧ (((kHas c x1) → (((kHas c x2) → (((0 ≤ x3 ∧ x3 ≤ 1) → (kC2 G S0 kM_X11_isObject (d + 5) [kA 558, kI x1] c (kRI (fun z8 c9 => (k32 z8) ∧ ((z8 = 0 → (P (some (kL (-2000000000000000000))) c9)) ∧ (z8 ≠ 0 → (kC2 G S0 kM_X11_isObject (d + 5) [kA 558, kI x2] c9 (kRI (fun z12 c13 => (k32 z12) ∧ ((z12 ≠ 0 → (kC2 G S0 kM_X11_laysVector (d + 5) [kA 558, kI x1, kI 24] c13 (kRN (fun c17 => kC2 G S0 kM_X11_laysVector (d + 5) [kA 558, kI x2, kI 25] c17 (kRN (fun c19 => kC2 G S0 kM_X11_innerOf (d + 5) [kA 558, kI 24, kI 25] c19 (kRL (fun z20 c21 => kC2 G S0 kM_X11_squareOf (d + 5) [kA 558, kI 24] c21 (kRL (fun z22 c23 => kC2 G S0 kM_X11_squareOf (d + 5) [kA 558, kI 25] c23 (kRL (fun z24 c25 => (k64 z22) ∧ ((z22 ≤ 0 → (P (some (kL (-2000000000000000000))) c25)) ∧ (0 < z22 → ((k64 z24) ∧ ((z24 ≤ 0 → (P (some (kL (-2000000000000000000))) c25)) ∧ (0 < z24 → ((k64 z20) ∧ ((k64 ((Int.natAbs z20 : Nat) : Int)) ∧ ((100000000 < ((Int.natAbs z20 : Nat) : Int) → (P (some (kL (-2000000000000000000))) c25)) ∧ (((Int.natAbs z20 : Nat) : Int) ≤ 100000000 → ((100000000 < z22 → (P (some (kL (-2000000000000000000))) c25)) ∧ (z22 ≤ 100000000 → ((z24 ≤ 100000000 → ((0 ≤ z20 → (kC2 G S0 kM_X11_lowest (d + 5) [kL (z20 * z20), kL (z22 * z24), kI x3] c25 (kRL (fun z36 c37 => P (some (kL z36)) c37)))) ∧ (z20 < 0 → (kC2 G S0 kM_X11_lowest (d + 5) [kL ((-z20) * z20), kL (z22 * z24), kI x3] c25 (kRL (fun z38 c39 => P (some (kL z38)) c39)))))) ∧ (100000000 < z24 → (P (some (kL (-2000000000000000000))) c25)))))))))))))))))))))))))) ∧ (z12 = 0 → (P (some (kL (-2000000000000000000))) c13)))))))))))) ∧ (¬ (0 ≤ x3 ∧ x3 ≤ 1) → (P (some (kL (-2000000000000000000))) c)))) ∧ (¬ (kHas c x2) → (P (some (kL (-2000000000000000000))) c)))) ∧ (¬ (kHas c x1) → (P (some (kL (-2000000000000000000))) c)))) : kC2 G S0 kM_X11_cosine (d + 6) [kA 558, kI x1, kI x2, kI x3] c P := by
  refine k2_met (by decide) rfl (Nat.le_of_ble_eq_true rfl) (l0 := [some (kA 558), some (kI x1), some (kI x2), some (kI x3), none, none, none, none, none, none]) rfl ?_
  refine kw_aload_n dX11_cosine_0 rfl ?_
  refine kw_iload_n dX11_cosine_1 rfl ?_
  have o1 := H.1
  have H := H.2
  refine k2_callV1I (ci := 9) (N := 38) (T := TX11) rfl (lsh_558 hL) m_X11_isLetter dX11_cosine_2 wl_X11_161 (Nat.le_of_ble_eq_true rfl) (s_X11_isLetter hL (k32i (by omega)) o1 (fun h2 => ⟨_, rfl, ?_⟩) (fun h2 => ⟨_, rfl, ?_⟩))
  · have H := H.1 h2
    refine kw_if_eq 41 dX11_cosine_5 (by decide) (k32i (by omega)) (fun h3 => absurd h3 (by decide)) (fun _ => ?_)
    refine kw_aload_n dX11_cosine_8 rfl ?_
    refine kw_iload_n dX11_cosine_9 rfl ?_
    refine k2_callV1I (ci := 9) (N := 38) (T := TX11) rfl (lsh_558 hL) m_X11_isLetter dX11_cosine_10 wl_X11_161 (Nat.le_of_ble_eq_true rfl) (s_X11_isLetter hL (k32i (by omega)) o1 (fun h4 => ⟨_, rfl, ?_⟩) (fun h4 => ⟨_, rfl, ?_⟩))
    · have H := H.1 h4
      refine kw_if_eq 41 dX11_cosine_13 (by decide) (k32i (by omega)) (fun h5 => absurd h5 (by decide)) (fun _ => ?_)
      refine kw_iload_n dX11_cosine_16 rfl ?_
      refine kw_iconst dX11_cosine_17 ?_
      refine kw_iconst dX11_cosine_18 ?_
      refine k2_callS3I m_X11_in dX11_cosine_19 wl_X11_100 (Nat.le_of_ble_eq_true rfl) (s_X11_in hL (k32i (by omega)) (k32i (by omega)) (k32i (by omega)) (fun h6 => ⟨_, rfl, ?_⟩) (fun h6 => ⟨_, rfl, ?_⟩))
      · have H := H.1 h6
        refine kw_if_eq 41 dX11_cosine_22 (by decide) (k32i (by omega)) (fun h7 => absurd h7 (by decide)) (fun _ => ?_)
        refine kw_aload_n dX11_cosine_25 rfl ?_
        refine kw_iload_n dX11_cosine_26 rfl ?_
        refine k2_callV1I (ci := 9) (N := 38) (T := TX11) rfl (lsh_558 hL) m_X11_isObject dX11_cosine_27 wl_X11_356 (Nat.le_of_ble_eq_true rfl) (kC2_mono H (fun r c9 H => ?_))
        obtain ⟨z8, rfl, H⟩ := H
        refine ⟨z8, rfl, ?_⟩
        have o11 := H.1
        have H := H.2
        refine kw_if_eq 41 dX11_cosine_30 (by decide) o11 (fun h10 => ?_) (fun h10 => ?_)
        · have H := H.1 h10
          refine kw_ldc2 dX11_cosine_41 wk_X11_327 ?_
          refine k2_lret dX11_cosine_44 rfl H
        · have H := H.2 h10
          refine kw_aload_n dX11_cosine_33 rfl ?_
          refine kw_iload_n dX11_cosine_34 rfl ?_
          refine k2_callV1I (ci := 9) (N := 38) (T := TX11) rfl (lsh_558 hL) m_X11_isObject dX11_cosine_35 wl_X11_356 (Nat.le_of_ble_eq_true rfl) (kC2_mono H (fun r c13 H => ?_))
          obtain ⟨z12, rfl, H⟩ := H
          refine ⟨z12, rfl, ?_⟩
          have o15 := H.1
          have H := H.2
          refine kw_if_ne 45 dX11_cosine_38 (by decide) o15 (fun h14 => ?_) (fun h14 => ?_)
          · have H := H.1 h14
            refine kw_aload_n dX11_cosine_45 rfl ?_
            refine kw_iload_n dX11_cosine_46 rfl ?_
            refine kw_bipush dX11_cosine_47 (by decide) ?_
            refine k2_callV2N (ci := 9) (N := 38) (T := TX11) rfl (lsh_558 hL) m_X11_laysVector dX11_cosine_49 wl_X11_334 (Nat.le_of_ble_eq_true rfl) (kC2_mono H (fun r c17 H => ?_))
            obtain ⟨rfl, H⟩ := H
            refine ⟨rfl, ?_⟩
            refine kw_aload_n dX11_cosine_52 rfl ?_
            refine kw_iload_n dX11_cosine_53 rfl ?_
            refine kw_bipush dX11_cosine_54 (by decide) ?_
            refine k2_callV2N (ci := 9) (N := 38) (T := TX11) rfl (lsh_558 hL) m_X11_laysVector dX11_cosine_56 wl_X11_334 (Nat.le_of_ble_eq_true rfl) (kC2_mono H (fun r c19 H => ?_))
            obtain ⟨rfl, H⟩ := H
            refine ⟨rfl, ?_⟩
            refine kw_aload_n dX11_cosine_59 rfl ?_
            refine kw_bipush dX11_cosine_60 (by decide) ?_
            refine kw_bipush dX11_cosine_62 (by decide) ?_
            refine k2_callV2L (ci := 9) (N := 38) (T := TX11) rfl (lsh_558 hL) m_X11_innerOf dX11_cosine_64 wl_X11_343 (Nat.le_of_ble_eq_true rfl) (kC2_mono H (fun r c21 H => ?_))
            obtain ⟨z20, rfl, H⟩ := H
            refine ⟨z20, rfl, ?_⟩
            refine kw_lstore dX11_cosine_67 (Nat.le_of_ble_eq_true rfl) ?_
            refine kw_aload_n dX11_cosine_69 rfl ?_
            refine kw_bipush dX11_cosine_70 (by decide) ?_
            refine k2_callV1L (ci := 9) (N := 38) (T := TX11) rfl (lsh_558 hL) m_X11_squareOf dX11_cosine_72 wl_X11_119 (Nat.le_of_ble_eq_true rfl) (kC2_mono H (fun r c23 H => ?_))
            obtain ⟨z22, rfl, H⟩ := H
            refine ⟨z22, rfl, ?_⟩
            refine kw_lstore dX11_cosine_75 (Nat.le_of_ble_eq_true rfl) ?_
            refine kw_aload_n dX11_cosine_77 rfl ?_
            refine kw_bipush dX11_cosine_78 (by decide) ?_
            refine k2_callV1L (ci := 9) (N := 38) (T := TX11) rfl (lsh_558 hL) m_X11_squareOf dX11_cosine_80 wl_X11_119 (Nat.le_of_ble_eq_true rfl) (kC2_mono H (fun r c25 H => ?_))
            obtain ⟨z24, rfl, H⟩ := H
            refine ⟨z24, rfl, ?_⟩
            refine kw_lstore dX11_cosine_83 (Nat.le_of_ble_eq_true rfl) ?_
            refine kw_lload dX11_cosine_85 rfl ?_
            refine kw_lconst0 dX11_cosine_87 ?_
            have o26 := H.1
            have H := H.2
            refine kw_lcmp_le 129 dX11_cosine_88 dX11_cosine_89 (by decide) o26 (k64i (by omega)) (fun h27 => ?_) (fun h27 => ?_)
            · have H := H.1 h27
              refine kw_ldc2 dX11_cosine_129 wk_X11_327 ?_
              refine k2_lret dX11_cosine_132 rfl H
            · have H := H.2 h27
              refine kw_lload dX11_cosine_92 rfl ?_
              refine kw_lconst0 dX11_cosine_94 ?_
              have o28 := H.1
              have H := H.2
              refine kw_lcmp_le 129 dX11_cosine_95 dX11_cosine_96 (by decide) o28 (k64i (by omega)) (fun h29 => ?_) (fun h29 => ?_)
              · have H := H.1 h29
                refine kw_ldc2 dX11_cosine_129 wk_X11_327 ?_
                refine k2_lret dX11_cosine_132 rfl H
              · have H := H.2 h29
                refine kw_lload dX11_cosine_99 rfl ?_
                have o30 := H.1
                have H := H.2
                refine k2_callS1L m_X11_size dX11_cosine_101 wl_X11_72 (Nat.le_of_ble_eq_true rfl) (s_X11_size hL o30 ⟨_, rfl, ?_⟩)
                refine kw_ldc2 dX11_cosine_104 wk_X11_103 ?_
                have o31 := H.1
                have H := H.2
                refine kw_lcmp_gt 129 dX11_cosine_107 dX11_cosine_108 (by decide) o31 (k64i (by omega)) (fun h32 => ?_) (fun h32 => ?_)
                · have H := H.1 h32
                  refine kw_ldc2 dX11_cosine_129 wk_X11_327 ?_
                  refine k2_lret dX11_cosine_132 rfl H
                · have H := H.2 h32
                  refine kw_lload dX11_cosine_111 rfl ?_
                  refine kw_ldc2 dX11_cosine_113 wk_X11_103 ?_
                  refine kw_lcmp_gt 129 dX11_cosine_116 dX11_cosine_117 (by decide) o26 (k64i (by omega)) (fun h33 => ?_) (fun h33 => ?_)
                  · have H := H.1 h33
                    refine kw_ldc2 dX11_cosine_129 wk_X11_327 ?_
                    refine k2_lret dX11_cosine_132 rfl H
                  · have H := H.2 h33
                    refine kw_lload dX11_cosine_120 rfl ?_
                    refine kw_ldc2 dX11_cosine_122 wk_X11_103 ?_
                    refine kw_lcmp_le 133 dX11_cosine_125 dX11_cosine_126 (by decide) o28 (k64i (by omega)) (fun h34 => ?_) (fun h34 => ?_)
                    · have H := H.1 h34
                      refine kw_lload dX11_cosine_133 rfl ?_
                      refine kw_lconst0 dX11_cosine_135 ?_
                      refine kw_lcmp_ge 149 dX11_cosine_136 dX11_cosine_137 (by decide) o30 (k64i (by omega)) (fun h35 => ?_) (fun h35 => ?_)
                      · have H := H.1 h35
                        refine kw_lload dX11_cosine_149 rfl ?_
                        refine kw_lload dX11_cosine_151 rfl ?_
                        refine kw_lmul dX11_cosine_153 ?_
                        refine kw_lload dX11_cosine_154 rfl ?_
                        refine kw_lload dX11_cosine_156 rfl ?_
                        refine kw_lmul dX11_cosine_158 ?_
                        refine kw_iload_n dX11_cosine_159 rfl ?_
                        refine k2_callS3L m_X11_lowest dX11_cosine_160 wl_X11_317 (Nat.le_of_ble_eq_true rfl) (kC2_mono H (fun r c37 H => ?_))
                        obtain ⟨z36, rfl, H⟩ := H
                        refine ⟨z36, rfl, ?_⟩
                        refine k2_lret dX11_cosine_163 rfl H
                      · have H := H.2 h35
                        refine kw_lload dX11_cosine_140 rfl ?_
                        refine kw_lneg dX11_cosine_142 ?_
                        refine kw_lload dX11_cosine_143 rfl ?_
                        refine kw_lmul dX11_cosine_145 ?_
                        refine kw_goto 154 dX11_cosine_146 (by decide) ?_
                        refine kw_lload dX11_cosine_154 rfl ?_
                        refine kw_lload dX11_cosine_156 rfl ?_
                        refine kw_lmul dX11_cosine_158 ?_
                        refine kw_iload_n dX11_cosine_159 rfl ?_
                        refine k2_callS3L m_X11_lowest dX11_cosine_160 wl_X11_317 (Nat.le_of_ble_eq_true rfl) (kC2_mono H (fun r c39 H => ?_))
                        obtain ⟨z38, rfl, H⟩ := H
                        refine ⟨z38, rfl, ?_⟩
                        refine k2_lret dX11_cosine_163 rfl H
                    · have H := H.2 h34
                      refine kw_ldc2 dX11_cosine_129 wk_X11_327 ?_
                      refine k2_lret dX11_cosine_132 rfl H
          · have H := H.2 h14
            refine kw_ldc2 dX11_cosine_41 wk_X11_327 ?_
            refine k2_lret dX11_cosine_44 rfl H
      · have H := H.2 h6
        refine kw_if_eq 41 dX11_cosine_22 (by decide) (k32i (by omega)) (fun _ => ?_) (fun h40 => absurd h40 (by decide))
        refine kw_ldc2 dX11_cosine_41 wk_X11_327 ?_
        refine k2_lret dX11_cosine_44 rfl H
    · have H := H.2 h4
      refine kw_if_eq 41 dX11_cosine_13 (by decide) (k32i (by omega)) (fun _ => ?_) (fun h41 => absurd h41 (by decide))
      refine kw_ldc2 dX11_cosine_41 wk_X11_327 ?_
      refine k2_lret dX11_cosine_44 rfl H
  · have H := H.2 h2
    refine kw_if_eq 41 dX11_cosine_5 (by decide) (k32i (by omega)) (fun _ => ?_) (fun h42 => absurd h42 (by decide))
    refine kw_ldc2 dX11_cosine_41 wk_X11_327 ?_
    refine k2_lret dX11_cosine_44 rfl H
set_option maxRecDepth 4000 in
theorem v_X11_isFar {G : KG} {S0 : KSh} (hL : kLay S0) {d : Nat} {P : Option AV → KMem → Prop} {c : KMem} {x1 : Int}  (H : (k64 (c 558 31)) ∧ ((k64 ((Int.natAbs (c 558 31) : Nat) : Int)) ∧ ((k64 x1) ∧ ((x1 < ((Int.natAbs (c 558 31) : Nat) : Int) → (P (some (kI 1)) c)) ∧ (((Int.natAbs (c 558 31) : Nat) : Int) ≤ x1 → ((k64 (c 558 32)) ∧ ((k64 ((Int.natAbs (c 558 32) : Nat) : Int)) ∧ ((x1 < ((Int.natAbs (c 558 32) : Nat) : Int) → (P (some (kI 1)) c)) ∧ (((Int.natAbs (c 558 32) : Nat) : Int) ≤ x1 → ((k64 (c 558 33)) ∧ (((c 558 33) ≤ x1 → (P (some (kI 0)) c)) ∧ (x1 < (c 558 33) → (P (some (kI 1)) c))))))))))))) : kC2 G S0 kM_X11_isFar (d + 1) [kA 558, kL x1] c P := by
  refine k2_met (by decide) rfl (Nat.le_of_ble_eq_true rfl) (l0 := [some (kA 558), some (kL x1), none]) rfl ?_
  refine kw_aload_n dX11_isFar_0 rfl ?_
  refine k2_getL fd_X11_31 dX11_isFar_1 wf_X11_307 (lsh_558 hL) ?_
  have o1 := H.1
  have H := H.2
  refine k2_callS1L m_X11_size dX11_isFar_4 wl_X11_72 (Nat.le_of_ble_eq_true rfl) (s_X11_size hL o1 ⟨_, rfl, ?_⟩)
  refine kw_lload_n dX11_isFar_7 rfl ?_
  have o2 := H.1
  have H := H.2
  have o3 := H.1
  have H := H.2
  refine kw_lcmp_gt 33 dX11_isFar_8 dX11_isFar_9 (by decide) o2 o3 (fun h4 => ?_) (fun h4 => ?_)
  · have H := H.1 h4
    refine kw_iconst dX11_isFar_33 ?_
    refine kw_goto 38 dX11_isFar_34 (by decide) ?_
    refine k2_zret dX11_isFar_38 rfl (Or.inr rfl) H
  · have H := H.2 h4
    refine kw_aload_n dX11_isFar_12 rfl ?_
    refine k2_getL fd_X11_32 dX11_isFar_13 wf_X11_311 (lsh_558 hL) ?_
    have o5 := H.1
    have H := H.2
    refine k2_callS1L m_X11_size dX11_isFar_16 wl_X11_72 (Nat.le_of_ble_eq_true rfl) (s_X11_size hL o5 ⟨_, rfl, ?_⟩)
    refine kw_lload_n dX11_isFar_19 rfl ?_
    have o6 := H.1
    have H := H.2
    refine kw_lcmp_gt 33 dX11_isFar_20 dX11_isFar_21 (by decide) o6 o3 (fun h7 => ?_) (fun h7 => ?_)
    · have H := H.1 h7
      refine kw_iconst dX11_isFar_33 ?_
      refine kw_goto 38 dX11_isFar_34 (by decide) ?_
      refine k2_zret dX11_isFar_38 rfl (Or.inr rfl) H
    · have H := H.2 h7
      refine kw_aload_n dX11_isFar_24 rfl ?_
      refine k2_getL fd_X11_33 dX11_isFar_25 wf_X11_314 (lsh_558 hL) ?_
      refine kw_lload_n dX11_isFar_28 rfl ?_
      have o8 := H.1
      have H := H.2
      refine kw_lcmp_le 37 dX11_isFar_29 dX11_isFar_30 (by decide) o8 o3 (fun h9 => ?_) (fun h9 => ?_)
      · have H := H.1 h9
        refine kw_iconst dX11_isFar_37 ?_
        refine k2_zret dX11_isFar_38 rfl (Or.inl rfl) H
      · have H := H.2 h9
        refine kw_iconst dX11_isFar_33 ?_
        refine kw_goto 38 dX11_isFar_34 (by decide) ?_
        refine k2_zret dX11_isFar_38 rfl (Or.inr rfl) H
set_option maxRecDepth 4000 in
theorem v_X11_distance {G : KG} {S0 : KSh} (hL : kLay S0) {d : Nat} {P : Option AV → KMem → Prop} {c : KMem} {x1 x2 x3 : Int} (r1 : -2147483648 ≤ x1 ∧ x1 < 2147483648) (r2 : -2147483648 ≤ x2 ∧ x2 < 2147483648) (r3 : -2147483648 ≤ x3 ∧ x3 < 2147483648) (H : (kStd c) ∧ (((kHas c x1) → (((kHas c x2) → (((0 ≤ x3 ∧ x3 ≤ 1) → (kC2 G S0 kM_X11_kindOf (d + 4) [kA 558, kI x1] c (kRI (fun z8 c9 => (k32 z8) ∧ ((z8 ≠ 2 → (P (some (kL (-2000000000000000000))) c9)) ∧ (z8 = 2 → (kC2 G S0 kM_X11_kindOf (d + 4) [kA 558, kI x2] c9 (kRI (fun z12 c13 => (k32 z12) ∧ ((z12 = 2 → (kC2 G S0 kM_X11_findsMiddle (d + 4) [kA 558, kI x1] c13 (kRN (fun c17 => kC2 G S0 kM_X11_isFar (d + 4) [kA 558, kL 1000] c17 (kRI (fun z18 c19 => (k32 z18) ∧ ((z18 = 0 → (kW2 G S0 kM_X11_distance (d + 5) 66 [some (kA 558), none, some (kI x2), some (kI x3), none, none, none, none, none, none, none, none, none, none] [] c19 P)) ∧ (z18 ≠ 0 → (P (some (kL (-2000000000000000000))) c19))))))))) ∧ (z12 ≠ 2 → (P (some (kL (-2000000000000000000))) c13)))))))))))) ∧ (¬ (0 ≤ x3 ∧ x3 ≤ 1) → (P (some (kL (-2000000000000000000))) c)))) ∧ (¬ (kHas c x2) → (P (some (kL (-2000000000000000000))) c)))) ∧ (¬ (kHas c x1) → (P (some (kL (-2000000000000000000))) c)))) : kC2 G S0 kM_X11_distance (d + 5) [kA 558, kI x1, kI x2, kI x3] c P := by
  refine k2_met (by decide) rfl (Nat.le_of_ble_eq_true rfl) (l0 := [some (kA 558), some (kI x1), some (kI x2), some (kI x3), none, none, none, none, none, none, none, none, none, none]) rfl ?_
  refine kw_aload_n dX11_distance_0 rfl ?_
  refine kw_iload_n dX11_distance_1 rfl ?_
  have o1 := H.1
  have H := H.2
  refine k2_callV1I (ci := 9) (N := 38) (T := TX11) rfl (lsh_558 hL) m_X11_isLetter dX11_distance_2 wl_X11_161 (Nat.le_of_ble_eq_true rfl) (s_X11_isLetter hL (k32i (by omega)) o1 (fun h2 => ⟨_, rfl, ?_⟩) (fun h2 => ⟨_, rfl, ?_⟩))
  · have H := H.1 h2
    refine kw_if_eq 43 dX11_distance_5 (by decide) (k32i (by omega)) (fun h3 => absurd h3 (by decide)) (fun _ => ?_)
    refine kw_aload_n dX11_distance_8 rfl ?_
    refine kw_iload_n dX11_distance_9 rfl ?_
    refine k2_callV1I (ci := 9) (N := 38) (T := TX11) rfl (lsh_558 hL) m_X11_isLetter dX11_distance_10 wl_X11_161 (Nat.le_of_ble_eq_true rfl) (s_X11_isLetter hL (k32i (by omega)) o1 (fun h4 => ⟨_, rfl, ?_⟩) (fun h4 => ⟨_, rfl, ?_⟩))
    · have H := H.1 h4
      refine kw_if_eq 43 dX11_distance_13 (by decide) (k32i (by omega)) (fun h5 => absurd h5 (by decide)) (fun _ => ?_)
      refine kw_iload_n dX11_distance_16 rfl ?_
      refine kw_iconst dX11_distance_17 ?_
      refine kw_iconst dX11_distance_18 ?_
      refine k2_callS3I m_X11_in dX11_distance_19 wl_X11_100 (Nat.le_of_ble_eq_true rfl) (s_X11_in hL (k32i (by omega)) (k32i (by omega)) (k32i (by omega)) (fun h6 => ⟨_, rfl, ?_⟩) (fun h6 => ⟨_, rfl, ?_⟩))
      · have H := H.1 h6
        refine kw_if_eq 43 dX11_distance_22 (by decide) (k32i (by omega)) (fun h7 => absurd h7 (by decide)) (fun _ => ?_)
        refine kw_aload_n dX11_distance_25 rfl ?_
        refine kw_iload_n dX11_distance_26 rfl ?_
        refine k2_callV1I (ci := 9) (N := 38) (T := TX11) rfl (lsh_558 hL) m_X11_kindOf dX11_distance_27 wl_X11_140 (Nat.le_of_ble_eq_true rfl) (kC2_mono H (fun r c9 H => ?_))
        obtain ⟨z8, rfl, H⟩ := H
        refine ⟨z8, rfl, ?_⟩
        refine kw_iconst dX11_distance_30 ?_
        have o11 := H.1
        have H := H.2
        refine kw_icmp_ne 43 dX11_distance_31 (by decide) o11 (k32i (by omega)) (fun h10 => ?_) (fun h10 => ?_)
        · have H := H.1 h10
          refine kw_ldc2 dX11_distance_43 wk_X11_327 ?_
          refine k2_lret dX11_distance_46 rfl H
        · have H := H.2 h10
          refine kw_aload_n dX11_distance_34 rfl ?_
          refine kw_iload_n dX11_distance_35 rfl ?_
          refine k2_callV1I (ci := 9) (N := 38) (T := TX11) rfl (lsh_558 hL) m_X11_kindOf dX11_distance_36 wl_X11_140 (Nat.le_of_ble_eq_true rfl) (kC2_mono H (fun r c13 H => ?_))
          obtain ⟨z12, rfl, H⟩ := H
          refine ⟨z12, rfl, ?_⟩
          refine kw_iconst dX11_distance_39 ?_
          have o15 := H.1
          have H := H.2
          refine kw_icmp_eq 47 dX11_distance_40 (by decide) o15 (k32i (by omega)) (fun h14 => ?_) (fun h14 => ?_)
          · have H := H.1 h14
            refine kw_aload_n dX11_distance_47 rfl ?_
            refine kw_iload_n dX11_distance_48 rfl ?_
            refine k2_callV1N (ci := 9) (N := 38) (T := TX11) rfl (lsh_558 hL) m_X11_findsMiddle dX11_distance_49 wl_X11_337 (Nat.le_of_ble_eq_true rfl) (kC2_mono H (fun r c17 H => ?_))
            obtain ⟨rfl, H⟩ := H
            refine ⟨rfl, ?_⟩
            refine kw_aload_n dX11_distance_52 rfl ?_
            refine kw_ldc2 dX11_distance_53 wk_X11_372 ?_
            refine k2_callV1I (ci := 9) (N := 38) (T := TX11) rfl (lsh_558 hL) m_X11_isFar dX11_distance_56 wl_X11_374 (Nat.le_of_ble_eq_true rfl) (kC2_mono H (fun r c19 H => ?_))
            obtain ⟨z18, rfl, H⟩ := H
            refine ⟨z18, rfl, ?_⟩
            have o21 := H.1
            have H := H.2
            refine kw_if_eq 66 dX11_distance_59 (by decide) o21 (fun h20 => ?_) (fun h20 => ?_)
            · have H := H.1 h20
              exact kw_forget (ls' := [some (kA 558), none, some (kI x2), some (kI x3), none, none, none, none, none, none, none, none, none, none]) ⟨Or.inr rfl, ⟨Or.inl rfl, ⟨Or.inr rfl, ⟨Or.inr rfl, ⟨Or.inr rfl, ⟨Or.inr rfl, ⟨Or.inr rfl, ⟨Or.inr rfl, ⟨Or.inr rfl, ⟨Or.inr rfl, ⟨Or.inr rfl, ⟨Or.inr rfl, ⟨Or.inr rfl, ⟨Or.inr rfl, trivial⟩⟩⟩⟩⟩⟩⟩⟩⟩⟩⟩⟩⟩⟩ H
            · have H := H.2 h20
              refine kw_ldc2 dX11_distance_62 wk_X11_327 ?_
              refine k2_lret dX11_distance_65 rfl H
          · have H := H.2 h14
            refine kw_ldc2 dX11_distance_43 wk_X11_327 ?_
            refine k2_lret dX11_distance_46 rfl H
      · have H := H.2 h6
        refine kw_if_eq 43 dX11_distance_22 (by decide) (k32i (by omega)) (fun _ => ?_) (fun h22 => absurd h22 (by decide))
        refine kw_ldc2 dX11_distance_43 wk_X11_327 ?_
        refine k2_lret dX11_distance_46 rfl H
    · have H := H.2 h4
      refine kw_if_eq 43 dX11_distance_13 (by decide) (k32i (by omega)) (fun _ => ?_) (fun h23 => absurd h23 (by decide))
      refine kw_ldc2 dX11_distance_43 wk_X11_327 ?_
      refine k2_lret dX11_distance_46 rfl H
  · have H := H.2 h2
    refine kw_if_eq 43 dX11_distance_5 (by decide) (k32i (by omega)) (fun _ => ?_) (fun h24 => absurd h24 (by decide))
    refine kw_ldc2 dX11_distance_43 wk_X11_327 ?_
    refine k2_lret dX11_distance_46 rfl H
set_option maxRecDepth 4000 in
theorem v_X11_distance_66 {G : KG} {S0 : KSh} (hL : kLay S0) {d : Nat} {P : Option AV → KMem → Prop} {c : KMem} {x2 x3 : Int} (r2 : -2147483648 ≤ x2 ∧ x2 < 2147483648) (r3 : -2147483648 ≤ x3 ∧ x3 < 2147483648) (H : kC2 G S0 kM_X11_findsMiddle (d + 4) [kA 558, kI x2] c (kRN (fun c26 => kC2 G S0 kM_X11_isFar (d + 4) [kA 558, kL 1000] c26 (kRI (fun z27 c28 => (k32 z27) ∧ ((z27 = 0 → (kW2 G S0 kM_X11_distance (d + 5) 103 [some (kA 558), none, none, some (kI x3), some (kL (c 558 31)), none, some (kL (c 558 32)), none, some (kL (c 558 33)), none, none, none, none, none] [] c28 P)) ∧ (z27 ≠ 0 → (P (some (kL (-2000000000000000000))) c28)))))))) : kW2 G S0 kM_X11_distance (d + 5) 66 [some (kA 558), none, some (kI x2), some (kI x3), none, none, none, none, none, none, none, none, none, none] [] c P := by
  refine kw_aload_n dX11_distance_66 rfl ?_
  refine k2_getL fd_X11_31 dX11_distance_67 wf_X11_307 (lsh_558 hL) ?_
  refine kw_lstore dX11_distance_70 (Nat.le_of_ble_eq_true rfl) ?_
  refine kw_aload_n dX11_distance_72 rfl ?_
  refine k2_getL fd_X11_32 dX11_distance_73 wf_X11_311 (lsh_558 hL) ?_
  refine kw_lstore dX11_distance_76 (Nat.le_of_ble_eq_true rfl) ?_
  refine kw_aload_n dX11_distance_78 rfl ?_
  refine k2_getL fd_X11_33 dX11_distance_79 wf_X11_314 (lsh_558 hL) ?_
  refine kw_lstore dX11_distance_82 (Nat.le_of_ble_eq_true rfl) ?_
  refine kw_aload_n dX11_distance_84 rfl ?_
  refine kw_iload_n dX11_distance_85 rfl ?_
  refine k2_callV1N (ci := 9) (N := 38) (T := TX11) rfl (lsh_558 hL) m_X11_findsMiddle dX11_distance_86 wl_X11_337 (Nat.le_of_ble_eq_true rfl) (kC2_mono H (fun r c26 H => ?_))
  obtain ⟨rfl, H⟩ := H
  refine ⟨rfl, ?_⟩
  refine kw_aload_n dX11_distance_89 rfl ?_
  refine kw_ldc2 dX11_distance_90 wk_X11_372 ?_
  refine k2_callV1I (ci := 9) (N := 38) (T := TX11) rfl (lsh_558 hL) m_X11_isFar dX11_distance_93 wl_X11_374 (Nat.le_of_ble_eq_true rfl) (kC2_mono H (fun r c28 H => ?_))
  obtain ⟨z27, rfl, H⟩ := H
  refine ⟨z27, rfl, ?_⟩
  have o30 := H.1
  have H := H.2
  refine kw_if_eq 103 dX11_distance_96 (by decide) o30 (fun h29 => ?_) (fun h29 => ?_)
  · have H := H.1 h29
    exact kw_forget (ls' := [some (kA 558), none, none, some (kI x3), some (kL (c 558 31)), none, some (kL (c 558 32)), none, some (kL (c 558 33)), none, none, none, none, none]) ⟨Or.inr rfl, ⟨Or.inr rfl, ⟨Or.inl rfl, ⟨Or.inr rfl, ⟨Or.inr rfl, ⟨Or.inr rfl, ⟨Or.inr rfl, ⟨Or.inr rfl, ⟨Or.inr rfl, ⟨Or.inr rfl, ⟨Or.inr rfl, ⟨Or.inr rfl, ⟨Or.inr rfl, ⟨Or.inr rfl, trivial⟩⟩⟩⟩⟩⟩⟩⟩⟩⟩⟩⟩⟩⟩ H
  · have H := H.2 h29
    refine kw_ldc2 dX11_distance_99 wk_X11_327 ?_
    refine k2_lret dX11_distance_102 rfl H
set_option maxRecDepth 4000 in
theorem v_X11_distance_103 {G : KG} {S0 : KSh} (hL : kLay S0) {d : Nat} {P : Option AV → KMem → Prop} {c : KMem} {x3 x4 x6 x8 : Int} (r3 : -2147483648 ≤ x3 ∧ x3 < 2147483648) (H : kW2 G S0 kM_X11_distance (d + 5) 137 [some (kA 558), none, none, some (kI x3), none, none, none, none, some (kL x8), none, some (kL ((x4 * (c 558 33)) - ((c 558 31) * x8))), none, some (kL ((x6 * (c 558 33)) - ((c 558 32) * x8))), none] [] c P) : kW2 G S0 kM_X11_distance (d + 5) 103 [some (kA 558), none, none, some (kI x3), some (kL x4), none, some (kL x6), none, some (kL x8), none, none, none, none, none] [] c P := by
  refine kw_lload dX11_distance_103 rfl ?_
  refine kw_aload_n dX11_distance_105 rfl ?_
  refine k2_getL fd_X11_33 dX11_distance_106 wf_X11_314 (lsh_558 hL) ?_
  refine kw_lmul dX11_distance_109 ?_
  refine kw_aload_n dX11_distance_110 rfl ?_
  refine k2_getL fd_X11_31 dX11_distance_111 wf_X11_307 (lsh_558 hL) ?_
  refine kw_lload dX11_distance_114 rfl ?_
  refine kw_lmul dX11_distance_116 ?_
  refine kw_lsub dX11_distance_117 ?_
  refine kw_lstore dX11_distance_118 (Nat.le_of_ble_eq_true rfl) ?_
  refine kw_lload dX11_distance_120 rfl ?_
  refine kw_aload_n dX11_distance_122 rfl ?_
  refine k2_getL fd_X11_33 dX11_distance_123 wf_X11_314 (lsh_558 hL) ?_
  refine kw_lmul dX11_distance_126 ?_
  refine kw_aload_n dX11_distance_127 rfl ?_
  refine k2_getL fd_X11_32 dX11_distance_128 wf_X11_311 (lsh_558 hL) ?_
  refine kw_lload dX11_distance_131 rfl ?_
  refine kw_lmul dX11_distance_133 ?_
  refine kw_lsub dX11_distance_134 ?_
  refine kw_lstore dX11_distance_135 (Nat.le_of_ble_eq_true rfl) ?_
  exact kw_forget (ls' := [some (kA 558), none, none, some (kI x3), none, none, none, none, some (kL x8), none, some (kL ((x4 * (c 558 33)) - ((c 558 31) * x8))), none, some (kL ((x6 * (c 558 33)) - ((c 558 32) * x8))), none]) ⟨Or.inr rfl, ⟨Or.inr rfl, ⟨Or.inr rfl, ⟨Or.inr rfl, ⟨Or.inl rfl, ⟨Or.inr rfl, ⟨Or.inl rfl, ⟨Or.inr rfl, ⟨Or.inr rfl, ⟨Or.inr rfl, ⟨Or.inr rfl, ⟨Or.inr rfl, ⟨Or.inr rfl, ⟨Or.inr rfl, trivial⟩⟩⟩⟩⟩⟩⟩⟩⟩⟩⟩⟩⟩⟩ H
set_option maxRecDepth 4000 in
theorem v_X11_distance_137 {G : KG} {S0 : KSh} (hL : kLay S0) {d : Nat} {P : Option AV → KMem → Prop} {c : KMem} {x3 x8 x10 x12 : Int} (r3 : -2147483648 ≤ x3 ∧ x3 < 2147483648) (H : kC2 G S0 kM_X11_lowest (d + 4) [kL ((x10 * x10) + (x12 * x12)), kL (((x8 * x8) * (c 558 33)) * (c 558 33)), kI x3] c (kRL (fun z31 c32 => P (some (kL z31)) c32))) : kW2 G S0 kM_X11_distance (d + 5) 137 [some (kA 558), none, none, some (kI x3), none, none, none, none, some (kL x8), none, some (kL x10), none, some (kL x12), none] [] c P := by
  refine kw_lload dX11_distance_137 rfl ?_
  refine kw_lload dX11_distance_139 rfl ?_
  refine kw_lmul dX11_distance_141 ?_
  refine kw_lload dX11_distance_142 rfl ?_
  refine kw_lload dX11_distance_144 rfl ?_
  refine kw_lmul dX11_distance_146 ?_
  refine kw_ladd dX11_distance_147 ?_
  refine kw_lload dX11_distance_148 rfl ?_
  refine kw_lload dX11_distance_150 rfl ?_
  refine kw_lmul dX11_distance_152 ?_
  refine kw_aload_n dX11_distance_153 rfl ?_
  refine k2_getL fd_X11_33 dX11_distance_154 wf_X11_314 (lsh_558 hL) ?_
  refine kw_lmul dX11_distance_157 ?_
  refine kw_aload_n dX11_distance_158 rfl ?_
  refine k2_getL fd_X11_33 dX11_distance_159 wf_X11_314 (lsh_558 hL) ?_
  refine kw_lmul dX11_distance_162 ?_
  refine kw_iload_n dX11_distance_163 rfl ?_
  refine k2_callS3L m_X11_lowest dX11_distance_164 wl_X11_317 (Nat.le_of_ble_eq_true rfl) (kC2_mono H (fun r c32 H => ?_))
  obtain ⟨z31, rfl, H⟩ := H
  refine ⟨z31, rfl, ?_⟩
  refine k2_lret dX11_distance_167 rfl H
set_option maxRecDepth 4000 in
theorem v_X11_power {G : KG} {S0 : KSh} (hL : kLay S0) {d : Nat} {P : Option AV → KMem → Prop} {c : KMem} {x1 x2 x3 x4 : Int} (r1 : -2147483648 ≤ x1 ∧ x1 < 2147483648) (r2 : -2147483648 ≤ x2 ∧ x2 < 2147483648) (r3 : -2147483648 ≤ x3 ∧ x3 < 2147483648) (r4 : -2147483648 ≤ x4 ∧ x4 < 2147483648) (H : (kStd c) ∧ (((kHas c x1) → (((-99 ≤ x2 ∧ x2 ≤ 99) → (((-99 ≤ x3 ∧ x3 ≤ 99) → (((0 ≤ x4 ∧ x4 ≤ 1) → (kC2 G S0 kM_X11_kindOf (d + 4) [kA 558, kI x1] c (kRI (fun z10 c11 => (k32 z10) ∧ (((kMid z10) → (kC2 G S0 kM_X11_laysVector (d + 4) [kA 558, kI x1, kI 24] c11 (kRN (fun c16 => kC2 G S0 kM_X11_findsMiddle (d + 4) [kA 558, kI 24] c16 (kRN (fun c18 => kC2 G S0 kM_X11_isFar (d + 4) [kA 558, kL 10000] c18 (kRI (fun z19 c20 => (k32 z19) ∧ ((z19 ≠ 0 → (P (some (kL (-3000000000000000000))) c20)) ∧ (z19 = 0 → ((k64 (c20 558 34)) ∧ ((k64 ((Int.natAbs (c20 558 34) : Nat) : Int)) ∧ ((10000 < ((Int.natAbs (c20 558 34) : Nat) : Int) → (P (some (kL (-3000000000000000000))) c20)) ∧ (((Int.natAbs (c20 558 34) : Nat) : Int) ≤ 10000 → ((k64 (c20 558 35)) ∧ (((c20 558 35) ≤ 10000 → (kW2 G S0 kM_X11_power (d + 5) 103 [some (kA 558), none, some (kI x2), some (kI x3), some (kI x4), none, none, none, none, none, none] [] c20 P)) ∧ (10000 < (c20 558 35) → (P (some (kL (-3000000000000000000))) c20)))))))))))))))))) ∧ (¬ (kMid z10) → (P (some (kL (-3000000000000000000))) c11))))))) ∧ (¬ (0 ≤ x4 ∧ x4 ≤ 1) → (P (some (kL (-2000000000000000000))) c)))) ∧ (¬ (-99 ≤ x3 ∧ x3 ≤ 99) → (P (some (kL (-2000000000000000000))) c)))) ∧ (¬ (-99 ≤ x2 ∧ x2 ≤ 99) → (P (some (kL (-2000000000000000000))) c)))) ∧ (¬ (kHas c x1) → (P (some (kL (-2000000000000000000))) c)))) : kC2 G S0 kM_X11_power (d + 5) [kA 558, kI x1, kI x2, kI x3, kI x4] c P := by
  refine k2_met (by decide) rfl (Nat.le_of_ble_eq_true rfl) (l0 := [some (kA 558), some (kI x1), some (kI x2), some (kI x3), some (kI x4), none, none, none, none, none, none]) rfl ?_
  refine kw_aload_n dX11_power_0 rfl ?_
  refine kw_iload_n dX11_power_1 rfl ?_
  have o1 := H.1
  have H := H.2
  refine k2_callV1I (ci := 9) (N := 38) (T := TX11) rfl (lsh_558 hL) m_X11_isLetter dX11_power_2 wl_X11_161 (Nat.le_of_ble_eq_true rfl) (s_X11_isLetter hL (k32i (by omega)) o1 (fun h2 => ⟨_, rfl, ?_⟩) (fun h2 => ⟨_, rfl, ?_⟩))
  · have H := H.1 h2
    refine kw_if_eq 32 dX11_power_5 (by decide) (k32i (by omega)) (fun h3 => absurd h3 (by decide)) (fun _ => ?_)
    refine kw_iload_n dX11_power_8 rfl ?_
    refine k2_callS1I m_X11_isWhere dX11_power_9 wl_X11_346 (Nat.le_of_ble_eq_true rfl) (s_X11_isWhere hL (k32i (by omega)) (fun h4 => ⟨_, rfl, ?_⟩) (fun h4 => ⟨_, rfl, ?_⟩))
    · have H := H.1 h4
      refine kw_if_eq 32 dX11_power_12 (by decide) (k32i (by omega)) (fun h5 => absurd h5 (by decide)) (fun _ => ?_)
      refine kw_iload_n dX11_power_15 rfl ?_
      refine k2_callS1I m_X11_isWhere dX11_power_16 wl_X11_346 (Nat.le_of_ble_eq_true rfl) (s_X11_isWhere hL (k32i (by omega)) (fun h6 => ⟨_, rfl, ?_⟩) (fun h6 => ⟨_, rfl, ?_⟩))
      · have H := H.1 h6
        refine kw_if_eq 32 dX11_power_19 (by decide) (k32i (by omega)) (fun h7 => absurd h7 (by decide)) (fun _ => ?_)
        refine kw_iload dX11_power_22 rfl ?_
        refine kw_iconst dX11_power_24 ?_
        refine kw_iconst dX11_power_25 ?_
        refine k2_callS3I m_X11_in dX11_power_26 wl_X11_100 (Nat.le_of_ble_eq_true rfl) (s_X11_in hL (k32i (by omega)) (k32i (by omega)) (k32i (by omega)) (fun h8 => ⟨_, rfl, ?_⟩) (fun h8 => ⟨_, rfl, ?_⟩))
        · have H := H.1 h8
          refine kw_if_ne 36 dX11_power_29 (by decide) (k32i (by omega)) (fun _ => ?_) (fun h9 => absurd h9 (by decide))
          refine kw_aload_n dX11_power_36 rfl ?_
          refine kw_iload_n dX11_power_37 rfl ?_
          refine k2_callV1I (ci := 9) (N := 38) (T := TX11) rfl (lsh_558 hL) m_X11_kindOf dX11_power_38 wl_X11_140 (Nat.le_of_ble_eq_true rfl) (kC2_mono H (fun r c11 H => ?_))
          obtain ⟨z10, rfl, H⟩ := H
          refine ⟨z10, rfl, ?_⟩
          have o12 := H.1
          have H := H.2
          refine k2_callS1I m_X11_hasMiddle dX11_power_41 wl_X11_329 (Nat.le_of_ble_eq_true rfl) (s_X11_hasMiddle hL o12 (fun h13 => ⟨_, rfl, ?_⟩) (fun h13 => ⟨_, rfl, ?_⟩))
          · have H := H.1 h13
            refine kw_if_ne 51 dX11_power_44 (by decide) (k32i (by omega)) (fun _ => ?_) (fun h14 => absurd h14 (by decide))
            refine kw_aload_n dX11_power_51 rfl ?_
            refine kw_iload_n dX11_power_52 rfl ?_
            refine kw_bipush dX11_power_53 (by decide) ?_
            refine k2_callV2N (ci := 9) (N := 38) (T := TX11) rfl (lsh_558 hL) m_X11_laysVector dX11_power_55 wl_X11_334 (Nat.le_of_ble_eq_true rfl) (kC2_mono H (fun r c16 H => ?_))
            obtain ⟨rfl, H⟩ := H
            refine ⟨rfl, ?_⟩
            refine kw_aload_n dX11_power_58 rfl ?_
            refine kw_bipush dX11_power_59 (by decide) ?_
            refine k2_callV1N (ci := 9) (N := 38) (T := TX11) rfl (lsh_558 hL) m_X11_findsMiddle dX11_power_61 wl_X11_337 (Nat.le_of_ble_eq_true rfl) (kC2_mono H (fun r c18 H => ?_))
            obtain ⟨rfl, H⟩ := H
            refine ⟨rfl, ?_⟩
            refine kw_aload_n dX11_power_64 rfl ?_
            refine kw_ldc2 dX11_power_65 wk_X11_378 ?_
            refine k2_callV1I (ci := 9) (N := 38) (T := TX11) rfl (lsh_558 hL) m_X11_isFar dX11_power_68 wl_X11_374 (Nat.le_of_ble_eq_true rfl) (kC2_mono H (fun r c20 H => ?_))
            obtain ⟨z19, rfl, H⟩ := H
            refine ⟨z19, rfl, ?_⟩
            have o22 := H.1
            have H := H.2
            refine kw_if_ne 99 dX11_power_71 (by decide) o22 (fun h21 => ?_) (fun h21 => ?_)
            · have H := H.1 h21
              refine kw_ldc2 dX11_power_99 wk_X11_332 ?_
              refine k2_lret dX11_power_102 rfl H
            · have H := H.2 h21
              refine kw_aload_n dX11_power_74 rfl ?_
              refine k2_getL fd_X11_34 dX11_power_75 wf_X11_321 (lsh_558 hL) ?_
              have o23 := H.1
              have H := H.2
              refine k2_callS1L m_X11_size dX11_power_78 wl_X11_72 (Nat.le_of_ble_eq_true rfl) (s_X11_size hL o23 ⟨_, rfl, ?_⟩)
              refine kw_ldc2 dX11_power_81 wk_X11_378 ?_
              have o24 := H.1
              have H := H.2
              refine kw_lcmp_gt 99 dX11_power_84 dX11_power_85 (by decide) o24 (k64i (by omega)) (fun h25 => ?_) (fun h25 => ?_)
              · have H := H.1 h25
                refine kw_ldc2 dX11_power_99 wk_X11_332 ?_
                refine k2_lret dX11_power_102 rfl H
              · have H := H.2 h25
                refine kw_aload_n dX11_power_88 rfl ?_
                refine k2_getL fd_X11_35 dX11_power_89 wf_X11_324 (lsh_558 hL) ?_
                refine kw_ldc2 dX11_power_92 wk_X11_378 ?_
                have o26 := H.1
                have H := H.2
                refine kw_lcmp_le 103 dX11_power_95 dX11_power_96 (by decide) o26 (k64i (by omega)) (fun h27 => ?_) (fun h27 => ?_)
                · have H := H.1 h27
                  exact kw_forget (ls' := [some (kA 558), none, some (kI x2), some (kI x3), some (kI x4), none, none, none, none, none, none]) ⟨Or.inr rfl, ⟨Or.inl rfl, ⟨Or.inr rfl, ⟨Or.inr rfl, ⟨Or.inr rfl, ⟨Or.inr rfl, ⟨Or.inr rfl, ⟨Or.inr rfl, ⟨Or.inr rfl, ⟨Or.inr rfl, ⟨Or.inr rfl, trivial⟩⟩⟩⟩⟩⟩⟩⟩⟩⟩⟩ H
                · have H := H.2 h27
                  refine kw_ldc2 dX11_power_99 wk_X11_332 ?_
                  refine k2_lret dX11_power_102 rfl H
          · have H := H.2 h13
            refine kw_if_ne 51 dX11_power_44 (by decide) (k32i (by omega)) (fun h28 => absurd h28 (by decide)) (fun _ => ?_)
            refine kw_ldc2 dX11_power_47 wk_X11_332 ?_
            refine k2_lret dX11_power_50 rfl H
        · have H := H.2 h8
          refine kw_if_ne 36 dX11_power_29 (by decide) (k32i (by omega)) (fun h29 => absurd h29 (by decide)) (fun _ => ?_)
          refine kw_ldc2 dX11_power_32 wk_X11_327 ?_
          refine k2_lret dX11_power_35 rfl H
      · have H := H.2 h6
        refine kw_if_eq 32 dX11_power_19 (by decide) (k32i (by omega)) (fun _ => ?_) (fun h30 => absurd h30 (by decide))
        refine kw_ldc2 dX11_power_32 wk_X11_327 ?_
        refine k2_lret dX11_power_35 rfl H
    · have H := H.2 h4
      refine kw_if_eq 32 dX11_power_12 (by decide) (k32i (by omega)) (fun _ => ?_) (fun h31 => absurd h31 (by decide))
      refine kw_ldc2 dX11_power_32 wk_X11_327 ?_
      refine k2_lret dX11_power_35 rfl H
  · have H := H.2 h2
    refine kw_if_eq 32 dX11_power_5 (by decide) (k32i (by omega)) (fun _ => ?_) (fun h32 => absurd h32 (by decide))
    refine kw_ldc2 dX11_power_32 wk_X11_327 ?_
    refine k2_lret dX11_power_35 rfl H
set_option maxRecDepth 4000 in
theorem v_X11_power_103 {G : KG} {S0 : KSh} (hL : kLay S0) {d : Nat} {P : Option AV → KMem → Prop} {c : KMem} {x2 x3 x4 : Int} (r2 : -2147483648 ≤ x2 ∧ x2 < 2147483648) (r3 : -2147483648 ≤ x3 ∧ x3 < 2147483648) (r4 : -2147483648 ≤ x4 ∧ x4 < 2147483648) (H : kW2 G S0 kM_X11_power (d + 5) 142 [some (kA 558), none, none, none, some (kI x4), some (kL ((x2 * (c 558 33)) - (c 558 31))), none, some (kL ((x3 * (c 558 33)) - (c 558 32))), none, some (kL ((c 558 33) * (c 558 33))), none] [] c P) : kW2 G S0 kM_X11_power (d + 5) 103 [some (kA 558), none, some (kI x2), some (kI x3), some (kI x4), none, none, none, none, none, none] [] c P := by
  refine kw_iload_n dX11_power_103 rfl ?_
  refine kw_i2l dX11_power_104 (k32i (by omega)) ?_
  refine kw_aload_n dX11_power_105 rfl ?_
  refine k2_getL fd_X11_33 dX11_power_106 wf_X11_314 (lsh_558 hL) ?_
  refine kw_lmul dX11_power_109 ?_
  refine kw_aload_n dX11_power_110 rfl ?_
  refine k2_getL fd_X11_31 dX11_power_111 wf_X11_307 (lsh_558 hL) ?_
  refine kw_lsub dX11_power_114 ?_
  refine kw_lstore dX11_power_115 (Nat.le_of_ble_eq_true rfl) ?_
  refine kw_iload_n dX11_power_117 rfl ?_
  refine kw_i2l dX11_power_118 (k32i (by omega)) ?_
  refine kw_aload_n dX11_power_119 rfl ?_
  refine k2_getL fd_X11_33 dX11_power_120 wf_X11_314 (lsh_558 hL) ?_
  refine kw_lmul dX11_power_123 ?_
  refine kw_aload_n dX11_power_124 rfl ?_
  refine k2_getL fd_X11_32 dX11_power_125 wf_X11_311 (lsh_558 hL) ?_
  refine kw_lsub dX11_power_128 ?_
  refine kw_lstore dX11_power_129 (Nat.le_of_ble_eq_true rfl) ?_
  refine kw_aload_n dX11_power_131 rfl ?_
  refine k2_getL fd_X11_33 dX11_power_132 wf_X11_314 (lsh_558 hL) ?_
  refine kw_aload_n dX11_power_135 rfl ?_
  refine k2_getL fd_X11_33 dX11_power_136 wf_X11_314 (lsh_558 hL) ?_
  refine kw_lmul dX11_power_139 ?_
  refine kw_lstore dX11_power_140 (Nat.le_of_ble_eq_true rfl) ?_
  exact kw_forget (ls' := [some (kA 558), none, none, none, some (kI x4), some (kL ((x2 * (c 558 33)) - (c 558 31))), none, some (kL ((x3 * (c 558 33)) - (c 558 32))), none, some (kL ((c 558 33) * (c 558 33))), none]) ⟨Or.inr rfl, ⟨Or.inr rfl, ⟨Or.inl rfl, ⟨Or.inl rfl, ⟨Or.inr rfl, ⟨Or.inr rfl, ⟨Or.inr rfl, ⟨Or.inr rfl, ⟨Or.inr rfl, ⟨Or.inr rfl, ⟨Or.inr rfl, trivial⟩⟩⟩⟩⟩⟩⟩⟩⟩⟩⟩ H
set_option maxRecDepth 4000 in
theorem v_X11_power_142 {G : KG} {S0 : KSh} (hL : kLay S0) {d : Nat} {P : Option AV → KMem → Prop} {c : KMem} {x4 x5 x7 x9 : Int} (r4 : -2147483648 ≤ x4 ∧ x4 < 2147483648) (H : kC2 G S0 kM_X11_lowest (d + 4) [kL ((((x5 * x5) + (x7 * x7)) * (c 558 35)) - ((c 558 34) * x9)), kL (x9 * (c 558 35)), kI x4] c (kRL (fun z33 c34 => P (some (kL z33)) c34))) : kW2 G S0 kM_X11_power (d + 5) 142 [some (kA 558), none, none, none, some (kI x4), some (kL x5), none, some (kL x7), none, some (kL x9), none] [] c P := by
  refine kw_lload dX11_power_142 rfl ?_
  refine kw_lload dX11_power_144 rfl ?_
  refine kw_lmul dX11_power_146 ?_
  refine kw_lload dX11_power_147 rfl ?_
  refine kw_lload dX11_power_149 rfl ?_
  refine kw_lmul dX11_power_151 ?_
  refine kw_ladd dX11_power_152 ?_
  refine kw_aload_n dX11_power_153 rfl ?_
  refine k2_getL fd_X11_35 dX11_power_154 wf_X11_324 (lsh_558 hL) ?_
  refine kw_lmul dX11_power_157 ?_
  refine kw_aload_n dX11_power_158 rfl ?_
  refine k2_getL fd_X11_34 dX11_power_159 wf_X11_321 (lsh_558 hL) ?_
  refine kw_lload dX11_power_162 rfl ?_
  refine kw_lmul dX11_power_164 ?_
  refine kw_lsub dX11_power_165 ?_
  refine kw_lload dX11_power_166 rfl ?_
  refine kw_aload_n dX11_power_168 rfl ?_
  refine k2_getL fd_X11_35 dX11_power_169 wf_X11_324 (lsh_558 hL) ?_
  refine kw_lmul dX11_power_172 ?_
  refine kw_iload dX11_power_173 rfl ?_
  refine k2_callS3L m_X11_lowest dX11_power_175 wl_X11_317 (Nat.le_of_ble_eq_true rfl) (kC2_mono H (fun r c34 H => ?_))
  obtain ⟨z33, rfl, H⟩ := H
  refine ⟨z33, rfl, ?_⟩
  refine k2_lret dX11_power_178 rfl H
section MQ5
variable {G : KG} {S0 : KSh} {d : Nat} {P : Option AV → KMem → Prop} {c c0 : KMem} {Φ : Int → KF} {H : Int → Bool} {F : Int → KF} {f g : KF} {M : Int} {x0 x1 x2 x3 x4 : Int}
theorem kPh.ex {Ψ : Int → KF} (h : kPh Φ c0 c) (e : ∀ s, Ψ s = Φ s) : kPh Ψ c0 c := ⟨fun s h0 => e s ▸ h.1 s h0, h.2⟩
theorem t_liesPoint (hL : kLay S0) (hg : kSgn c0) (hs : kPh Φ c0 c) (ho : kObj (kind g)) (h1 : ∀ c' b, kPh (kU (kU Φ 24 (vecP g)) 31 b) c0 c' → mulP 2 f (vecP g) 0 = 0 → P (some (kI 1)) c') (h0 : ∀ c' b, kPh (kU (kU Φ 24 (vecP g)) 31 b) c0 c' → ¬ mulP 2 f (vecP g) 0 = 0 → P (some (kI 0)) c') (hp : 0 ≤ x1 ∧ x1 < 12 ∧ 0 ≤ x2 ∧ x2 < 12) (e : Φ x1 = f) (e2 : Φ x2 = g) (e3 : Φ 30 = farP) (hf : kB kLB f) (hb : kB kLB g) : kC2 G S0 kM_X11_liesPoint (d + 3) [kA 558, kI x1, kI x2] c P := by
  refine v_X11_liesPoint hL (by omega) (by omega) ?_
  refine t_laysVector hL hg hs ho (fun c2 hs => ⟨rfl, ?_⟩)
  refine t_innerOf hL hg hs (fun c3 b hs => ⟨_, rfl, ?_⟩)
  have bd := mulP_bdL (kd := 2) hf (vecP_bd hb) 0 (by omega) (by omega)
  exact ⟨k64i (by omega), fun q => h0 _ _ hs q, fun q => h1 _ _ hs q⟩
theorem s_X11_lies (hL : kLay S0) (r1 : k32 x1) (r2 : k32 x2) (hs : RSt H F c) (h : ∀ c', kRP c c' → P (some (kI (vLies H F x1 x2))) c') : kC2 G S0 kM_X11_lies (d + 6) [kA 558, kI x1, kI x2] c P := by
  obtain ⟨Φ, s0, hg, hst, hy, hn, e3, hl⟩ := hs.op
  have hP := kPi h
  unfold vLies at hP
  refine v_X11_lies hL r1 r2 ⟨hst, fun z1 => ?_, fun z1 => hP _ _ kRP.rf (by rw [if_neg (hn _ z1)])⟩
  have y1 := hy _ z1
  obtain ⟨a1, b1, e1, f1⟩ := hl _ y1
  rw [if_pos y1] at hP
  refine ⟨fun z2 => ?_, fun z2 => hP _ _ kRP.rf (by rw [if_neg (hn _ z2)])⟩
  have y2 := hy _ z2
  obtain ⟨a2, b2, e2, f2⟩ := hl _ y2
  rw [if_pos y2] at hP
  have hk := kind_rg (F x1)
  refine t_kindOf hL hg s0 (fun c1 a b hs => ⟨_, rfl, ?_⟩)
  refine ⟨k32i (by omega), fun z => ?_, fun z => ?_⟩
  · rw [if_neg z] at hP
    exact hP _ _ (s0.rp hs kFr.rf (by intro s p q; repeat (first | exact rfl | refine kUn (by omega) ?_ | exact hk s p q))) rfl
  · rw [if_pos z] at hP
    refine t_isObject hL hg hs (fun c1 a b hs z => ⟨1, rfl, kq1 ?_⟩) (fun c1 a b hs z => ⟨0, rfl, kq0 ?_⟩)
    · rw [if_pos (kObjB_iff.mpr z)] at hP
      refine t_liesPoint hL hg hs z (fun c3 b hs q => ⟨1, rfl, kr1 ?_⟩) (fun c3 b hs q => ⟨0, rfl, kr0 ?_⟩) ⟨a1, b1, a2, b2⟩ (by repeat (first | with_reducible exact kUs | with_reducible assumption | (with_reducible apply kUn; omega) | exact rfl)) (by repeat (first | with_reducible exact kUs | with_reducible assumption | (with_reducible apply kUn; omega) | exact rfl)) (by repeat (first | with_reducible exact kUs | with_reducible assumption | (with_reducible apply kUn; omega) | exact rfl)) f1 f2
      · rw [if_pos q] at hP; exact hP _ _ (s0.rp hs kFr.rf (by intro s p q; repeat (first | exact rfl | refine kUn (by omega) ?_ | exact hk s p q))) rfl
      · rw [if_neg q] at hP; exact hP _ _ (s0.rp hs kFr.rf (by intro s p q; repeat (first | exact rfl | refine kUn (by omega) ?_ | exact hk s p q))) rfl
    · rw [if_neg (fun q => z (kObjB_iff.mp q))] at hP
      exact hP _ _ (s0.rp hs kFr.rf (by intro s p q; repeat (first | exact rfl | refine kUn (by omega) ?_ | exact hk s p q))) rfl
theorem t_areLike (hL : kLay S0) (hs : kPh Φ c0 c) (h1 : ∀ c' a b, kPh (kU (kU Φ 24 a) 25 b) c0 c' → kLk f g = true → P (some (kI 1)) c') (h0 : ∀ c' a b, kPh (kU (kU Φ 24 a) 25 b) c0 c' → ¬ kLk f g = true → P (some (kI 0)) c') (hp : 0 ≤ x1 ∧ x1 < 12 ∧ 0 ≤ x2 ∧ x2 < 12) (e : Φ x1 = f) (e2 : Φ x2 = g) (hf : kB kLB f) (hb : kB kLB g) : kC2 G S0 kM_X11_areLike (d + 3) [kA 558, kI x1, kI x2] c P := by
  refine v_X11_areLike hL (by omega) (by omega) ?_
  refine t_copies hL hs (fun c2 hs => ⟨rfl, ?_⟩)
  refine t_copies hL hs (fun c2 hs => ⟨rfl, ?_⟩)
  refine t_normals hL hs (fun c2 hs => ⟨rfl, ?_⟩)
  refine t_normals hL hs (fun c2 hs => ⟨rfl, ?_⟩)
  have hs2 : kPh (kU (kU Φ 24 (nrmP f)) 25 (nrmP g)) c0 c2 := hs.ex (fun s => by unfold kU; (repeat' split) <;> first | rfl | omega)
  refine t_areSame hL hs (fun q => ⟨1, rfl, ko1 (h1 _ _ _ hs2 (kSameB_iff.mpr q))⟩) (fun q => ⟨0, rfl, ko0 (h0 _ _ _ hs2 (fun z => q (kSameB_iff.mp z)))⟩)
theorem s_X11_like (hL : kLay S0) (r1 : k32 x1) (r2 : k32 x2) (hs : RSt H F c) (h : ∀ c', kRP c c' → P (some (kI (vLike H F x1 x2))) c') : kC2 G S0 kM_X11_like (d + 4) [kA 558, kI x1, kI x2] c P := by
  obtain ⟨Φ, s0, hg, hst, hy, hn, e3, hl⟩ := hs.op
  have hP := kPi h
  unfold vLike at hP
  refine v_X11_like hL r1 r2 ⟨hst, fun z1 => ?_, fun z1 => hP _ _ kRP.rf (by rw [if_neg (hn _ z1)])⟩
  have y1 := hy _ z1
  obtain ⟨a1, b1, e1, f1⟩ := hl _ y1
  rw [if_pos y1] at hP
  refine ⟨fun z2 => ?_, fun z2 => hP _ _ kRP.rf (by rw [if_neg (hn _ z2)])⟩
  have y2 := hy _ z2
  obtain ⟨a2, b2, e2, f2⟩ := hl _ y2
  rw [if_pos y2] at hP
  refine t_isNothing hL s0 (fun z => ⟨1, rfl, kq1 ?_⟩) (fun z => ⟨0, rfl, kq0 ?_⟩)
  · rw [if_pos z] at hP; exact hP _ _ kRP.rf rfl
  · rw [if_neg z] at hP
    refine t_isNothing hL s0 (fun z => ⟨1, rfl, kr1 ?_⟩) (fun z => ⟨0, rfl, kr0 ?_⟩)
    · rw [if_pos z] at hP; exact hP _ _ kRP.rf rfl
    · rw [if_neg z] at hP
      refine t_areLike hL s0 (fun c3 a b hs q => ⟨1, rfl, kr1 ?_⟩) (fun c3 a b hs q => ⟨0, rfl, kr0 ?_⟩) ⟨a1, b1, a2, b2⟩ e1 e2 f1 f2
      · rw [if_pos q] at hP; exact hP _ _ (s0.rp hs kFr.rf (by intro s p q; repeat (first | exact rfl | refine kUn (by omega) ?_ | exact hk s p q))) rfl
      · rw [if_neg q] at hP; exact hP _ _ (s0.rp hs kFr.rf (by intro s p q; repeat (first | exact rfl | refine kUn (by omega) ?_ | exact hk s p q))) rfl
theorem t_meets (hL : kLay S0) (hg : kSgn c0) (hs : kPh Φ c0 c) (h1 : ∀ c', kPh (kU (kU Φ x2 (whlP (-1) g)) x1 (metP f g)) c0 c' → kWb (mulP 1 (whlP (-1) f) (whlP (-1) g)) = true → P (some (kI 1)) c') (h0 : ∀ c', kPh (kU (kU Φ x2 (whlP (-1) g)) x1 (metP f g)) c0 c' → ¬ kWb (mulP 1 (whlP (-1) f) (whlP (-1) g)) = true → P (some (kI 0)) c') (hp : 0 ≤ x1 ∧ x1 < 100 ∧ 0 ≤ x2 ∧ x2 < 100 ∧ x1 ≠ x2) (e : Φ x1 = f) (e2 : Φ x2 = g) (hf : kB kLB f) (hb : kB kLB g) : kC2 G S0 kM_X11_meets (d + 2) [kA 558, kI x1, kI x2] c P := by
  refine v_X11_meets hL (by omega) (by omega) ?_
  refine t_turnsWhole hL hg hs (fun c2 hs => ⟨rfl, ?_⟩)
  refine t_turnsWhole hL hg hs (fun c2 hs => ⟨rfl, ?_⟩)
  refine t_joins hL hg hs (fun c2 hs => ⟨rfl, ?_⟩)
  refine t_isWithin hL hs (fun z => ⟨1, rfl, ?_⟩) (fun z => ⟨0, rfl, ?_⟩)
  · refine t_turnsBack hL hg hs (fun c2 hs => ⟨rfl, ko1 (h1 _ ?_ z)⟩)
    exact hs.ex (fun s => by unfold kU metP; (repeat' split) <;> first | rfl | omega)
  · refine t_turnsBack hL hg hs (fun c2 hs => ⟨rfl, ko0 (h0 _ ?_ z)⟩)
    exact hs.ex (fun s => by unfold kU metP; (repeat' split) <;> first | rfl | omega)
theorem s_X11_product (hL : kLay S0) (r1 : k32 x1) (r2 : k32 x2) (r3 : k32 x3) (r4 : k32 x4) (hs : RSt H F c) (h : ∀ c', kRP c c' → P (some (kL (vProd H F x1 x2 x3 x4))) c') : kC2 G S0 kM_X11_product (d + 3) [kA 558, kI x1, kI x2, kI x3, kI x4] c P := by
  obtain ⟨Φ, s0, hg, hst, hy, hn, e3, hl⟩ := hs.op
  have hP := kPl h
  unfold vProd at hP
  refine v_X11_product hL r1 r2 r3 r4 ⟨fun z0 => ?_, fun z0 => hP _ _ kRP.rf (by rw [if_neg z0])⟩
  rw [if_pos z0] at hP
  refine ⟨hst, fun z1 => ?_, fun z1 => hP _ _ kRP.rf (by rw [if_neg (hn _ z1)])⟩
  have y1 := hy _ z1
  obtain ⟨a1, b1, e1, f1⟩ := hl _ y1
  rw [if_pos y1] at hP
  refine ⟨fun z2 => ?_, fun z2 => hP _ _ kRP.rf (by rw [if_neg (hn _ z2)])⟩
  have y2 := hy _ z2
  obtain ⟨a2, b2, e2, f2⟩ := hl _ y2
  rw [if_pos y2] at hP
  refine ⟨fun z3 => ?_, fun z3 => hP _ _ kRP.rf (by rw [if_neg z3])⟩
  rw [if_pos z3] at hP
  refine t_copies hL s0 (fun c2 hs => ⟨rfl, ?_⟩)
  refine t_copies hL hs (fun c2 hs => ⟨rfl, ?_⟩)
  refine ⟨fun z => ?_, fun z => ?_⟩
  · rw [if_neg z] at hP
    refine t_joins hL hg hs (fun c2 hs => ⟨rfl, ?_⟩)
    exact hP _ _ (s0.rp hs kFr.rf (by intro s p q; repeat (first | exact rfl | refine kUn (by omega) ?_ | exact hk s p q))) (hs.e (s := 24) (by omega) kUs x4 (by omega) (by omega))
  · rw [if_pos z] at hP
    refine t_meets hL hg hs (fun c2 hs _ => ⟨_, rfl, ?_⟩) (fun c2 hs _ => ⟨_, rfl, ?_⟩) (by omega) (by repeat (first | with_reducible exact kUs | with_reducible assumption | (with_reducible apply kUn; omega) | exact rfl)) (by repeat (first | with_reducible exact kUs | with_reducible assumption | (with_reducible apply kUn; omega) | exact rfl)) f1 f2
    · exact hP _ _ (s0.rp hs kFr.rf (by intro s p q; repeat (first | exact rfl | refine kUn (by omega) ?_ | exact hk s p q))) (hs.e (s := 24) (by omega) kUs x4 (by omega) (by omega))
    · exact hP _ _ (s0.rp hs kFr.rf (by intro s p q; repeat (first | exact rfl | refine kUn (by omega) ?_ | exact hk s p q))) (hs.e (s := 24) (by omega) kUs x4 (by omega) (by omega))
theorem s_X11_cosine (hL : kLay S0) (r1 : k32 x1) (r2 : k32 x2) (r3 : k32 x3) (hs : RSt H F c) (h : ∀ c', kRP c c' → P (some (kL (vCos H F x1 x2 x3))) c') : kC2 G S0 kM_X11_cosine (d + 6) [kA 558, kI x1, kI x2, kI x3] c P := by
  obtain ⟨Φ, s0, hg, hst, hy, hn, e3, hl⟩ := hs.op
  have hP := kPl h
  unfold vCos at hP
  refine v_X11_cosine hL r1 r2 r3 ⟨hst, fun z1 => ?_, fun z1 => hP _ _ kRP.rf (by rw [if_neg (hn _ z1)])⟩
  have y1 := hy _ z1
  obtain ⟨a1, b1, e1, f1⟩ := hl _ y1
  rw [if_pos y1] at hP
  refine ⟨fun z2 => ?_, fun z2 => hP _ _ kRP.rf (by rw [if_neg (hn _ z2)])⟩
  have y2 := hy _ z2
  obtain ⟨a2, b2, e2, f2⟩ := hl _ y2
  rw [if_pos y2] at hP
  refine ⟨fun z3 => ?_, fun z3 => hP _ _ kRP.rf (by rw [if_neg z3])⟩
  rw [if_pos z3] at hP
  refine t_isObject hL hg s0 (fun c1 a b hs z => ⟨1, rfl, kr1 ?_⟩) (fun c1 a b hs z => ⟨0, rfl, kr0 ?_⟩)
  · rw [if_pos (kObjB_iff.mpr z)] at hP
    have o1 := z
    refine t_isObject hL hg hs (fun c1 a b hs z => ⟨1, rfl, kq1 ?_⟩) (fun c1 a b hs z => ⟨0, rfl, kq0 ?_⟩)
    · rw [if_pos (kObjB_iff.mpr z)] at hP
      refine t_laysVector hL hg hs o1 (fun c2 hs => ⟨rfl, ?_⟩)
      refine t_laysVector hL hg hs z (fun c2 hs => ⟨rfl, ?_⟩)
      refine t_innerOf hL hg hs (fun c2 b hs => ⟨_, rfl, ?_⟩)
      refine t_squareOf hL hg hs (fun c2 b hs => ⟨_, rfl, ?_⟩)
      refine t_squareOf hL hg hs (fun c2 b hs => ⟨_, rfl, ?_⟩)
      have i1 := mulP_bdL (kd := 2) (vecP_bd f1) (vecP_bd f2) 0 (by omega) (by omega)
      have p1 := mulP_bdL (kd := 0) (vecP_bd f1) (vecP_bd f1) 0 (by omega) (by omega)
      have q1 := mulP_bdL (kd := 0) (vecP_bd f2) (vecP_bd f2) 0 (by omega) (by omega)
      have hrp : kRP c c2 := s0.rp hs kFr.rf (by intro s p q; repeat (first | exact rfl | refine kUn (by omega) ?_ | exact hk s p q))
      revert hP i1 p1 q1
      generalize mulP 2 (vecP (F x1)) (vecP (F x2)) 0 = i
      generalize mulP 0 (vecP (F x1)) (vecP (F x1)) 0 = p
      generalize mulP 0 (vecP (F x2)) (vecP (F x2)) 0 = q
      intro hP i1 p1 q1
      unfold cosN at hP
      refine ⟨k64i (by omega), fun w1 => ?_, fun w1 => ⟨k64i (by omega), fun w2 => ?_, fun w2 => ⟨k64i (by omega), k64i (by omega), fun w3 => ?_, fun w3 => ⟨fun w4 => ?_, fun w4 => ⟨fun w5 => ?_, fun w5 => ?_⟩⟩⟩⟩⟩
      · rw [if_pos w1] at hP; exact hP _ _ hrp rfl
      · rw [if_neg (by omega), if_pos w2] at hP; exact hP _ _ hrp rfl
      · rw [if_neg (by omega), if_neg (by omega), if_pos w3] at hP; exact hP _ _ hrp rfl
      · rw [if_neg (by omega), if_neg (by omega), if_neg (by omega), if_pos w4] at hP; exact hP _ _ hrp rfl
      · rw [if_neg (by omega), if_neg (by omega), if_neg (by omega), if_neg (by omega), if_neg (by omega)] at hP
        have j1 := kmul_bd (a := i) (b := i) (M := 100000000) (N := 100000000) (by omega) (by omega)
        have j3 := kmul_bd (a := -i) (b := i) (M := 100000000) (N := 100000000) (by omega) (by omega)
        have j2 := kmul_bd (a := p) (b := q) (M := 100000000) (N := 100000000) (by omega) (by omega)
        have ee : (100000000 : Int) * 100000000 = 10000000000000000 := by decide
        rw [ee] at j1 j2 j3
        have hpq : p * q ≠ 0 := fun w => by rcases Int.mul_eq_zero.mp w with w | w <;> omega
        refine ⟨fun w6 => ?_, fun w6 => ?_⟩
        · rw [if_neg (by omega)] at hP
          refine s_X11_lowest hL r3 (by unfold k63; omega) (by unfold k63; omega) hpq ⟨_, rfl, hP _ _ hrp rfl⟩
        · rw [if_pos w6] at hP
          refine s_X11_lowest hL r3 (by unfold k63; omega) (by unfold k63; omega) hpq ⟨_, rfl, hP _ _ hrp rfl⟩
      · rw [if_neg (by omega), if_neg (by omega), if_neg (by omega), if_neg (by omega), if_pos w5] at hP; exact hP _ _ hrp rfl
    · rw [if_neg (fun q => z (kObjB_iff.mp q))] at hP
      exact hP _ _ (s0.rp hs kFr.rf (by intro s p q; repeat (first | exact rfl | refine kUn (by omega) ?_ | exact hk s p q))) rfl
  · rw [if_neg (fun q => z (kObjB_iff.mp q))] at hP
    exact hP _ _ (s0.rp hs kFr.rf (by intro s p q; repeat (first | exact rfl | refine kUn (by omega) ?_ | exact hk s p q))) rfl
end MQ5
