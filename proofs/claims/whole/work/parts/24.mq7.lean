/-- the root, from below -/
def krt : Nat → Nat
  | 0 => 0
  | n + 1 => if (krt n + 1) * (krt n + 1) ≤ n + 1 then krt n + 1 else krt n
theorem krt_is : ∀ n, krt n * krt n ≤ n ∧ n < (krt n + 1) * (krt n + 1)
  | 0 => by decide
  | n + 1 => by
    have h := krt_is n
    show (if (krt n + 1) * (krt n + 1) ≤ n + 1 then krt n + 1 else krt n) * (if (krt n + 1) * (krt n + 1) ≤ n + 1 then krt n + 1 else krt n) ≤ n + 1 ∧ n + 1 < ((if (krt n + 1) * (krt n + 1) ≤ n + 1 then krt n + 1 else krt n) + 1) * ((if (krt n + 1) * (krt n + 1) ≤ n + 1 then krt n + 1 else krt n) + 1)
    split
    · refine ⟨by assumption, ?_⟩
      have e : (krt n + 1 + 1) * (krt n + 1 + 1) = (krt n + 1) * (krt n + 1) + 2 * (krt n + 1) + 1 := by rw [Nat.add_mul, Nat.mul_add]; omega
      omega
    · omega
theorem krt_un {n r : Nat} (h1 : r * r ≤ n) (h2 : n < (r + 1) * (r + 1)) : krt n = r := by
  have h := krt_is n
  apply Classical.byContradiction
  intro q
  by_cases w : krt n < r
  · have := Nat.mul_le_mul (show krt n + 1 ≤ r by omega) (show krt n + 1 ≤ r by omega)
    omega
  · have := Nat.mul_le_mul (show r + 1 ≤ krt n by omega) (show r + 1 ≤ krt n by omega)
    omega
def krtI (q : Int) : Int := krt q.toNat
/-- one PART set -/
def kSetF (f : KF) (k v : Int) : KF := fun j => if j = k then v else f j
theorem kSetF_bd {f : KF} {k v M N : Int} (hf : kB M f) (hM : M ≤ N) (hv : -N ≤ v ∧ v ≤ N) : kB N (kSetF f k v) := fun j h0 h1 => by
  unfold kSetF; split
  · exact hv
  · have := hf j h0 h1; omega
/-- the MIDDLE of a form that must be a POINT -/
def ptN (f : KF) (w : Int) : Int := if kWb f = true then (if kind f = 2 then (if w = 0 then mdX f else if w = 1 then mdY f else mdL f) else kOT) else kOT
def pmN (f : KF) (w : Int) : Int := if kWb (mulP 0 f farP) = true then ptN (mulP 0 (mulP 0 f farP) f) w else kOT
def hfN (f : KF) (w : Int) : Int := if 100000000 < ((mulP 0 f f 0).natAbs : Int) then kOT else if 100000000 < ((mulP 0 (mulP 2 farP f) (mulP 2 farP f) 0).natAbs : Int) then kOT else if mulP 0 (mulP 2 farP f) (mulP 2 farP f) 0 = 0 then kOT else klow (mulP 0 f f 0) (mulP 0 (mulP 2 farP f) (mulP 2 farP f) 0) w
def endN (f : KF) (r w : Int) : Int := if kWb (kSetF f 0 (f 0 + r)) = true then (if kWb (mulP 2 farP f) = true then ptN (mulP 0 (kSetF f 0 (f 0 + r)) (mulP 2 farP f)) w else kOT) else kOT
abbrev kNR : Int := -1000000000000000000
def prN (f : KF) (w : Int) : Int := if kind f ≠ 20 ∧ 4 < w then kOT else if w < 3 then pmN f w else if w < 5 then hfN f (w - 3) else if krtI (mulP 0 f f 0) * krtI (mulP 0 f f 0) = mulP 0 f f 0 then (if w < 8 then endN f (krtI (mulP 0 f f 0)) (w - 5) else endN f (-krtI (mulP 0 f f 0)) (w - 8)) else kNR
def vPair (H : Int → Bool) (F : Int → KF) (l w : Int) : Int := if H l = true then (if 0 ≤ w ∧ w ≤ 10 then (if 20 ≤ kind (F l) ∧ kind (F l) ≤ 22 then prN (F l) w else kOT) else kNO) else kNO
def stdN (i p q : Int) : Int := if 100000000 < (i.natAbs : Int) then -4 else if 100000000 < (p.natAbs : Int) then -4 else if 100000000 < (q.natAbs : Int) then -4 else if i * i - p * q < 0 then 0 else if i * i - p * q = 0 then 1 else 2
def vStand (H : Int → Bool) (F : Int → KF) (a b : Int) : Int := if H a = true then (if H b = true then (if kMirB (kind (F a)) = true then (if kMirB (kind (F b)) = true then stdN (mulP 2 (vecP (F a)) (vecP (F b)) 0) (mulP 0 (vecP (F a)) (vecP (F a)) 0) (mulP 0 (vecP (F b)) (vecP (F b)) 0) else -3) else -3) else -1) else -1
def bndP (f g : KF) : KF := nrmP (mulP 1 (nrmP (vecP f)) (nrmP (vecP g)))
def vBundle (H : Int → Bool) (F : Int → KF) (a b e : Int) : Int := if H a = true then (if H b = true then (if H e = true then (if kMirB (kind (F a)) = true then (if kMirB (kind (F b)) = true then (if kMirB (kind (F e)) = true then (if kWb (bndP (F a) (F b)) = true then (if kZb (mulP 1 (bndP (F a) (F b)) (vecP (F e))) = true then 1 else 0) else -4) else -3) else -3) else -3) else -1) else -1) else -1
/-- TURNED by a vector g -/
def trnB (g f : KF) : Bool := kWb (mulP 0 g f) && kWb (mulP 0 (mulP 0 g f) g)
def trnP (g f : KF) : KF := nrmP (mulP 0 (mulP 0 g f) g)
def vTurn (H : Int → Bool) (F : Int → KF) (l m p : Int) : Int := if H l = true then (if H m = true then (if 0 ≤ p ∧ p ≤ 15 then (if kMirB (kind (F m)) = true then (if trnB (vecP (F m)) (F l) = true then trnP (vecP (F m)) (F l) p else -1000000000) else -1000000000) else -1000000000) else -1000000000) else -1000000000
/-- V > X -/
def mirB (f g : KF) : Bool := kWb (mulP 0 f g) && kWb (mulP 0 (mulP 0 f g) (revP f))
def mirP (f g : KF) : KF := mulP 0 (mulP 0 f g) (revP f)
def vBring (H : Int → Bool) (F : Int → KF) (l u v w : Int) : Int := if H l = true then (if -99 ≤ u ∧ u ≤ 99 then (if -99 ≤ v ∧ v ≤ 99 then (if 0 ≤ w ∧ w ≤ 2 then (if kMot (F l) = true then (if mirB (F l) (plcP u v) = true then ptN (mirP (F l) (plcP u v)) w else kOT) else kOT) else kNO) else kNO) else kNO) else kNO
set_option maxRecDepth 4000 in
theorem v_X11_rootOf {G : KG} {S0 : KSh} (hL : kLay S0) {d : Nat} {P : Option AV → KMem → Prop} {c : KMem} {x0 : Int}  (H : kW2 G S0 kM_X11_rootOf d 7 [some (kL x0), none, some (kL 0), none, some (kL 1000000000), none, none, none] [] c P) : kC2 G S0 kM_X11_rootOf d [kL x0] c P := by
  refine k2_met (by decide) rfl (Nat.le_of_ble_eq_true rfl) (l0 := [some (kL x0), none, none, none, none, none, none, none]) rfl ?_
  refine kw_lconst0 dX11_rootOf_0 ?_
  refine kw_lstore_n dX11_rootOf_1 (Nat.le_of_ble_eq_true rfl) ?_
  refine kw_ldc2 dX11_rootOf_2 wk_X11_380 ?_
  refine kw_lstore dX11_rootOf_5 (Nat.le_of_ble_eq_true rfl) ?_
  exact kw_forget (ls' := [some (kL x0), none, some (kL 0), none, some (kL 1000000000), none, none, none]) ⟨Or.inr rfl, ⟨Or.inr rfl, ⟨Or.inr rfl, ⟨Or.inr rfl, ⟨Or.inr rfl, ⟨Or.inr rfl, ⟨Or.inr rfl, ⟨Or.inr rfl, trivial⟩⟩⟩⟩⟩⟩⟩⟩ H
set_option maxRecDepth 4000 in
theorem v_X11_rootOf_7 {G : KG} {S0 : KSh} (hL : kLay S0) {d : Nat} {P : Option AV → KMem → Prop} {c : KMem} {x0 x2 x4 : Int}  (H : (k64 x2) ∧ ((k64 x4) ∧ ((x4 ≤ x2 → (P (some (kL x2)) c)) ∧ (x2 < x4 → ((k64 ((x2 + x4) + 1)) ∧ ((k64 ((Int.tdiv ((x2 + x4) + 1) 2) * (Int.tdiv ((x2 + x4) + 1) 2))) ∧ ((k64 x0) ∧ ((x0 < ((Int.tdiv ((x2 + x4) + 1) 2) * (Int.tdiv ((x2 + x4) + 1) 2)) → (kW2 G S0 kM_X11_rootOf d 7 [some (kL x0), none, some (kL x2), none, some (kL ((Int.tdiv ((x2 + x4) + 1) 2) - 1)), none, none, none] [] c P)) ∧ (((Int.tdiv ((x2 + x4) + 1) 2) * (Int.tdiv ((x2 + x4) + 1) 2)) ≤ x0 → (kW2 G S0 kM_X11_rootOf d 7 [some (kL x0), none, some (kL (Int.tdiv ((x2 + x4) + 1) 2)), none, some (kL x4), none, none, none] [] c P)))))))))) : kW2 G S0 kM_X11_rootOf d 7 [some (kL x0), none, some (kL x2), none, some (kL x4), none, none, none] [] c P := by
  refine kw_lload_n dX11_rootOf_7 rfl ?_
  refine kw_lload dX11_rootOf_8 rfl ?_
  have o1 := H.1
  have H := H.2
  have o2 := H.1
  have H := H.2
  refine kw_lcmp_ge 51 dX11_rootOf_10 dX11_rootOf_11 (by decide) o1 o2 (fun h3 => ?_) (fun h3 => ?_)
  · have H := H.1 h3
    refine kw_lload_n dX11_rootOf_51 rfl ?_
    refine k2_lret dX11_rootOf_52 rfl H
  · have H := H.2 h3
    refine kw_lload_n dX11_rootOf_14 rfl ?_
    refine kw_lload dX11_rootOf_15 rfl ?_
    refine kw_ladd dX11_rootOf_17 ?_
    refine kw_lconst1 dX11_rootOf_18 ?_
    refine kw_ladd dX11_rootOf_19 ?_
    refine kw_ldc2 dX11_rootOf_20 wk_X11_109 ?_
    have o4 := H.1
    have H := H.2
    refine kw_ldiv dX11_rootOf_23 o4 (k64i (by omega)) (by decide) ?_
    refine kw_lstore dX11_rootOf_24 (Nat.le_of_ble_eq_true rfl) ?_
    refine kw_lload dX11_rootOf_26 rfl ?_
    refine kw_lload dX11_rootOf_28 rfl ?_
    refine kw_lmul dX11_rootOf_30 ?_
    refine kw_lload_n dX11_rootOf_31 rfl ?_
    have o5 := H.1
    have H := H.2
    have o6 := H.1
    have H := H.2
    refine kw_lcmp_gt 42 dX11_rootOf_32 dX11_rootOf_33 (by decide) o5 o6 (fun h7 => ?_) (fun h7 => ?_)
    · have H := H.1 h7
      refine kw_lload dX11_rootOf_42 rfl ?_
      refine kw_lconst1 dX11_rootOf_44 ?_
      refine kw_lsub dX11_rootOf_45 ?_
      refine kw_lstore dX11_rootOf_46 (Nat.le_of_ble_eq_true rfl) ?_
      refine kw_goto 7 dX11_rootOf_48 (by decide) ?_
      exact kw_forget (ls' := [some (kL x0), none, some (kL x2), none, some (kL ((Int.tdiv ((x2 + x4) + 1) 2) - 1)), none, none, none]) ⟨Or.inr rfl, ⟨Or.inr rfl, ⟨Or.inr rfl, ⟨Or.inr rfl, ⟨Or.inr rfl, ⟨Or.inr rfl, ⟨Or.inl rfl, ⟨Or.inr rfl, trivial⟩⟩⟩⟩⟩⟩⟩⟩ H
    · have H := H.2 h7
      refine kw_lload dX11_rootOf_36 rfl ?_
      refine kw_lstore_n dX11_rootOf_38 (Nat.le_of_ble_eq_true rfl) ?_
      refine kw_goto 48 dX11_rootOf_39 (by decide) ?_
      refine kw_goto 7 dX11_rootOf_48 (by decide) ?_
      exact kw_forget (ls' := [some (kL x0), none, some (kL (Int.tdiv ((x2 + x4) + 1) 2)), none, some (kL x4), none, none, none]) ⟨Or.inr rfl, ⟨Or.inr rfl, ⟨Or.inr rfl, ⟨Or.inr rfl, ⟨Or.inr rfl, ⟨Or.inr rfl, ⟨Or.inl rfl, ⟨Or.inr rfl, trivial⟩⟩⟩⟩⟩⟩⟩⟩ H
set_option maxRecDepth 4000 in
theorem v_X11_pointAt {G : KG} {S0 : KSh} (hL : kLay S0) {d : Nat} {P : Option AV → KMem → Prop} {c : KMem} {x1 x2 : Int} (r1 : -2147483648 ≤ x1 ∧ x1 < 2147483648) (r2 : -2147483648 ≤ x2 ∧ x2 < 2147483648) (H : kC2 G S0 kM_X11_isWithin (d + 4) [kA 558, kI x1] c (kRI (fun z1 c2 => (k32 z1) ∧ ((z1 = 0 → (P (some (kL (-3000000000000000000))) c2)) ∧ (z1 ≠ 0 → (kC2 G S0 kM_X11_kindOf (d + 4) [kA 558, kI x1] c2 (kRI (fun z5 c6 => (k32 z5) ∧ ((z5 = 2 → (kC2 G S0 kM_X11_findsMiddle (d + 4) [kA 558, kI x1] c6 (kRN (fun c10 => (x2 ≠ 0 → ((x2 ≠ 1 → (P (some (kL (c10 558 33))) c10)) ∧ (x2 = 1 → (P (some (kL (c10 558 32))) c10)))) ∧ (x2 = 0 → (P (some (kL (c10 558 31))) c10)))))) ∧ (z5 ≠ 2 → (P (some (kL (-3000000000000000000))) c6))))))))))) : kC2 G S0 kM_X11_pointAt (d + 5) [kA 558, kI x1, kI x2] c P := by
  refine k2_met (by decide) rfl (Nat.le_of_ble_eq_true rfl) (l0 := [some (kA 558), some (kI x1), some (kI x2)]) rfl ?_
  refine kw_aload_n dX11_pointAt_0 rfl ?_
  refine kw_iload_n dX11_pointAt_1 rfl ?_
  refine k2_callV1I (ci := 9) (N := 38) (T := TX11) rfl (lsh_558 hL) m_X11_isWithin dX11_pointAt_2 wl_X11_168 (Nat.le_of_ble_eq_true rfl) (kC2_mono H (fun r c2 H => ?_))
  obtain ⟨z1, rfl, H⟩ := H
  refine ⟨z1, rfl, ?_⟩
  have o4 := H.1
  have H := H.2
  refine kw_if_eq 17 dX11_pointAt_5 (by decide) o4 (fun h3 => ?_) (fun h3 => ?_)
  · have H := H.1 h3
    refine kw_ldc2 dX11_pointAt_17 wk_X11_332 ?_
    refine k2_lret dX11_pointAt_20 rfl H
  · have H := H.2 h3
    refine kw_aload_n dX11_pointAt_8 rfl ?_
    refine kw_iload_n dX11_pointAt_9 rfl ?_
    refine k2_callV1I (ci := 9) (N := 38) (T := TX11) rfl (lsh_558 hL) m_X11_kindOf dX11_pointAt_10 wl_X11_140 (Nat.le_of_ble_eq_true rfl) (kC2_mono H (fun r c6 H => ?_))
    obtain ⟨z5, rfl, H⟩ := H
    refine ⟨z5, rfl, ?_⟩
    refine kw_iconst dX11_pointAt_13 ?_
    have o8 := H.1
    have H := H.2
    refine kw_icmp_eq 21 dX11_pointAt_14 (by decide) o8 (k32i (by omega)) (fun h7 => ?_) (fun h7 => ?_)
    · have H := H.1 h7
      refine kw_aload_n dX11_pointAt_21 rfl ?_
      refine kw_iload_n dX11_pointAt_22 rfl ?_
      refine k2_callV1N (ci := 9) (N := 38) (T := TX11) rfl (lsh_558 hL) m_X11_findsMiddle dX11_pointAt_23 wl_X11_337 (Nat.le_of_ble_eq_true rfl) (kC2_mono H (fun r c10 H => ?_))
      obtain ⟨rfl, H⟩ := H
      refine ⟨rfl, ?_⟩
      refine kw_iload_n dX11_pointAt_26 rfl ?_
      refine kw_if_ne 37 dX11_pointAt_27 (by decide) (k32i (by omega)) (fun h11 => ?_) (fun h11 => ?_)
      · have H := H.1 h11
        refine kw_iload_n dX11_pointAt_37 rfl ?_
        refine kw_iconst dX11_pointAt_38 ?_
        refine kw_icmp_ne 49 dX11_pointAt_39 (by decide) (k32i (by omega)) (k32i (by omega)) (fun h12 => ?_) (fun h12 => ?_)
        · have H := H.1 h12
          refine kw_aload_n dX11_pointAt_49 rfl ?_
          refine k2_getL fd_X11_33 dX11_pointAt_50 wf_X11_314 (lsh_558 hL) ?_
          refine k2_lret dX11_pointAt_53 rfl H
        · have H := H.2 h12
          refine kw_aload_n dX11_pointAt_42 rfl ?_
          refine k2_getL fd_X11_32 dX11_pointAt_43 wf_X11_311 (lsh_558 hL) ?_
          refine kw_goto 53 dX11_pointAt_46 (by decide) ?_
          refine k2_lret dX11_pointAt_53 rfl H
      · have H := H.2 h11
        refine kw_aload_n dX11_pointAt_30 rfl ?_
        refine k2_getL fd_X11_31 dX11_pointAt_31 wf_X11_307 (lsh_558 hL) ?_
        refine kw_goto 53 dX11_pointAt_34 (by decide) ?_
        refine k2_lret dX11_pointAt_53 rfl H
    · have H := H.2 h7
      refine kw_ldc2 dX11_pointAt_17 wk_X11_332 ?_
      refine k2_lret dX11_pointAt_20 rfl H
set_option maxRecDepth 4000 in
theorem v_X11_pairMiddle {G : KG} {S0 : KSh} (hL : kLay S0) {d : Nat} {P : Option AV → KMem → Prop} {c : KMem} {x1 x2 : Int} (r1 : -2147483648 ≤ x1 ∧ x1 < 2147483648) (r2 : -2147483648 ≤ x2 ∧ x2 < 2147483648) (H : kC2 G S0 kM_X11_joins (d + 5) [kA 558, kI 0, kI x1, kI 30, kI 24] c (kRN (fun c2 => kC2 G S0 kM_X11_isWithin (d + 5) [kA 558, kI 24] c2 (kRI (fun z3 c4 => (k32 z3) ∧ ((z3 ≠ 0 → (kC2 G S0 kM_X11_joins (d + 5) [kA 558, kI 0, kI 24, kI x1, kI 24] c4 (kRN (fun c8 => kC2 G S0 kM_X11_pointAt (d + 5) [kA 558, kI 24, kI x2] c8 (kRL (fun z9 c10 => P (some (kL z9)) c10)))))) ∧ (z3 = 0 → (P (some (kL (-3000000000000000000))) c4)))))))) : kC2 G S0 kM_X11_pairMiddle (d + 6) [kA 558, kI x1, kI x2] c P := by
  refine k2_met (by decide) rfl (Nat.le_of_ble_eq_true rfl) (l0 := [some (kA 558), some (kI x1), some (kI x2)]) rfl ?_
  refine kw_aload_n dX11_pairMiddle_0 rfl ?_
  refine kw_iconst dX11_pairMiddle_1 ?_
  refine kw_iload_n dX11_pairMiddle_2 rfl ?_
  refine kw_bipush dX11_pairMiddle_3 (by decide) ?_
  refine kw_bipush dX11_pairMiddle_5 (by decide) ?_
  refine k2_callV4N (ci := 9) (N := 38) (T := TX11) rfl (lsh_558 hL) m_X11_joins dX11_pairMiddle_7 wl_X11_111 (Nat.le_of_ble_eq_true rfl) (kC2_mono H (fun r c2 H => ?_))
  obtain ⟨rfl, H⟩ := H
  refine ⟨rfl, ?_⟩
  refine kw_aload_n dX11_pairMiddle_10 rfl ?_
  refine kw_bipush dX11_pairMiddle_11 (by decide) ?_
  refine k2_callV1I (ci := 9) (N := 38) (T := TX11) rfl (lsh_558 hL) m_X11_isWithin dX11_pairMiddle_13 wl_X11_168 (Nat.le_of_ble_eq_true rfl) (kC2_mono H (fun r c4 H => ?_))
  obtain ⟨z3, rfl, H⟩ := H
  refine ⟨z3, rfl, ?_⟩
  have o6 := H.1
  have H := H.2
  refine kw_if_ne 23 dX11_pairMiddle_16 (by decide) o6 (fun h5 => ?_) (fun h5 => ?_)
  · have H := H.1 h5
    refine kw_aload_n dX11_pairMiddle_23 rfl ?_
    refine kw_iconst dX11_pairMiddle_24 ?_
    refine kw_bipush dX11_pairMiddle_25 (by decide) ?_
    refine kw_iload_n dX11_pairMiddle_27 rfl ?_
    refine kw_bipush dX11_pairMiddle_28 (by decide) ?_
    refine k2_callV4N (ci := 9) (N := 38) (T := TX11) rfl (lsh_558 hL) m_X11_joins dX11_pairMiddle_30 wl_X11_111 (Nat.le_of_ble_eq_true rfl) (kC2_mono H (fun r c8 H => ?_))
    obtain ⟨rfl, H⟩ := H
    refine ⟨rfl, ?_⟩
    refine kw_aload_n dX11_pairMiddle_33 rfl ?_
    refine kw_bipush dX11_pairMiddle_34 (by decide) ?_
    refine kw_iload_n dX11_pairMiddle_36 rfl ?_
    refine k2_callV2L (ci := 9) (N := 38) (T := TX11) rfl (lsh_558 hL) m_X11_pointAt dX11_pairMiddle_37 wl_X11_382 (Nat.le_of_ble_eq_true rfl) (kC2_mono H (fun r c10 H => ?_))
    obtain ⟨z9, rfl, H⟩ := H
    refine ⟨z9, rfl, ?_⟩
    refine k2_lret dX11_pairMiddle_40 rfl H
  · have H := H.2 h5
    refine kw_ldc2 dX11_pairMiddle_19 wk_X11_332 ?_
    refine k2_lret dX11_pairMiddle_22 rfl H
set_option maxRecDepth 4000 in
theorem v_X11_half {G : KG} {S0 : KSh} (hL : kLay S0) {d : Nat} {P : Option AV → KMem → Prop} {c : KMem} {x1 x2 : Int} (r1 : -2147483648 ≤ x1 ∧ x1 < 2147483648) (r2 : -2147483648 ≤ x2 ∧ x2 < 2147483648) (H : kC2 G S0 kM_X11_squareOf (d + 2) [kA 558, kI x1] c (kRL (fun z1 c2 => kC2 G S0 kM_X11_joins (d + 2) [kA 558, kI 2, kI 30, kI x1, kI 24] c2 (kRN (fun c4 => kC2 G S0 kM_X11_squareOf (d + 2) [kA 558, kI 24] c4 (kRL (fun z5 c6 => (k64 z1) ∧ ((k64 ((Int.natAbs z1 : Nat) : Int)) ∧ ((100000000 < ((Int.natAbs z1 : Nat) : Int) → (P (some (kL (-3000000000000000000))) c6)) ∧ (((Int.natAbs z1 : Nat) : Int) ≤ 100000000 → ((k64 z5) ∧ ((k64 ((Int.natAbs z5 : Nat) : Int)) ∧ ((100000000 < ((Int.natAbs z5 : Nat) : Int) → (P (some (kL (-3000000000000000000))) c6)) ∧ (((Int.natAbs z5 : Nat) : Int) ≤ 100000000 → ((z5 ≠ 0 → (kC2 G S0 kM_X11_lowest (d + 2) [kL z1, kL z5, kI x2] c6 (kRL (fun z14 c15 => P (some (kL z14)) c15)))) ∧ (z5 = 0 → (P (some (kL (-3000000000000000000))) c6))))))))))))))))) : kC2 G S0 kM_X11_half (d + 3) [kA 558, kI x1, kI x2] c P := by
  refine k2_met (by decide) rfl (Nat.le_of_ble_eq_true rfl) (l0 := [some (kA 558), some (kI x1), some (kI x2), none, none, none, none]) rfl ?_
  refine kw_aload_n dX11_half_0 rfl ?_
  refine kw_iload_n dX11_half_1 rfl ?_
  refine k2_callV1L (ci := 9) (N := 38) (T := TX11) rfl (lsh_558 hL) m_X11_squareOf dX11_half_2 wl_X11_119 (Nat.le_of_ble_eq_true rfl) (kC2_mono H (fun r c2 H => ?_))
  obtain ⟨z1, rfl, H⟩ := H
  refine ⟨z1, rfl, ?_⟩
  refine kw_lstore_n dX11_half_5 (Nat.le_of_ble_eq_true rfl) ?_
  refine kw_aload_n dX11_half_6 rfl ?_
  refine kw_iconst dX11_half_7 ?_
  refine kw_bipush dX11_half_8 (by decide) ?_
  refine kw_iload_n dX11_half_10 rfl ?_
  refine kw_bipush dX11_half_11 (by decide) ?_
  refine k2_callV4N (ci := 9) (N := 38) (T := TX11) rfl (lsh_558 hL) m_X11_joins dX11_half_13 wl_X11_111 (Nat.le_of_ble_eq_true rfl) (kC2_mono H (fun r c4 H => ?_))
  obtain ⟨rfl, H⟩ := H
  refine ⟨rfl, ?_⟩
  refine kw_aload_n dX11_half_16 rfl ?_
  refine kw_bipush dX11_half_17 (by decide) ?_
  refine k2_callV1L (ci := 9) (N := 38) (T := TX11) rfl (lsh_558 hL) m_X11_squareOf dX11_half_19 wl_X11_119 (Nat.le_of_ble_eq_true rfl) (kC2_mono H (fun r c6 H => ?_))
  obtain ⟨z5, rfl, H⟩ := H
  refine ⟨z5, rfl, ?_⟩
  refine kw_lstore dX11_half_22 (Nat.le_of_ble_eq_true rfl) ?_
  refine kw_lload_n dX11_half_24 rfl ?_
  have o7 := H.1
  have H := H.2
  refine k2_callS1L m_X11_size dX11_half_25 wl_X11_72 (Nat.le_of_ble_eq_true rfl) (s_X11_size hL o7 ⟨_, rfl, ?_⟩)
  refine kw_ldc2 dX11_half_28 wk_X11_103 ?_
  have o8 := H.1
  have H := H.2
  refine kw_lcmp_gt 54 dX11_half_31 dX11_half_32 (by decide) o8 (k64i (by omega)) (fun h9 => ?_) (fun h9 => ?_)
  · have H := H.1 h9
    refine kw_ldc2 dX11_half_54 wk_X11_332 ?_
    refine k2_lret dX11_half_57 rfl H
  · have H := H.2 h9
    refine kw_lload dX11_half_35 rfl ?_
    have o10 := H.1
    have H := H.2
    refine k2_callS1L m_X11_size dX11_half_37 wl_X11_72 (Nat.le_of_ble_eq_true rfl) (s_X11_size hL o10 ⟨_, rfl, ?_⟩)
    refine kw_ldc2 dX11_half_40 wk_X11_103 ?_
    have o11 := H.1
    have H := H.2
    refine kw_lcmp_gt 54 dX11_half_43 dX11_half_44 (by decide) o11 (k64i (by omega)) (fun h12 => ?_) (fun h12 => ?_)
    · have H := H.1 h12
      refine kw_ldc2 dX11_half_54 wk_X11_332 ?_
      refine k2_lret dX11_half_57 rfl H
    · have H := H.2 h12
      refine kw_lload dX11_half_47 rfl ?_
      refine kw_lconst0 dX11_half_49 ?_
      refine kw_lcmp_ne 58 dX11_half_50 dX11_half_51 (by decide) o10 (k64i (by omega)) (fun h13 => ?_) (fun h13 => ?_)
      · have H := H.1 h13
        refine kw_lload_n dX11_half_58 rfl ?_
        refine kw_lload dX11_half_59 rfl ?_
        refine kw_iload_n dX11_half_61 rfl ?_
        refine k2_callS3L m_X11_lowest dX11_half_62 wl_X11_317 (Nat.le_of_ble_eq_true rfl) (kC2_mono H (fun r c15 H => ?_))
        obtain ⟨z14, rfl, H⟩ := H
        refine ⟨z14, rfl, ?_⟩
        refine k2_lret dX11_half_65 rfl H
      · have H := H.2 h13
        refine kw_ldc2 dX11_half_54 wk_X11_332 ?_
        refine k2_lret dX11_half_57 rfl H
set_option maxRecDepth 4000 in
theorem v_X11_endOf {G : KG} {S0 : KSh} (hL : kLay S0) {d : Nat} {P : Option AV → KMem → Prop} {c : KMem} {x1 x2 x3 : Int} (r1 : -2147483648 ≤ x1 ∧ x1 < 2147483648) (r2 : -2147483648 ≤ x2 ∧ x2 < 2147483648) (r3 : -2147483648 ≤ x3 ∧ x3 < 2147483648) (H : kC2 G S0 kM_X11_squareOf (d + 5) [kA 558, kI x1] c (kRL (fun z1 c2 => kC2 G S0 kM_X11_rootOf (d + 5) [kL z1] c2 (kRL (fun z3 c4 => (k64 (z3 * z3)) ∧ ((k64 z1) ∧ (((z3 * z3) = z1 → (kC2 G S0 kM_X11_copies (d + 5) [kA 558, kI x1, kI 24] c4 (kRN (fun c9 => (x3 = 0 → (kW2 G S0 kM_X11_endOf (d + 6) 63 [some (kA 558), some (kI x1), some (kI x2), none, none, none, none, none] [] (kup c9 559 ((16 * 24) + 0) ((c9 559 ((16 * 24) + 0)) + z3)) P)) ∧ (x3 ≠ 0 → (kW2 G S0 kM_X11_endOf (d + 6) 63 [some (kA 558), some (kI x1), some (kI x2), none, none, none, none, none] [] (kup c9 559 ((16 * 24) + 0) ((c9 559 ((16 * 24) + 0)) + (-z3))) P)))))) ∧ ((z3 * z3) ≠ z1 → (P (some (kL (-1000000000000000000))) c4))))))))) : kC2 G S0 kM_X11_endOf (d + 6) [kA 558, kI x1, kI x2, kI x3] c P := by
  refine k2_met (by decide) rfl (Nat.le_of_ble_eq_true rfl) (l0 := [some (kA 558), some (kI x1), some (kI x2), some (kI x3), none, none, none, none]) rfl ?_
  refine kw_aload_n dX11_endOf_0 rfl ?_
  refine kw_iload_n dX11_endOf_1 rfl ?_
  refine k2_callV1L (ci := 9) (N := 38) (T := TX11) rfl (lsh_558 hL) m_X11_squareOf dX11_endOf_2 wl_X11_119 (Nat.le_of_ble_eq_true rfl) (kC2_mono H (fun r c2 H => ?_))
  obtain ⟨z1, rfl, H⟩ := H
  refine ⟨z1, rfl, ?_⟩
  refine kw_lstore dX11_endOf_5 (Nat.le_of_ble_eq_true rfl) ?_
  refine kw_lload dX11_endOf_7 rfl ?_
  refine k2_callS1L m_X11_rootOf dX11_endOf_9 wl_X11_385 (Nat.le_of_ble_eq_true rfl) (kC2_mono H (fun r c4 H => ?_))
  obtain ⟨z3, rfl, H⟩ := H
  refine ⟨z3, rfl, ?_⟩
  refine kw_lstore dX11_endOf_12 (Nat.le_of_ble_eq_true rfl) ?_
  refine kw_lload dX11_endOf_14 rfl ?_
  refine kw_lload dX11_endOf_16 rfl ?_
  refine kw_lmul dX11_endOf_18 ?_
  refine kw_lload dX11_endOf_19 rfl ?_
  have o5 := H.1
  have H := H.2
  have o6 := H.1
  have H := H.2
  refine kw_lcmp_eq 29 dX11_endOf_21 dX11_endOf_22 (by decide) o5 o6 (fun h7 => ?_) (fun h7 => ?_)
  · have H := H.1 h7
    refine kw_aload_n dX11_endOf_29 rfl ?_
    refine kw_iload_n dX11_endOf_30 rfl ?_
    refine kw_bipush dX11_endOf_31 (by decide) ?_
    refine k2_callV2N (ci := 9) (N := 38) (T := TX11) rfl (lsh_558 hL) m_X11_copies dX11_endOf_33 wl_X11_132 (Nat.le_of_ble_eq_true rfl) (kC2_mono H (fun r c9 H => ?_))
    obtain ⟨rfl, H⟩ := H
    refine ⟨rfl, ?_⟩
    refine kw_aload_n dX11_endOf_36 rfl ?_
    refine kw_bipush dX11_endOf_37 (by decide) ?_
    refine kw_iconst dX11_endOf_39 ?_
    refine kw_aload_n dX11_endOf_40 rfl ?_
    refine kw_bipush dX11_endOf_41 (by decide) ?_
    refine kw_iconst dX11_endOf_43 ?_
    refine k2_callV2L (ci := 9) (N := 38) (T := TX11) rfl (lsh_558 hL) m_X11_at dX11_endOf_44 wl_X11_84 (Nat.le_of_ble_eq_true rfl) (s_X11_at hL (k32i (by omega)) (k32i (by omega)) (by omega) ⟨_, rfl, ?_⟩)
    refine kw_iload_n dX11_endOf_47 rfl ?_
    refine kw_if_eq 57 dX11_endOf_48 (by decide) (k32i (by omega)) (fun h10 => ?_) (fun h10 => ?_)
    · have H := H.1 h10
      refine kw_lload dX11_endOf_57 rfl ?_
      refine kw_ladd dX11_endOf_59 ?_
      refine k2_callV3N (ci := 9) (N := 38) (T := TX11) rfl (lsh_558 hL) m_X11_sets dX11_endOf_60 wl_X11_92 (Nat.le_of_ble_eq_true rfl) (s_X11_sets hL (k32i (by omega)) (k32i (by omega)) (by omega) ⟨rfl, ?_⟩)
      exact kw_forget (ls' := [some (kA 558), some (kI x1), some (kI x2), none, none, none, none, none]) ⟨Or.inr rfl, ⟨Or.inr rfl, ⟨Or.inr rfl, ⟨Or.inl rfl, ⟨Or.inl rfl, ⟨Or.inr rfl, ⟨Or.inl rfl, ⟨Or.inr rfl, trivial⟩⟩⟩⟩⟩⟩⟩⟩ H
    · have H := H.2 h10
      refine kw_lload dX11_endOf_51 rfl ?_
      refine kw_lneg dX11_endOf_53 ?_
      refine kw_goto 59 dX11_endOf_54 (by decide) ?_
      refine kw_ladd dX11_endOf_59 ?_
      refine k2_callV3N (ci := 9) (N := 38) (T := TX11) rfl (lsh_558 hL) m_X11_sets dX11_endOf_60 wl_X11_92 (Nat.le_of_ble_eq_true rfl) (s_X11_sets hL (k32i (by omega)) (k32i (by omega)) (by omega) ⟨rfl, ?_⟩)
      exact kw_forget (ls' := [some (kA 558), some (kI x1), some (kI x2), none, none, none, none, none]) ⟨Or.inr rfl, ⟨Or.inr rfl, ⟨Or.inr rfl, ⟨Or.inl rfl, ⟨Or.inl rfl, ⟨Or.inr rfl, ⟨Or.inl rfl, ⟨Or.inr rfl, trivial⟩⟩⟩⟩⟩⟩⟩⟩ H
  · have H := H.2 h7
    refine kw_ldc2 dX11_endOf_25 wk_X11_388 ?_
    refine k2_lret dX11_endOf_28 rfl H
set_option maxRecDepth 4000 in
theorem v_X11_endOf_63 {G : KG} {S0 : KSh} (hL : kLay S0) {d : Nat} {P : Option AV → KMem → Prop} {c : KMem} {x1 x2 : Int} (r1 : -2147483648 ≤ x1 ∧ x1 < 2147483648) (r2 : -2147483648 ≤ x2 ∧ x2 < 2147483648) (H : kC2 G S0 kM_X11_joins (d + 5) [kA 558, kI 2, kI 30, kI x1, kI 25] c (kRN (fun c12 => kC2 G S0 kM_X11_isWithin (d + 5) [kA 558, kI 24] c12 (kRI (fun z13 c14 => (k32 z13) ∧ ((z13 = 0 → (P (some (kL (-3000000000000000000))) c14)) ∧ (z13 ≠ 0 → (kC2 G S0 kM_X11_isWithin (d + 5) [kA 558, kI 25] c14 (kRI (fun z17 c18 => (k32 z17) ∧ ((z17 ≠ 0 → (kC2 G S0 kM_X11_joins (d + 5) [kA 558, kI 0, kI 24, kI 25, kI 24] c18 (kRN (fun c22 => kC2 G S0 kM_X11_pointAt (d + 5) [kA 558, kI 24, kI x2] c22 (kRL (fun z23 c24 => P (some (kL z23)) c24)))))) ∧ (z17 = 0 → (P (some (kL (-3000000000000000000))) c18))))))))))))) : kW2 G S0 kM_X11_endOf (d + 6) 63 [some (kA 558), some (kI x1), some (kI x2), none, none, none, none, none] [] c P := by
  refine kw_aload_n dX11_endOf_63 rfl ?_
  refine kw_iconst dX11_endOf_64 ?_
  refine kw_bipush dX11_endOf_65 (by decide) ?_
  refine kw_iload_n dX11_endOf_67 rfl ?_
  refine kw_bipush dX11_endOf_68 (by decide) ?_
  refine k2_callV4N (ci := 9) (N := 38) (T := TX11) rfl (lsh_558 hL) m_X11_joins dX11_endOf_70 wl_X11_111 (Nat.le_of_ble_eq_true rfl) (kC2_mono H (fun r c12 H => ?_))
  obtain ⟨rfl, H⟩ := H
  refine ⟨rfl, ?_⟩
  refine kw_aload_n dX11_endOf_73 rfl ?_
  refine kw_bipush dX11_endOf_74 (by decide) ?_
  refine k2_callV1I (ci := 9) (N := 38) (T := TX11) rfl (lsh_558 hL) m_X11_isWithin dX11_endOf_76 wl_X11_168 (Nat.le_of_ble_eq_true rfl) (kC2_mono H (fun r c14 H => ?_))
  obtain ⟨z13, rfl, H⟩ := H
  refine ⟨z13, rfl, ?_⟩
  have o16 := H.1
  have H := H.2
  refine kw_if_eq 91 dX11_endOf_79 (by decide) o16 (fun h15 => ?_) (fun h15 => ?_)
  · have H := H.1 h15
    refine kw_ldc2 dX11_endOf_91 wk_X11_332 ?_
    refine k2_lret dX11_endOf_94 rfl H
  · have H := H.2 h15
    refine kw_aload_n dX11_endOf_82 rfl ?_
    refine kw_bipush dX11_endOf_83 (by decide) ?_
    refine k2_callV1I (ci := 9) (N := 38) (T := TX11) rfl (lsh_558 hL) m_X11_isWithin dX11_endOf_85 wl_X11_168 (Nat.le_of_ble_eq_true rfl) (kC2_mono H (fun r c18 H => ?_))
    obtain ⟨z17, rfl, H⟩ := H
    refine ⟨z17, rfl, ?_⟩
    have o20 := H.1
    have H := H.2
    refine kw_if_ne 95 dX11_endOf_88 (by decide) o20 (fun h19 => ?_) (fun h19 => ?_)
    · have H := H.1 h19
      refine kw_aload_n dX11_endOf_95 rfl ?_
      refine kw_iconst dX11_endOf_96 ?_
      refine kw_bipush dX11_endOf_97 (by decide) ?_
      refine kw_bipush dX11_endOf_99 (by decide) ?_
      refine kw_bipush dX11_endOf_101 (by decide) ?_
      refine k2_callV4N (ci := 9) (N := 38) (T := TX11) rfl (lsh_558 hL) m_X11_joins dX11_endOf_103 wl_X11_111 (Nat.le_of_ble_eq_true rfl) (kC2_mono H (fun r c22 H => ?_))
      obtain ⟨rfl, H⟩ := H
      refine ⟨rfl, ?_⟩
      refine kw_aload_n dX11_endOf_106 rfl ?_
      refine kw_bipush dX11_endOf_107 (by decide) ?_
      refine kw_iload_n dX11_endOf_109 rfl ?_
      refine k2_callV2L (ci := 9) (N := 38) (T := TX11) rfl (lsh_558 hL) m_X11_pointAt dX11_endOf_110 wl_X11_382 (Nat.le_of_ble_eq_true rfl) (kC2_mono H (fun r c24 H => ?_))
      obtain ⟨z23, rfl, H⟩ := H
      refine ⟨z23, rfl, ?_⟩
      refine k2_lret dX11_endOf_113 rfl H
    · have H := H.2 h19
      refine kw_ldc2 dX11_endOf_91 wk_X11_332 ?_
      refine k2_lret dX11_endOf_94 rfl H
set_option maxRecDepth 4000 in
theorem v_X11_pair {G : KG} {S0 : KSh} (hL : kLay S0) {d : Nat} {P : Option AV → KMem → Prop} {c : KMem} {x1 x2 : Int} (r1 : -2147483648 ≤ x1 ∧ x1 < 2147483648) (r2 : -2147483648 ≤ x2 ∧ x2 < 2147483648) (H : (kStd c) ∧ (((kHas c x1) → (((0 ≤ x2 ∧ x2 ≤ 10) → (kC2 G S0 kM_X11_kindOf (d + 6) [kA 558, kI x1] c (kRI (fun z6 c7 => (k32 z6) ∧ (((20 ≤ z6 ∧ z6 ≤ 22) → ((z6 = 20 → (kW2 G S0 kM_X11_pair (d + 7) 50 [some (kA 558), some (kI x1), some (kI x2), none] [] c7 P)) ∧ (z6 ≠ 20 → ((x2 ≤ 4 → (kW2 G S0 kM_X11_pair (d + 7) 50 [some (kA 558), some (kI x1), some (kI x2), none] [] c7 P)) ∧ (4 < x2 → (P (some (kL (-3000000000000000000))) c7)))))) ∧ (¬ (20 ≤ z6 ∧ z6 ≤ 22) → (P (some (kL (-3000000000000000000))) c7))))))) ∧ (¬ (0 ≤ x2 ∧ x2 ≤ 10) → (P (some (kL (-2000000000000000000))) c)))) ∧ (¬ (kHas c x1) → (P (some (kL (-2000000000000000000))) c)))) : kC2 G S0 kM_X11_pair (d + 7) [kA 558, kI x1, kI x2] c P := by
  refine k2_met (by decide) rfl (Nat.le_of_ble_eq_true rfl) (l0 := [some (kA 558), some (kI x1), some (kI x2), none]) rfl ?_
  refine kw_aload_n dX11_pair_0 rfl ?_
  refine kw_iload_n dX11_pair_1 rfl ?_
  have o1 := H.1
  have H := H.2
  refine k2_callV1I (ci := 9) (N := 38) (T := TX11) rfl (lsh_558 hL) m_X11_isLetter dX11_pair_2 wl_X11_161 (Nat.le_of_ble_eq_true rfl) (s_X11_isLetter hL (k32i (by omega)) o1 (fun h2 => ⟨_, rfl, ?_⟩) (fun h2 => ⟨_, rfl, ?_⟩))
  · have H := H.1 h2
    refine kw_if_eq 18 dX11_pair_5 (by decide) (k32i (by omega)) (fun h3 => absurd h3 (by decide)) (fun _ => ?_)
    refine kw_iload_n dX11_pair_8 rfl ?_
    refine kw_iconst dX11_pair_9 ?_
    refine kw_bipush dX11_pair_10 (by decide) ?_
    refine k2_callS3I m_X11_in dX11_pair_12 wl_X11_100 (Nat.le_of_ble_eq_true rfl) (s_X11_in hL (k32i (by omega)) (k32i (by omega)) (k32i (by omega)) (fun h4 => ⟨_, rfl, ?_⟩) (fun h4 => ⟨_, rfl, ?_⟩))
    · have H := H.1 h4
      refine kw_if_ne 22 dX11_pair_15 (by decide) (k32i (by omega)) (fun _ => ?_) (fun h5 => absurd h5 (by decide))
      refine kw_aload_n dX11_pair_22 rfl ?_
      refine kw_iload_n dX11_pair_23 rfl ?_
      refine k2_callV1I (ci := 9) (N := 38) (T := TX11) rfl (lsh_558 hL) m_X11_kindOf dX11_pair_24 wl_X11_140 (Nat.le_of_ble_eq_true rfl) (kC2_mono H (fun r c7 H => ?_))
      obtain ⟨z6, rfl, H⟩ := H
      refine ⟨z6, rfl, ?_⟩
      refine kw_istore_n dX11_pair_27 (Nat.le_of_ble_eq_true rfl) ?_
      refine kw_iload_n dX11_pair_28 rfl ?_
      have o8 := H.1
      have H := H.2
      refine k2_callS1I m_X11_isPairKind dX11_pair_29 wl_X11_340 (Nat.le_of_ble_eq_true rfl) (s_X11_isPairKind hL o8 (fun h9 => ⟨_, rfl, ?_⟩) (fun h9 => ⟨_, rfl, ?_⟩))
      · have H := H.1 h9
        refine kw_if_eq 46 dX11_pair_32 (by decide) (k32i (by omega)) (fun h10 => absurd h10 (by decide)) (fun _ => ?_)
        refine kw_iload_n dX11_pair_35 rfl ?_
        refine kw_bipush dX11_pair_36 (by decide) ?_
        refine kw_icmp_eq 50 dX11_pair_38 (by decide) o8 (k32i (by omega)) (fun h11 => ?_) (fun h11 => ?_)
        · have H := H.1 h11
          exact kw_forget (ls' := [some (kA 558), some (kI x1), some (kI x2), none]) ⟨Or.inr rfl, ⟨Or.inr rfl, ⟨Or.inr rfl, ⟨Or.inl rfl, trivial⟩⟩⟩⟩ H
        · have H := H.2 h11
          refine kw_iload_n dX11_pair_41 rfl ?_
          refine kw_iconst dX11_pair_42 ?_
          refine kw_icmp_le 50 dX11_pair_43 (by decide) (k32i (by omega)) (k32i (by omega)) (fun h12 => ?_) (fun h12 => ?_)
          · have H := H.1 h12
            exact kw_forget (ls' := [some (kA 558), some (kI x1), some (kI x2), none]) ⟨Or.inr rfl, ⟨Or.inr rfl, ⟨Or.inr rfl, ⟨Or.inl rfl, trivial⟩⟩⟩⟩ H
          · have H := H.2 h12
            refine kw_ldc2 dX11_pair_46 wk_X11_332 ?_
            refine k2_lret dX11_pair_49 rfl H
      · have H := H.2 h9
        refine kw_if_eq 46 dX11_pair_32 (by decide) (k32i (by omega)) (fun _ => ?_) (fun h13 => absurd h13 (by decide))
        refine kw_ldc2 dX11_pair_46 wk_X11_332 ?_
        refine k2_lret dX11_pair_49 rfl H
    · have H := H.2 h4
      refine kw_if_ne 22 dX11_pair_15 (by decide) (k32i (by omega)) (fun h14 => absurd h14 (by decide)) (fun _ => ?_)
      refine kw_ldc2 dX11_pair_18 wk_X11_327 ?_
      refine k2_lret dX11_pair_21 rfl H
  · have H := H.2 h2
    refine kw_if_eq 18 dX11_pair_5 (by decide) (k32i (by omega)) (fun _ => ?_) (fun h15 => absurd h15 (by decide))
    refine kw_ldc2 dX11_pair_18 wk_X11_327 ?_
    refine k2_lret dX11_pair_21 rfl H
set_option maxRecDepth 4000 in
theorem v_X11_pair_50 {G : KG} {S0 : KSh} (hL : kLay S0) {d : Nat} {P : Option AV → KMem → Prop} {c : KMem} {x1 x2 : Int} (r1 : -2147483648 ≤ x1 ∧ x1 < 2147483648) (r2 : -2147483648 ≤ x2 ∧ x2 < 2147483648) (H : (3 ≤ x2 → ((5 ≤ x2 → ((8 ≤ x2 → (kC2 G S0 kM_X11_endOf (d + 6) [kA 558, kI x1, kI (x2 - 8), kI 1] c (kRL (fun z19 c20 => P (some (kL z19)) c20)))) ∧ (x2 < 8 → (kC2 G S0 kM_X11_endOf (d + 6) [kA 558, kI x1, kI (x2 - 5), kI 0] c (kRL (fun z21 c22 => P (some (kL z21)) c22)))))) ∧ (x2 < 5 → (kC2 G S0 kM_X11_half (d + 6) [kA 558, kI x1, kI (x2 - 3)] c (kRL (fun z23 c24 => P (some (kL z23)) c24)))))) ∧ (x2 < 3 → (kC2 G S0 kM_X11_pairMiddle (d + 6) [kA 558, kI x1, kI x2] c (kRL (fun z25 c26 => P (some (kL z25)) c26))))) : kW2 G S0 kM_X11_pair (d + 7) 50 [some (kA 558), some (kI x1), some (kI x2), none] [] c P := by
  refine kw_iload_n dX11_pair_50 rfl ?_
  refine kw_iconst dX11_pair_51 ?_
  refine kw_icmp_ge 62 dX11_pair_52 (by decide) (k32i (by omega)) (k32i (by omega)) (fun h16 => ?_) (fun h16 => ?_)
  · have H := H.1 h16
    refine kw_iload_n dX11_pair_62 rfl ?_
    refine kw_iconst dX11_pair_63 ?_
    refine kw_icmp_ge 76 dX11_pair_64 (by decide) (k32i (by omega)) (k32i (by omega)) (fun h17 => ?_) (fun h17 => ?_)
    · have H := H.1 h17
      refine kw_iload_n dX11_pair_76 rfl ?_
      refine kw_bipush dX11_pair_77 (by decide) ?_
      refine kw_icmp_ge 94 dX11_pair_79 (by decide) (k32i (by omega)) (k32i (by omega)) (fun h18 => ?_) (fun h18 => ?_)
      · have H := H.1 h18
        refine kw_aload_n dX11_pair_94 rfl ?_
        refine kw_iload_n dX11_pair_95 rfl ?_
        refine kw_iload_n dX11_pair_96 rfl ?_
        refine kw_bipush dX11_pair_97 (by decide) ?_
        refine kw_isub dX11_pair_99 ?_
        refine kw_iconst dX11_pair_100 ?_
        refine k2_callV3L (ci := 9) (N := 38) (T := TX11) rfl (lsh_558 hL) m_X11_endOf dX11_pair_101 wl_X11_396 (Nat.le_of_ble_eq_true rfl) (kC2_mono H (fun r c20 H => ?_))
        obtain ⟨z19, rfl, H⟩ := H
        refine ⟨z19, rfl, ?_⟩
        refine k2_lret dX11_pair_104 rfl H
      · have H := H.2 h18
        refine kw_aload_n dX11_pair_82 rfl ?_
        refine kw_iload_n dX11_pair_83 rfl ?_
        refine kw_iload_n dX11_pair_84 rfl ?_
        refine kw_iconst dX11_pair_85 ?_
        refine kw_isub dX11_pair_86 ?_
        refine kw_iconst dX11_pair_87 ?_
        refine k2_callV3L (ci := 9) (N := 38) (T := TX11) rfl (lsh_558 hL) m_X11_endOf dX11_pair_88 wl_X11_396 (Nat.le_of_ble_eq_true rfl) (kC2_mono H (fun r c22 H => ?_))
        obtain ⟨z21, rfl, H⟩ := H
        refine ⟨z21, rfl, ?_⟩
        refine kw_goto 104 dX11_pair_91 (by decide) ?_
        refine k2_lret dX11_pair_104 rfl H
    · have H := H.2 h17
      refine kw_aload_n dX11_pair_67 rfl ?_
      refine kw_iload_n dX11_pair_68 rfl ?_
      refine kw_iload_n dX11_pair_69 rfl ?_
      refine kw_iconst dX11_pair_70 ?_
      refine kw_isub dX11_pair_71 ?_
      refine k2_callV2L (ci := 9) (N := 38) (T := TX11) rfl (lsh_558 hL) m_X11_half dX11_pair_72 wl_X11_393 (Nat.le_of_ble_eq_true rfl) (kC2_mono H (fun r c24 H => ?_))
      obtain ⟨z23, rfl, H⟩ := H
      refine ⟨z23, rfl, ?_⟩
      refine k2_lret dX11_pair_75 rfl H
  · have H := H.2 h16
    refine kw_aload_n dX11_pair_55 rfl ?_
    refine kw_iload_n dX11_pair_56 rfl ?_
    refine kw_iload_n dX11_pair_57 rfl ?_
    refine k2_callV2L (ci := 9) (N := 38) (T := TX11) rfl (lsh_558 hL) m_X11_pairMiddle dX11_pair_58 wl_X11_390 (Nat.le_of_ble_eq_true rfl) (kC2_mono H (fun r c26 H => ?_))
    obtain ⟨z25, rfl, H⟩ := H
    refine ⟨z25, rfl, ?_⟩
    refine k2_lret dX11_pair_61 rfl H
set_option maxRecDepth 4000 in
theorem v_X11_stand {G : KG} {S0 : KSh} (hL : kLay S0) {d : Nat} {P : Option AV → KMem → Prop} {c : KMem} {x1 x2 : Int} (r1 : -2147483648 ≤ x1 ∧ x1 < 2147483648) (r2 : -2147483648 ≤ x2 ∧ x2 < 2147483648) (H : (kStd c) ∧ (((kHas c x1) → (((kHas c x2) → (kC2 G S0 kM_X11_isMirror (d + 5) [kA 558, kI x1] c (kRI (fun z6 c7 => (k32 z6) ∧ ((z6 = 0 → (P (some (kI (-3))) c7)) ∧ (z6 ≠ 0 → (kC2 G S0 kM_X11_isMirror (d + 5) [kA 558, kI x2] c7 (kRI (fun z10 c11 => (k32 z10) ∧ ((z10 ≠ 0 → (kC2 G S0 kM_X11_laysVector (d + 5) [kA 558, kI x1, kI 24] c11 (kRN (fun c15 => kC2 G S0 kM_X11_laysVector (d + 5) [kA 558, kI x2, kI 25] c15 (kRN (fun c17 => kC2 G S0 kM_X11_innerOf (d + 5) [kA 558, kI 24, kI 25] c17 (kRL (fun z18 c19 => kC2 G S0 kM_X11_squareOf (d + 5) [kA 558, kI 24] c19 (kRL (fun z20 c21 => kC2 G S0 kM_X11_squareOf (d + 5) [kA 558, kI 25] c21 (kRL (fun z22 c23 => (k64 z18) ∧ ((k64 ((Int.natAbs z18 : Nat) : Int)) ∧ ((100000000 < ((Int.natAbs z18 : Nat) : Int) → (P (some (kI (-4))) c23)) ∧ (((Int.natAbs z18 : Nat) : Int) ≤ 100000000 → ((k64 z20) ∧ ((k64 ((Int.natAbs z20 : Nat) : Int)) ∧ ((100000000 < ((Int.natAbs z20 : Nat) : Int) → (P (some (kI (-4))) c23)) ∧ (((Int.natAbs z20 : Nat) : Int) ≤ 100000000 → ((k64 z22) ∧ ((k64 ((Int.natAbs z22 : Nat) : Int)) ∧ ((((Int.natAbs z22 : Nat) : Int) ≤ 100000000 → ((k64 ((z18 * z18) - (z20 * z22))) ∧ ((0 ≤ ((z18 * z18) - (z20 * z22)) → ((((z18 * z18) - (z20 * z22)) ≠ 0 → (P (some (kI 2)) c23)) ∧ (((z18 * z18) - (z20 * z22)) = 0 → (P (some (kI 1)) c23)))) ∧ (((z18 * z18) - (z20 * z22)) < 0 → (P (some (kI 0)) c23))))) ∧ (100000000 < ((Int.natAbs z22 : Nat) : Int) → (P (some (kI (-4))) c23)))))))))))))))))))))))) ∧ (z10 = 0 → (P (some (kI (-3))) c11)))))))))))) ∧ (¬ (kHas c x2) → (P (some (kI (-1))) c)))) ∧ (¬ (kHas c x1) → (P (some (kI (-1))) c)))) : kC2 G S0 kM_X11_stand (d + 6) [kA 558, kI x1, kI x2] c P := by
  refine k2_met (by decide) rfl (Nat.le_of_ble_eq_true rfl) (l0 := [some (kA 558), some (kI x1), some (kI x2), none, none, none, none, none, none, none, none]) rfl ?_
  refine kw_aload_n dX11_stand_0 rfl ?_
  refine kw_iload_n dX11_stand_1 rfl ?_
  have o1 := H.1
  have H := H.2
  refine k2_callV1I (ci := 9) (N := 38) (T := TX11) rfl (lsh_558 hL) m_X11_isLetter dX11_stand_2 wl_X11_161 (Nat.le_of_ble_eq_true rfl) (s_X11_isLetter hL (k32i (by omega)) o1 (fun h2 => ⟨_, rfl, ?_⟩) (fun h2 => ⟨_, rfl, ?_⟩))
  · have H := H.1 h2
    refine kw_if_eq 16 dX11_stand_5 (by decide) (k32i (by omega)) (fun h3 => absurd h3 (by decide)) (fun _ => ?_)
    refine kw_aload_n dX11_stand_8 rfl ?_
    refine kw_iload_n dX11_stand_9 rfl ?_
    refine k2_callV1I (ci := 9) (N := 38) (T := TX11) rfl (lsh_558 hL) m_X11_isLetter dX11_stand_10 wl_X11_161 (Nat.le_of_ble_eq_true rfl) (s_X11_isLetter hL (k32i (by omega)) o1 (fun h4 => ⟨_, rfl, ?_⟩) (fun h4 => ⟨_, rfl, ?_⟩))
    · have H := H.1 h4
      refine kw_if_ne 18 dX11_stand_13 (by decide) (k32i (by omega)) (fun _ => ?_) (fun h5 => absurd h5 (by decide))
      refine kw_aload_n dX11_stand_18 rfl ?_
      refine kw_iload_n dX11_stand_19 rfl ?_
      refine k2_callV1I (ci := 9) (N := 38) (T := TX11) rfl (lsh_558 hL) m_X11_isMirror dX11_stand_20 wl_X11_400 (Nat.le_of_ble_eq_true rfl) (kC2_mono H (fun r c7 H => ?_))
      obtain ⟨z6, rfl, H⟩ := H
      refine ⟨z6, rfl, ?_⟩
      have o9 := H.1
      have H := H.2
      refine kw_if_eq 34 dX11_stand_23 (by decide) o9 (fun h8 => ?_) (fun h8 => ?_)
      · have H := H.1 h8
        refine kw_bipush dX11_stand_34 (by decide) ?_
        refine k2_iret dX11_stand_36 rfl H
      · have H := H.2 h8
        refine kw_aload_n dX11_stand_26 rfl ?_
        refine kw_iload_n dX11_stand_27 rfl ?_
        refine k2_callV1I (ci := 9) (N := 38) (T := TX11) rfl (lsh_558 hL) m_X11_isMirror dX11_stand_28 wl_X11_400 (Nat.le_of_ble_eq_true rfl) (kC2_mono H (fun r c11 H => ?_))
        obtain ⟨z10, rfl, H⟩ := H
        refine ⟨z10, rfl, ?_⟩
        have o13 := H.1
        have H := H.2
        refine kw_if_ne 37 dX11_stand_31 (by decide) o13 (fun h12 => ?_) (fun h12 => ?_)
        · have H := H.1 h12
          refine kw_aload_n dX11_stand_37 rfl ?_
          refine kw_iload_n dX11_stand_38 rfl ?_
          refine kw_bipush dX11_stand_39 (by decide) ?_
          refine k2_callV2N (ci := 9) (N := 38) (T := TX11) rfl (lsh_558 hL) m_X11_laysVector dX11_stand_41 wl_X11_334 (Nat.le_of_ble_eq_true rfl) (kC2_mono H (fun r c15 H => ?_))
          obtain ⟨rfl, H⟩ := H
          refine ⟨rfl, ?_⟩
          refine kw_aload_n dX11_stand_44 rfl ?_
          refine kw_iload_n dX11_stand_45 rfl ?_
          refine kw_bipush dX11_stand_46 (by decide) ?_
          refine k2_callV2N (ci := 9) (N := 38) (T := TX11) rfl (lsh_558 hL) m_X11_laysVector dX11_stand_48 wl_X11_334 (Nat.le_of_ble_eq_true rfl) (kC2_mono H (fun r c17 H => ?_))
          obtain ⟨rfl, H⟩ := H
          refine ⟨rfl, ?_⟩
          refine kw_aload_n dX11_stand_51 rfl ?_
          refine kw_bipush dX11_stand_52 (by decide) ?_
          refine kw_bipush dX11_stand_54 (by decide) ?_
          refine k2_callV2L (ci := 9) (N := 38) (T := TX11) rfl (lsh_558 hL) m_X11_innerOf dX11_stand_56 wl_X11_343 (Nat.le_of_ble_eq_true rfl) (kC2_mono H (fun r c19 H => ?_))
          obtain ⟨z18, rfl, H⟩ := H
          refine ⟨z18, rfl, ?_⟩
          refine kw_lstore_n dX11_stand_59 (Nat.le_of_ble_eq_true rfl) ?_
          refine kw_aload_n dX11_stand_60 rfl ?_
          refine kw_bipush dX11_stand_61 (by decide) ?_
          refine k2_callV1L (ci := 9) (N := 38) (T := TX11) rfl (lsh_558 hL) m_X11_squareOf dX11_stand_63 wl_X11_119 (Nat.le_of_ble_eq_true rfl) (kC2_mono H (fun r c21 H => ?_))
          obtain ⟨z20, rfl, H⟩ := H
          refine ⟨z20, rfl, ?_⟩
          refine kw_lstore dX11_stand_66 (Nat.le_of_ble_eq_true rfl) ?_
          refine kw_aload_n dX11_stand_68 rfl ?_
          refine kw_bipush dX11_stand_69 (by decide) ?_
          refine k2_callV1L (ci := 9) (N := 38) (T := TX11) rfl (lsh_558 hL) m_X11_squareOf dX11_stand_71 wl_X11_119 (Nat.le_of_ble_eq_true rfl) (kC2_mono H (fun r c23 H => ?_))
          obtain ⟨z22, rfl, H⟩ := H
          refine ⟨z22, rfl, ?_⟩
          refine kw_lstore dX11_stand_74 (Nat.le_of_ble_eq_true rfl) ?_
          refine kw_lload_n dX11_stand_76 rfl ?_
          have o24 := H.1
          have H := H.2
          refine k2_callS1L m_X11_size dX11_stand_77 wl_X11_72 (Nat.le_of_ble_eq_true rfl) (s_X11_size hL o24 ⟨_, rfl, ?_⟩)
          refine kw_ldc2 dX11_stand_80 wk_X11_103 ?_
          have o25 := H.1
          have H := H.2
          refine kw_lcmp_gt 111 dX11_stand_83 dX11_stand_84 (by decide) o25 (k64i (by omega)) (fun h26 => ?_) (fun h26 => ?_)
          · have H := H.1 h26
            refine kw_bipush dX11_stand_111 (by decide) ?_
            refine k2_iret dX11_stand_113 rfl H
          · have H := H.2 h26
            refine kw_lload dX11_stand_87 rfl ?_
            have o27 := H.1
            have H := H.2
            refine k2_callS1L m_X11_size dX11_stand_89 wl_X11_72 (Nat.le_of_ble_eq_true rfl) (s_X11_size hL o27 ⟨_, rfl, ?_⟩)
            refine kw_ldc2 dX11_stand_92 wk_X11_103 ?_
            have o28 := H.1
            have H := H.2
            refine kw_lcmp_gt 111 dX11_stand_95 dX11_stand_96 (by decide) o28 (k64i (by omega)) (fun h29 => ?_) (fun h29 => ?_)
            · have H := H.1 h29
              refine kw_bipush dX11_stand_111 (by decide) ?_
              refine k2_iret dX11_stand_113 rfl H
            · have H := H.2 h29
              refine kw_lload dX11_stand_99 rfl ?_
              have o30 := H.1
              have H := H.2
              refine k2_callS1L m_X11_size dX11_stand_101 wl_X11_72 (Nat.le_of_ble_eq_true rfl) (s_X11_size hL o30 ⟨_, rfl, ?_⟩)
              refine kw_ldc2 dX11_stand_104 wk_X11_103 ?_
              have o31 := H.1
              have H := H.2
              refine kw_lcmp_le 114 dX11_stand_107 dX11_stand_108 (by decide) o31 (k64i (by omega)) (fun h32 => ?_) (fun h32 => ?_)
              · have H := H.1 h32
                refine kw_lload_n dX11_stand_114 rfl ?_
                refine kw_lload_n dX11_stand_115 rfl ?_
                refine kw_lmul dX11_stand_116 ?_
                refine kw_lload dX11_stand_117 rfl ?_
                refine kw_lload dX11_stand_119 rfl ?_
                refine kw_lmul dX11_stand_121 ?_
                refine kw_lsub dX11_stand_122 ?_
                refine kw_lstore dX11_stand_123 (Nat.le_of_ble_eq_true rfl) ?_
                refine kw_lload dX11_stand_125 rfl ?_
                refine kw_lconst0 dX11_stand_127 ?_
                have o33 := H.1
                have H := H.2
                refine kw_lcmp_ge 136 dX11_stand_128 dX11_stand_129 (by decide) o33 (k64i (by omega)) (fun h34 => ?_) (fun h34 => ?_)
                · have H := H.1 h34
                  refine kw_lload dX11_stand_136 rfl ?_
                  refine kw_lconst0 dX11_stand_138 ?_
                  refine kw_lcmp_ne 147 dX11_stand_139 dX11_stand_140 (by decide) o33 (k64i (by omega)) (fun h35 => ?_) (fun h35 => ?_)
                  · have H := H.1 h35
                    refine kw_iconst dX11_stand_147 ?_
                    refine k2_iret dX11_stand_148 rfl H
                  · have H := H.2 h35
                    refine kw_iconst dX11_stand_143 ?_
                    refine kw_goto 148 dX11_stand_144 (by decide) ?_
                    refine k2_iret dX11_stand_148 rfl H
                · have H := H.2 h34
                  refine kw_iconst dX11_stand_132 ?_
                  refine kw_goto 148 dX11_stand_133 (by decide) ?_
                  refine k2_iret dX11_stand_148 rfl H
              · have H := H.2 h32
                refine kw_bipush dX11_stand_111 (by decide) ?_
                refine k2_iret dX11_stand_113 rfl H
        · have H := H.2 h12
          refine kw_bipush dX11_stand_34 (by decide) ?_
          refine k2_iret dX11_stand_36 rfl H
    · have H := H.2 h4
      refine kw_if_ne 18 dX11_stand_13 (by decide) (k32i (by omega)) (fun h36 => absurd h36 (by decide)) (fun _ => ?_)
      refine kw_iconst dX11_stand_16 ?_
      refine k2_iret dX11_stand_17 rfl H
  · have H := H.2 h2
    refine kw_if_eq 16 dX11_stand_5 (by decide) (k32i (by omega)) (fun _ => ?_) (fun h37 => absurd h37 (by decide))
    refine kw_iconst dX11_stand_16 ?_
    refine k2_iret dX11_stand_17 rfl H
set_option maxRecDepth 4000 in
theorem v_X11_bundle {G : KG} {S0 : KSh} (hL : kLay S0) {d : Nat} {P : Option AV → KMem → Prop} {c : KMem} {x1 x2 x3 : Int} (r1 : -2147483648 ≤ x1 ∧ x1 < 2147483648) (r2 : -2147483648 ≤ x2 ∧ x2 < 2147483648) (r3 : -2147483648 ≤ x3 ∧ x3 < 2147483648) (H : (kStd c) ∧ (((kHas c x1) → (((kHas c x2) → (((kHas c x3) → (kC2 G S0 kM_X11_isMirror (d + 5) [kA 558, kI x1] c (kRI (fun z8 c9 => (k32 z8) ∧ ((z8 = 0 → (P (some (kI (-3))) c9)) ∧ (z8 ≠ 0 → (kC2 G S0 kM_X11_isMirror (d + 5) [kA 558, kI x2] c9 (kRI (fun z12 c13 => (k32 z12) ∧ ((z12 = 0 → (P (some (kI (-3))) c13)) ∧ (z12 ≠ 0 → (kC2 G S0 kM_X11_isMirror (d + 5) [kA 558, kI x3] c13 (kRI (fun z16 c17 => (k32 z16) ∧ ((z16 ≠ 0 → (kC2 G S0 kM_X11_laysVector (d + 5) [kA 558, kI x1, kI 24] c17 (kRN (fun c21 => kC2 G S0 kM_X11_laysVector (d + 5) [kA 558, kI x2, kI 25] c21 (kRN (fun c23 => kC2 G S0 kM_X11_laysVector (d + 5) [kA 558, kI x3, kI 26] c23 (kRN (fun c25 => kC2 G S0 kM_X11_normals (d + 5) [kA 558, kI 24] c25 (kRN (fun c27 => kC2 G S0 kM_X11_normals (d + 5) [kA 558, kI 25] c27 (kRN (fun c29 => kC2 G S0 kM_X11_joins (d + 5) [kA 558, kI 1, kI 24, kI 25, kI 24] c29 (kRN (fun c31 => kC2 G S0 kM_X11_normals (d + 5) [kA 558, kI 24] c31 (kRN (fun c33 => kC2 G S0 kM_X11_isWithin (d + 5) [kA 558, kI 24] c33 (kRI (fun z34 c35 => (k32 z34) ∧ ((z34 ≠ 0 → (kC2 G S0 kM_X11_joins (d + 5) [kA 558, kI 1, kI 24, kI 26, kI 24] c35 (kRN (fun c39 => kC2 G S0 kM_X11_isNothing (d + 5) [kA 558, kI 24] c39 (kRI (fun z40 c41 => (k32 z40) ∧ ((z40 = 0 → (P (some (kI 0)) c41)) ∧ (z40 ≠ 0 → (P (some (kI 1)) c41))))))))) ∧ (z34 = 0 → (P (some (kI (-4))) c35))))))))))))))))))))) ∧ (z16 = 0 → (P (some (kI (-3))) c17))))))))))))))))) ∧ (¬ (kHas c x3) → (P (some (kI (-1))) c)))) ∧ (¬ (kHas c x2) → (P (some (kI (-1))) c)))) ∧ (¬ (kHas c x1) → (P (some (kI (-1))) c)))) : kC2 G S0 kM_X11_bundle (d + 6) [kA 558, kI x1, kI x2, kI x3] c P := by
  refine k2_met (by decide) rfl (Nat.le_of_ble_eq_true rfl) (l0 := [some (kA 558), some (kI x1), some (kI x2), some (kI x3)]) rfl ?_
  refine kw_aload_n dX11_bundle_0 rfl ?_
  refine kw_iload_n dX11_bundle_1 rfl ?_
  have o1 := H.1
  have H := H.2
  refine k2_callV1I (ci := 9) (N := 38) (T := TX11) rfl (lsh_558 hL) m_X11_isLetter dX11_bundle_2 wl_X11_161 (Nat.le_of_ble_eq_true rfl) (s_X11_isLetter hL (k32i (by omega)) o1 (fun h2 => ⟨_, rfl, ?_⟩) (fun h2 => ⟨_, rfl, ?_⟩))
  · have H := H.1 h2
    refine kw_if_eq 24 dX11_bundle_5 (by decide) (k32i (by omega)) (fun h3 => absurd h3 (by decide)) (fun _ => ?_)
    refine kw_aload_n dX11_bundle_8 rfl ?_
    refine kw_iload_n dX11_bundle_9 rfl ?_
    refine k2_callV1I (ci := 9) (N := 38) (T := TX11) rfl (lsh_558 hL) m_X11_isLetter dX11_bundle_10 wl_X11_161 (Nat.le_of_ble_eq_true rfl) (s_X11_isLetter hL (k32i (by omega)) o1 (fun h4 => ⟨_, rfl, ?_⟩) (fun h4 => ⟨_, rfl, ?_⟩))
    · have H := H.1 h4
      refine kw_if_eq 24 dX11_bundle_13 (by decide) (k32i (by omega)) (fun h5 => absurd h5 (by decide)) (fun _ => ?_)
      refine kw_aload_n dX11_bundle_16 rfl ?_
      refine kw_iload_n dX11_bundle_17 rfl ?_
      refine k2_callV1I (ci := 9) (N := 38) (T := TX11) rfl (lsh_558 hL) m_X11_isLetter dX11_bundle_18 wl_X11_161 (Nat.le_of_ble_eq_true rfl) (s_X11_isLetter hL (k32i (by omega)) o1 (fun h6 => ⟨_, rfl, ?_⟩) (fun h6 => ⟨_, rfl, ?_⟩))
      · have H := H.1 h6
        refine kw_if_ne 26 dX11_bundle_21 (by decide) (k32i (by omega)) (fun _ => ?_) (fun h7 => absurd h7 (by decide))
        refine kw_aload_n dX11_bundle_26 rfl ?_
        refine kw_iload_n dX11_bundle_27 rfl ?_
        refine k2_callV1I (ci := 9) (N := 38) (T := TX11) rfl (lsh_558 hL) m_X11_isMirror dX11_bundle_28 wl_X11_400 (Nat.le_of_ble_eq_true rfl) (kC2_mono H (fun r c9 H => ?_))
        obtain ⟨z8, rfl, H⟩ := H
        refine ⟨z8, rfl, ?_⟩
        have o11 := H.1
        have H := H.2
        refine kw_if_eq 50 dX11_bundle_31 (by decide) o11 (fun h10 => ?_) (fun h10 => ?_)
        · have H := H.1 h10
          refine kw_bipush dX11_bundle_50 (by decide) ?_
          refine k2_iret dX11_bundle_52 rfl H
        · have H := H.2 h10
          refine kw_aload_n dX11_bundle_34 rfl ?_
          refine kw_iload_n dX11_bundle_35 rfl ?_
          refine k2_callV1I (ci := 9) (N := 38) (T := TX11) rfl (lsh_558 hL) m_X11_isMirror dX11_bundle_36 wl_X11_400 (Nat.le_of_ble_eq_true rfl) (kC2_mono H (fun r c13 H => ?_))
          obtain ⟨z12, rfl, H⟩ := H
          refine ⟨z12, rfl, ?_⟩
          have o15 := H.1
          have H := H.2
          refine kw_if_eq 50 dX11_bundle_39 (by decide) o15 (fun h14 => ?_) (fun h14 => ?_)
          · have H := H.1 h14
            refine kw_bipush dX11_bundle_50 (by decide) ?_
            refine k2_iret dX11_bundle_52 rfl H
          · have H := H.2 h14
            refine kw_aload_n dX11_bundle_42 rfl ?_
            refine kw_iload_n dX11_bundle_43 rfl ?_
            refine k2_callV1I (ci := 9) (N := 38) (T := TX11) rfl (lsh_558 hL) m_X11_isMirror dX11_bundle_44 wl_X11_400 (Nat.le_of_ble_eq_true rfl) (kC2_mono H (fun r c17 H => ?_))
            obtain ⟨z16, rfl, H⟩ := H
            refine ⟨z16, rfl, ?_⟩
            have o19 := H.1
            have H := H.2
            refine kw_if_ne 53 dX11_bundle_47 (by decide) o19 (fun h18 => ?_) (fun h18 => ?_)
            · have H := H.1 h18
              refine kw_aload_n dX11_bundle_53 rfl ?_
              refine kw_iload_n dX11_bundle_54 rfl ?_
              refine kw_bipush dX11_bundle_55 (by decide) ?_
              refine k2_callV2N (ci := 9) (N := 38) (T := TX11) rfl (lsh_558 hL) m_X11_laysVector dX11_bundle_57 wl_X11_334 (Nat.le_of_ble_eq_true rfl) (kC2_mono H (fun r c21 H => ?_))
              obtain ⟨rfl, H⟩ := H
              refine ⟨rfl, ?_⟩
              refine kw_aload_n dX11_bundle_60 rfl ?_
              refine kw_iload_n dX11_bundle_61 rfl ?_
              refine kw_bipush dX11_bundle_62 (by decide) ?_
              refine k2_callV2N (ci := 9) (N := 38) (T := TX11) rfl (lsh_558 hL) m_X11_laysVector dX11_bundle_64 wl_X11_334 (Nat.le_of_ble_eq_true rfl) (kC2_mono H (fun r c23 H => ?_))
              obtain ⟨rfl, H⟩ := H
              refine ⟨rfl, ?_⟩
              refine kw_aload_n dX11_bundle_67 rfl ?_
              refine kw_iload_n dX11_bundle_68 rfl ?_
              refine kw_bipush dX11_bundle_69 (by decide) ?_
              refine k2_callV2N (ci := 9) (N := 38) (T := TX11) rfl (lsh_558 hL) m_X11_laysVector dX11_bundle_71 wl_X11_334 (Nat.le_of_ble_eq_true rfl) (kC2_mono H (fun r c25 H => ?_))
              obtain ⟨rfl, H⟩ := H
              refine ⟨rfl, ?_⟩
              refine kw_aload_n dX11_bundle_74 rfl ?_
              refine kw_bipush dX11_bundle_75 (by decide) ?_
              refine k2_callV1N (ci := 9) (N := 38) (T := TX11) rfl (lsh_558 hL) m_X11_normals dX11_bundle_77 wl_X11_165 (Nat.le_of_ble_eq_true rfl) (kC2_mono H (fun r c27 H => ?_))
              obtain ⟨rfl, H⟩ := H
              refine ⟨rfl, ?_⟩
              refine kw_aload_n dX11_bundle_80 rfl ?_
              refine kw_bipush dX11_bundle_81 (by decide) ?_
              refine k2_callV1N (ci := 9) (N := 38) (T := TX11) rfl (lsh_558 hL) m_X11_normals dX11_bundle_83 wl_X11_165 (Nat.le_of_ble_eq_true rfl) (kC2_mono H (fun r c29 H => ?_))
              obtain ⟨rfl, H⟩ := H
              refine ⟨rfl, ?_⟩
              refine kw_aload_n dX11_bundle_86 rfl ?_
              refine kw_iconst dX11_bundle_87 ?_
              refine kw_bipush dX11_bundle_88 (by decide) ?_
              refine kw_bipush dX11_bundle_90 (by decide) ?_
              refine kw_bipush dX11_bundle_92 (by decide) ?_
              refine k2_callV4N (ci := 9) (N := 38) (T := TX11) rfl (lsh_558 hL) m_X11_joins dX11_bundle_94 wl_X11_111 (Nat.le_of_ble_eq_true rfl) (kC2_mono H (fun r c31 H => ?_))
              obtain ⟨rfl, H⟩ := H
              refine ⟨rfl, ?_⟩
              refine kw_aload_n dX11_bundle_97 rfl ?_
              refine kw_bipush dX11_bundle_98 (by decide) ?_
              refine k2_callV1N (ci := 9) (N := 38) (T := TX11) rfl (lsh_558 hL) m_X11_normals dX11_bundle_100 wl_X11_165 (Nat.le_of_ble_eq_true rfl) (kC2_mono H (fun r c33 H => ?_))
              obtain ⟨rfl, H⟩ := H
              refine ⟨rfl, ?_⟩
              refine kw_aload_n dX11_bundle_103 rfl ?_
              refine kw_bipush dX11_bundle_104 (by decide) ?_
              refine k2_callV1I (ci := 9) (N := 38) (T := TX11) rfl (lsh_558 hL) m_X11_isWithin dX11_bundle_106 wl_X11_168 (Nat.le_of_ble_eq_true rfl) (kC2_mono H (fun r c35 H => ?_))
              obtain ⟨z34, rfl, H⟩ := H
              refine ⟨z34, rfl, ?_⟩
              have o37 := H.1
              have H := H.2
              refine kw_if_ne 115 dX11_bundle_109 (by decide) o37 (fun h36 => ?_) (fun h36 => ?_)
              · have H := H.1 h36
                refine kw_aload_n dX11_bundle_115 rfl ?_
                refine kw_iconst dX11_bundle_116 ?_
                refine kw_bipush dX11_bundle_117 (by decide) ?_
                refine kw_bipush dX11_bundle_119 (by decide) ?_
                refine kw_bipush dX11_bundle_121 (by decide) ?_
                refine k2_callV4N (ci := 9) (N := 38) (T := TX11) rfl (lsh_558 hL) m_X11_joins dX11_bundle_123 wl_X11_111 (Nat.le_of_ble_eq_true rfl) (kC2_mono H (fun r c39 H => ?_))
                obtain ⟨rfl, H⟩ := H
                refine ⟨rfl, ?_⟩
                refine kw_aload_n dX11_bundle_126 rfl ?_
                refine kw_bipush dX11_bundle_127 (by decide) ?_
                refine k2_callV1I (ci := 9) (N := 38) (T := TX11) rfl (lsh_558 hL) m_X11_isNothing dX11_bundle_129 wl_X11_115 (Nat.le_of_ble_eq_true rfl) (kC2_mono H (fun r c41 H => ?_))
                obtain ⟨z40, rfl, H⟩ := H
                refine ⟨z40, rfl, ?_⟩
                have o43 := H.1
                have H := H.2
                refine kw_if_eq 139 dX11_bundle_132 (by decide) o43 (fun h42 => ?_) (fun h42 => ?_)
                · have H := H.1 h42
                  refine kw_iconst dX11_bundle_139 ?_
                  refine k2_iret dX11_bundle_140 rfl H
                · have H := H.2 h42
                  refine kw_iconst dX11_bundle_135 ?_
                  refine kw_goto 140 dX11_bundle_136 (by decide) ?_
                  refine k2_iret dX11_bundle_140 rfl H
              · have H := H.2 h36
                refine kw_bipush dX11_bundle_112 (by decide) ?_
                refine k2_iret dX11_bundle_114 rfl H
            · have H := H.2 h18
              refine kw_bipush dX11_bundle_50 (by decide) ?_
              refine k2_iret dX11_bundle_52 rfl H
      · have H := H.2 h6
        refine kw_if_ne 26 dX11_bundle_21 (by decide) (k32i (by omega)) (fun h44 => absurd h44 (by decide)) (fun _ => ?_)
        refine kw_iconst dX11_bundle_24 ?_
        refine k2_iret dX11_bundle_25 rfl H
    · have H := H.2 h4
      refine kw_if_eq 24 dX11_bundle_13 (by decide) (k32i (by omega)) (fun _ => ?_) (fun h45 => absurd h45 (by decide))
      refine kw_iconst dX11_bundle_24 ?_
      refine k2_iret dX11_bundle_25 rfl H
  · have H := H.2 h2
    refine kw_if_eq 24 dX11_bundle_5 (by decide) (k32i (by omega)) (fun _ => ?_) (fun h46 => absurd h46 (by decide))
    refine kw_iconst dX11_bundle_24 ?_
    refine k2_iret dX11_bundle_25 rfl H
set_option maxRecDepth 4000 in
theorem v_X11_isTurnedBy {G : KG} {S0 : KSh} (hL : kLay S0) {d : Nat} {P : Option AV → KMem → Prop} {c : KMem} {x1 x2 : Int} (r1 : -2147483648 ≤ x1 ∧ x1 < 2147483648) (r2 : -2147483648 ≤ x2 ∧ x2 < 2147483648) (H : kC2 G S0 kM_X11_joins (d + 2) [kA 558, kI 0, kI x2, kI x1, kI x1] c (kRN (fun c2 => kC2 G S0 kM_X11_isWithin (d + 2) [kA 558, kI x1] c2 (kRI (fun z3 c4 => (k32 z3) ∧ ((z3 ≠ 0 → (kC2 G S0 kM_X11_joins (d + 2) [kA 558, kI 0, kI x1, kI x2, kI x1] c4 (kRN (fun c8 => kC2 G S0 kM_X11_isWithin (d + 2) [kA 558, kI x1] c8 (kRI (fun z9 c10 => (k32 z9) ∧ ((z9 ≠ 0 → (kC2 G S0 kM_X11_normals (d + 2) [kA 558, kI x1] c10 (kRN (fun c14 => P (some (kI 1)) c14)))) ∧ (z9 = 0 → (P (some (kI 0)) c10))))))))) ∧ (z3 = 0 → (P (some (kI 0)) c4)))))))) : kC2 G S0 kM_X11_isTurnedBy (d + 3) [kA 558, kI x1, kI x2] c P := by
  refine k2_met (by decide) rfl (Nat.le_of_ble_eq_true rfl) (l0 := [some (kA 558), some (kI x1), some (kI x2)]) rfl ?_
  refine kw_aload_n dX11_isTurnedBy_0 rfl ?_
  refine kw_iconst dX11_isTurnedBy_1 ?_
  refine kw_iload_n dX11_isTurnedBy_2 rfl ?_
  refine kw_iload_n dX11_isTurnedBy_3 rfl ?_
  refine kw_iload_n dX11_isTurnedBy_4 rfl ?_
  refine k2_callV4N (ci := 9) (N := 38) (T := TX11) rfl (lsh_558 hL) m_X11_joins dX11_isTurnedBy_5 wl_X11_111 (Nat.le_of_ble_eq_true rfl) (kC2_mono H (fun r c2 H => ?_))
  obtain ⟨rfl, H⟩ := H
  refine ⟨rfl, ?_⟩
  refine kw_aload_n dX11_isTurnedBy_8 rfl ?_
  refine kw_iload_n dX11_isTurnedBy_9 rfl ?_
  refine k2_callV1I (ci := 9) (N := 38) (T := TX11) rfl (lsh_558 hL) m_X11_isWithin dX11_isTurnedBy_10 wl_X11_168 (Nat.le_of_ble_eq_true rfl) (kC2_mono H (fun r c4 H => ?_))
  obtain ⟨z3, rfl, H⟩ := H
  refine ⟨z3, rfl, ?_⟩
  have o6 := H.1
  have H := H.2
  refine kw_if_ne 18 dX11_isTurnedBy_13 (by decide) o6 (fun h5 => ?_) (fun h5 => ?_)
  · have H := H.1 h5
    refine kw_aload_n dX11_isTurnedBy_18 rfl ?_
    refine kw_iconst dX11_isTurnedBy_19 ?_
    refine kw_iload_n dX11_isTurnedBy_20 rfl ?_
    refine kw_iload_n dX11_isTurnedBy_21 rfl ?_
    refine kw_iload_n dX11_isTurnedBy_22 rfl ?_
    refine k2_callV4N (ci := 9) (N := 38) (T := TX11) rfl (lsh_558 hL) m_X11_joins dX11_isTurnedBy_23 wl_X11_111 (Nat.le_of_ble_eq_true rfl) (kC2_mono H (fun r c8 H => ?_))
    obtain ⟨rfl, H⟩ := H
    refine ⟨rfl, ?_⟩
    refine kw_aload_n dX11_isTurnedBy_26 rfl ?_
    refine kw_iload_n dX11_isTurnedBy_27 rfl ?_
    refine k2_callV1I (ci := 9) (N := 38) (T := TX11) rfl (lsh_558 hL) m_X11_isWithin dX11_isTurnedBy_28 wl_X11_168 (Nat.le_of_ble_eq_true rfl) (kC2_mono H (fun r c10 H => ?_))
    obtain ⟨z9, rfl, H⟩ := H
    refine ⟨z9, rfl, ?_⟩
    have o12 := H.1
    have H := H.2
    refine kw_if_ne 36 dX11_isTurnedBy_31 (by decide) o12 (fun h11 => ?_) (fun h11 => ?_)
    · have H := H.1 h11
      refine kw_aload_n dX11_isTurnedBy_36 rfl ?_
      refine kw_iload_n dX11_isTurnedBy_37 rfl ?_
      refine k2_callV1N (ci := 9) (N := 38) (T := TX11) rfl (lsh_558 hL) m_X11_normals dX11_isTurnedBy_38 wl_X11_165 (Nat.le_of_ble_eq_true rfl) (kC2_mono H (fun r c14 H => ?_))
      obtain ⟨rfl, H⟩ := H
      refine ⟨rfl, ?_⟩
      refine kw_iconst dX11_isTurnedBy_41 ?_
      refine k2_zret dX11_isTurnedBy_42 rfl (Or.inr rfl) H
    · have H := H.2 h11
      refine kw_iconst dX11_isTurnedBy_34 ?_
      refine k2_zret dX11_isTurnedBy_35 rfl (Or.inl rfl) H
  · have H := H.2 h5
    refine kw_iconst dX11_isTurnedBy_16 ?_
    refine k2_zret dX11_isTurnedBy_17 rfl (Or.inl rfl) H
set_option maxRecDepth 4000 in
theorem v_X11_turned {G : KG} {S0 : KSh} (hL : kLay S0) {d : Nat} {P : Option AV → KMem → Prop} {c : KMem} {x1 x2 x3 : Int} (r1 : -2147483648 ≤ x1 ∧ x1 < 2147483648) (r2 : -2147483648 ≤ x2 ∧ x2 < 2147483648) (r3 : -2147483648 ≤ x3 ∧ x3 < 2147483648) (H : (kStd c) ∧ (((kHas c x1) → (((kHas c x2) → (((0 ≤ x3 ∧ x3 ≤ 15) → (kC2 G S0 kM_X11_isMirror (d + 5) [kA 558, kI x2] c (kRI (fun z8 c9 => (k32 z8) ∧ ((z8 ≠ 0 → (kC2 G S0 kM_X11_laysVector (d + 5) [kA 558, kI x2, kI 24] c9 (kRN (fun c13 => kC2 G S0 kM_X11_copies (d + 5) [kA 558, kI x1, kI 25] c13 (kRN (fun c15 => kC2 G S0 kM_X11_isTurnedBy (d + 5) [kA 558, kI 25, kI 24] c15 (kRI (fun z16 c17 => (k32 z16) ∧ ((z16 = 0 → (P (some (kI (-1000000000))) c17)) ∧ (z16 ≠ 0 → (P (some (kI (c17 559 ((16 * 25) + x3)))) c17))))))))))) ∧ (z8 = 0 → (P (some (kI (-1000000000))) c9))))))) ∧ (¬ (0 ≤ x3 ∧ x3 ≤ 15) → (P (some (kI (-1000000000))) c)))) ∧ (¬ (kHas c x2) → (P (some (kI (-1000000000))) c)))) ∧ (¬ (kHas c x1) → (P (some (kI (-1000000000))) c)))) : kC2 G S0 kM_X11_turned (d + 6) [kA 558, kI x1, kI x2, kI x3] c P := by
  refine k2_met (by decide) rfl (Nat.le_of_ble_eq_true rfl) (l0 := [some (kA 558), some (kI x1), some (kI x2), some (kI x3)]) rfl ?_
  refine kw_aload_n dX11_turned_0 rfl ?_
  refine kw_iload_n dX11_turned_1 rfl ?_
  have o1 := H.1
  have H := H.2
  refine k2_callV1I (ci := 9) (N := 38) (T := TX11) rfl (lsh_558 hL) m_X11_isLetter dX11_turned_2 wl_X11_161 (Nat.le_of_ble_eq_true rfl) (s_X11_isLetter hL (k32i (by omega)) o1 (fun h2 => ⟨_, rfl, ?_⟩) (fun h2 => ⟨_, rfl, ?_⟩))
  · have H := H.1 h2
    refine kw_if_eq 34 dX11_turned_5 (by decide) (k32i (by omega)) (fun h3 => absurd h3 (by decide)) (fun _ => ?_)
    refine kw_aload_n dX11_turned_8 rfl ?_
    refine kw_iload_n dX11_turned_9 rfl ?_
    refine k2_callV1I (ci := 9) (N := 38) (T := TX11) rfl (lsh_558 hL) m_X11_isLetter dX11_turned_10 wl_X11_161 (Nat.le_of_ble_eq_true rfl) (s_X11_isLetter hL (k32i (by omega)) o1 (fun h4 => ⟨_, rfl, ?_⟩) (fun h4 => ⟨_, rfl, ?_⟩))
    · have H := H.1 h4
      refine kw_if_eq 34 dX11_turned_13 (by decide) (k32i (by omega)) (fun h5 => absurd h5 (by decide)) (fun _ => ?_)
      refine kw_iload_n dX11_turned_16 rfl ?_
      refine kw_iconst dX11_turned_17 ?_
      refine kw_bipush dX11_turned_18 (by decide) ?_
      refine k2_callS3I m_X11_in dX11_turned_20 wl_X11_100 (Nat.le_of_ble_eq_true rfl) (s_X11_in hL (k32i (by omega)) (k32i (by omega)) (k32i (by omega)) (fun h6 => ⟨_, rfl, ?_⟩) (fun h6 => ⟨_, rfl, ?_⟩))
      · have H := H.1 h6
        refine kw_if_eq 34 dX11_turned_23 (by decide) (k32i (by omega)) (fun h7 => absurd h7 (by decide)) (fun _ => ?_)
        refine kw_aload_n dX11_turned_26 rfl ?_
        refine kw_iload_n dX11_turned_27 rfl ?_
        refine k2_callV1I (ci := 9) (N := 38) (T := TX11) rfl (lsh_558 hL) m_X11_isMirror dX11_turned_28 wl_X11_400 (Nat.le_of_ble_eq_true rfl) (kC2_mono H (fun r c9 H => ?_))
        obtain ⟨z8, rfl, H⟩ := H
        refine ⟨z8, rfl, ?_⟩
        have o11 := H.1
        have H := H.2
        refine kw_if_ne 37 dX11_turned_31 (by decide) o11 (fun h10 => ?_) (fun h10 => ?_)
        · have H := H.1 h10
          refine kw_aload_n dX11_turned_37 rfl ?_
          refine kw_iload_n dX11_turned_38 rfl ?_
          refine kw_bipush dX11_turned_39 (by decide) ?_
          refine k2_callV2N (ci := 9) (N := 38) (T := TX11) rfl (lsh_558 hL) m_X11_laysVector dX11_turned_41 wl_X11_334 (Nat.le_of_ble_eq_true rfl) (kC2_mono H (fun r c13 H => ?_))
          obtain ⟨rfl, H⟩ := H
          refine ⟨rfl, ?_⟩
          refine kw_aload_n dX11_turned_44 rfl ?_
          refine kw_iload_n dX11_turned_45 rfl ?_
          refine kw_bipush dX11_turned_46 (by decide) ?_
          refine k2_callV2N (ci := 9) (N := 38) (T := TX11) rfl (lsh_558 hL) m_X11_copies dX11_turned_48 wl_X11_132 (Nat.le_of_ble_eq_true rfl) (kC2_mono H (fun r c15 H => ?_))
          obtain ⟨rfl, H⟩ := H
          refine ⟨rfl, ?_⟩
          refine kw_aload_n dX11_turned_51 rfl ?_
          refine kw_bipush dX11_turned_52 (by decide) ?_
          refine kw_bipush dX11_turned_54 (by decide) ?_
          refine k2_callV2I (ci := 9) (N := 38) (T := TX11) rfl (lsh_558 hL) m_X11_isTurnedBy dX11_turned_56 wl_X11_403 (Nat.le_of_ble_eq_true rfl) (kC2_mono H (fun r c17 H => ?_))
          obtain ⟨z16, rfl, H⟩ := H
          refine ⟨z16, rfl, ?_⟩
          have o19 := H.1
          have H := H.2
          refine kw_if_eq 73 dX11_turned_59 (by decide) o19 (fun h18 => ?_) (fun h18 => ?_)
          · have H := H.1 h18
            refine kw_ldc dX11_turned_73 wk_X11_164 ?_
            refine k2_iret dX11_turned_75 rfl H
          · have H := H.2 h18
            refine kw_aload_n dX11_turned_62 rfl ?_
            refine kw_bipush dX11_turned_63 (by decide) ?_
            refine kw_iload_n dX11_turned_65 rfl ?_
            refine k2_callV2L (ci := 9) (N := 38) (T := TX11) rfl (lsh_558 hL) m_X11_at dX11_turned_66 wl_X11_84 (Nat.le_of_ble_eq_true rfl) (s_X11_at hL (k32i (by omega)) (k32i (by omega)) (by omega) ⟨_, rfl, ?_⟩)
            refine kw_l2i dX11_turned_69 ?_
            refine kw_goto 75 dX11_turned_70 (by decide) ?_
            refine k2_iret dX11_turned_75 rfl H
        · have H := H.2 h10
          refine kw_ldc dX11_turned_34 wk_X11_164 ?_
          refine k2_iret dX11_turned_36 rfl H
      · have H := H.2 h6
        refine kw_if_eq 34 dX11_turned_23 (by decide) (k32i (by omega)) (fun _ => ?_) (fun h20 => absurd h20 (by decide))
        refine kw_ldc dX11_turned_34 wk_X11_164 ?_
        refine k2_iret dX11_turned_36 rfl H
    · have H := H.2 h4
      refine kw_if_eq 34 dX11_turned_13 (by decide) (k32i (by omega)) (fun _ => ?_) (fun h21 => absurd h21 (by decide))
      refine kw_ldc dX11_turned_34 wk_X11_164 ?_
      refine k2_iret dX11_turned_36 rfl H
  · have H := H.2 h2
    refine kw_if_eq 34 dX11_turned_5 (by decide) (k32i (by omega)) (fun _ => ?_) (fun h22 => absurd h22 (by decide))
    refine kw_ldc dX11_turned_34 wk_X11_164 ?_
    refine k2_iret dX11_turned_36 rfl H
set_option maxRecDepth 4000 in
theorem v_X11_mirrors {G : KG} {S0 : KSh} (hL : kLay S0) {d : Nat} {P : Option AV → KMem → Prop} {c : KMem} {x1 x2 : Int} (r1 : -2147483648 ≤ x1 ∧ x1 < 2147483648) (r2 : -2147483648 ≤ x2 ∧ x2 < 2147483648) (H : kC2 G S0 kM_X11_joins (d + 1) [kA 558, kI 0, kI x1, kI x2, kI x2] c (kRN (fun c2 => kC2 G S0 kM_X11_isWithin (d + 1) [kA 558, kI x2] c2 (kRI (fun z3 c4 => (k32 z3) ∧ ((z3 ≠ 0 → (kC2 G S0 kM_X11_reverses (d + 1) [kA 558, kI x1] c4 (kRN (fun c8 => kC2 G S0 kM_X11_joins (d + 1) [kA 558, kI 0, kI x2, kI x1, kI x1] c8 (kRN (fun c10 => kC2 G S0 kM_X11_isWithin (d + 1) [kA 558, kI x1] c10 (kRI (fun z11 c12 => (z11 = 0 ∨ z11 = 1) ∧ (P (some (kI z11)) c12))))))))) ∧ (z3 = 0 → (P (some (kI 0)) c4)))))))) : kC2 G S0 kM_X11_mirrors (d + 2) [kA 558, kI x1, kI x2] c P := by
  refine k2_met (by decide) rfl (Nat.le_of_ble_eq_true rfl) (l0 := [some (kA 558), some (kI x1), some (kI x2)]) rfl ?_
  refine kw_aload_n dX11_mirrors_0 rfl ?_
  refine kw_iconst dX11_mirrors_1 ?_
  refine kw_iload_n dX11_mirrors_2 rfl ?_
  refine kw_iload_n dX11_mirrors_3 rfl ?_
  refine kw_iload_n dX11_mirrors_4 rfl ?_
  refine k2_callV4N (ci := 9) (N := 38) (T := TX11) rfl (lsh_558 hL) m_X11_joins dX11_mirrors_5 wl_X11_111 (Nat.le_of_ble_eq_true rfl) (kC2_mono H (fun r c2 H => ?_))
  obtain ⟨rfl, H⟩ := H
  refine ⟨rfl, ?_⟩
  refine kw_aload_n dX11_mirrors_8 rfl ?_
  refine kw_iload_n dX11_mirrors_9 rfl ?_
  refine k2_callV1I (ci := 9) (N := 38) (T := TX11) rfl (lsh_558 hL) m_X11_isWithin dX11_mirrors_10 wl_X11_168 (Nat.le_of_ble_eq_true rfl) (kC2_mono H (fun r c4 H => ?_))
  obtain ⟨z3, rfl, H⟩ := H
  refine ⟨z3, rfl, ?_⟩
  have o6 := H.1
  have H := H.2
  refine kw_if_ne 18 dX11_mirrors_13 (by decide) o6 (fun h5 => ?_) (fun h5 => ?_)
  · have H := H.1 h5
    refine kw_aload_n dX11_mirrors_18 rfl ?_
    refine kw_iload_n dX11_mirrors_19 rfl ?_
    refine k2_callV1N (ci := 9) (N := 38) (T := TX11) rfl (lsh_558 hL) m_X11_reverses dX11_mirrors_20 wl_X11_149 (Nat.le_of_ble_eq_true rfl) (kC2_mono H (fun r c8 H => ?_))
    obtain ⟨rfl, H⟩ := H
    refine ⟨rfl, ?_⟩
    refine kw_aload_n dX11_mirrors_23 rfl ?_
    refine kw_iconst dX11_mirrors_24 ?_
    refine kw_iload_n dX11_mirrors_25 rfl ?_
    refine kw_iload_n dX11_mirrors_26 rfl ?_
    refine kw_iload_n dX11_mirrors_27 rfl ?_
    refine k2_callV4N (ci := 9) (N := 38) (T := TX11) rfl (lsh_558 hL) m_X11_joins dX11_mirrors_28 wl_X11_111 (Nat.le_of_ble_eq_true rfl) (kC2_mono H (fun r c10 H => ?_))
    obtain ⟨rfl, H⟩ := H
    refine ⟨rfl, ?_⟩
    refine kw_aload_n dX11_mirrors_31 rfl ?_
    refine kw_iload_n dX11_mirrors_32 rfl ?_
    refine k2_callV1I (ci := 9) (N := 38) (T := TX11) rfl (lsh_558 hL) m_X11_isWithin dX11_mirrors_33 wl_X11_168 (Nat.le_of_ble_eq_true rfl) (kC2_mono H (fun r c12 H => ?_))
    obtain ⟨z11, rfl, H⟩ := H
    refine ⟨z11, rfl, ?_⟩
    have o13 := H.1
    have H := H.2
    refine k2_zret dX11_mirrors_36 rfl o13 H
  · have H := H.2 h5
    refine kw_iconst dX11_mirrors_16 ?_
    refine k2_zret dX11_mirrors_17 rfl (Or.inl rfl) H
set_option maxRecDepth 4000 in
theorem v_X11_brings {G : KG} {S0 : KSh} (hL : kLay S0) {d : Nat} {P : Option AV → KMem → Prop} {c : KMem} {x1 x2 x3 x4 : Int} (r1 : -2147483648 ≤ x1 ∧ x1 < 2147483648) (r2 : -2147483648 ≤ x2 ∧ x2 < 2147483648) (r3 : -2147483648 ≤ x3 ∧ x3 < 2147483648) (r4 : -2147483648 ≤ x4 ∧ x4 < 2147483648) (H : (kStd c) ∧ (((kHas c x1) → (((-99 ≤ x2 ∧ x2 ≤ 99) → (((-99 ≤ x3 ∧ x3 ≤ 99) → (((0 ≤ x4 ∧ x4 ≤ 2) → (kC2 G S0 kM_X11_isMotion (d + 5) [kA 558, kI x1] c (kRI (fun z10 c11 => (k32 z10) ∧ ((z10 ≠ 0 → (kC2 G S0 kM_X11_laysPlace (d + 5) [kA 558, kI 25, kL x2, kL x3] c11 (kRN (fun c15 => kC2 G S0 kM_X11_copies (d + 5) [kA 558, kI x1, kI 24] c15 (kRN (fun c17 => kC2 G S0 kM_X11_mirrors (d + 5) [kA 558, kI 24, kI 25] c17 (kRI (fun z18 c19 => (k32 z18) ∧ ((z18 = 0 → (P (some (kL (-3000000000000000000))) c19)) ∧ (z18 ≠ 0 → (kC2 G S0 kM_X11_pointAt (d + 5) [kA 558, kI 24, kI x4] c19 (kRL (fun z22 c23 => P (some (kL z22)) c23))))))))))))) ∧ (z10 = 0 → (P (some (kL (-3000000000000000000))) c11))))))) ∧ (¬ (0 ≤ x4 ∧ x4 ≤ 2) → (P (some (kL (-2000000000000000000))) c)))) ∧ (¬ (-99 ≤ x3 ∧ x3 ≤ 99) → (P (some (kL (-2000000000000000000))) c)))) ∧ (¬ (-99 ≤ x2 ∧ x2 ≤ 99) → (P (some (kL (-2000000000000000000))) c)))) ∧ (¬ (kHas c x1) → (P (some (kL (-2000000000000000000))) c)))) : kC2 G S0 kM_X11_brings (d + 6) [kA 558, kI x1, kI x2, kI x3, kI x4] c P := by
  refine k2_met (by decide) rfl (Nat.le_of_ble_eq_true rfl) (l0 := [some (kA 558), some (kI x1), some (kI x2), some (kI x3), some (kI x4)]) rfl ?_
  refine kw_aload_n dX11_brings_0 rfl ?_
  refine kw_iload_n dX11_brings_1 rfl ?_
  have o1 := H.1
  have H := H.2
  refine k2_callV1I (ci := 9) (N := 38) (T := TX11) rfl (lsh_558 hL) m_X11_isLetter dX11_brings_2 wl_X11_161 (Nat.le_of_ble_eq_true rfl) (s_X11_isLetter hL (k32i (by omega)) o1 (fun h2 => ⟨_, rfl, ?_⟩) (fun h2 => ⟨_, rfl, ?_⟩))
  · have H := H.1 h2
    refine kw_if_eq 32 dX11_brings_5 (by decide) (k32i (by omega)) (fun h3 => absurd h3 (by decide)) (fun _ => ?_)
    refine kw_iload_n dX11_brings_8 rfl ?_
    refine k2_callS1I m_X11_isWhere dX11_brings_9 wl_X11_346 (Nat.le_of_ble_eq_true rfl) (s_X11_isWhere hL (k32i (by omega)) (fun h4 => ⟨_, rfl, ?_⟩) (fun h4 => ⟨_, rfl, ?_⟩))
    · have H := H.1 h4
      refine kw_if_eq 32 dX11_brings_12 (by decide) (k32i (by omega)) (fun h5 => absurd h5 (by decide)) (fun _ => ?_)
      refine kw_iload_n dX11_brings_15 rfl ?_
      refine k2_callS1I m_X11_isWhere dX11_brings_16 wl_X11_346 (Nat.le_of_ble_eq_true rfl) (s_X11_isWhere hL (k32i (by omega)) (fun h6 => ⟨_, rfl, ?_⟩) (fun h6 => ⟨_, rfl, ?_⟩))
      · have H := H.1 h6
        refine kw_if_eq 32 dX11_brings_19 (by decide) (k32i (by omega)) (fun h7 => absurd h7 (by decide)) (fun _ => ?_)
        refine kw_iload dX11_brings_22 rfl ?_
        refine kw_iconst dX11_brings_24 ?_
        refine kw_iconst dX11_brings_25 ?_
        refine k2_callS3I m_X11_in dX11_brings_26 wl_X11_100 (Nat.le_of_ble_eq_true rfl) (s_X11_in hL (k32i (by omega)) (k32i (by omega)) (k32i (by omega)) (fun h8 => ⟨_, rfl, ?_⟩) (fun h8 => ⟨_, rfl, ?_⟩))
        · have H := H.1 h8
          refine kw_if_ne 36 dX11_brings_29 (by decide) (k32i (by omega)) (fun _ => ?_) (fun h9 => absurd h9 (by decide))
          refine kw_aload_n dX11_brings_36 rfl ?_
          refine kw_iload_n dX11_brings_37 rfl ?_
          refine k2_callV1I (ci := 9) (N := 38) (T := TX11) rfl (lsh_558 hL) m_X11_isMotion dX11_brings_38 wl_X11_155 (Nat.le_of_ble_eq_true rfl) (kC2_mono H (fun r c11 H => ?_))
          obtain ⟨z10, rfl, H⟩ := H
          refine ⟨z10, rfl, ?_⟩
          have o13 := H.1
          have H := H.2
          refine kw_if_ne 48 dX11_brings_41 (by decide) o13 (fun h12 => ?_) (fun h12 => ?_)
          · have H := H.1 h12
            refine kw_aload_n dX11_brings_48 rfl ?_
            refine kw_bipush dX11_brings_49 (by decide) ?_
            refine kw_iload_n dX11_brings_51 rfl ?_
            refine kw_i2l dX11_brings_52 (k32i (by omega)) ?_
            refine kw_iload_n dX11_brings_53 rfl ?_
            refine kw_i2l dX11_brings_54 (k32i (by omega)) ?_
            refine k2_callV3N (ci := 9) (N := 38) (T := TX11) rfl (lsh_558 hL) m_X11_laysPlace dX11_brings_55 wl_X11_232 (Nat.le_of_ble_eq_true rfl) (kC2_mono H (fun r c15 H => ?_))
            obtain ⟨rfl, H⟩ := H
            refine ⟨rfl, ?_⟩
            refine kw_aload_n dX11_brings_58 rfl ?_
            refine kw_iload_n dX11_brings_59 rfl ?_
            refine kw_bipush dX11_brings_60 (by decide) ?_
            refine k2_callV2N (ci := 9) (N := 38) (T := TX11) rfl (lsh_558 hL) m_X11_copies dX11_brings_62 wl_X11_132 (Nat.le_of_ble_eq_true rfl) (kC2_mono H (fun r c17 H => ?_))
            obtain ⟨rfl, H⟩ := H
            refine ⟨rfl, ?_⟩
            refine kw_aload_n dX11_brings_65 rfl ?_
            refine kw_bipush dX11_brings_66 (by decide) ?_
            refine kw_bipush dX11_brings_68 (by decide) ?_
            refine k2_callV2I (ci := 9) (N := 38) (T := TX11) rfl (lsh_558 hL) m_X11_mirrors dX11_brings_70 wl_X11_249 (Nat.le_of_ble_eq_true rfl) (kC2_mono H (fun r c19 H => ?_))
            obtain ⟨z18, rfl, H⟩ := H
            refine ⟨z18, rfl, ?_⟩
            have o21 := H.1
            have H := H.2
            refine kw_if_eq 87 dX11_brings_73 (by decide) o21 (fun h20 => ?_) (fun h20 => ?_)
            · have H := H.1 h20
              refine kw_ldc2 dX11_brings_87 wk_X11_332 ?_
              refine k2_lret dX11_brings_90 rfl H
            · have H := H.2 h20
              refine kw_aload_n dX11_brings_76 rfl ?_
              refine kw_bipush dX11_brings_77 (by decide) ?_
              refine kw_iload dX11_brings_79 rfl ?_
              refine k2_callV2L (ci := 9) (N := 38) (T := TX11) rfl (lsh_558 hL) m_X11_pointAt dX11_brings_81 wl_X11_382 (Nat.le_of_ble_eq_true rfl) (kC2_mono H (fun r c23 H => ?_))
              obtain ⟨z22, rfl, H⟩ := H
              refine ⟨z22, rfl, ?_⟩
              refine kw_goto 90 dX11_brings_84 (by decide) ?_
              refine k2_lret dX11_brings_90 rfl H
          · have H := H.2 h12
            refine kw_ldc2 dX11_brings_44 wk_X11_332 ?_
            refine k2_lret dX11_brings_47 rfl H
        · have H := H.2 h8
          refine kw_if_ne 36 dX11_brings_29 (by decide) (k32i (by omega)) (fun h24 => absurd h24 (by decide)) (fun _ => ?_)
          refine kw_ldc2 dX11_brings_32 wk_X11_327 ?_
          refine k2_lret dX11_brings_35 rfl H
      · have H := H.2 h6
        refine kw_if_eq 32 dX11_brings_19 (by decide) (k32i (by omega)) (fun _ => ?_) (fun h25 => absurd h25 (by decide))
        refine kw_ldc2 dX11_brings_32 wk_X11_327 ?_
        refine k2_lret dX11_brings_35 rfl H
    · have H := H.2 h4
      refine kw_if_eq 32 dX11_brings_12 (by decide) (k32i (by omega)) (fun _ => ?_) (fun h26 => absurd h26 (by decide))
      refine kw_ldc2 dX11_brings_32 wk_X11_327 ?_
      refine k2_lret dX11_brings_35 rfl H
  · have H := H.2 h2
    refine kw_if_eq 32 dX11_brings_5 (by decide) (k32i (by omega)) (fun _ => ?_) (fun h27 => absurd h27 (by decide))
    refine kw_ldc2 dX11_brings_32 wk_X11_327 ?_
    refine k2_lret dX11_brings_35 rfl H
section MQ7
variable {G : KG} {S0 : KSh} {d : Nat} {P : Option AV → KMem → Prop} {c c0 : KMem} {Φ : Int → KF} {H : Int → Bool} {F : Int → KF} {f g : KF} {M : Int} {x0 x1 x2 x3 x4 : Int}
theorem s_X11_rootOf (hL : kLay S0) (h0 : 0 ≤ x0 ∧ x0 < 1000000000000000000) (h : P (some (kL (krtI x0))) c) : kC2 G S0 kM_X11_rootOf d [kL x0] c P := by
  obtain ⟨n, rfl⟩ := kint_nat h0.1
  have e0 : krtI (n : Int) = (krt n : Int) := rfl
  rw [e0] at h
  have loop : ∀ m lo hi : Nat, hi - lo ≤ m → lo ≤ hi → hi ≤ 1000000000 → lo * lo ≤ n → n < (hi + 1) * (hi + 1) → kW2 G S0 kM_X11_rootOf d 7 [some (kL n), none, some (kL lo), none, some (kL hi), none, none, none] [] c P := by
    intro m
    induction m with
    | zero =>
      intro lo hi hm hle hb h1 h2
      obtain rfl : lo = hi := by omega
      rw [krt_un h1 h2] at h
      exact v_X11_rootOf_7 hL ⟨k64i (by omega), k64i (by omega), fun _ => h, fun q => by omega⟩
    | succ m ih =>
      intro lo hi hm hle hb h1 h2
      have em : Int.tdiv ((lo : Int) + (hi : Int) + 1) 2 = (((lo + hi + 1) / 2 : Nat) : Int) := rfl
      refine v_X11_rootOf_7 hL ⟨k64i (by omega), k64i (by omega), fun q => ?_, fun q => ?_⟩
      · obtain rfl : lo = hi := by omega
        rw [krt_un h1 h2] at h
        exact h
      · rw [em]
        have hmid : lo < (lo + hi + 1) / 2 ∧ (lo + hi + 1) / 2 ≤ hi := by omega
        generalize (lo + hi + 1) / 2 = md at hmid
        have hsq : md * md ≤ 1000000000 * 1000000000 := Nat.mul_le_mul (by omega) (by omega)
        have esq : ((md : Int) * (md : Int)) = ((md * md : Nat) : Int) := by simp
        rw [esq]
        refine ⟨k64i (by omega), k64i (by omega), k64i (by omega), fun z => ?_, fun z => ?_⟩
        · have e1 : (md : Int) - 1 = ((md - 1 : Nat) : Int) := by omega
          rw [e1]
          exact ih lo (md - 1) (by omega) (by omega) (by omega) h1 (by rw [show md - 1 + 1 = md by omega]; omega)
        · exact ih md hi (by omega) (by omega) hb (by omega) h2
  exact v_X11_rootOf hL (loop 1000000000 0 1000000000 (by omega) (by omega) (by omega) (by omega) (by omega))
theorem t_pointAt (hL : kLay S0) (hg : kSgn c0) (hs : kPh Φ c0 c) (h : ∀ (Φ' : Int → KF) c1 c', kPh Φ' c1 c' → kFr c0 c1 → (∀ s : Int, 0 ≤ s → s < 12 ∨ s = 30 → Φ' s = Φ s) → P (some (kL (ptN f x2))) c') (hw : 0 ≤ x2 ∧ x2 ≤ 2) (hp : 0 ≤ x1 ∧ x1 < 29) (e : Φ x1 = f) (e3 : Φ 30 = farP) (hb : kB M f) (hM : M < 9223372036854775807) : kC2 G S0 kM_X11_pointAt (d + 5) [kA 558, kI x1, kI x2] c P := by
  unfold ptN at h
  have hkr := kind_rg f
  refine v_X11_pointAt hL (by omega) (by omega) ?_
  refine t_isWithin hL hs (fun z => ⟨1, rfl, kr1 ?_⟩) (fun z => ⟨0, rfl, kr0 ?_⟩) e hb hM
  · rw [if_pos z] at h
    have hb2 : kB kLB f := kWb_iff.mp z
    refine t_kindOf hL hg hs (fun c1 a b hs => ⟨_, rfl, ?_⟩) e e3 hb2
    refine ⟨k32i (by omega), fun z => ?_, fun z => ?_⟩
    · rw [if_pos z] at h
      refine t_findsMiddle hL hs (kPt_ne z) (fun c2 hs => ⟨rfl, ?_⟩) (kUn (by omega) (kUn (by omega) e)) hb2 (by omega)
      have m1 : c2 558 31 = mdX f := (hs.2 558 31 (by decide) (by decide)).trans kMd_31
      have m2 : c2 558 32 = mdY f := (hs.2 558 32 (by decide) (by decide)).trans kMd_32
      have m3 : c2 558 33 = mdL f := (hs.2 558 33 (by decide) (by decide)).trans kMd_33
      have h9 := h _ _ _ hs kFr.rf.md (by intro s p q; repeat (first | exact rfl | refine kUn (by omega) ?_ | exact hk s p q))
      dsimp only
      rw [m1, m2, m3]
      refine ⟨fun w0 => ⟨fun w1 => ?_, fun w1 => ?_⟩, fun w0 => ?_⟩
      · rw [if_neg w0, if_neg w1] at h9; exact h9
      · rw [if_neg w0, if_pos w1] at h9; exact h9
      · rw [if_pos w0] at h9; exact h9
    · rw [if_neg z] at h
      exact h _ _ _ hs kFr.rf (by intro s p q; repeat (first | exact rfl | refine kUn (by omega) ?_ | exact hk s p q))
  · rw [if_neg z] at h
    exact h _ _ _ hs kFr.rf (by intro s p q; repeat (first | exact rfl | refine kUn (by omega) ?_ | exact hk s p q))
theorem kfar2 {kd : Int} (hb : kB kLB f) : kB 200000000 (mulP kd farP f) := by
  intro k h0 h1
  have hz : ∀ a : Nat, a < 16 → a ≠ 4 → a ≠ 8 → kT kd farP f k.toNat a = 0 := by
    intro a ha h4 h8
    unfold kT farP
    rw [if_neg (show ¬ ((a : Int) = 4 ∨ (a : Int) = 8) by omega)]
    split <;> simp
  have hb1 : ∀ a : Nat, a < 16 → -100000000 ≤ kT kd farP f k.toNat a ∧ kT kd farP f k.toNat a ≤ 100000000 := by
    intro a ha
    have hx := (kx16 a ha k.toNat (by omega)).1
    have h3 : -100000000 ≤ f ((a ^^^ k.toNat : Nat) : Int) ∧ f ((a ^^^ k.toNat : Nat) : Int) ≤ 100000000 := hb _ (Int.natCast_nonneg _) (by omega)
    unfold kT farP
    split
    · rcases ksg_abs a (a ^^^ k.toNat) with e | e <;> rw [e] <;> split <;> simp <;> omega
    · omega
  have e : mulP kd farP f k = kT kd farP f k.toNat 4 + kT kd farP f k.toNat 8 := by
    show kSum 16 (kT kd farP f k.toNat) = _
    simp only [kSum]
    rw [hz 0 (by omega) (by omega) (by omega), hz 1 (by omega) (by omega) (by omega), hz 2 (by omega) (by omega) (by omega), hz 3 (by omega) (by omega) (by omega), hz 5 (by omega) (by omega) (by omega), hz 6 (by omega) (by omega) (by omega), hz 7 (by omega) (by omega) (by omega), hz 9 (by omega) (by omega) (by omega), hz 10 (by omega) (by omega) (by omega), hz 11 (by omega) (by omega) (by omega), hz 12 (by omega) (by omega) (by omega), hz 13 (by omega) (by omega) (by omega), hz 14 (by omega) (by omega) (by omega), hz 15 (by omega) (by omega) (by omega)]
    omega
  have h4 := hb1 4 (by omega)
  have h8 := hb1 8 (by omega)
  omega
theorem t_pairMiddle (hL : kLay S0) (hg : kSgn c0) (hs : kPh Φ c0 c) (h : ∀ (Φ' : Int → KF) c1 c', kPh Φ' c1 c' → kFr c0 c1 → (∀ s : Int, 0 ≤ s → s < 12 ∨ s = 30 → Φ' s = Φ s) → P (some (kL (pmN f x2))) c') (hw : 0 ≤ x2 ∧ x2 ≤ 2) (hp : 0 ≤ x1 ∧ x1 < 12) (e : Φ x1 = f) (e3 : Φ 30 = farP) (hb : kB kLB f) : kC2 G S0 kM_X11_pairMiddle (d + 6) [kA 558, kI x1, kI x2] c P := by
  unfold pmN at h
  refine v_X11_pairMiddle hL (by omega) (by omega) ?_
  refine t_joins hL hg hs (fun c2 hs => ⟨rfl, ?_⟩)
  refine t_isWithin hL hs (fun z => ⟨1, rfl, kq1 ?_⟩) (fun z => ⟨0, rfl, kq0 ?_⟩)
  · rw [if_pos z] at h
    have b1 : kB kLB (mulP 0 f farP) := kWb_iff.mp z
    refine t_joins hL hg hs (fun c3 hs => ⟨rfl, ?_⟩)
    refine t_pointAt hL hg hs (fun Φ' c1 c' hs hf hk => ⟨_, rfl, ?_⟩) hw (by omega) kUs (by repeat (first | with_reducible exact kUs | with_reducible assumption | (with_reducible apply kUn; omega) | exact rfl)) (mulP_bdL b1 hb) (by decide)
    exact h _ _ _ hs hf (by intro s p q; refine (hk s p q).trans ?_; repeat (first | exact rfl | refine kUn (by omega) ?_))
  · rw [if_neg z] at h
    exact h _ _ _ hs kFr.rf (by intro s p q; repeat (first | exact rfl | refine kUn (by omega) ?_ | exact hk s p q))
theorem t_half (hL : kLay S0) (hg : kSgn c0) (hs : kPh Φ c0 c) (h : ∀ (Φ' : Int → KF) c1 c', kPh Φ' c1 c' → kFr c0 c1 → (∀ s : Int, 0 ≤ s → s < 12 ∨ s = 30 → Φ' s = Φ s) → P (some (kL (hfN f x2))) c') (r2 : k32 x2) (hp : 0 ≤ x1 ∧ x1 < 12) (e : Φ x1 = f) (e3 : Φ 30 = farP) (hb : kB kLB f) : kC2 G S0 kM_X11_half (d + 3) [kA 558, kI x1, kI x2] c P := by
  unfold hfN at h
  refine v_X11_half hL (by omega) r2 ?_
  refine t_squareOf hL hg hs (fun c2 b hs => ⟨_, rfl, ?_⟩)
  refine t_joins hL hg hs (fun c2 hs => ⟨rfl, ?_⟩)
  have b2 : kB 200000000 (mulP 2 farP f) := kfar2 hb
  refine t_squareOf hL hg hs (fun c2 b hs => ⟨_, rfl, ?_⟩)
  have h9 := h _ _ _ hs kFr.rf (by intro s p q; repeat (first | exact rfl | refine kUn (by omega) ?_ | exact hk s p q))
  have q1 := mulP_bdL (kd := 0) hb hb 0 (by omega) (by omega)
  have q2 := mulP_bd (kd := 0) (M := 200000000) (N := 200000000) (by decide) (by decide) b2 b2 0 (by omega) (by omega)
  have ee : (16 : Int) * (200000000 * 200000000) = 640000000000000000 := by decide
  rw [ee] at q2
  revert h9 q1 q2
  generalize mulP 0 f f 0 = p
  generalize mulP 0 (mulP 2 farP f) (mulP 2 farP f) 0 = q
  intro h9 q1 q2
  refine ⟨k64i (by omega), k64i (by omega), fun w1 => ?_, fun w1 => ⟨k64i (by omega), k64i (by omega), fun w2 => ?_, fun w2 => ⟨fun w3 => ?_, fun w3 => ?_⟩⟩⟩
  · rw [if_pos w1] at h9; exact h9
  · rw [if_neg (by omega), if_pos w2] at h9; exact h9
  · rw [if_neg (by omega), if_neg (by omega), if_neg w3] at h9
    exact s_X11_lowest hL r2 (by unfold k63; omega) (by unfold k63; omega) w3 ⟨_, rfl, h9⟩
  · rw [if_neg (by omega), if_neg (by omega), if_pos w3] at h9; exact h9
end MQ7
