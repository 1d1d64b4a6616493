theorem kanp (a b : Nat) (ha : a < 4096) (hb : b < 4096) : kand a (kxor b (-1)) = 0 ↔ ∀ k, k < 12 → Nat.testBit a k = true → Nat.testBit b k = true := by
  unfold kand kxor
  rw [Int32.ofInt_toInt]
  have h0 : ∀ x : Int32, x.toInt = 0 ↔ ∀ i, i < 32 → x.toBitVec.getLsbD i = false := by
    intro x
    constructor
    · intro h i hi
      have e : x.toBitVec.toInt = (0#32).toInt := h
      rw [BitVec.toInt_inj.mp e]
      simp
    · intro h
      have e : x.toBitVec = 0#32 := BitVec.eq_of_getLsbD_eq (fun i hi => by rw [h i hi]; simp)
      show x.toBitVec.toInt = 0
      rw [e]; rfl
  rw [h0]
  have e1 : (Int32.ofInt (-1)).toBitVec = BitVec.allOnes 32 := by decide
  constructor
  · intro h k hk hak
    have := h k (by omega)
    rw [Int32.toBitVec_and, Int32.toBitVec_xor, kbv_of (by omega), kbv_of (by omega), e1, BitVec.getLsbD_and, BitVec.getLsbD_xor, BitVec.getLsbD_ofNat, BitVec.getLsbD_ofNat, BitVec.getLsbD_allOnes] at this
    simp [show k < 32 by omega, hak] at this
    exact this
  · intro h k hk
    rw [Int32.toBitVec_and, Int32.toBitVec_xor, kbv_of (by omega), kbv_of (by omega), e1, BitVec.getLsbD_and, BitVec.getLsbD_xor, BitVec.getLsbD_ofNat, BitVec.getLsbD_ofNat, BitVec.getLsbD_allOnes]
    by_cases w : k < 12
    · cases q : Nat.testBit a k with
      | false => simp
      | true => rw [h k w q]; simp [hk]
    · have : Nat.testBit a k = false := Nat.testBit_lt_two_pow (Nat.lt_of_lt_of_le ha (by have := Nat.pow_le_pow_right (n := 2) (by omega) (show 12 ≤ k by omega); omega))
      rw [this]; simp
set_option maxRecDepth 4000 in
theorem v_X11_arePoints {G : KG} {S0 : KSh} (hL : kLay S0) {d : Nat} {P : Option AV → KMem → Prop} {c : KMem} {x1 : Int} (r1 : -2147483648 ≤ x1 ∧ x1 < 2147483648) (hp : -2147483648 ≤ c 558 37 ∧ c 558 37 < 2147483648) (H : ((kand x1 (kxor (c 558 37) (-1))) ≠ 0 → (P (some (kI 0)) c)) ∧ ((kand x1 (kxor (c 558 37) (-1))) = 0 → (P (some (kI 1)) c))) : kC2 G S0 kM_X11_arePoints d [kA 558, kI x1] c P := by
  refine k2_met (by decide) rfl (Nat.le_of_ble_eq_true rfl) (l0 := [some (kA 558), some (kI x1)]) rfl ?_
  refine kw_iload_n dX11_arePoints_0 rfl ?_
  refine kw_aload_n dX11_arePoints_1 rfl ?_
  refine k2_getI fd_X11_37 dX11_arePoints_2 wf_X11_452 (lsh_558 hL) ?_
  refine kw_eI (b := (c 558 37)) rfl ?_
  refine kw_iconst dX11_arePoints_5 ?_
  refine kw_ixor dX11_arePoints_6 ?_
  refine kw_iand dX11_arePoints_7 ?_
  refine kw_if_ne 15 dX11_arePoints_8 (by decide) (k32_kand _ _) (fun h1 => ?_) (fun h1 => ?_)
  · have H := H.1 h1
    refine kw_iconst dX11_arePoints_15 ?_
    refine k2_zret dX11_arePoints_16 rfl (Or.inl rfl) H
  · have H := H.2 h1
    refine kw_iconst dX11_arePoints_11 ?_
    refine kw_goto 16 dX11_arePoints_12 (by decide) ?_
    refine k2_zret dX11_arePoints_16 rfl (Or.inr rfl) H
set_option maxRecDepth 4000 in
theorem v_X11_isPlainObject {G : KG} {S0 : KSh} (hL : kLay S0) {d : Nat} {P : Option AV → KMem → Prop} {c : KMem} {x1 : Int} (r1 : -2147483648 ≤ x1 ∧ x1 < 2147483648) (H : (kStd c) ∧ (((kHas c x1) → (kC2 G S0 kM_X11_isObject (d + 5) [kA 558, kI x1] c (kRI (fun z4 c5 => (k32 z4) ∧ ((z4 = 0 → (P (some (kI 0)) c5)) ∧ (z4 ≠ 0 → ((k32 (c5 558 37)) ∧ (((kand (kshr (c5 558 37) x1) 1 = 1) → (P (some (kI 0)) c5)) ∧ (¬ (kand (kshr (c5 558 37) x1) 1 = 1) → (P (some (kI 1)) c5)))))))))) ∧ (¬ (kHas c x1) → (P (some (kI 0)) c)))) : kC2 G S0 kM_X11_isPlainObject (d + 6) [kA 558, kI x1] c P := by
  refine k2_met (by decide) rfl (Nat.le_of_ble_eq_true rfl) (l0 := [some (kA 558), some (kI x1)]) rfl ?_
  refine kw_aload_n dX11_isPlainObject_0 rfl ?_
  refine kw_iload_n dX11_isPlainObject_1 rfl ?_
  have o1 := H.1
  have H := H.2
  refine k2_callV1I (ci := 9) (N := 38) (T := TX11) rfl (lsh_558 hL) m_X11_isLetter dX11_isPlainObject_2 wl_X11_161 (Nat.le_of_ble_eq_true rfl) (s_X11_isLetter hL (k32i (by omega)) o1 (fun h2 => ⟨_, rfl, ?_⟩) (fun h2 => ⟨_, rfl, ?_⟩))
  · have H := H.1 h2
    refine kw_if_eq 31 dX11_isPlainObject_5 (by decide) (k32i (by omega)) (fun h3 => absurd h3 (by decide)) (fun _ => ?_)
    refine kw_aload_n dX11_isPlainObject_8 rfl ?_
    refine kw_iload_n dX11_isPlainObject_9 rfl ?_
    refine k2_callV1I (ci := 9) (N := 38) (T := TX11) rfl (lsh_558 hL) m_X11_isObject dX11_isPlainObject_10 wl_X11_356 (Nat.le_of_ble_eq_true rfl) (kC2_mono H (fun r c5 H => ?_))
    obtain ⟨z4, rfl, H⟩ := H
    refine ⟨z4, rfl, ?_⟩
    have o7 := H.1
    have H := H.2
    refine kw_if_eq 31 dX11_isPlainObject_13 (by decide) o7 (fun h6 => ?_) (fun h6 => ?_)
    · have H := H.1 h6
      refine kw_iconst dX11_isPlainObject_31 ?_
      refine k2_zret dX11_isPlainObject_32 rfl (Or.inl rfl) H
    · have H := H.2 h6
      refine kw_aload_n dX11_isPlainObject_16 rfl ?_
      refine k2_getI fd_X11_37 dX11_isPlainObject_17 wf_X11_452 (lsh_558 hL) ?_
      refine kw_iload_n dX11_isPlainObject_20 rfl ?_
      have o8 := H.1
      have H := H.2
      refine k2_callS2I m_X11_has dX11_isPlainObject_21 wl_X11_80 (Nat.le_of_ble_eq_true rfl) (s_X11_has hL o8 (k32i (by omega)) (fun h9 => ⟨_, rfl, ?_⟩) (fun h9 => ⟨_, rfl, ?_⟩))
      · have H := H.1 h9
        refine kw_if_ne 31 dX11_isPlainObject_24 (by decide) (k32i (by omega)) (fun _ => ?_) (fun h10 => absurd h10 (by decide))
        refine kw_iconst dX11_isPlainObject_31 ?_
        refine k2_zret dX11_isPlainObject_32 rfl (Or.inl rfl) H
      · have H := H.2 h9
        refine kw_if_ne 31 dX11_isPlainObject_24 (by decide) (k32i (by omega)) (fun h11 => absurd h11 (by decide)) (fun _ => ?_)
        refine kw_iconst dX11_isPlainObject_27 ?_
        refine kw_goto 32 dX11_isPlainObject_28 (by decide) ?_
        refine k2_zret dX11_isPlainObject_32 rfl (Or.inr rfl) H
  · have H := H.2 h2
    refine kw_if_eq 31 dX11_isPlainObject_5 (by decide) (k32i (by omega)) (fun _ => ?_) (fun h12 => absurd h12 (by decide))
    refine kw_iconst dX11_isPlainObject_31 ?_
    refine k2_zret dX11_isPlainObject_32 rfl (Or.inl rfl) H
section MMT
variable {G : KG} {S0 : KSh} {d : Nat} {P : Option AV → KMem → Prop} {c c0 : KMem} {Φ : Int → KF} {H : Int → Bool} {F : Int → KF} {f g : KF} {M m : Int} {S : KLs} {x0 x1 x2 x3 x4 : Int}
theorem t_arePoints (hL : kLay S0) (hs : kPh Φ c0 c) (h37 : c0 558 37 = kPs H F) {n : Nat} (hn : n < 4096) (h1 : (∀ k, k < 12 → Nat.testBit n k = true → kPt H F k = true) → P (some (kI 1)) c) (h0 : ¬ (∀ k, k < 12 → Nat.testBit n k = true → kPt H F k = true) → P (some (kI 0)) c) : kC2 G S0 kM_X11_arePoints d [kA 558, kI n] c P := by
  have hps := kPs_rg H F
  have e7 : c 558 37 = kPs H F := (hs.2 558 37 (by decide) (by decide)).trans h37
  have hb := kBits_lt (kPt H F) 12
  have ei : kand (n : Int) (kxor (kPs H F) (-1)) = 0 ↔ ∀ k, k < 12 → Nat.testBit n k = true → kPt H F k = true := by
    unfold kPs
    rw [kanp n _ hn (by omega)]
    constructor
    · intro h k hk hb
      have := h k hk hb
      rw [kBits_bit, decide_eq_true hk, Bool.true_and] at this
      exact this
    · intro h k hk hb
      rw [kBits_bit, decide_eq_true hk, Bool.true_and]
      exact h k hk hb
  refine v_X11_arePoints hL (by omega) ⟨by rw [e7]; omega, by rw [e7]; omega⟩ ?_
  rw [e7]
  exact ⟨fun q => h0 (fun w => q (ei.mpr w)), fun q => h1 (ei.mp q)⟩
/-- an OBJECT that is no POINT -/
def kBr (H : Int → Bool) (F : Int → KF) (l : Nat) : Bool := H l && kObjB (kind (F l)) && !kPt H F l
theorem t_isPlainObject (hL : kLay S0) (hg : kSgn c0) (hs : kPh Φ c0 c) (e3 : Φ 30 = farP) (hl : kLet2 H F Φ c0) (h37 : c0 558 37 = kPs H F) {l : Nat} (hl12 : l < 12) (hst : kStd c) (hh : ∀ k : Int, kHas c k ↔ H k = true) (h1 : ∀ c' a b, kPh (kU (kU Φ 29 a) 31 b) c0 c' → kBr H F l = true → P (some (kI 1)) c') (h0 : ∀ (Φ' : Int → KF) c', kPh Φ' c0 c' → (∀ s : Int, 0 ≤ s → s < 12 ∨ s = 30 → Φ' s = Φ s) → ¬ kBr H F l = true → P (some (kI 0)) c') : kC2 G S0 kM_X11_isPlainObject (d + 6) [kA 558, kI l] c P := by
  have hps := kPs_rg H F
  have ei : kBr H F l = true ↔ H l = true ∧ kObj (kind (F l)) ∧ ¬ kPt H F l = true := by
    unfold kBr; rw [← kObjB_iff]; simp [and_assoc]
  rw [ei] at h1 h0
  refine v_X11_isPlainObject hL (by omega) ⟨hst, fun z1 => ?_, fun z1 => h0 _ _ hs (fun _ _ _ => rfl) (fun w => z1 ((hh l).mpr w.1))⟩
  have y1 := (hh l).mp z1
  obtain ⟨a1, b1, e1, f1⟩ := hl.1 l y1
  refine t_isObject hL hg hs (fun c1 a b hs z => ⟨1, rfl, kr1 ?_⟩) (fun c1 a b hs z => ⟨0, rfl, kr0 ?_⟩)
  · have e7 : c1 558 37 = kPs H F := (hs.2 558 37 (by decide) (by decide)).trans h37
    rw [e7]
    refine ⟨k32i (by omega), fun q => ?_, fun q => ?_⟩
    · exact h0 _ _ hs (by intro s p q; repeat (first | exact rfl | refine kUn (by omega) ?_ | exact hk s p q)) (fun w => w.2.2 (by rw [← kPs_bit hl12]; exact (kbit_iff hps hl12).mp q))
    · exact h1 _ _ _ hs ⟨y1, z, fun w => q ((kbit_iff hps hl12).mpr (by rw [kPs_bit hl12]; exact w))⟩
  · exact h0 _ _ hs (by intro s p q; repeat (first | exact rfl | refine kUn (by omega) ?_ | exact hk s p q)) (fun w => z w.2.1)
end MMT
