/-- whether a letter is in a set of bits -/
def kbit (m : Int) (k : Nat) : Bool := Nat.testBit m.toNat k
theorem kbit_c : ∀ a, a < 64 → ∀ b, b < 64 → ∀ k, k < 12 → ((kand (kshr ((64 * a + b : Nat) : Int) ((k : Nat) : Int)) 1 == 1) = Nat.testBit (64 * a + b) k) := by decide +kernel
theorem kbit_iff {m : Int} {k : Nat} (h : 0 ≤ m ∧ m < 4096) (hk : k < 12) : kand (kshr m k) 1 = 1 ↔ kbit m k = true := by
  obtain ⟨n, rfl⟩ := kint_nat h.1
  have := k4096 (p := fun x => ∀ k, k < 12 → ((kand (kshr (x : Int) ((k : Nat) : Int)) 1 == 1) = Nat.testBit x k)) kbit_c n (by omega) k hk
  show _ ↔ Nat.testBit n k = true
  rw [← this, beq_iff_eq]
theorem kpop_c : ∀ a, a < 64 → ∀ b, b < 64 → kpop (64 * a + b) = kCn (fun k => Nat.testBit (64 * a + b) k) 12 := by decide +kernel
theorem kpop_bit {m : Int} (h : 0 ≤ m ∧ m < 4096) : kpop m.toNat = kCn (kbit m) 12 := by
  obtain ⟨n, rfl⟩ := kint_nat h.1
  exact k4096 (p := fun x => kpop x = kCn (fun k => Nat.testBit x k) 12) kpop_c n (by omega)
/-- a row of FORMS: how many, and which -/
abbrev KLs : Type := Nat × (Nat → KF)
def lsHas (L : Nat → KF) (f : KF) : Nat → Bool
  | 0 => false
  | n + 1 => lsHas L f n || kSameB (L n) f
theorem lsHas_iff {L : Nat → KF} {f : KF} : ∀ n, lsHas L f n = true ↔ ∃ i, i < n ∧ kEq (L i) f
  | 0 => ⟨fun h => absurd h (by simp [lsHas]), fun ⟨i, hi, _⟩ => absurd hi (by omega)⟩
  | n + 1 => by
    show (lsHas L f n || kSameB (L n) f) = true ↔ _
    rw [Bool.or_eq_true, lsHas_iff n, kSameB_iff]
    constructor
    · rintro (⟨i, a, b⟩ | h)
      · exact ⟨i, by omega, b⟩
      · exact ⟨n, by omega, h⟩
    · rintro ⟨i, a, b⟩
      by_cases e : i = n
      · subst e; exact Or.inr b
      · exact Or.inl ⟨i, by omega, b⟩
def lsPut (S : KLs) (f : KF) : KLs := (S.1 + 1, fun i => if i = S.1 then f else S.2 i)
def lsAdd (S : KLs) (f : KF) : KLs := if lsHas S.2 f S.1 = true then S else lsPut S f
def kLs (S : KLs) (c : KMem) : Prop := c 558 14 = S.1 ∧ ∀ i : Nat, i < S.1 → kEq (fun k => c 563 (16 * (i : Int) + k)) (S.2 i) ∧ kB kLB (S.2 i)
set_option maxRecDepth 4000 in
theorem v_X11_listsForm {G : KG} {S0 : KSh} (hL : kLay S0) {d : Nat} {P : Option AV → KMem → Prop} {c : KMem} {x1 : Int} (r1 : -2147483648 ≤ x1 ∧ x1 < 2147483648) (H : kW2 G S0 kM_X11_listsForm d 2 [some (kA 558), some (kI x1), some (kI 0)] [] c P) : kC2 G S0 kM_X11_listsForm d [kA 558, kI x1] c P := by
  refine k2_met (by decide) rfl (Nat.le_of_ble_eq_true rfl) (l0 := [some (kA 558), some (kI x1), none]) rfl ?_
  refine kw_iconst dX11_listsForm_0 ?_
  refine kw_istore_n dX11_listsForm_1 (Nat.le_of_ble_eq_true rfl) ?_
  exact kw_forget (ls' := [some (kA 558), some (kI x1), some (kI 0)]) ⟨Or.inr rfl, ⟨Or.inr rfl, ⟨Or.inr rfl, trivial⟩⟩⟩ H
set_option maxRecDepth 4000 in
theorem v_X11_listsForm_2 {G : KG} {S0 : KSh} (hL : kLay S0) {d : Nat} {P : Option AV → KMem → Prop} {c : KMem} {x1 x2 : Int} (r1 : -2147483648 ≤ x1 ∧ x1 < 2147483648) (r2 : 0 ≤ x2 ∧ x2 < 2147483648) (hp : 0 ≤ x1 ∧ x1 < 100 ∧ 0 ≤ c 558 14 ∧ c 558 14 < 300) (H : (16 ≤ x2 → (P none (kup c 558 14 ((c 558 14) + 1)))) ∧ (x2 < 16 → (kW2 G S0 kM_X11_listsForm d 2 [some (kA 558), some (kI x1), some (kI (x2 + 1))] [] (kup c 563 ((16 * (c 558 14)) + x2) (c 559 ((16 * x1) + x2))) P))) : kW2 G S0 kM_X11_listsForm d 2 [some (kA 558), some (kI x1), some (kI x2)] [] c P := by
  refine kw_iload_n dX11_listsForm_2 rfl ?_
  refine kw_bipush dX11_listsForm_3 (by decide) ?_
  refine kw_icmp_ge 39 dX11_listsForm_5 (by decide) (k32i (by omega)) (k32i (by omega)) (fun h1 => ?_) (fun h1 => ?_)
  · have H := H.1 h1
    refine kw_aload_n dX11_listsForm_39 rfl ?_
    refine kw_aload_n dX11_listsForm_40 rfl ?_
    refine k2_getI fd_X11_14 dX11_listsForm_41 wf_X11_406 (lsh_558 hL) ?_
    refine kw_eI (b := (c 558 14)) rfl ?_
    refine kw_iconst dX11_listsForm_44 ?_
    refine kw_iadd dX11_listsForm_45 ?_
    refine k2_putI fp_X11_14 dX11_listsForm_46 wf_X11_406 (lsh_558 hL) ?_
    refine k2_ret dX11_listsForm_49 rfl H
  · have H := H.2 h1
    refine kw_aload_n dX11_listsForm_8 rfl ?_
    refine k2_getR fd_X11_4 dX11_listsForm_9 wf_X11_22 (lsh_558 hL) (lrf_558_4 hL) ?_
    refine kw_bipush dX11_listsForm_12 (by decide) ?_
    refine kw_aload_n dX11_listsForm_14 rfl ?_
    refine k2_getI fd_X11_14 dX11_listsForm_15 wf_X11_406 (lsh_558 hL) ?_
    refine kw_eI (b := (c 558 14)) rfl ?_
    refine kw_imul dX11_listsForm_18 ?_
    refine kw_iload_n dX11_listsForm_19 rfl ?_
    refine kw_iadd dX11_listsForm_20 ?_
    refine kw_aload_n dX11_listsForm_21 rfl ?_
    refine k2_getR fd_X11_0 dX11_listsForm_22 wf_X11_7 (lsh_558 hL) (lrf_558_0 hL) ?_
    refine kw_bipush dX11_listsForm_25 (by decide) ?_
    refine kw_iload_n dX11_listsForm_27 rfl ?_
    refine kw_imul dX11_listsForm_28 ?_
    refine kw_iload_n dX11_listsForm_29 rfl ?_
    refine kw_iadd dX11_listsForm_30 ?_
    refine k2_lald dX11_listsForm_31 (lsh_559 hL) (by omega) (by omega) ?_
    refine k2_last dX11_listsForm_32 (lsh_563 hL) (by omega) (by omega) ?_
    refine kw_iinc dX11_listsForm_33 rfl ?_
    refine kw_goto 2 dX11_listsForm_36 (by decide) ?_
    exact kw_forget (ls' := [some (kA 558), some (kI x1), some (kI (x2 + 1))]) ⟨Or.inr rfl, ⟨Or.inr rfl, ⟨Or.inr rfl, trivial⟩⟩⟩ H
set_option maxRecDepth 4000 in
theorem v_X11_takesListed {G : KG} {S0 : KSh} (hL : kLay S0) {d : Nat} {P : Option AV → KMem → Prop} {c : KMem} {x1 x2 : Int} (r1 : -2147483648 ≤ x1 ∧ x1 < 2147483648) (r2 : -2147483648 ≤ x2 ∧ x2 < 2147483648) (H : kW2 G S0 kM_X11_takesListed d 2 [some (kA 558), some (kI x1), some (kI x2), some (kI 0)] [] c P) : kC2 G S0 kM_X11_takesListed d [kA 558, kI x1, kI x2] c P := by
  refine k2_met (by decide) rfl (Nat.le_of_ble_eq_true rfl) (l0 := [some (kA 558), some (kI x1), some (kI x2), none]) rfl ?_
  refine kw_iconst dX11_takesListed_0 ?_
  refine kw_istore_n dX11_takesListed_1 (Nat.le_of_ble_eq_true rfl) ?_
  exact kw_forget (ls' := [some (kA 558), some (kI x1), some (kI x2), some (kI 0)]) ⟨Or.inr rfl, ⟨Or.inr rfl, ⟨Or.inr rfl, ⟨Or.inr rfl, trivial⟩⟩⟩⟩ H
set_option maxRecDepth 4000 in
theorem v_X11_takesListed_2 {G : KG} {S0 : KSh} (hL : kLay S0) {d : Nat} {P : Option AV → KMem → Prop} {c : KMem} {x1 x2 x3 : Int} (r1 : -2147483648 ≤ x1 ∧ x1 < 2147483648) (r2 : -2147483648 ≤ x2 ∧ x2 < 2147483648) (r3 : 0 ≤ x3 ∧ x3 < 2147483648) (hp : 0 ≤ x1 ∧ x1 < 300 ∧ 0 ≤ x2 ∧ x2 < 100) (H : (16 ≤ x3 → (P none c)) ∧ (x3 < 16 → (kW2 G S0 kM_X11_takesListed d 2 [some (kA 558), some (kI x1), some (kI x2), some (kI (x3 + 1))] [] (kup c 559 ((16 * x2) + x3) (c 563 ((16 * x1) + x3))) P))) : kW2 G S0 kM_X11_takesListed d 2 [some (kA 558), some (kI x1), some (kI x2), some (kI x3)] [] c P := by
  refine kw_iload_n dX11_takesListed_2 rfl ?_
  refine kw_bipush dX11_takesListed_3 (by decide) ?_
  refine kw_icmp_ge 36 dX11_takesListed_5 (by decide) (k32i (by omega)) (k32i (by omega)) (fun h1 => ?_) (fun h1 => ?_)
  · have H := H.1 h1
    refine k2_ret dX11_takesListed_36 rfl H
  · have H := H.2 h1
    refine kw_aload_n dX11_takesListed_8 rfl ?_
    refine k2_getR fd_X11_0 dX11_takesListed_9 wf_X11_7 (lsh_558 hL) (lrf_558_0 hL) ?_
    refine kw_bipush dX11_takesListed_12 (by decide) ?_
    refine kw_iload_n dX11_takesListed_14 rfl ?_
    refine kw_imul dX11_takesListed_15 ?_
    refine kw_iload_n dX11_takesListed_16 rfl ?_
    refine kw_iadd dX11_takesListed_17 ?_
    refine kw_aload_n dX11_takesListed_18 rfl ?_
    refine k2_getR fd_X11_4 dX11_takesListed_19 wf_X11_22 (lsh_558 hL) (lrf_558_4 hL) ?_
    refine kw_bipush dX11_takesListed_22 (by decide) ?_
    refine kw_iload_n dX11_takesListed_24 rfl ?_
    refine kw_imul dX11_takesListed_25 ?_
    refine kw_iload_n dX11_takesListed_26 rfl ?_
    refine kw_iadd dX11_takesListed_27 ?_
    refine k2_lald dX11_takesListed_28 (lsh_563 hL) (by omega) (by omega) ?_
    refine k2_last dX11_takesListed_29 (lsh_559 hL) (by omega) (by omega) ?_
    refine kw_iinc dX11_takesListed_30 rfl ?_
    refine kw_goto 2 dX11_takesListed_33 (by decide) ?_
    exact kw_forget (ls' := [some (kA 558), some (kI x1), some (kI x2), some (kI (x3 + 1))]) ⟨Or.inr rfl, ⟨Or.inr rfl, ⟨Or.inr rfl, ⟨Or.inr rfl, trivial⟩⟩⟩⟩ H
set_option maxRecDepth 4000 in
theorem v_X11_isListed {G : KG} {S0 : KSh} (hL : kLay S0) {d : Nat} {P : Option AV → KMem → Prop} {c : KMem} {x1 : Int} (r1 : -2147483648 ≤ x1 ∧ x1 < 2147483648) (H : kW2 G S0 kM_X11_isListed d 2 [some (kA 558), some (kI x1), some (kI 0), none, none] [] c P) : kC2 G S0 kM_X11_isListed d [kA 558, kI x1] c P := by
  refine k2_met (by decide) rfl (Nat.le_of_ble_eq_true rfl) (l0 := [some (kA 558), some (kI x1), none, none, none]) rfl ?_
  refine kw_iconst dX11_isListed_0 ?_
  refine kw_istore_n dX11_isListed_1 (Nat.le_of_ble_eq_true rfl) ?_
  exact kw_forget (ls' := [some (kA 558), some (kI x1), some (kI 0), none, none]) ⟨Or.inr rfl, ⟨Or.inr rfl, ⟨Or.inr rfl, ⟨Or.inr rfl, ⟨Or.inr rfl, trivial⟩⟩⟩⟩⟩ H
set_option maxRecDepth 4000 in
theorem v_X11_isListed_2 {G : KG} {S0 : KSh} (hL : kLay S0) {d : Nat} {P : Option AV → KMem → Prop} {c : KMem} {x1 x2 : Int} (r1 : -2147483648 ≤ x1 ∧ x1 < 2147483648) (r2 : 0 ≤ x2 ∧ x2 < 2147483648) (hp : 0 ≤ x1 ∧ x1 < 100 ∧ 0 ≤ c 558 14 ∧ c 558 14 < 301) (H : ((c 558 14) ≤ x2 → (P (some (kI 0)) c)) ∧ (x2 < (c 558 14) → (kW2 G S0 kM_X11_isListed d 15 [some (kA 558), some (kI x1), some (kI x2), some (kI 1), some (kI 0)] [] c P))) : kW2 G S0 kM_X11_isListed d 2 [some (kA 558), some (kI x1), some (kI x2), none, none] [] c P := by
  refine kw_iload_n dX11_isListed_2 rfl ?_
  refine kw_aload_n dX11_isListed_3 rfl ?_
  refine k2_getI fd_X11_14 dX11_isListed_4 wf_X11_406 (lsh_558 hL) ?_
  refine kw_eI (b := (c 558 14)) rfl ?_
  refine kw_icmp_ge 78 dX11_isListed_7 (by decide) (k32i (by omega)) (k32i (by omega)) (fun h1 => ?_) (fun h1 => ?_)
  · have H := H.1 h1
    refine kw_iconst dX11_isListed_78 ?_
    refine k2_zret dX11_isListed_79 rfl (Or.inl rfl) H
  · have H := H.2 h1
    refine kw_iconst dX11_isListed_10 ?_
    refine kw_istore_n dX11_isListed_11 (Nat.le_of_ble_eq_true rfl) ?_
    refine kw_iconst dX11_isListed_12 ?_
    refine kw_istore dX11_isListed_13 (Nat.le_of_ble_eq_true rfl) ?_
    exact kw_forget (ls' := [some (kA 558), some (kI x1), some (kI x2), some (kI 1), some (kI 0)]) ⟨Or.inr rfl, ⟨Or.inr rfl, ⟨Or.inr rfl, ⟨Or.inr rfl, ⟨Or.inr rfl, trivial⟩⟩⟩⟩⟩ H
set_option maxRecDepth 4000 in
theorem v_X11_isListed_15 {G : KG} {S0 : KSh} (hL : kLay S0) {d : Nat} {P : Option AV → KMem → Prop} {c : KMem} {x1 x2 x3 x4 : Int} (r1 : -2147483648 ≤ x1 ∧ x1 < 2147483648) (r2 : 0 ≤ x2 ∧ x2 < 2147483648) (r3 : 0 ≤ x3 ∧ x3 < 2147483648) (r4 : 0 ≤ x4 ∧ x4 < 2147483648) (hp : 0 ≤ x1 ∧ x1 < 100 ∧ 0 ≤ x2 ∧ x2 < 300) (H : (16 ≤ x4 → ((x3 = 0 → (kW2 G S0 kM_X11_isListed d 2 [some (kA 558), some (kI x1), some (kI (x2 + 1)), none, none] [] c P)) ∧ (x3 ≠ 0 → (P (some (kI 1)) c)))) ∧ (x4 < 16 → ((x3 = 0 → (kW2 G S0 kM_X11_isListed d 15 [some (kA 558), some (kI x1), some (kI x2), some (kI 0), some (kI (x4 + 1))] [] c P)) ∧ (x3 ≠ 0 → ((k64 (c 563 ((16 * x2) + x4))) ∧ ((k64 (c 559 ((16 * x1) + x4))) ∧ (((c 563 ((16 * x2) + x4)) ≠ (c 559 ((16 * x1) + x4)) → (kW2 G S0 kM_X11_isListed d 15 [some (kA 558), some (kI x1), some (kI x2), some (kI 0), some (kI (x4 + 1))] [] c P)) ∧ ((c 563 ((16 * x2) + x4)) = (c 559 ((16 * x1) + x4)) → (kW2 G S0 kM_X11_isListed d 15 [some (kA 558), some (kI x1), some (kI x2), some (kI 1), some (kI (x4 + 1))] [] c P))))))))) : kW2 G S0 kM_X11_isListed d 15 [some (kA 558), some (kI x1), some (kI x2), some (kI x3), some (kI x4)] [] c P := by
  refine kw_iload dX11_isListed_15 rfl ?_
  refine kw_bipush dX11_isListed_17 (by decide) ?_
  refine kw_icmp_ge 66 dX11_isListed_19 (by decide) (k32i (by omega)) (k32i (by omega)) (fun h2 => ?_) (fun h2 => ?_)
  · have H := H.1 h2
    refine kw_iload_n dX11_isListed_66 rfl ?_
    refine kw_if_eq 72 dX11_isListed_67 (by decide) (k32i (by omega)) (fun h3 => ?_) (fun h3 => ?_)
    · have H := H.1 h3
      refine kw_iinc dX11_isListed_72 rfl ?_
      refine kw_goto 2 dX11_isListed_75 (by decide) ?_
      exact kw_forget (ls' := [some (kA 558), some (kI x1), some (kI (x2 + 1)), none, none]) ⟨Or.inr rfl, ⟨Or.inr rfl, ⟨Or.inr rfl, ⟨Or.inl rfl, ⟨Or.inl rfl, trivial⟩⟩⟩⟩⟩ H
    · have H := H.2 h3
      refine kw_iconst dX11_isListed_70 ?_
      refine k2_zret dX11_isListed_71 rfl (Or.inr rfl) H
  · have H := H.2 h2
    refine kw_iload_n dX11_isListed_22 rfl ?_
    refine kw_if_eq 58 dX11_isListed_23 (by decide) (k32i (by omega)) (fun h4 => ?_) (fun h4 => ?_)
    · have H := H.1 h4
      refine kw_iconst dX11_isListed_58 ?_
      refine kw_istore_n dX11_isListed_59 (Nat.le_of_ble_eq_true rfl) ?_
      refine kw_iinc dX11_isListed_60 rfl ?_
      refine kw_goto 15 dX11_isListed_63 (by decide) ?_
      exact kw_forget (ls' := [some (kA 558), some (kI x1), some (kI x2), some (kI 0), some (kI (x4 + 1))]) ⟨Or.inr rfl, ⟨Or.inr rfl, ⟨Or.inr rfl, ⟨Or.inr rfl, ⟨Or.inr rfl, trivial⟩⟩⟩⟩⟩ H
    · have H := H.2 h4
      refine kw_aload_n dX11_isListed_26 rfl ?_
      refine k2_getR fd_X11_4 dX11_isListed_27 wf_X11_22 (lsh_558 hL) (lrf_558_4 hL) ?_
      refine kw_bipush dX11_isListed_30 (by decide) ?_
      refine kw_iload_n dX11_isListed_32 rfl ?_
      refine kw_imul dX11_isListed_33 ?_
      refine kw_iload dX11_isListed_34 rfl ?_
      refine kw_iadd dX11_isListed_36 ?_
      refine k2_lald dX11_isListed_37 (lsh_563 hL) (by omega) (by omega) ?_
      refine kw_aload_n dX11_isListed_38 rfl ?_
      refine k2_getR fd_X11_0 dX11_isListed_39 wf_X11_7 (lsh_558 hL) (lrf_558_0 hL) ?_
      refine kw_bipush dX11_isListed_42 (by decide) ?_
      refine kw_iload_n dX11_isListed_44 rfl ?_
      refine kw_imul dX11_isListed_45 ?_
      refine kw_iload dX11_isListed_46 rfl ?_
      refine kw_iadd dX11_isListed_48 ?_
      refine k2_lald dX11_isListed_49 (lsh_559 hL) (by omega) (by omega) ?_
      have o5 := H.1
      have H := H.2
      have o6 := H.1
      have H := H.2
      refine kw_lcmp_ne 58 dX11_isListed_50 dX11_isListed_51 (by decide) o5 o6 (fun h7 => ?_) (fun h7 => ?_)
      · have H := H.1 h7
        refine kw_iconst dX11_isListed_58 ?_
        refine kw_istore_n dX11_isListed_59 (Nat.le_of_ble_eq_true rfl) ?_
        refine kw_iinc dX11_isListed_60 rfl ?_
        refine kw_goto 15 dX11_isListed_63 (by decide) ?_
        exact kw_forget (ls' := [some (kA 558), some (kI x1), some (kI x2), some (kI 0), some (kI (x4 + 1))]) ⟨Or.inr rfl, ⟨Or.inr rfl, ⟨Or.inr rfl, ⟨Or.inr rfl, ⟨Or.inr rfl, trivial⟩⟩⟩⟩⟩ H
      · have H := H.2 h7
        refine kw_iconst dX11_isListed_54 ?_
        refine kw_goto 59 dX11_isListed_55 (by decide) ?_
        refine kw_istore_n dX11_isListed_59 (Nat.le_of_ble_eq_true rfl) ?_
        refine kw_iinc dX11_isListed_60 rfl ?_
        refine kw_goto 15 dX11_isListed_63 (by decide) ?_
        exact kw_forget (ls' := [some (kA 558), some (kI x1), some (kI x2), some (kI 1), some (kI (x4 + 1))]) ⟨Or.inr rfl, ⟨Or.inr rfl, ⟨Or.inr rfl, ⟨Or.inr rfl, ⟨Or.inr rfl, trivial⟩⟩⟩⟩⟩ H
set_option maxRecDepth 4000 in
theorem v_X11_spreads {G : KG} {S0 : KSh} (hL : kLay S0) {d : Nat} {P : Option AV → KMem → Prop} {c : KMem} {x1 x2 : Int} (r1 : -2147483648 ≤ x1 ∧ x1 < 2147483648) (r2 : -2147483648 ≤ x2 ∧ x2 < 2147483648) (hp : 0 ≤ c 558 14 ∧ c 558 14 < 301) (H : kW2 G S0 kM_X11_spreads (d + 4) 8 [some (kA 558), none, some (kI x2), some (kI (c 558 14)), some (kI x1), none] [] c P) : kC2 G S0 kM_X11_spreads (d + 4) [kA 558, kI x1, kI x2] c P := by
  refine k2_met (by decide) rfl (Nat.le_of_ble_eq_true rfl) (l0 := [some (kA 558), some (kI x1), some (kI x2), none, none, none]) rfl ?_
  refine kw_aload_n dX11_spreads_0 rfl ?_
  refine k2_getI fd_X11_14 dX11_spreads_1 wf_X11_406 (lsh_558 hL) ?_
  refine kw_eI (b := (c 558 14)) rfl ?_
  refine kw_istore_n dX11_spreads_4 (Nat.le_of_ble_eq_true rfl) ?_
  refine kw_iload_n dX11_spreads_5 rfl ?_
  refine kw_istore dX11_spreads_6 (Nat.le_of_ble_eq_true rfl) ?_
  exact kw_forget (ls' := [some (kA 558), none, some (kI x2), some (kI (c 558 14)), some (kI x1), none]) ⟨Or.inr rfl, ⟨Or.inl rfl, ⟨Or.inr rfl, ⟨Or.inr rfl, ⟨Or.inr rfl, ⟨Or.inr rfl, trivial⟩⟩⟩⟩⟩⟩ H
set_option maxRecDepth 4000 in
theorem v_X11_spreads_8 {G : KG} {S0 : KSh} (hL : kLay S0) {d : Nat} {P : Option AV → KMem → Prop} {c : KMem} {x2 x3 x4 : Int} (r2 : -2147483648 ≤ x2 ∧ x2 < 2147483648) (r3 : -2147483648 ≤ x3 ∧ x3 < 2147483648) (r4 : -2147483648 ≤ x4 ∧ x4 < 2147483648) (H : (x3 ≤ x4 → (P none c)) ∧ (x4 < x3 → (kW2 G S0 kM_X11_spreads (d + 4) 17 [some (kA 558), none, some (kI x2), some (kI x3), some (kI x4), some (kI 0)] [] c P))) : kW2 G S0 kM_X11_spreads (d + 4) 8 [some (kA 558), none, some (kI x2), some (kI x3), some (kI x4), none] [] c P := by
  refine kw_iload dX11_spreads_8 rfl ?_
  refine kw_iload_n dX11_spreads_10 rfl ?_
  refine kw_icmp_ge 90 dX11_spreads_11 (by decide) (k32i (by omega)) (k32i (by omega)) (fun h1 => ?_) (fun h1 => ?_)
  · have H := H.1 h1
    refine k2_ret dX11_spreads_90 rfl H
  · have H := H.2 h1
    refine kw_iconst dX11_spreads_14 ?_
    refine kw_istore dX11_spreads_15 (Nat.le_of_ble_eq_true rfl) ?_
    exact kw_forget (ls' := [some (kA 558), none, some (kI x2), some (kI x3), some (kI x4), some (kI 0)]) ⟨Or.inr rfl, ⟨Or.inr rfl, ⟨Or.inr rfl, ⟨Or.inr rfl, ⟨Or.inr rfl, ⟨Or.inr rfl, trivial⟩⟩⟩⟩⟩⟩ H
set_option maxRecDepth 4000 in
theorem v_X11_spreads_17 {G : KG} {S0 : KSh} (hL : kLay S0) {d : Nat} {P : Option AV → KMem → Prop} {c : KMem} {x2 x3 x4 x5 : Int} (r2 : -2147483648 ≤ x2 ∧ x2 < 2147483648) (r3 : -2147483648 ≤ x3 ∧ x3 < 2147483648) (r4 : -2147483648 ≤ x4 ∧ x4 < 2147483648) (r5 : 0 ≤ x5 ∧ x5 < 2147483648) (hp : x4 < x3 ∧ x3 < 301) (H : (12 ≤ x5 → (kW2 G S0 kM_X11_spreads (d + 4) 8 [some (kA 558), none, some (kI x2), some (kI x3), some (kI (x4 + 1)), none] [] c P)) ∧ (x5 < 12 → (((kand (kshr x2 x5) 1 = 1) → (kC2 G S0 kM_X11_takesListed (d + 3) [kA 558, kI x4, kI 26] c (kRN (fun c6 => kC2 G S0 kM_X11_laysVector (d + 3) [kA 558, kI x5, kI 27] c6 (kRN (fun c8 => kC2 G S0 kM_X11_isTurnedBy (d + 3) [kA 558, kI 26, kI 27] c8 (kRI (fun z9 c10 => (k32 z9) ∧ ((z9 = 0 → (kW2 G S0 kM_X11_spreads (d + 4) 78 [some (kA 558), none, some (kI x2), some (kI x3), some (kI x4), some (kI x5)] [] c10 P)) ∧ (z9 ≠ 0 → (kC2 G S0 kM_X11_isListed (d + 3) [kA 558, kI 26] c10 (kRI (fun z13 c14 => (k32 z13) ∧ ((z13 ≠ 0 → (kW2 G S0 kM_X11_spreads (d + 4) 78 [some (kA 558), none, some (kI x2), some (kI x3), some (kI x4), some (kI x5)] [] c14 P)) ∧ (z13 = 0 → (kC2 G S0 kM_X11_listsForm (d + 3) [kA 558, kI 26] c14 (kRN (fun c18 => kW2 G S0 kM_X11_spreads (d + 4) 78 [some (kA 558), none, some (kI x2), some (kI x3), some (kI x4), some (kI x5)] [] c18 P)))))))))))))))))) ∧ (¬ (kand (kshr x2 x5) 1 = 1) → (kW2 G S0 kM_X11_spreads (d + 4) 78 [some (kA 558), none, some (kI x2), some (kI x3), some (kI x4), some (kI x5)] [] c P))))) : kW2 G S0 kM_X11_spreads (d + 4) 17 [some (kA 558), none, some (kI x2), some (kI x3), some (kI x4), some (kI x5)] [] c P := by
  refine kw_iload dX11_spreads_17 rfl ?_
  refine kw_bipush dX11_spreads_19 (by decide) ?_
  refine kw_icmp_ge 84 dX11_spreads_21 (by decide) (k32i (by omega)) (k32i (by omega)) (fun h2 => ?_) (fun h2 => ?_)
  · have H := H.1 h2
    refine kw_iinc dX11_spreads_84 rfl ?_
    refine kw_goto 8 dX11_spreads_87 (by decide) ?_
    exact kw_forget (ls' := [some (kA 558), none, some (kI x2), some (kI x3), some (kI (x4 + 1)), none]) ⟨Or.inr rfl, ⟨Or.inr rfl, ⟨Or.inr rfl, ⟨Or.inr rfl, ⟨Or.inr rfl, ⟨Or.inl rfl, trivial⟩⟩⟩⟩⟩⟩ H
  · have H := H.2 h2
    refine kw_iload_n dX11_spreads_24 rfl ?_
    refine kw_iload dX11_spreads_25 rfl ?_
    refine k2_callS2I m_X11_has dX11_spreads_27 wl_X11_80 (Nat.le_of_ble_eq_true rfl) (s_X11_has hL (k32i (by omega)) (k32i (by omega)) (fun h3 => ⟨_, rfl, ?_⟩) (fun h3 => ⟨_, rfl, ?_⟩))
    · have H := H.1 h3
      refine kw_if_ne 36 dX11_spreads_30 (by decide) (k32i (by omega)) (fun _ => ?_) (fun h4 => absurd h4 (by decide))
      refine kw_aload_n dX11_spreads_36 rfl ?_
      refine kw_iload dX11_spreads_37 rfl ?_
      refine kw_bipush dX11_spreads_39 (by decide) ?_
      refine k2_callV2N (ci := 9) (N := 38) (T := TX11) rfl (lsh_558 hL) m_X11_takesListed dX11_spreads_41 wl_X11_409 (Nat.le_of_ble_eq_true rfl) (kC2_mono H (fun r c6 H => ?_))
      obtain ⟨rfl, H⟩ := H
      refine ⟨rfl, ?_⟩
      refine kw_aload_n dX11_spreads_44 rfl ?_
      refine kw_iload dX11_spreads_45 rfl ?_
      refine kw_bipush dX11_spreads_47 (by decide) ?_
      refine k2_callV2N (ci := 9) (N := 38) (T := TX11) rfl (lsh_558 hL) m_X11_laysVector dX11_spreads_49 wl_X11_334 (Nat.le_of_ble_eq_true rfl) (kC2_mono H (fun r c8 H => ?_))
      obtain ⟨rfl, H⟩ := H
      refine ⟨rfl, ?_⟩
      refine kw_aload_n dX11_spreads_52 rfl ?_
      refine kw_bipush dX11_spreads_53 (by decide) ?_
      refine kw_bipush dX11_spreads_55 (by decide) ?_
      refine k2_callV2I (ci := 9) (N := 38) (T := TX11) rfl (lsh_558 hL) m_X11_isTurnedBy dX11_spreads_57 wl_X11_403 (Nat.le_of_ble_eq_true rfl) (kC2_mono H (fun r c10 H => ?_))
      obtain ⟨z9, rfl, H⟩ := H
      refine ⟨z9, rfl, ?_⟩
      have o12 := H.1
      have H := H.2
      refine kw_if_eq 78 dX11_spreads_60 (by decide) o12 (fun h11 => ?_) (fun h11 => ?_)
      · have H := H.1 h11
        exact kw_forget (ls' := [some (kA 558), none, some (kI x2), some (kI x3), some (kI x4), some (kI x5)]) ⟨Or.inr rfl, ⟨Or.inr rfl, ⟨Or.inr rfl, ⟨Or.inr rfl, ⟨Or.inr rfl, ⟨Or.inr rfl, trivial⟩⟩⟩⟩⟩⟩ H
      · have H := H.2 h11
        refine kw_aload_n dX11_spreads_63 rfl ?_
        refine kw_bipush dX11_spreads_64 (by decide) ?_
        refine k2_callV1I (ci := 9) (N := 38) (T := TX11) rfl (lsh_558 hL) m_X11_isListed dX11_spreads_66 wl_X11_412 (Nat.le_of_ble_eq_true rfl) (kC2_mono H (fun r c14 H => ?_))
        obtain ⟨z13, rfl, H⟩ := H
        refine ⟨z13, rfl, ?_⟩
        have o16 := H.1
        have H := H.2
        refine kw_if_ne 78 dX11_spreads_69 (by decide) o16 (fun h15 => ?_) (fun h15 => ?_)
        · have H := H.1 h15
          exact kw_forget (ls' := [some (kA 558), none, some (kI x2), some (kI x3), some (kI x4), some (kI x5)]) ⟨Or.inr rfl, ⟨Or.inr rfl, ⟨Or.inr rfl, ⟨Or.inr rfl, ⟨Or.inr rfl, ⟨Or.inr rfl, trivial⟩⟩⟩⟩⟩⟩ H
        · have H := H.2 h15
          refine kw_aload_n dX11_spreads_72 rfl ?_
          refine kw_bipush dX11_spreads_73 (by decide) ?_
          refine k2_callV1N (ci := 9) (N := 38) (T := TX11) rfl (lsh_558 hL) m_X11_listsForm dX11_spreads_75 wl_X11_415 (Nat.le_of_ble_eq_true rfl) (kC2_mono H (fun r c18 H => ?_))
          obtain ⟨rfl, H⟩ := H
          refine ⟨rfl, ?_⟩
          exact kw_forget (ls' := [some (kA 558), none, some (kI x2), some (kI x3), some (kI x4), some (kI x5)]) ⟨Or.inr rfl, ⟨Or.inr rfl, ⟨Or.inr rfl, ⟨Or.inr rfl, ⟨Or.inr rfl, ⟨Or.inr rfl, trivial⟩⟩⟩⟩⟩⟩ H
    · have H := H.2 h3
      refine kw_if_ne 36 dX11_spreads_30 (by decide) (k32i (by omega)) (fun h19 => absurd h19 (by decide)) (fun _ => ?_)
      refine kw_goto 78 dX11_spreads_33 (by decide) ?_
      exact kw_forget (ls' := [some (kA 558), none, some (kI x2), some (kI x3), some (kI x4), some (kI x5)]) ⟨Or.inr rfl, ⟨Or.inr rfl, ⟨Or.inr rfl, ⟨Or.inr rfl, ⟨Or.inr rfl, ⟨Or.inr rfl, trivial⟩⟩⟩⟩⟩⟩ H
set_option maxRecDepth 4000 in
theorem v_X11_spreads_78 {G : KG} {S0 : KSh} (hL : kLay S0) {d : Nat} {P : Option AV → KMem → Prop} {c : KMem} {x2 x3 x4 x5 : Int} (r2 : -2147483648 ≤ x2 ∧ x2 < 2147483648) (r3 : -2147483648 ≤ x3 ∧ x3 < 2147483648) (r4 : -2147483648 ≤ x4 ∧ x4 < 2147483648) (r5 : 0 ≤ x5 ∧ x5 < 2147483648) (H : kW2 G S0 kM_X11_spreads (d + 4) 17 [some (kA 558), none, some (kI x2), some (kI x3), some (kI x4), some (kI (x5 + 1))] [] c P) : kW2 G S0 kM_X11_spreads (d + 4) 78 [some (kA 558), none, some (kI x2), some (kI x3), some (kI x4), some (kI x5)] [] c P := by
  refine kw_iinc dX11_spreads_78 rfl ?_
  refine kw_goto 17 dX11_spreads_81 (by decide) ?_
  exact kw_forget (ls' := [some (kA 558), none, some (kI x2), some (kI x3), some (kI x4), some (kI (x5 + 1))]) ⟨Or.inr rfl, ⟨Or.inr rfl, ⟨Or.inr rfl, ⟨Or.inr rfl, ⟨Or.inr rfl, ⟨Or.inr rfl, trivial⟩⟩⟩⟩⟩⟩ H
set_option maxRecDepth 4000 in
theorem v_X11_areLetters {G : KG} {S0 : KSh} (hL : kLay S0) {d : Nat} {P : Option AV → KMem → Prop} {c : KMem} {x1 x2 : Int} (r1 : -2147483648 ≤ x1 ∧ x1 < 2147483648) (r2 : -2147483648 ≤ x2 ∧ x2 < 2147483648) (H : (x1 < 1 → (P (some (kI 0)) c)) ∧ (1 ≤ x1 → ((4095 < x1 → (P (some (kI 0)) c)) ∧ (x1 ≤ 4095 → (((kpop (Int.toNat x1) : Int) ≤ x2 → (kW2 G S0 kM_X11_areLetters (d + 1) 24 [some (kA 558), some (kI x1), none, some (kI 0)] [] c P)) ∧ (x2 < (kpop (Int.toNat x1) : Int) → (P (some (kI 0)) c))))))) : kC2 G S0 kM_X11_areLetters (d + 1) [kA 558, kI x1, kI x2] c P := by
  refine k2_met (by decide) rfl (Nat.le_of_ble_eq_true rfl) (l0 := [some (kA 558), some (kI x1), some (kI x2), none]) rfl ?_
  refine kw_iload_n dX11_areLetters_0 rfl ?_
  refine kw_iconst dX11_areLetters_1 ?_
  refine kw_icmp_lt 20 dX11_areLetters_2 (by decide) (k32i (by omega)) (k32i (by omega)) (fun h1 => ?_) (fun h1 => ?_)
  · have H := H.1 h1
    refine kw_iconst dX11_areLetters_20 ?_
    refine k2_zret dX11_areLetters_21 rfl (Or.inl rfl) H
  · have H := H.2 h1
    refine kw_iload_n dX11_areLetters_5 rfl ?_
    refine kw_sipush dX11_areLetters_6 (by decide) ?_
    refine kw_icmp_gt 20 dX11_areLetters_9 (by decide) (k32i (by omega)) (k32i (by omega)) (fun h2 => ?_) (fun h2 => ?_)
    · have H := H.1 h2
      refine kw_iconst dX11_areLetters_20 ?_
      refine k2_zret dX11_areLetters_21 rfl (Or.inl rfl) H
    · have H := H.2 h2
      refine kw_iload_n dX11_areLetters_12 rfl ?_
      refine k2_callS1I m_X11_sizeOf dX11_areLetters_13 wl_X11_96 (Nat.le_of_ble_eq_true rfl) (s_X11_sizeOf hL (by omega) ⟨_, rfl, ?_⟩)
      refine kw_iload_n dX11_areLetters_16 rfl ?_
      refine kw_icmp_le 22 dX11_areLetters_17 (by decide) (k32_pop _) (k32i (by omega)) (fun h3 => ?_) (fun h3 => ?_)
      · have H := H.1 h3
        refine kw_iconst dX11_areLetters_22 ?_
        refine kw_istore_n dX11_areLetters_23 (Nat.le_of_ble_eq_true rfl) ?_
        exact kw_forget (ls' := [some (kA 558), some (kI x1), none, some (kI 0)]) ⟨Or.inr rfl, ⟨Or.inr rfl, ⟨Or.inl rfl, ⟨Or.inr rfl, trivial⟩⟩⟩⟩ H
      · have H := H.2 h3
        refine kw_iconst dX11_areLetters_20 ?_
        refine k2_zret dX11_areLetters_21 rfl (Or.inl rfl) H
set_option maxRecDepth 4000 in
theorem v_X11_areLetters_24 {G : KG} {S0 : KSh} (hL : kLay S0) {d : Nat} {P : Option AV → KMem → Prop} {c : KMem} {x1 x3 : Int} (r1 : -2147483648 ≤ x1 ∧ x1 < 2147483648) (r3 : 0 ≤ x3 ∧ x3 < 2147483648) (H : (12 ≤ x3 → (P (some (kI 1)) c)) ∧ (x3 < 12 → (((kand (kshr x1 x3) 1 = 1) → ((k32 (c 564 x3)) ∧ (((c 564 x3) ≠ 0 → (kW2 G S0 kM_X11_areLetters (d + 1) 24 [some (kA 558), some (kI x1), none, some (kI (x3 + 1))] [] c P)) ∧ ((c 564 x3) = 0 → (P (some (kI 0)) c))))) ∧ (¬ (kand (kshr x1 x3) 1 = 1) → (kW2 G S0 kM_X11_areLetters (d + 1) 24 [some (kA 558), some (kI x1), none, some (kI (x3 + 1))] [] c P))))) : kW2 G S0 kM_X11_areLetters (d + 1) 24 [some (kA 558), some (kI x1), none, some (kI x3)] [] c P := by
  refine kw_iload_n dX11_areLetters_24 rfl ?_
  refine kw_bipush dX11_areLetters_25 (by decide) ?_
  refine kw_icmp_ge 55 dX11_areLetters_27 (by decide) (k32i (by omega)) (k32i (by omega)) (fun h4 => ?_) (fun h4 => ?_)
  · have H := H.1 h4
    refine kw_iconst dX11_areLetters_55 ?_
    refine k2_zret dX11_areLetters_56 rfl (Or.inr rfl) H
  · have H := H.2 h4
    refine kw_iload_n dX11_areLetters_30 rfl ?_
    refine kw_iload_n dX11_areLetters_31 rfl ?_
    refine k2_callS2I m_X11_has dX11_areLetters_32 wl_X11_80 (Nat.le_of_ble_eq_true rfl) (s_X11_has hL (k32i (by omega)) (k32i (by omega)) (fun h5 => ⟨_, rfl, ?_⟩) (fun h5 => ⟨_, rfl, ?_⟩))
    · have H := H.1 h5
      refine kw_if_eq 49 dX11_areLetters_35 (by decide) (k32i (by omega)) (fun h6 => absurd h6 (by decide)) (fun _ => ?_)
      refine kw_aload_n dX11_areLetters_38 rfl ?_
      refine k2_getR fd_X11_5 dX11_areLetters_39 wf_X11_25 (lsh_558 hL) (lrf_558_5 hL) ?_
      refine kw_iload_n dX11_areLetters_42 rfl ?_
      refine k2_zald dX11_areLetters_43 (lsh_564 hL) (by omega) (by omega) ?_
      have o8 := H.1
      have H := H.2
      refine kw_if_ne 49 dX11_areLetters_44 (by decide) o8 (fun h7 => ?_) (fun h7 => ?_)
      · have H := H.1 h7
        refine kw_iinc dX11_areLetters_49 rfl ?_
        refine kw_goto 24 dX11_areLetters_52 (by decide) ?_
        exact kw_forget (ls' := [some (kA 558), some (kI x1), none, some (kI (x3 + 1))]) ⟨Or.inr rfl, ⟨Or.inr rfl, ⟨Or.inr rfl, ⟨Or.inr rfl, trivial⟩⟩⟩⟩ H
      · have H := H.2 h7
        refine kw_iconst dX11_areLetters_47 ?_
        refine k2_zret dX11_areLetters_48 rfl (Or.inl rfl) H
    · have H := H.2 h5
      refine kw_if_eq 49 dX11_areLetters_35 (by decide) (k32i (by omega)) (fun _ => ?_) (fun h9 => absurd h9 (by decide))
      refine kw_iinc dX11_areLetters_49 rfl ?_
      refine kw_goto 24 dX11_areLetters_52 (by decide) ?_
      exact kw_forget (ls' := [some (kA 558), some (kI x1), none, some (kI (x3 + 1))]) ⟨Or.inr rfl, ⟨Or.inr rfl, ⟨Or.inr rfl, ⟨Or.inr rfl, trivial⟩⟩⟩⟩ H
set_option maxRecDepth 4000 in
theorem v_X11_areMirrors {G : KG} {S0 : KSh} (hL : kLay S0) {d : Nat} {P : Option AV → KMem → Prop} {c : KMem} {x1 : Int} (r1 : -2147483648 ≤ x1 ∧ x1 < 2147483648) (H : kW2 G S0 kM_X11_areMirrors (d + 6) 2 [some (kA 558), some (kI x1), some (kI 0)] [] c P) : kC2 G S0 kM_X11_areMirrors (d + 6) [kA 558, kI x1] c P := by
  refine k2_met (by decide) rfl (Nat.le_of_ble_eq_true rfl) (l0 := [some (kA 558), some (kI x1), none]) rfl ?_
  refine kw_iconst dX11_areMirrors_0 ?_
  refine kw_istore_n dX11_areMirrors_1 (Nat.le_of_ble_eq_true rfl) ?_
  exact kw_forget (ls' := [some (kA 558), some (kI x1), some (kI 0)]) ⟨Or.inr rfl, ⟨Or.inr rfl, ⟨Or.inr rfl, trivial⟩⟩⟩ H
set_option maxRecDepth 4000 in
theorem v_X11_areMirrors_2 {G : KG} {S0 : KSh} (hL : kLay S0) {d : Nat} {P : Option AV → KMem → Prop} {c : KMem} {x1 x2 : Int} (r1 : -2147483648 ≤ x1 ∧ x1 < 2147483648) (r2 : 0 ≤ x2 ∧ x2 < 2147483648) (H : (12 ≤ x2 → (P (some (kI 1)) c)) ∧ (x2 < 12 → (((kand (kshr x1 x2) 1 = 1) → (kC2 G S0 kM_X11_isMirror (d + 5) [kA 558, kI x2] c (kRI (fun z4 c5 => (k32 z4) ∧ ((z4 ≠ 0 → (kW2 G S0 kM_X11_areMirrors (d + 6) 2 [some (kA 558), some (kI x1), some (kI (x2 + 1))] [] c5 P)) ∧ (z4 = 0 → (P (some (kI 0)) c5))))))) ∧ (¬ (kand (kshr x1 x2) 1 = 1) → (kW2 G S0 kM_X11_areMirrors (d + 6) 2 [some (kA 558), some (kI x1), some (kI (x2 + 1))] [] c P))))) : kW2 G S0 kM_X11_areMirrors (d + 6) 2 [some (kA 558), some (kI x1), some (kI x2)] [] c P := by
  refine kw_iload_n dX11_areMirrors_2 rfl ?_
  refine kw_bipush dX11_areMirrors_3 (by decide) ?_
  refine kw_icmp_ge 32 dX11_areMirrors_5 (by decide) (k32i (by omega)) (k32i (by omega)) (fun h1 => ?_) (fun h1 => ?_)
  · have H := H.1 h1
    refine kw_iconst dX11_areMirrors_32 ?_
    refine k2_zret dX11_areMirrors_33 rfl (Or.inr rfl) H
  · have H := H.2 h1
    refine kw_iload_n dX11_areMirrors_8 rfl ?_
    refine kw_iload_n dX11_areMirrors_9 rfl ?_
    refine k2_callS2I m_X11_has dX11_areMirrors_10 wl_X11_80 (Nat.le_of_ble_eq_true rfl) (s_X11_has hL (k32i (by omega)) (k32i (by omega)) (fun h2 => ⟨_, rfl, ?_⟩) (fun h2 => ⟨_, rfl, ?_⟩))
    · have H := H.1 h2
      refine kw_if_eq 26 dX11_areMirrors_13 (by decide) (k32i (by omega)) (fun h3 => absurd h3 (by decide)) (fun _ => ?_)
      refine kw_aload_n dX11_areMirrors_16 rfl ?_
      refine kw_iload_n dX11_areMirrors_17 rfl ?_
      refine k2_callV1I (ci := 9) (N := 38) (T := TX11) rfl (lsh_558 hL) m_X11_isMirror dX11_areMirrors_18 wl_X11_400 (Nat.le_of_ble_eq_true rfl) (kC2_mono H (fun r c5 H => ?_))
      obtain ⟨z4, rfl, H⟩ := H
      refine ⟨z4, rfl, ?_⟩
      have o7 := H.1
      have H := H.2
      refine kw_if_ne 26 dX11_areMirrors_21 (by decide) o7 (fun h6 => ?_) (fun h6 => ?_)
      · have H := H.1 h6
        refine kw_iinc dX11_areMirrors_26 rfl ?_
        refine kw_goto 2 dX11_areMirrors_29 (by decide) ?_
        exact kw_forget (ls' := [some (kA 558), some (kI x1), some (kI (x2 + 1))]) ⟨Or.inr rfl, ⟨Or.inr rfl, ⟨Or.inr rfl, trivial⟩⟩⟩ H
      · have H := H.2 h6
        refine kw_iconst dX11_areMirrors_24 ?_
        refine k2_zret dX11_areMirrors_25 rfl (Or.inl rfl) H
    · have H := H.2 h2
      refine kw_if_eq 26 dX11_areMirrors_13 (by decide) (k32i (by omega)) (fun _ => ?_) (fun h8 => absurd h8 (by decide))
      refine kw_iinc dX11_areMirrors_26 rfl ?_
      refine kw_goto 2 dX11_areMirrors_29 (by decide) ?_
      exact kw_forget (ls' := [some (kA 558), some (kI x1), some (kI (x2 + 1))]) ⟨Or.inr rfl, ⟨Or.inr rfl, ⟨Or.inr rfl, trivial⟩⟩⟩ H
set_option maxRecDepth 4000 in
theorem v_X11_beginsList {G : KG} {S0 : KSh} (hL : kLay S0) {d : Nat} {P : Option AV → KMem → Prop} {c : KMem} {x1 : Int} (r1 : -2147483648 ≤ x1 ∧ x1 < 2147483648) (H : kC2 G S0 kM_X11_copies (d + 2) [kA 558, kI x1, kI 28] (kup c 558 14 0) (kRN (fun c2 => kC2 G S0 kM_X11_normals (d + 2) [kA 558, kI 28] c2 (kRN (fun c4 => kC2 G S0 kM_X11_listsForm (d + 2) [kA 558, kI 28] c4 (kRN (fun c6 => P none c6))))))) : kC2 G S0 kM_X11_beginsList (d + 3) [kA 558, kI x1] c P := by
  refine k2_met (by decide) rfl (Nat.le_of_ble_eq_true rfl) (l0 := [some (kA 558), some (kI x1)]) rfl ?_
  refine kw_aload_n dX11_beginsList_0 rfl ?_
  refine kw_iconst dX11_beginsList_1 ?_
  refine k2_putI fp_X11_14 dX11_beginsList_2 wf_X11_406 (lsh_558 hL) ?_
  refine kw_aload_n dX11_beginsList_5 rfl ?_
  refine kw_iload_n dX11_beginsList_6 rfl ?_
  refine kw_bipush dX11_beginsList_7 (by decide) ?_
  refine k2_callV2N (ci := 9) (N := 38) (T := TX11) rfl (lsh_558 hL) m_X11_copies dX11_beginsList_9 wl_X11_132 (Nat.le_of_ble_eq_true rfl) (kC2_mono H (fun r c2 H => ?_))
  obtain ⟨rfl, H⟩ := H
  refine ⟨rfl, ?_⟩
  refine kw_aload_n dX11_beginsList_12 rfl ?_
  refine kw_bipush dX11_beginsList_13 (by decide) ?_
  refine k2_callV1N (ci := 9) (N := 38) (T := TX11) rfl (lsh_558 hL) m_X11_normals dX11_beginsList_15 wl_X11_165 (Nat.le_of_ble_eq_true rfl) (kC2_mono H (fun r c4 H => ?_))
  obtain ⟨rfl, H⟩ := H
  refine ⟨rfl, ?_⟩
  refine kw_aload_n dX11_beginsList_18 rfl ?_
  refine kw_bipush dX11_beginsList_19 (by decide) ?_
  refine k2_callV1N (ci := 9) (N := 38) (T := TX11) rfl (lsh_558 hL) m_X11_listsForm dX11_beginsList_21 wl_X11_415 (Nat.le_of_ble_eq_true rfl) (kC2_mono H (fun r c6 H => ?_))
  obtain ⟨rfl, H⟩ := H
  refine ⟨rfl, ?_⟩
  refine k2_ret dX11_beginsList_24 rfl H
section MLS
variable {G : KG} {S0 : KSh} {d : Nat} {P : Option AV → KMem → Prop} {c c0 : KMem} {Φ : Int → KF} {H : Int → Bool} {F : Int → KF} {f g : KF} {M : Int} {S : KLs} {x0 x1 x2 x3 x4 : Int}
theorem kPh.own (h : kPh Φ c0 c) : kPh Φ c c := ⟨h.1, fun _ _ _ _ => rfl⟩
theorem kPh.ls (h : kPh Φ c0 c) (l : kLs S c0) : kLs S c := ⟨(h.2 558 14 (by decide) (by decide)).trans l.1, fun i hi => ⟨fun k k0 k1 => (h.2 563 _ (by decide) (by decide)).trans ((l.2 i hi).1 k k0 k1), (l.2 i hi).2⟩⟩
theorem kFr.tr {c1 c2 : KMem} (h : kFr c c1) (g : kFr c1 c2) : kFr c c2 := ⟨fun x i q => (g.1 x i q).trans (h.1 x i q), fun x i q => (g.2.1 x i q).trans (h.2.1 x i q), fun i p q => (g.2.2.1 i p q).trans (h.2.2.1 i p q), fun i q => (g.2.2.2 i q).trans (h.2.2.2 i q)⟩
theorem kPh.fr (h : kPh Φ c0 c) : kFr c0 c := ⟨fun x i q => h.2 x i (by omega) (by omega), fun x i q => h.2 x i (by omega) (by omega), fun i p q => h.2 564 i (by decide) (by decide), fun i q => h.2 558 i (by decide) (by decide)⟩
theorem t_listsForm (hL : kLay S0) (hs : kPh Φ c0 c) (hl : kLs S c0) (hlen : S.1 < 300) (h : ∀ c', kPh Φ c' c' → kLs (lsPut S f) c' → kFr c0 c' → (kSgn c0 → kSgn c') → P none c') (hp : 0 ≤ x1 ∧ x1 < 100) (e : Φ x1 = f) (hb : kB kLB f) : kC2 G S0 kM_X11_listsForm d [kA 558, kI x1] c P := by
  have hl2 := hs.ls hl
  have E := hs.e hp.1 e
  have loop : ∀ n k : Nat, k + n = 16 → ∀ c', (∀ x i : Int, (x ≠ 563 ∨ i < 16 * (S.1 : Int) ∨ 16 * (S.1 : Int) + k ≤ i) → c' x i = c x i) → (∀ j : Int, 0 ≤ j → j < k → c' 563 (16 * (S.1 : Int) + j) = f j) → kW2 G S0 kM_X11_listsForm d 2 [some (kA 558), some (kI x1), some (kI k)] [] c' P := by
    intro n
    induction n with
    | zero =>
      intro k hk c' h1 h2
      have e0 : c' 558 14 = (S.1 : Int) := (h1 558 14 (Or.inl (by decide))).trans hl2.1
      refine v_X11_listsForm_2 hL (by omega) (by omega) (by omega) ⟨fun _ => ?_, fun q => by omega⟩
      rw [e0]
      refine h _ ⟨fun s hs0 k k0 k1 => ?_, fun _ _ _ _ => rfl⟩ ⟨?_, fun i hi => ?_⟩ ?_ (fun hg a b ha hb => ?_)
      · show kup c' 558 14 ((S.1 : Int) + 1) 559 _ = _
        rw [kup_n (Or.inl (by decide)), h1 559 _ (Or.inl (by decide))]
        exact hs.1 s hs0 k k0 k1
      · rw [kup_s]; show (S.1 : Int) + 1 = ((S.1 + 1 : Nat) : Int); omega
      · have hi' : i < S.1 + 1 := hi
        show kEq _ (if i = S.1 then f else S.2 i) ∧ kB kLB (if i = S.1 then f else S.2 i)
        by_cases q : i = S.1
        · rw [if_pos q]
          refine ⟨fun k k0 k1 => ?_, hb⟩
          show kup c' 558 14 _ 563 _ = _
          rw [kup_n (Or.inl (by decide)), q]
          exact h2 k k0 (by omega)
        · rw [if_neg q]
          have := hl2.2 i (by omega)
          refine ⟨fun k k0 k1 => ?_, this.2⟩
          show kup c' 558 14 _ 563 _ = _
          rw [kup_n (Or.inl (by decide)), h1 563 _ (Or.inr (Or.inl (by omega)))]
          exact this.1 k k0 k1
      · refine (hs.fr.tr ?_).up (by omega)
        exact ⟨fun x i q => h1 x i (Or.inl (by omega)), fun x i q => h1 x i (Or.inl (by omega)), fun i p q => h1 564 i (Or.inl (by decide)), fun i q => h1 558 i (Or.inl (by decide))⟩
      · rw [kup_n (Or.inl (by decide)), h1 568 _ (Or.inl (by decide))]
        exact hs.sgn hg a b ha hb
    | succ n ih =>
      intro k hk c' h1 h2
      have e0 : c' 558 14 = (S.1 : Int) := (h1 558 14 (Or.inl (by decide))).trans hl2.1
      have e1 : c' 559 (16 * x1 + (k : Int)) = f k := (h1 559 _ (Or.inl (by decide))).trans (E k (by omega) (by omega))
      refine v_X11_listsForm_2 hL (by omega) (by omega) (by omega) ⟨fun q => by omega, fun _ => ?_⟩
      rw [e0, e1]
      refine ih (k + 1) (by omega) _ (fun x i q => ?_) (fun j j0 j1 => ?_)
      · rw [kup_n (by omega)]; exact h1 x i (by omega)
      · by_cases w : j = k
        · rw [w, kup_s]
        · rw [kup_n (Or.inr (by omega))]; exact h2 j j0 (by omega)
  exact v_X11_listsForm hL (by omega) (loop 16 0 (by omega) c (fun _ _ _ => rfl) (fun j a b => by omega))
theorem t_takesListed (hL : kLay S0) (hs : kPh Φ c0 c) (hl : kLs S c0) {i : Nat} (hi : i < S.1) (hlen : S.1 ≤ 300) (h : ∀ c', kPh (kU Φ x2 (S.2 i)) c0 c' → P none c') (hp : 0 ≤ x2 ∧ x2 < 100) : kC2 G S0 kM_X11_takesListed d [kA 558, kI i, kI x2] c P := by
  have hl2 := (hs.ls hl).2 i hi
  have loop : ∀ n k : Nat, k + n = 16 → ∀ c', (∀ x j : Int, x ≠ 559 → c' x j = c x j) → (∀ s : Int, s ≠ x2 → 0 ≤ s → kEq (kF c' s) (kF c s)) → (∀ j : Int, 0 ≤ j → j < k → kF c' x2 j = S.2 i j) → kW2 G S0 kM_X11_takesListed d 2 [some (kA 558), some (kI (i : Int)), some (kI x2), some (kI k)] [] c' P := by
    intro n
    induction n with
    | zero =>
      intro k hk c' h1 h2 h3
      refine v_X11_takesListed_2 hL (by omega) (by omega) (by omega) (by omega) ⟨fun _ => ?_, fun q => by omega⟩
      refine h c' ⟨fun s s0 => ?_, fun x j a b => (h1 x j a).trans (hs.2 x j a b)⟩
      unfold kU
      by_cases q : s = x2
      · rw [if_pos q, q]; exact fun j j0 j1 => h3 j j0 (by omega)
      · rw [if_neg q]; exact (h2 s q s0).tr (hs.1 s s0)
    | succ n ih =>
      intro k hk c' h1 h2 h3
      refine v_X11_takesListed_2 hL (by omega) (by omega) (by omega) (by omega) ⟨fun q => by omega, fun _ => ?_⟩
      have e1 : c' 563 (16 * (i : Int) + (k : Int)) = S.2 i k := (h1 563 _ (by decide)).trans (hl2.1 k (by omega) (by omega))
      rw [e1]
      refine ih (k + 1) (by omega) _ (fun x j q => (kup_n (Or.inl q)).trans (h1 x j q)) (fun s q s0 j j0 j1 => ?_) (fun j j0 j1 => ?_)
      · rw [kF_up (by omega) ⟨j0, j1⟩, if_neg (fun z => q z.1)]; exact h2 s q s0 j j0 j1
      · rw [kF_up (by omega) ⟨j0, by omega⟩]
        by_cases w : j = k
        · rw [if_pos ⟨rfl, w⟩, w]
        · rw [if_neg (fun z => w z.2)]; exact h3 j j0 (by omega)
  exact v_X11_takesListed hL (by omega) (by omega) (loop 16 0 (by omega) c (fun _ _ _ => rfl) (fun _ _ _ => kEq.rf) (fun j a b => by omega))
theorem t_isListed (hL : kLay S0) (hs : kPh Φ c0 c) (hl : kLs S c0) (hlen : S.1 ≤ 300) (h1 : lsHas S.2 f S.1 = true → P (some (kI 1)) c) (h0 : ¬ lsHas S.2 f S.1 = true → P (some (kI 0)) c) (hp : 0 ≤ x1 ∧ x1 < 100) (e : Φ x1 = f) (hb : kB kLB f) : kC2 G S0 kM_X11_isListed d [kA 558, kI x1] c P := by
  have hl2 := hs.ls hl
  have E := hs.e hp.1 e
  rw [lsHas_iff] at h1 h0
  have inner : ∀ i : Nat, i < S.1 → (¬ kEq (S.2 i) f → kW2 G S0 kM_X11_isListed d 2 [some (kA 558), some (kI x1), some (kI ((i + 1 : Nat) : Int)), none, none] [] c P) → ∀ n k : Nat, k + n = 16 → ∀ z : Int, (z = 1 ∧ (∀ j : Int, 0 ≤ j → j < k → S.2 i j = f j)) ∨ (z = 0 ∧ ¬ kEq (S.2 i) f) → kW2 G S0 kM_X11_isListed d 15 [some (kA 558), some (kI x1), some (kI i), some (kI z), some (kI k)] [] c P := by
    intro i hi K n
    induction n with
    | zero =>
      intro k hk z hz
      refine v_X11_isListed_15 hL (by omega) (by omega) (by omega) (by omega) (by omega) ⟨fun _ => ⟨fun q => ?_, fun q => ?_⟩, fun q => by omega⟩
      · rcases hz with hz | hz
        · omega
        · exact K hz.2
      · rcases hz with hz | hz
        · exact h1 ⟨i, hi, fun j j0 j1 => hz.2 j j0 (by omega)⟩
        · omega
    | succ n ih =>
      intro k hk z hz
      have e1 : c 563 (16 * (i : Int) + (k : Int)) = S.2 i k := (hl2.2 i hi).1 k (by omega) (by omega)
      have e2 : c 559 (16 * x1 + (k : Int)) = f k := E k (by omega) (by omega)
      refine v_X11_isListed_15 hL (by omega) (by omega) (by omega) (by omega) (by omega) ⟨fun q => by omega, fun _ => ⟨fun q => ?_, fun q => ?_⟩⟩
      · rcases hz with hz | hz
        · omega
        · exact ih (k + 1) (by omega) 0 (Or.inr ⟨rfl, hz.2⟩)
      · rw [e1, e2]
        refine ⟨kb64 (hl2.2 i hi).2 (by decide) k (by omega) (by omega), kb64 hb (by decide) k (by omega) (by omega), fun w => ?_, fun w => ?_⟩
        · exact ih (k + 1) (by omega) 0 (Or.inr ⟨rfl, fun y => w (y k (by omega) (by omega))⟩)
        · rcases hz with hz | hz
          · refine ih (k + 1) (by omega) 1 (Or.inl ⟨rfl, fun j j0 j1 => ?_⟩)
            by_cases y : j = k
            · rw [y]; exact w
            · exact hz.2 j j0 (by omega)
          · omega
  have outer : ∀ n i : Nat, i + n = S.1 → (∀ j, j < i → ¬ kEq (S.2 j) f) → kW2 G S0 kM_X11_isListed d 2 [some (kA 558), some (kI x1), some (kI i), none, none] [] c P := by
    intro n
    induction n with
    | zero =>
      intro i hi hn
      have e0 := hl2.1
      refine v_X11_isListed_2 hL (by omega) (by omega) (by omega) ⟨fun _ => h0 (fun ⟨j, a, b⟩ => hn j (by omega) b), fun q => by omega⟩
    | succ n ih =>
      intro i hi hn
      have e0 := hl2.1
      refine v_X11_isListed_2 hL (by omega) (by omega) (by omega) ⟨fun q => by omega, fun _ => ?_⟩
      refine inner i (by omega) (fun q => ih (i + 1) (by omega) (fun j hj => ?_)) 16 0 (by omega) 1 (Or.inl ⟨rfl, fun j a b => by omega⟩)
      by_cases w : j = i
      · rw [w]; exact q
      · exact hn j (by omega)
  exact v_X11_isListed hL (by omega) (outer S.1 0 (by omega) (fun j hj => by omega))
end MLS
