set_option maxRecDepth 4000 in
theorem v_X1_has {G : KG} {S0 : KSh} (hL : kLay S0) {d : Nat} {P : Option AV → KMem → Prop} {c : KMem} {x0 x1 : Int} (hx0 : kLet S0 x0) (r1 : -2147483648 ≤ x1 ∧ x1 < 2147483648) (H : (x1 < 0 → (P (some (kI 0)) c)) ∧ (0 ≤ x1 → ((12 ≤ x1 → (P (some (kI 0)) c)) ∧ (x1 < 12 → ((k32 (c (x0 + 14) x1)) ∧ (((c (x0 + 14) x1) = 0 → (P (some (kI 0)) c)) ∧ ((c (x0 + 14) x1) ≠ 0 → (P (some (kI 1)) c)))))))) : kC2 G S0 kM_X1_has d [kA x0, kI x1] c P := by
  refine k2_met (by decide) rfl (Nat.le_of_ble_eq_true rfl) (l0 := [some (kA x0), some (kI x1)]) rfl ?_
  refine kw_iload_n dX1_has_0 rfl ?_
  refine kw_if_lt 23 dX1_has_1 (by decide) (k32i (by omega)) (fun h1 => ?_) (fun h1 => ?_)
  · have H := H.1 h1
    refine kw_iconst dX1_has_23 ?_
    refine k2_zret dX1_has_24 rfl (Or.inl rfl) H
  · have H := H.2 h1
    refine kw_iload_n dX1_has_4 rfl ?_
    refine kw_bipush dX1_has_5 (by decide) ?_
    refine kw_icmp_ge 23 dX1_has_7 (by decide) (k32i (by omega)) (k32i (by omega)) (fun h2 => ?_) (fun h2 => ?_)
    · have H := H.1 h2
      refine kw_iconst dX1_has_23 ?_
      refine k2_zret dX1_has_24 rfl (Or.inl rfl) H
    · have H := H.2 h2
      refine kw_aload_n dX1_has_10 rfl ?_
      refine k2_getR fd_X1_1 dX1_has_11 wf_X1_16 hx0.1 hx0.2.2.2.1 ?_
      refine kw_iload_n dX1_has_14 rfl ?_
      refine k2_zald dX1_has_15 hx0.2.2.2.2.1 (by omega) (by omega) ?_
      have o4 := H.1
      have H := H.2
      refine kw_if_eq 23 dX1_has_16 (by decide) o4 (fun h3 => ?_) (fun h3 => ?_)
      · have H := H.1 h3
        refine kw_iconst dX1_has_23 ?_
        refine k2_zret dX1_has_24 rfl (Or.inl rfl) H
      · have H := H.2 h3
        refine kw_iconst dX1_has_19 ?_
        refine kw_goto 24 dX1_has_20 (by decide) ?_
        refine k2_zret dX1_has_24 rfl (Or.inr rfl) H
set_option maxRecDepth 4000 in
theorem v_X1_form {G : KG} {S0 : KSh} (hL : kLay S0) {d : Nat} {P : Option AV → KMem → Prop} {c : KMem} {x0 x1 : Int} (hx0 : kLet S0 x0) (r1 : -2147483648 ≤ x1 ∧ x1 < 2147483648) (hp : 0 ≤ x0 ∧ 0 ≤ x1 ∧ x1 < 12) (H : P (some (kA (x0 + 2 + x1))) c) : kC2 G S0 kM_X1_form d [kA x0, kI x1] c P := by
  refine k2_met (by decide) rfl (Nat.le_of_ble_eq_true rfl) (l0 := [some (kA x0), some (kI x1)]) rfl ?_
  refine kw_aload_n dX1_form_0 rfl ?_
  refine k2_getR fd_X1_0 dX1_form_1 wf_X1_11 hx0.1 hx0.2.1 ?_
  refine kw_iload_n dX1_form_4 rfl ?_
  have q1 : 0 ≤ x1 ∧ x1 < 12 := (by omega)
  refine k2_aald5 dX1_form_5 hx0.2.2.1 (by omega) q1 (hx0.2.2.2.2.2 _ q1.1 q1.2).1 (by omega) ?_
  refine k2_aret dX1_form_6 (by first | exact Or.inl ⟨_, rfl⟩ | exact Or.inr ⟨_, rfl⟩) (by omega) H
set_option maxRecDepth 4000 in
theorem v_X1_put {G : KG} {S0 : KSh} (hL : kLay S0) {d : Nat} {P : Option AV → KMem → Prop} {c : KMem} {x0 x1 x2 : Int} (hx0 : kLet S0 x0) (r1 : -2147483648 ≤ x1 ∧ x1 < 2147483648) (hx2 : S0.2.1 x2 = (2, 16)) (hp : 0 ≤ x0) (H : (x1 < 0 → (P none c)) ∧ (0 ≤ x1 → ((x1 < 12 → (kC2 G S0 kM_X0_copy (d + 1) [kA x2, kA (x0 + 2 + x1)] c (kRN (fun c6 => P none (kup c6 (x0 + 14) x1 1))))) ∧ (12 ≤ x1 → (P none c))))) : kC2 G S0 kM_X1_put (d + 2) [kA x0, kI x1, kA x2] c P := by
  refine k2_met (by decide) rfl (Nat.le_of_ble_eq_true rfl) (l0 := [some (kA x0), some (kI x1), some (kA x2)]) rfl ?_
  refine kw_iload_n dX1_put_0 rfl ?_
  refine kw_if_lt 10 dX1_put_1 (by decide) (k32i (by omega)) (fun h1 => ?_) (fun h1 => ?_)
  · have H := H.1 h1
    refine k2_ret dX1_put_10 rfl H
  · have H := H.2 h1
    refine kw_iload_n dX1_put_4 rfl ?_
    refine kw_bipush dX1_put_5 (by decide) ?_
    refine kw_icmp_lt 11 dX1_put_7 (by decide) (k32i (by omega)) (k32i (by omega)) (fun h2 => ?_) (fun h2 => ?_)
    · have H := H.1 h2
      refine kw_aload_n dX1_put_11 rfl ?_
      refine kw_aload_n dX1_put_12 rfl ?_
      refine k2_getR fd_X1_0 dX1_put_13 wf_X1_11 hx0.1 hx0.2.1 ?_
      refine kw_iload_n dX1_put_16 rfl ?_
      have q3 : 0 ≤ x1 ∧ x1 < 12 := (by omega)
      refine k2_aald5 dX1_put_17 hx0.2.2.1 (by omega) q3 (hx0.2.2.2.2.2 _ q3.1 q3.2).1 (by omega) ?_
      refine k2_callS2N m_X0_copy dX1_put_18 wl_X1_20 (Nat.le_of_ble_eq_true rfl) (kC2_mono H (fun r c6 H => ?_))
      obtain ⟨rfl, H⟩ := H
      refine ⟨rfl, ?_⟩
      refine kw_aload_n dX1_put_21 rfl ?_
      refine k2_getR fd_X1_1 dX1_put_22 wf_X1_16 hx0.1 hx0.2.2.2.1 ?_
      refine kw_iload_n dX1_put_25 rfl ?_
      refine kw_iconst dX1_put_26 ?_
      refine k2_zast1 (Or.inr rfl) dX1_put_27 hx0.2.2.2.2.1 (by omega) (by omega) ?_
      refine k2_ret dX1_put_28 rfl H
    · have H := H.2 h2
      refine k2_ret dX1_put_10 rfl H
set_option maxRecDepth 4000 in
theorem v_X1_forget {G : KG} {S0 : KSh} (hL : kLay S0) {d : Nat} {P : Option AV → KMem → Prop} {c : KMem} {x0 x1 : Int} (hx0 : kLet S0 x0) (r1 : -2147483648 ≤ x1 ∧ x1 < 2147483648) (H : (x1 < 0 → (P none c)) ∧ (0 ≤ x1 → ((12 ≤ x1 → (P none c)) ∧ (x1 < 12 → (P none (kup c (x0 + 14) x1 0)))))) : kC2 G S0 kM_X1_forget d [kA x0, kI x1] c P := by
  refine k2_met (by decide) rfl (Nat.le_of_ble_eq_true rfl) (l0 := [some (kA x0), some (kI x1)]) rfl ?_
  refine kw_iload_n dX1_forget_0 rfl ?_
  refine kw_if_lt 17 dX1_forget_1 (by decide) (k32i (by omega)) (fun h1 => ?_) (fun h1 => ?_)
  · have H := H.1 h1
    refine k2_ret dX1_forget_17 rfl H
  · have H := H.2 h1
    refine kw_iload_n dX1_forget_4 rfl ?_
    refine kw_bipush dX1_forget_5 (by decide) ?_
    refine kw_icmp_ge 17 dX1_forget_7 (by decide) (k32i (by omega)) (k32i (by omega)) (fun h2 => ?_) (fun h2 => ?_)
    · have H := H.1 h2
      refine k2_ret dX1_forget_17 rfl H
    · have H := H.2 h2
      refine kw_aload_n dX1_forget_10 rfl ?_
      refine k2_getR fd_X1_1 dX1_forget_11 wf_X1_16 hx0.1 hx0.2.2.2.1 ?_
      refine kw_iload_n dX1_forget_14 rfl ?_
      refine kw_iconst dX1_forget_15 ?_
      refine k2_zast1 (Or.inl rfl) dX1_forget_16 hx0.2.2.2.2.1 (by omega) (by omega) ?_
      refine k2_ret dX1_forget_17 rfl H
set_option maxRecDepth 4000 in
theorem v_X1_size {G : KG} {S0 : KSh} (hL : kLay S0) {d : Nat} {P : Option AV → KMem → Prop} {c : KMem} {x0 : Int} (hx0 : kLet S0 x0) (H : kW2 G S0 kM_X1_size d 4 [some (kA x0), some (kI 0), some (kI 0)] [] c P) : kC2 G S0 kM_X1_size d [kA x0] c P := by
  refine k2_met (by decide) rfl (Nat.le_of_ble_eq_true rfl) (l0 := [some (kA x0), none, none]) rfl ?_
  refine kw_iconst dX1_size_0 ?_
  refine kw_istore_n dX1_size_1 (Nat.le_of_ble_eq_true rfl) ?_
  refine kw_iconst dX1_size_2 ?_
  refine kw_istore_n dX1_size_3 (Nat.le_of_ble_eq_true rfl) ?_
  exact kw_forget (ls' := [some (kA x0), some (kI 0), some (kI 0)]) ⟨Or.inr rfl, ⟨Or.inr rfl, ⟨Or.inr rfl, trivial⟩⟩⟩ H
set_option maxRecDepth 4000 in
theorem v_X1_size_4 {G : KG} {S0 : KSh} (hL : kLay S0) {d : Nat} {P : Option AV → KMem → Prop} {c : KMem} {x0 x1 x2 : Int} (hx0 : kLet S0 x0) (r1 : 0 ≤ x1 ∧ x1 < 2147483648) (r2 : 0 ≤ x2 ∧ x2 < 2147483648) (H : (12 ≤ x2 → (P (some (kI x1)) c)) ∧ (x2 < 12 → ((k32 (c (x0 + 14) x2)) ∧ (((c (x0 + 14) x2) = 0 → (kW2 G S0 kM_X1_size d 4 [some (kA x0), some (kI x1), some (kI (x2 + 1))] [] c P)) ∧ ((c (x0 + 14) x2) ≠ 0 → (kW2 G S0 kM_X1_size d 4 [some (kA x0), some (kI (x1 + 1)), some (kI (x2 + 1))] [] c P)))))) : kW2 G S0 kM_X1_size d 4 [some (kA x0), some (kI x1), some (kI x2)] [] c P := by
  refine kw_iload_n dX1_size_4 rfl ?_
  refine kw_bipush dX1_size_5 (by decide) ?_
  refine kw_icmp_ge 28 dX1_size_7 (by decide) (k32i (by omega)) (k32i (by omega)) (fun h1 => ?_) (fun h1 => ?_)
  · have H := H.1 h1
    refine kw_iload_n dX1_size_28 rfl ?_
    refine k2_iret dX1_size_29 rfl H
  · have H := H.2 h1
    refine kw_aload_n dX1_size_10 rfl ?_
    refine k2_getR fd_X1_1 dX1_size_11 wf_X1_16 hx0.1 hx0.2.2.2.1 ?_
    refine kw_iload_n dX1_size_14 rfl ?_
    refine k2_zald dX1_size_15 hx0.2.2.2.2.1 (by omega) (by omega) ?_
    have o3 := H.1
    have H := H.2
    refine kw_if_eq 22 dX1_size_16 (by decide) o3 (fun h2 => ?_) (fun h2 => ?_)
    · have H := H.1 h2
      refine kw_iinc dX1_size_22 rfl ?_
      refine kw_goto 4 dX1_size_25 (by decide) ?_
      exact kw_forget (ls' := [some (kA x0), some (kI x1), some (kI (x2 + 1))]) ⟨Or.inr rfl, ⟨Or.inr rfl, ⟨Or.inr rfl, trivial⟩⟩⟩ H
    · have H := H.2 h2
      refine kw_iinc dX1_size_19 rfl ?_
      refine kw_iinc dX1_size_22 rfl ?_
      refine kw_goto 4 dX1_size_25 (by decide) ?_
      exact kw_forget (ls' := [some (kA x0), some (kI (x1 + 1)), some (kI (x2 + 1))]) ⟨Or.inr rfl, ⟨Or.inr rfl, ⟨Or.inr rfl, trivial⟩⟩⟩ H
set_option maxRecDepth 4000 in
theorem v_X1_become {G : KG} {S0 : KSh} (hL : kLay S0) {d : Nat} {P : Option AV → KMem → Prop} {c : KMem} {x0 x1 : Int} (hx0 : kLet S0 x0) (hx1 : kLet S0 x1) (hp : 0 ≤ x0 ∧ 0 ≤ x1) (H : kW2 G S0 kM_X1_become (d + 2) 2 [some (kA x0), some (kA x1), some (kI 0)] [] c P) : kC2 G S0 kM_X1_become (d + 2) [kA x0, kA x1] c P := by
  refine k2_met (by decide) rfl (Nat.le_of_ble_eq_true rfl) (l0 := [some (kA x0), some (kA x1), none]) rfl ?_
  refine kw_iconst dX1_become_0 ?_
  refine kw_istore_n dX1_become_1 (Nat.le_of_ble_eq_true rfl) ?_
  exact kw_forget (ls' := [some (kA x0), some (kA x1), some (kI 0)]) ⟨Or.inr rfl, ⟨Or.inr rfl, ⟨Or.inr rfl, trivial⟩⟩⟩ H
set_option maxRecDepth 4000 in
theorem v_X1_become_2 {G : KG} {S0 : KSh} (hL : kLay S0) {d : Nat} {P : Option AV → KMem → Prop} {c : KMem} {x0 x1 x2 : Int} (hx0 : kLet S0 x0) (hx1 : kLet S0 x1) (r2 : 0 ≤ x2 ∧ x2 < 2147483648) (hp : 0 ≤ x0 ∧ 0 ≤ x1) (H : (12 ≤ x2 → (P none c)) ∧ (x2 < 12 → (((c (x1 + 14) x2) = 0 ∨ (c (x1 + 14) x2) = 1) ∧ ((k32 ((kup c (x0 + 14) x2 (c (x1 + 14) x2)) (x0 + 14) x2)) ∧ ((((kup c (x0 + 14) x2 (c (x1 + 14) x2)) (x0 + 14) x2) = 0 → (kW2 G S0 kM_X1_become (d + 2) 2 [some (kA x0), some (kA x1), some (kI (x2 + 1))] [] (kup c (x0 + 14) x2 (c (x1 + 14) x2)) P)) ∧ (((kup c (x0 + 14) x2 (c (x1 + 14) x2)) (x0 + 14) x2) ≠ 0 → (kC2 G S0 kM_X0_copy (d + 1) [kA (x1 + 2 + x2), kA (x0 + 2 + x2)] (kup c (x0 + 14) x2 (c (x1 + 14) x2)) (kRN (fun c10 => kW2 G S0 kM_X1_become (d + 2) 2 [some (kA x0), some (kA x1), some (kI (x2 + 1))] [] c10 P))))))))) : kW2 G S0 kM_X1_become (d + 2) 2 [some (kA x0), some (kA x1), some (kI x2)] [] c P := by
  refine kw_iload_n dX1_become_2 rfl ?_
  refine kw_bipush dX1_become_3 (by decide) ?_
  refine kw_icmp_ge 50 dX1_become_5 (by decide) (k32i (by omega)) (k32i (by omega)) (fun h1 => ?_) (fun h1 => ?_)
  · have H := H.1 h1
    refine k2_ret dX1_become_50 rfl H
  · have H := H.2 h1
    refine kw_aload_n dX1_become_8 rfl ?_
    refine k2_getR fd_X1_1 dX1_become_9 wf_X1_16 hx0.1 hx0.2.2.2.1 ?_
    refine kw_iload_n dX1_become_12 rfl ?_
    refine kw_aload_n dX1_become_13 rfl ?_
    refine k2_getR fd_X1_1 dX1_become_14 wf_X1_16 hx1.1 hx1.2.2.2.1 ?_
    refine kw_iload_n dX1_become_17 rfl ?_
    refine k2_zald dX1_become_18 hx1.2.2.2.2.1 (by omega) (by omega) ?_
    have o2 := H.1
    have H := H.2
    refine k2_zast1 o2 dX1_become_19 hx0.2.2.2.2.1 (by omega) (by omega) ?_
    refine kw_aload_n dX1_become_20 rfl ?_
    refine k2_getR fd_X1_1 dX1_become_21 wf_X1_16 hx0.1 hx0.2.2.2.1 ?_
    refine kw_iload_n dX1_become_24 rfl ?_
    refine k2_zald dX1_become_25 hx0.2.2.2.2.1 (by omega) (by omega) ?_
    have o4 := H.1
    have H := H.2
    refine kw_if_eq 44 dX1_become_26 (by decide) o4 (fun h3 => ?_) (fun h3 => ?_)
    · have H := H.1 h3
      refine kw_iinc dX1_become_44 rfl ?_
      refine kw_goto 2 dX1_become_47 (by decide) ?_
      exact kw_forget (ls' := [some (kA x0), some (kA x1), some (kI (x2 + 1))]) ⟨Or.inr rfl, ⟨Or.inr rfl, ⟨Or.inr rfl, trivial⟩⟩⟩ H
    · have H := H.2 h3
      refine kw_aload_n dX1_become_29 rfl ?_
      refine k2_getR fd_X1_0 dX1_become_30 wf_X1_11 hx1.1 hx1.2.1 ?_
      refine kw_iload_n dX1_become_33 rfl ?_
      have q5 : 0 ≤ x2 ∧ x2 < 12 := (by omega)
      refine k2_aald5 dX1_become_34 hx1.2.2.1 (by omega) q5 (hx1.2.2.2.2.2 _ q5.1 q5.2).1 (by omega) ?_
      refine kw_aload_n dX1_become_35 rfl ?_
      refine k2_getR fd_X1_0 dX1_become_36 wf_X1_11 hx0.1 hx0.2.1 ?_
      refine kw_iload_n dX1_become_39 rfl ?_
      have q7 : 0 ≤ x2 ∧ x2 < 12 := (by omega)
      refine k2_aald5 dX1_become_40 hx0.2.2.1 (by omega) q7 (hx0.2.2.2.2.2 _ q7.1 q7.2).1 (by omega) ?_
      refine k2_callS2N m_X0_copy dX1_become_41 wl_X1_20 (Nat.le_of_ble_eq_true rfl) (kC2_mono H (fun r c10 H => ?_))
      obtain ⟨rfl, H⟩ := H
      refine ⟨rfl, ?_⟩
      refine kw_iinc dX1_become_44 rfl ?_
      refine kw_goto 2 dX1_become_47 (by decide) ?_
      exact kw_forget (ls' := [some (kA x0), some (kA x1), some (kI (x2 + 1))]) ⟨Or.inr rfl, ⟨Or.inr rfl, ⟨Or.inr rfl, trivial⟩⟩⟩ H
/-- a set of LETTERS in the class, at t: which stand (H), for what (F) -/
def kStT (c : KMem) (t : Int) : Prop := ∀ l : Int, 0 ≤ l → l < 12 → c (t + 14) l = 0 ∨ c (t + 14) l = 1
def kHs (c : KMem) (t l : Int) : Prop := 0 ≤ l ∧ l < 12 ∧ c (t + 14) l ≠ 0
def kLm (t : Int) (H : Int → Bool) (F : Int → KF) (c : KMem) : Prop := kStT c t ∧ (∀ l : Int, H l = true ↔ kHs c t l) ∧ ∀ l : Int, H l = true → kEq (c (t + 2 + l)) (F l) ∧ kB kLB (F l)
theorem kLm.kept {t : Int} {H : Int → Bool} {F : Int → KF} {c c' : KMem} (h : kLm t H F c) (e : ∀ a i : Int, t ≤ a → a < t + 15 → c' a i = c a i) : kLm t H F c' := by
  obtain ⟨h1, h2, h3⟩ := h
  have e14 : ∀ i, c' (t + 14) i = c (t + 14) i := fun i => e _ i (by omega) (by omega)
  refine ⟨fun l a b => by rw [e14]; exact h1 l a b, fun l => by rw [h2]; unfold kHs; rw [e14], fun l hl => ⟨fun k a b => ?_, (h3 l hl).2⟩⟩
  have := (h2 l).mp hl
  rw [e _ k (by have := this.1; omega) (by have := this.2.1; omega)]
  exact (h3 l hl).1 k a b
theorem kLm.rg {t l : Int} {H : Int → Bool} {F : Int → KF} {c : KMem} (h : kLm t H F c) (hl : H l = true) : 0 ≤ l ∧ l < 12 := by have := (h.2.1 l).mp hl; exact ⟨this.1, this.2.1⟩
def hSet (H : Int → Bool) (x : Int) (b : Bool) : Int → Bool := fun l => if l = x then b else H l
section CLE
variable {G : KG} {S0 : KSh} {d : Nat} {P : Option AV → KMem → Prop} {c : KMem} {x0 x1 x2 x3 x4 : Int} {H : Int → Bool} {F : Int → KF} {f g : KF} {M : Int}
theorem s_X1_has (hL : kLay S0) (hx0 : kLet S0 x0) (hs : kStT c x0) (r1 : k32 x1) (h1 : kHs c x0 x1 → P (some (kI 1)) c) (h0 : ¬ kHs c x0 x1 → P (some (kI 0)) c) : kC2 G S0 kM_X1_has d [kA x0, kI x1] c P := by
  unfold kHs at h1 h0
  refine v_X1_has hL hx0 r1 ⟨fun a => h0 (fun q => by omega), fun a => ⟨fun b => h0 (fun q => by omega), fun b => ⟨by have := hs x1 a b; exact k32i (by omega), fun e => h0 (fun q => q.2.2 e), fun e => h1 ⟨a, b, e⟩⟩⟩⟩
theorem s_X1_form (hL : kLay S0) (hx0 : kLet S0 x0) (p0 : 0 ≤ x0) (r1 : 0 ≤ x1 ∧ x1 < 12) (h : P (some (kA (x0 + 2 + x1))) c) : kC2 G S0 kM_X1_form d [kA x0, kI x1] c P := v_X1_form hL hx0 (by omega) ⟨p0, r1⟩ h
theorem s_X1_put (hL : kLay S0) (hx0 : kLet S0 x0) (p0 : 0 ≤ x0) (r1 : 0 ≤ x1 ∧ x1 < 12) (hx2 : S0.2.1 x2 = (2, 16)) (hl : kLm x0 H F c) (e : kEq (c x2) f) (hb : kB kLB f) (h : ∀ c', kLm x0 (hSet H x1 true) (kU F x1 f) c' → (∀ a i : Int, a < x0 ∨ x0 + 15 ≤ a → c' a i = c a i) → P none c') : kC2 G S0 kM_X1_put (d + 2) [kA x0, kI x1, kA x2] c P := by
  refine v_X1_put hL hx0 (by omega) hx2 p0 ⟨fun a => by omega, fun _ => ⟨fun _ => s_X0_copy hL hx2 (hx0.2.2.2.2.2 _ r1.1 r1.2).2 (fun c1 e1 o1 => ⟨rfl, h _ ⟨fun l a b => ?_, fun l => ?_, fun l q => ?_⟩ (fun a i q => ?_)⟩), fun a => by omega⟩⟩
  · by_cases w : l = x1
    · rw [w, kup_s]; exact Or.inr rfl
    · rw [kup_n (Or.inr w), o1 _ _ (by omega)]; exact hl.1 l a b
  · unfold hSet kHs
    by_cases w : l = x1
    · rw [if_pos w, w, kup_s]; exact ⟨fun _ => ⟨r1.1, r1.2, by omega⟩, fun _ => rfl⟩
    · rw [if_neg w, kup_n (Or.inr w), hl.2.1 l]; unfold kHs
      constructor
      · rintro ⟨a, b, z⟩; exact ⟨a, b, by rw [o1 _ _ (by omega)]; exact z⟩
      · rintro ⟨a, b, z⟩; exact ⟨a, b, by rw [o1 _ _ (by omega)] at z; exact z⟩
  · unfold hSet at q
    show kEq _ (if l = x1 then f else F l) ∧ kB kLB (if l = x1 then f else F l)
    by_cases w : l = x1
    · rw [if_pos w, w]
      refine ⟨fun k a b => ?_, hb⟩
      rw [kup_n (Or.inl (by omega)), e1 k a b]; exact e k a b
    · rw [if_neg w]; rw [if_neg w] at q
      have hr := hl.rg q
      refine ⟨fun k a b => ?_, (hl.2.2 l q).2⟩
      rw [kup_n (Or.inl (by omega)), o1 _ _ (by omega)]; exact (hl.2.2 l q).1 k a b
  · rw [kup_n (Or.inl (by omega))]; exact o1 a i (by omega)
theorem s_X1_forget (hL : kLay S0) (hx0 : kLet S0 x0) (r1 : 0 ≤ x1 ∧ x1 < 12) (hl : kLm x0 H F c) (h : ∀ c', kLm x0 (hSet H x1 false) F c' → (∀ a i : Int, a < x0 ∨ x0 + 15 ≤ a → c' a i = c a i) → P none c') : kC2 G S0 kM_X1_forget d [kA x0, kI x1] c P := by
  refine v_X1_forget hL hx0 (by omega) ⟨fun a => by omega, fun _ => ⟨fun a => by omega, fun _ => h _ ⟨fun l a b => ?_, fun l => ?_, fun l q => ?_⟩ (fun a i q => kup_n (Or.inl (by omega)))⟩⟩
  · by_cases w : l = x1
    · rw [w, kup_s]; exact Or.inl rfl
    · rw [kup_n (Or.inr w)]; exact hl.1 l a b
  · unfold hSet kHs
    by_cases w : l = x1
    · rw [if_pos w, w, kup_s]; exact ⟨fun q => absurd q (by decide), fun q => absurd rfl q.2.2⟩
    · rw [if_neg w, kup_n (Or.inr w), hl.2.1 l]; exact Iff.rfl
  · unfold hSet at q
    by_cases w : l = x1
    · rw [if_pos w] at q; cases q
    · rw [if_neg w] at q
      have hr := hl.rg q
      refine ⟨fun k a b => ?_, (hl.2.2 l q).2⟩
      rw [kup_n (Or.inl (by omega))]; exact (hl.2.2 l q).1 k a b
theorem s_X1_size (hL : kLay S0) (hx0 : kLet S0 x0) (hl : kLm x0 H F c) (h : P (some (kI (kHn H 12))) c) : kC2 G S0 kM_X1_size d [kA x0] c P := by
  have loop : ∀ n k : Nat, k + n = 12 → kW2 G S0 kM_X1_size d 4 [some (kA x0), some (kI (kHn H k : Int)), some (kI (k : Int))] [] c P := by
    intro n
    induction n with
    | zero =>
      intro k hk
      obtain rfl : k = 12 := by omega
      have := kHn_le H 12
      exact v_X1_size_4 hL hx0 (by omega) (by omega) ⟨fun _ => h, fun z => by omega⟩
    | succ n ih =>
      intro k hk
      have := kHn_le H k
      have hr := ih (k + 1) (by omega)
      have e : kHn H (k + 1) = if H k = true then kHn H k + 1 else kHn H k := rfl
      have hh := hl.2.1 (k : Int)
      have h01 := hl.1 (k : Int) (by omega) (by omega)
      unfold kHs at hh
      refine v_X1_size_4 hL hx0 (by omega) (by omega) ⟨fun z => by omega, fun _ => ⟨k32i (by omega), fun z => ?_, fun z => ?_⟩⟩
      · rw [e, if_neg (fun q => (hh.mp q).2.2 z)] at hr; exact hr
      · rw [e, if_pos (hh.mpr ⟨by omega, by omega, z⟩)] at hr; exact hr
  exact v_X1_size hL hx0 (loop 12 0 (by omega))
theorem s_X1_become (hL : kLay S0) (hx0 : kLet S0 x0) (hx1 : kLet S0 x1) (p0 : 0 ≤ x0 ∧ 0 ≤ x1) (ap : x0 + 15 ≤ x1 ∨ x1 + 15 ≤ x0) (hl : kLm x1 H F c) (h : ∀ c', kLm x0 H F c' → (∀ a i : Int, a < x0 ∨ x0 + 15 ≤ a → c' a i = c a i) → P none c') : kC2 G S0 kM_X1_become (d + 2) [kA x0, kA x1] c P := by
  have loop : ∀ n k : Nat, k + n = 12 → ∀ c', (∀ a i : Int, a < x0 ∨ x0 + 15 ≤ a → c' a i = c a i) → (∀ l : Int, 0 ≤ l → l < k → c' (x0 + 14) l = c (x1 + 14) l) → (∀ l : Int, l < k → H l = true → kEq (c' (x0 + 2 + l)) (F l)) → kW2 G S0 kM_X1_become (d + 2) 2 [some (kA x0), some (kA x1), some (kI (k : Int))] [] c' P := by
    intro n
    induction n with
    | zero =>
      intro k hk c' o h1 h2
      obtain rfl : k = 12 := by omega
      refine v_X1_become_2 hL hx0 hx1 (by omega) p0 ⟨fun _ => h c' ⟨fun l a b => by rw [h1 l a b]; exact hl.1 l a b, fun l => ?_, fun l q => ⟨h2 l (by have := hl.rg q; omega) q, (hl.2.2 l q).2⟩⟩ o, fun z => by omega⟩
      rw [hl.2.1 l]; unfold kHs
      constructor
      · rintro ⟨a, b, z⟩; exact ⟨a, b, by rw [h1 l a b]; exact z⟩
      · rintro ⟨a, b, z⟩; exact ⟨a, b, by rw [h1 l a b] at z; exact z⟩
    | succ n ih =>
      intro k hk c' o h1 h2
      have ek : c' (x1 + 14) k = c (x1 + 14) k := o _ _ (by omega)
      have h01 := hl.1 (k : Int) (by omega) (by omega)
      have hh := hl.2.1 (k : Int)
      unfold kHs at hh
      have st : ∀ l : Int, 0 ≤ l → l < ((k + 1 : Nat) : Int) → kup c' (x0 + 14) k (c (x1 + 14) k) (x0 + 14) l = c (x1 + 14) l := fun l a b => by
        by_cases w : l = k
        · rw [w, kup_s]
        · rw [kup_n (Or.inr w)]; exact h1 l a (by omega)
      have o2 : ∀ a i : Int, a < x0 ∨ x0 + 15 ≤ a → kup c' (x0 + 14) k (c (x1 + 14) k) a i = c a i := fun a i q => by rw [kup_n (Or.inl (by omega))]; exact o a i q
      refine v_X1_become_2 hL hx0 hx1 (by omega) p0 ⟨fun z => by omega, fun _ => ?_⟩
      rw [ek, kup_s]
      refine ⟨h01, k32i (by omega), fun z => ?_, fun z => ?_⟩
      · refine ih (k + 1) (by omega) _ o2 st (fun l a q => ?_)
        have hr := hl.rg q
        have w : l ≠ k := fun w => by rw [w] at q; exact (hh.mp q).2.2 z
        intro j j0 j1
        rw [kup_n (Or.inl (by omega))]
        exact h2 l (by omega) q j j0 j1
      · have hk1 : H k = true := hh.mpr ⟨by omega, by omega, z⟩
        refine s_X0_copy hL (hx1.2.2.2.2.2 _ (by omega) (by omega)).2 (hx0.2.2.2.2.2 _ (by omega) (by omega)).2 (fun c2 e2 o3 => ⟨rfl, ih (k + 1) (by omega) c2 (fun a i q => (o3 a i (by omega)).trans (o2 a i q)) (fun l a b => (o3 _ _ (by omega)).trans (st l a b)) (fun l a q => ?_)⟩)
        have hr := hl.rg q
        intro j j0 j1
        by_cases w : l = k
        · rw [w, e2 j j0 j1, o2 _ _ (by omega)]
          exact (hl.2.2 _ hk1).1 j j0 j1
        · rw [o3 _ _ (by omega), kup_n (Or.inl (by omega))]
          exact h2 l (by omega) q j j0 j1
  exact v_X1_become hL hx0 hx1 p0 (loop 12 0 (by omega) c (fun _ _ _ => rfl) (fun l a b => by omega) (fun l a q => by have := hl.rg q; omega))
end CLE
