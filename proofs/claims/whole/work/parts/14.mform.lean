set_option maxRecDepth 4000 in
theorem v_X11_at {G : KG} {S0 : KSh} (hL : kLay S0) {d : Nat} {P : Option AV → KMem → Prop} {c : KMem} {x1 x2 : Int} (r1 : -2147483648 ≤ x1 ∧ x1 < 2147483648) (r2 : -2147483648 ≤ x2 ∧ x2 < 2147483648) (hp : 0 ≤ 16 * x1 + x2 ∧ 16 * x1 + x2 < 1600) (H : P (some (kL (c 559 ((16 * x1) + x2)))) c) : kC2 G S0 kM_X11_at d [kA 558, kI x1, kI x2] c P := by
  refine k2_met (by decide) rfl (Nat.le_of_ble_eq_true rfl) (l0 := [some (kA 558), some (kI x1), some (kI x2)]) rfl ?_
  refine kw_aload_n dX11_at_0 rfl ?_
  refine k2_getR fd_X11_0 dX11_at_1 wf_X11_7 (lsh_558 hL) (lrf_558_0 hL) ?_
  refine kw_bipush dX11_at_4 (by decide) ?_
  refine kw_iload_n dX11_at_6 rfl ?_
  refine kw_imul dX11_at_7 ?_
  refine kw_iload_n dX11_at_8 rfl ?_
  refine kw_iadd dX11_at_9 ?_
  refine k2_lald dX11_at_10 (lsh_559 hL) (by omega) (by omega) ?_
  refine k2_lret dX11_at_11 rfl H
set_option maxRecDepth 4000 in
theorem v_X11_sets {G : KG} {S0 : KSh} (hL : kLay S0) {d : Nat} {P : Option AV → KMem → Prop} {c : KMem} {x1 x2 x3 : Int} (r1 : -2147483648 ≤ x1 ∧ x1 < 2147483648) (r2 : -2147483648 ≤ x2 ∧ x2 < 2147483648) (hp : 0 ≤ 16 * x1 + x2 ∧ 16 * x1 + x2 < 1600) (H : P none (kup c 559 ((16 * x1) + x2) x3)) : kC2 G S0 kM_X11_sets d [kA 558, kI x1, kI x2, kL x3] c P := by
  refine k2_met (by decide) rfl (Nat.le_of_ble_eq_true rfl) (l0 := [some (kA 558), some (kI x1), some (kI x2), some (kL x3), none]) rfl ?_
  refine kw_aload_n dX11_sets_0 rfl ?_
  refine k2_getR fd_X11_0 dX11_sets_1 wf_X11_7 (lsh_558 hL) (lrf_558_0 hL) ?_
  refine kw_bipush dX11_sets_4 (by decide) ?_
  refine kw_iload_n dX11_sets_6 rfl ?_
  refine kw_imul dX11_sets_7 ?_
  refine kw_iload_n dX11_sets_8 rfl ?_
  refine kw_iadd dX11_sets_9 ?_
  refine kw_lload_n dX11_sets_10 rfl ?_
  refine k2_last dX11_sets_11 (lsh_559 hL) (by omega) (by omega) ?_
  refine k2_ret dX11_sets_12 rfl H
set_option maxRecDepth 4000 in
theorem v_X11_copies {G : KG} {S0 : KSh} (hL : kLay S0) {d : Nat} {P : Option AV → KMem → Prop} {c : KMem} {x1 x2 : Int} (r1 : -2147483648 ≤ x1 ∧ x1 < 2147483648) (r2 : -2147483648 ≤ x2 ∧ x2 < 2147483648) (H : kW2 G S0 kM_X11_copies d 2 [some (kA 558), some (kI x1), some (kI x2), some (kI 0)] [] c P) : kC2 G S0 kM_X11_copies d [kA 558, kI x1, kI x2] c P := by
  refine k2_met (by decide) rfl (Nat.le_of_ble_eq_true rfl) (l0 := [some (kA 558), some (kI x1), some (kI x2), none]) rfl ?_
  refine kw_iconst dX11_copies_0 ?_
  refine kw_istore_n dX11_copies_1 (Nat.le_of_ble_eq_true rfl) ?_
  exact kw_forget (ls' := [some (kA 558), some (kI x1), some (kI x2), some (kI 0)]) ⟨Or.inr rfl, ⟨Or.inr rfl, ⟨Or.inr rfl, ⟨Or.inr rfl, trivial⟩⟩⟩⟩ H
set_option maxRecDepth 4000 in
theorem v_X11_copies_2 {G : KG} {S0 : KSh} (hL : kLay S0) {d : Nat} {P : Option AV → KMem → Prop} {c : KMem} {x1 x2 x3 : Int} (r1 : -2147483648 ≤ x1 ∧ x1 < 2147483648) (r2 : -2147483648 ≤ x2 ∧ x2 < 2147483648) (r3 : 0 ≤ x3 ∧ x3 < 2147483648) (hp : 0 ≤ x1 ∧ x1 < 100 ∧ 0 ≤ x2 ∧ x2 < 100 ∧ 0 ≤ x3) (H : (16 ≤ x3 → (P none c)) ∧ (x3 < 16 → (kW2 G S0 kM_X11_copies d 2 [some (kA 558), some (kI x1), some (kI x2), some (kI (x3 + 1))] [] (kup c 559 ((16 * x2) + x3) (c 559 ((16 * x1) + x3))) P))) : kW2 G S0 kM_X11_copies d 2 [some (kA 558), some (kI x1), some (kI x2), some (kI x3)] [] c P := by
  refine kw_iload_n dX11_copies_2 rfl ?_
  refine kw_bipush dX11_copies_3 (by decide) ?_
  refine kw_icmp_ge 36 dX11_copies_5 (by decide) (k32i (by omega)) (k32i (by omega)) (fun h1 => ?_) (fun h1 => ?_)
  · have H := H.1 h1
    refine k2_ret dX11_copies_36 rfl H
  · have H := H.2 h1
    refine kw_aload_n dX11_copies_8 rfl ?_
    refine k2_getR fd_X11_0 dX11_copies_9 wf_X11_7 (lsh_558 hL) (lrf_558_0 hL) ?_
    refine kw_bipush dX11_copies_12 (by decide) ?_
    refine kw_iload_n dX11_copies_14 rfl ?_
    refine kw_imul dX11_copies_15 ?_
    refine kw_iload_n dX11_copies_16 rfl ?_
    refine kw_iadd dX11_copies_17 ?_
    refine kw_aload_n dX11_copies_18 rfl ?_
    refine k2_getR fd_X11_0 dX11_copies_19 wf_X11_7 (lsh_558 hL) (lrf_558_0 hL) ?_
    refine kw_bipush dX11_copies_22 (by decide) ?_
    refine kw_iload_n dX11_copies_24 rfl ?_
    refine kw_imul dX11_copies_25 ?_
    refine kw_iload_n dX11_copies_26 rfl ?_
    refine kw_iadd dX11_copies_27 ?_
    refine k2_lald dX11_copies_28 (lsh_559 hL) (by omega) (by omega) ?_
    refine k2_last dX11_copies_29 (lsh_559 hL) (by omega) (by omega) ?_
    refine kw_iinc dX11_copies_30 rfl ?_
    refine kw_goto 2 dX11_copies_33 (by decide) ?_
    exact kw_forget (ls' := [some (kA 558), some (kI x1), some (kI x2), some (kI (x3 + 1))]) ⟨Or.inr rfl, ⟨Or.inr rfl, ⟨Or.inr rfl, ⟨Or.inr rfl, trivial⟩⟩⟩⟩ H
set_option maxRecDepth 4000 in
theorem v_X11_empties {G : KG} {S0 : KSh} (hL : kLay S0) {d : Nat} {P : Option AV → KMem → Prop} {c : KMem} {x1 : Int} (r1 : -2147483648 ≤ x1 ∧ x1 < 2147483648) (H : kW2 G S0 kM_X11_empties d 2 [some (kA 558), some (kI x1), some (kI 0)] [] c P) : kC2 G S0 kM_X11_empties d [kA 558, kI x1] c P := by
  refine k2_met (by decide) rfl (Nat.le_of_ble_eq_true rfl) (l0 := [some (kA 558), some (kI x1), none]) rfl ?_
  refine kw_iconst dX11_empties_0 ?_
  refine kw_istore_n dX11_empties_1 (Nat.le_of_ble_eq_true rfl) ?_
  exact kw_forget (ls' := [some (kA 558), some (kI x1), some (kI 0)]) ⟨Or.inr rfl, ⟨Or.inr rfl, ⟨Or.inr rfl, trivial⟩⟩⟩ H
set_option maxRecDepth 4000 in
theorem v_X11_empties_2 {G : KG} {S0 : KSh} (hL : kLay S0) {d : Nat} {P : Option AV → KMem → Prop} {c : KMem} {x1 x2 : Int} (r1 : -2147483648 ≤ x1 ∧ x1 < 2147483648) (r2 : 0 ≤ x2 ∧ x2 < 2147483648) (hp : 0 ≤ x1 ∧ x1 < 100 ∧ 0 ≤ x2) (H : (16 ≤ x2 → (P none c)) ∧ (x2 < 16 → (kW2 G S0 kM_X11_empties d 2 [some (kA 558), some (kI x1), some (kI (x2 + 1))] [] (kup c 559 ((16 * x1) + x2) 0) P))) : kW2 G S0 kM_X11_empties d 2 [some (kA 558), some (kI x1), some (kI x2)] [] c P := by
  refine kw_iload_n dX11_empties_2 rfl ?_
  refine kw_bipush dX11_empties_3 (by decide) ?_
  refine kw_icmp_ge 26 dX11_empties_5 (by decide) (k32i (by omega)) (k32i (by omega)) (fun h1 => ?_) (fun h1 => ?_)
  · have H := H.1 h1
    refine k2_ret dX11_empties_26 rfl H
  · have H := H.2 h1
    refine kw_aload_n dX11_empties_8 rfl ?_
    refine k2_getR fd_X11_0 dX11_empties_9 wf_X11_7 (lsh_558 hL) (lrf_558_0 hL) ?_
    refine kw_bipush dX11_empties_12 (by decide) ?_
    refine kw_iload_n dX11_empties_14 rfl ?_
    refine kw_imul dX11_empties_15 ?_
    refine kw_iload_n dX11_empties_16 rfl ?_
    refine kw_iadd dX11_empties_17 ?_
    refine kw_lconst0 dX11_empties_18 ?_
    refine k2_last dX11_empties_19 (lsh_559 hL) (by omega) (by omega) ?_
    refine kw_iinc dX11_empties_20 rfl ?_
    refine kw_goto 2 dX11_empties_23 (by decide) ?_
    exact kw_forget (ls' := [some (kA 558), some (kI x1), some (kI (x2 + 1))]) ⟨Or.inr rfl, ⟨Or.inr rfl, ⟨Or.inr rfl, trivial⟩⟩⟩ H
set_option maxRecDepth 4000 in
theorem v_X11_lowest {G : KG} {S0 : KSh} (hL : kLay S0) {d : Nat} {P : Option AV → KMem → Prop} {c : KMem} {x0 x2 x4 : Int} (r4 : -2147483648 ≤ x4 ∧ x4 < 2147483648) (H : kC2 G S0 kM_X11_gcd (d + 1) [kL x0, kL x2] c (kRL (fun z1 c2 => (k64 x2) ∧ ((0 ≤ x2 → ((x4 ≠ 0 → ((k64 z1) ∧ ((z1 ≠ 0) ∧ (P (some (kL (Int.tdiv x2 z1))) c2)))) ∧ (x4 = 0 → ((k64 x0) ∧ ((k64 z1) ∧ ((z1 ≠ 0) ∧ (P (some (kL (Int.tdiv x0 z1))) c2))))))) ∧ (x2 < 0 → ((x4 ≠ 0 → ((k64 (-z1)) ∧ (((-z1) ≠ 0) ∧ (P (some (kL (Int.tdiv x2 (-z1)))) c2)))) ∧ (x4 = 0 → ((k64 x0) ∧ ((k64 (-z1)) ∧ (((-z1) ≠ 0) ∧ (P (some (kL (Int.tdiv x0 (-z1)))) c2))))))))))) : kC2 G S0 kM_X11_lowest (d + 2) [kL x0, kL x2, kI x4] c P := by
  refine k2_met (by decide) rfl (Nat.le_of_ble_eq_true rfl) (l0 := [some (kL x0), none, some (kL x2), none, some (kI x4), none, none, none, none]) rfl ?_
  refine kw_lload_n dX11_lowest_0 rfl ?_
  refine kw_lload_n dX11_lowest_1 rfl ?_
  refine k2_callS2L m_X11_gcd dX11_lowest_2 wl_X11_76 (Nat.le_of_ble_eq_true rfl) (kC2_mono H (fun r c2 H => ?_))
  obtain ⟨z1, rfl, H⟩ := H
  refine ⟨z1, rfl, ?_⟩
  refine kw_lstore dX11_lowest_5 (Nat.le_of_ble_eq_true rfl) ?_
  refine kw_lload_n dX11_lowest_7 rfl ?_
  refine kw_lconst0 dX11_lowest_8 ?_
  have o3 := H.1
  have H := H.2
  refine kw_lcmp_ge 19 dX11_lowest_9 dX11_lowest_10 (by decide) o3 (k64i (by omega)) (fun h4 => ?_) (fun h4 => ?_)
  · have H := H.1 h4
    refine kw_lload dX11_lowest_19 rfl ?_
    refine kw_lstore dX11_lowest_21 (Nat.le_of_ble_eq_true rfl) ?_
    refine kw_iload dX11_lowest_23 rfl ?_
    refine kw_if_ne 35 dX11_lowest_25 (by decide) (k32i (by omega)) (fun h5 => ?_) (fun h5 => ?_)
    · have H := H.1 h5
      refine kw_lload_n dX11_lowest_35 rfl ?_
      refine kw_lload dX11_lowest_36 rfl ?_
      have o6 := H.1
      have H := H.2
      have o7 := H.1
      have H := H.2
      refine kw_ldiv dX11_lowest_38 o3 o6 o7 ?_
      refine k2_lret dX11_lowest_39 rfl H
    · have H := H.2 h5
      refine kw_lload_n dX11_lowest_28 rfl ?_
      refine kw_lload dX11_lowest_29 rfl ?_
      have o8 := H.1
      have H := H.2
      have o9 := H.1
      have H := H.2
      have o10 := H.1
      have H := H.2
      refine kw_ldiv dX11_lowest_31 o8 o9 o10 ?_
      refine kw_goto 39 dX11_lowest_32 (by decide) ?_
      refine k2_lret dX11_lowest_39 rfl H
  · have H := H.2 h4
    refine kw_lload dX11_lowest_13 rfl ?_
    refine kw_lneg dX11_lowest_15 ?_
    refine kw_goto 21 dX11_lowest_16 (by decide) ?_
    refine kw_lstore dX11_lowest_21 (Nat.le_of_ble_eq_true rfl) ?_
    refine kw_iload dX11_lowest_23 rfl ?_
    refine kw_if_ne 35 dX11_lowest_25 (by decide) (k32i (by omega)) (fun h11 => ?_) (fun h11 => ?_)
    · have H := H.1 h11
      refine kw_lload_n dX11_lowest_35 rfl ?_
      refine kw_lload dX11_lowest_36 rfl ?_
      have o12 := H.1
      have H := H.2
      have o13 := H.1
      have H := H.2
      refine kw_ldiv dX11_lowest_38 o3 o12 o13 ?_
      refine k2_lret dX11_lowest_39 rfl H
    · have H := H.2 h11
      refine kw_lload_n dX11_lowest_28 rfl ?_
      refine kw_lload dX11_lowest_29 rfl ?_
      have o14 := H.1
      have H := H.2
      have o15 := H.1
      have H := H.2
      have o16 := H.1
      have H := H.2
      refine kw_ldiv dX11_lowest_31 o14 o15 o16 ?_
      refine kw_goto 39 dX11_lowest_32 (by decide) ?_
      refine k2_lret dX11_lowest_39 rfl H
theorem s_X11_at {G : KG} {S0 : KSh} (hL : kLay S0) {d : Nat} {P : Option AV → KMem → Prop} {c : KMem} {x1 x2 : Int} (r1 : k32 x1) (r2 : k32 x2) (hp : 0 ≤ 16 * x1 + x2 ∧ 16 * x1 + x2 < 1600) (h : P (some (kL (c 559 (16 * x1 + x2)))) c) : kC2 G S0 kM_X11_at d [kA 558, kI x1, kI x2] c P := v_X11_at hL r1 r2 hp h
theorem s_X11_sets {G : KG} {S0 : KSh} (hL : kLay S0) {d : Nat} {P : Option AV → KMem → Prop} {c : KMem} {x1 x2 x3 : Int} (r1 : k32 x1) (r2 : k32 x2) (hp : 0 ≤ 16 * x1 + x2 ∧ 16 * x1 + x2 < 1600) (h : P none (kup c 559 (16 * x1 + x2) x3)) : kC2 G S0 kM_X11_sets d [kA 558, kI x1, kI x2, kL x3] c P := v_X11_sets hL r1 r2 hp h
/-- a FORM of the reference, by its place -/
abbrev kF (c : KMem) (s : Int) : KF := fun k => c 559 (16 * s + k)
theorem kF_up {c : KMem} {s t k j v : Int} (hk : 0 ≤ k ∧ k < 16) (hj : 0 ≤ j ∧ j < 16) : kF (kup c 559 (16 * t + k) v) s j = if s = t ∧ j = k then v else kF c s j := by
  show kup c 559 (16 * t + k) v 559 (16 * s + j) = _
  by_cases h : s = t ∧ j = k
  · rw [if_pos h, h.1, h.2, kup_s]
  · rw [if_neg h, kup_n (Or.inr (by omega))]
/-- all but some FORMS and the row of work stays -/
def kR (T : Int → Prop) (c c' : KMem) : Prop := (∀ s : Int, ¬ T s → 0 ≤ s → kEq (kF c' s) (kF c s)) ∧ ∀ x i : Int, x ≠ 559 → x ≠ 560 → c' x i = c x i
theorem kR.rf {T : Int → Prop} {c : KMem} : kR T c c := ⟨fun _ _ _ => kEq.rf, fun _ _ _ _ => rfl⟩
theorem kR.tr {T U V : Int → Prop} {c c1 c2 : KMem} (h : kR T c c1) (h2 : kR U c1 c2) (hT : ∀ s, T s → V s) (hU : ∀ s, U s → V s) : kR V c c2 :=
  ⟨fun s hs h0 => (h2.1 s (fun q => hs (hU s q)) h0).tr (h.1 s (fun q => hs (hT s q)) h0), fun x i a b => (h2.2 x i a b).trans (h.2 x i a b)⟩
theorem kR.up {T : Int → Prop} {c c1 : KMem} {t k v : Int} (h : kR T c c1) (hk : 0 ≤ k ∧ k < 16) (ht : T t) : kR T c (kup c1 559 (16 * t + k) v) :=
  ⟨fun s hs h0 j hj0 hj1 => by
    rw [kF_up hk ⟨hj0, hj1⟩, if_neg (fun q => hs (by rw [q.1]; exact ht))]
    exact h.1 s hs h0 j hj0 hj1, fun x i a b => by rw [kup_n (Or.inl a)]; exact h.2 x i a b⟩
theorem kR.made {T : Int → Prop} {c c1 : KMem} {k v : Int} (h : kR T c c1) : kR T c (kup c1 560 k v) :=
  ⟨fun s hs h0 j hj0 hj1 => by
    show kup c1 560 k v 559 _ = _
    rw [kup_n (Or.inl (by decide))]
    exact h.1 s hs h0 j hj0 hj1, fun x i a b => by rw [kup_n (Or.inl b)]; exact h.2 x i a b⟩
theorem s_X11_copies {G : KG} {S0 : KSh} (hL : kLay S0) {d : Nat} {P : Option AV → KMem → Prop} {c : KMem} {x1 x2 : Int} (hp : 0 ≤ x1 ∧ x1 < 100 ∧ 0 ≤ x2 ∧ x2 < 100) (h : ∀ c', kEq (kF c' x2) (kF c x1) → kR (fun s => s = x2) c c' → (∀ i, c' 560 i = c 560 i) → P none c') : kC2 G S0 kM_X11_copies d [kA 558, kI x1, kI x2] c P := by
  have loop : ∀ n k : Nat, k + n = 16 → ∀ c', (∀ j : Int, 0 ≤ j → j < 16 → kF c' x2 j = if j < k then kF c x1 j else kF c x2 j) → kR (fun s => s = x2) c c' → (∀ i, c' 560 i = c 560 i) → kW2 G S0 kM_X11_copies d 2 [some (kA 558), some (kI x1), some (kI x2), some (kI k)] [] c' P := by
    intro n
    induction n with
    | zero =>
      intro k hk c' h1 h2 h3
      refine v_X11_copies_2 hL (by omega) (by omega) (by omega) (by omega) ⟨fun _ => h c' (fun j a b => ?_) h2 h3, fun q => by omega⟩
      rw [h1 j a b, if_pos (by omega)]
    | succ n ih =>
      intro k hk c' h1 h2 h3
      refine v_X11_copies_2 hL (by omega) (by omega) (by omega) (by omega) ⟨fun q => by omega, fun _ => ?_⟩
      refine ih (k + 1) (by omega) _ (fun j a b => ?_) (h2.up (by omega) rfl) (fun i => (kup_n (Or.inl (by decide))).trans (h3 i))
      rw [kF_up (by omega) ⟨a, b⟩]
      have e9 : c' 559 (16 * x1 + k) = kF c x1 k := by
        by_cases e : x1 = x2
        · have := h1 k (by omega) (by omega)
          rw [if_neg (by omega)] at this
          rw [e]
          exact this
        · exact h2.1 x1 e hp.1 k (by omega) (by omega)
      by_cases e : j = k
      · subst e
        rw [if_pos ⟨rfl, rfl⟩, if_pos (by omega), e9]
      · rw [if_neg (fun q => e q.2), h1 j a b]
        by_cases e2 : j < k
        · rw [if_pos e2, if_pos (by omega)]
        · rw [if_neg e2, if_neg (by omega)]
  exact v_X11_copies hL (by omega) (by omega) (loop 16 0 (by omega) c (fun j a b => by rw [if_neg (by omega)]) kR.rf (fun _ => rfl))
theorem s_X11_empties {G : KG} {S0 : KSh} (hL : kLay S0) {d : Nat} {P : Option AV → KMem → Prop} {c : KMem} {x1 : Int} (hp : 0 ≤ x1 ∧ x1 < 100) (h : ∀ c', kEq (kF c' x1) (fun _ => 0) → kR (fun s => s = x1) c c' → P none c') : kC2 G S0 kM_X11_empties d [kA 558, kI x1] c P := by
  have loop : ∀ n k : Nat, k + n = 16 → ∀ c', (∀ j : Int, 0 ≤ j → j < k → kF c' x1 j = 0) → kR (fun s => s = x1) c c' → kW2 G S0 kM_X11_empties d 2 [some (kA 558), some (kI x1), some (kI k)] [] c' P := by
    intro n
    induction n with
    | zero =>
      intro k hk c' h1 h2
      exact v_X11_empties_2 hL (by omega) (by omega) (by omega) ⟨fun _ => h c' (fun j a b => h1 j a (by omega)) h2, fun q => by omega⟩
    | succ n ih =>
      intro k hk c' h1 h2
      refine v_X11_empties_2 hL (by omega) (by omega) (by omega) ⟨fun q => by omega, fun _ => ?_⟩
      refine ih (k + 1) (by omega) _ (fun j a b => ?_) (h2.up (by omega) rfl)
      rw [kF_up (by omega) ⟨a, by omega⟩]
      by_cases e : j = k
      · rw [if_pos ⟨rfl, e⟩]
      · rw [if_neg (fun q => e q.2), h1 j a (by omega)]
  exact v_X11_empties hL (by omega) (loop 16 0 (by omega) c (fun j a b => by omega) kR.rf)
/-- in lowest terms -/
def klow (up low w : Int) : Int := Int.tdiv (if w = 0 then up else low) (if low < 0 then -(Int.gcd up low : Int) else (Int.gcd up low : Int))
theorem s_X11_lowest {G : KG} {S0 : KSh} (hL : kLay S0) {d : Nat} {P : Option AV → KMem → Prop} {c : KMem} {x0 x2 x4 : Int} (r4 : k32 x4) (r0 : k63 x0) (r2 : k63 x2) (hz : x2 ≠ 0) (h : P (some (kL (klow x0 x2 x4))) c) : kC2 G S0 kM_X11_lowest (d + 2) [kL x0, kL x2, kI x4] c P := by
  have hg0 : (Int.gcd x0 x2 : Int) ≠ 0 := by
    intro q
    have : Int.gcd x0 x2 = 0 := by omega
    exact hz (Int.gcd_eq_zero_iff.mp this).2
  have hg1 : (Int.gcd x0 x2 : Int) < 9223372036854775808 := by
    have h1 : Int.gcd x0 x2 ∣ x2.natAbs := Nat.gcd_dvd_right _ _
    have h2 := Nat.le_of_dvd (by omega) h1
    unfold k63 at r2
    omega
  have g1 : k64 (Int.gcd x0 x2 : Int) := k64i (by omega)
  have g2 : k64 (-(Int.gcd x0 x2 : Int)) := k64i (by omega)
  unfold klow at h
  refine v_X11_lowest hL r4 (s_X11_gcd hL r0 r2 ⟨_, rfl, k63_64 r2, fun a => ⟨fun b => ⟨g1, hg0, ?_⟩, fun b => ⟨k63_64 r0, g1, hg0, ?_⟩⟩, fun a => ⟨fun b => ⟨g2, by omega, ?_⟩, fun b => ⟨k63_64 r0, g2, by omega, ?_⟩⟩⟩)
  · rw [if_neg b, if_neg (by omega)] at h; exact h
  · rw [if_pos b, if_neg (by omega)] at h; exact h
  · rw [if_neg b, if_pos a] at h; exact h
  · rw [if_pos b, if_pos a] at h; exact h
