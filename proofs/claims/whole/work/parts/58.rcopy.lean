theorem kcpy_sx {c : KMem} {a b x y i j : Int} {k : Nat} (h : a ≠ b ∨ y ≤ x) (hi : i = y + k) (hj : j = x + k) : kup (kcpy c a b x y k) b i (kcpy c a b x y k a j) = kcpy c a b x y ((k : Int) + 1) := by
  rw [hi, hj]; exact kcpy_s h
section RC
variable {G : KG} {S0 : KSh} {d : Nat} {P : Option AV → KMem → Prop} {c : KMem}
theorem cl_X11_remembers_117 (hL : kLay S0) {b : Int} (hb : c 558 11 = b) (hr : 0 ≤ b ∧ b ≤ 7) (hz : ∀ i : Int, 0 ≤ i → i < 12 → c 564 (0 + i) = 0 ∨ c 564 (0 + i) = 1) (h : P none (kup (kcpy c 564 566 (0) (12 * b) 12) 558 11 (b + 1))) : kW2 G S0 kM_X11_remembers d 117 [some (kA 558), some (kI ((0 : Nat) : Int))] [] c P := by
  have L1 : ∀ n k : Nat, k + n = 12 → ∀ c', c' = kcpy c 564 566 (0) (12 * b) (k : Int) → kW2 G S0 kM_X11_remembers d 117 [some (kA 558), some (kI (k : Int))] [] c' P := by
    intro n
    induction n with
    | zero =>
      intro k hk c' e
      obtain rfl : k = 12 := by omega
      have e0 : c' 558 11 = b := by rw [e, kcpy_out (Or.inl (by decide))]; exact hb
      refine v_X11_remembers_117 hL (by omega) (by omega) ⟨fun _ => ?_, fun q => by omega⟩
      try rw [e0]
      rw [e]; exact h
    | succ n ih =>
      intro k hk c' e
      have e0 : c' 558 11 = b := by rw [e, kcpy_out (Or.inl (by decide))]; exact hb
      have ez : c' 564 (0 + (k : Int)) = c 564 (0 + (k : Int)) := by rw [e, kcpy_out (Or.inl (by decide))]
      have hz2 := hz k (by omega) (by omega)
      refine v_X11_remembers_117 hL (by omega) (by omega) ⟨fun q => by omega, fun _ => ?_⟩
      try rw [e0]
      have er : c' 564 ((k : Int)) = c' 564 (0 + (k : Int)) := by first | rfl | (congr 1; omega)
      refine ⟨by rw [er, ez]; exact hz2, ?_⟩
      refine ih (k + 1) (by omega) _ ?_
      rw [e, kcpy_sx (Or.inl (by decide)) (by omega) (by omega)]
      rfl
  exact L1 12 0 (by omega) c (kcpy_0 c _ _ _ _).symm
theorem cl_X11_remembers_81 (hL : kLay S0) {b : Int} (hb : c 558 11 = b) (hr : 0 ≤ b ∧ b ≤ 7) (h : kW2 G S0 kM_X11_remembers d 117 [some (kA 558), some (kI 0)] [] (kcpy c 559 562 (0) (192 * b) 192) P) : kW2 G S0 kM_X11_remembers d 81 [some (kA 558), some (kI ((0 : Nat) : Int))] [] c P := by
  have L1 : ∀ n k : Nat, k + n = 192 → ∀ c', c' = kcpy c 559 562 (0) (192 * b) (k : Int) → kW2 G S0 kM_X11_remembers d 81 [some (kA 558), some (kI (k : Int))] [] c' P := by
    intro n
    induction n with
    | zero =>
      intro k hk c' e
      obtain rfl : k = 192 := by omega
      have e0 : c' 558 11 = b := by rw [e, kcpy_out (Or.inl (by decide))]; exact hb
      refine v_X11_remembers_81 hL (by omega) (by omega) ⟨fun _ => ?_, fun q => by omega⟩
      try rw [e0]
      rw [e]; exact h
    | succ n ih =>
      intro k hk c' e
      have e0 : c' 558 11 = b := by rw [e, kcpy_out (Or.inl (by decide))]; exact hb
      refine v_X11_remembers_81 hL (by omega) (by omega) ⟨fun q => by omega, fun _ => ?_⟩
      try rw [e0]
      refine ih (k + 1) (by omega) _ ?_
      rw [e, kcpy_sx (Or.inl (by decide)) (by omega) (by omega)]
      rfl
  exact L1 192 0 (by omega) c (kcpy_0 c _ _ _ _).symm
theorem cl_X11_remembers_42 (hL : kLay S0) {b : Int} (hb : c 558 11 = b) (hr : 0 ≤ b ∧ b ≤ 8) (hz : ∀ i : Int, 0 ≤ i → i < 84 → c 566 (12 + i) = 0 ∨ c 566 (12 + i) = 1) (h : kW2 G S0 kM_X11_remembers d 81 [some (kA 558), some (kI 0)] [] (kup (kcpy c 566 566 (12) (0) 84) 558 11 (b - 1)) P) : kW2 G S0 kM_X11_remembers d 42 [some (kA 558), some (kI ((0 : Nat) : Int))] [] c P := by
  have L1 : ∀ n k : Nat, k + n = 84 → ∀ c', c' = kcpy c 566 566 (12) (0) (k : Int) → kW2 G S0 kM_X11_remembers d 42 [some (kA 558), some (kI (k : Int))] [] c' P := by
    intro n
    induction n with
    | zero =>
      intro k hk c' e
      obtain rfl : k = 84 := by omega
      have e0 : c' 558 11 = b := by rw [e, kcpy_out (Or.inl (by decide))]; exact hb
      refine v_X11_remembers_42 hL (by omega) (by omega) ⟨fun _ => ?_, fun q => by omega⟩
      try rw [e0]
      rw [e]; exact h
    | succ n ih =>
      intro k hk c' e
      have e0 : c' 558 11 = b := by rw [e, kcpy_out (Or.inl (by decide))]; exact hb
      have ez : c' 566 (12 + (k : Int)) = c 566 (12 + (k : Int)) := by rw [e, kcpy_out (Or.inr (Or.inr (by omega)))]
      have hz2 := hz k (by omega) (by omega)
      refine v_X11_remembers_42 hL (by omega) (by omega) ⟨fun q => by omega, fun _ => ?_⟩
      try rw [e0]
      have er : c' 566 (12 + (k : Int)) = c' 566 (12 + (k : Int)) := by first | rfl | (congr 1; omega)
      refine ⟨by rw [er, ez]; exact hz2, ?_⟩
      refine ih (k + 1) (by omega) _ ?_
      rw [e, kcpy_sx (Or.inr (by omega)) (by omega) (by omega)]
      rfl
  exact L1 84 0 (by omega) c (kcpy_0 c _ _ _ _).symm
theorem cl_X11_remembers_11 (hL : kLay S0) (h : kW2 G S0 kM_X11_remembers d 42 [some (kA 558), some (kI 0)] [] (kcpy c 562 562 (192) (0) 1344) P) : kW2 G S0 kM_X11_remembers d 11 [some (kA 558), some (kI ((0 : Nat) : Int))] [] c P := by
  have L1 : ∀ n k : Nat, k + n = 1344 → ∀ c', c' = kcpy c 562 562 (192) (0) (k : Int) → kW2 G S0 kM_X11_remembers d 11 [some (kA 558), some (kI (k : Int))] [] c' P := by
    intro n
    induction n with
    | zero =>
      intro k hk c' e
      obtain rfl : k = 1344 := by omega
      refine v_X11_remembers_11 hL (by omega) ⟨fun _ => ?_, fun q => by omega⟩
      rw [e]; exact h
    | succ n ih =>
      intro k hk c' e
      refine v_X11_remembers_11 hL (by omega) ⟨fun q => by omega, fun _ => ?_⟩
      refine ih (k + 1) (by omega) _ ?_
      rw [e, kcpy_sx (Or.inr (by omega)) (by omega) (by omega)]
      rfl
  exact L1 1344 0 (by omega) c (kcpy_0 c _ _ _ _).symm
theorem cl_X11_back_57 (hL : kLay S0) {b : Int} (hb : c 558 11 = b) (hr : 0 ≤ b ∧ b ≤ 7) (hz : ∀ i : Int, 0 ≤ i → i < 12 → c 566 (12 * b + i) = 0 ∨ c 566 (12 * b + i) = 1) (h : P (some (kI b)) (kcpy c 566 564 (12 * b) (0) 12)) : kW2 G S0 kM_X11_back d 57 [some (kA 558), some (kI ((0 : Nat) : Int))] [] c P := by
  have L1 : ∀ n k : Nat, k + n = 12 → ∀ c', c' = kcpy c 566 564 (12 * b) (0) (k : Int) → kW2 G S0 kM_X11_back d 57 [some (kA 558), some (kI (k : Int))] [] c' P := by
    intro n
    induction n with
    | zero =>
      intro k hk c' e
      obtain rfl : k = 12 := by omega
      have e0 : c' 558 11 = b := by rw [e, kcpy_out (Or.inl (by decide))]; exact hb
      refine v_X11_back_57 hL (by omega) (by omega) ⟨fun _ => ?_, fun q => by omega⟩
      try rw [e0]
      rw [e]; exact h
    | succ n ih =>
      intro k hk c' e
      have e0 : c' 558 11 = b := by rw [e, kcpy_out (Or.inl (by decide))]; exact hb
      have ez : c' 566 (12 * b + (k : Int)) = c 566 (12 * b + (k : Int)) := by rw [e, kcpy_out (Or.inl (by decide))]
      have hz2 := hz k (by omega) (by omega)
      refine v_X11_back_57 hL (by omega) (by omega) ⟨fun q => by omega, fun _ => ?_⟩
      try rw [e0]
      have er : c' 566 (12 * b + (k : Int)) = c' 566 (12 * b + (k : Int)) := by first | rfl | (congr 1; omega)
      refine ⟨by rw [er, ez]; exact hz2, ?_⟩
      refine ih (k + 1) (by omega) _ ?_
      rw [e, kcpy_sx (Or.inl (by decide)) (by omega) (by omega)]
      rfl
  exact L1 12 0 (by omega) c (kcpy_0 c _ _ _ _).symm
theorem cl_X11_back_21 (hL : kLay S0) {b : Int} (hb : c 558 11 = b) (hr : 0 ≤ b ∧ b ≤ 7) (h : kW2 G S0 kM_X11_back d 57 [some (kA 558), some (kI 0)] [] (kcpy c 562 559 (192 * b) (0) 192) P) : kW2 G S0 kM_X11_back d 21 [some (kA 558), some (kI ((0 : Nat) : Int))] [] c P := by
  have L1 : ∀ n k : Nat, k + n = 192 → ∀ c', c' = kcpy c 562 559 (192 * b) (0) (k : Int) → kW2 G S0 kM_X11_back d 21 [some (kA 558), some (kI (k : Int))] [] c' P := by
    intro n
    induction n with
    | zero =>
      intro k hk c' e
      obtain rfl : k = 192 := by omega
      have e0 : c' 558 11 = b := by rw [e, kcpy_out (Or.inl (by decide))]; exact hb
      refine v_X11_back_21 hL (by omega) (by omega) ⟨fun _ => ?_, fun q => by omega⟩
      try rw [e0]
      rw [e]; exact h
    | succ n ih =>
      intro k hk c' e
      have e0 : c' 558 11 = b := by rw [e, kcpy_out (Or.inl (by decide))]; exact hb
      refine v_X11_back_21 hL (by omega) (by omega) ⟨fun q => by omega, fun _ => ?_⟩
      try rw [e0]
      refine ih (k + 1) (by omega) _ ?_
      rw [e, kcpy_sx (Or.inl (by decide)) (by omega) (by omega)]
      rfl
  exact L1 192 0 (by omega) c (kcpy_0 c _ _ _ _).symm
theorem cl_X11_keep_42 (hL : kLay S0) (hz : ∀ i : Int, 0 ≤ i → i < 12 → c 564 (0 + i) = 0 ∨ c 564 (0 + i) = 1) (h : kC2 G S0 kM_X11_standing d [kA 558] (kcpy c 564 565 (0) (0) 12) (kRI (fun z3 c4 => P (some (kI z3)) c4))) : kW2 G S0 kM_X11_keep (d + 1) 42 [some (kA 558), some (kI ((0 : Nat) : Int))] [] c P := by
  have L1 : ∀ n k : Nat, k + n = 12 → ∀ c', c' = kcpy c 564 565 (0) (0) (k : Int) → kW2 G S0 kM_X11_keep (d + 1) 42 [some (kA 558), some (kI (k : Int))] [] c' P := by
    intro n
    induction n with
    | zero =>
      intro k hk c' e
      obtain rfl : k = 12 := by omega
      refine v_X11_keep_42 hL (by omega) ⟨fun _ => ?_, fun q => by omega⟩
      rw [e]; exact h
    | succ n ih =>
      intro k hk c' e
      have ez : c' 564 (0 + (k : Int)) = c 564 (0 + (k : Int)) := by rw [e, kcpy_out (Or.inl (by decide))]
      have hz2 := hz k (by omega) (by omega)
      refine v_X11_keep_42 hL (by omega) ⟨fun q => by omega, fun _ => ?_⟩
      have er : c' 564 ((k : Int)) = c' 564 (0 + (k : Int)) := by first | rfl | (congr 1; omega)
      refine ⟨by rw [er, ez]; exact hz2, ?_⟩
      refine ih (k + 1) (by omega) _ ?_
      rw [e, kcpy_sx (Or.inl (by decide)) (by omega) (by omega)]
      rfl
  exact L1 12 0 (by omega) c (kcpy_0 c _ _ _ _).symm
theorem cl_X11_keep_15 (hL : kLay S0) (h : kW2 G S0 kM_X11_keep (d + 1) 42 [some (kA 558), some (kI 0)] [] (kcpy c 559 561 (0) (0) 192) P) : kW2 G S0 kM_X11_keep (d + 1) 15 [some (kA 558), some (kI ((0 : Nat) : Int))] [] c P := by
  have L1 : ∀ n k : Nat, k + n = 192 → ∀ c', c' = kcpy c 559 561 (0) (0) (k : Int) → kW2 G S0 kM_X11_keep (d + 1) 15 [some (kA 558), some (kI (k : Int))] [] c' P := by
    intro n
    induction n with
    | zero =>
      intro k hk c' e
      obtain rfl : k = 192 := by omega
      refine v_X11_keep_15 hL (by omega) ⟨fun _ => ?_, fun q => by omega⟩
      rw [e]; exact h
    | succ n ih =>
      intro k hk c' e
      refine v_X11_keep_15 hL (by omega) ⟨fun q => by omega, fun _ => ?_⟩
      refine ih (k + 1) (by omega) _ ?_
      rw [e, kcpy_sx (Or.inl (by decide)) (by omega) (by omega)]
      rfl
  exact L1 192 0 (by omega) c (kcpy_0 c _ _ _ _).symm
theorem cl_X11_undo_46 (hL : kLay S0) (hz : ∀ i : Int, 0 ≤ i → i < 12 → c 565 (0 + i) = 0 ∨ c 565 (0 + i) = 1) (h : P (some (kI 1)) (kup (kcpy c 565 564 (0) (0) 12) 558 11 0)) : kW2 G S0 kM_X11_undo d 46 [some (kA 558), some (kI ((0 : Nat) : Int))] [] c P := by
  have L1 : ∀ n k : Nat, k + n = 12 → ∀ c', c' = kcpy c 565 564 (0) (0) (k : Int) → kW2 G S0 kM_X11_undo d 46 [some (kA 558), some (kI (k : Int))] [] c' P := by
    intro n
    induction n with
    | zero =>
      intro k hk c' e
      obtain rfl : k = 12 := by omega
      refine v_X11_undo_46 hL (by omega) ⟨fun _ => ?_, fun q => by omega⟩
      rw [e]; exact h
    | succ n ih =>
      intro k hk c' e
      have ez : c' 565 (0 + (k : Int)) = c 565 (0 + (k : Int)) := by rw [e, kcpy_out (Or.inl (by decide))]
      have hz2 := hz k (by omega) (by omega)
      refine v_X11_undo_46 hL (by omega) ⟨fun q => by omega, fun _ => ?_⟩
      have er : c' 565 ((k : Int)) = c' 565 (0 + (k : Int)) := by first | rfl | (congr 1; omega)
      refine ⟨by rw [er, ez]; exact hz2, ?_⟩
      refine ih (k + 1) (by omega) _ ?_
      rw [e, kcpy_sx (Or.inl (by decide)) (by omega) (by omega)]
      rfl
  exact L1 12 0 (by omega) c (kcpy_0 c _ _ _ _).symm
theorem cl_X11_undo_19 (hL : kLay S0) (h : kW2 G S0 kM_X11_undo d 46 [some (kA 558), some (kI 0)] [] (kcpy c 561 559 (0) (0) 192) P) : kW2 G S0 kM_X11_undo d 19 [some (kA 558), some (kI ((0 : Nat) : Int))] [] c P := by
  have L1 : ∀ n k : Nat, k + n = 192 → ∀ c', c' = kcpy c 561 559 (0) (0) (k : Int) → kW2 G S0 kM_X11_undo d 19 [some (kA 558), some (kI (k : Int))] [] c' P := by
    intro n
    induction n with
    | zero =>
      intro k hk c' e
      obtain rfl : k = 192 := by omega
      refine v_X11_undo_19 hL (by omega) ⟨fun _ => ?_, fun q => by omega⟩
      rw [e]; exact h
    | succ n ih =>
      intro k hk c' e
      refine v_X11_undo_19 hL (by omega) ⟨fun q => by omega, fun _ => ?_⟩
      refine ih (k + 1) (by omega) _ ?_
      rw [e, kcpy_sx (Or.inl (by decide)) (by omega) (by omega)]
      rfl
  exact L1 192 0 (by omega) c (kcpy_0 c _ _ _ _).symm
end RC
