section RRK
variable {G : KG} {S0 : KSh} {d : Nat} {P : Option AV → KMem → Prop} {c c' c1 : KMem} {f g : KF} {x1 x2 : Int}
theorem t_swaps (hL : kLay S0) (hx : 0 ≤ x1 ∧ x1 < 12 ∧ 0 ≤ x2 ∧ x2 < 12) (ef : kEq (kRw c x1) f) (eg : kEq (kRw c x2) g) (h : ∀ c', kEq (kRw c' x1) g → kEq (kRw c' x2) f → (∀ a i : Int, a ≠ 575 → c' a i = c a i) → (∀ s : Int, s ≠ x1 → s ≠ x2 → kEq (kRw c' s) (kRw c s)) → P none c') : kC2 G S0 kM_X11_swaps d [kA 558, kI x1, kI x2] c P := by
  have loop : ∀ n k : Nat, k + n = 16 → ∀ c', (∀ a i : Int, a ≠ 575 → c' a i = c a i) → (∀ s : Int, s ≠ x1 → s ≠ x2 → kEq (kRw c' s) (kRw c s)) → (∀ j : Int, 0 ≤ j → j < 16 → c' 575 (16 * x1 + j) = if j < k then g j else f j) → (∀ j : Int, 0 ≤ j → j < 16 → c' 575 (16 * x2 + j) = if j < k then f j else g j) → kW2 G S0 kM_X11_swaps d 2 [some (kA 558), some (kI x1), some (kI x2), some (kI (k : Int)), none, none] [] c' P := by
    intro n
    induction n with
    | zero =>
      intro k hk c' r r2 q q2
      exact v_X11_swaps_2 hL (by omega) (by omega) (by omega) (by omega) ⟨fun _ => h c' (fun j j0 j1 => by show c' 575 (16 * x1 + j) = _; rw [q j j0 j1, if_pos (by omega)]) (fun j j0 j1 => by show c' 575 (16 * x2 + j) = _; rw [q2 j j0 j1, if_pos (by omega)]) r r2, fun y => by omega⟩
    | succ n ih =>
      intro k hk c' r r2 q q2
      have e1 : c' 575 (16 * x1 + (k : Int)) = f k := (q k (by omega) (by omega)).trans (if_neg (by omega))
      have e2 : c' 575 (16 * x2 + (k : Int)) = g k := (q2 k (by omega) (by omega)).trans (if_neg (by omega))
      refine v_X11_swaps_2 hL (by omega) (by omega) (by omega) (by omega) ⟨fun y => by omega, fun _ => ?_⟩
      rw [e1, e2]
      refine ih (k + 1) (by omega) _ (fun a i x => (kup_n (Or.inl x)).trans ((kup_n (Or.inl x)).trans (r a i x))) (fun s y y2 j j0 j1 => ?_) (fun j j0 j1 => ?_) (fun j j0 j1 => ?_)
      · show kup (kup c' 575 (16 * x1 + (k : Int)) (g k)) 575 (16 * x2 + (k : Int)) (f k) 575 (16 * s + j) = _
        rw [kup_n (Or.inr (by omega)), kup_n (Or.inr (by omega))]; exact r2 s y y2 j j0 j1
      · by_cases w : j = k
        · rw [w, if_pos (by omega)]
          by_cases y : x1 = x2
          · rw [y, kup_s]; rw [y] at e1; exact e1.symm.trans e2
          · rw [kup_n (Or.inr (by omega)), kup_s]
        · rw [kup_n (Or.inr (by omega)), kup_n (Or.inr (by omega)), q j j0 j1]
          by_cases w2 : j < k
          · rw [if_pos w2, if_pos (by omega)]
          · rw [if_neg w2, if_neg (by omega)]
      · by_cases w : j = k
        · rw [w, if_pos (by omega), kup_s]
        · rw [kup_n (Or.inr (by omega)), kup_n (Or.inr (by omega)), q2 j j0 j1]
          by_cases w2 : j < k
          · rw [if_pos w2, if_pos (by omega)]
          · rw [if_neg w2, if_neg (by omega)]
  exact v_X11_swaps hL (by omega) (by omega) (by omega) (loop 16 0 (by omega) c (fun _ _ _ => rfl) (fun _ _ _ => kEq.rf) (fun j j0 j1 => by rw [if_neg (by omega)]; exact ef j j0 j1) (fun j j0 j1 => by rw [if_neg (by omega)]; exact eg j j0 j1))
end RRK
