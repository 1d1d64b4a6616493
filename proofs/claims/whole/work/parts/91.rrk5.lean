section RRK
variable {G : KG} {S0 : KSh} {d : Nat} {P : Option AV → KMem → Prop} {c c' c1 : KMem} {f g r : KF} {x0 x1 x2 x3 t k v : Int}
theorem t_scalV (hL : kLay S0) (hx : 0 ≤ x1 ∧ x1 < 12 ∧ 0 ≤ x2 ∧ x2 < 16) (ef : kEq (kRw c x1) f) (rf : kRg f) (hn : f x2 % 1000003 ≠ 0) (h : ∀ z c', z % 1000003 ≠ 0 → (f x2 * z) % 1000003 = 1 → kEq (kRw c' x1) (fun j => (f j * z) % 1000003) → kR1 x1 c c' → P none c') : kC2 G S0 kM_X11_scales (d + 1) [kA 558, kI x1, kI x2] c P := by
  have e0 : c 575 (16 * x1 + x2) = f x2 := ef x2 hx.2.2.1 hx.2.2.2
  refine v_X11_scales hL (by omega) (by omega) (by omega) ?_
  rw [e0]
  have r2 := rf x2 hx.2.2.1 hx.2.2.2
  obtain ⟨N, hN⟩ : ∃ N : Nat, (N : Int) = 1000001 := ⟨1000001, rfl⟩
  refine t_powV hL ⟨r2.1, r2.2, hn⟩ (N := N) ⟨hN, by omega⟩ (fun z hz hv => ⟨_, rfl, ?_⟩)
  have one : (f x2 * z) % 1000003 = 1 := by
    rw [Int.mul_emod, hv, ← Int.mul_emod, Int.mul_comm, ← Int.pow_succ]
    exact fermat (by omega) hn
  have loop : ∀ n k : Nat, k + n = 16 → ∀ c', kR1 x1 c c' → (∀ j : Int, 0 ≤ j → j < 16 → kRw c' x1 j = if j < k then (f j * z) % 1000003 else f j) → kW2 G S0 kM_X11_scales (d + 1) 21 [some (kA 558), some (kI x1), none, some (kL z), none, some (kI (k : Int))] [] c' P := by
    intro n
    induction n with
    | zero =>
      intro k hk c' r q
      exact v_X11_scales_21 hL (by omega) (by omega) (by omega) ⟨fun _ => h z c' hz.2.2 one (fun j j0 j1 => by rw [q j j0 j1, if_pos (by omega)]) r, fun y => by omega⟩
    | succ n ih =>
      intro k hk c' r q
      have e1 : c' 575 (16 * x1 + (k : Int)) = f k := (q k (by omega) (by omega)).trans (if_neg (by omega))
      have rk := rf k (by omega) (by omega)
      have m1 := mul_rg rk ⟨hz.1, hz.2.1⟩
      have e2 : Int.tmod (f k * z) 1000003 = (f k * z) % 1000003 := Int.tmod_eq_emod_of_nonneg m1.1
      refine v_X11_scales_21 hL (by omega) (by omega) (by omega) ⟨fun y => by omega, fun _ => ?_⟩
      rw [e1, e2]
      refine ⟨by show -9223372036854775808 ≤ f k * z ∧ f k * z < 9223372036854775808; omega, ih (k + 1) (by omega) _ (r.up (by omega)) (fun j j0 j1 => ?_)⟩
      show kup c' 575 (16 * x1 + (k : Int)) _ 575 (16 * x1 + j) = _
      by_cases w : j = k
      · rw [w, kup_s, if_pos (by omega)]
      · rw [kup_n (Or.inr (by omega))]
        refine (q j j0 j1).trans ?_
        by_cases w2 : j < k
        · rw [if_pos w2, if_pos (by omega)]
        · rw [if_neg w2, if_neg (by omega)]
  exact loop 16 0 (by omega) c kR1.rf (fun j j0 j1 => by rw [if_neg (by omega)]; exact ef j j0 j1)
end RRK
