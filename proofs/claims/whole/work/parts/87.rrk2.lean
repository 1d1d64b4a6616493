/-- a row of the reference's ranks -/
def kRw (c : KMem) (s : Int) : KF := fun k => c 575 (16 * s + k)
/-- one row changes -/
def kR1 (t : Int) (c c' : KMem) : Prop := (∀ a i : Int, a ≠ 575 → c' a i = c a i) ∧ ∀ s : Int, s ≠ t → kEq (kRw c' s) (kRw c s)
section RRK
variable {G : KG} {S0 : KSh} {d : Nat} {P : Option AV → KMem → Prop} {c c' c1 : KMem} {f g r : KF} {x0 x1 x2 x3 t k v : Int}
theorem kR1.rf : kR1 t c c := ⟨fun _ _ _ => rfl, fun _ _ => kEq.rf⟩
theorem kR1.tr (h : kR1 t c c1) (g : kR1 t c1 c') : kR1 t c c' := ⟨fun a i x => (g.1 a i x).trans (h.1 a i x), fun s x => (g.2 s x).tr (h.2 s x)⟩
theorem kR1.up (h : kR1 t c c1) (hk : 0 ≤ k ∧ k < 16) : kR1 t c (kup c1 575 (16 * t + k) v) := ⟨fun a i x => (kup_n (Or.inl x)).trans (h.1 a i x), fun s x j j0 j1 => by
  show kup c1 575 (16 * t + k) v 575 (16 * s + j) = _
  rw [kup_n (Or.inr (by omega))]; exact h.2 s x j j0 j1⟩
theorem nz_rg {z : Int} (h : z % 1000003 ≠ 0) : 0 ≤ z % 1000003 ∧ z % 1000003 < 1000003 ∧ (z % 1000003) % 1000003 ≠ 0 := by omega
theorem mul_rg {a b : Int} (ha : 0 ≤ a ∧ a < 1000003) (hb : 0 ≤ b ∧ b < 1000003) : 0 ≤ a * b ∧ a * b ≤ 1000003 * 1000003 := ⟨Int.mul_nonneg ha.1 hb.1, Int.mul_le_mul (by omega) (by omega) hb.1 (by decide)⟩
theorem t_powerOf (hL : kLay S0) (h0 : 0 ≤ x0 ∧ x0 < 1000003 ∧ x0 % 1000003 ≠ 0) (h2 : 0 ≤ x2 ∧ x2 < 2000000) (h : ∀ z : Int, 0 ≤ z ∧ z < 1000003 ∧ z % 1000003 ≠ 0 → P (some (kL z)) c) : kC2 G S0 kM_X11_powerOf d [kL x0, kL x2] c P := by
  have loop : ∀ n : Nat, ∀ x8 x4 x6 : Int, 0 ≤ x8 ∧ x8 ≤ n ∧ x8 < 2000000 → 0 ≤ x4 ∧ x4 < 1000003 ∧ x4 % 1000003 ≠ 0 → 0 ≤ x6 ∧ x6 < 1000003 ∧ x6 % 1000003 ≠ 0 → kW2 G S0 kM_X11_powerOf d 9 [none, none, none, none, some (kL x4), none, some (kL x6), none, some (kL x8), none] [] c P := by
    intro n
    induction n with
    | zero =>
      intro x8 x4 x6 h8 h4 h6
      exact v_X11_powerOf_9 hL ⟨by show -9223372036854775808 ≤ x8 ∧ x8 < 9223372036854775808; omega, fun _ => h x4 h4, fun z => by omega⟩
    | succ n ih =>
      intro x8 x4 x6 h8 h4 h6
      have m1 := mul_rg ⟨h6.1, h6.2.1⟩ ⟨h6.1, h6.2.1⟩
      have m2 := mul_rg ⟨h4.1, h4.2.1⟩ ⟨h6.1, h6.2.1⟩
      have n1 := nz_rg (nz_mul h6.2.2 h6.2.2)
      have n2 := nz_rg (nz_mul h4.2.2 h6.2.2)
      have e2 : Int.tmod x8 2 = x8 % 2 := Int.tmod_eq_emod_of_nonneg h8.1
      have e3 : Int.tdiv x8 2 = x8 / 2 := Int.tdiv_eq_ediv_of_nonneg h8.1
      have e6 : Int.tmod (x6 * x6) 1000003 = (x6 * x6) % 1000003 := Int.tmod_eq_emod_of_nonneg m1.1
      have e4 : Int.tmod (x4 * x6) 1000003 = (x4 * x6) % 1000003 := Int.tmod_eq_emod_of_nonneg m2.1
      refine v_X11_powerOf_9 hL ⟨by show -9223372036854775808 ≤ x8 ∧ x8 < 9223372036854775808; omega, fun _ => h x4 h4, fun z => ⟨by rw [e2]; show -9223372036854775808 ≤ x8 % 2 ∧ x8 % 2 < 9223372036854775808; omega, fun y => ⟨by show -9223372036854775808 ≤ x6 * x6 ∧ x6 * x6 < 9223372036854775808; omega, ?_⟩, fun y => ⟨by show -9223372036854775808 ≤ x4 * x6 ∧ x4 * x6 < 9223372036854775808; omega, by show -9223372036854775808 ≤ x6 * x6 ∧ x6 * x6 < 9223372036854775808; omega, ?_⟩⟩⟩
      · rw [e6, e3]; exact ih (x8 / 2) x4 _ (by omega) h4 n1
      · rw [e6, e3, e4]; exact ih (x8 / 2) _ _ (by omega) n2 n1
  exact v_X11_powerOf hL (loop x2.toNat x2 1 x0 (by omega) (by decide) h0)
theorem t_scales (hL : kLay S0) (hx : 0 ≤ x1 ∧ x1 < 12 ∧ 0 ≤ x2 ∧ x2 < 16) (ef : kEq (kRw c x1) f) (rf : kRg f) (hn : f x2 % 1000003 ≠ 0) (h : ∀ z c', z % 1000003 ≠ 0 → kEq (kRw c' x1) (fun j => (f j * z) % 1000003) → kR1 x1 c c' → P none c') : kC2 G S0 kM_X11_scales (d + 1) [kA 558, kI x1, kI x2] c P := by
  have e0 : c 575 (16 * x1 + x2) = f x2 := ef x2 hx.2.2.1 hx.2.2.2
  refine v_X11_scales hL (by omega) (by omega) (by omega) ?_
  rw [e0]
  have r2 := rf x2 hx.2.2.1 hx.2.2.2
  refine t_powerOf hL ⟨r2.1, r2.2, hn⟩ (by omega) (fun z hz => ⟨_, rfl, ?_⟩)
  have loop : ∀ n k : Nat, k + n = 16 → ∀ c', kR1 x1 c c' → (∀ j : Int, 0 ≤ j → j < 16 → kRw c' x1 j = if j < k then (f j * z) % 1000003 else f j) → kW2 G S0 kM_X11_scales (d + 1) 21 [some (kA 558), some (kI x1), none, some (kL z), none, some (kI (k : Int))] [] c' P := by
    intro n
    induction n with
    | zero =>
      intro k hk c' r q
      exact v_X11_scales_21 hL (by omega) (by omega) (by omega) ⟨fun _ => h z c' hz.2.2 (fun j j0 j1 => by rw [q j j0 j1, if_pos (by omega)]) r, fun y => by omega⟩
    | succ n ih =>
      intro k hk c' r q
      have e1 : c' 575 (16 * x1 + (k : Int)) = f k := (q k (by omega) (by omega)).trans (if_neg (by omega))
      have rk := rf k (by omega) (by omega)
      have m1 := mul_rg rk ⟨hz.1, hz.2.1⟩
      have e2 : Int.tmod (f k * z) 1000003 = (f k * z) % 1000003 := Int.tmod_eq_emod_of_nonneg m1.1
      refine v_X11_scales_21 hL (by omega) (by omega) (by omega) ⟨fun y => by omega, fun _ => ?_⟩
      rw [e1, e2]
      refine ⟨by show -9223372036854775808 ≤ f k * z ∧ f k * z < 9223372036854775808; omega, ih (k + 1) (by omega) _ (r.up (by omega)) (fun j j0 j1 => ?_)⟩
      show kup c' 575 (16 * x1 + (k : Int)) _ 575 (16 * x1 + j) = _
      by_cases w : j = k
      · rw [w, kup_s, if_pos (by omega)]
      · rw [kup_n (Or.inr (by omega))]
        refine (q j j0 j1).trans ?_
        by_cases w2 : j < k
        · rw [if_pos w2, if_pos (by omega)]
        · rw [if_neg w2, if_neg (by omega)]
  exact loop 16 0 (by omega) c kR1.rf (fun j j0 j1 => by rw [if_neg (by omega)]; exact ef j j0 j1)
theorem t_clears (hL : kLay S0) (hx : 0 ≤ x1 ∧ x1 < 12 ∧ 0 ≤ x2 ∧ x2 < 12 ∧ 0 ≤ x3 ∧ x3 < 16) (ne : x1 ≠ x2) (ef : kEq (kRw c x1) f) (er : kEq (kRw c x2) r) (rf : kRg f) (rr : kRg r) (h : ∀ c', kEq (kRw c' x1) (fun j => (f j - f x3 * r j) % 1000003) → kR1 x1 c c' → P none c') : kC2 G S0 kM_X11_clears d [kA 558, kI x1, kI x2, kI x3] c P := by
  have e0 : c 575 (16 * x1 + x3) = f x3 := ef x3 hx.2.2.2.2.1 hx.2.2.2.2.2
  refine v_X11_clears hL (by omega) (by omega) (by omega) (by omega) ?_
  rw [e0]
  have r3 := rf x3 hx.2.2.2.2.1 hx.2.2.2.2.2
  have loop : ∀ n k : Nat, k + n = 16 → ∀ c', kR1 x1 c c' → (∀ j : Int, 0 ≤ j → j < 16 → kRw c' x1 j = if j < k then (f j - f x3 * r j) % 1000003 else f j) → kW2 G S0 kM_X11_clears d 16 [some (kA 558), some (kI x1), some (kI x2), none, some (kL (f x3)), none, some (kI (k : Int))] [] c' P := by
    intro n
    induction n with
    | zero =>
      intro k hk c' r q
      exact v_X11_clears_16 hL (by omega) (by omega) (by omega) (by omega) ⟨fun _ => h c' (fun j j0 j1 => by rw [q j j0 j1, if_pos (by omega)]) r, fun y => by omega⟩
    | succ n ih =>
      intro k hk c' r1 q
      have e1 : c' 575 (16 * x1 + (k : Int)) = f k := (q k (by omega) (by omega)).trans (if_neg (by omega))
      have e2 : c' 575 (16 * x2 + (k : Int)) = r k := (r1.2 x2 (fun z => ne z.symm) k (by omega) (by omega)).trans (er k (by omega) (by omega))
      have rk := rf k (by omega) (by omega)
      have rk2 := rr k (by omega) (by omega)
      have m1 := mul_rg r3 rk2
      have b1 := Int.lt_tmod_of_pos (f k - f x3 * r k) (show (0 : Int) < 1000003 by decide)
      have b2 := Int.tmod_lt_of_pos (f k - f x3 * r k) (show (0 : Int) < 1000003 by decide)
      have e3 : Int.tmod (Int.tmod (f k - f x3 * r k) 1000003 + 1000003) 1000003 = (f k - f x3 * r k) % 1000003 := by
        rw [Int.tmod_eq_emod_of_nonneg (by omega)]
        have := Int.mul_tdiv_add_tmod (f k - f x3 * r k) 1000003
        omega
      refine v_X11_clears_16 hL (by omega) (by omega) (by omega) (by omega) ⟨fun y => by omega, fun _ => ?_⟩
      rw [e1, e2, e3]
      refine ⟨by show -9223372036854775808 ≤ f k - f x3 * r k ∧ f k - f x3 * r k < 9223372036854775808; omega, by show -9223372036854775808 ≤ Int.tmod (f k - f x3 * r k) 1000003 + 1000003 ∧ Int.tmod (f k - f x3 * r k) 1000003 + 1000003 < 9223372036854775808; omega, ih (k + 1) (by omega) _ (r1.up (by omega)) (fun j j0 j1 => ?_)⟩
      show kup c' 575 (16 * x1 + (k : Int)) _ 575 (16 * x1 + j) = _
      by_cases w : j = k
      · rw [w, kup_s, if_pos (by omega)]
      · rw [kup_n (Or.inr (by omega))]
        refine (q j j0 j1).trans ?_
        by_cases w2 : j < k
        · rw [if_pos w2, if_pos (by omega)]
        · rw [if_neg w2, if_neg (by omega)]
  exact loop 16 0 (by omega) c kR1.rf (fun j j0 j1 => by rw [if_neg (by omega)]; exact ef j j0 j1)
end RRK
