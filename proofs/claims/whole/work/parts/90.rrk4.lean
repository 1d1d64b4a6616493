theorem pow_em (a : Int) : ∀ n : Nat, (a % 1000003) ^ n % 1000003 = a ^ n % 1000003
  | 0 => by rw [Int.pow_zero, Int.pow_zero]
  | n + 1 => by rw [Int.pow_succ, Int.pow_succ, Int.mul_emod, pow_em a n, Int.emod_emod, ← Int.mul_emod]
theorem sq_pow (a : Int) : ∀ n : Nat, (a * a) ^ n = a ^ (2 * n)
  | 0 => by rw [Int.pow_zero, Nat.mul_zero, Int.pow_zero]
  | n + 1 => by rw [Int.pow_succ, sq_pow a n, show 2 * (n + 1) = 2 * n + 1 + 1 by omega, Int.pow_succ, Int.pow_succ, Int.mul_assoc]
section RRK
variable {G : KG} {S0 : KSh} {d : Nat} {P : Option AV → KMem → Prop} {c c' c1 : KMem} {f g r : KF} {x0 x1 x2 x3 t k v : Int}
theorem t_powV (hL : kLay S0) (h0 : 0 ≤ x0 ∧ x0 < 1000003 ∧ x0 % 1000003 ≠ 0) {N : Nat} (h2 : (N : Int) = x2 ∧ x2 < 2000000) (h : ∀ z : Int, 0 ≤ z ∧ z < 1000003 ∧ z % 1000003 ≠ 0 → z % 1000003 = x0 ^ N % 1000003 → P (some (kL z)) c) : kC2 G S0 kM_X11_powerOf d [kL x0, kL x2] c P := by
  have loop : ∀ n e : Nat, ∀ x8 x4 x6 : Int, (e : Int) = x8 → e ≤ n → x8 < 2000000 → 0 ≤ x4 ∧ x4 < 1000003 ∧ x4 % 1000003 ≠ 0 → 0 ≤ x6 ∧ x6 < 1000003 ∧ x6 % 1000003 ≠ 0 → (x4 * x6 ^ e) % 1000003 = x0 ^ N % 1000003 → kW2 G S0 kM_X11_powerOf d 9 [none, none, none, none, some (kL x4), none, some (kL x6), none, some (kL x8), none] [] c P := by
    intro n
    induction n with
    | zero =>
      intro e x8 x4 x6 he hn h8 h4 h6 hv
      obtain rfl : e = 0 := by omega
      rw [Int.pow_zero, Int.mul_one] at hv
      exact v_X11_powerOf_9 hL ⟨by show -9223372036854775808 ≤ x8 ∧ x8 < 9223372036854775808; omega, fun _ => h x4 h4 hv, fun z => by omega⟩
    | succ n ih =>
      intro e x8 x4 x6 he hn h8 h4 h6 hv
      have m1 := mul_rg ⟨h6.1, h6.2.1⟩ ⟨h6.1, h6.2.1⟩
      have m2 := mul_rg ⟨h4.1, h4.2.1⟩ ⟨h6.1, h6.2.1⟩
      have n1 := nz_rg (nz_mul h6.2.2 h6.2.2)
      have n2 := nz_rg (nz_mul h4.2.2 h6.2.2)
      have e2 : Int.tmod x8 2 = x8 % 2 := Int.tmod_eq_emod_of_nonneg (by omega)
      have e3 : Int.tdiv x8 2 = x8 / 2 := Int.tdiv_eq_ediv_of_nonneg (by omega)
      have e6 : Int.tmod (x6 * x6) 1000003 = (x6 * x6) % 1000003 := Int.tmod_eq_emod_of_nonneg m1.1
      have e4 : Int.tmod (x4 * x6) 1000003 = (x4 * x6) % 1000003 := Int.tmod_eq_emod_of_nonneg m2.1
      have sq : ∀ a : Int, (a * ((x6 * x6) % 1000003) ^ (e / 2)) % 1000003 = (a * x6 ^ (2 * (e / 2))) % 1000003 := fun a => by
        rw [Int.mul_emod, pow_em, ← Int.mul_emod, sq_pow]
      refine v_X11_powerOf_9 hL ⟨by show -9223372036854775808 ≤ x8 ∧ x8 < 9223372036854775808; omega, fun z => ?_, fun z => ⟨by rw [e2]; show -9223372036854775808 ≤ x8 % 2 ∧ x8 % 2 < 9223372036854775808; omega, fun y => ⟨by show -9223372036854775808 ≤ x6 * x6 ∧ x6 * x6 < 9223372036854775808; omega, ?_⟩, fun y => ⟨by show -9223372036854775808 ≤ x4 * x6 ∧ x4 * x6 < 9223372036854775808; omega, by show -9223372036854775808 ≤ x6 * x6 ∧ x6 * x6 < 9223372036854775808; omega, ?_⟩⟩⟩
      · obtain rfl : e = 0 := by omega
        rw [Int.pow_zero, Int.mul_one] at hv
        exact h x4 h4 hv
      · rw [e2] at y
        rw [e6, e3]
        refine ih (e / 2) (x8 / 2) x4 _ (by omega) (by omega) (by omega) h4 n1 ?_
        rw [sq, show 2 * (e / 2) = e by omega]; exact hv
      · rw [e2] at y
        rw [e6, e3, e4]
        refine ih (e / 2) (x8 / 2) _ _ (by omega) (by omega) (by omega) n2 n1 ?_
        rw [sq, Int.mul_emod, Int.emod_emod, ← Int.mul_emod, Int.mul_assoc, Int.mul_comm x6, ← Int.pow_succ, show (2 * (e / 2)).succ = e by omega]; exact hv
  refine v_X11_powerOf hL (loop N N x2 1 x0 h2.1 (Nat.le_refl _) h2.2 (by decide) h0 (by rw [Int.one_mul]))
end RRK
