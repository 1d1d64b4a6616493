theorem klxor_neg {a : Int} (h : k64 a) : klxor a 1000003 < 0 ↔ a < 0 := by
  unfold klxor
  have h' : -9223372036854775808 ≤ a ∧ a < 9223372036854775808 := h
  have e : (Int64.ofInt a ^^^ Int64.ofInt 1000003).toBitVec = (Int64.ofInt a).toBitVec ^^^ (Int64.ofInt 1000003).toBitVec := rfl
  have m1 : (Int64.ofInt a).toBitVec.msb = decide (a < 0) := by
    rw [BitVec.msb_eq_toInt]
    have : (Int64.ofInt a).toBitVec.toInt = a := Int64.toInt_ofInt_of_le h'.1 h'.2
    rw [this]
  have m2 : (Int64.ofInt 1000003).toBitVec.msb = false := by decide
  have m3 : ((Int64.ofInt a ^^^ Int64.ofInt 1000003).toBitVec).msb = decide (a < 0) := by rw [e, BitVec.msb_xor, m1, m2, Bool.xor_false]
  rw [BitVec.msb_eq_toInt] at m3
  have m4 : (Int64.ofInt a ^^^ Int64.ofInt 1000003).toInt = ((Int64.ofInt a ^^^ Int64.ofInt 1000003).toBitVec).toInt := rfl
  rw [m4]
  exact decide_eq_decide.mp m3
section CRK
variable {G : KG} {S0 : KSh} {d : Nat} {P : Option AV → KMem → Prop} {c c' : KMem} {f r : KF} {x0 x1 x2 : Int}
theorem s_floorMod (hL : kLay S0) (h0 : k64 x0) (h : P (some (kL (x0 % 1000003))) c) : kC2 G S0 kM_J9_floorMod_f86c9 d [kL x0, kL 1000003] c P := by
  have h' : -9223372036854775808 ≤ x0 ∧ x0 < 9223372036854775808 := h0
  have hx := klxor_neg h0
  have ht : Int.tmod x0 1000003 = if 0 ≤ x0 then x0 % 1000003 else -((-x0) % 1000003) := by
    by_cases a : 0 ≤ x0
    · rw [if_pos a, Int.tmod_eq_emod_of_nonneg a]
    · rw [if_neg a]
      have : x0 = -(-x0) := by omega
      rw [this, Int.neg_tmod, Int.tmod_eq_emod_of_nonneg (by omega), Int.neg_neg]
  refine v_J9_floorMod_f86c9 hL ⟨h0, by show -9223372036854775808 ≤ (1000003 : Int) ∧ (1000003 : Int) < 9223372036854775808; omega, by decide, fun a => ?_, fun a => ?_⟩
  · rw [if_pos (by omega)] at ht
    rw [ht]; exact h
  · rw [if_neg (by omega)] at ht
    refine ⟨by show -9223372036854775808 ≤ Int.tmod x0 1000003 ∧ Int.tmod x0 1000003 < 9223372036854775808; omega, fun b => ?_, fun b => ?_⟩
    · have e : Int.tmod x0 1000003 = x0 % 1000003 := by omega
      rw [e]; exact h
    · have e : Int.tmod x0 1000003 + 1000003 = x0 % 1000003 := by omega
      rw [e]; exact h
/-- both rows multiplied, so that a column is nothing -/
def frP (f r : KF) (l : Int) : KF := fun j => (f j * r l - r j * f l) % 1000003
theorem s_X2_free (hL : kLay S0) (hx0 : S0.2.1 x0 = (2, 16)) (hx1 : S0.2.1 x1 = (2, 16)) (ne : x0 ≠ x1) (hl : 0 ≤ x2 ∧ x2 < 16) (ef : kEq (c x0) f) (er : kEq (c x1) r) (rf : ∀ j : Int, 0 ≤ j → j < 16 → 0 ≤ f j ∧ f j < 1000003) (rr : ∀ j : Int, 0 ≤ j → j < 16 → 0 ≤ r j ∧ r j < 1000003) (h : ∀ c', kEq (c' x0) (frP f r x2) → kO x0 c c' → P none c') : kC2 G S0 kM_X2_free (d + 1) [kA x0, kA x1, kI x2] c P := by
  have loop : ∀ m k : Nat, k + m = 16 → ∀ c', kO x0 c c' → (∀ j : Int, 0 ≤ j → j < 16 → c' x0 j = if j < k then frP f r x2 j else f j) → kW2 G S0 kM_X2_free (d + 1) 23 [some (kA x0), some (kA x1), none, some (kL (f x2)), none, some (kL (r x2)), none, some (kI (k : Int))] [] c' P := by
    intro m
    induction m with
    | zero =>
      intro k hk c' o q
      exact v_X2_free_23 hL hx0 hx1 (by omega) ⟨fun _ => h c' (fun j j0 j1 => by rw [q j j0 j1, if_pos (by omega)]) o, fun z => by omega⟩
    | succ m ih =>
      intro k hk c' o q
      have e0 : c' x0 (k : Int) = f k := by rw [q k (by omega) (by omega), if_neg (by omega)]
      have e1 : c' x1 (k : Int) = r k := by rw [o x1 _ (fun z => ne z.symm)]; exact er k (by omega) (by omega)
      have a1 := rf k (by omega) (by omega)
      have a2 := rf x2 hl.1 hl.2
      have a3 := rr k (by omega) (by omega)
      have a4 := rr x2 hl.1 hl.2
      have b1 : 0 ≤ f k * r x2 ∧ f k * r x2 ≤ 1000003 * 1000003 := ⟨Int.mul_nonneg a1.1 a4.1, Int.mul_le_mul (by omega) (by omega) a4.1 (by decide)⟩
      have b2 : 0 ≤ r k * f x2 ∧ r k * f x2 ≤ 1000003 * 1000003 := ⟨Int.mul_nonneg a3.1 a2.1, Int.mul_le_mul (by omega) (by omega) a2.1 (by decide)⟩
      refine v_X2_free_23 hL hx0 hx1 (by omega) ⟨fun z => by omega, fun _ => ?_⟩
      rw [e0, e1]
      refine s_floorMod hL (by show -9223372036854775808 ≤ f k * r x2 - r k * f x2 ∧ f k * r x2 - r k * f x2 < 9223372036854775808; omega) ⟨_, rfl, ih (k + 1) (by omega) _ o.up (fun j j0 j1 => ?_)⟩
      by_cases w : j = k
      · rw [w, kup_s, if_pos (by omega)]; rfl
      · rw [kup_n (Or.inr w), q j j0 j1]
        by_cases w2 : j < k
        · rw [if_pos w2, if_pos (by omega)]
        · rw [if_neg w2, if_neg (by omega)]
  refine v_X2_free hL hx0 hx1 (by omega) ⟨fun z => by omega, fun _ => ⟨fun _ => ?_, fun z => by omega⟩⟩
  rw [ef x2 hl.1 hl.2, er x2 hl.1 hl.2]
  exact loop 16 0 (by omega) c kO.rf (fun j j0 j1 => by rw [if_neg (by omega)]; exact ef j j0 j1)
end CRK
