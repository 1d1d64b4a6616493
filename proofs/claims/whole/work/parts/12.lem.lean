theorem k32i {z : Int} (h : -2147483648 ≤ z ∧ z < 2147483648) : k32 z := h
theorem k64i {z : Int} (h : -9223372036854775808 ≤ z ∧ z < 9223372036854775808) : k64 z := h
theorem k32_toInt (x : Int32) : k32 x.toInt := ⟨Int32.le_toInt x, Int32.toInt_lt x⟩
theorem k64_toInt (x : Int64) : k64 x.toInt := ⟨Int64.le_toInt x, Int64.toInt_lt x⟩
theorem k32_kand (a b : Int) : k32 (kand a b) := k32_toInt _
theorem k32_kor (a b : Int) : k32 (kor a b) := k32_toInt _
theorem k32_kxor (a b : Int) : k32 (kxor a b) := k32_toInt _
theorem k32_kshl (a b : Int) : k32 (kshl a b) := k32_toInt _
theorem k32_kshr (a b : Int) : k32 (kshr a b) := k32_toInt _
theorem k32_kushr (a b : Int) : k32 (kushr a b) := k32_toInt _
theorem k64_klxor (a b : Int) : k64 (klxor a b) := k64_toInt _
theorem k32_i2b (a : Int) : k32 (ki2b a) := k32_toInt _
/-- a switch -/
theorem k2_tsw {G : KG} {S0 : KSh} {M : KM} {d pc : Nat} {ls : List (Option AV)} {st : List AV} {c : KMem} {P : Option AV → KMem → Prop} {a df lo hi : Int} {offs : Array Int} {len : Nat} (hd : decode M.2.1 pc = .ok (.tableswitch df lo hi offs, len)) (ha : k32 a) (tdf : Nat) (htd : (pc : Int) + df = (tdf : Int)) (k2 : a < lo ∨ hi < a → kW2 G S0 M d tdf ls st c P)
    (k1 : ∀ (j : Nat) (off : Int) (tgt : Nat), a = lo + j → a ≤ hi → offs[j]? = some off → (pc : Int) + off = (tgt : Int) → kW2 G S0 M d tgt ls st c P) (hz : ∀ j : Nat, j < offs.size → 0 ≤ (pc : Int) + offs.getD j 0 := by decide) (hs : hi - lo < offs.size := by decide) : kW2 G S0 M d pc ls (kI a :: st) c P := by
  refine kw_tswitch hd ha k1 (fun j hj => ?_) tdf htd k2
  have hj2 : j < offs.size := by omega
  have h1 := hz j hj2
  obtain ⟨t, ht⟩ := Int.eq_ofNat_of_zero_le h1
  refine ⟨offs.getD j 0, t, ?_, ht⟩
  simp [Array.getD, hj2]
