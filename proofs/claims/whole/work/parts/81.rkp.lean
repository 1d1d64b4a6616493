theorem p3_prime : ∀ d : Nat, d < 1001 → 2 ≤ d → 1000003 % d ≠ 0 := by decide +kernel
theorem p3_div {g : Nat} (h : g ∣ 1000003) : g = 1 ∨ g = 1000003 := by
  obtain ⟨e, he⟩ := h
  have hg : g ≠ 0 := fun z => by rw [z] at he; omega
  have he0 : e ≠ 0 := fun z => by rw [z] at he; omega
  by_cases a : g < 1001
  · by_cases b : g = 1
    · exact Or.inl b
    · exact absurd (by rw [he]; exact Nat.mul_mod_right g e) (p3_prime g a (by omega))
  · by_cases b : e < 1001
    · by_cases c : e = 1
      · right; rw [c] at he; omega
      · exact absurd (by rw [he]; exact Nat.mul_mod_left g e) (p3_prime e b (by omega))
    · exfalso
      have : 1001 * 1001 ≤ g * e := Nat.mul_le_mul (by omega) (by omega)
      omega
/-- the product of two that aren't 0 modulo the prime isn't, either -/
theorem nz_mul {a b : Int} (ha : a % 1000003 ≠ 0) (hb : b % 1000003 ≠ 0) : (a * b) % 1000003 ≠ 0 := by
  intro h
  have h1 : (1000003 : Int) ∣ a * b := Int.dvd_of_emod_eq_zero h
  have h2 : (1000003 : Nat) ∣ a.natAbs * b.natAbs := by
    have := Int.natAbs_dvd_natAbs.mpr h1
    rw [Int.natAbs_mul] at this
    exact this
  have hg : Nat.gcd 1000003 a.natAbs = 1 := by
    rcases p3_div (Nat.gcd_dvd_left 1000003 a.natAbs) with w | w
    · exact w
    · exfalso
      apply ha
      have : (1000003 : Nat) ∣ a.natAbs := by
        have := Nat.gcd_dvd_right 1000003 a.natAbs
        rw [w] at this; exact this
      omega
  have h3 : (1000003 : Nat) ∣ b.natAbs := Nat.Coprime.dvd_of_dvd_mul_left hg h2
  omega
/-- modulo the prime: rows of which multiples sum up to a multiple (not 0) -/
def sp : List KF → KF → Prop
  | [], v => ∀ j : Int, 0 ≤ j → j < 16 → v j % 1000003 = 0
  | r :: R, v => ∃ k c : Int, k % 1000003 ≠ 0 ∧ sp R (fun j => k * v j - c * r j)
theorem one_nz : (1 : Int) % 1000003 ≠ 0 := by decide
theorem em_lin {x y u w a b : Int} (h1 : x % 1000003 = u % 1000003) (h2 : y % 1000003 = w % 1000003) : (a * x + b * y) % 1000003 = (a * u + b * w) % 1000003 := by
  rw [Int.add_emod, Int.mul_emod, h1, ← Int.mul_emod, Int.mul_emod b, h2, ← Int.mul_emod, ← Int.add_emod]
theorem sp_cg : ∀ (R : List KF) {v w : KF}, (∀ j : Int, 0 ≤ j → j < 16 → v j % 1000003 = w j % 1000003) → sp R v → sp R w
  | [], v, w, e, h => fun j a b => by rw [← e j a b]; exact h j a b
  | r :: R, v, w, e, h => by
    obtain ⟨k, c, hk, h⟩ := h
    refine ⟨k, c, hk, sp_cg R (fun j a b => ?_) h⟩
    have := em_lin (a := k) (b := -c) (e j a b) (rfl : r j % 1000003 = r j % 1000003)
    show (k * v j - c * r j) % 1000003 = (k * w j - c * r j) % 1000003
    rw [show k * v j - c * r j = k * v j + -c * r j by rw [Int.neg_mul]; rfl, show k * w j - c * r j = k * w j + -c * r j by rw [Int.neg_mul]; rfl]
    exact this
theorem sp_0 : ∀ (R : List KF) {v : KF}, (∀ j : Int, 0 ≤ j → j < 16 → v j % 1000003 = 0) → sp R v
  | [], v, e => e
  | r :: R, v, e => ⟨1, 0, one_nz, sp_0 R (fun j a b => by have := e j a b; show (1 * v j - 0 * r j) % 1000003 = 0; rw [Int.one_mul, Int.zero_mul, Int.sub_zero]; exact this)⟩
theorem sp_lin : ∀ (R : List KF) {v w : KF} (a b : Int), sp R v → sp R w → sp R (fun j => a * v j + b * w j)
  | [], v, w, a, b, h1, h2 => fun j j0 j1 => by
    have e1 : v j % 1000003 = (0 : Int) % 1000003 := h1 j j0 j1
    have e2 : w j % 1000003 = (0 : Int) % 1000003 := h2 j j0 j1
    have := em_lin (a := a) (b := b) e1 e2
    show (a * v j + b * w j) % 1000003 = 0
    rw [this, Int.mul_zero, Int.mul_zero]; rfl
  | r :: R, v, w, a, b, h1, h2 => by
    obtain ⟨k, c, hk, h1⟩ := h1
    obtain ⟨k', c', hk', h2⟩ := h2
    refine ⟨k * k', a * k' * c + b * k * c', nz_mul hk hk', ?_⟩
    have := sp_lin R (a * k') (b * k) h1 h2
    refine sp_cg R (fun j _ _ => ?_) this
    show ((a * k') * (k * v j - c * r j) + (b * k) * (k' * w j - c' * r j)) % 1000003 = (k * k' * (a * v j + b * w j) - (a * k' * c + b * k * c') * r j) % 1000003
    congr 1
    simp only [Int.mul_sub, Int.mul_add, Int.add_mul, Int.sub_mul]
    have e1 : a * k' * (k * v j) = k * k' * (a * v j) := by ac_rfl
    have e2 : b * k * (k' * w j) = k * k' * (b * w j) := by ac_rfl
    have e3 : a * k' * (c * r j) = a * k' * c * r j := by ac_rfl
    have e4 : b * k * (c' * r j) = b * k * c' * r j := by ac_rfl
    rw [e1, e2, e3, e4]; omega
theorem sp_div : ∀ (R : List KF) {v : KF} {a : Int}, a % 1000003 ≠ 0 → sp R (fun j => a * v j) → sp R v
  | [], v, a, ha, h => fun j j0 j1 => Classical.byContradiction (fun z => nz_mul ha z (h j j0 j1))
  | r :: R, v, a, ha, h => by
    obtain ⟨k, c, hk, h⟩ := h
    refine ⟨k * a, c, nz_mul hk ha, sp_cg R (fun j _ _ => ?_) h⟩
    show (k * (a * v j) - c * r j) % 1000003 = (k * a * v j - c * r j) % 1000003
    rw [Int.mul_assoc]
theorem sp_cons {r : KF} {R : List KF} {v : KF} (h : sp R v) : sp (r :: R) v := ⟨1, 0, one_nz, sp_cg R (fun j _ _ => by show v j % 1000003 = (1 * v j - 0 * r j) % 1000003; rw [Int.one_mul, Int.zero_mul, Int.sub_zero]) h⟩
theorem sp_hd (r : KF) (R : List KF) : sp (r :: R) r := ⟨1, 1, one_nz, sp_0 R (fun j _ _ => by show (1 * r j - 1 * r j) % 1000003 = 0; rw [Int.sub_self]; rfl)⟩
theorem sp_mem : ∀ {R : List KF} {r : KF}, r ∈ R → sp R r
  | a :: R, r, h => by
    rcases List.mem_cons.mp h with w | w
    · rw [w]; exact sp_hd a R
    · exact sp_cons (sp_mem w)
/-- rows that all lie in what others span -/
theorem sp_sub : ∀ {R R' : List KF}, (∀ r, r ∈ R → sp R' r) → ∀ {v : KF}, sp R v → sp R' v
  | [], R', _, v, h => sp_0 R' h
  | r :: R, R', hs, v, h => by
    obtain ⟨k, c, hk, h⟩ := h
    have h1 := sp_sub (fun x hx => hs x (List.mem_cons_of_mem _ hx)) h
    have h2 := sp_lin R' 1 c h1 (hs r (List.mem_cons_self))
    refine sp_div R' hk (sp_cg R' (fun j _ _ => ?_) h2)
    show (1 * (k * v j - c * r j) + c * r j) % 1000003 = (k * v j) % 1000003
    congr 1; omega
/-- the first column that isn't 0 -/
def ldC (v : KF) (j : Int) : Prop := (0 ≤ j ∧ j < 16) ∧ v j % 1000003 ≠ 0 ∧ ∀ i : Int, 0 ≤ i → i < j → v i % 1000003 = 0
/-- rows with their first columns, all distinct -/
def ech : List KF → List Int → Prop
  | [], [] => True
  | r :: R, d :: D => ldC r d ∧ d ∉ D ∧ ech R D
  | _, _ => False
theorem ech_len : ∀ {R : List KF} {D : List Int}, ech R D → R.length = D.length
  | [], [], _ => rfl
  | _ :: R, _ :: D, h => by rw [List.length_cons, List.length_cons, ech_len h.2.2]
theorem ech_in : ∀ {R : List KF} {D : List Int}, ech R D → ∀ {v : KF} {j : Int}, sp R v → ldC v j → j ∈ D
  | [], [], _, v, j, h, hl => absurd (h j hl.1.1 hl.1.2) hl.2.1
  | r :: R, d :: D, he, v, j, h, hl => by
    obtain ⟨k, c, hk, h⟩ := h
    obtain ⟨hd, hn, he⟩ := he
    obtain ⟨⟨j0, j1⟩, hj, hi⟩ := hl
    obtain ⟨⟨d0, d1⟩, hd1, hd2⟩ := hd
    have val : ∀ i : Int, r i % 1000003 = 0 → (k * v i - c * r i) % 1000003 = (k * v i) % 1000003 := fun i e => by
      have e' : r i % 1000003 = (0 : Int) % 1000003 := e
      have := em_lin (a := 1) (b := -c) (rfl : (k * v i) % 1000003 = (k * v i) % 1000003) e'
      rw [Int.mul_zero, Int.add_zero, Int.one_mul, Int.neg_mul] at this
      exact this
    have val0 : ∀ i : Int, v i % 1000003 = 0 → (k * v i) % 1000003 = 0 := fun i e => by rw [Int.mul_emod, e, Int.mul_zero]; rfl
    by_cases w : j = d
    · rw [w]; exact List.mem_cons_self
    by_cases w2 : j < d
    · refine List.mem_cons_of_mem _ (ech_in he h ⟨⟨j0, j1⟩, ?_, fun i i0 i1 => ?_⟩)
      · show (k * v j - c * r j) % 1000003 ≠ 0
        rw [val j (hd2 j j0 w2)]; exact nz_mul hk hj
      · show (k * v i - c * r i) % 1000003 = 0
        rw [val i (hd2 i i0 (by omega))]; exact val0 i (hi i i0 i1)
    · by_cases w3 : c % 1000003 = 0
      · have valc : ∀ i : Int, (k * v i - c * r i) % 1000003 = (k * v i) % 1000003 := fun i => by
          rw [Int.sub_emod, Int.mul_emod c, w3, Int.zero_mul, Int.zero_emod, Int.sub_zero, Int.emod_emod]
        refine List.mem_cons_of_mem _ (ech_in he h ⟨⟨j0, j1⟩, ?_, fun i i0 i1 => ?_⟩)
        · show (k * v j - c * r j) % 1000003 ≠ 0
          rw [valc]; exact nz_mul hk hj
        · show (k * v i - c * r i) % 1000003 = 0
          rw [valc]; exact val0 i (hi i i0 i1)
      · refine absurd (ech_in he h ⟨⟨d0, d1⟩, ?_, fun i i0 i1 => ?_⟩) hn
        · show (k * v d - c * r d) % 1000003 ≠ 0
          have e0 := val0 d (hi d d0 (by omega))
          have e1 := nz_mul w3 hd1
          omega
        · show (k * v i - c * r i) % 1000003 = 0
          rw [val i (hd2 i i0 i1)]; exact val0 i (hi i i0 (by omega))
theorem ech_ld : ∀ {R : List KF} {D : List Int}, ech R D → ∀ j, j ∈ D → ∃ r, r ∈ R ∧ ldC r j
  | [], [], _, _, hj => nomatch hj
  | r :: R, d :: D, he, j, hj => by
    rcases List.mem_cons.mp hj with w | w
    · exact ⟨r, List.mem_cons_self, w ▸ he.1⟩
    · obtain ⟨x, hx, hl⟩ := ech_ld he.2.2 j w
      exact ⟨x, List.mem_cons_of_mem _ hx, hl⟩
theorem ech_le : ∀ {R : List KF} {D : List Int}, ech R D → ∀ {E : List Int}, (∀ j, j ∈ D → j ∈ E) → D.length ≤ E.length
  | [], [], _, E, _ => Nat.zero_le _
  | r :: R, d :: D, he, E, hs => by
    have hd : d ∈ E := hs d List.mem_cons_self
    have := ech_le he.2.2 (E := E.erase d) (fun j hj => (List.mem_erase_of_ne (fun (z : j = d) => he.2.1 (z ▸ hj))).mpr (hs j (List.mem_cons_of_mem _ hj)))
    rw [List.length_erase_of_mem hd] at this
    have h0 : 0 < E.length := List.length_pos_of_mem hd
    rw [List.length_cons]; omega
/-- so many of some rows are independent -/
def IsRk (V : List KF) (m : Nat) : Prop := ∃ R D, ech R D ∧ R.length = m ∧ (∀ r, r ∈ R → sp V r) ∧ ∀ r, r ∈ V → sp R r
theorem IsRk.le {V : List KF} {m m' : Nat} (h : IsRk V m) (h' : IsRk V m') : m ≤ m' := by
  obtain ⟨R, D, he, hm, h1, h2⟩ := h
  obtain ⟨R', D', he', hm', h1', h2'⟩ := h'
  rw [← hm, ← hm', ech_len he, ech_len he']
  refine ech_le he (fun j hj => ?_)
  obtain ⟨r, hr, hl⟩ := ech_ld he j hj
  exact ech_in he' (sp_sub h2' (h1 r hr)) hl
theorem IsRk.un {V : List KF} {m m' : Nat} (h : IsRk V m) (h' : IsRk V m') : m = m' := Nat.le_antisymm (h.le h') (h'.le h)
