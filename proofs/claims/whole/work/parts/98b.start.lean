/-! The law's start: what the tables and the Statement give. -/
theorem st_arr {s : State} {args : Array Value} {ty : FieldType} (h : (Cond.arrayClass ty).before args s = true) (hn : ∀ C, ty ≠ .object C) : ∃ cA, ArrOfT s cA ty ∧ va_RA s cA ty := by
  obtain ⟨c, k, comp, f1, f2, f3⟩ := Cond.arrayClass_spec h
  refine ⟨c, fun n z => ⟨(fun k h => by cases h), k, f2, comp, f3⟩, ?_⟩
  cases ty with
  | object C => exact absurd rfl (hn C)
  | _ => exact f1
theorem st_arrA {s : State} {args : Array Value} {t : FieldType} (h : (Cond.arrayOver (.array t)).before args s = true) : ∃ cA, ArrOfT s cA (.array t) ∧ va_RA s cA (.array t) := by
  obtain ⟨comp, c, k, f1, -, f2, f3, f4⟩ := arrayOverA_spec h
  exact ⟨c, fun n z => ⟨(fun k h => by cases h), k, f2, comp, f3⟩, f4⟩
theorem st_arrO {s : State} {args : Array Value} {n : String} (h : (Cond.arrayOver (.object n)).before args s = true) : ∃ cA, ArrOfT s cA (.object n) ∧ va_RA s cA (.object n) := by
  obtain ⟨comp, c, k, f1, -, f2, f3, f4⟩ := Cond.arrayOver_spec h
  exact ⟨c, fun n z => ⟨(fun k h => by cases h), k, f2, comp, f3⟩, k, comp, f2, f3, f1, f4⟩
abbrev sgT : Term := .static "BladesBench$Algebra" "SIGN_TURNS" "[I"
theorem st_el : ∀ j, j < 16 → Cond.eq (.elem sgT (.int (Int32.ofNat j))) (.int (kSigns.getD j 0)) ∈ flatC (Jvm.Cond.and given_1 narrow_1) := by decide +kernel
/-- the table of signs, as the Statement gives it -/
theorem st_sgn {s : State} {args : Array Value} (hg : (Jvm.Cond.and given_1 narrow_1).before args s = true) (hl : (Cond.laysStatic "BladesBench$Algebra" "SIGN_TURNS" "[I").before args s = true) (hi : (Cond.initialized "BladesBench$Algebra").before args s = true) :
    ∃ t : Nat, va_X t 16 (fun i => kSigns.getD i 0) s s.heap ∧ t < s.heap.size ∧ va_Z "BladesBench$Algebra" "SIGN_TURNS" "[I" (.ref t) (fun q => s.heap.size ≤ q) s s.heap := by
  have hs := flat_of_before _ hg
  have ha : (Cond.arrayOf sgT .int).before args s = true := hs _ (by decide +kernel)
  have hlen := va_eqt (z := 16) (hs (Cond.eq (.length sgT) (.int 16)) (by decide +kernel))
  have hA : ∀ a : Nat, a < s.heap.size → ¬ (fun q : Nat => s.heap.size ≤ q) a := fun a h => Nat.not_le.mpr h
  obtain ⟨t, ht, cell, h1, h2, h3, h4, h5, h6, h7⟩ := va_Tof (N := 16) (f := fun j => .int (kSigns.getD j 0)) (A := fun q : Nat => s.heap.size ≤ q) (by decide) ha hlen (fun j hj => va_eqt (hs _ (st_el j hj))) hA
  obtain ⟨t2, cell2, g1, g2, g3⟩ := Term.length_spec hlen
  have et : t2 = t := by cases g1.symm.trans ht; rfl
  subst et
  have hlt : cell2.slots.size < 2147483648 := by
    have hv := hlen
    simp only [Term.eval, Option.bind_eq_bind] at hv
    have ht2 : Term.eval args s none [] s sgT = some (.ref t2) := ht
    simp only [Term.eval, Option.bind_eq_bind] at ht2
    simp only [ht2, g2, Option.bind_some] at hv
    by_cases hlt : cell2.slots.size < 2147483648
    · exact hlt
    · simp [hlt] at hv
  have ec : cell2 = cell := Option.some.inj ((State.arrayAt?_spec g2).1.symm.trans h1)
  subst ec
  have hsz : cell2.slots.size = 16 := by
    have e1 : Int32.ofNat cell2.slots.size = Int32.ofNat 16 := h5
    rw [← Int32.ofInt_eq_ofNat, ← Int32.ofInt_eq_ofNat] at e1
    have e2 := congrArg Int32.toInt e1
    rw [k32_t (by unfold k32; omega), k32_t (by unfold k32; omega)] at e2
    omega
  exact ⟨t2, ⟨cell2, h1, h2, h3, hsz, h6⟩, (Array.getElem?_eq_some_iff.mp h1).1, va_Zof hl hi ht hA⟩
