/-! THE LAYER: the machine as a machine of whole numbers. A world: N cells at b0, b0+1, ..; shapes (tag, length); frozen references; a memory of whole numbers. -/
abbrev AV : Type := Int ⊕ (Int ⊕ Int)
abbrev kI (z : Int) : AV := .inl z
abbrev kL (z : Int) : AV := .inr (.inl z)
abbrev kA (z : Int) : AV := .inr (.inr z)
abbrev KMem : Type := Int → Int → Int
/-- number of cells, shapes, frozen references -/
abbrev KSh : Type := Nat × (Int → Nat × Nat) × KMem
abbrev KSt : Type := KSh × KMem
/-- b0, the script, the table of signs, the script's length; the script's values; classes; array classes -/
abbrev KG : Type := (Nat × Nat × Nat × Nat) × (Nat → Int32) × va_G × (Nat → ClassId)
abbrev kb0 (G : KG) : Nat := G.1.1
abbrev kbS (G : KG) : Nat := G.1.2.1
abbrev ktS (G : KG) : Nat := G.1.2.2.1
abbrev kLn (G : KG) : Nat := G.1.2.2.2
abbrev kxs (G : KG) : Nat → Int32 := G.2.1
abbrev kD (G : KG) : va_G := G.2.2.1
abbrev kdA (G : KG) : Nat → ClassId := G.2.2.2
def kref (G : KG) (z : Int) : Value := if 0 ≤ z then .ref (kb0 G + z.toNat) else if z = -2 then .ref (kbS G) else if z = -3 then .ref (ktS G) else .null
def kv (G : KG) : AV → Value
  | .inl z => .int (Int32.ofInt z)
  | .inr (.inl z) => .long (Int64.ofInt z)
  | .inr (.inr z) => kref G z
def kcat : AV → Nat
  | .inr (.inl _) => 2
  | _ => 1
theorem kref_cat (G : KG) (z : Int) : (kref G z).category = 1 := by
  unfold kref
  repeat' split
  all_goals rfl
theorem kcat_eq (G : KG) : ∀ v : AV, (kv G v).category = kcat v
  | .inl _ => rfl
  | .inr (.inl _) => rfl
  | .inr (.inr z) => kref_cat G z
/-- what a field of a class is: 0 int, 1 long, 2 a reference that is set once, 3 a reference that changes -/
def kfty (ci j : Nat) : Nat := match vwCl[ci]? with
  | none => 0
  | some (_, T, _) => match parseFieldDescriptor (T j).2.2.1 with
    | some .long => 1
    | some (.array _) => if (T j).2.2.2 then 2 else 3
    | some (.object _) => 2
    | _ => 0
def krf (G : KG) (z : Int) : Option Nat := if 0 ≤ z then some (kb0 G + z.toNat) else none
theorem krf_kref (G : KG) {z : Int} (h : -1 ≤ z) : va_rf (krf G z) = kref G z := by
  unfold krf kref
  by_cases h0 : 0 ≤ z
  · simp [h0, va_rf]
  · rw [if_neg h0, if_neg h0, if_neg (by omega), if_neg (by omega)]
    rfl
def kfv (ci j : Nat) (r x : Int) : AV := match kfty ci j with
  | 0 => kI x
  | 1 => kL x
  | 2 => kA r
  | _ => kA x
/-- the cell at a place -/
def kcell (G : KG) (S : KSt) (a : Nat) : va_E :=
  match (S.1.2.1 (a : Int)).1 with
  | 1 => .inl (kdA G 1, ((S.1.2.1 (a : Int)).2, .inl (fun j => Int32.ofInt (S.2 a j))))
  | 2 => .inl (kdA G 2, ((S.1.2.1 (a : Int)).2, .inr (.inl (fun j => Int64.ofInt (S.2 a j)))))
  | 3 => .inl (kdA G 3, ((S.1.2.1 (a : Int)).2, .inl (fun j => Int32.ofInt (S.2 a j))))
  | 4 => .inl (kdA G 4, ((S.1.2.1 (a : Int)).2, .inl (fun j => Int32.ofInt (S.2 a j))))
  | 5 => .inl (kdA G 5, ((S.1.2.1 (a : Int)).2, .inr (.inr (.inr (.inr (fun j => krf G (S.1.2.2 a j)))))))
  | 6 => .inl (kdA G 6, ((S.1.2.1 (a : Int)).2, .inr (.inr (.inr (.inr (fun j => krf G (S.1.2.2 a j)))))))
  | t => .inr (t - 10, (List.range (S.1.2.1 (a : Int)).2).map (fun (j : Nat) => kv G (kfv (t - 10) j (S.1.2.2 a j) (S.2 a j))))
def kws (G : KG) (S : KSt) : va_W := (List.range S.1.1).map (fun i => (kb0 G + i, kcell G S i))
theorem kws_len (G : KG) (S : KSt) : (kws G S).length = S.1.1 := by simp [kws]
theorem kws_get {G : KG} {S : KSt} {i : Nat} (h : i < S.1.1) : (kws G S)[i]? = some (kb0 G + i, kcell G S i) := by
  simp [kws, h]
theorem kws_lt {G : KG} {S : KSt} {i : Nat} {q : Nat × va_E} (h : (kws G S)[i]? = some q) : i < S.1.1 ∧ q = (kb0 G + i, kcell G S i) := by
  have hl : i < S.1.1 := by rw [← kws_len G S]; exact (List.getElem?_eq_some_iff.mp h).1
  rw [kws_get hl] at h
  exact ⟨hl, (Option.some.inj h).symm⟩
theorem kws_D (G : KG) (S : KSt) : va_D (fun q => kb0 G ≤ q) (kws G S) := by
  refine ⟨fun i j p q hi hj e => ?_, fun k q hk => ?_⟩
  · obtain ⟨-, rfl⟩ := kws_lt hi
    obtain ⟨-, rfl⟩ := kws_lt hj
    exact Nat.add_left_cancel e
  · obtain ⟨-, rfl⟩ := kws_lt hk
    exact Nat.le_add_right _ _
def kup (c : KMem) (a i v : Int) : KMem := fun x y => if x = a ∧ y = i then v else c x y
theorem kup_s (c : KMem) (a i v : Int) : kup c a i v a i = v := if_pos ⟨rfl, rfl⟩
theorem kup_n {c : KMem} {a i v x y : Int} (h : x ≠ a ∨ y ≠ i) : kup c a i v x y = c x y := if_neg (fun q => h.elim (fun z => z q.1) (fun z => z q.2))
theorem kcell_congr {G : KG} {S S' : KSt} {i : Nat} (h1 : S'.1.2.1 (i : Int) = S.1.2.1 (i : Int)) (h2 : ∀ j, S'.1.2.2 (i : Int) j = S.1.2.2 (i : Int) j) (h3 : ∀ j, S'.2 (i : Int) j = S.2 (i : Int) j) : kcell G S' i = kcell G S i := by
  simp only [kcell, h1, h2, h3]
/-- one cell changes -/
theorem kws_set {G : KG} {S S' : KSt} {a : Nat} (hN : S'.1.1 = S.1.1) (h1 : ∀ i : Nat, i ≠ a → kcell G S' i = kcell G S i) : kws G S' = (kws G S).set a (kb0 G + a, kcell G S' a) := by
  apply List.ext_getElem?
  intro k
  by_cases hk : k < S.1.1
  · rw [kws_get (by rw [hN]; exact hk)]
    by_cases e : k = a
    · subst e
      rw [List.getElem?_set_self (by rw [kws_len]; exact hk)]
    · rw [List.getElem?_set_ne (Ne.symm e), kws_get hk, h1 k e]
  · rw [List.getElem?_eq_none (by rw [kws_len, hN]; omega), List.getElem?_eq_none (by rw [List.length_set, kws_len]; omega)]
/-- one cell more -/
theorem kws_push {G : KG} {S S' : KSt} (hN : S'.1.1 = S.1.1 + 1) (h1 : ∀ i : Nat, i < S.1.1 → kcell G S' i = kcell G S i) : kws G S' = kws G S ++ [(kb0 G + S.1.1, kcell G S' S.1.1)] := by
  unfold kws
  rw [hN, List.range_succ, List.map_append]
  congr 1
  apply List.map_congr_left
  intro i hi
  rw [h1 i (List.mem_range.mp hi)]
-- the array classes
def kat : Nat → FieldType
  | 1 => .int
  | 2 => .long
  | 3 => .byte
  | 4 => .boolean
  | 5 => .array .long
  | _ => .object "BladesBench$Letters"
def ktys (G : KG) : List (ClassId × FieldType) := [(kdA G 1, .int), (kdA G 2, .long), (kdA G 3, .byte), (kdA G 4, .boolean), (kdA G 5, .array .long), (kdA G 6, .object "BladesBench$Letters")]
def kSigns : List Int32 := [0, 0, 43690, 43690, 26214, 26214, 52428, 52428, 27030, 27030, 49980, 49980, 4080, 4080, 42330, 42330]
/-- the words of the tables that keep -/
def KW : List Cond := lw_tbl.filter goodWord
theorem KW_in {w : Cond} (i : Nat) (h : lw_tbl[i]? = some w) (hg : goodWord w = true) : w ∈ KW := List.mem_filter.mpr ⟨List.mem_of_getElem? h, hg⟩
theorem KW_good {w : Cond} (h : w ∈ KW) : w ∈ KW ∧ ((w.onTables && w.keeps) = true ∨ ∃ ty, w = .arrayClass ty) := ⟨h, good_of_word (List.mem_filter.mp h).2⟩
theorem KW_GoodIn : GoodIn KW KW := fun _ h => KW_good h
/-- what doesn't depend on the heap above b0 -/
def kFix (G : KG) (U : State) (H : Heap) : Prop := va_X (kbS G) (kLn G) (kxs G) U H ∧ kbS G < kb0 G ∧ va_X (ktS G) 16 (fun i => kSigns.getD i 0) U H ∧ ktS G < kb0 G ∧ va_Z "BladesBench$Algebra" "SIGN_TURNS" "[I" (.ref (ktS G)) (fun q => kb0 G ≤ q) U H ∧ kb0 G ≤ H.size
/-- the links to private members of nest mates, and the arrays of references -/
def kNest : List (String × Nat × MethodName × String) := [("BladesBench", 28, yX1_init, "BladesBench")]
def kNst (G : KG) (U : State) : Prop := (∀ w ∈ lw_tbl, (∃ a i y h, w = .methodLinkNest a i y h) → va_Nw w U) ∧ (Cond.arrayOver (.array .long)).before #[] U = true ∧ va_AO "BladesBench$Letters" U
