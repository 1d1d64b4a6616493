def prL : List Int → Int
  | [] => 1
  | a :: l => a * prL l
theorem prL_perm {l m : List Int} (h : List.Perm l m) : prL l = prL m := by
  induction h with
  | nil => rfl
  | cons x _ ih => rw [prL, prL, ih]
  | swap x y l => rw [prL, prL, prL, prL]; ac_rfl
  | trans _ _ h1 h2 => exact h1.trans h2
theorem perm_of : ∀ {M L : List Int}, M.Nodup → (∀ x, x ∈ M → x ∈ L) → L.length = M.length → List.Perm M L
  | [], L, _, _, h => by
    have : L = [] := List.eq_nil_of_length_eq_zero h
    rw [this]
  | a :: M, L, hn, hs, h => by
    have ha : a ∈ L := hs a List.mem_cons_self
    obtain ⟨h1, h2⟩ := List.nodup_cons.mp hn
    have ih := perm_of (L := L.erase a) h2 (fun x hx => (List.mem_erase_of_ne (fun (z : x = a) => h1 (z ▸ hx))).mpr (hs x (List.mem_cons_of_mem _ hx))) (by rw [List.length_erase_of_mem ha, h, List.length_cons]; omega)
    exact (ih.cons a).trans (List.perm_cons_erase ha).symm
theorem prL_map {v : Int} : ∀ l : List Int, prL (l.map (fun i => i * v % 1000003)) % 1000003 = (v ^ l.length * prL l) % 1000003
  | [] => by rw [List.map_nil, List.length_nil, Int.pow_zero, Int.one_mul]
  | a :: l => by
    rw [List.map_cons, prL, prL, List.length_cons, Int.pow_succ]
    rw [Int.mul_emod, prL_map l, Int.emod_emod, ← Int.mul_emod]
    congr 1; ac_rfl
theorem prL_nz : ∀ l : List Int, (∀ x, x ∈ l → x % 1000003 ≠ 0) → prL l % 1000003 ≠ 0
  | [], _ => by show (1 : Int) % 1000003 ≠ 0; decide
  | a :: l, h => nz_mul (h a List.mem_cons_self) (prL_nz l (fun x hx => h x (List.mem_cons_of_mem _ hx)))
theorem fermat {N : Nat} (hN : (N : Int) + 1 = 1000003) {v : Int} (hv : v % 1000003 ≠ 0) : v ^ N % 1000003 = 1 := by
  have hl : ((List.range N).map (fun i : Nat => (i : Int) + 1)).length = N := by rw [List.length_map, List.length_range]
  have hm : ∀ x, x ∈ (List.range N).map (fun i : Nat => (i : Int) + 1) ↔ 1 ≤ x ∧ x ≤ N := by
    intro x
    rw [List.mem_map]
    constructor
    · rintro ⟨i, a, rfl⟩; have := List.mem_range.mp a; omega
    · intro h; exact ⟨(x - 1).toNat, List.mem_range.mpr (by omega), by omega⟩
  have hnd : ((List.range N).map (fun i : Nat => (i : Int) + 1)).Nodup := by
    unfold List.Nodup
    rw [List.pairwise_map]
    exact List.Pairwise.imp (fun h z => h (by omega)) (List.nodup_range (n := N))
  generalize (List.range N).map (fun i : Nat => (i : Int) + 1) = L at hl hm hnd
  have hp : List.Perm (L.map (fun i => i * v % 1000003)) L := by
    refine perm_of ?_ (fun x hx => ?_) (by rw [List.length_map])
    · unfold List.Nodup
      rw [List.pairwise_map]
      refine List.Pairwise.imp_of_mem (fun {a b} ha hb hab z => ?_) hnd
      have h1 := (hm a).mp ha
      have h2 := (hm b).mp hb
      have h3 : ((a - b) * v) % 1000003 = 0 := by
        rw [Int.sub_mul, Int.sub_emod, z, Int.sub_self]; rfl
      have h4 : (a - b) % 1000003 = 0 := Classical.byContradiction (fun w => nz_mul w hv h3)
      omega
    · obtain ⟨i, hi, rfl⟩ := List.mem_map.mp hx
      have h1 := (hm i).mp hi
      have h2 := nz_mul (a := i) (b := v) (by omega) hv
      rw [hm]
      omega
  have e1 := prL_map (v := v) L
  rw [prL_perm hp, hl] at e1
  have hq := prL_nz L (fun x hx => by have := (hm x).mp hx; omega)
  have e2 : ((v ^ N - 1) * prL L) % 1000003 = 0 := by
    rw [Int.sub_mul, Int.sub_emod, ← e1, Int.one_mul, Int.sub_self]; rfl
  have e3 : (v ^ N - 1) % 1000003 = 0 := Classical.byContradiction (fun w => nz_mul w hq e2)
  omega
