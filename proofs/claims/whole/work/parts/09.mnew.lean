theorem k_outer (c : ClassId) (N h0 : Nat) : ∀ i : Nat, Jvm.Free.Multi.outerC c N h0 i = arrV c N (fun j => va_rf (if j < i then some (h0 + 1 + j) else none))
  | 0 => by
    show ({ cls := c, slots := Array.replicate N .null, vm := .none } : Cell) = _
    rw [arrV_new]
    refine congrArg (arrV c N) (funext fun j => ?_)
    simp [va_rf]
  | i + 1 => by
    show (Jvm.Free.Multi.outerC c N h0 i).setSlot i (.ref (h0 + 1 + i)) = _
    rw [k_outer c N h0 i, arrV_store]
    refine congrArg (arrV c N) (funext fun j => ?_)
    by_cases e : j = i
    · subst e
      simp [updV, va_rf]
    · by_cases h : j < i
      · simp [updV, e, h, Nat.lt_succ_of_lt h]
      · simp [updV, e, h, show ¬ j < i + 1 by omega]
section KN
variable {G : KG} {M M2 : KM} {d bc bs pc idx : Nat} {ls : List (Option AV)} {st : List AV} {S : KSt} {Q : Option AV → KSt → Prop} {a b x : Int}
/-- rows of numbers, all made at once -/
abbrev kRows (S : KSt) (n k : Nat) : KSt := ((S.1.1 + 1 + n, fun u => if u = (S.1.1 : Int) then (5, n) else if (S.1.1 : Int) < u ∧ u ≤ (S.1.1 : Int) + n then (2, k) else S.1.2.1 u, fun u v => if u = (S.1.1 : Int) then (if 0 ≤ v ∧ v < n then (S.1.1 : Int) + 1 + v else -1) else S.1.2.2 u v), fun u v => if (S.1.1 : Int) ≤ u ∧ u ≤ (S.1.1 : Int) + n then 0 else S.2 u v)
theorem kw_mnew {n k : Nat} (hd : decode M.2.1 pc = .ok (.multianewarray idx 2, 4)) (hw : Cond.classLink M.1 idx ("[" ++ (FieldType.array .long).toString) ∈ KW) (hw2 : Cond.arrayClass .long ∈ KW) (hn : n < 65536) (hk : k < 65536) (k1 : kWP G M d bc bs (pc + 4) ls (kA (S.1.1 : Int) :: st) (kRows S n k) Q) : kWP G M d (bc + (1 + n)) (bs + (n + n * k)) (pc) ls (kI (k : Int) :: kI (n : Int) :: st) S Q := by
  intro p l e R s m args below meth c H locs cells slots LS Z C hl hf
  have hts := C.1.2.2.2.2
  have hrm := C.2.2.1
  have tI : ∀ n : Nat, n < 65536 → (Int32.ofInt (n : Int)).toInt = n := fun n hn => k32_t (by unfold k32; omega)
  have cl : ∀ n : Nat, n < 65536 → (Int32.ofInt (n : Int)).toNatClampNeg = n := fun n hn => by show (Int32.ofInt (n : Int)).toInt.toNat = _; rw [tI n hn]; omega
  have nn : ∀ n : Nat, n < 65536 → ¬ Int32.ofInt (n : Int) < 0 := fun n hn q => by rw [Int32.lt_iff_toInt_lt, tI n hn] at q; exact absurd q (by simp)
  have e8 := kref_nat G S.1.1
  intro T hT X
  obtain ⟨vm1, cA, comp, -, fA, fC, hO, -, X', step⟩ := X.multianewarray2F C.1.1 C.1.2.2.2.1 (hts _ hw) (ty := .long) (over_moved (Vm.Alike.refl _) C.2.2.2.2.2.2.2.2.1) (hts _ hw2) (g := F0 m pc LS (.int (Int32.ofInt (k : Int)) :: .int (Int32.ofInt (n : Int)) :: st.map (kv G))) rfl (by rw [C.1.2.1]; exact hd) rfl (nn n hn) (nn k hk) (by rw [cl n hn]; omega) (by rw [cl k hk]; exact Nat.le_trans (Nat.mul_le_mul (Nat.le_of_lt hk) (by decide : componentBytes .long ≤ 8)) (by decide)) (by rw [cl k hk]; omega) rfl rfl (by rw [cl n hn]; omega) (by rw [cl n hn, cl k hk]; omega)
  rw [cl n hn, cl k hk] at X' step
  have hcA : cA = kdA G 5 := by
    have h8 : s.vm.findClass ("[" ++ (FieldType.array .long).toString) = some (kdA G 5) := (C.2.2.2.2.2.1.2 4 _ rfl).2
    exact Option.some.inj (fA.symm.trans h8)
  have hcC : comp = kdA G 2 := by
    have h8 : s.vm.findClass ("[" ++ (FieldType.long).toString) = some (kdA G 2) := (C.2.2.2.2.2.1.2 1 _ rfl).2
    exact Option.some.inj (fC.symm.trans h8)
  subst hcA hcC
  have hTh : (T.setVm vm1).heap = H := hT
  obtain ⟨f1, f2, -, -⟩ := Jvm.Free.Multi.fill_facts (T.setVm vm1) (kdA G 5) (kdA G 2) n k (defaultValue .long) n
  have fold := fun (q : Nat) (hq : q < H.size) => Jvm.Free.Multi.fill_old (T.setVm vm1) (kdA G 5) (kdA G 2) n k (defaultValue .long) (a := q) (by rw [hTh]; exact hq) n
  have frow := fun (j : Nat) (hj : j < n) => Jvm.Free.Multi.fill_inner (T.setVm vm1) (kdA G 5) (kdA G 2) n k (defaultValue .long) n j hj
  generalize hF : Jvm.Free.Multi.fill (T.setVm vm1) (kdA G 5) (kdA G 2) n k (defaultValue .long) n = F at X' step f1 f2 fold frow
  rw [hTh] at f1 f2 fold frow
  have hsz := C.2.2.2.1.2.1
  have z1 : F.heap.size = kb0 G + (S.1.1 + 1 + n) := by rw [f1]; omega
  have hcellO : ∀ i : Nat, i < S.1.1 → kcell G (kRows S n k) i = kcell G S i := fun i hi => kcell_congr (by show (if _ then _ else _) = _; rw [if_neg (by omega), if_neg (by omega)]) (fun _ => if_neg (by omega)) (fun _ => if_neg (by omega))
  have hH : kHeap G (kRows S n k) F.heap := by
    refine ⟨fun q x hx => ?_, z1, fun u hu => ?_⟩
    · obtain ⟨hq, rfl⟩ := kws_lt hx
      have hq9 : q < S.1.1 + 1 + n := hq
      by_cases h1 : q < S.1.1
      · rw [hcellO q h1]
        exact (C.2.2.2.1.1 q _ (kws_get h1)).kept (fold _ (by show kb0 G + q < H.size; omega))
      · by_cases h2 : q = S.1.1
        · subst h2
          rw [kcell_5 (n := n) (if_pos rfl)]
          show F.heap[kb0 G + S.1.1]? = some (arrV _ _ (fun j => va_rf (krf G (if (S.1.1 : Int) = (S.1.1 : Int) then (if 0 ≤ (j : Int) ∧ (j : Int) < n then (S.1.1 : Int) + 1 + j else -1) else S.1.2.2 (S.1.1 : Int) j))))
          rw [← hsz, f2, k_outer]
          refine congrArg some (kcell_ext fun j hj => ?_)
          rw [if_pos rfl, if_pos hj, if_pos (⟨by omega, by omega⟩ : 0 ≤ (j : Int) ∧ (j : Int) < n)]
          unfold krf
          rw [if_pos (by omega)]
          have e7 : ((S.1.1 : Int) + 1 + j).toNat = S.1.1 + 1 + j := by omega
          rw [e7, hsz]
          congr 2
          omega
        · obtain ⟨j, rfl⟩ : ∃ j, q = S.1.1 + 1 + j := ⟨q - (S.1.1 + 1), by omega⟩
          have hsh : (kRows S n k).1.2.1 ((S.1.1 + 1 + j : Nat) : Int) = (2, k) := by
            show (if _ then _ else _) = _
            rw [if_neg (by omega), if_pos ⟨by omega, by omega⟩]
          rw [kcell_2 hsh]
          have hr := frow j (by omega)
          rw [hsz] at hr
          show F.heap[kb0 G + (S.1.1 + 1 + j)]? = some (arrV _ _ (fun x => Value.long (Int64.ofInt ((kRows S n k).2 ((S.1.1 + 1 + j : Nat) : Int) x))))
          rw [show kb0 G + (S.1.1 + 1 + j) = kb0 G + S.1.1 + 1 + j by omega, hr]
          have e6 : Jvm.Free.Multi.innerC (kdA G 2) k (defaultValue .long) = arrV (kdA G 2) k (fun _ => .long 0) := arrV_new _ _ _
          rw [e6]
          refine congrArg some (kcell_ext fun x _ => ?_)
          have e5 : (kRows S n k).2 ((S.1.1 + 1 + j : Nat) : Int) x = 0 := if_pos ⟨by omega, by omega⟩
          rw [e5]
          rfl
    · have hu9 : ((if u = (S.1.1 : Int) then (5, n) else if (S.1.1 : Int) < u ∧ u ≤ (S.1.1 : Int) + n then (2, k) else S.1.2.1 u) : Nat × Nat).1 ≠ 0 := hu
      show 0 ≤ u ∧ u < ((S.1.1 + 1 + n : Nat) : Int)
      split at hu9
      · omega
      · split at hu9
        · omega
        · have := C.2.2.2.1.2.2 u hu9
          omega
  obtain ⟨t, a1, b1⟩ := k1 p l e R s m args below meth c F.heap locs (cells + 1 + n) (slots + n + n * k) LS Z ⟨C.1, C.2.1, ⟨hrm.1, hrm.2.1, by omega, by omega⟩, hH, ⟨Nat.le_trans C.2.2.2.2.1.1 (by omega), fun q h1 h2 => (fold q (Nat.lt_of_lt_of_le h1 C.2.2.2.2.1.1)).trans (C.2.2.2.2.1.2.1 q h1 h2), C.2.2.2.2.1.2.2⟩, C.2.2.2.2.2⟩ hl hf F rfl X'
  refine ⟨t, step t ?_, b1⟩
  have e4 : T.heap.size = kb0 G + S.1.1 := by rw [hT, hsz]
  rw [e4, ← e8]
  exact a1
end KN
