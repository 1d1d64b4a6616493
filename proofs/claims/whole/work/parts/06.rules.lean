
def k32 (z : Int) : Prop := -2147483648 ≤ z ∧ z < 2147483648
def k64 (z : Int) : Prop := -9223372036854775808 ≤ z ∧ z < 9223372036854775808
theorem k32_t {z : Int} (h : k32 z) : (Int32.ofInt z).toInt = z := Int32.toInt_ofInt_of_le (by unfold k32 at h; omega) (by unfold k32 at h; omega)
theorem k64_t {z : Int} (h : k64 z) : (Int64.ofInt z).toInt = z := Int64.toInt_ofInt_of_le (by unfold k64 at h; omega) (by unfold k64 at h; omega)
theorem k32_eq {a b : Int} (ha : k32 a) (hb : k32 b) : Int32.ofInt a = Int32.ofInt b ↔ a = b := by rw [← Int32.toInt_inj, k32_t ha, k32_t hb]
theorem k32_lt {a b : Int} (ha : k32 a) (hb : k32 b) : Int32.ofInt a < Int32.ofInt b ↔ a < b := by rw [Int32.lt_iff_toInt_lt, k32_t ha, k32_t hb]
theorem k32_le {a b : Int} (ha : k32 a) (hb : k32 b) : Int32.ofInt a ≤ Int32.ofInt b ↔ a ≤ b := by rw [Int32.le_iff_toInt_le, k32_t ha, k32_t hb]
theorem k64_eq {a b : Int} (ha : k64 a) (hb : k64 b) : Int64.ofInt a = Int64.ofInt b ↔ a = b := by rw [← Int64.toInt_inj, k64_t ha, k64_t hb]
theorem k64_lt {a b : Int} (ha : k64 a) (hb : k64 b) : Int64.ofInt a < Int64.ofInt b ↔ a < b := by rw [Int64.lt_iff_toInt_lt, k64_t ha, k64_t hb]
theorem k64_le {a b : Int} (ha : k64 a) (hb : k64 b) : Int64.ofInt a ≤ Int64.ofInt b ↔ a ≤ b := by rw [Int64.le_iff_toInt_le, k64_t ha, k64_t hb]
theorem k32_0 : k32 0 := by unfold k32; omega
theorem k64_0 : k64 0 := by unfold k64; omega
/-- wrapped to 32, 64 bits -/
def kw32 (z : Int) : Int := (Int32.ofInt z).toInt
def kw64 (z : Int) : Int := (Int64.ofInt z).toInt
theorem kw32_id {z : Int} (h : k32 z) : kw32 z = z := k32_t h
theorem kw64_id {z : Int} (h : k64 z) : kw64 z = z := k64_t h
theorem kw32_of (z : Int) : Int32.ofInt (kw32 z) = Int32.ofInt z := Int32.ofInt_toInt _
theorem kw64_of (z : Int) : Int64.ofInt (kw64 z) = Int64.ofInt z := Int64.ofInt_toInt _
def kand (a b : Int) : Int := (Int32.ofInt a &&& Int32.ofInt b).toInt
def kor (a b : Int) : Int := (Int32.ofInt a ||| Int32.ofInt b).toInt
def kxor (a b : Int) : Int := (Int32.ofInt a ^^^ Int32.ofInt b).toInt
def kshl (a b : Int) : Int := (Int32.ofInt a <<< (Int32.ofInt b &&& 31)).toInt
def kshr (a b : Int) : Int := (Int32.ofInt a >>> (Int32.ofInt b &&& 31)).toInt
def kushr (a b : Int) : Int := ((Int32.ofInt a).toUInt32 >>> ((Int32.ofInt b).toUInt32 &&& Int32.toUInt32 31)).toInt32.toInt
def ki2b (a : Int) : Int := ((Int32.ofInt a).toInt8.toInt32).toInt
def kb1 (a : Int) : Int := ((Int32.ofInt a) &&& 1).toInt
def klxor (a b : Int) : Int := (Int64.ofInt a ^^^ Int64.ofInt b).toInt
section KR
variable {G : KG} {M : KM} {d bc bs pc : Nat} {ls : List (Option AV)} {st : List AV} {S : KSt} {Q : Option AV → KSt → Prop} {a b : Int}

theorem kw_iconst {n : Int} (hd : decode M.2.1 pc = .ok (.iconst n, 1)) (k : kWP G M d bc bs (pc + 1) ls (kI n :: st) S Q) : kWP G M d bc bs (pc) ls (st) S Q := by
  intro p l e R s m args below meth c H locs cells slots LS Z C hl hf
  exact lv_iconst C.1.1 C.1.2.1 hd rfl (k p l e R s m args below meth c H locs cells slots LS Z C hl hf)
theorem kw_bipush {n : Int} (hd : decode M.2.1 pc = .ok (.bipush n, 2)) (hn : (Int8.ofInt n).toInt32 = Int32.ofInt n) (k : kWP G M d bc bs (pc + 2) ls (kI n :: st) S Q) : kWP G M d bc bs (pc) ls (st) S Q := by
  intro p l e R s m args below meth c H locs cells slots LS Z C hl hf
  exact lv_bipush C.1.1 C.1.2.1 hd hn (k p l e R s m args below meth c H locs cells slots LS Z C hl hf)
theorem kw_sipush {n : Int} (hd : decode M.2.1 pc = .ok (.sipush n, 3)) (hn : (Int16.ofInt n).toInt32 = Int32.ofInt n) (k : kWP G M d bc bs (pc + 3) ls (kI n :: st) S Q) : kWP G M d bc bs (pc) ls (st) S Q := by
  intro p l e R s m args below meth c H locs cells slots LS Z C hl hf
  exact lv_sipush C.1.1 C.1.2.1 hd hn (k p l e R s m args below meth c H locs cells slots LS Z C hl hf)
theorem kw_lconst0  (hd : decode M.2.1 pc = .ok (.lconst 0, 1)) (k : kWP G M d bc bs (pc + 1) ls (kL 0 :: st) S Q) : kWP G M d bc bs (pc) ls (st) S Q := by
  intro p l e R s m args below meth c H locs cells slots LS Z C hl hf
  exact lv_lconst C.1.1 C.1.2.1 hd rfl (k p l e R s m args below meth c H locs cells slots LS Z C hl hf)
theorem kw_lconst1  (hd : decode M.2.1 pc = .ok (.lconst 1, 1)) (k : kWP G M d bc bs (pc + 1) ls (kL 1 :: st) S Q) : kWP G M d bc bs (pc) ls (st) S Q := by
  intro p l e R s m args below meth c H locs cells slots LS Z C hl hf
  exact lv_lconst C.1.1 C.1.2.1 hd rfl (k p l e R s m args below meth c H locs cells slots LS Z C hl hf)
theorem kw_ldc {i : Nat} {n : Int} (hd : decode M.2.1 pc = .ok (.ldc i, 2)) (hw : Cond.constant M.1 i (Int32.ofInt n) ∈ KW) (k : kWP G M d bc bs (pc + 2) ls (kI n :: st) S Q) : kWP G M d bc bs (pc) ls (st) S Q := by
  intro p l e R s m args below meth c H locs cells slots LS Z C hl hf
  exact lv_ldc C.1.1 C.1.2.1 C.1.2.2.2.1 (C.1.2.2.2.2 _ hw) hd (k p l e R s m args below meth c H locs cells slots LS Z C hl hf)
theorem kw_ldcw {i : Nat} {n : Int} (hd : decode M.2.1 pc = .ok (.ldc_w i, 3)) (hw : Cond.constant M.1 i (Int32.ofInt n) ∈ KW) (k : kWP G M d bc bs (pc + 3) ls (kI n :: st) S Q) : kWP G M d bc bs (pc) ls (st) S Q := by
  intro p l e R s m args below meth c H locs cells slots LS Z C hl hf
  exact lv_ldcw C.1.1 C.1.2.1 C.1.2.2.2.1 (C.1.2.2.2.2 _ hw) hd (k p l e R s m args below meth c H locs cells slots LS Z C hl hf)
theorem kw_ldc2 {i : Nat} {n : Int} (hd : decode M.2.1 pc = .ok (.ldc2_w i, 3)) (hw : Cond.constantLong M.1 i (Int64.ofInt n) ∈ KW) (k : kWP G M d bc bs (pc + 3) ls (kL n :: st) S Q) : kWP G M d bc bs (pc) ls (st) S Q := by
  intro p l e R s m args below meth c H locs cells slots LS Z C hl hf
  exact lv_ldc2 C.1.1 C.1.2.1 C.1.2.2.2.1 (C.1.2.2.2.2 _ hw) hd (k p l e R s m args below meth c H locs cells slots LS Z C hl hf)
theorem kw_iload_n {n : Fin 4} (hd : decode M.2.1 pc = .ok (.iload_n n, 1)) (hi : ls[(n : Nat)]? = some (some (kI a))) (k : kWP G M d bc bs (pc + 1) ls (kI a :: st) S Q) : kWP G M d bc bs (pc) ls (st) S Q := by
  intro p l e R s m args below meth c H locs cells slots LS Z C hl hf
  exact lv_iload_n C.1.1 C.1.2.1 hd rfl (kls_at hl hi) (k p l e R s m args below meth c H locs cells slots LS Z C hl hf)
theorem kw_iload {n : Nat} (hd : decode M.2.1 pc = .ok (.iload n, 2)) (hi : ls[n]? = some (some (kI a))) (k : kWP G M d bc bs (pc + 2) ls (kI a :: st) S Q) : kWP G M d bc bs (pc) ls (st) S Q := by
  intro p l e R s m args below meth c H locs cells slots LS Z C hl hf
  exact lv_iload C.1.1 C.1.2.1 hd (kls_at hl hi) (k p l e R s m args below meth c H locs cells slots LS Z C hl hf)
theorem kw_lload_n {n : Fin 4} (hd : decode M.2.1 pc = .ok (.lload_n n, 1)) (hi : ls[(n : Nat)]? = some (some (kL a))) (k : kWP G M d bc bs (pc + 1) ls (kL a :: st) S Q) : kWP G M d bc bs (pc) ls (st) S Q := by
  intro p l e R s m args below meth c H locs cells slots LS Z C hl hf
  exact lv_lload_n C.1.1 C.1.2.1 hd rfl (kls_at hl hi) (k p l e R s m args below meth c H locs cells slots LS Z C hl hf)
theorem kw_lload {n : Nat} (hd : decode M.2.1 pc = .ok (.lload n, 2)) (hi : ls[n]? = some (some (kL a))) (k : kWP G M d bc bs (pc + 2) ls (kL a :: st) S Q) : kWP G M d bc bs (pc) ls (st) S Q := by
  intro p l e R s m args below meth c H locs cells slots LS Z C hl hf
  exact lv_lload C.1.1 C.1.2.1 hd (kls_at hl hi) (k p l e R s m args below meth c H locs cells slots LS Z C hl hf)
theorem kref_cases (G : KG) (z : Int) : (∃ x : Nat, kref G z = .ref x) ∨ kref G z = .null := by
  unfold kref
  repeat' split
  all_goals first | exact Or.inl ⟨_, rfl⟩ | exact Or.inr rfl
theorem kw_aload_n {n : Fin 4} (hd : decode M.2.1 pc = .ok (.aload_n n, 1)) (hi : ls[(n : Nat)]? = some (some (kA a))) (k : kWP G M d bc bs (pc + 1) ls (kA a :: st) S Q) : kWP G M d bc bs (pc) ls (st) S Q := by
  intro p l e R s m args below meth c H locs cells slots LS Z C hl hf
  have h1 := k p l e R s m args below meth c H locs cells slots LS Z C hl hf
  have h2 := kls_at hl hi
  change W _ _ _ _ _ _ _ _ _ _ _ _ _ _ _ (F0 m (pc + 1) LS (kref G a :: st.map (kv G))) at h1
  change _ = some (Slot.val (kref G a)) at h2
  rcases kref_cases G a with ⟨x, e⟩ | e
  · rw [e] at h1 h2
    exact lv_aload_n C.1.1 C.1.2.1 hd rfl h2 h1
  · rw [e] at h1 h2
    exact lv_aload_nN C.1.1 C.1.2.1 hd rfl h2 h1
theorem kw_aload {n : Nat} (hd : decode M.2.1 pc = .ok (.aload n, 2)) (hi : ls[n]? = some (some (kA a))) (k : kWP G M d bc bs (pc + 2) ls (kA a :: st) S Q) : kWP G M d bc bs (pc) ls (st) S Q := by
  intro p l e R s m args below meth c H locs cells slots LS Z C hl hf
  have h1 := k p l e R s m args below meth c H locs cells slots LS Z C hl hf
  have h2 := kls_at hl hi
  change W _ _ _ _ _ _ _ _ _ _ _ _ _ _ _ (F0 m (pc + 2) LS (kref G a :: st.map (kv G))) at h1
  change _ = some (Slot.val (kref G a)) at h2
  rcases kref_cases G a with ⟨x, e⟩ | e
  · rw [e] at h1 h2
    exact lv_aload C.1.1 C.1.2.1 hd h2 h1
  · rw [e] at h1 h2
    exact lv_aloadN C.1.1 C.1.2.1 hd h2 h1
theorem kw_istore_n {n : Fin 4} (hd : decode M.2.1 pc = .ok (.istore_n n, 1)) (hi : (n : Nat) < ls.length) (k : kWP G M d bc bs (pc + 1) (kst (kI a) (n : Nat) ls) (st) S Q) : kWP G M d bc bs (pc) ls (kI a :: st) S Q := by
  intro p l e R s m args below meth c H locs cells slots LS Z C hl hf
  exact lv_istore_n C.1.1 C.1.2.1 hd rfl hl.2 (by rw [← hl.1]; exact hi) rfl (fun LS' hl' => k p l e R s m args below meth c H locs cells slots LS' Z C (kls_st (v := kI a) hl.1 hl') hf)
theorem kw_istore {n : Nat} (hd : decode M.2.1 pc = .ok (.istore n, 2)) (hi : n < ls.length) (k : kWP G M d bc bs (pc + 2) (kst (kI a) n ls) (st) S Q) : kWP G M d bc bs (pc) ls (kI a :: st) S Q := by
  intro p l e R s m args below meth c H locs cells slots LS Z C hl hf
  exact lv_istore C.1.1 C.1.2.1 hd hl.2 (by rw [← hl.1]; exact hi) rfl (fun LS' hl' => k p l e R s m args below meth c H locs cells slots LS' Z C (kls_st (v := kI a) hl.1 hl') hf)
theorem kw_lstore_n {n : Fin 4} (hd : decode M.2.1 pc = .ok (.lstore_n n, 1)) (hi : (n : Nat) + 1 < ls.length) (k : kWP G M d bc bs (pc + 1) (kst2 (kL a) (n : Nat) ls) (st) S Q) : kWP G M d bc bs (pc) ls (kL a :: st) S Q := by
  intro p l e R s m args below meth c H locs cells slots LS Z C hl hf
  exact lv_lstore_n C.1.1 C.1.2.1 hd rfl hl.2 (by rw [← hl.1]; exact hi) rfl (fun LS' hl' => k p l e R s m args below meth c H locs cells slots LS' Z C (kls_st2 (v := kL a) hl.1 hl') hf)
theorem kw_lstore {n : Nat} (hd : decode M.2.1 pc = .ok (.lstore n, 2)) (hi : n + 1 < ls.length) (k : kWP G M d bc bs (pc + 2) (kst2 (kL a) n ls) (st) S Q) : kWP G M d bc bs (pc) ls (kL a :: st) S Q := by
  intro p l e R s m args below meth c H locs cells slots LS Z C hl hf
  exact lv_lstore C.1.1 C.1.2.1 hd hl.2 (by rw [← hl.1]; exact hi) rfl (fun LS' hl' => k p l e R s m args below meth c H locs cells slots LS' Z C (kls_st2 (v := kL a) hl.1 hl') hf)
theorem kw_astore_n {n : Fin 4} (hd : decode M.2.1 pc = .ok (.astore_n n, 1)) (hi : (n : Nat) < ls.length) (k : kWP G M d bc bs (pc + 1) (kst (kA a) (n : Nat) ls) (st) S Q) : kWP G M d bc bs (pc) ls (kA a :: st) S Q := by
  intro p l e R s m args below meth c H locs cells slots LS Z C hl hf
  have h0 : ∀ LS' : Array Slot, lv_has LS' M.2.2.1 (((n : Nat), kref G a) :: (kal G 0 ls).filter (fun q => !(q.1 == (n : Nat)) && !(q.1 + 1 == (n : Nat) && q.2.category == 2))) → W p l e R s m args below meth c H locs cells slots Z (F0 m (pc + 1) LS' (st.map (kv G))) := fun LS' hl' => k p l e R s m args below meth c H locs cells slots LS' Z C (kls_st (v := kA a) hl.1 hl') hf
  show W _ _ _ _ _ _ _ _ _ _ _ _ _ _ _ (F0 m pc LS (kref G a :: st.map (kv G)))
  rcases kref_cases G a with ⟨x, e⟩ | e
  · rw [e] at h0 ⊢
    exact lv_astore_n C.1.1 C.1.2.1 hd rfl hl.2 (by rw [← hl.1]; exact hi) rfl h0
  · rw [e] at h0 ⊢
    exact lv_astore_nN C.1.1 C.1.2.1 hd rfl hl.2 (by rw [← hl.1]; exact hi) rfl h0
theorem kw_astore {n : Nat} (hd : decode M.2.1 pc = .ok (.astore n, 2)) (hi : n < ls.length) (k : kWP G M d bc bs (pc + 2) (kst (kA a) n ls) (st) S Q) : kWP G M d bc bs (pc) ls (kA a :: st) S Q := by
  intro p l e R s m args below meth c H locs cells slots LS Z C hl hf
  have h0 : ∀ LS' : Array Slot, lv_has LS' M.2.2.1 ((n, kref G a) :: (kal G 0 ls).filter (fun q => !(q.1 == n) && !(q.1 + 1 == n && q.2.category == 2))) → W p l e R s m args below meth c H locs cells slots Z (F0 m (pc + 2) LS' (st.map (kv G))) := fun LS' hl' => k p l e R s m args below meth c H locs cells slots LS' Z C (kls_st (v := kA a) hl.1 hl') hf
  show W _ _ _ _ _ _ _ _ _ _ _ _ _ _ _ (F0 m pc LS (kref G a :: st.map (kv G)))
  rcases kref_cases G a with ⟨x, e⟩ | e
  · rw [e] at h0 ⊢
    exact lv_astore C.1.1 C.1.2.1 hd hl.2 (by rw [← hl.1]; exact hi) rfl h0
  · rw [e] at h0 ⊢
    exact lv_astoreN C.1.1 C.1.2.1 hd hl.2 (by rw [← hl.1]; exact hi) rfl h0
theorem kw_iinc {n : Nat} {z : Int} (hd : decode M.2.1 pc = .ok (.iinc n z, 3)) (hi : ls[n]? = some (some (kI a))) (k : kWP G M d bc bs (pc + 3) (kst (kI (a + z)) n ls) (st) S Q) : kWP G M d bc bs (pc) ls (st) S Q := by
  intro p l e R s m args below meth c H locs cells slots LS Z C hl hf
  obtain ⟨j, hj⟩ := List.getElem?_of_mem ((kal_mem G ls 0 n _).mpr ⟨n, kI a, (Nat.zero_add n).symm, hi, rfl⟩)
  exact lv_iinc (k := j) (v := Int32.ofInt (a + z)) C.1.1 C.1.2.1 hd hl.2 hj (Int32.ofInt_add a z).symm (by rw [← hl.1]; exact (List.getElem?_eq_some_iff.mp hi).1) rfl (fun LS' hl' => k p l e R s m args below meth c H locs cells slots LS' Z C (kls_st (v := kI (a + z)) hl.1 hl') hf)
theorem kw_iadd (hd : decode M.2.1 pc = .ok (.iadd, 1)) (k : kWP G M d bc bs (pc + 1) ls (kI (a + b) :: st) S Q) : kWP G M d bc bs (pc) ls (kI b :: kI a :: st) S Q := by
  intro p l e R s m args below meth c H locs cells slots LS Z C hl hf
  refine lv_iadd C.1.1 C.1.2.1 hd ?_
  have h := k p l e R s m args below meth c H locs cells slots LS Z C hl hf
  change W _ _ _ _ _ _ _ _ _ _ _ _ _ _ _ (F0 m (pc + 1) LS (_ :: st.map (kv G))) at h
  rw [show kv G (kI (a + b)) = Value.int (Int32.ofInt a + Int32.ofInt b) from congrArg Value.int (Int32.ofInt_add a b)] at h
  exact h
theorem kw_isub (hd : decode M.2.1 pc = .ok (.isub, 1)) (k : kWP G M d bc bs (pc + 1) ls (kI (a - b) :: st) S Q) : kWP G M d bc bs (pc) ls (kI b :: kI a :: st) S Q := by
  intro p l e R s m args below meth c H locs cells slots LS Z C hl hf
  refine lv_isub C.1.1 C.1.2.1 hd ?_
  have h := k p l e R s m args below meth c H locs cells slots LS Z C hl hf
  change W _ _ _ _ _ _ _ _ _ _ _ _ _ _ _ (F0 m (pc + 1) LS (_ :: st.map (kv G))) at h
  rw [show kv G (kI (a - b)) = Value.int (Int32.ofInt a - Int32.ofInt b) from congrArg Value.int (Int32.ofInt_sub a b)] at h
  exact h
theorem kw_imul (hd : decode M.2.1 pc = .ok (.imul, 1)) (k : kWP G M d bc bs (pc + 1) ls (kI (a * b) :: st) S Q) : kWP G M d bc bs (pc) ls (kI b :: kI a :: st) S Q := by
  intro p l e R s m args below meth c H locs cells slots LS Z C hl hf
  refine lv_imul C.1.1 C.1.2.1 hd ?_
  have h := k p l e R s m args below meth c H locs cells slots LS Z C hl hf
  change W _ _ _ _ _ _ _ _ _ _ _ _ _ _ _ (F0 m (pc + 1) LS (_ :: st.map (kv G))) at h
  rw [show kv G (kI (a * b)) = Value.int (Int32.ofInt a * Int32.ofInt b) from congrArg Value.int (Int32.ofInt_mul a b)] at h
  exact h
theorem kw_ladd (hd : decode M.2.1 pc = .ok (.ladd, 1)) (k : kWP G M d bc bs (pc + 1) ls (kL (a + b) :: st) S Q) : kWP G M d bc bs (pc) ls (kL b :: kL a :: st) S Q := by
  intro p l e R s m args below meth c H locs cells slots LS Z C hl hf
  refine lv_ladd C.1.1 C.1.2.1 hd ?_
  have h := k p l e R s m args below meth c H locs cells slots LS Z C hl hf
  change W _ _ _ _ _ _ _ _ _ _ _ _ _ _ _ (F0 m (pc + 1) LS (_ :: st.map (kv G))) at h
  rw [show kv G (kL (a + b)) = Value.long (Int64.ofInt a + Int64.ofInt b) from congrArg Value.long (Int64.ofInt_add a b)] at h
  exact h
theorem kw_lsub (hd : decode M.2.1 pc = .ok (.lsub, 1)) (k : kWP G M d bc bs (pc + 1) ls (kL (a - b) :: st) S Q) : kWP G M d bc bs (pc) ls (kL b :: kL a :: st) S Q := by
  intro p l e R s m args below meth c H locs cells slots LS Z C hl hf
  refine lv_lsub C.1.1 C.1.2.1 hd ?_
  have h := k p l e R s m args below meth c H locs cells slots LS Z C hl hf
  change W _ _ _ _ _ _ _ _ _ _ _ _ _ _ _ (F0 m (pc + 1) LS (_ :: st.map (kv G))) at h
  rw [show kv G (kL (a - b)) = Value.long (Int64.ofInt a - Int64.ofInt b) from congrArg Value.long (Int64.ofInt_sub a b)] at h
  exact h
theorem kw_lmul (hd : decode M.2.1 pc = .ok (.lmul, 1)) (k : kWP G M d bc bs (pc + 1) ls (kL (a * b) :: st) S Q) : kWP G M d bc bs (pc) ls (kL b :: kL a :: st) S Q := by
  intro p l e R s m args below meth c H locs cells slots LS Z C hl hf
  refine lv_lmul C.1.1 C.1.2.1 hd ?_
  have h := k p l e R s m args below meth c H locs cells slots LS Z C hl hf
  change W _ _ _ _ _ _ _ _ _ _ _ _ _ _ _ (F0 m (pc + 1) LS (_ :: st.map (kv G))) at h
  rw [show kv G (kL (a * b)) = Value.long (Int64.ofInt a * Int64.ofInt b) from congrArg Value.long (Int64.ofInt_mul a b)] at h
  exact h
theorem kw_iand (hd : decode M.2.1 pc = .ok (.iand, 1)) (k : kWP G M d bc bs (pc + 1) ls (kI (kand a b) :: st) S Q) : kWP G M d bc bs (pc) ls (kI b :: kI a :: st) S Q := by
  intro p l e R s m args below meth c H locs cells slots LS Z C hl hf
  refine lv_iand C.1.1 C.1.2.1 hd ?_
  have h := k p l e R s m args below meth c H locs cells slots LS Z C hl hf
  change W _ _ _ _ _ _ _ _ _ _ _ _ _ _ _ (F0 m (pc + 1) LS (_ :: st.map (kv G))) at h
  rw [show kv G (kI (kand a b)) = Value.int (Int32.ofInt a &&& Int32.ofInt b) from congrArg Value.int ((Int32.ofInt_toInt _ : Int32.ofInt (Int32.ofInt a &&& Int32.ofInt b).toInt = Int32.ofInt a &&& Int32.ofInt b))] at h
  exact h
theorem kw_ior (hd : decode M.2.1 pc = .ok (.ior, 1)) (k : kWP G M d bc bs (pc + 1) ls (kI (kor a b) :: st) S Q) : kWP G M d bc bs (pc) ls (kI b :: kI a :: st) S Q := by
  intro p l e R s m args below meth c H locs cells slots LS Z C hl hf
  refine lv_ior C.1.1 C.1.2.1 hd ?_
  have h := k p l e R s m args below meth c H locs cells slots LS Z C hl hf
  change W _ _ _ _ _ _ _ _ _ _ _ _ _ _ _ (F0 m (pc + 1) LS (_ :: st.map (kv G))) at h
  rw [show kv G (kI (kor a b)) = Value.int (Int32.ofInt a ||| Int32.ofInt b) from congrArg Value.int ((Int32.ofInt_toInt _ : Int32.ofInt (Int32.ofInt a ||| Int32.ofInt b).toInt = Int32.ofInt a ||| Int32.ofInt b))] at h
  exact h
theorem kw_ixor (hd : decode M.2.1 pc = .ok (.ixor, 1)) (k : kWP G M d bc bs (pc + 1) ls (kI (kxor a b) :: st) S Q) : kWP G M d bc bs (pc) ls (kI b :: kI a :: st) S Q := by
  intro p l e R s m args below meth c H locs cells slots LS Z C hl hf
  refine lv_ixor C.1.1 C.1.2.1 hd ?_
  have h := k p l e R s m args below meth c H locs cells slots LS Z C hl hf
  change W _ _ _ _ _ _ _ _ _ _ _ _ _ _ _ (F0 m (pc + 1) LS (_ :: st.map (kv G))) at h
  rw [show kv G (kI (kxor a b)) = Value.int (Int32.ofInt a ^^^ Int32.ofInt b) from congrArg Value.int ((Int32.ofInt_toInt _ : Int32.ofInt (Int32.ofInt a ^^^ Int32.ofInt b).toInt = Int32.ofInt a ^^^ Int32.ofInt b))] at h
  exact h
theorem kw_ishl (hd : decode M.2.1 pc = .ok (.ishl, 1)) (k : kWP G M d bc bs (pc + 1) ls (kI (kshl a b) :: st) S Q) : kWP G M d bc bs (pc) ls (kI b :: kI a :: st) S Q := by
  intro p l e R s m args below meth c H locs cells slots LS Z C hl hf
  refine lv_ishl C.1.1 C.1.2.1 hd ?_
  have h := k p l e R s m args below meth c H locs cells slots LS Z C hl hf
  change W _ _ _ _ _ _ _ _ _ _ _ _ _ _ _ (F0 m (pc + 1) LS (_ :: st.map (kv G))) at h
  rw [show kv G (kI (kshl a b)) = Value.int (Int32.ofInt a <<< (Int32.ofInt b &&& 31)) from congrArg Value.int ((Int32.ofInt_toInt _ : Int32.ofInt (Int32.ofInt a <<< (Int32.ofInt b &&& 31)).toInt = Int32.ofInt a <<< (Int32.ofInt b &&& 31)))] at h
  exact h
theorem kw_ishr (hd : decode M.2.1 pc = .ok (.ishr, 1)) (k : kWP G M d bc bs (pc + 1) ls (kI (kshr a b) :: st) S Q) : kWP G M d bc bs (pc) ls (kI b :: kI a :: st) S Q := by
  intro p l e R s m args below meth c H locs cells slots LS Z C hl hf
  refine lv_ishr C.1.1 C.1.2.1 hd ?_
  have h := k p l e R s m args below meth c H locs cells slots LS Z C hl hf
  change W _ _ _ _ _ _ _ _ _ _ _ _ _ _ _ (F0 m (pc + 1) LS (_ :: st.map (kv G))) at h
  rw [show kv G (kI (kshr a b)) = Value.int (Int32.ofInt a >>> (Int32.ofInt b &&& 31)) from congrArg Value.int ((Int32.ofInt_toInt _ : Int32.ofInt (Int32.ofInt a >>> (Int32.ofInt b &&& 31)).toInt = Int32.ofInt a >>> (Int32.ofInt b &&& 31)))] at h
  exact h
theorem kw_lxor (hd : decode M.2.1 pc = .ok (.lxor, 1)) (k : kWP G M d bc bs (pc + 1) ls (kL (klxor a b) :: st) S Q) : kWP G M d bc bs (pc) ls (kL b :: kL a :: st) S Q := by
  intro p l e R s m args below meth c H locs cells slots LS Z C hl hf
  refine lv_lxor C.1.1 C.1.2.1 hd ?_
  have h := k p l e R s m args below meth c H locs cells slots LS Z C hl hf
  change W _ _ _ _ _ _ _ _ _ _ _ _ _ _ _ (F0 m (pc + 1) LS (_ :: st.map (kv G))) at h
  rw [show kv G (kL (klxor a b)) = Value.long (Int64.ofInt a ^^^ Int64.ofInt b) from congrArg Value.long ((Int64.ofInt_toInt _ : Int64.ofInt (Int64.ofInt a ^^^ Int64.ofInt b).toInt = _))] at h
  exact h
theorem kw_ineg (hd : decode M.2.1 pc = .ok (.ineg, 1)) (k : kWP G M d bc bs (pc + 1) ls (kI (-a) :: st) S Q) : kWP G M d bc bs (pc) ls (kI a :: st) S Q := by
  intro p l e R s m args below meth c H locs cells slots LS Z C hl hf
  refine lv_ineg C.1.1 C.1.2.1 hd ?_
  have h := k p l e R s m args below meth c H locs cells slots LS Z C hl hf
  change W _ _ _ _ _ _ _ _ _ _ _ _ _ _ _ (F0 m (pc + 1) LS (_ :: st.map (kv G))) at h
  rw [show kv G (kI (-a)) = Value.int (-Int32.ofInt a) from congrArg Value.int (Int32.ofInt_neg a)] at h
  exact h
theorem kw_lneg (hd : decode M.2.1 pc = .ok (.lneg, 1)) (k : kWP G M d bc bs (pc + 1) ls (kL (-a) :: st) S Q) : kWP G M d bc bs (pc) ls (kL a :: st) S Q := by
  intro p l e R s m args below meth c H locs cells slots LS Z C hl hf
  refine lv_lneg C.1.1 C.1.2.1 hd ?_
  have h := k p l e R s m args below meth c H locs cells slots LS Z C hl hf
  change W _ _ _ _ _ _ _ _ _ _ _ _ _ _ _ (F0 m (pc + 1) LS (_ :: st.map (kv G))) at h
  rw [show kv G (kL (-a)) = Value.long (-Int64.ofInt a) from congrArg Value.long (Int64.ofInt_neg a)] at h
  exact h
theorem ki_div {a b : Int} (ha : k32 a) (hb : k32 b) : Int32.ofInt (a.tdiv b) = Int32.ofInt a / Int32.ofInt b := Int32.ofInt_tdiv (by unfold k32 at ha; exact ha.1) (by unfold k32 at ha; exact Int.lt_add_one_iff.mp ha.2) (by unfold k32 at hb; exact hb.1) (by unfold k32 at hb; exact Int.lt_add_one_iff.mp hb.2)
theorem ki_ne {b : Int} (hb : k32 b) (h0 : b ≠ 0) : ¬ Int32.ofInt b = 0 := fun q => h0 ((k32_eq hb k32_0).mp q)
theorem kw_idiv (hd : decode M.2.1 pc = .ok (.idiv, 1)) (ha : k32 a) (hb : k32 b) (h0 : b ≠ 0) (k : kWP G M d bc bs (pc + 1) ls (kI (a.tdiv b) :: st) S Q) : kWP G M d bc bs (pc) ls (kI b :: kI a :: st) S Q := by
  intro p l e R s m args below meth c H locs cells slots LS Z C hl hf
  refine lv_idiv C.1.1 C.1.2.1 hd (ki_ne hb h0) ?_
  have h := k p l e R s m args below meth c H locs cells slots LS Z C hl hf
  change W _ _ _ _ _ _ _ _ _ _ _ _ _ _ _ (F0 m (pc + 1) LS (_ :: st.map (kv G))) at h
  rw [show kv G (kI (a.tdiv b)) = Value.int (Int32.ofInt a / Int32.ofInt b) from congrArg Value.int (ki_div ha hb)] at h
  exact h
theorem kw_irem (hd : decode M.2.1 pc = .ok (.irem, 1)) (ha : k32 a) (hb : k32 b) (h0 : b ≠ 0) (k : kWP G M d bc bs (pc + 1) ls (kI (a.tmod b) :: st) S Q) : kWP G M d bc bs (pc) ls (kI b :: kI a :: st) S Q := by
  intro p l e R s m args below meth c H locs cells slots LS Z C hl hf
  refine lv_irem C.1.1 C.1.2.1 hd (ki_ne hb h0) ?_
  have h := k p l e R s m args below meth c H locs cells slots LS Z C hl hf
  change W _ _ _ _ _ _ _ _ _ _ _ _ _ _ _ (F0 m (pc + 1) LS (_ :: st.map (kv G))) at h
  rw [show kv G (kI (a.tmod b)) = Value.int (Int32.ofInt a - Int32.ofInt a / Int32.ofInt b * Int32.ofInt b) from congrArg Value.int ((by rw [Int.tmod_def, Int32.ofInt_sub, Int32.ofInt_mul, ki_div ha hb, Int32.mul_comm] : Int32.ofInt (a.tmod b) = Int32.ofInt a - Int32.ofInt a / Int32.ofInt b * Int32.ofInt b))] at h
  exact h
theorem kl_div {a b : Int} (ha : k64 a) (hb : k64 b) : Int64.ofInt (a.tdiv b) = Int64.ofInt a / Int64.ofInt b := Int64.ofInt_tdiv (by unfold k64 at ha; exact ha.1) (by unfold k64 at ha; exact Int.lt_add_one_iff.mp ha.2) (by unfold k64 at hb; exact hb.1) (by unfold k64 at hb; exact Int.lt_add_one_iff.mp hb.2)
theorem kl_ne {b : Int} (hb : k64 b) (h0 : b ≠ 0) : ¬ Int64.ofInt b = 0 := fun q => h0 ((k64_eq hb k64_0).mp q)
theorem kw_ldiv (hd : decode M.2.1 pc = .ok (.ldiv, 1)) (ha : k64 a) (hb : k64 b) (h0 : b ≠ 0) (k : kWP G M d bc bs (pc + 1) ls (kL (a.tdiv b) :: st) S Q) : kWP G M d bc bs (pc) ls (kL b :: kL a :: st) S Q := by
  intro p l e R s m args below meth c H locs cells slots LS Z C hl hf
  refine lv_ldiv C.1.1 C.1.2.1 hd (kl_ne hb h0) ?_
  have h := k p l e R s m args below meth c H locs cells slots LS Z C hl hf
  change W _ _ _ _ _ _ _ _ _ _ _ _ _ _ _ (F0 m (pc + 1) LS (_ :: st.map (kv G))) at h
  rw [show kv G (kL (a.tdiv b)) = Value.long (Int64.ofInt a / Int64.ofInt b) from congrArg Value.long (kl_div ha hb)] at h
  exact h
theorem kw_lrem (hd : decode M.2.1 pc = .ok (.lrem, 1)) (ha : k64 a) (hb : k64 b) (h0 : b ≠ 0) (k : kWP G M d bc bs (pc + 1) ls (kL (a.tmod b) :: st) S Q) : kWP G M d bc bs (pc) ls (kL b :: kL a :: st) S Q := by
  intro p l e R s m args below meth c H locs cells slots LS Z C hl hf
  refine lv_lrem C.1.1 C.1.2.1 hd (kl_ne hb h0) ?_
  have h := k p l e R s m args below meth c H locs cells slots LS Z C hl hf
  change W _ _ _ _ _ _ _ _ _ _ _ _ _ _ _ (F0 m (pc + 1) LS (_ :: st.map (kv G))) at h
  rw [show kv G (kL (a.tmod b)) = Value.long (Int64.ofInt a - Int64.ofInt a / Int64.ofInt b * Int64.ofInt b) from congrArg Value.long ((by rw [Int.tmod_def, Int64.ofInt_sub, Int64.ofInt_mul, kl_div ha hb, Int64.mul_comm] : Int64.ofInt (a.tmod b) = Int64.ofInt a - Int64.ofInt a / Int64.ofInt b * Int64.ofInt b))] at h
  exact h
theorem kw_i2l (hd : decode M.2.1 pc = .ok (.i2l, 1)) (ha : k32 a) (k : kWP G M d bc bs (pc + 1) ls (kL a :: st) S Q) : kWP G M d bc bs (pc) ls (kI a :: st) S Q := by
  intro p l e R s m args below meth c H locs cells slots LS Z C hl hf
  exact lv_i2l C.1.1 C.1.2.1 hd (by rw [← Int64.ofInt_int32ToInt, k32_t ha]) (k p l e R s m args below meth c H locs cells slots LS Z C hl hf)
theorem kw_l2i (hd : decode M.2.1 pc = .ok (.l2i, 1)) (k : kWP G M d bc bs (pc + 1) ls (kI a :: st) S Q) : kWP G M d bc bs (pc) ls (kL a :: st) S Q := by
  intro p l e R s m args below meth c H locs cells slots LS Z C hl hf
  exact lv_l2i C.1.1 C.1.2.1 hd Int64.toInt32_ofInt (k p l e R s m args below meth c H locs cells slots LS Z C hl hf)
theorem kw_i2b (hd : decode M.2.1 pc = .ok (.i2b, 1)) (k : kWP G M d bc bs (pc + 1) ls (kI (ki2b a) :: st) S Q) : kWP G M d bc bs (pc) ls (kI a :: st) S Q := by
  intro p l e R s m args below meth c H locs cells slots LS Z C hl hf
  exact lv_i2b C.1.1 C.1.2.1 hd (Int32.ofInt_toInt _).symm (k p l e R s m args below meth c H locs cells slots LS Z C hl hf)
theorem kw_iushr (hd : decode M.2.1 pc = .ok (.iushr, 1)) (k : kWP G M d bc bs (pc + 1) ls (kI (kushr a b) :: st) S Q) : kWP G M d bc bs (pc) ls (kI b :: kI a :: st) S Q := by
  intro p l e R s m args below meth c H locs cells slots LS Z C hl hf
  exact lv_iushr C.1.1 C.1.2.1 hd (Int32.ofInt_toInt _).symm (k p l e R s m args below meth c H locs cells slots LS Z C hl hf)
theorem kw_dup {v : AV} (hd : decode M.2.1 pc = .ok (.dup, 1)) (hv : kcat v = 1) (k : kWP G M d bc bs (pc + 1) ls (v :: v :: st) S Q) : kWP G M d bc bs (pc) ls (v :: st) S Q := by
  intro p l e R s m args below meth c H locs cells slots LS Z C hl hf
  exact lv_dup C.1.1 C.1.2.1 hd (by rw [kcat_eq]; exact hv) (k p l e R s m args below meth c H locs cells slots LS Z C hl hf)
theorem kw_pop {v : AV} (hd : decode M.2.1 pc = .ok (.pop, 1)) (hv : kcat v = 1) (k : kWP G M d bc bs (pc + 1) ls (st) S Q) : kWP G M d bc bs (pc) ls (v :: st) S Q := by
  intro p l e R s m args below meth c H locs cells slots LS Z C hl hf
  exact lv_pop C.1.1 C.1.2.1 hd (by rw [kcat_eq]; exact hv) (k p l e R s m args below meth c H locs cells slots LS Z C hl hf)
theorem kw_dup2 {u v : AV} (hd : decode M.2.1 pc = .ok (.dup2, 1)) (hu : kcat u = 1) (hv : kcat v = 1) (k : kWP G M d bc bs (pc + 1) ls (v :: u :: v :: u :: st) S Q) : kWP G M d bc bs (pc) ls (v :: u :: st) S Q := by
  intro p l e R s m args below meth c H locs cells slots LS Z C hl hf
  exact lv_dup2_11 C.1.1 C.1.2.1 hd (by rw [kcat_eq]; exact hv) (by rw [kcat_eq]; exact hu) (k p l e R s m args below meth c H locs cells slots LS Z C hl hf)
theorem kw_goto {off : Int} (tgt : Nat) (hd : decode M.2.1 pc = .ok (.goto off, 3)) (ht : (pc : Int) + off = (tgt : Int)) (k : kWP G M d bc bs (tgt) ls (st) S Q) : kWP G M d bc bs (pc) ls (st) S Q := by
  intro p l e R s m args below meth c H locs cells slots LS Z C hl hf
  exact lv_goto C.1.1 C.1.2.1 hd ht (k p l e R s m args below meth c H locs cells slots LS Z C hl hf)
theorem kw_forget {ls' : List (Option AV)} (h : kle ls' ls) (k : kWP G M d bc bs (pc) ls' (st) S Q) : kWP G M d bc bs (pc) ls (st) S Q := by
  intro p l e R s m args below meth c H locs cells slots LS Z C hl hf
  exact k p l e R s m args below meth c H locs cells slots LS Z C (kls_le h hl) hf
theorem kw_icmp_eq {off : Int} (tgt : Nat) (hd : decode M.2.1 pc = .ok (.if_icmp .eq off, 3)) (ht : (pc : Int) + off = (tgt : Int)) (ha : k32 a) (hb : k32 b) (k1 : a = b → kWP G M d bc bs (tgt) ls (st) S Q) (k2 : a ≠ b → kWP G M d bc bs (pc + 3) ls (st) S Q) : kWP G M d bc bs (pc) ls (kI b :: kI a :: st) S Q := by
  intro p l e R s m args below meth c H locs cells slots LS Z C hl hf
  exact lv_icmp_eq C.1.1 C.1.2.1 hd ht (fun h => k1 ((k32_eq ha hb).mp h) p l e R s m args below meth c H locs cells slots LS Z C hl hf) (fun h => k2 (fun q => h ((k32_eq ha hb).mpr q)) p l e R s m args below meth c H locs cells slots LS Z C hl hf)
theorem kw_if_eq {off : Int} (tgt : Nat) (hd : decode M.2.1 pc = .ok (.ifCond .eq off, 3)) (ht : (pc : Int) + off = (tgt : Int)) (ha : k32 a) (k1 : a = 0 → kWP G M d bc bs (tgt) ls (st) S Q) (k2 : a ≠ 0 → kWP G M d bc bs (pc + 3) ls (st) S Q) : kWP G M d bc bs (pc) ls (kI a :: st) S Q := by
  intro p l e R s m args below meth c H locs cells slots LS Z C hl hf
  exact lv_if_eq C.1.1 C.1.2.1 hd ht (fun h => k1 ((k32_eq ha k32_0).mp h) p l e R s m args below meth c H locs cells slots LS Z C hl hf) (fun h => k2 (fun q => h ((k32_eq ha k32_0).mpr q)) p l e R s m args below meth c H locs cells slots LS Z C hl hf)
theorem kw_icmp_ne {off : Int} (tgt : Nat) (hd : decode M.2.1 pc = .ok (.if_icmp .ne off, 3)) (ht : (pc : Int) + off = (tgt : Int)) (ha : k32 a) (hb : k32 b) (k1 : a ≠ b → kWP G M d bc bs (tgt) ls (st) S Q) (k2 : a = b → kWP G M d bc bs (pc + 3) ls (st) S Q) : kWP G M d bc bs (pc) ls (kI b :: kI a :: st) S Q := by
  intro p l e R s m args below meth c H locs cells slots LS Z C hl hf
  exact lv_icmp_ne C.1.1 C.1.2.1 hd ht (fun h => k1 (fun q => h ((k32_eq ha hb).mpr q)) p l e R s m args below meth c H locs cells slots LS Z C hl hf) (fun h => k2 ((k32_eq ha hb).mp h) p l e R s m args below meth c H locs cells slots LS Z C hl hf)
theorem kw_if_ne {off : Int} (tgt : Nat) (hd : decode M.2.1 pc = .ok (.ifCond .ne off, 3)) (ht : (pc : Int) + off = (tgt : Int)) (ha : k32 a) (k1 : a ≠ 0 → kWP G M d bc bs (tgt) ls (st) S Q) (k2 : a = 0 → kWP G M d bc bs (pc + 3) ls (st) S Q) : kWP G M d bc bs (pc) ls (kI a :: st) S Q := by
  intro p l e R s m args below meth c H locs cells slots LS Z C hl hf
  exact lv_if_ne C.1.1 C.1.2.1 hd ht (fun h => k1 (fun q => h ((k32_eq ha k32_0).mpr q)) p l e R s m args below meth c H locs cells slots LS Z C hl hf) (fun h => k2 ((k32_eq ha k32_0).mp h) p l e R s m args below meth c H locs cells slots LS Z C hl hf)
theorem kw_icmp_lt {off : Int} (tgt : Nat) (hd : decode M.2.1 pc = .ok (.if_icmp .lt off, 3)) (ht : (pc : Int) + off = (tgt : Int)) (ha : k32 a) (hb : k32 b) (k1 : a < b → kWP G M d bc bs (tgt) ls (st) S Q) (k2 : b ≤ a → kWP G M d bc bs (pc + 3) ls (st) S Q) : kWP G M d bc bs (pc) ls (kI b :: kI a :: st) S Q := by
  intro p l e R s m args below meth c H locs cells slots LS Z C hl hf
  exact lv_icmp_lt C.1.1 C.1.2.1 hd ht (fun h => k1 ((k32_lt ha hb).mp h) p l e R s m args below meth c H locs cells slots LS Z C hl hf) (fun h => k2 (Int.not_lt.mp (fun q => h ((k32_lt ha hb).mpr q))) p l e R s m args below meth c H locs cells slots LS Z C hl hf)
theorem kw_if_lt {off : Int} (tgt : Nat) (hd : decode M.2.1 pc = .ok (.ifCond .lt off, 3)) (ht : (pc : Int) + off = (tgt : Int)) (ha : k32 a) (k1 : a < 0 → kWP G M d bc bs (tgt) ls (st) S Q) (k2 : 0 ≤ a → kWP G M d bc bs (pc + 3) ls (st) S Q) : kWP G M d bc bs (pc) ls (kI a :: st) S Q := by
  intro p l e R s m args below meth c H locs cells slots LS Z C hl hf
  exact lv_if_lt C.1.1 C.1.2.1 hd ht (fun h => k1 ((k32_lt ha k32_0).mp h) p l e R s m args below meth c H locs cells slots LS Z C hl hf) (fun h => k2 (Int.not_lt.mp (fun q => h ((k32_lt ha k32_0).mpr q))) p l e R s m args below meth c H locs cells slots LS Z C hl hf)
theorem kw_icmp_ge {off : Int} (tgt : Nat) (hd : decode M.2.1 pc = .ok (.if_icmp .ge off, 3)) (ht : (pc : Int) + off = (tgt : Int)) (ha : k32 a) (hb : k32 b) (k1 : b ≤ a → kWP G M d bc bs (tgt) ls (st) S Q) (k2 : a < b → kWP G M d bc bs (pc + 3) ls (st) S Q) : kWP G M d bc bs (pc) ls (kI b :: kI a :: st) S Q := by
  intro p l e R s m args below meth c H locs cells slots LS Z C hl hf
  exact lv_icmp_ge C.1.1 C.1.2.1 hd ht (fun h => k1 ((k32_le hb ha).mp h) p l e R s m args below meth c H locs cells slots LS Z C hl hf) (fun h => k2 (Int.not_le.mp (fun q => h ((k32_le hb ha).mpr q))) p l e R s m args below meth c H locs cells slots LS Z C hl hf)
theorem kw_if_ge {off : Int} (tgt : Nat) (hd : decode M.2.1 pc = .ok (.ifCond .ge off, 3)) (ht : (pc : Int) + off = (tgt : Int)) (ha : k32 a) (k1 : 0 ≤ a → kWP G M d bc bs (tgt) ls (st) S Q) (k2 : a < 0 → kWP G M d bc bs (pc + 3) ls (st) S Q) : kWP G M d bc bs (pc) ls (kI a :: st) S Q := by
  intro p l e R s m args below meth c H locs cells slots LS Z C hl hf
  exact lv_if_ge C.1.1 C.1.2.1 hd ht (fun h => k1 ((k32_le k32_0 ha).mp h) p l e R s m args below meth c H locs cells slots LS Z C hl hf) (fun h => k2 (Int.not_le.mp (fun q => h ((k32_le k32_0 ha).mpr q))) p l e R s m args below meth c H locs cells slots LS Z C hl hf)
theorem kw_icmp_gt {off : Int} (tgt : Nat) (hd : decode M.2.1 pc = .ok (.if_icmp .gt off, 3)) (ht : (pc : Int) + off = (tgt : Int)) (ha : k32 a) (hb : k32 b) (k1 : b < a → kWP G M d bc bs (tgt) ls (st) S Q) (k2 : a ≤ b → kWP G M d bc bs (pc + 3) ls (st) S Q) : kWP G M d bc bs (pc) ls (kI b :: kI a :: st) S Q := by
  intro p l e R s m args below meth c H locs cells slots LS Z C hl hf
  exact lv_icmp_gt C.1.1 C.1.2.1 hd ht (fun h => k1 ((k32_lt hb ha).mp h) p l e R s m args below meth c H locs cells slots LS Z C hl hf) (fun h => k2 (Int.not_lt.mp (fun q => h ((k32_lt hb ha).mpr q))) p l e R s m args below meth c H locs cells slots LS Z C hl hf)
theorem kw_if_gt {off : Int} (tgt : Nat) (hd : decode M.2.1 pc = .ok (.ifCond .gt off, 3)) (ht : (pc : Int) + off = (tgt : Int)) (ha : k32 a) (k1 : 0 < a → kWP G M d bc bs (tgt) ls (st) S Q) (k2 : a ≤ 0 → kWP G M d bc bs (pc + 3) ls (st) S Q) : kWP G M d bc bs (pc) ls (kI a :: st) S Q := by
  intro p l e R s m args below meth c H locs cells slots LS Z C hl hf
  exact lv_if_gt C.1.1 C.1.2.1 hd ht (fun h => k1 ((k32_lt k32_0 ha).mp h) p l e R s m args below meth c H locs cells slots LS Z C hl hf) (fun h => k2 (Int.not_lt.mp (fun q => h ((k32_lt k32_0 ha).mpr q))) p l e R s m args below meth c H locs cells slots LS Z C hl hf)
theorem kw_icmp_le {off : Int} (tgt : Nat) (hd : decode M.2.1 pc = .ok (.if_icmp .le off, 3)) (ht : (pc : Int) + off = (tgt : Int)) (ha : k32 a) (hb : k32 b) (k1 : a ≤ b → kWP G M d bc bs (tgt) ls (st) S Q) (k2 : b < a → kWP G M d bc bs (pc + 3) ls (st) S Q) : kWP G M d bc bs (pc) ls (kI b :: kI a :: st) S Q := by
  intro p l e R s m args below meth c H locs cells slots LS Z C hl hf
  exact lv_icmp_le C.1.1 C.1.2.1 hd ht (fun h => k1 ((k32_le ha hb).mp h) p l e R s m args below meth c H locs cells slots LS Z C hl hf) (fun h => k2 (Int.not_le.mp (fun q => h ((k32_le ha hb).mpr q))) p l e R s m args below meth c H locs cells slots LS Z C hl hf)
theorem kw_if_le {off : Int} (tgt : Nat) (hd : decode M.2.1 pc = .ok (.ifCond .le off, 3)) (ht : (pc : Int) + off = (tgt : Int)) (ha : k32 a) (k1 : a ≤ 0 → kWP G M d bc bs (tgt) ls (st) S Q) (k2 : 0 < a → kWP G M d bc bs (pc + 3) ls (st) S Q) : kWP G M d bc bs (pc) ls (kI a :: st) S Q := by
  intro p l e R s m args below meth c H locs cells slots LS Z C hl hf
  exact lv_if_le C.1.1 C.1.2.1 hd ht (fun h => k1 ((k32_le ha k32_0).mp h) p l e R s m args below meth c H locs cells slots LS Z C hl hf) (fun h => k2 (Int.not_le.mp (fun q => h ((k32_le ha k32_0).mpr q))) p l e R s m args below meth c H locs cells slots LS Z C hl hf)
theorem klg (x y : Int) (hx : k64 x) (hy : k64 y) : (y < x ∧ lg_cmp (Int64.ofInt x) (Int64.ofInt y) = 1) ∨ (x = y ∧ lg_cmp (Int64.ofInt x) (Int64.ofInt y) = 0) ∨ (x < y ∧ lg_cmp (Int64.ofInt x) (Int64.ofInt y) = -1) := by
  unfold lg_cmp
  by_cases h : y < x
  · exact Or.inl ⟨h, if_pos ((k64_lt hy hx).mpr h)⟩
  · rw [if_neg (fun q => h ((k64_lt hy hx).mp q))]
    by_cases h2 : x = y
    · exact Or.inr (Or.inl ⟨h2, if_pos ((k64_eq hx hy).mpr h2)⟩)
    · rw [if_neg (fun q => h2 ((k64_eq hx hy).mp q))]
      exact Or.inr (Or.inr ⟨by omega, rfl⟩)
theorem kw_lcmp_eq {off : Int} (tgt : Nat) (hd : decode M.2.1 pc = .ok (.lcmp, 1)) (hd2 : decode M.2.1 (pc + 1) = .ok (.ifCond .eq off, 3)) (ht : (pc : Int) + 1 + off = (tgt : Int)) (ha : k64 a) (hb : k64 b) (k1 : a = b → kWP G M d bc bs (tgt) ls (st) S Q) (k2 : a ≠ b → kWP G M d bc bs (pc + 4) ls (st) S Q) : kWP G M d bc bs (pc) ls (kL b :: kL a :: st) S Q := by
  intro p l e R s m args below meth c H locs cells slots LS Z C hl hf
  refine W.lcmp C.1.1 C.1.2.1 hd ?_
  refine lv_if_eq (tgt := tgt) C.1.1 C.1.2.1 hd2 (by rw [← ht]; rfl) (fun h => k1 ?_ p l e R s m args below meth c H locs cells slots LS Z C hl hf) (fun h => k2 ?_ p l e R s m args below meth c H locs cells slots LS Z C hl hf)
  all_goals
    rcases klg a b ha hb with ⟨q, e⟩ | ⟨q, e⟩ | ⟨q, e⟩ <;> rw [e] at h <;> first | omega | exact absurd h (by decide)
theorem kw_lcmp_ne {off : Int} (tgt : Nat) (hd : decode M.2.1 pc = .ok (.lcmp, 1)) (hd2 : decode M.2.1 (pc + 1) = .ok (.ifCond .ne off, 3)) (ht : (pc : Int) + 1 + off = (tgt : Int)) (ha : k64 a) (hb : k64 b) (k1 : a ≠ b → kWP G M d bc bs (tgt) ls (st) S Q) (k2 : a = b → kWP G M d bc bs (pc + 4) ls (st) S Q) : kWP G M d bc bs (pc) ls (kL b :: kL a :: st) S Q := by
  intro p l e R s m args below meth c H locs cells slots LS Z C hl hf
  refine W.lcmp C.1.1 C.1.2.1 hd ?_
  refine lv_if_ne (tgt := tgt) C.1.1 C.1.2.1 hd2 (by rw [← ht]; rfl) (fun h => k1 ?_ p l e R s m args below meth c H locs cells slots LS Z C hl hf) (fun h => k2 ?_ p l e R s m args below meth c H locs cells slots LS Z C hl hf)
  all_goals
    rcases klg a b ha hb with ⟨q, e⟩ | ⟨q, e⟩ | ⟨q, e⟩ <;> rw [e] at h <;> first | omega | exact absurd h (by decide)
theorem kw_lcmp_lt {off : Int} (tgt : Nat) (hd : decode M.2.1 pc = .ok (.lcmp, 1)) (hd2 : decode M.2.1 (pc + 1) = .ok (.ifCond .lt off, 3)) (ht : (pc : Int) + 1 + off = (tgt : Int)) (ha : k64 a) (hb : k64 b) (k1 : a < b → kWP G M d bc bs (tgt) ls (st) S Q) (k2 : b ≤ a → kWP G M d bc bs (pc + 4) ls (st) S Q) : kWP G M d bc bs (pc) ls (kL b :: kL a :: st) S Q := by
  intro p l e R s m args below meth c H locs cells slots LS Z C hl hf
  refine W.lcmp C.1.1 C.1.2.1 hd ?_
  refine lv_if_lt (tgt := tgt) C.1.1 C.1.2.1 hd2 (by rw [← ht]; rfl) (fun h => k1 ?_ p l e R s m args below meth c H locs cells slots LS Z C hl hf) (fun h => k2 ?_ p l e R s m args below meth c H locs cells slots LS Z C hl hf)
  all_goals
    rcases klg a b ha hb with ⟨q, e⟩ | ⟨q, e⟩ | ⟨q, e⟩ <;> rw [e] at h <;> first | omega | exact absurd h (by decide)
theorem kw_lcmp_ge {off : Int} (tgt : Nat) (hd : decode M.2.1 pc = .ok (.lcmp, 1)) (hd2 : decode M.2.1 (pc + 1) = .ok (.ifCond .ge off, 3)) (ht : (pc : Int) + 1 + off = (tgt : Int)) (ha : k64 a) (hb : k64 b) (k1 : b ≤ a → kWP G M d bc bs (tgt) ls (st) S Q) (k2 : a < b → kWP G M d bc bs (pc + 4) ls (st) S Q) : kWP G M d bc bs (pc) ls (kL b :: kL a :: st) S Q := by
  intro p l e R s m args below meth c H locs cells slots LS Z C hl hf
  refine W.lcmp C.1.1 C.1.2.1 hd ?_
  refine lv_if_ge (tgt := tgt) C.1.1 C.1.2.1 hd2 (by rw [← ht]; rfl) (fun h => k1 ?_ p l e R s m args below meth c H locs cells slots LS Z C hl hf) (fun h => k2 ?_ p l e R s m args below meth c H locs cells slots LS Z C hl hf)
  all_goals
    rcases klg a b ha hb with ⟨q, e⟩ | ⟨q, e⟩ | ⟨q, e⟩ <;> rw [e] at h <;> first | omega | exact absurd h (by decide)
theorem kw_lcmp_gt {off : Int} (tgt : Nat) (hd : decode M.2.1 pc = .ok (.lcmp, 1)) (hd2 : decode M.2.1 (pc + 1) = .ok (.ifCond .gt off, 3)) (ht : (pc : Int) + 1 + off = (tgt : Int)) (ha : k64 a) (hb : k64 b) (k1 : b < a → kWP G M d bc bs (tgt) ls (st) S Q) (k2 : a ≤ b → kWP G M d bc bs (pc + 4) ls (st) S Q) : kWP G M d bc bs (pc) ls (kL b :: kL a :: st) S Q := by
  intro p l e R s m args below meth c H locs cells slots LS Z C hl hf
  refine W.lcmp C.1.1 C.1.2.1 hd ?_
  refine lv_if_gt (tgt := tgt) C.1.1 C.1.2.1 hd2 (by rw [← ht]; rfl) (fun h => k1 ?_ p l e R s m args below meth c H locs cells slots LS Z C hl hf) (fun h => k2 ?_ p l e R s m args below meth c H locs cells slots LS Z C hl hf)
  all_goals
    rcases klg a b ha hb with ⟨q, e⟩ | ⟨q, e⟩ | ⟨q, e⟩ <;> rw [e] at h <;> first | omega | exact absurd h (by decide)
theorem kw_lcmp_le {off : Int} (tgt : Nat) (hd : decode M.2.1 pc = .ok (.lcmp, 1)) (hd2 : decode M.2.1 (pc + 1) = .ok (.ifCond .le off, 3)) (ht : (pc : Int) + 1 + off = (tgt : Int)) (ha : k64 a) (hb : k64 b) (k1 : a ≤ b → kWP G M d bc bs (tgt) ls (st) S Q) (k2 : b < a → kWP G M d bc bs (pc + 4) ls (st) S Q) : kWP G M d bc bs (pc) ls (kL b :: kL a :: st) S Q := by
  intro p l e R s m args below meth c H locs cells slots LS Z C hl hf
  refine W.lcmp C.1.1 C.1.2.1 hd ?_
  refine lv_if_le (tgt := tgt) C.1.1 C.1.2.1 hd2 (by rw [← ht]; rfl) (fun h => k1 ?_ p l e R s m args below meth c H locs cells slots LS Z C hl hf) (fun h => k2 ?_ p l e R s m args below meth c H locs cells slots LS Z C hl hf)
  all_goals
    rcases klg a b ha hb with ⟨q, e⟩ | ⟨q, e⟩ | ⟨q, e⟩ <;> rw [e] at h <;> first | omega | exact absurd h (by decide)
theorem kw_ret (hd : decode M.2.1 pc = .ok (.return_, 1)) (hr : M.2.2.2.1 = none) (k : Q none S) : kWP G M d bc bs (pc) ls ([]) S Q := by
  intro p l e R s m args below meth c H locs cells slots LS Z C hl hf
  exact hf none S H locs cells slots pc LS _ hd ⟨hr, rfl⟩ (by have := C.2.2.1; omega) (by have := C.2.2.1; omega) C.2.2.2.1 C.2.2.2.2.1 k
theorem kw_iret (hd : decode M.2.1 pc = .ok (.ireturn, 1)) (hr : M.2.2.2.1 = some .int) (k : Q (some (kI a)) S) : kWP G M d bc bs (pc) ls ([kI a]) S Q := by
  intro p l e R s m args below meth c H locs cells slots LS Z C hl hf
  exact hf (some (kI a)) S H locs cells slots pc LS _ hd ⟨rfl, Or.inl hr⟩ (by have := C.2.2.1; omega) (by have := C.2.2.1; omega) C.2.2.2.1 C.2.2.2.2.1 k
theorem kw_zret (hd : decode M.2.1 pc = .ok (.ireturn, 1)) (hr : M.2.2.2.1 = some .boolean) (h01 : a = 0 ∨ a = 1) (k : Q (some (kI a)) S) : kWP G M d bc bs (pc) ls ([kI a]) S Q := by
  intro p l e R s m args below meth c H locs cells slots LS Z C hl hf
  exact hf (some (kI a)) S H locs cells slots pc LS _ hd ⟨rfl, Or.inr ⟨hr, h01⟩⟩ (by have := C.2.2.1; omega) (by have := C.2.2.1; omega) C.2.2.2.1 C.2.2.2.2.1 k
theorem kw_lret (hd : decode M.2.1 pc = .ok (.lreturn, 1)) (hr : M.2.2.2.1 = some .long) (k : Q (some (kL a)) S) : kWP G M d bc bs (pc) ls ([kL a]) S Q := by
  intro p l e R s m args below meth c H locs cells slots LS Z C hl hf
  exact hf (some (kL a)) S H locs cells slots pc LS _ hd ⟨rfl, hr⟩ (by have := C.2.2.1; omega) (by have := C.2.2.1; omega) C.2.2.2.1 C.2.2.2.2.1 k
theorem kw_aret (hd : decode M.2.1 pc = .ok (.areturn, 1)) (hr : (∃ n, M.2.2.2.1 = some (.object n)) ∨ ∃ t, M.2.2.2.1 = some (.array t)) (h0 : 0 ≤ a) (k : Q (some (kA a)) S) : kWP G M d bc bs (pc) ls ([kA a]) S Q := by
  intro p l e R s m args below meth c H locs cells slots LS Z C hl hf
  exact hf (some (kA a)) S H locs cells slots pc LS _ hd ⟨rfl, hr, h0⟩ (by have := C.2.2.1; omega) (by have := C.2.2.1; omega) C.2.2.2.1 C.2.2.2.2.1 k
theorem kw_tswitch {df lo hi : Int} {offs : Array Int} {len : Nat} (hd : decode M.2.1 pc = .ok (.tableswitch df lo hi offs, len)) (ha : k32 a) (k1 : ∀ (j : Nat) (off : Int) (tgt : Nat), a = lo + j → a ≤ hi → offs[j]? = some off → (pc : Int) + off = (tgt : Int) → kWP G M d bc bs (tgt) ls (st) S Q) (hz : ∀ j : Nat, lo + j ≤ hi → ∃ off : Int, ∃ tgt : Nat, offs[j]? = some off ∧ (pc : Int) + off = (tgt : Int)) (tdf : Nat) (htd : (pc : Int) + df = (tdf : Int)) (k2 : a < lo ∨ hi < a → kWP G M d bc bs (tdf) ls (st) S Q) : kWP G M d bc bs (pc) ls (kI a :: st) S Q := by
  intro p l e R s m args below meth c H locs cells slots LS Z C hl hf
  have e9 := k32_t ha
  by_cases h : a < lo ∨ hi < a
  · exact lv_tableOut C.1.1 C.1.2.1 hd (by rw [e9]; exact h) htd (k2 h p l e R s m args below meth c H locs cells slots LS Z C hl hf)
  · have h1 : ¬ a < lo := fun q => h (Or.inl q)
    have h2 : ¬ hi < a := fun q => h (Or.inr q)
    obtain ⟨off, tgt, g1, g2⟩ := hz (a - lo).toNat (by omega)
    exact lv_tableIn C.1.1 C.1.2.1 hd (by rw [e9]; exact h1) (by rw [e9]; exact h2) (by rw [e9]; exact g1) g2 (k1 (a - lo).toNat off tgt (by omega) (by omega) g1 g2 p l e R s m args below meth c H locs cells slots LS Z C hl hf)
end KR
