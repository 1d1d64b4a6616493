
-- locals by their places
def kal (G : KG) : Nat → List (Option AV) → List (Nat × Value)
  | _, [] => []
  | n, none :: t => kal G (n + 1) t
  | n, some v :: t => (n, kv G v) :: kal G (n + 1) t
theorem kal_mem (G : KG) : ∀ (ls : List (Option AV)) (n j : Nat) (w : Value), (j, w) ∈ kal G n ls ↔ ∃ (i : Nat) (v : AV), j = n + i ∧ ls[i]? = some (some v) ∧ w = kv G v
  | [], n, j, w => by simp [kal]
  | none :: t, n, j, w => by
    rw [kal, kal_mem G t (n + 1) j w]
    constructor
    · rintro ⟨i, v, h1, h2, h3⟩
      exact ⟨i + 1, v, by omega, by simpa using h2, h3⟩
    · rintro ⟨i, v, h1, h2, h3⟩
      cases i with
      | zero => simp at h2
      | succ i => exact ⟨i, v, by omega, by simpa using h2, h3⟩
  | some u :: t, n, j, w => by
    rw [kal, List.mem_cons, kal_mem G t (n + 1) j w]
    constructor
    · rintro (h | ⟨i, v, h1, h2, h3⟩)
      · simp only [Prod.mk.injEq] at h
        exact ⟨0, u, by omega, by simp, h.2⟩
      · exact ⟨i + 1, v, by omega, by simpa using h2, h3⟩
    · rintro ⟨i, v, h1, h2, h3⟩
      cases i with
      | zero =>
        simp at h2
        subst h2
        exact Or.inl (by simp only [Prod.mk.injEq]; exact ⟨by omega, h3⟩)
      | succ i => exact Or.inr ⟨i, v, by omega, by simpa using h2, h3⟩
def kls (G : KG) (ls : List (Option AV)) (LS : Array Slot) (nL : Nat) : Prop := ls.length = nL ∧ lv_has LS nL (kal G 0 ls)
theorem kls_at {G : KG} {ls : List (Option AV)} {LS : Array Slot} {nL i : Nat} {v : AV} (h : kls G ls LS nL) (hi : ls[i]? = some (some v)) : LS[i]? = some (.val (kv G v)) :=
  h.2.2.2 (i, kv G v) ((kal_mem G ls 0 i _).mpr ⟨i, v, by omega, hi, rfl⟩)
/-- a long ahead of a place goes when its second half is written -/
def kisL : Option (Option AV) → Bool
  | some (some (.inr (.inl _))) => true
  | _ => false
theorem kisL_of {w : AV} (h : kcat w = 2) : kisL (some (some w)) = true := by
  match w, h with
  | .inr (.inl z), _ => rfl
def kclr : Nat → List (Option AV) → List (Option AV)
  | 0, l => l
  | n + 1, l => if kisL l[n]? = true then l.set n none else l
def kst (v : AV) (n : Nat) (l : List (Option AV)) : List (Option AV) := (kclr n l).set n (some v)
def kst2 (v : AV) (n : Nat) (l : List (Option AV)) : List (Option AV) := ((kclr n l).set n (some v)).set (n + 1) none
theorem kclr_s (n : Nat) (l : List (Option AV)) : kclr (n + 1) l = if kisL l[n]? = true then l.set n none else l := rfl
theorem kclr_len (n : Nat) (l : List (Option AV)) : (kclr n l).length = l.length := by
  cases n with
  | zero => rfl
  | succ n => rw [kclr_s]; split <;> simp
theorem kclr_mem (n : Nat) (l : List (Option AV)) (j : Nat) (w : AV) (h : (kclr n l)[j]? = some (some w)) : ¬ (j + 1 = n ∧ kcat w = 2) ∧ l[j]? = some (some w) := by
  cases n with
  | zero => exact ⟨by omega, h⟩
  | succ n =>
    rw [kclr_s] at h
    split at h
    · next e =>
      by_cases hj : j = n
      · subst hj
        rw [List.getElem?_set] at h
        split at h
        · split at h <;> cases h
        · exact absurd rfl ‹_›
      · rw [List.getElem?_set_ne (Ne.symm hj)] at h
        exact ⟨by omega, h⟩
    · next hn =>
      refine ⟨fun q => ?_, h⟩
      obtain ⟨q1, q2⟩ := q
      have : j = n := by omega
      subst this
      exact hn (by rw [h]; exact kisL_of q2)
theorem kst_len (v : AV) (n : Nat) (l : List (Option AV)) : (kst v n l).length = l.length := by simp [kst, kclr_len]
theorem kst2_len (v : AV) (n : Nat) (l : List (Option AV)) : (kst2 v n l).length = l.length := by simp [kst2, kclr_len]
theorem kset_eq {α : Type} {l : List α} {j : Nat} {x y : α} (h : (l.set j x)[j]? = some y) : y = x := by
  rw [List.getElem?_set] at h
  split at h
  · split at h
    · exact (Option.some.inj h).symm
    · cases h
  · exact absurd rfl ‹_›
theorem kst_mem (v : AV) (n : Nat) (l : List (Option AV)) (j : Nat) (w : AV) (h : (kst v n l)[j]? = some (some w)) : (j = n ∧ w = v) ∨ (j ≠ n ∧ ¬ (j + 1 = n ∧ kcat w = 2) ∧ l[j]? = some (some w)) := by
  unfold kst at h
  by_cases hj : j = n
  · subst hj
    exact Or.inl ⟨rfl, Option.some.inj (kset_eq h)⟩
  · rw [List.getElem?_set_ne (Ne.symm hj)] at h
    exact Or.inr ⟨hj, kclr_mem n l j w h⟩
theorem kst2_mem (v : AV) (n : Nat) (l : List (Option AV)) (j : Nat) (w : AV) (h : (kst2 v n l)[j]? = some (some w)) : (j = n ∧ w = v) ∨ (j ≠ n ∧ j ≠ n + 1 ∧ ¬ (j + 1 = n ∧ kcat w = 2) ∧ l[j]? = some (some w)) := by
  unfold kst2 at h
  by_cases h1 : j = n + 1
  · subst h1
    exact absurd (kset_eq h) (by simp)
  · rw [List.getElem?_set_ne (Ne.symm h1)] at h
    rcases kst_mem v n l j w h with q | ⟨a, b⟩
    · exact Or.inl q
    · exact Or.inr ⟨a, h1, b⟩
theorem kls_st {G : KG} {ls : List (Option AV)} {LS : Array Slot} {nL n : Nat} {v : AV} (hl : ls.length = nL) (h : lv_has LS nL ((n, kv G v) :: (kal G 0 ls).filter (fun q => !(q.1 == n) && !(q.1 + 1 == n && q.2.category == 2)))) : kls G (kst v n ls) LS nL := by
  refine ⟨by rw [kst_len, hl], h.1, h.2.1, fun q hq => h.2.2 q ?_⟩
  obtain ⟨j, x⟩ := q
  obtain ⟨i, w, h1, h2, h3⟩ := (kal_mem G _ 0 j x).mp hq
  have hij : j = i := by omega
  subst hij
  rcases kst_mem v n ls j w h2 with ⟨a, b⟩ | ⟨a, b, d⟩
  · subst a; subst b; subst h3
    exact List.mem_cons_self
  · refine List.mem_cons_of_mem _ (List.mem_filter.mpr ⟨(kal_mem G ls 0 j x).mpr ⟨j, w, by omega, d, h3⟩, ?_⟩)
    subst h3
    rw [kcat_eq]
    simp only [Bool.and_eq_true, Bool.not_eq_true', beq_eq_false_iff_ne, ne_eq, Bool.and_eq_false_iff]
    exact ⟨a, by by_cases z : j + 1 = n; exact Or.inr (fun q => b ⟨z, q⟩); exact Or.inl z⟩
theorem kls_st2 {G : KG} {ls : List (Option AV)} {LS : Array Slot} {nL n : Nat} {v : AV} (hl : ls.length = nL) (h : lv_has LS nL ((n, kv G v) :: (kal G 0 ls).filter (fun q => !(q.1 == n) && (!(q.1 == n + 1) && !(q.1 + 1 == n && q.2.category == 2))))) : kls G (kst2 v n ls) LS nL := by
  refine ⟨by rw [kst2_len, hl], h.1, h.2.1, fun q hq => h.2.2 q ?_⟩
  obtain ⟨j, x⟩ := q
  obtain ⟨i, w, h1, h2, h3⟩ := (kal_mem G _ 0 j x).mp hq
  have hij : j = i := by omega
  subst hij
  rcases kst2_mem v n ls j w h2 with ⟨a, b⟩ | ⟨a, a2, b, d⟩
  · subst a; subst b; subst h3
    exact List.mem_cons_self
  · refine List.mem_cons_of_mem _ (List.mem_filter.mpr ⟨(kal_mem G ls 0 j x).mpr ⟨j, w, by omega, d, h3⟩, ?_⟩)
    subst h3
    rw [kcat_eq]
    simp only [Bool.and_eq_true, Bool.not_eq_true', beq_eq_false_iff_ne, ne_eq, Bool.and_eq_false_iff]
    exact ⟨a, a2, by by_cases z : j + 1 = n; exact Or.inr (fun q => b ⟨z, q⟩); exact Or.inl z⟩
/-- fewer known locals -/
def kle : List (Option AV) → List (Option AV) → Prop
  | [], [] => True
  | a :: l, b :: m => (a = none ∨ a = b) ∧ kle l m
  | _, _ => False
theorem kle_len : ∀ {l m : List (Option AV)}, kle l m → l.length = m.length
  | [], [], _ => rfl
  | _ :: _, _ :: _, h => by simp [kle_len h.2]
theorem kle_at : ∀ {l m : List (Option AV)} {i : Nat} {v : AV}, kle l m → l[i]? = some (some v) → m[i]? = some (some v)
  | a :: l, b :: m, 0, v, h, e => by
    simp at e
    rcases h.1 with q | q
    · rw [q] at e; cases e
    · simp [← q, e]
  | a :: l, b :: m, i + 1, v, h, e => by
    simp at e ⊢
    exact kle_at h.2 e
theorem kls_le {G : KG} {l m : List (Option AV)} {LS : Array Slot} {nL : Nat} (h : kle l m) (hm : kls G m LS nL) : kls G l LS nL := by
  refine ⟨(kle_len h).trans hm.1, hm.2.1, hm.2.2.1, fun q hq => ?_⟩
  obtain ⟨j, x⟩ := q
  obtain ⟨i, w, h1, h2, h3⟩ := (kal_mem G _ 0 j x).mp hq
  exact hm.2.2.2 (j, x) ((kal_mem G _ 0 j x).mpr ⟨i, w, h1, kle_at h h2, h3⟩)
/-- the locals at an entry -/
def karg : List AV → List (Option AV)
  | [] => []
  | .inr (.inl z) :: t => some (kL z) :: none :: karg t
  | v :: t => some v :: karg t
def kpad (n : Nat) (l : List (Option AV)) : List (Option AV) := l ++ List.replicate (n - l.length) none
theorem karg_mem (G : KG) : ∀ (av : List AV) (n i : Nat) (v : AV), (karg av)[i]? = some (some v) → (n + i, kv G v) ∈ lv_args n (av.map (kv G))
  | [], n, i, v, h => by simp [karg] at h
  | .inr (.inl z) :: t, n, i, v, h => by
    match i with
    | 0 => simp [karg] at h; subst h; exact List.mem_cons_self
    | 1 => simp [karg] at h
    | i + 2 =>
      simp [karg] at h
      have := karg_mem G t (n + 2) i v h
      refine List.mem_cons_of_mem _ ?_
      have e : (kv G (.inr (.inl z))).category = 2 := rfl
      rw [if_pos e, show n + (i + 2) = n + 2 + i by omega]
      exact this
  | .inl z :: t, n, i, v, h => by
    match i with
    | 0 => simp [karg] at h; subst h; exact List.mem_cons_self
    | i + 1 =>
      simp [karg] at h
      have := karg_mem G t (n + 1) i v h
      refine List.mem_cons_of_mem _ ?_
      have e : ¬ (kv G (.inl z)).category = 2 := by rw [kcat_eq]; exact (by decide : ¬ (1 : Nat) = 2)
      rw [if_neg e, show n + (i + 1) = n + 1 + i by omega]
      exact this
  | .inr (.inr z) :: t, n, i, v, h => by
    match i with
    | 0 => simp [karg] at h; subst h; exact List.mem_cons_self
    | i + 1 =>
      simp [karg] at h
      have := karg_mem G t (n + 1) i v h
      refine List.mem_cons_of_mem _ ?_
      have e : ¬ (kv G (.inr (.inr z))).category = 2 := by rw [kcat_eq]; exact (by decide : ¬ (1 : Nat) = 2)
      rw [if_neg e, show n + (i + 1) = n + 1 + i by omega]
      exact this
theorem klg_cons (v : Value) (vs : List Value) : (lg_sl (v :: vs)).length = (if v.category = 2 then 2 else 1) + (lg_sl vs).length := by
  unfold lg_sl
  rw [List.flatMap_cons, List.length_append]
  split <;> rfl
theorem karg_len (G : KG) : ∀ (av : List AV), (lg_sl (av.map (kv G))).length = (karg av).length
  | [] => rfl
  | .inr (.inl z) :: t => by
    have := karg_len G t
    have e : (kv G (.inr (.inl z))).category = 2 := rfl
    rw [List.map_cons, klg_cons, this, if_pos e]
    show _ = (karg t).length + 1 + 1
    omega
  | .inl z :: t => by
    have := karg_len G t
    have e : ¬ (kv G (.inl z)).category = 2 := by rw [kcat_eq]; exact (by decide : ¬ (1 : Nat) = 2)
    rw [List.map_cons, klg_cons, this, if_neg e]
    show _ = (karg t).length + 1
    omega
  | .inr (.inr z) :: t => by
    have := karg_len G t
    have e : ¬ (kv G (.inr (.inr z))).category = 2 := by rw [kcat_eq]; exact (by decide : ¬ (1 : Nat) = 2)
    rw [List.map_cons, klg_cons, this, if_neg e]
    show _ = (karg t).length + 1
    omega
theorem kls_entry {G : KG} {av : List AV} {n : Nat} (h : (karg av).length ≤ n) : kls G (kpad n (karg av)) ((lg_sl (av.map (kv G)) ++ List.replicate (n - (lg_sl (av.map (kv G))).length) Slot.unset).toArray) n := by
  have h1 := lv_entry (av.map (kv G)) (n := n) (by rw [karg_len]; exact h)
  refine ⟨by simp [kpad]; omega, h1.1, h1.2.1, fun q hq => h1.2.2 q ?_⟩
  obtain ⟨j, x⟩ := q
  obtain ⟨i, w, e1, e2, e3⟩ := (kal_mem G _ 0 j x).mp hq
  have hij : j = i := by omega
  subst hij
  subst e3
  have e4 : (karg av)[j]? = some (some w) := by
    unfold kpad at e2
    by_cases hl : j < (karg av).length
    · rwa [List.getElem?_append_left hl] at e2
    · rw [List.getElem?_append_right (by omega)] at e2
      simp [List.getElem?_replicate] at e2
  have := karg_mem G av 0 j w e4
  rwa [Nat.zero_add] at this

/-- a method: its class, code, locals, answer, name -/
abbrev KM : Type := String × ByteArray × Nat × Option FieldType × MethodName
def kSane (S : KSt) : Prop := ∀ a : Int, (S.1.2.1 a).1 ≠ 0 → 0 ≤ a ∧ a < S.1.1
/-- the world in a heap -/
def kHeap (G : KG) (S : KSt) (H : Heap) : Prop := va_P (kD G) vwCl (kws G S) H ∧ H.size = kb0 G + S.1.1 ∧ kSane S
def kTab (G : KG) (U : State) (H : Heap) : Prop := va_K (kD G) vwCl (ktys G) U ∧ kFix G U H ∧ kNst G U
/-- what holds wherever a method of ours stands -/
def kCtx (G : KG) (M : KM) (d bc bs : Nat) (S : KSt) (p : Program) (R : Room) (s : State) (m : MethodId) (args : Array Value) (meth : Method) (c : Code) (H : Heap) (locs : List Loc) (cells slots : Nat) : Prop :=
  CallFix p m c M.2.1 M.2.2.1 s args KW M.1 ∧ (meth.sig.returnType = M.2.2.2.1 ∧ meth.locks = false ∧ meth.name = M.2.2.2.2.name) ∧
  (d ≤ R.frames ∧ 60 * d ≤ R.locals ∧ cells + bc ≤ R.cells ∧ slots + bs ≤ R.slots) ∧ kHeap G S H ∧ va_S (fun q => kb0 G ≤ q) s.heap H locs ∧ kTab G s s.heap
def kRet (ret : Option FieldType) (r : Option AV) (i : Instr) : Prop := match r with
  | none => ret = none ∧ i = .return_
  | some (.inl z) => i = .ireturn ∧ (ret = some .int ∨ (ret = some .boolean ∧ (z = 0 ∨ z = 1)))
  | some (.inr (.inl _)) => i = .lreturn ∧ ret = some .long
  | some (.inr (.inr z)) => i = .areturn ∧ ((∃ n, ret = some (.object n)) ∨ ∃ t, ret = some (.array t)) ∧ 0 ≤ z
/-- what a return gives -/
def kFin (G : KG) (M : KM) (Q : Option AV → KSt → Prop) (p : Program) (l : Launch) (e : Env) (R : Room) (s : State) (m : MethodId) (args : Array Value) (below : List Frame) (meth : Method) (c : Code) (Z : State → Prop) : Prop :=
  ∀ (r : Option AV) (S : KSt) (H : Heap) (locs : List Loc) (cells slots pc : Nat) (LS : Array Slot) (i : Instr), decode M.2.1 pc = .ok (i, 1) → kRet M.2.2.2.1 r i → cells ≤ R.cells → slots ≤ R.slots → kHeap G S H → va_S (fun q => kb0 G ≤ q) s.heap H locs → Q r S →
    W p l e R s m args below meth c H locs cells slots Z (F0 m pc LS (r.toList.map (kv G)))
/-- THE JUDGEMENT: from this place the method ends with Q -/
def kWP (G : KG) (M : KM) (d bc bs pc : Nat) (ls : List (Option AV)) (st : List AV) (S : KSt) (Q : Option AV → KSt → Prop) : Prop :=
  ∀ (p : Program) (l : Launch) (e : Env) (R : Room) (s : State) (m : MethodId) (args : Array Value) (below : List Frame) (meth : Method) (c : Code) (H : Heap) (locs : List Loc) (cells slots : Nat) (LS : Array Slot) (Z : State → Prop),
    kCtx G M d bc bs S p R s m args meth c H locs cells slots → kls G ls LS M.2.2.1 → kFin G M Q p l e R s m args below meth c Z → W p l e R s m args below meth c H locs cells slots Z (F0 m pc LS (st.map (kv G)))
def kws0 (M : KM) : List Cond := .code M.2.2.2.2 M.2.1 M.2.2.1 M.2.2.2.1 :: KW
def krm (d bc bs : Nat) : Room := { frames := d, cells := bc, slots := bs, locals := 60 * d }
def kPc (G : KG) (av : List AV) (S : KSt) : Array Value → State → Prop := fun a U => a = (av.map (kv G)).toArray ∧ kHeap G S U.heap ∧ kTab G U U.heap
def kQc (G : KG) (Q : Option AV → KSt → Prop) : Array Value → State → Outcome → State → Prop := fun _ st o t =>
  (∃ (r : Option AV) (S : KSt), o = .returned (r.map (kv G)) ∧ Q r S ∧ kHeap G S t.heap) ∧ va_F (fun q => kb0 G ≤ q) st t
/-- A CONTRACT: called with these in this world, it ends with Q -/
def kCall (G : KG) (M : KM) (d bc bs : Nat) (av : List AV) (S : KSt) (Q : Option AV → KSt → Prop) : Prop :=
  ∀ l : Launch, Met l M.2.2.2.2 (kws0 M) (krm d bc bs) (kPc G av S) (kQc G Q) bc bs (fun q => kb0 G ≤ q)
theorem kFix.moved {G : KG} {u U : State} {H : Heap} (hvm : u.vm.Alike U.vm) (h : kFix G u H) : kFix G U H :=
  ⟨h.1.moved hvm, h.2.1, h.2.2.1.moved hvm, h.2.2.2.1, h.2.2.2.2.1.moved hvm, h.2.2.2.2.2⟩
theorem kFix.kept {G : KG} {U : State} {H H1 : Heap} (h : kFix G U H) (hz : kb0 G ≤ H1.size) (hq : ∀ a : Nat, a < kb0 G → H1[a]? = H[a]?) : kFix G U H1 :=
  ⟨h.1.kept (hq _ h.2.1), h.2.1, h.2.2.1.kept (hq _ h.2.2.2.1), h.2.2.2.1, h.2.2.2.2.1.kept (fun a _ ha => hq a (Nat.not_le.mp ha)), hz⟩
theorem kNst.moved {G : KG} {u U : State} (hW : u.WarmedH U.vm) (h : kNst G u) : kNst G U := by
  refine ⟨fun w hw hx => ?_, ?_, h.2.2.moved hW.alike⟩
  · have h1 := h.1 w hw hx
    obtain ⟨a, i, y, hh, rfl⟩ := hx
    exact va_Nw.warmM hW h1
  · exact over_moved hW.alike h.2.1

theorem kTab.moved {G : KG} {u U : State} {H : Heap} (hW : u.WarmedH U.vm) (h : kTab G u H) : kTab G U H := ⟨h.1.moved hW.alike, h.2.1.moved hW.alike, h.2.2.moved hW⟩
theorem kPc_blind (G : KG) (av : List AV) (S : KSt) : FrameBlind (kPc G av S) := fun a U g mk q => ⟨q.1, q.2.1, q.2.2.moved (u := U) (U := U.calling g mk a) (State.WarmedH.refl U)⟩
/-- the contract out of the judgement at the entry -/
theorem kMet {G : KG} {M : KM} {d bc bs : Nat} {av : List AV} {S : KSt} {Q : Option AV → KSt → Prop} (hy : plainName M.2.2.2.2.cls = true) (hc : M.2.2.2.2.cls = M.1) (hlen : (karg av).length ≤ M.2.2.1)
    (k : kWP G M d bc bs 0 (kpad M.2.2.1 (karg av)) [] S Q) : kCall G M d bc bs av S Q := by
  intro l
  refine Met.ofW (cc := M.2.1) (maxL := M.2.2.1) (ret := M.2.2.2.1) hy rfl ?_
  intro p e s m args below meth c s₁ B hml hv
  obtain ⟨rfl, hH, hT⟩ := hv
  have hts := atoms_spec (ws := kws0 M) B.pre
  rw [lg_entry_eq]
  refine k p l e _ s m _ below meth c s.heap [] 0 0 _ _ ⟨⟨B.exec, B.bytes, hml, ?_, fun w hw => hts w (List.mem_cons_of_mem _ hw)⟩, ⟨B.returns, B.notSynchronized, (name_of_methodNamed B.named B.method).1⟩, ⟨Nat.le_refl _, Nat.le_refl _, Nat.le_of_eq (Nat.zero_add _), Nat.le_of_eq (Nat.zero_add _)⟩, hH, va_S.rf, hT⟩ (kls_entry hlen) ?_
  · rw [← hc]; exact findClass_of_methodNamed B.named
  · intro r S' H' locs cells slots pc LS i hd hr h1 h2 hH' hS hq
    have hlocks := B.notSynchronized
    refine W.widen (k := bc) (n := bs) h1 h2 ?_
    have fin : ∀ (v : Option Value), v = r.map (kv G) → ∀ t : State, t.heap = H' → s.WarmedH t.vm → kQc G Q ((av.map (kv G)).toArray) s (.returned v) t := fun v hv t ht _ => ⟨⟨r, S', by rw [hv], hq, by rw [ht]; exact hH'⟩, hS.F ht⟩
    match r, hr with
    | none, hr =>
      obtain ⟨a, rfl⟩ := hr
      exact W.vret B.exec B.bytes (B.returns.trans a) (fin none rfl) hS.2.2 hd
    | some (.inl z), hr =>
      obtain ⟨rfl, a | ⟨a, b⟩⟩ := hr
      · exact W.iret B.exec B.bytes (B.returns.trans a) (fin _ rfl) hS.2.2 hd
      · refine W.zret B.exec B.bytes (B.returns.trans a) ?_ (fin _ rfl) hS.2.2 hd
        rcases b with rfl | rfl <;> decide
    | some (.inr (.inl z)), hr =>
      obtain ⟨rfl, a⟩ := hr
      exact W.lret B.exec B.bytes (B.returns.trans a) (fin _ rfl) hS.2.2 hd
    | some (.inr (.inr z)), hr =>
      obtain ⟨rfl, a, h0⟩ := hr
      have e : kv G (.inr (.inr z)) = .ref (kb0 G + z.toNat) := if_pos h0
      rcases a with ⟨n, a⟩ | ⟨t, a⟩
      · exact W.aret B.exec B.bytes (B.returns.trans a) (Or.inl ⟨n, rfl⟩) (Or.inr ⟨_, e⟩) (fin _ rfl) hS.2.2 hd
      · exact W.aret B.exec B.bytes (B.returns.trans a) (Or.inr ⟨t, rfl⟩) (Or.inr ⟨_, e⟩) (fin _ rfl) hS.2.2 hd
theorem kWP_mono {G : KG} {M : KM} {d bc bs pc : Nat} {ls : List (Option AV)} {st : List AV} {S : KSt} {Q Q' : Option AV → KSt → Prop} (hQ : ∀ r S, Q r S → Q' r S) (k : kWP G M d bc bs pc ls st S Q) : kWP G M d bc bs pc ls st S Q' :=
  fun p l e R s m args below meth c H locs cells slots LS Z C hl hf => k p l e R s m args below meth c H locs cells slots LS Z C hl (fun r S H locs cells slots pc LS i h1 h2 h3 h4 h5 h6 h7 => hf r S H locs cells slots pc LS i h1 h2 h3 h4 h5 h6 (hQ r S h7))
theorem kCall_mono {G : KG} {M : KM} {d bc bs : Nat} {av : List AV} {S : KSt} {Q Q' : Option AV → KSt → Prop} (k : kCall G M d bc bs av S Q) (hQ : ∀ r S, Q r S → Q' r S) : kCall G M d bc bs av S Q' := by
  intro l p e ha hc hk s m args below hf happ hP hT
  obtain ⟨t, o, h1, h2, h3, hq, hL⟩ := k l p e ha hc hk s m args below hf happ hP hT
  obtain ⟨⟨r, S', e1, e2, e3⟩, hF⟩ := hq
  exact ⟨t, o, h1, h2, h3, ⟨⟨r, S', e1, hQ r S' e2, e3⟩, hF⟩, hL⟩
/-- behind a call -/
theorem k_goes {G : KG} {M : KM} {d bc bs bc2 bs2 pc : Nat} {ls : List (Option AV)} {st : List AV} {S : KSt} {Q : Option AV → KSt → Prop} {a : Array Value} {p : Program} {l : Launch} {e : Env} {R : Room} {s : State} {m : MethodId} {args : Array Value} {below : List Frame} {meth : Method} {c : Code} {H : Heap} {locs : List Loc} {cells slots : Nat} {LS : Array Slot} {Z : State → Prop} {st0 : List Value}
    (C : kCtx G M d (bc2 + bc) (bs2 + bs) S p R s m args meth c H locs cells slots) (hl : kls G ls LS M.2.2.1) (hf : kFin G M Q p l e R s m args below meth c Z)
    (hr : va_Run p l e R s m args below meth c H locs cells slots bc2 bs2 (F0 m pc LS st0) (st.map (kv G)) (kQc G (fun r S' => kWP G M d bc bs (pc + 3) ls (r.toList ++ st) S' Q) a) (fun q => kb0 G ≤ q)) :
    W p l e R s m args below meth c H locs cells slots Z (F0 m pc LS st0) := by
  obtain ⟨hfix, hm, ⟨hd, hlo, hce, hsl⟩, hH, hS, hT⟩ := C
  intro T hTT X
  obtain ⟨v, st₀, t, T', L, h0, X', hL, e1, e2, ⟨⟨r, S', hv, hk, hH'⟩, hz, hkeep⟩, stp⟩ := hr T hTT X
  cases hv
  rw [h0] at hz hkeep
  have hS' : va_S (fun q => kb0 G ≤ q) s.heap T'.heap (locs ++ L) := by
    refine ⟨Nat.le_trans hS.1 (by rw [e1]; exact hz), fun q h1 h2 => ?_, fun q hq => ?_⟩
    · rw [e1, hkeep q (Nat.lt_of_lt_of_le h1 hS.1) h2]
      exact hS.2.1 q h1 h2
    · rcases List.mem_append.mp hq with h | h
      · exact hS.2.2 q h
      · exact hL q h
  have hH2 : kHeap G S' T'.heap := by rw [e1]; exact hH'
  have kk := hk p l e R s m args below meth c T'.heap (locs ++ L) (cells + bc2) (slots + bs2) LS Z ⟨hfix, hm, ⟨hd, hlo, by omega, by omega⟩, hH2, hS', hT⟩ hl hf T' rfl X'
  obtain ⟨t2, a1, b1⟩ := kk
  refine ⟨t2, stp t2 ?_, b1⟩
  have e3 : (r.map (kv G)).toList ++ st.map (kv G) = (r.toList ++ st).map (kv G) := by
    cases r <;> simp
  show Steps _ _ _ (T'.setTop { (F0 m pc LS st0) with pc := pc + 3, stack := (r.map (kv G)).toList ++ st.map (kv G) }) _
  rw [e3]
  exact a1
theorem kcats (G : KG) (st : List AV) : ((st.map (kv G)).map fun v => v.category).sum = (st.map kcat).sum := by
  rw [List.map_map]
  congr 1
  exact List.map_congr_left (fun v _ => kcat_eq G v)
/-- the premises of a call that all kinds share -/
def kCalled (M M2 : KM) (av : List AV) (st : List AV) : Prop := M2.2.2.1 ≤ 41 ∧ M2.2.2.2.2.cls = M2.1 ∧ (M2.1 ≠ "java/lang/invoke/MethodHandle" ∧ M2.1 ≠ "java/lang/invoke/VarHandle") ∧ (parseMethodDescriptor M2.2.2.2.2.desc).map (fun d => d.parameters.length) = some av.length ∧ (st.map kcat).sum ≤ 8
theorem kPc_at {G : KG} {av : List AV} {S : KSt} {s : State} {H : Heap} {locs : List Loc} (hH : kHeap G S H) (hS : va_S (fun q => kb0 G ≤ q) s.heap H locs) (hT : kTab G s s.heap) : ∀ U : State, U.heap = H → s.WarmedH U.vm → kPc G av S (av.map (kv G)).toArray U := by
  intro U hU hW
  refine ⟨rfl, by rw [hU]; exact hH, ?_⟩
  have h1 := hT.moved hW
  refine ⟨h1.1, ?_, h1.2.2⟩
  rw [hU]
  refine h1.2.1.kept ?_ (fun a ha => ?_)
  · exact Nat.le_trans hT.2.1.2.2.2.2.2 hS.1
  · exact hS.2.1 a (Nat.lt_of_lt_of_le ha hT.2.1.2.2.2.2.2) (Nat.not_le.mpr ha)
