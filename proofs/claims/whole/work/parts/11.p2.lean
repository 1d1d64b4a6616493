abbrev kQ (S0 : KSh) (P : Option AV → KMem → Prop) : Option AV → KSt → Prop := fun r S => S.1 = S0 ∧ P r S.2
/-- the judgement, a contract, where nothing is made -/
abbrev kW2 (G : KG) (S0 : KSh) (M : KM) (d pc : Nat) (ls : List (Option AV)) (st : List AV) (c : KMem) (P : Option AV → KMem → Prop) : Prop := kWP G M d 0 0 pc ls st (S0, c) (kQ S0 P)
abbrev kC2 (G : KG) (S0 : KSh) (M : KM) (d : Nat) (av : List AV) (c : KMem) (P : Option AV → KMem → Prop) : Prop := kCall G M d 0 0 av (S0, c) (kQ S0 P)
theorem kC2_mono {G : KG} {S0 : KSh} {M : KM} {d : Nat} {av : List AV} {c : KMem} {P P' : Option AV → KMem → Prop} (k : kC2 G S0 M d av c P) (h : ∀ r c, P r c → P' r c) : kC2 G S0 M d av c P' := kCall_mono k (fun r S q => ⟨q.1, h r S.2 q.2⟩)
theorem kW2_mono {G : KG} {S0 : KSh} {M : KM} {d pc : Nat} {ls : List (Option AV)} {st : List AV} {c : KMem} {P P' : Option AV → KMem → Prop} (k : kW2 G S0 M d pc ls st c P) (h : ∀ r c, P r c → P' r c) : kW2 G S0 M d pc ls st c P' := kWP_mono (fun r S q => ⟨q.1, h r S.2 q.2⟩) k
/-- what an answer is -/
abbrev kRI (K : Int → KMem → Prop) : Option AV → KMem → Prop := fun r c => ∃ z : Int, r = some (kI z) ∧ K z c
abbrev kRL (K : Int → KMem → Prop) : Option AV → KMem → Prop := fun r c => ∃ z : Int, r = some (kL z) ∧ K z c
abbrev kRA (K : Int → KMem → Prop) : Option AV → KMem → Prop := fun r c => ∃ z : Int, r = some (kA z) ∧ K z c
abbrev kRN (K : KMem → Prop) : Option AV → KMem → Prop := fun r c => r = none ∧ K c
/-- a field: its class's words, its kind -/
def kFd (Cn : String) (T : u_T) (N ci k n : Nat) : Prop := kfty ci k = n ∧ (∀ w ∈ u_ws Cn T N, w ∈ KW) ∧ vwCl[ci]? = some (Cn, T, N) ∧ k < N ∧ (T k).1 = Cn
def kFp (Cn : String) (T : u_T) (tyf : Nat → FieldType) (N ci k n : Nat) (ty : FieldType) : Prop := kFd Cn T N ci k n ∧ (∀ k, k < N → parseFieldDescriptor (T k).2.2.1 = some (tyf k)) ∧ (∀ a, a < N → ∀ b, b < N → a ≠ b → (T a).2.1 ≠ (T b).2.1) ∧ (T k).2.2.2 = false ∧ tyf k = ty
section K2R
variable {G : KG} {S0 : KSh} {M M2 : KM} {d pc idx : Nat} {ls : List (Option AV)} {st : List AV} {c : KMem} {P : Option AV → KMem → Prop} {a b x : Int} {v1 v2 v3 v4 v5 v6 : AV}
theorem k2_getI {ci k N : Nat} {Cn : String} {T : u_T} (f : kFd Cn T N ci k 0) (hd : decode M.2.1 pc = .ok (.getfield idx, 3)) (hw : Cond.fieldLink M.1 idx Cn (T k).2.1 (T k).2.2.1 ∈ KW) (hs : S0.2.1 a = (10 + ci, N)) (k1 : kW2 G S0 M d (pc + 3) ls (kI (c a k) :: st) c P) : kW2 G S0 M d (pc) ls (kA a :: st) c P :=
  kw_getI f.1 f.2.1 f.2.2.1 f.2.2.2.1 hd f.2.2.2.2 hw hs k1
theorem k2_getL {ci k N : Nat} {Cn : String} {T : u_T} (f : kFd Cn T N ci k 1) (hd : decode M.2.1 pc = .ok (.getfield idx, 3)) (hw : Cond.fieldLink M.1 idx Cn (T k).2.1 (T k).2.2.1 ∈ KW) (hs : S0.2.1 a = (10 + ci, N)) (k1 : kW2 G S0 M d (pc + 3) ls (kL (c a k) :: st) c P) : kW2 G S0 M d (pc) ls (kA a :: st) c P :=
  kw_getL f.1 f.2.1 f.2.2.1 f.2.2.2.1 hd f.2.2.2.2 hw hs k1
theorem k2_getD {ci k N : Nat} {Cn : String} {T : u_T} (f : kFd Cn T N ci k 3) (hd : decode M.2.1 pc = .ok (.getfield idx, 3)) (hw : Cond.fieldLink M.1 idx Cn (T k).2.1 (T k).2.2.1 ∈ KW) (hs : S0.2.1 a = (10 + ci, N)) (k1 : kW2 G S0 M d (pc + 3) ls (kA (c a k) :: st) c P) : kW2 G S0 M d (pc) ls (kA a :: st) c P :=
  kw_getD f.1 f.2.1 f.2.2.1 f.2.2.2.1 hd f.2.2.2.2 hw hs k1
theorem k2_getR {ci k N : Nat} {Cn : String} {T : u_T} {v : Int} (f : kFd Cn T N ci k 2) (hd : decode M.2.1 pc = .ok (.getfield idx, 3)) (hw : Cond.fieldLink M.1 idx Cn (T k).2.1 (T k).2.2.1 ∈ KW) (hs : S0.2.1 a = (10 + ci, N)) (hv : S0.2.2 a k = v) (k1 : kW2 G S0 M d (pc + 3) ls (kA v :: st) c P) : kW2 G S0 M d (pc) ls (kA a :: st) c P :=
  kw_getR f.1 f.2.1 f.2.2.1 f.2.2.2.1 hd f.2.2.2.2 hw hs (hv ▸ k1)
theorem k2_iald {n : Nat} (hd : decode M.2.1 pc = .ok (.iaload, 1)) (hs : S0.2.1 a = (1, n)) (hn : n < 2147483648) (hi : 0 ≤ x ∧ x < n) (k1 : kW2 G S0 M d (pc + 1) ls (kI (c a x) :: st) c P) : kW2 G S0 M d (pc) ls (kI x :: kA a :: st) c P := kw_iald hd hs hn hi k1
theorem k2_lald {n : Nat} (hd : decode M.2.1 pc = .ok (.laload, 1)) (hs : S0.2.1 a = (2, n)) (hn : n < 2147483648) (hi : 0 ≤ x ∧ x < n) (k1 : kW2 G S0 M d (pc + 1) ls (kL (c a x) :: st) c P) : kW2 G S0 M d (pc) ls (kI x :: kA a :: st) c P := kw_lald hd hs hn hi k1
theorem k2_bald {n : Nat} (hd : decode M.2.1 pc = .ok (.baload, 1)) (hs : S0.2.1 a = (3, n)) (hn : n < 2147483648) (hi : 0 ≤ x ∧ x < n) (k1 : kW2 G S0 M d (pc + 1) ls (kI (c a x) :: st) c P) : kW2 G S0 M d (pc) ls (kI x :: kA a :: st) c P := kw_bald hd hs hn hi k1
theorem k2_zald {n : Nat} (hd : decode M.2.1 pc = .ok (.baload, 1)) (hs : S0.2.1 a = (4, n)) (hn : n < 2147483648) (hi : 0 ≤ x ∧ x < n) (k1 : kW2 G S0 M d (pc + 1) ls (kI (c a x) :: st) c P) : kW2 G S0 M d (pc) ls (kI x :: kA a :: st) c P := kw_zald hd hs hn hi k1
theorem k2_aald5 {n : Nat} {v : Int} (hd : decode M.2.1 pc = .ok (.aaload, 1)) (hs : S0.2.1 a = (5, n)) (hn : n < 2147483648) (hi : 0 ≤ x ∧ x < n) (hv : S0.2.2 a x = v) (h0 : -1 ≤ v) (k1 : kW2 G S0 M d (pc + 1) ls (kA v :: st) c P) : kW2 G S0 M d (pc) ls (kI x :: kA a :: st) c P := kw_aald5 hd hs hn hi (by rw [hv]; exact h0) (hv ▸ k1)
theorem k2_aald6 {n : Nat} {v : Int} (hd : decode M.2.1 pc = .ok (.aaload, 1)) (hs : S0.2.1 a = (6, n)) (hn : n < 2147483648) (hi : 0 ≤ x ∧ x < n) (hv : S0.2.2 a x = v) (h0 : -1 ≤ v) (k1 : kW2 G S0 M d (pc + 1) ls (kA v :: st) c P) : kW2 G S0 M d (pc) ls (kI x :: kA a :: st) c P := kw_aald6 hd hs hn hi (by rw [hv]; exact h0) (hv ▸ k1)
theorem k2_iast {n : Nat} (hd : decode M.2.1 pc = .ok (.iastore, 1)) (hs : S0.2.1 a = (1, n)) (hn : n < 2147483648) (hi : 0 ≤ x ∧ x < n) (k1 : kW2 G S0 M d (pc + 1) ls (st) (kup c a x (b)) P) : kW2 G S0 M d (pc) ls (kI b :: kI x :: kA a :: st) c P := kw_iast hd hs hn hi k1
theorem k2_last {n : Nat} (hd : decode M.2.1 pc = .ok (.lastore, 1)) (hs : S0.2.1 a = (2, n)) (hn : n < 2147483648) (hi : 0 ≤ x ∧ x < n) (k1 : kW2 G S0 M d (pc + 1) ls (st) (kup c a x (b)) P) : kW2 G S0 M d (pc) ls (kL b :: kI x :: kA a :: st) c P := kw_last hd hs hn hi k1
theorem k2_bast {n : Nat} (hd : decode M.2.1 pc = .ok (.bastore, 1)) (hs : S0.2.1 a = (3, n)) (hn : n < 2147483648) (hi : 0 ≤ x ∧ x < n) (k1 : kW2 G S0 M d (pc + 1) ls (st) (kup c a x (ki2b b)) P) : kW2 G S0 M d (pc) ls (kI b :: kI x :: kA a :: st) c P := kw_bast hd hs hn hi k1
theorem k2_zast {n : Nat} (hd : decode M.2.1 pc = .ok (.bastore, 1)) (hs : S0.2.1 a = (4, n)) (hn : n < 2147483648) (hi : 0 ≤ x ∧ x < n) (k1 : kW2 G S0 M d (pc + 1) ls (st) (kup c a x (kb1 b)) P) : kW2 G S0 M d (pc) ls (kI b :: kI x :: kA a :: st) c P := kw_zast hd hs hn hi k1
theorem kb1_01 {b : Int} (h : b = 0 ∨ b = 1) : kb1 b = b := by rcases h with rfl | rfl <;> decide
theorem k2_zast1 {n : Nat} (h01 : b = 0 ∨ b = 1) (hd : decode M.2.1 pc = .ok (.bastore, 1)) (hs : S0.2.1 a = (4, n)) (hn : n < 2147483648) (hi : 0 ≤ x ∧ x < n) (k1 : kW2 G S0 M d (pc + 1) ls (st) (kup c a x b) P) : kW2 G S0 M d (pc) ls (kI b :: kI x :: kA a :: st) c P := k2_zast hd hs hn hi (by rw [kb1_01 h01]; exact k1)
theorem k2_putI {ci k N : Nat} {Cn : String} {T : u_T} {tyf : Nat → FieldType} (f : kFp Cn T tyf N ci k 0 .int) (hd : decode M.2.1 pc = .ok (.putfield idx, 3)) (hw : Cond.fieldLink M.1 idx Cn (T k).2.1 (T k).2.2.1 ∈ KW) (hs : S0.2.1 a = (10 + ci, N)) (k1 : kW2 G S0 M d (pc + 3) ls (st) (kup c a k b) P) : kW2 G S0 M d (pc) ls (kI b :: kA a :: st) c P :=
  kw_putI f.1.1 f.1.2.1 tyf f.2.1 f.2.2.1 f.1.2.2.1 f.1.2.2.2.1 hd f.1.2.2.2.2 hw f.2.2.2.1 hs f.2.2.2.2 k1
theorem k2_putZ {ci k N : Nat} {Cn : String} {T : u_T} {tyf : Nat → FieldType} (f : kFp Cn T tyf N ci k 0 .boolean) (hd : decode M.2.1 pc = .ok (.putfield idx, 3)) (hw : Cond.fieldLink M.1 idx Cn (T k).2.1 (T k).2.2.1 ∈ KW) (hs : S0.2.1 a = (10 + ci, N)) (h01 : b = 0 ∨ b = 1) (k1 : kW2 G S0 M d (pc + 3) ls (st) (kup c a k b) P) : kW2 G S0 M d (pc) ls (kI b :: kA a :: st) c P :=
  kw_putZ f.1.1 f.1.2.1 tyf f.2.1 f.2.2.1 f.1.2.2.1 f.1.2.2.2.1 hd f.1.2.2.2.2 hw f.2.2.2.1 hs f.2.2.2.2 h01 k1
theorem k2_putL {ci k N : Nat} {Cn : String} {T : u_T} {tyf : Nat → FieldType} (f : kFp Cn T tyf N ci k 1 .long) (hd : decode M.2.1 pc = .ok (.putfield idx, 3)) (hw : Cond.fieldLink M.1 idx Cn (T k).2.1 (T k).2.2.1 ∈ KW) (hs : S0.2.1 a = (10 + ci, N)) (k1 : kW2 G S0 M d (pc + 3) ls (st) (kup c a k b) P) : kW2 G S0 M d (pc) ls (kL b :: kA a :: st) c P :=
  kw_putL f.1.1 f.1.2.1 tyf f.2.1 f.2.2.1 f.1.2.2.1 f.1.2.2.2.1 hd f.1.2.2.2.2 hw f.2.2.2.1 hs f.2.2.2.2 k1
theorem k2_putD {ci k N : Nat} {Cn : String} {T : u_T} {tyf : Nat → FieldType} {u : FieldType} (f : kFp Cn T tyf N ci k 3 (.array u)) (hd : decode M.2.1 pc = .ok (.putfield idx, 3)) (hw : Cond.fieldLink M.1 idx Cn (T k).2.1 (T k).2.2.1 ∈ KW) (hs : S0.2.1 a = (10 + ci, N)) (k1 : kW2 G S0 M d (pc + 3) ls (st) (kup c a k b) P) : kW2 G S0 M d (pc) ls (kA b :: kA a :: st) c P :=
  kw_putD f.1.1 f.1.2.1 tyf f.2.1 f.2.2.1 f.1.2.2.1 f.1.2.2.2.1 hd f.1.2.2.2.2 hw f.2.2.2.1 hs (Or.inr ⟨u, f.2.2.2.2⟩) k1
theorem k2_copyi {n0 n1 : Nat} {y n : Int} (hd : decode M.2.1 pc = .ok (.invokestatic idx, 3)) (hw : Cond.methodLink M.1 idx arraycopyName ∈ KW) (hsa : S0.2.1 a = (1, n0)) (hsb : S0.2.1 b = (1, n1)) (hn0 : n0 < 1073741824) (hn1 : n1 < 1073741824) (hx : 0 ≤ x ∧ 0 ≤ y ∧ 0 ≤ n ∧ x + n ≤ n0 ∧ y + n ≤ n1) (hcat : (st.map kcat).sum ≤ 8) (k1 : kW2 G S0 M (d + 1) (pc + 3) ls (st) (kcpy c a b x y n) P) : kW2 G S0 M (d + 1) (pc) ls (kI n :: kI y :: kA b :: kI x :: kA a :: st) c P := kw_copyi hd hw w_acn w_acs w_aci hsa hsb hn0 hn1 hx hcat k1
theorem k2_copyl {n0 n1 : Nat} {y n : Int} (hd : decode M.2.1 pc = .ok (.invokestatic idx, 3)) (hw : Cond.methodLink M.1 idx arraycopyName ∈ KW) (hsa : S0.2.1 a = (2, n0)) (hsb : S0.2.1 b = (2, n1)) (hn0 : n0 < 1073741824) (hn1 : n1 < 1073741824) (hx : 0 ≤ x ∧ 0 ≤ y ∧ 0 ≤ n ∧ x + n ≤ n0 ∧ y + n ≤ n1) (hcat : (st.map kcat).sum ≤ 8) (k1 : kW2 G S0 M (d + 1) (pc + 3) ls (st) (kcpy c a b x y n) P) : kW2 G S0 M (d + 1) (pc) ls (kI n :: kI y :: kA b :: kI x :: kA a :: st) c P := kw_copyl hd hw w_acn w_acs w_aci hsa hsb hn0 hn1 hx hcat k1
theorem k2_callV0I {ci N : Nat} {T : u_T} (hc : vwCl[ci]? = some (M2.1, T, N)) (hs : S0.2.1 a = (10 + ci, N)) (hm : kMthV M2 0) (hd : decode M.2.1 pc = .ok (.invokevirtual idx, 3)) (hw : Cond.methodLink M.1 idx M2.2.2.2.2 ∈ KW) (hcat : (st.map kcat).sum ≤ 8) (k1 : kC2 G S0 M2 d [kA a] c (kRI (fun z c2 => kW2 G S0 M (d + 1) (pc + 3) ls (kI z :: st) c2 P))) : kW2 G S0 M (d + 1) (pc) ls (kA a :: st) c P :=
  kw_callV (bc := 0) (bs := 0) (bc2 := 0) (bs2 := 0) (av := []) hc hs hm hd hw rfl hcat (kCall_mono k1 (fun r S h => by
    obtain ⟨h0, h⟩ := h
    obtain ⟨z, rfl, h⟩ := h
    obtain ⟨S1, c1⟩ := S
    subst h0
    exact h))
theorem k2_callV0L {ci N : Nat} {T : u_T} (hc : vwCl[ci]? = some (M2.1, T, N)) (hs : S0.2.1 a = (10 + ci, N)) (hm : kMthV M2 0) (hd : decode M.2.1 pc = .ok (.invokevirtual idx, 3)) (hw : Cond.methodLink M.1 idx M2.2.2.2.2 ∈ KW) (hcat : (st.map kcat).sum ≤ 8) (k1 : kC2 G S0 M2 d [kA a] c (kRL (fun z c2 => kW2 G S0 M (d + 1) (pc + 3) ls (kL z :: st) c2 P))) : kW2 G S0 M (d + 1) (pc) ls (kA a :: st) c P :=
  kw_callV (bc := 0) (bs := 0) (bc2 := 0) (bs2 := 0) (av := []) hc hs hm hd hw rfl hcat (kCall_mono k1 (fun r S h => by
    obtain ⟨h0, h⟩ := h
    obtain ⟨z, rfl, h⟩ := h
    obtain ⟨S1, c1⟩ := S
    subst h0
    exact h))
theorem k2_callV0A {ci N : Nat} {T : u_T} (hc : vwCl[ci]? = some (M2.1, T, N)) (hs : S0.2.1 a = (10 + ci, N)) (hm : kMthV M2 0) (hd : decode M.2.1 pc = .ok (.invokevirtual idx, 3)) (hw : Cond.methodLink M.1 idx M2.2.2.2.2 ∈ KW) (hcat : (st.map kcat).sum ≤ 8) (k1 : kC2 G S0 M2 d [kA a] c (kRA (fun z c2 => kW2 G S0 M (d + 1) (pc + 3) ls (kA z :: st) c2 P))) : kW2 G S0 M (d + 1) (pc) ls (kA a :: st) c P :=
  kw_callV (bc := 0) (bs := 0) (bc2 := 0) (bs2 := 0) (av := []) hc hs hm hd hw rfl hcat (kCall_mono k1 (fun r S h => by
    obtain ⟨h0, h⟩ := h
    obtain ⟨z, rfl, h⟩ := h
    obtain ⟨S1, c1⟩ := S
    subst h0
    exact h))
theorem k2_callV0N {ci N : Nat} {T : u_T} (hc : vwCl[ci]? = some (M2.1, T, N)) (hs : S0.2.1 a = (10 + ci, N)) (hm : kMthV M2 0) (hd : decode M.2.1 pc = .ok (.invokevirtual idx, 3)) (hw : Cond.methodLink M.1 idx M2.2.2.2.2 ∈ KW) (hcat : (st.map kcat).sum ≤ 8) (k1 : kC2 G S0 M2 d [kA a] c (kRN (fun c2 => kW2 G S0 M (d + 1) (pc + 3) ls st c2 P))) : kW2 G S0 M (d + 1) (pc) ls (kA a :: st) c P :=
  kw_callV (bc := 0) (bs := 0) (bc2 := 0) (bs2 := 0) (av := []) hc hs hm hd hw rfl hcat (kCall_mono k1 (fun r S h => by
    obtain ⟨h0, h⟩ := h
    obtain ⟨rfl, h⟩ := h
    obtain ⟨S1, c1⟩ := S
    subst h0
    exact h))
theorem k2_callV1I {ci N : Nat} {T : u_T} (hc : vwCl[ci]? = some (M2.1, T, N)) (hs : S0.2.1 a = (10 + ci, N)) (hm : kMthV M2 1) (hd : decode M.2.1 pc = .ok (.invokevirtual idx, 3)) (hw : Cond.methodLink M.1 idx M2.2.2.2.2 ∈ KW) (hcat : (st.map kcat).sum ≤ 8) (k1 : kC2 G S0 M2 d [kA a, v1] c (kRI (fun z c2 => kW2 G S0 M (d + 1) (pc + 3) ls (kI z :: st) c2 P))) : kW2 G S0 M (d + 1) (pc) ls (v1 :: kA a :: st) c P :=
  kw_callV (bc := 0) (bs := 0) (bc2 := 0) (bs2 := 0) (av := [v1]) hc hs hm hd hw rfl hcat (kCall_mono k1 (fun r S h => by
    obtain ⟨h0, h⟩ := h
    obtain ⟨z, rfl, h⟩ := h
    obtain ⟨S1, c1⟩ := S
    subst h0
    exact h))
theorem k2_callV1L {ci N : Nat} {T : u_T} (hc : vwCl[ci]? = some (M2.1, T, N)) (hs : S0.2.1 a = (10 + ci, N)) (hm : kMthV M2 1) (hd : decode M.2.1 pc = .ok (.invokevirtual idx, 3)) (hw : Cond.methodLink M.1 idx M2.2.2.2.2 ∈ KW) (hcat : (st.map kcat).sum ≤ 8) (k1 : kC2 G S0 M2 d [kA a, v1] c (kRL (fun z c2 => kW2 G S0 M (d + 1) (pc + 3) ls (kL z :: st) c2 P))) : kW2 G S0 M (d + 1) (pc) ls (v1 :: kA a :: st) c P :=
  kw_callV (bc := 0) (bs := 0) (bc2 := 0) (bs2 := 0) (av := [v1]) hc hs hm hd hw rfl hcat (kCall_mono k1 (fun r S h => by
    obtain ⟨h0, h⟩ := h
    obtain ⟨z, rfl, h⟩ := h
    obtain ⟨S1, c1⟩ := S
    subst h0
    exact h))
theorem k2_callV1A {ci N : Nat} {T : u_T} (hc : vwCl[ci]? = some (M2.1, T, N)) (hs : S0.2.1 a = (10 + ci, N)) (hm : kMthV M2 1) (hd : decode M.2.1 pc = .ok (.invokevirtual idx, 3)) (hw : Cond.methodLink M.1 idx M2.2.2.2.2 ∈ KW) (hcat : (st.map kcat).sum ≤ 8) (k1 : kC2 G S0 M2 d [kA a, v1] c (kRA (fun z c2 => kW2 G S0 M (d + 1) (pc + 3) ls (kA z :: st) c2 P))) : kW2 G S0 M (d + 1) (pc) ls (v1 :: kA a :: st) c P :=
  kw_callV (bc := 0) (bs := 0) (bc2 := 0) (bs2 := 0) (av := [v1]) hc hs hm hd hw rfl hcat (kCall_mono k1 (fun r S h => by
    obtain ⟨h0, h⟩ := h
    obtain ⟨z, rfl, h⟩ := h
    obtain ⟨S1, c1⟩ := S
    subst h0
    exact h))
theorem k2_callV1N {ci N : Nat} {T : u_T} (hc : vwCl[ci]? = some (M2.1, T, N)) (hs : S0.2.1 a = (10 + ci, N)) (hm : kMthV M2 1) (hd : decode M.2.1 pc = .ok (.invokevirtual idx, 3)) (hw : Cond.methodLink M.1 idx M2.2.2.2.2 ∈ KW) (hcat : (st.map kcat).sum ≤ 8) (k1 : kC2 G S0 M2 d [kA a, v1] c (kRN (fun c2 => kW2 G S0 M (d + 1) (pc + 3) ls st c2 P))) : kW2 G S0 M (d + 1) (pc) ls (v1 :: kA a :: st) c P :=
  kw_callV (bc := 0) (bs := 0) (bc2 := 0) (bs2 := 0) (av := [v1]) hc hs hm hd hw rfl hcat (kCall_mono k1 (fun r S h => by
    obtain ⟨h0, h⟩ := h
    obtain ⟨rfl, h⟩ := h
    obtain ⟨S1, c1⟩ := S
    subst h0
    exact h))
theorem k2_callV2I {ci N : Nat} {T : u_T} (hc : vwCl[ci]? = some (M2.1, T, N)) (hs : S0.2.1 a = (10 + ci, N)) (hm : kMthV M2 2) (hd : decode M.2.1 pc = .ok (.invokevirtual idx, 3)) (hw : Cond.methodLink M.1 idx M2.2.2.2.2 ∈ KW) (hcat : (st.map kcat).sum ≤ 8) (k1 : kC2 G S0 M2 d [kA a, v1, v2] c (kRI (fun z c2 => kW2 G S0 M (d + 1) (pc + 3) ls (kI z :: st) c2 P))) : kW2 G S0 M (d + 1) (pc) ls (v2 :: v1 :: kA a :: st) c P :=
  kw_callV (bc := 0) (bs := 0) (bc2 := 0) (bs2 := 0) (av := [v1, v2]) hc hs hm hd hw rfl hcat (kCall_mono k1 (fun r S h => by
    obtain ⟨h0, h⟩ := h
    obtain ⟨z, rfl, h⟩ := h
    obtain ⟨S1, c1⟩ := S
    subst h0
    exact h))
theorem k2_callV2L {ci N : Nat} {T : u_T} (hc : vwCl[ci]? = some (M2.1, T, N)) (hs : S0.2.1 a = (10 + ci, N)) (hm : kMthV M2 2) (hd : decode M.2.1 pc = .ok (.invokevirtual idx, 3)) (hw : Cond.methodLink M.1 idx M2.2.2.2.2 ∈ KW) (hcat : (st.map kcat).sum ≤ 8) (k1 : kC2 G S0 M2 d [kA a, v1, v2] c (kRL (fun z c2 => kW2 G S0 M (d + 1) (pc + 3) ls (kL z :: st) c2 P))) : kW2 G S0 M (d + 1) (pc) ls (v2 :: v1 :: kA a :: st) c P :=
  kw_callV (bc := 0) (bs := 0) (bc2 := 0) (bs2 := 0) (av := [v1, v2]) hc hs hm hd hw rfl hcat (kCall_mono k1 (fun r S h => by
    obtain ⟨h0, h⟩ := h
    obtain ⟨z, rfl, h⟩ := h
    obtain ⟨S1, c1⟩ := S
    subst h0
    exact h))
theorem k2_callV2A {ci N : Nat} {T : u_T} (hc : vwCl[ci]? = some (M2.1, T, N)) (hs : S0.2.1 a = (10 + ci, N)) (hm : kMthV M2 2) (hd : decode M.2.1 pc = .ok (.invokevirtual idx, 3)) (hw : Cond.methodLink M.1 idx M2.2.2.2.2 ∈ KW) (hcat : (st.map kcat).sum ≤ 8) (k1 : kC2 G S0 M2 d [kA a, v1, v2] c (kRA (fun z c2 => kW2 G S0 M (d + 1) (pc + 3) ls (kA z :: st) c2 P))) : kW2 G S0 M (d + 1) (pc) ls (v2 :: v1 :: kA a :: st) c P :=
  kw_callV (bc := 0) (bs := 0) (bc2 := 0) (bs2 := 0) (av := [v1, v2]) hc hs hm hd hw rfl hcat (kCall_mono k1 (fun r S h => by
    obtain ⟨h0, h⟩ := h
    obtain ⟨z, rfl, h⟩ := h
    obtain ⟨S1, c1⟩ := S
    subst h0
    exact h))
theorem k2_callV2N {ci N : Nat} {T : u_T} (hc : vwCl[ci]? = some (M2.1, T, N)) (hs : S0.2.1 a = (10 + ci, N)) (hm : kMthV M2 2) (hd : decode M.2.1 pc = .ok (.invokevirtual idx, 3)) (hw : Cond.methodLink M.1 idx M2.2.2.2.2 ∈ KW) (hcat : (st.map kcat).sum ≤ 8) (k1 : kC2 G S0 M2 d [kA a, v1, v2] c (kRN (fun c2 => kW2 G S0 M (d + 1) (pc + 3) ls st c2 P))) : kW2 G S0 M (d + 1) (pc) ls (v2 :: v1 :: kA a :: st) c P :=
  kw_callV (bc := 0) (bs := 0) (bc2 := 0) (bs2 := 0) (av := [v1, v2]) hc hs hm hd hw rfl hcat (kCall_mono k1 (fun r S h => by
    obtain ⟨h0, h⟩ := h
    obtain ⟨rfl, h⟩ := h
    obtain ⟨S1, c1⟩ := S
    subst h0
    exact h))
theorem k2_callV3I {ci N : Nat} {T : u_T} (hc : vwCl[ci]? = some (M2.1, T, N)) (hs : S0.2.1 a = (10 + ci, N)) (hm : kMthV M2 3) (hd : decode M.2.1 pc = .ok (.invokevirtual idx, 3)) (hw : Cond.methodLink M.1 idx M2.2.2.2.2 ∈ KW) (hcat : (st.map kcat).sum ≤ 8) (k1 : kC2 G S0 M2 d [kA a, v1, v2, v3] c (kRI (fun z c2 => kW2 G S0 M (d + 1) (pc + 3) ls (kI z :: st) c2 P))) : kW2 G S0 M (d + 1) (pc) ls (v3 :: v2 :: v1 :: kA a :: st) c P :=
  kw_callV (bc := 0) (bs := 0) (bc2 := 0) (bs2 := 0) (av := [v1, v2, v3]) hc hs hm hd hw rfl hcat (kCall_mono k1 (fun r S h => by
    obtain ⟨h0, h⟩ := h
    obtain ⟨z, rfl, h⟩ := h
    obtain ⟨S1, c1⟩ := S
    subst h0
    exact h))
theorem k2_callV3L {ci N : Nat} {T : u_T} (hc : vwCl[ci]? = some (M2.1, T, N)) (hs : S0.2.1 a = (10 + ci, N)) (hm : kMthV M2 3) (hd : decode M.2.1 pc = .ok (.invokevirtual idx, 3)) (hw : Cond.methodLink M.1 idx M2.2.2.2.2 ∈ KW) (hcat : (st.map kcat).sum ≤ 8) (k1 : kC2 G S0 M2 d [kA a, v1, v2, v3] c (kRL (fun z c2 => kW2 G S0 M (d + 1) (pc + 3) ls (kL z :: st) c2 P))) : kW2 G S0 M (d + 1) (pc) ls (v3 :: v2 :: v1 :: kA a :: st) c P :=
  kw_callV (bc := 0) (bs := 0) (bc2 := 0) (bs2 := 0) (av := [v1, v2, v3]) hc hs hm hd hw rfl hcat (kCall_mono k1 (fun r S h => by
    obtain ⟨h0, h⟩ := h
    obtain ⟨z, rfl, h⟩ := h
    obtain ⟨S1, c1⟩ := S
    subst h0
    exact h))
theorem k2_callV3A {ci N : Nat} {T : u_T} (hc : vwCl[ci]? = some (M2.1, T, N)) (hs : S0.2.1 a = (10 + ci, N)) (hm : kMthV M2 3) (hd : decode M.2.1 pc = .ok (.invokevirtual idx, 3)) (hw : Cond.methodLink M.1 idx M2.2.2.2.2 ∈ KW) (hcat : (st.map kcat).sum ≤ 8) (k1 : kC2 G S0 M2 d [kA a, v1, v2, v3] c (kRA (fun z c2 => kW2 G S0 M (d + 1) (pc + 3) ls (kA z :: st) c2 P))) : kW2 G S0 M (d + 1) (pc) ls (v3 :: v2 :: v1 :: kA a :: st) c P :=
  kw_callV (bc := 0) (bs := 0) (bc2 := 0) (bs2 := 0) (av := [v1, v2, v3]) hc hs hm hd hw rfl hcat (kCall_mono k1 (fun r S h => by
    obtain ⟨h0, h⟩ := h
    obtain ⟨z, rfl, h⟩ := h
    obtain ⟨S1, c1⟩ := S
    subst h0
    exact h))
theorem k2_callV3N {ci N : Nat} {T : u_T} (hc : vwCl[ci]? = some (M2.1, T, N)) (hs : S0.2.1 a = (10 + ci, N)) (hm : kMthV M2 3) (hd : decode M.2.1 pc = .ok (.invokevirtual idx, 3)) (hw : Cond.methodLink M.1 idx M2.2.2.2.2 ∈ KW) (hcat : (st.map kcat).sum ≤ 8) (k1 : kC2 G S0 M2 d [kA a, v1, v2, v3] c (kRN (fun c2 => kW2 G S0 M (d + 1) (pc + 3) ls st c2 P))) : kW2 G S0 M (d + 1) (pc) ls (v3 :: v2 :: v1 :: kA a :: st) c P :=
  kw_callV (bc := 0) (bs := 0) (bc2 := 0) (bs2 := 0) (av := [v1, v2, v3]) hc hs hm hd hw rfl hcat (kCall_mono k1 (fun r S h => by
    obtain ⟨h0, h⟩ := h
    obtain ⟨rfl, h⟩ := h
    obtain ⟨S1, c1⟩ := S
    subst h0
    exact h))
theorem k2_callV4I {ci N : Nat} {T : u_T} (hc : vwCl[ci]? = some (M2.1, T, N)) (hs : S0.2.1 a = (10 + ci, N)) (hm : kMthV M2 4) (hd : decode M.2.1 pc = .ok (.invokevirtual idx, 3)) (hw : Cond.methodLink M.1 idx M2.2.2.2.2 ∈ KW) (hcat : (st.map kcat).sum ≤ 8) (k1 : kC2 G S0 M2 d [kA a, v1, v2, v3, v4] c (kRI (fun z c2 => kW2 G S0 M (d + 1) (pc + 3) ls (kI z :: st) c2 P))) : kW2 G S0 M (d + 1) (pc) ls (v4 :: v3 :: v2 :: v1 :: kA a :: st) c P :=
  kw_callV (bc := 0) (bs := 0) (bc2 := 0) (bs2 := 0) (av := [v1, v2, v3, v4]) hc hs hm hd hw rfl hcat (kCall_mono k1 (fun r S h => by
    obtain ⟨h0, h⟩ := h
    obtain ⟨z, rfl, h⟩ := h
    obtain ⟨S1, c1⟩ := S
    subst h0
    exact h))
theorem k2_callV4L {ci N : Nat} {T : u_T} (hc : vwCl[ci]? = some (M2.1, T, N)) (hs : S0.2.1 a = (10 + ci, N)) (hm : kMthV M2 4) (hd : decode M.2.1 pc = .ok (.invokevirtual idx, 3)) (hw : Cond.methodLink M.1 idx M2.2.2.2.2 ∈ KW) (hcat : (st.map kcat).sum ≤ 8) (k1 : kC2 G S0 M2 d [kA a, v1, v2, v3, v4] c (kRL (fun z c2 => kW2 G S0 M (d + 1) (pc + 3) ls (kL z :: st) c2 P))) : kW2 G S0 M (d + 1) (pc) ls (v4 :: v3 :: v2 :: v1 :: kA a :: st) c P :=
  kw_callV (bc := 0) (bs := 0) (bc2 := 0) (bs2 := 0) (av := [v1, v2, v3, v4]) hc hs hm hd hw rfl hcat (kCall_mono k1 (fun r S h => by
    obtain ⟨h0, h⟩ := h
    obtain ⟨z, rfl, h⟩ := h
    obtain ⟨S1, c1⟩ := S
    subst h0
    exact h))
theorem k2_callV4A {ci N : Nat} {T : u_T} (hc : vwCl[ci]? = some (M2.1, T, N)) (hs : S0.2.1 a = (10 + ci, N)) (hm : kMthV M2 4) (hd : decode M.2.1 pc = .ok (.invokevirtual idx, 3)) (hw : Cond.methodLink M.1 idx M2.2.2.2.2 ∈ KW) (hcat : (st.map kcat).sum ≤ 8) (k1 : kC2 G S0 M2 d [kA a, v1, v2, v3, v4] c (kRA (fun z c2 => kW2 G S0 M (d + 1) (pc + 3) ls (kA z :: st) c2 P))) : kW2 G S0 M (d + 1) (pc) ls (v4 :: v3 :: v2 :: v1 :: kA a :: st) c P :=
  kw_callV (bc := 0) (bs := 0) (bc2 := 0) (bs2 := 0) (av := [v1, v2, v3, v4]) hc hs hm hd hw rfl hcat (kCall_mono k1 (fun r S h => by
    obtain ⟨h0, h⟩ := h
    obtain ⟨z, rfl, h⟩ := h
    obtain ⟨S1, c1⟩ := S
    subst h0
    exact h))
theorem k2_callV4N {ci N : Nat} {T : u_T} (hc : vwCl[ci]? = some (M2.1, T, N)) (hs : S0.2.1 a = (10 + ci, N)) (hm : kMthV M2 4) (hd : decode M.2.1 pc = .ok (.invokevirtual idx, 3)) (hw : Cond.methodLink M.1 idx M2.2.2.2.2 ∈ KW) (hcat : (st.map kcat).sum ≤ 8) (k1 : kC2 G S0 M2 d [kA a, v1, v2, v3, v4] c (kRN (fun c2 => kW2 G S0 M (d + 1) (pc + 3) ls st c2 P))) : kW2 G S0 M (d + 1) (pc) ls (v4 :: v3 :: v2 :: v1 :: kA a :: st) c P :=
  kw_callV (bc := 0) (bs := 0) (bc2 := 0) (bs2 := 0) (av := [v1, v2, v3, v4]) hc hs hm hd hw rfl hcat (kCall_mono k1 (fun r S h => by
    obtain ⟨h0, h⟩ := h
    obtain ⟨rfl, h⟩ := h
    obtain ⟨S1, c1⟩ := S
    subst h0
    exact h))
theorem k2_callV5I {ci N : Nat} {T : u_T} (hc : vwCl[ci]? = some (M2.1, T, N)) (hs : S0.2.1 a = (10 + ci, N)) (hm : kMthV M2 5) (hd : decode M.2.1 pc = .ok (.invokevirtual idx, 3)) (hw : Cond.methodLink M.1 idx M2.2.2.2.2 ∈ KW) (hcat : (st.map kcat).sum ≤ 8) (k1 : kC2 G S0 M2 d [kA a, v1, v2, v3, v4, v5] c (kRI (fun z c2 => kW2 G S0 M (d + 1) (pc + 3) ls (kI z :: st) c2 P))) : kW2 G S0 M (d + 1) (pc) ls (v5 :: v4 :: v3 :: v2 :: v1 :: kA a :: st) c P :=
  kw_callV (bc := 0) (bs := 0) (bc2 := 0) (bs2 := 0) (av := [v1, v2, v3, v4, v5]) hc hs hm hd hw rfl hcat (kCall_mono k1 (fun r S h => by
    obtain ⟨h0, h⟩ := h
    obtain ⟨z, rfl, h⟩ := h
    obtain ⟨S1, c1⟩ := S
    subst h0
    exact h))
theorem k2_callV5L {ci N : Nat} {T : u_T} (hc : vwCl[ci]? = some (M2.1, T, N)) (hs : S0.2.1 a = (10 + ci, N)) (hm : kMthV M2 5) (hd : decode M.2.1 pc = .ok (.invokevirtual idx, 3)) (hw : Cond.methodLink M.1 idx M2.2.2.2.2 ∈ KW) (hcat : (st.map kcat).sum ≤ 8) (k1 : kC2 G S0 M2 d [kA a, v1, v2, v3, v4, v5] c (kRL (fun z c2 => kW2 G S0 M (d + 1) (pc + 3) ls (kL z :: st) c2 P))) : kW2 G S0 M (d + 1) (pc) ls (v5 :: v4 :: v3 :: v2 :: v1 :: kA a :: st) c P :=
  kw_callV (bc := 0) (bs := 0) (bc2 := 0) (bs2 := 0) (av := [v1, v2, v3, v4, v5]) hc hs hm hd hw rfl hcat (kCall_mono k1 (fun r S h => by
    obtain ⟨h0, h⟩ := h
    obtain ⟨z, rfl, h⟩ := h
    obtain ⟨S1, c1⟩ := S
    subst h0
    exact h))
theorem k2_callV5A {ci N : Nat} {T : u_T} (hc : vwCl[ci]? = some (M2.1, T, N)) (hs : S0.2.1 a = (10 + ci, N)) (hm : kMthV M2 5) (hd : decode M.2.1 pc = .ok (.invokevirtual idx, 3)) (hw : Cond.methodLink M.1 idx M2.2.2.2.2 ∈ KW) (hcat : (st.map kcat).sum ≤ 8) (k1 : kC2 G S0 M2 d [kA a, v1, v2, v3, v4, v5] c (kRA (fun z c2 => kW2 G S0 M (d + 1) (pc + 3) ls (kA z :: st) c2 P))) : kW2 G S0 M (d + 1) (pc) ls (v5 :: v4 :: v3 :: v2 :: v1 :: kA a :: st) c P :=
  kw_callV (bc := 0) (bs := 0) (bc2 := 0) (bs2 := 0) (av := [v1, v2, v3, v4, v5]) hc hs hm hd hw rfl hcat (kCall_mono k1 (fun r S h => by
    obtain ⟨h0, h⟩ := h
    obtain ⟨z, rfl, h⟩ := h
    obtain ⟨S1, c1⟩ := S
    subst h0
    exact h))
theorem k2_callV5N {ci N : Nat} {T : u_T} (hc : vwCl[ci]? = some (M2.1, T, N)) (hs : S0.2.1 a = (10 + ci, N)) (hm : kMthV M2 5) (hd : decode M.2.1 pc = .ok (.invokevirtual idx, 3)) (hw : Cond.methodLink M.1 idx M2.2.2.2.2 ∈ KW) (hcat : (st.map kcat).sum ≤ 8) (k1 : kC2 G S0 M2 d [kA a, v1, v2, v3, v4, v5] c (kRN (fun c2 => kW2 G S0 M (d + 1) (pc + 3) ls st c2 P))) : kW2 G S0 M (d + 1) (pc) ls (v5 :: v4 :: v3 :: v2 :: v1 :: kA a :: st) c P :=
  kw_callV (bc := 0) (bs := 0) (bc2 := 0) (bs2 := 0) (av := [v1, v2, v3, v4, v5]) hc hs hm hd hw rfl hcat (kCall_mono k1 (fun r S h => by
    obtain ⟨h0, h⟩ := h
    obtain ⟨rfl, h⟩ := h
    obtain ⟨S1, c1⟩ := S
    subst h0
    exact h))
theorem k2_callS1I (hm : kMthS M2 1) (hd : decode M.2.1 pc = .ok (.invokestatic idx, 3)) (hw : Cond.methodLink M.1 idx M2.2.2.2.2 ∈ KW) (hcat : (st.map kcat).sum ≤ 8) (k1 : kC2 G S0 M2 d [v1] c (kRI (fun z c2 => kW2 G S0 M (d + 1) (pc + 3) ls (kI z :: st) c2 P))) : kW2 G S0 M (d + 1) (pc) ls (v1 :: st) c P :=
  kw_callS (bc := 0) (bs := 0) (bc2 := 0) (bs2 := 0) (av := [v1]) hm hd hw rfl hcat (kCall_mono k1 (fun r S h => by
    obtain ⟨h0, h⟩ := h
    obtain ⟨z, rfl, h⟩ := h
    obtain ⟨S1, c1⟩ := S
    subst h0
    exact h))
theorem k2_callS1L (hm : kMthS M2 1) (hd : decode M.2.1 pc = .ok (.invokestatic idx, 3)) (hw : Cond.methodLink M.1 idx M2.2.2.2.2 ∈ KW) (hcat : (st.map kcat).sum ≤ 8) (k1 : kC2 G S0 M2 d [v1] c (kRL (fun z c2 => kW2 G S0 M (d + 1) (pc + 3) ls (kL z :: st) c2 P))) : kW2 G S0 M (d + 1) (pc) ls (v1 :: st) c P :=
  kw_callS (bc := 0) (bs := 0) (bc2 := 0) (bs2 := 0) (av := [v1]) hm hd hw rfl hcat (kCall_mono k1 (fun r S h => by
    obtain ⟨h0, h⟩ := h
    obtain ⟨z, rfl, h⟩ := h
    obtain ⟨S1, c1⟩ := S
    subst h0
    exact h))
theorem k2_callS1A (hm : kMthS M2 1) (hd : decode M.2.1 pc = .ok (.invokestatic idx, 3)) (hw : Cond.methodLink M.1 idx M2.2.2.2.2 ∈ KW) (hcat : (st.map kcat).sum ≤ 8) (k1 : kC2 G S0 M2 d [v1] c (kRA (fun z c2 => kW2 G S0 M (d + 1) (pc + 3) ls (kA z :: st) c2 P))) : kW2 G S0 M (d + 1) (pc) ls (v1 :: st) c P :=
  kw_callS (bc := 0) (bs := 0) (bc2 := 0) (bs2 := 0) (av := [v1]) hm hd hw rfl hcat (kCall_mono k1 (fun r S h => by
    obtain ⟨h0, h⟩ := h
    obtain ⟨z, rfl, h⟩ := h
    obtain ⟨S1, c1⟩ := S
    subst h0
    exact h))
theorem k2_callS1N (hm : kMthS M2 1) (hd : decode M.2.1 pc = .ok (.invokestatic idx, 3)) (hw : Cond.methodLink M.1 idx M2.2.2.2.2 ∈ KW) (hcat : (st.map kcat).sum ≤ 8) (k1 : kC2 G S0 M2 d [v1] c (kRN (fun c2 => kW2 G S0 M (d + 1) (pc + 3) ls st c2 P))) : kW2 G S0 M (d + 1) (pc) ls (v1 :: st) c P :=
  kw_callS (bc := 0) (bs := 0) (bc2 := 0) (bs2 := 0) (av := [v1]) hm hd hw rfl hcat (kCall_mono k1 (fun r S h => by
    obtain ⟨h0, h⟩ := h
    obtain ⟨rfl, h⟩ := h
    obtain ⟨S1, c1⟩ := S
    subst h0
    exact h))
theorem k2_callS2I (hm : kMthS M2 2) (hd : decode M.2.1 pc = .ok (.invokestatic idx, 3)) (hw : Cond.methodLink M.1 idx M2.2.2.2.2 ∈ KW) (hcat : (st.map kcat).sum ≤ 8) (k1 : kC2 G S0 M2 d [v1, v2] c (kRI (fun z c2 => kW2 G S0 M (d + 1) (pc + 3) ls (kI z :: st) c2 P))) : kW2 G S0 M (d + 1) (pc) ls (v2 :: v1 :: st) c P :=
  kw_callS (bc := 0) (bs := 0) (bc2 := 0) (bs2 := 0) (av := [v1, v2]) hm hd hw rfl hcat (kCall_mono k1 (fun r S h => by
    obtain ⟨h0, h⟩ := h
    obtain ⟨z, rfl, h⟩ := h
    obtain ⟨S1, c1⟩ := S
    subst h0
    exact h))
theorem k2_callS2L (hm : kMthS M2 2) (hd : decode M.2.1 pc = .ok (.invokestatic idx, 3)) (hw : Cond.methodLink M.1 idx M2.2.2.2.2 ∈ KW) (hcat : (st.map kcat).sum ≤ 8) (k1 : kC2 G S0 M2 d [v1, v2] c (kRL (fun z c2 => kW2 G S0 M (d + 1) (pc + 3) ls (kL z :: st) c2 P))) : kW2 G S0 M (d + 1) (pc) ls (v2 :: v1 :: st) c P :=
  kw_callS (bc := 0) (bs := 0) (bc2 := 0) (bs2 := 0) (av := [v1, v2]) hm hd hw rfl hcat (kCall_mono k1 (fun r S h => by
    obtain ⟨h0, h⟩ := h
    obtain ⟨z, rfl, h⟩ := h
    obtain ⟨S1, c1⟩ := S
    subst h0
    exact h))
theorem k2_callS2A (hm : kMthS M2 2) (hd : decode M.2.1 pc = .ok (.invokestatic idx, 3)) (hw : Cond.methodLink M.1 idx M2.2.2.2.2 ∈ KW) (hcat : (st.map kcat).sum ≤ 8) (k1 : kC2 G S0 M2 d [v1, v2] c (kRA (fun z c2 => kW2 G S0 M (d + 1) (pc + 3) ls (kA z :: st) c2 P))) : kW2 G S0 M (d + 1) (pc) ls (v2 :: v1 :: st) c P :=
  kw_callS (bc := 0) (bs := 0) (bc2 := 0) (bs2 := 0) (av := [v1, v2]) hm hd hw rfl hcat (kCall_mono k1 (fun r S h => by
    obtain ⟨h0, h⟩ := h
    obtain ⟨z, rfl, h⟩ := h
    obtain ⟨S1, c1⟩ := S
    subst h0
    exact h))
theorem k2_callS2N (hm : kMthS M2 2) (hd : decode M.2.1 pc = .ok (.invokestatic idx, 3)) (hw : Cond.methodLink M.1 idx M2.2.2.2.2 ∈ KW) (hcat : (st.map kcat).sum ≤ 8) (k1 : kC2 G S0 M2 d [v1, v2] c (kRN (fun c2 => kW2 G S0 M (d + 1) (pc + 3) ls st c2 P))) : kW2 G S0 M (d + 1) (pc) ls (v2 :: v1 :: st) c P :=
  kw_callS (bc := 0) (bs := 0) (bc2 := 0) (bs2 := 0) (av := [v1, v2]) hm hd hw rfl hcat (kCall_mono k1 (fun r S h => by
    obtain ⟨h0, h⟩ := h
    obtain ⟨rfl, h⟩ := h
    obtain ⟨S1, c1⟩ := S
    subst h0
    exact h))
theorem k2_callS3I (hm : kMthS M2 3) (hd : decode M.2.1 pc = .ok (.invokestatic idx, 3)) (hw : Cond.methodLink M.1 idx M2.2.2.2.2 ∈ KW) (hcat : (st.map kcat).sum ≤ 8) (k1 : kC2 G S0 M2 d [v1, v2, v3] c (kRI (fun z c2 => kW2 G S0 M (d + 1) (pc + 3) ls (kI z :: st) c2 P))) : kW2 G S0 M (d + 1) (pc) ls (v3 :: v2 :: v1 :: st) c P :=
  kw_callS (bc := 0) (bs := 0) (bc2 := 0) (bs2 := 0) (av := [v1, v2, v3]) hm hd hw rfl hcat (kCall_mono k1 (fun r S h => by
    obtain ⟨h0, h⟩ := h
    obtain ⟨z, rfl, h⟩ := h
    obtain ⟨S1, c1⟩ := S
    subst h0
    exact h))
theorem k2_callS3L (hm : kMthS M2 3) (hd : decode M.2.1 pc = .ok (.invokestatic idx, 3)) (hw : Cond.methodLink M.1 idx M2.2.2.2.2 ∈ KW) (hcat : (st.map kcat).sum ≤ 8) (k1 : kC2 G S0 M2 d [v1, v2, v3] c (kRL (fun z c2 => kW2 G S0 M (d + 1) (pc + 3) ls (kL z :: st) c2 P))) : kW2 G S0 M (d + 1) (pc) ls (v3 :: v2 :: v1 :: st) c P :=
  kw_callS (bc := 0) (bs := 0) (bc2 := 0) (bs2 := 0) (av := [v1, v2, v3]) hm hd hw rfl hcat (kCall_mono k1 (fun r S h => by
    obtain ⟨h0, h⟩ := h
    obtain ⟨z, rfl, h⟩ := h
    obtain ⟨S1, c1⟩ := S
    subst h0
    exact h))
theorem k2_callS3A (hm : kMthS M2 3) (hd : decode M.2.1 pc = .ok (.invokestatic idx, 3)) (hw : Cond.methodLink M.1 idx M2.2.2.2.2 ∈ KW) (hcat : (st.map kcat).sum ≤ 8) (k1 : kC2 G S0 M2 d [v1, v2, v3] c (kRA (fun z c2 => kW2 G S0 M (d + 1) (pc + 3) ls (kA z :: st) c2 P))) : kW2 G S0 M (d + 1) (pc) ls (v3 :: v2 :: v1 :: st) c P :=
  kw_callS (bc := 0) (bs := 0) (bc2 := 0) (bs2 := 0) (av := [v1, v2, v3]) hm hd hw rfl hcat (kCall_mono k1 (fun r S h => by
    obtain ⟨h0, h⟩ := h
    obtain ⟨z, rfl, h⟩ := h
    obtain ⟨S1, c1⟩ := S
    subst h0
    exact h))
theorem k2_callS3N (hm : kMthS M2 3) (hd : decode M.2.1 pc = .ok (.invokestatic idx, 3)) (hw : Cond.methodLink M.1 idx M2.2.2.2.2 ∈ KW) (hcat : (st.map kcat).sum ≤ 8) (k1 : kC2 G S0 M2 d [v1, v2, v3] c (kRN (fun c2 => kW2 G S0 M (d + 1) (pc + 3) ls st c2 P))) : kW2 G S0 M (d + 1) (pc) ls (v3 :: v2 :: v1 :: st) c P :=
  kw_callS (bc := 0) (bs := 0) (bc2 := 0) (bs2 := 0) (av := [v1, v2, v3]) hm hd hw rfl hcat (kCall_mono k1 (fun r S h => by
    obtain ⟨h0, h⟩ := h
    obtain ⟨rfl, h⟩ := h
    obtain ⟨S1, c1⟩ := S
    subst h0
    exact h))
theorem k2_callS4I (hm : kMthS M2 4) (hd : decode M.2.1 pc = .ok (.invokestatic idx, 3)) (hw : Cond.methodLink M.1 idx M2.2.2.2.2 ∈ KW) (hcat : (st.map kcat).sum ≤ 8) (k1 : kC2 G S0 M2 d [v1, v2, v3, v4] c (kRI (fun z c2 => kW2 G S0 M (d + 1) (pc + 3) ls (kI z :: st) c2 P))) : kW2 G S0 M (d + 1) (pc) ls (v4 :: v3 :: v2 :: v1 :: st) c P :=
  kw_callS (bc := 0) (bs := 0) (bc2 := 0) (bs2 := 0) (av := [v1, v2, v3, v4]) hm hd hw rfl hcat (kCall_mono k1 (fun r S h => by
    obtain ⟨h0, h⟩ := h
    obtain ⟨z, rfl, h⟩ := h
    obtain ⟨S1, c1⟩ := S
    subst h0
    exact h))
theorem k2_callS4L (hm : kMthS M2 4) (hd : decode M.2.1 pc = .ok (.invokestatic idx, 3)) (hw : Cond.methodLink M.1 idx M2.2.2.2.2 ∈ KW) (hcat : (st.map kcat).sum ≤ 8) (k1 : kC2 G S0 M2 d [v1, v2, v3, v4] c (kRL (fun z c2 => kW2 G S0 M (d + 1) (pc + 3) ls (kL z :: st) c2 P))) : kW2 G S0 M (d + 1) (pc) ls (v4 :: v3 :: v2 :: v1 :: st) c P :=
  kw_callS (bc := 0) (bs := 0) (bc2 := 0) (bs2 := 0) (av := [v1, v2, v3, v4]) hm hd hw rfl hcat (kCall_mono k1 (fun r S h => by
    obtain ⟨h0, h⟩ := h
    obtain ⟨z, rfl, h⟩ := h
    obtain ⟨S1, c1⟩ := S
    subst h0
    exact h))
theorem k2_callS4A (hm : kMthS M2 4) (hd : decode M.2.1 pc = .ok (.invokestatic idx, 3)) (hw : Cond.methodLink M.1 idx M2.2.2.2.2 ∈ KW) (hcat : (st.map kcat).sum ≤ 8) (k1 : kC2 G S0 M2 d [v1, v2, v3, v4] c (kRA (fun z c2 => kW2 G S0 M (d + 1) (pc + 3) ls (kA z :: st) c2 P))) : kW2 G S0 M (d + 1) (pc) ls (v4 :: v3 :: v2 :: v1 :: st) c P :=
  kw_callS (bc := 0) (bs := 0) (bc2 := 0) (bs2 := 0) (av := [v1, v2, v3, v4]) hm hd hw rfl hcat (kCall_mono k1 (fun r S h => by
    obtain ⟨h0, h⟩ := h
    obtain ⟨z, rfl, h⟩ := h
    obtain ⟨S1, c1⟩ := S
    subst h0
    exact h))
theorem k2_callS4N (hm : kMthS M2 4) (hd : decode M.2.1 pc = .ok (.invokestatic idx, 3)) (hw : Cond.methodLink M.1 idx M2.2.2.2.2 ∈ KW) (hcat : (st.map kcat).sum ≤ 8) (k1 : kC2 G S0 M2 d [v1, v2, v3, v4] c (kRN (fun c2 => kW2 G S0 M (d + 1) (pc + 3) ls st c2 P))) : kW2 G S0 M (d + 1) (pc) ls (v4 :: v3 :: v2 :: v1 :: st) c P :=
  kw_callS (bc := 0) (bs := 0) (bc2 := 0) (bs2 := 0) (av := [v1, v2, v3, v4]) hm hd hw rfl hcat (kCall_mono k1 (fun r S h => by
    obtain ⟨h0, h⟩ := h
    obtain ⟨rfl, h⟩ := h
    obtain ⟨S1, c1⟩ := S
    subst h0
    exact h))
theorem k2_callS5I (hm : kMthS M2 5) (hd : decode M.2.1 pc = .ok (.invokestatic idx, 3)) (hw : Cond.methodLink M.1 idx M2.2.2.2.2 ∈ KW) (hcat : (st.map kcat).sum ≤ 8) (k1 : kC2 G S0 M2 d [v1, v2, v3, v4, v5] c (kRI (fun z c2 => kW2 G S0 M (d + 1) (pc + 3) ls (kI z :: st) c2 P))) : kW2 G S0 M (d + 1) (pc) ls (v5 :: v4 :: v3 :: v2 :: v1 :: st) c P :=
  kw_callS (bc := 0) (bs := 0) (bc2 := 0) (bs2 := 0) (av := [v1, v2, v3, v4, v5]) hm hd hw rfl hcat (kCall_mono k1 (fun r S h => by
    obtain ⟨h0, h⟩ := h
    obtain ⟨z, rfl, h⟩ := h
    obtain ⟨S1, c1⟩ := S
    subst h0
    exact h))
theorem k2_callS5L (hm : kMthS M2 5) (hd : decode M.2.1 pc = .ok (.invokestatic idx, 3)) (hw : Cond.methodLink M.1 idx M2.2.2.2.2 ∈ KW) (hcat : (st.map kcat).sum ≤ 8) (k1 : kC2 G S0 M2 d [v1, v2, v3, v4, v5] c (kRL (fun z c2 => kW2 G S0 M (d + 1) (pc + 3) ls (kL z :: st) c2 P))) : kW2 G S0 M (d + 1) (pc) ls (v5 :: v4 :: v3 :: v2 :: v1 :: st) c P :=
  kw_callS (bc := 0) (bs := 0) (bc2 := 0) (bs2 := 0) (av := [v1, v2, v3, v4, v5]) hm hd hw rfl hcat (kCall_mono k1 (fun r S h => by
    obtain ⟨h0, h⟩ := h
    obtain ⟨z, rfl, h⟩ := h
    obtain ⟨S1, c1⟩ := S
    subst h0
    exact h))
theorem k2_callS5A (hm : kMthS M2 5) (hd : decode M.2.1 pc = .ok (.invokestatic idx, 3)) (hw : Cond.methodLink M.1 idx M2.2.2.2.2 ∈ KW) (hcat : (st.map kcat).sum ≤ 8) (k1 : kC2 G S0 M2 d [v1, v2, v3, v4, v5] c (kRA (fun z c2 => kW2 G S0 M (d + 1) (pc + 3) ls (kA z :: st) c2 P))) : kW2 G S0 M (d + 1) (pc) ls (v5 :: v4 :: v3 :: v2 :: v1 :: st) c P :=
  kw_callS (bc := 0) (bs := 0) (bc2 := 0) (bs2 := 0) (av := [v1, v2, v3, v4, v5]) hm hd hw rfl hcat (kCall_mono k1 (fun r S h => by
    obtain ⟨h0, h⟩ := h
    obtain ⟨z, rfl, h⟩ := h
    obtain ⟨S1, c1⟩ := S
    subst h0
    exact h))
theorem k2_callS5N (hm : kMthS M2 5) (hd : decode M.2.1 pc = .ok (.invokestatic idx, 3)) (hw : Cond.methodLink M.1 idx M2.2.2.2.2 ∈ KW) (hcat : (st.map kcat).sum ≤ 8) (k1 : kC2 G S0 M2 d [v1, v2, v3, v4, v5] c (kRN (fun c2 => kW2 G S0 M (d + 1) (pc + 3) ls st c2 P))) : kW2 G S0 M (d + 1) (pc) ls (v5 :: v4 :: v3 :: v2 :: v1 :: st) c P :=
  kw_callS (bc := 0) (bs := 0) (bc2 := 0) (bs2 := 0) (av := [v1, v2, v3, v4, v5]) hm hd hw rfl hcat (kCall_mono k1 (fun r S h => by
    obtain ⟨h0, h⟩ := h
    obtain ⟨rfl, h⟩ := h
    obtain ⟨S1, c1⟩ := S
    subst h0
    exact h))
theorem k2_callSN1I {host : String} (hm : kMthS M2 1) (hd : decode M.2.1 pc = .ok (.invokestatic idx, 3)) (hw : Cond.methodLinkNest M.1 idx M2.2.2.2.2 host ∈ lw_tbl) (hcat : (st.map kcat).sum ≤ 8) (k1 : kC2 G S0 M2 d [v1] c (kRI (fun z c2 => kW2 G S0 M (d + 1) (pc + 3) ls (kI z :: st) c2 P))) : kW2 G S0 M (d + 1) (pc) ls (v1 :: st) c P :=
  kw_callSN (bc := 0) (bs := 0) (bc2 := 0) (bs2 := 0) (av := [v1]) hm hd hw rfl hcat (kCall_mono k1 (fun r S h => by
    obtain ⟨h0, h⟩ := h
    obtain ⟨z, rfl, h⟩ := h
    obtain ⟨S1, c1⟩ := S
    subst h0
    exact h))
theorem k2_callSN2I {host : String} (hm : kMthS M2 2) (hd : decode M.2.1 pc = .ok (.invokestatic idx, 3)) (hw : Cond.methodLinkNest M.1 idx M2.2.2.2.2 host ∈ lw_tbl) (hcat : (st.map kcat).sum ≤ 8) (k1 : kC2 G S0 M2 d [v1, v2] c (kRI (fun z c2 => kW2 G S0 M (d + 1) (pc + 3) ls (kI z :: st) c2 P))) : kW2 G S0 M (d + 1) (pc) ls (v2 :: v1 :: st) c P :=
  kw_callSN (bc := 0) (bs := 0) (bc2 := 0) (bs2 := 0) (av := [v1, v2]) hm hd hw rfl hcat (kCall_mono k1 (fun r S h => by
    obtain ⟨h0, h⟩ := h
    obtain ⟨z, rfl, h⟩ := h
    obtain ⟨S1, c1⟩ := S
    subst h0
    exact h))
theorem k2_ret (hd : decode M.2.1 pc = .ok (.return_, 1)) (hr : M.2.2.2.1 = none) (k : P none c) : kW2 G S0 M d (pc) ls ([]) c P := kw_ret hd hr ⟨rfl, k⟩
theorem k2_iret (hd : decode M.2.1 pc = .ok (.ireturn, 1)) (hr : M.2.2.2.1 = some .int) (k : P (some (kI a)) c) : kW2 G S0 M d (pc) ls ([kI a]) c P := kw_iret hd hr ⟨rfl, k⟩
theorem k2_zret (hd : decode M.2.1 pc = .ok (.ireturn, 1)) (hr : M.2.2.2.1 = some .boolean) (h01 : a = 0 ∨ a = 1) (k : P (some (kI a)) c) : kW2 G S0 M d (pc) ls ([kI a]) c P := kw_zret hd hr h01 ⟨rfl, k⟩
theorem k2_lret (hd : decode M.2.1 pc = .ok (.lreturn, 1)) (hr : M.2.2.2.1 = some .long) (k : P (some (kL a)) c) : kW2 G S0 M d (pc) ls ([kL a]) c P := kw_lret hd hr ⟨rfl, k⟩
theorem k2_aret (hd : decode M.2.1 pc = .ok (.areturn, 1)) (hr : (∃ n, M.2.2.2.1 = some (.object n)) ∨ ∃ t, M.2.2.2.1 = some (.array t)) (h0 : 0 ≤ a) (k : P (some (kA a)) c) : kW2 G S0 M d (pc) ls ([kA a]) c P := kw_aret hd hr h0 ⟨rfl, k⟩
theorem k2_met {d : Nat} {av : List AV} (hy : plainName M.2.2.2.2.cls = true) (hc : M.2.2.2.2.cls = M.1) (hlen : (karg av).length ≤ M.2.2.1) {l0 : List (Option AV)} (e : kpad M.2.2.1 (karg av) = l0) (k : kW2 G S0 M d 0 l0 [] c P) : kC2 G S0 M d av c P := kMet hy hc hlen (by rw [e]; exact k)
end K2R
theorem fd_X1_0 : kFd RX1 TX1 2 0 0 2 := ⟨by decide +kernel, kin_X1, rfl, by decide, rfl⟩
theorem fd_X1_1 : kFd RX1 TX1 2 0 1 2 := ⟨by decide +kernel, kin_X1, rfl, by decide, rfl⟩
theorem fd_X2_0 : kFd RX2 TX2 7 1 0 2 := ⟨by decide +kernel, kin_X2, rfl, by decide, rfl⟩
theorem fd_X2_1 : kFd RX2 TX2 7 1 1 2 := ⟨by decide +kernel, kin_X2, rfl, by decide, rfl⟩
theorem fd_X2_2 : kFd RX2 TX2 7 1 2 2 := ⟨by decide +kernel, kin_X2, rfl, by decide, rfl⟩
theorem fd_X2_3 : kFd RX2 TX2 7 1 3 2 := ⟨by decide +kernel, kin_X2, rfl, by decide, rfl⟩
theorem fd_X2_4 : kFd RX2 TX2 7 1 4 2 := ⟨by decide +kernel, kin_X2, rfl, by decide, rfl⟩
theorem fd_X2_5 : kFd RX2 TX2 7 1 5 2 := ⟨by decide +kernel, kin_X2, rfl, by decide, rfl⟩
theorem fd_X2_6 : kFd RX2 TX2 7 1 6 2 := ⟨by decide +kernel, kin_X2, rfl, by decide, rfl⟩
theorem fd_X3_0 : kFd RX3 TX3 7 2 0 2 := ⟨by decide +kernel, kin_X3, rfl, by decide, rfl⟩
theorem fd_X3_1 : kFd RX3 TX3 7 2 1 0 := ⟨by decide +kernel, kin_X3, rfl, by decide, rfl⟩
theorem fp_X3_1 : kFp RX3 TX3 tyX3 7 2 1 0 .int := ⟨fd_X3_1, tyX3_ok, nmX3, rfl, rfl⟩
theorem fd_X3_2 : kFd RX3 TX3 7 2 2 2 := ⟨by decide +kernel, kin_X3, rfl, by decide, rfl⟩
theorem fd_X3_3 : kFd RX3 TX3 7 2 3 2 := ⟨by decide +kernel, kin_X3, rfl, by decide, rfl⟩
theorem fd_X3_4 : kFd RX3 TX3 7 2 4 2 := ⟨by decide +kernel, kin_X3, rfl, by decide, rfl⟩
theorem fd_X3_5 : kFd RX3 TX3 7 2 5 2 := ⟨by decide +kernel, kin_X3, rfl, by decide, rfl⟩
theorem fd_X3_6 : kFd RX3 TX3 7 2 6 2 := ⟨by decide +kernel, kin_X3, rfl, by decide, rfl⟩
theorem fd_X4_0 : kFd RX4 TX4 4 3 0 2 := ⟨by decide +kernel, kin_X4, rfl, by decide, rfl⟩
theorem fd_X4_1 : kFd RX4 TX4 4 3 1 2 := ⟨by decide +kernel, kin_X4, rfl, by decide, rfl⟩
theorem fd_X4_2 : kFd RX4 TX4 4 3 2 2 := ⟨by decide +kernel, kin_X4, rfl, by decide, rfl⟩
theorem fd_X4_3 : kFd RX4 TX4 4 3 3 2 := ⟨by decide +kernel, kin_X4, rfl, by decide, rfl⟩
theorem fd_X5_0 : kFd RX5 TX5 3 4 0 2 := ⟨by decide +kernel, kin_X5, rfl, by decide, rfl⟩
theorem fd_X5_1 : kFd RX5 TX5 3 4 1 0 := ⟨by decide +kernel, kin_X5, rfl, by decide, rfl⟩
theorem fp_X5_1 : kFp RX5 TX5 tyX5 3 4 1 0 .int := ⟨fd_X5_1, tyX5_ok, nmX5, rfl, rfl⟩
theorem fd_X5_2 : kFd RX5 TX5 3 4 2 0 := ⟨by decide +kernel, kin_X5, rfl, by decide, rfl⟩
theorem fp_X5_2 : kFp RX5 TX5 tyX5 3 4 2 0 .int := ⟨fd_X5_2, tyX5_ok, nmX5, rfl, rfl⟩
theorem fd_X6_0 : kFd RX6 TX6 2 5 0 2 := ⟨by decide +kernel, kin_X6, rfl, by decide, rfl⟩
theorem fd_X6_1 : kFd RX6 TX6 2 5 1 0 := ⟨by decide +kernel, kin_X6, rfl, by decide, rfl⟩
theorem fp_X6_1 : kFp RX6 TX6 tyX6 2 5 1 0 .int := ⟨fd_X6_1, tyX6_ok, nmX6, rfl, rfl⟩
theorem fd_X7_0 : kFd RX7 TX7 12 6 0 2 := ⟨by decide +kernel, kin_X7, rfl, by decide, rfl⟩
theorem fd_X7_1 : kFd RX7 TX7 12 6 1 2 := ⟨by decide +kernel, kin_X7, rfl, by decide, rfl⟩
theorem fd_X7_2 : kFd RX7 TX7 12 6 2 2 := ⟨by decide +kernel, kin_X7, rfl, by decide, rfl⟩
theorem fd_X7_3 : kFd RX7 TX7 12 6 3 2 := ⟨by decide +kernel, kin_X7, rfl, by decide, rfl⟩
theorem fd_X7_4 : kFd RX7 TX7 12 6 4 2 := ⟨by decide +kernel, kin_X7, rfl, by decide, rfl⟩
theorem fd_X7_5 : kFd RX7 TX7 12 6 5 2 := ⟨by decide +kernel, kin_X7, rfl, by decide, rfl⟩
theorem fd_X7_6 : kFd RX7 TX7 12 6 6 2 := ⟨by decide +kernel, kin_X7, rfl, by decide, rfl⟩
theorem fd_X7_7 : kFd RX7 TX7 12 6 7 3 := ⟨by decide +kernel, kin_X7, rfl, by decide, rfl⟩
theorem fp_X7_7 : kFp RX7 TX7 tyX7 12 6 7 3 (.array .int) := ⟨fd_X7_7, tyX7_ok, nmX7, rfl, rfl⟩
theorem fd_X7_8 : kFd RX7 TX7 12 6 8 0 := ⟨by decide +kernel, kin_X7, rfl, by decide, rfl⟩
theorem fp_X7_8 : kFp RX7 TX7 tyX7 12 6 8 0 .int := ⟨fd_X7_8, tyX7_ok, nmX7, rfl, rfl⟩
theorem fd_X7_9 : kFd RX7 TX7 12 6 9 0 := ⟨by decide +kernel, kin_X7, rfl, by decide, rfl⟩
theorem fp_X7_9 : kFp RX7 TX7 tyX7 12 6 9 0 .int := ⟨fd_X7_9, tyX7_ok, nmX7, rfl, rfl⟩
theorem fd_X7_10 : kFd RX7 TX7 12 6 10 0 := ⟨by decide +kernel, kin_X7, rfl, by decide, rfl⟩
theorem fp_X7_10 : kFp RX7 TX7 tyX7 12 6 10 0 .int := ⟨fd_X7_10, tyX7_ok, nmX7, rfl, rfl⟩
theorem fd_X7_11 : kFd RX7 TX7 12 6 11 0 := ⟨by decide +kernel, kin_X7, rfl, by decide, rfl⟩
theorem fp_X7_11 : kFp RX7 TX7 tyX7 12 6 11 0 .int := ⟨fd_X7_11, tyX7_ok, nmX7, rfl, rfl⟩
theorem fd_X9_0 : kFd RX9 TX9 5 7 0 1 := ⟨by decide +kernel, kin_X9, rfl, by decide, rfl⟩
theorem fp_X9_0 : kFp RX9 TX9 tyX9 5 7 0 1 .long := ⟨fd_X9_0, tyX9_ok, nmX9, rfl, rfl⟩
theorem fd_X9_1 : kFd RX9 TX9 5 7 1 1 := ⟨by decide +kernel, kin_X9, rfl, by decide, rfl⟩
theorem fp_X9_1 : kFp RX9 TX9 tyX9 5 7 1 1 .long := ⟨fd_X9_1, tyX9_ok, nmX9, rfl, rfl⟩
theorem fd_X9_2 : kFd RX9 TX9 5 7 2 1 := ⟨by decide +kernel, kin_X9, rfl, by decide, rfl⟩
theorem fp_X9_2 : kFp RX9 TX9 tyX9 5 7 2 1 .long := ⟨fd_X9_2, tyX9_ok, nmX9, rfl, rfl⟩
theorem fd_X9_3 : kFd RX9 TX9 5 7 3 1 := ⟨by decide +kernel, kin_X9, rfl, by decide, rfl⟩
theorem fp_X9_3 : kFp RX9 TX9 tyX9 5 7 3 1 .long := ⟨fd_X9_3, tyX9_ok, nmX9, rfl, rfl⟩
theorem fd_X9_4 : kFd RX9 TX9 5 7 4 1 := ⟨by decide +kernel, kin_X9, rfl, by decide, rfl⟩
theorem fp_X9_4 : kFp RX9 TX9 tyX9 5 7 4 1 .long := ⟨fd_X9_4, tyX9_ok, nmX9, rfl, rfl⟩
theorem fd_X10_0 : kFd RX10 TX10 20 8 0 2 := ⟨by decide +kernel, kin_X10, rfl, by decide, rfl⟩
theorem fd_X10_1 : kFd RX10 TX10 20 8 1 0 := ⟨by decide +kernel, kin_X10, rfl, by decide, rfl⟩
theorem fp_X10_1 : kFp RX10 TX10 tyX10 20 8 1 0 .int := ⟨fd_X10_1, tyX10_ok, nmX10, rfl, rfl⟩
theorem fd_X10_2 : kFd RX10 TX10 20 8 2 2 := ⟨by decide +kernel, kin_X10, rfl, by decide, rfl⟩
theorem fd_X10_3 : kFd RX10 TX10 20 8 3 0 := ⟨by decide +kernel, kin_X10, rfl, by decide, rfl⟩
theorem fp_X10_3 : kFp RX10 TX10 tyX10 20 8 3 0 .int := ⟨fd_X10_3, tyX10_ok, nmX10, rfl, rfl⟩
theorem fd_X10_4 : kFd RX10 TX10 20 8 4 0 := ⟨by decide +kernel, kin_X10, rfl, by decide, rfl⟩
theorem fp_X10_4 : kFp RX10 TX10 tyX10 20 8 4 0 .int := ⟨fd_X10_4, tyX10_ok, nmX10, rfl, rfl⟩
theorem fd_X10_5 : kFd RX10 TX10 20 8 5 2 := ⟨by decide +kernel, kin_X10, rfl, by decide, rfl⟩
theorem fd_X10_6 : kFd RX10 TX10 20 8 6 2 := ⟨by decide +kernel, kin_X10, rfl, by decide, rfl⟩
theorem fd_X10_7 : kFd RX10 TX10 20 8 7 0 := ⟨by decide +kernel, kin_X10, rfl, by decide, rfl⟩
theorem fp_X10_7 : kFp RX10 TX10 tyX10 20 8 7 0 .boolean := ⟨fd_X10_7, tyX10_ok, nmX10, rfl, rfl⟩
theorem fd_X10_8 : kFd RX10 TX10 20 8 8 0 := ⟨by decide +kernel, kin_X10, rfl, by decide, rfl⟩
theorem fp_X10_8 : kFp RX10 TX10 tyX10 20 8 8 0 .int := ⟨fd_X10_8, tyX10_ok, nmX10, rfl, rfl⟩
theorem fd_X10_9 : kFd RX10 TX10 20 8 9 2 := ⟨by decide +kernel, kin_X10, rfl, by decide, rfl⟩
theorem fd_X10_10 : kFd RX10 TX10 20 8 10 2 := ⟨by decide +kernel, kin_X10, rfl, by decide, rfl⟩
theorem fd_X10_11 : kFd RX10 TX10 20 8 11 2 := ⟨by decide +kernel, kin_X10, rfl, by decide, rfl⟩
theorem fd_X10_12 : kFd RX10 TX10 20 8 12 2 := ⟨by decide +kernel, kin_X10, rfl, by decide, rfl⟩
theorem fd_X10_13 : kFd RX10 TX10 20 8 13 2 := ⟨by decide +kernel, kin_X10, rfl, by decide, rfl⟩
theorem fd_X10_14 : kFd RX10 TX10 20 8 14 2 := ⟨by decide +kernel, kin_X10, rfl, by decide, rfl⟩
theorem fd_X10_15 : kFd RX10 TX10 20 8 15 2 := ⟨by decide +kernel, kin_X10, rfl, by decide, rfl⟩
theorem fd_X10_16 : kFd RX10 TX10 20 8 16 2 := ⟨by decide +kernel, kin_X10, rfl, by decide, rfl⟩
theorem fd_X10_17 : kFd RX10 TX10 20 8 17 2 := ⟨by decide +kernel, kin_X10, rfl, by decide, rfl⟩
theorem fd_X10_18 : kFd RX10 TX10 20 8 18 2 := ⟨by decide +kernel, kin_X10, rfl, by decide, rfl⟩
theorem fd_X10_19 : kFd RX10 TX10 20 8 19 2 := ⟨by decide +kernel, kin_X10, rfl, by decide, rfl⟩
theorem fd_X11_0 : kFd RX11 TX11 38 9 0 2 := ⟨by decide +kernel, kin_X11, rfl, by decide, rfl⟩
theorem fd_X11_1 : kFd RX11 TX11 38 9 1 2 := ⟨by decide +kernel, kin_X11, rfl, by decide, rfl⟩
theorem fd_X11_2 : kFd RX11 TX11 38 9 2 2 := ⟨by decide +kernel, kin_X11, rfl, by decide, rfl⟩
theorem fd_X11_3 : kFd RX11 TX11 38 9 3 2 := ⟨by decide +kernel, kin_X11, rfl, by decide, rfl⟩
theorem fd_X11_4 : kFd RX11 TX11 38 9 4 2 := ⟨by decide +kernel, kin_X11, rfl, by decide, rfl⟩
theorem fd_X11_5 : kFd RX11 TX11 38 9 5 2 := ⟨by decide +kernel, kin_X11, rfl, by decide, rfl⟩
theorem fd_X11_6 : kFd RX11 TX11 38 9 6 2 := ⟨by decide +kernel, kin_X11, rfl, by decide, rfl⟩
theorem fd_X11_7 : kFd RX11 TX11 38 9 7 2 := ⟨by decide +kernel, kin_X11, rfl, by decide, rfl⟩
theorem fd_X11_8 : kFd RX11 TX11 38 9 8 2 := ⟨by decide +kernel, kin_X11, rfl, by decide, rfl⟩
theorem fd_X11_9 : kFd RX11 TX11 38 9 9 2 := ⟨by decide +kernel, kin_X11, rfl, by decide, rfl⟩
theorem fd_X11_10 : kFd RX11 TX11 38 9 10 2 := ⟨by decide +kernel, kin_X11, rfl, by decide, rfl⟩
theorem fd_X11_11 : kFd RX11 TX11 38 9 11 0 := ⟨by decide +kernel, kin_X11, rfl, by decide, rfl⟩
theorem fp_X11_11 : kFp RX11 TX11 tyX11 38 9 11 0 .int := ⟨fd_X11_11, tyX11_ok, nmX11, rfl, rfl⟩
theorem fd_X11_12 : kFd RX11 TX11 38 9 12 0 := ⟨by decide +kernel, kin_X11, rfl, by decide, rfl⟩
theorem fp_X11_12 : kFp RX11 TX11 tyX11 38 9 12 0 .int := ⟨fd_X11_12, tyX11_ok, nmX11, rfl, rfl⟩
theorem fd_X11_13 : kFd RX11 TX11 38 9 13 0 := ⟨by decide +kernel, kin_X11, rfl, by decide, rfl⟩
theorem fp_X11_13 : kFp RX11 TX11 tyX11 38 9 13 0 .int := ⟨fd_X11_13, tyX11_ok, nmX11, rfl, rfl⟩
theorem fd_X11_14 : kFd RX11 TX11 38 9 14 0 := ⟨by decide +kernel, kin_X11, rfl, by decide, rfl⟩
theorem fp_X11_14 : kFp RX11 TX11 tyX11 38 9 14 0 .int := ⟨fd_X11_14, tyX11_ok, nmX11, rfl, rfl⟩
theorem fd_X11_15 : kFd RX11 TX11 38 9 15 0 := ⟨by decide +kernel, kin_X11, rfl, by decide, rfl⟩
theorem fp_X11_15 : kFp RX11 TX11 tyX11 38 9 15 0 .boolean := ⟨fd_X11_15, tyX11_ok, nmX11, rfl, rfl⟩
theorem fd_X11_16 : kFd RX11 TX11 38 9 16 2 := ⟨by decide +kernel, kin_X11, rfl, by decide, rfl⟩
theorem fd_X11_17 : kFd RX11 TX11 38 9 17 2 := ⟨by decide +kernel, kin_X11, rfl, by decide, rfl⟩
theorem fd_X11_18 : kFd RX11 TX11 38 9 18 2 := ⟨by decide +kernel, kin_X11, rfl, by decide, rfl⟩
theorem fd_X11_19 : kFd RX11 TX11 38 9 19 2 := ⟨by decide +kernel, kin_X11, rfl, by decide, rfl⟩
theorem fd_X11_20 : kFd RX11 TX11 38 9 20 2 := ⟨by decide +kernel, kin_X11, rfl, by decide, rfl⟩
theorem fd_X11_21 : kFd RX11 TX11 38 9 21 0 := ⟨by decide +kernel, kin_X11, rfl, by decide, rfl⟩
theorem fp_X11_21 : kFp RX11 TX11 tyX11 38 9 21 0 .int := ⟨fd_X11_21, tyX11_ok, nmX11, rfl, rfl⟩
theorem fd_X11_22 : kFd RX11 TX11 38 9 22 0 := ⟨by decide +kernel, kin_X11, rfl, by decide, rfl⟩
theorem fp_X11_22 : kFp RX11 TX11 tyX11 38 9 22 0 .int := ⟨fd_X11_22, tyX11_ok, nmX11, rfl, rfl⟩
theorem fd_X11_23 : kFd RX11 TX11 38 9 23 0 := ⟨by decide +kernel, kin_X11, rfl, by decide, rfl⟩
theorem fp_X11_23 : kFp RX11 TX11 tyX11 38 9 23 0 .int := ⟨fd_X11_23, tyX11_ok, nmX11, rfl, rfl⟩
theorem fd_X11_24 : kFd RX11 TX11 38 9 24 0 := ⟨by decide +kernel, kin_X11, rfl, by decide, rfl⟩
theorem fp_X11_24 : kFp RX11 TX11 tyX11 38 9 24 0 .int := ⟨fd_X11_24, tyX11_ok, nmX11, rfl, rfl⟩
theorem fd_X11_25 : kFd RX11 TX11 38 9 25 0 := ⟨by decide +kernel, kin_X11, rfl, by decide, rfl⟩
theorem fp_X11_25 : kFp RX11 TX11 tyX11 38 9 25 0 .int := ⟨fd_X11_25, tyX11_ok, nmX11, rfl, rfl⟩
theorem fd_X11_26 : kFd RX11 TX11 38 9 26 0 := ⟨by decide +kernel, kin_X11, rfl, by decide, rfl⟩
theorem fp_X11_26 : kFp RX11 TX11 tyX11 38 9 26 0 .int := ⟨fd_X11_26, tyX11_ok, nmX11, rfl, rfl⟩
theorem fd_X11_27 : kFd RX11 TX11 38 9 27 0 := ⟨by decide +kernel, kin_X11, rfl, by decide, rfl⟩
theorem fp_X11_27 : kFp RX11 TX11 tyX11 38 9 27 0 .int := ⟨fd_X11_27, tyX11_ok, nmX11, rfl, rfl⟩
theorem fd_X11_28 : kFd RX11 TX11 38 9 28 0 := ⟨by decide +kernel, kin_X11, rfl, by decide, rfl⟩
theorem fp_X11_28 : kFp RX11 TX11 tyX11 38 9 28 0 .int := ⟨fd_X11_28, tyX11_ok, nmX11, rfl, rfl⟩
theorem fd_X11_29 : kFd RX11 TX11 38 9 29 0 := ⟨by decide +kernel, kin_X11, rfl, by decide, rfl⟩
theorem fp_X11_29 : kFp RX11 TX11 tyX11 38 9 29 0 .int := ⟨fd_X11_29, tyX11_ok, nmX11, rfl, rfl⟩
theorem fd_X11_30 : kFd RX11 TX11 38 9 30 0 := ⟨by decide +kernel, kin_X11, rfl, by decide, rfl⟩
theorem fp_X11_30 : kFp RX11 TX11 tyX11 38 9 30 0 .boolean := ⟨fd_X11_30, tyX11_ok, nmX11, rfl, rfl⟩
theorem fd_X11_31 : kFd RX11 TX11 38 9 31 1 := ⟨by decide +kernel, kin_X11, rfl, by decide, rfl⟩
theorem fp_X11_31 : kFp RX11 TX11 tyX11 38 9 31 1 .long := ⟨fd_X11_31, tyX11_ok, nmX11, rfl, rfl⟩
theorem fd_X11_32 : kFd RX11 TX11 38 9 32 1 := ⟨by decide +kernel, kin_X11, rfl, by decide, rfl⟩
theorem fp_X11_32 : kFp RX11 TX11 tyX11 38 9 32 1 .long := ⟨fd_X11_32, tyX11_ok, nmX11, rfl, rfl⟩
theorem fd_X11_33 : kFd RX11 TX11 38 9 33 1 := ⟨by decide +kernel, kin_X11, rfl, by decide, rfl⟩
theorem fp_X11_33 : kFp RX11 TX11 tyX11 38 9 33 1 .long := ⟨fd_X11_33, tyX11_ok, nmX11, rfl, rfl⟩
theorem fd_X11_34 : kFd RX11 TX11 38 9 34 1 := ⟨by decide +kernel, kin_X11, rfl, by decide, rfl⟩
theorem fp_X11_34 : kFp RX11 TX11 tyX11 38 9 34 1 .long := ⟨fd_X11_34, tyX11_ok, nmX11, rfl, rfl⟩
theorem fd_X11_35 : kFd RX11 TX11 38 9 35 1 := ⟨by decide +kernel, kin_X11, rfl, by decide, rfl⟩
theorem fp_X11_35 : kFp RX11 TX11 tyX11 38 9 35 1 .long := ⟨fd_X11_35, tyX11_ok, nmX11, rfl, rfl⟩
theorem fd_X11_36 : kFd RX11 TX11 38 9 36 2 := ⟨by decide +kernel, kin_X11, rfl, by decide, rfl⟩
theorem fd_X11_37 : kFd RX11 TX11 38 9 37 0 := ⟨by decide +kernel, kin_X11, rfl, by decide, rfl⟩
theorem fp_X11_37 : kFp RX11 TX11 tyX11 38 9 37 0 .int := ⟨fd_X11_37, tyX11_ok, nmX11, rfl, rfl⟩
def kShT : List (Int × Nat × Nat) := [(0, 18, 20), (1, 1, 140), (2, 1, 120), (48, 14, 3), (49, 6, 8), (170, 16, 12), (186, 5, 7), (194, 5, 7), (202, 5, 7), (210, 2, 16), (211, 2, 16), (212, 2, 16), (213, 1, 0), (214, 12, 7), (215, 5, 6), (222, 15, 2), (223, 5, 300), (524, 2, 16), (525, 2, 16), (526, 2, 16), (527, 2, 16), (528, 13, 4), (529, 2, 16), (530, 2, 16), (531, 2, 16), (532, 2, 16), (533, 11, 7), (534, 5, 12), (547, 1, 12), (548, 1, 12), (549, 2, 16), (550, 2, 16), (551, 2, 16), (552, 2, 16), (553, 17, 5), (554, 17, 5), (555, 2, 16), (556, 2, 16), (557, 2, 16), (558, 19, 38), (559, 2, 1600), (560, 2, 16), (561, 2, 192), (562, 2, 1536), (563, 2, 4800), (564, 4, 24), (565, 4, 12), (566, 4, 96), (567, 4, 12), (568, 1, 256), (569, 1, 8), (570, 3, 140), (571, 3, 120), (572, 1, 80), (573, 1, 80), (574, 1, 80), (575, 2, 192)]
def kRfT : List (Int × Int × Int) := [(0, 0, 1), (0, 2, 2), (0, 5, 3), (0, 6, 18), (0, 9, 33), (0, 10, 48), (0, 11, 170), (0, 12, 214), (0, 13, 528), (0, 14, 533), (0, 15, 553), (0, 16, 554), (0, 17, 555), (0, 18, 556), (0, 19, 557), (48, 0, 49), (170, 0, 171), (170, 1, 186), (170, 2, 194), (170, 3, 202), (170, 4, 210), (170, 5, 211), (170, 6, 212), (214, 0, 215), (214, 2, 222), (214, 3, 524), (214, 4, 525), (214, 5, 526), (214, 6, 527), (222, 0, 223), (528, 0, 529), (528, 1, 530), (528, 2, 531), (528, 3, 532), (533, 0, 534), (533, 1, 547), (533, 2, 548), (533, 3, 549), (533, 4, 550), (533, 5, 551), (533, 6, 552), (558, 0, 559), (558, 1, 560), (558, 2, 561), (558, 3, 562), (558, 4, 563), (558, 5, 564), (558, 6, 565), (558, 7, 566), (558, 8, 567), (558, 9, 568), (558, 10, 569), (558, 16, 570), (558, 17, 571), (558, 18, 572), (558, 19, 573), (558, 20, 574), (558, 36, 575)]
def kRwT : List (Int × Int) := [(186, 7), (194, 7), (202, 7), (215, 6), (223, 300), (534, 12)]
def kLtT : List Int := [3, 18, 33, 50, 65, 80, 95, 110, 125, 140, 155, 171]
/-- the place of one set of LETTERS -/
def kLet (S0 : KSh) (t : Int) : Prop := S0.2.1 t = (10, 2) ∧ S0.2.2 t 0 = t + 1 ∧ S0.2.1 (t + 1) = (5, 12) ∧ S0.2.2 t 1 = t + 14 ∧ S0.2.1 (t + 14) = (4, 12) ∧ ∀ x : Int, 0 ≤ x → x < 12 → S0.2.2 (t + 1) x = t + 2 + x ∧ S0.2.1 (t + 2 + x) = (2, 16)
/-- where all stands -/
def kLay (S0 : KSh) : Prop := (∀ q ∈ kShT, S0.2.1 q.1 = q.2) ∧ (∀ q ∈ kRfT, S0.2.2 q.1 q.2.1 = q.2.2) ∧ (∀ q ∈ kRwT, ∀ x : Int, 0 ≤ x → x < q.2 → S0.2.2 q.1 x = q.1 + 1 + x ∧ S0.2.1 (q.1 + 1 + x) = (2, 16)) ∧ (∀ t ∈ kLtT, kLet S0 t) ∧ ∀ x : Int, 0 ≤ x → x < 8 → S0.2.2 49 x = 50 + 15 * x ∧ kLet S0 (50 + 15 * x)
theorem lsh_0 {S0 : KSh} (h : kLay S0) : S0.2.1 0 = (18, 20) := h.1 _ (List.mem_of_getElem? (i := 0) rfl)
theorem lsh_1 {S0 : KSh} (h : kLay S0) : S0.2.1 1 = (1, 140) := h.1 _ (List.mem_of_getElem? (i := 1) rfl)
theorem lsh_2 {S0 : KSh} (h : kLay S0) : S0.2.1 2 = (1, 120) := h.1 _ (List.mem_of_getElem? (i := 2) rfl)
theorem lsh_48 {S0 : KSh} (h : kLay S0) : S0.2.1 48 = (14, 3) := h.1 _ (List.mem_of_getElem? (i := 3) rfl)
theorem lsh_49 {S0 : KSh} (h : kLay S0) : S0.2.1 49 = (6, 8) := h.1 _ (List.mem_of_getElem? (i := 4) rfl)
theorem lsh_170 {S0 : KSh} (h : kLay S0) : S0.2.1 170 = (16, 12) := h.1 _ (List.mem_of_getElem? (i := 5) rfl)
theorem lsh_186 {S0 : KSh} (h : kLay S0) : S0.2.1 186 = (5, 7) := h.1 _ (List.mem_of_getElem? (i := 6) rfl)
theorem lsh_194 {S0 : KSh} (h : kLay S0) : S0.2.1 194 = (5, 7) := h.1 _ (List.mem_of_getElem? (i := 7) rfl)
theorem lsh_202 {S0 : KSh} (h : kLay S0) : S0.2.1 202 = (5, 7) := h.1 _ (List.mem_of_getElem? (i := 8) rfl)
theorem lsh_210 {S0 : KSh} (h : kLay S0) : S0.2.1 210 = (2, 16) := h.1 _ (List.mem_of_getElem? (i := 9) rfl)
theorem lsh_211 {S0 : KSh} (h : kLay S0) : S0.2.1 211 = (2, 16) := h.1 _ (List.mem_of_getElem? (i := 10) rfl)
theorem lsh_212 {S0 : KSh} (h : kLay S0) : S0.2.1 212 = (2, 16) := h.1 _ (List.mem_of_getElem? (i := 11) rfl)
theorem lsh_213 {S0 : KSh} (h : kLay S0) : S0.2.1 213 = (1, 0) := h.1 _ (List.mem_of_getElem? (i := 12) rfl)
theorem lsh_214 {S0 : KSh} (h : kLay S0) : S0.2.1 214 = (12, 7) := h.1 _ (List.mem_of_getElem? (i := 13) rfl)
theorem lsh_215 {S0 : KSh} (h : kLay S0) : S0.2.1 215 = (5, 6) := h.1 _ (List.mem_of_getElem? (i := 14) rfl)
theorem lsh_222 {S0 : KSh} (h : kLay S0) : S0.2.1 222 = (15, 2) := h.1 _ (List.mem_of_getElem? (i := 15) rfl)
theorem lsh_223 {S0 : KSh} (h : kLay S0) : S0.2.1 223 = (5, 300) := h.1 _ (List.mem_of_getElem? (i := 16) rfl)
theorem lsh_524 {S0 : KSh} (h : kLay S0) : S0.2.1 524 = (2, 16) := h.1 _ (List.mem_of_getElem? (i := 17) rfl)
theorem lsh_525 {S0 : KSh} (h : kLay S0) : S0.2.1 525 = (2, 16) := h.1 _ (List.mem_of_getElem? (i := 18) rfl)
theorem lsh_526 {S0 : KSh} (h : kLay S0) : S0.2.1 526 = (2, 16) := h.1 _ (List.mem_of_getElem? (i := 19) rfl)
theorem lsh_527 {S0 : KSh} (h : kLay S0) : S0.2.1 527 = (2, 16) := h.1 _ (List.mem_of_getElem? (i := 20) rfl)
theorem lsh_528 {S0 : KSh} (h : kLay S0) : S0.2.1 528 = (13, 4) := h.1 _ (List.mem_of_getElem? (i := 21) rfl)
theorem lsh_529 {S0 : KSh} (h : kLay S0) : S0.2.1 529 = (2, 16) := h.1 _ (List.mem_of_getElem? (i := 22) rfl)
theorem lsh_530 {S0 : KSh} (h : kLay S0) : S0.2.1 530 = (2, 16) := h.1 _ (List.mem_of_getElem? (i := 23) rfl)
theorem lsh_531 {S0 : KSh} (h : kLay S0) : S0.2.1 531 = (2, 16) := h.1 _ (List.mem_of_getElem? (i := 24) rfl)
theorem lsh_532 {S0 : KSh} (h : kLay S0) : S0.2.1 532 = (2, 16) := h.1 _ (List.mem_of_getElem? (i := 25) rfl)
theorem lsh_533 {S0 : KSh} (h : kLay S0) : S0.2.1 533 = (11, 7) := h.1 _ (List.mem_of_getElem? (i := 26) rfl)
theorem lsh_534 {S0 : KSh} (h : kLay S0) : S0.2.1 534 = (5, 12) := h.1 _ (List.mem_of_getElem? (i := 27) rfl)
theorem lsh_547 {S0 : KSh} (h : kLay S0) : S0.2.1 547 = (1, 12) := h.1 _ (List.mem_of_getElem? (i := 28) rfl)
theorem lsh_548 {S0 : KSh} (h : kLay S0) : S0.2.1 548 = (1, 12) := h.1 _ (List.mem_of_getElem? (i := 29) rfl)
theorem lsh_549 {S0 : KSh} (h : kLay S0) : S0.2.1 549 = (2, 16) := h.1 _ (List.mem_of_getElem? (i := 30) rfl)
theorem lsh_550 {S0 : KSh} (h : kLay S0) : S0.2.1 550 = (2, 16) := h.1 _ (List.mem_of_getElem? (i := 31) rfl)
theorem lsh_551 {S0 : KSh} (h : kLay S0) : S0.2.1 551 = (2, 16) := h.1 _ (List.mem_of_getElem? (i := 32) rfl)
theorem lsh_552 {S0 : KSh} (h : kLay S0) : S0.2.1 552 = (2, 16) := h.1 _ (List.mem_of_getElem? (i := 33) rfl)
theorem lsh_553 {S0 : KSh} (h : kLay S0) : S0.2.1 553 = (17, 5) := h.1 _ (List.mem_of_getElem? (i := 34) rfl)
theorem lsh_554 {S0 : KSh} (h : kLay S0) : S0.2.1 554 = (17, 5) := h.1 _ (List.mem_of_getElem? (i := 35) rfl)
theorem lsh_555 {S0 : KSh} (h : kLay S0) : S0.2.1 555 = (2, 16) := h.1 _ (List.mem_of_getElem? (i := 36) rfl)
theorem lsh_556 {S0 : KSh} (h : kLay S0) : S0.2.1 556 = (2, 16) := h.1 _ (List.mem_of_getElem? (i := 37) rfl)
theorem lsh_557 {S0 : KSh} (h : kLay S0) : S0.2.1 557 = (2, 16) := h.1 _ (List.mem_of_getElem? (i := 38) rfl)
theorem lsh_558 {S0 : KSh} (h : kLay S0) : S0.2.1 558 = (19, 38) := h.1 _ (List.mem_of_getElem? (i := 39) rfl)
theorem lsh_559 {S0 : KSh} (h : kLay S0) : S0.2.1 559 = (2, 1600) := h.1 _ (List.mem_of_getElem? (i := 40) rfl)
theorem lsh_560 {S0 : KSh} (h : kLay S0) : S0.2.1 560 = (2, 16) := h.1 _ (List.mem_of_getElem? (i := 41) rfl)
theorem lsh_561 {S0 : KSh} (h : kLay S0) : S0.2.1 561 = (2, 192) := h.1 _ (List.mem_of_getElem? (i := 42) rfl)
theorem lsh_562 {S0 : KSh} (h : kLay S0) : S0.2.1 562 = (2, 1536) := h.1 _ (List.mem_of_getElem? (i := 43) rfl)
theorem lsh_563 {S0 : KSh} (h : kLay S0) : S0.2.1 563 = (2, 4800) := h.1 _ (List.mem_of_getElem? (i := 44) rfl)
theorem lsh_564 {S0 : KSh} (h : kLay S0) : S0.2.1 564 = (4, 24) := h.1 _ (List.mem_of_getElem? (i := 45) rfl)
theorem lsh_565 {S0 : KSh} (h : kLay S0) : S0.2.1 565 = (4, 12) := h.1 _ (List.mem_of_getElem? (i := 46) rfl)
theorem lsh_566 {S0 : KSh} (h : kLay S0) : S0.2.1 566 = (4, 96) := h.1 _ (List.mem_of_getElem? (i := 47) rfl)
theorem lsh_567 {S0 : KSh} (h : kLay S0) : S0.2.1 567 = (4, 12) := h.1 _ (List.mem_of_getElem? (i := 48) rfl)
theorem lsh_568 {S0 : KSh} (h : kLay S0) : S0.2.1 568 = (1, 256) := h.1 _ (List.mem_of_getElem? (i := 49) rfl)
theorem lsh_569 {S0 : KSh} (h : kLay S0) : S0.2.1 569 = (1, 8) := h.1 _ (List.mem_of_getElem? (i := 50) rfl)
theorem lsh_570 {S0 : KSh} (h : kLay S0) : S0.2.1 570 = (3, 140) := h.1 _ (List.mem_of_getElem? (i := 51) rfl)
theorem lsh_571 {S0 : KSh} (h : kLay S0) : S0.2.1 571 = (3, 120) := h.1 _ (List.mem_of_getElem? (i := 52) rfl)
theorem lsh_572 {S0 : KSh} (h : kLay S0) : S0.2.1 572 = (1, 80) := h.1 _ (List.mem_of_getElem? (i := 53) rfl)
theorem lsh_573 {S0 : KSh} (h : kLay S0) : S0.2.1 573 = (1, 80) := h.1 _ (List.mem_of_getElem? (i := 54) rfl)
theorem lsh_574 {S0 : KSh} (h : kLay S0) : S0.2.1 574 = (1, 80) := h.1 _ (List.mem_of_getElem? (i := 55) rfl)
theorem lsh_575 {S0 : KSh} (h : kLay S0) : S0.2.1 575 = (2, 192) := h.1 _ (List.mem_of_getElem? (i := 56) rfl)
theorem lrf_0_0 {S0 : KSh} (h : kLay S0) : S0.2.2 0 0 = 1 := h.2.1 _ (List.mem_of_getElem? (i := 0) rfl)
theorem lrf_0_2 {S0 : KSh} (h : kLay S0) : S0.2.2 0 2 = 2 := h.2.1 _ (List.mem_of_getElem? (i := 1) rfl)
theorem lrf_0_5 {S0 : KSh} (h : kLay S0) : S0.2.2 0 5 = 3 := h.2.1 _ (List.mem_of_getElem? (i := 2) rfl)
theorem lrf_0_6 {S0 : KSh} (h : kLay S0) : S0.2.2 0 6 = 18 := h.2.1 _ (List.mem_of_getElem? (i := 3) rfl)
theorem lrf_0_9 {S0 : KSh} (h : kLay S0) : S0.2.2 0 9 = 33 := h.2.1 _ (List.mem_of_getElem? (i := 4) rfl)
theorem lrf_0_10 {S0 : KSh} (h : kLay S0) : S0.2.2 0 10 = 48 := h.2.1 _ (List.mem_of_getElem? (i := 5) rfl)
theorem lrf_0_11 {S0 : KSh} (h : kLay S0) : S0.2.2 0 11 = 170 := h.2.1 _ (List.mem_of_getElem? (i := 6) rfl)
theorem lrf_0_12 {S0 : KSh} (h : kLay S0) : S0.2.2 0 12 = 214 := h.2.1 _ (List.mem_of_getElem? (i := 7) rfl)
theorem lrf_0_13 {S0 : KSh} (h : kLay S0) : S0.2.2 0 13 = 528 := h.2.1 _ (List.mem_of_getElem? (i := 8) rfl)
theorem lrf_0_14 {S0 : KSh} (h : kLay S0) : S0.2.2 0 14 = 533 := h.2.1 _ (List.mem_of_getElem? (i := 9) rfl)
theorem lrf_0_15 {S0 : KSh} (h : kLay S0) : S0.2.2 0 15 = 553 := h.2.1 _ (List.mem_of_getElem? (i := 10) rfl)
theorem lrf_0_16 {S0 : KSh} (h : kLay S0) : S0.2.2 0 16 = 554 := h.2.1 _ (List.mem_of_getElem? (i := 11) rfl)
theorem lrf_0_17 {S0 : KSh} (h : kLay S0) : S0.2.2 0 17 = 555 := h.2.1 _ (List.mem_of_getElem? (i := 12) rfl)
theorem lrf_0_18 {S0 : KSh} (h : kLay S0) : S0.2.2 0 18 = 556 := h.2.1 _ (List.mem_of_getElem? (i := 13) rfl)
theorem lrf_0_19 {S0 : KSh} (h : kLay S0) : S0.2.2 0 19 = 557 := h.2.1 _ (List.mem_of_getElem? (i := 14) rfl)
theorem lrf_48_0 {S0 : KSh} (h : kLay S0) : S0.2.2 48 0 = 49 := h.2.1 _ (List.mem_of_getElem? (i := 15) rfl)
theorem lrf_170_0 {S0 : KSh} (h : kLay S0) : S0.2.2 170 0 = 171 := h.2.1 _ (List.mem_of_getElem? (i := 16) rfl)
theorem lrf_170_1 {S0 : KSh} (h : kLay S0) : S0.2.2 170 1 = 186 := h.2.1 _ (List.mem_of_getElem? (i := 17) rfl)
theorem lrf_170_2 {S0 : KSh} (h : kLay S0) : S0.2.2 170 2 = 194 := h.2.1 _ (List.mem_of_getElem? (i := 18) rfl)
theorem lrf_170_3 {S0 : KSh} (h : kLay S0) : S0.2.2 170 3 = 202 := h.2.1 _ (List.mem_of_getElem? (i := 19) rfl)
theorem lrf_170_4 {S0 : KSh} (h : kLay S0) : S0.2.2 170 4 = 210 := h.2.1 _ (List.mem_of_getElem? (i := 20) rfl)
theorem lrf_170_5 {S0 : KSh} (h : kLay S0) : S0.2.2 170 5 = 211 := h.2.1 _ (List.mem_of_getElem? (i := 21) rfl)
theorem lrf_170_6 {S0 : KSh} (h : kLay S0) : S0.2.2 170 6 = 212 := h.2.1 _ (List.mem_of_getElem? (i := 22) rfl)
theorem lrf_214_0 {S0 : KSh} (h : kLay S0) : S0.2.2 214 0 = 215 := h.2.1 _ (List.mem_of_getElem? (i := 23) rfl)
theorem lrf_214_2 {S0 : KSh} (h : kLay S0) : S0.2.2 214 2 = 222 := h.2.1 _ (List.mem_of_getElem? (i := 24) rfl)
theorem lrf_214_3 {S0 : KSh} (h : kLay S0) : S0.2.2 214 3 = 524 := h.2.1 _ (List.mem_of_getElem? (i := 25) rfl)
theorem lrf_214_4 {S0 : KSh} (h : kLay S0) : S0.2.2 214 4 = 525 := h.2.1 _ (List.mem_of_getElem? (i := 26) rfl)
theorem lrf_214_5 {S0 : KSh} (h : kLay S0) : S0.2.2 214 5 = 526 := h.2.1 _ (List.mem_of_getElem? (i := 27) rfl)
theorem lrf_214_6 {S0 : KSh} (h : kLay S0) : S0.2.2 214 6 = 527 := h.2.1 _ (List.mem_of_getElem? (i := 28) rfl)
theorem lrf_222_0 {S0 : KSh} (h : kLay S0) : S0.2.2 222 0 = 223 := h.2.1 _ (List.mem_of_getElem? (i := 29) rfl)
theorem lrf_528_0 {S0 : KSh} (h : kLay S0) : S0.2.2 528 0 = 529 := h.2.1 _ (List.mem_of_getElem? (i := 30) rfl)
theorem lrf_528_1 {S0 : KSh} (h : kLay S0) : S0.2.2 528 1 = 530 := h.2.1 _ (List.mem_of_getElem? (i := 31) rfl)
theorem lrf_528_2 {S0 : KSh} (h : kLay S0) : S0.2.2 528 2 = 531 := h.2.1 _ (List.mem_of_getElem? (i := 32) rfl)
theorem lrf_528_3 {S0 : KSh} (h : kLay S0) : S0.2.2 528 3 = 532 := h.2.1 _ (List.mem_of_getElem? (i := 33) rfl)
theorem lrf_533_0 {S0 : KSh} (h : kLay S0) : S0.2.2 533 0 = 534 := h.2.1 _ (List.mem_of_getElem? (i := 34) rfl)
theorem lrf_533_1 {S0 : KSh} (h : kLay S0) : S0.2.2 533 1 = 547 := h.2.1 _ (List.mem_of_getElem? (i := 35) rfl)
theorem lrf_533_2 {S0 : KSh} (h : kLay S0) : S0.2.2 533 2 = 548 := h.2.1 _ (List.mem_of_getElem? (i := 36) rfl)
theorem lrf_533_3 {S0 : KSh} (h : kLay S0) : S0.2.2 533 3 = 549 := h.2.1 _ (List.mem_of_getElem? (i := 37) rfl)
theorem lrf_533_4 {S0 : KSh} (h : kLay S0) : S0.2.2 533 4 = 550 := h.2.1 _ (List.mem_of_getElem? (i := 38) rfl)
theorem lrf_533_5 {S0 : KSh} (h : kLay S0) : S0.2.2 533 5 = 551 := h.2.1 _ (List.mem_of_getElem? (i := 39) rfl)
theorem lrf_533_6 {S0 : KSh} (h : kLay S0) : S0.2.2 533 6 = 552 := h.2.1 _ (List.mem_of_getElem? (i := 40) rfl)
theorem lrf_558_0 {S0 : KSh} (h : kLay S0) : S0.2.2 558 0 = 559 := h.2.1 _ (List.mem_of_getElem? (i := 41) rfl)
theorem lrf_558_1 {S0 : KSh} (h : kLay S0) : S0.2.2 558 1 = 560 := h.2.1 _ (List.mem_of_getElem? (i := 42) rfl)
theorem lrf_558_2 {S0 : KSh} (h : kLay S0) : S0.2.2 558 2 = 561 := h.2.1 _ (List.mem_of_getElem? (i := 43) rfl)
theorem lrf_558_3 {S0 : KSh} (h : kLay S0) : S0.2.2 558 3 = 562 := h.2.1 _ (List.mem_of_getElem? (i := 44) rfl)
theorem lrf_558_4 {S0 : KSh} (h : kLay S0) : S0.2.2 558 4 = 563 := h.2.1 _ (List.mem_of_getElem? (i := 45) rfl)
theorem lrf_558_5 {S0 : KSh} (h : kLay S0) : S0.2.2 558 5 = 564 := h.2.1 _ (List.mem_of_getElem? (i := 46) rfl)
theorem lrf_558_6 {S0 : KSh} (h : kLay S0) : S0.2.2 558 6 = 565 := h.2.1 _ (List.mem_of_getElem? (i := 47) rfl)
theorem lrf_558_7 {S0 : KSh} (h : kLay S0) : S0.2.2 558 7 = 566 := h.2.1 _ (List.mem_of_getElem? (i := 48) rfl)
theorem lrf_558_8 {S0 : KSh} (h : kLay S0) : S0.2.2 558 8 = 567 := h.2.1 _ (List.mem_of_getElem? (i := 49) rfl)
theorem lrf_558_9 {S0 : KSh} (h : kLay S0) : S0.2.2 558 9 = 568 := h.2.1 _ (List.mem_of_getElem? (i := 50) rfl)
theorem lrf_558_10 {S0 : KSh} (h : kLay S0) : S0.2.2 558 10 = 569 := h.2.1 _ (List.mem_of_getElem? (i := 51) rfl)
theorem lrf_558_16 {S0 : KSh} (h : kLay S0) : S0.2.2 558 16 = 570 := h.2.1 _ (List.mem_of_getElem? (i := 52) rfl)
theorem lrf_558_17 {S0 : KSh} (h : kLay S0) : S0.2.2 558 17 = 571 := h.2.1 _ (List.mem_of_getElem? (i := 53) rfl)
theorem lrf_558_18 {S0 : KSh} (h : kLay S0) : S0.2.2 558 18 = 572 := h.2.1 _ (List.mem_of_getElem? (i := 54) rfl)
theorem lrf_558_19 {S0 : KSh} (h : kLay S0) : S0.2.2 558 19 = 573 := h.2.1 _ (List.mem_of_getElem? (i := 55) rfl)
theorem lrf_558_20 {S0 : KSh} (h : kLay S0) : S0.2.2 558 20 = 574 := h.2.1 _ (List.mem_of_getElem? (i := 56) rfl)
theorem lrf_558_36 {S0 : KSh} (h : kLay S0) : S0.2.2 558 36 = 575 := h.2.1 _ (List.mem_of_getElem? (i := 57) rfl)
theorem lrw_186 {S0 : KSh} (h : kLay S0) {x : Int} (h0 : 0 ≤ x ∧ x < 7) : S0.2.2 186 x = 186 + 1 + x ∧ S0.2.1 (186 + 1 + x) = (2, 16) := h.2.2.1 _ (List.mem_of_getElem? (i := 0) rfl) x h0.1 h0.2
theorem lrw_194 {S0 : KSh} (h : kLay S0) {x : Int} (h0 : 0 ≤ x ∧ x < 7) : S0.2.2 194 x = 194 + 1 + x ∧ S0.2.1 (194 + 1 + x) = (2, 16) := h.2.2.1 _ (List.mem_of_getElem? (i := 1) rfl) x h0.1 h0.2
theorem lrw_202 {S0 : KSh} (h : kLay S0) {x : Int} (h0 : 0 ≤ x ∧ x < 7) : S0.2.2 202 x = 202 + 1 + x ∧ S0.2.1 (202 + 1 + x) = (2, 16) := h.2.2.1 _ (List.mem_of_getElem? (i := 2) rfl) x h0.1 h0.2
theorem lrw_215 {S0 : KSh} (h : kLay S0) {x : Int} (h0 : 0 ≤ x ∧ x < 6) : S0.2.2 215 x = 215 + 1 + x ∧ S0.2.1 (215 + 1 + x) = (2, 16) := h.2.2.1 _ (List.mem_of_getElem? (i := 3) rfl) x h0.1 h0.2
theorem lrw_223 {S0 : KSh} (h : kLay S0) {x : Int} (h0 : 0 ≤ x ∧ x < 300) : S0.2.2 223 x = 223 + 1 + x ∧ S0.2.1 (223 + 1 + x) = (2, 16) := h.2.2.1 _ (List.mem_of_getElem? (i := 4) rfl) x h0.1 h0.2
theorem lrw_534 {S0 : KSh} (h : kLay S0) {x : Int} (h0 : 0 ≤ x ∧ x < 12) : S0.2.2 534 x = 534 + 1 + x ∧ S0.2.1 (534 + 1 + x) = (2, 16) := h.2.2.1 _ (List.mem_of_getElem? (i := 5) rfl) x h0.1 h0.2
theorem llt_3 {S0 : KSh} (h : kLay S0) : kLet S0 3 := h.2.2.2.1 _ (List.mem_of_getElem? (i := 0) rfl)
theorem llt_18 {S0 : KSh} (h : kLay S0) : kLet S0 18 := h.2.2.2.1 _ (List.mem_of_getElem? (i := 1) rfl)
theorem llt_33 {S0 : KSh} (h : kLay S0) : kLet S0 33 := h.2.2.2.1 _ (List.mem_of_getElem? (i := 2) rfl)
theorem llt_50 {S0 : KSh} (h : kLay S0) : kLet S0 50 := h.2.2.2.1 _ (List.mem_of_getElem? (i := 3) rfl)
theorem llt_65 {S0 : KSh} (h : kLay S0) : kLet S0 65 := h.2.2.2.1 _ (List.mem_of_getElem? (i := 4) rfl)
theorem llt_80 {S0 : KSh} (h : kLay S0) : kLet S0 80 := h.2.2.2.1 _ (List.mem_of_getElem? (i := 5) rfl)
theorem llt_95 {S0 : KSh} (h : kLay S0) : kLet S0 95 := h.2.2.2.1 _ (List.mem_of_getElem? (i := 6) rfl)
theorem llt_110 {S0 : KSh} (h : kLay S0) : kLet S0 110 := h.2.2.2.1 _ (List.mem_of_getElem? (i := 7) rfl)
theorem llt_125 {S0 : KSh} (h : kLay S0) : kLet S0 125 := h.2.2.2.1 _ (List.mem_of_getElem? (i := 8) rfl)
theorem llt_140 {S0 : KSh} (h : kLay S0) : kLet S0 140 := h.2.2.2.1 _ (List.mem_of_getElem? (i := 9) rfl)
theorem llt_155 {S0 : KSh} (h : kLay S0) : kLet S0 155 := h.2.2.2.1 _ (List.mem_of_getElem? (i := 10) rfl)
theorem llt_171 {S0 : KSh} (h : kLay S0) : kLet S0 171 := h.2.2.2.1 _ (List.mem_of_getElem? (i := 11) rfl)
