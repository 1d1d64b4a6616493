
theorem kadr {G : KG} {S : KSt} {H : Heap} {a : Int} {t n : Nat} (h : kHeap G S H) (hs : S.1.2.1 a = (t, n)) (ht : t ≠ 0) : ∃ i : Nat, a = (i : Int) ∧ i < S.1.1 ∧ kref G a = .ref (kb0 G + i) ∧ (kws G S)[i]? = some (kb0 G + i, kcell G S i) := by
  obtain ⟨h0, h1⟩ := h.2.2 a (by rw [hs]; exact ht)
  obtain ⟨i, rfl⟩ := Int.eq_ofNat_of_zero_le h0
  have hi : i < S.1.1 := by omega
  exact ⟨i, rfl, hi, if_pos h0, kws_get hi⟩
theorem kix {i : Int} {n : Nat} (h : 0 ≤ i ∧ i < n) (hn : n < 2147483648) : vp_in (Int32.ofInt i) n ∧ (Int32.ofInt i).toNatClampNeg = i.toNat ∧ ((i.toNat : Nat) : Int) = i := by
  have e : (Int32.ofInt i).toInt = i := k32_t (by unfold k32; omega)
  refine ⟨vp_in_iff.mpr (by rw [e]; exact h), ?_, by omega⟩
  show (Int32.ofInt i).toInt.toNat = _
  rw [e]
theorem kcell_o {G : KG} {S : KSt} {a : Nat} {ci n : Nat} (h : S.1.2.1 (a : Int) = (10 + ci, n)) : kcell G S a = .inr (ci, (List.range n).map (fun (j : Nat) => kv G (kfv ci j (S.1.2.2 a j) (S.2 a j)))) := by
  have e : 10 + ci - 10 = ci := by omega
  have e2 : 10 + ci = (ci + 3) + 7 := by omega
  unfold kcell
  rw [h]
  simp only [e2]
  have e3 : ci + 3 + 7 - 10 = ci := by omega
  rw [e3]
theorem kcell_1 {G : KG} {S : KSt} {a n : Nat} (h : S.1.2.1 (a : Int) = (1, n)) : kcell G S a = .inl (kdA G 1, (n, .inl (fun j => Int32.ofInt (S.2 a j)))) := by
  unfold kcell
  rw [h]
  rfl
theorem kcell_2 {G : KG} {S : KSt} {a n : Nat} (h : S.1.2.1 (a : Int) = (2, n)) : kcell G S a = .inl (kdA G 2, (n, .inr (.inl (fun j => Int64.ofInt (S.2 a j))))) := by
  unfold kcell
  rw [h]
  rfl
theorem kcell_3 {G : KG} {S : KSt} {a n : Nat} (h : S.1.2.1 (a : Int) = (3, n)) : kcell G S a = .inl (kdA G 3, (n, .inl (fun j => Int32.ofInt (S.2 a j)))) := by
  unfold kcell
  rw [h]
  rfl
theorem kcell_4 {G : KG} {S : KSt} {a n : Nat} (h : S.1.2.1 (a : Int) = (4, n)) : kcell G S a = .inl (kdA G 4, (n, .inl (fun j => Int32.ofInt (S.2 a j)))) := by
  unfold kcell
  rw [h]
  rfl
theorem kcell_5 {G : KG} {S : KSt} {a n : Nat} (h : S.1.2.1 (a : Int) = (5, n)) : kcell G S a = .inl (kdA G 5, (n, .inr (.inr (.inr (.inr (fun j => krf G (S.1.2.2 a j))))))) := by
  unfold kcell
  rw [h]
  rfl
theorem kcell_6 {G : KG} {S : KSt} {a n : Nat} (h : S.1.2.1 (a : Int) = (6, n)) : kcell G S a = .inl (kdA G 6, (n, .inr (.inr (.inr (.inr (fun j => krf G (S.1.2.2 a j))))))) := by
  unfold kcell
  rw [h]
  rfl

/-- the state with one place changed -/
abbrev kS (S : KSt) (a i v : Int) : KSt := (S.1, kup S.2 a i v)
theorem kcell_kS {G : KG} {S : KSt} {a i v : Int} {j : Nat} (h : (j : Int) ≠ a) : kcell G (kS S a i v) j = kcell G S j :=
  kcell_congr rfl (fun _ => rfl) (fun _ => kup_n (Or.inl h))
theorem kws_kS {G : KG} {S : KSt} {i v : Int} {j : Nat} : kws G (kS S (j : Int) i v) = (kws G S).set j (kb0 G + j, kcell G (kS S (j : Int) i v) j) :=
  kws_set rfl (fun k hk => kcell_kS (by omega))
/-- the state with one frozen reference changed -/
abbrev kSR (S : KSt) (a i v : Int) : KSt := ((S.1.1, S.1.2.1, kup S.1.2.2 a i v), S.2)
theorem kcell_kSR {G : KG} {S : KSt} {a i v : Int} {j : Nat} (h : (j : Int) ≠ a) : kcell G (kSR S a i v) j = kcell G S j :=
  kcell_congr rfl (fun _ => kup_n (Or.inl h)) (fun _ => rfl)
theorem kws_kSR {G : KG} {S : KSt} {i v : Int} {j : Nat} : kws G (kSR S (j : Int) i v) = (kws G S).set j (kb0 G + j, kcell G (kSR S (j : Int) i v) j) :=
  kws_set rfl (fun k hk => kcell_kSR (by omega))
theorem kmap_set (n k : Nat) (f g : Nat → Value) (v : Value) (h1 : ∀ j, j ≠ k → g j = f j) (h2 : g k = v) : (List.range n).map g = ((List.range n).map f).set k v := by
  apply List.ext_getElem?
  intro j
  by_cases hj : j = k
  · subst hj
    by_cases hl : j < n
    · rw [List.getElem?_set_self (by simpa using hl)]
      simp [hl, h2]
    · rw [List.getElem?_eq_none (by simpa using hl), List.getElem?_eq_none (by simpa using hl)]
  · rw [List.getElem?_set_ne (Ne.symm hj)]
    by_cases hl : j < n
    · simp [hl, h1 j hj]
    · rw [List.getElem?_eq_none (by simpa using hl), List.getElem?_eq_none (by simpa using hl)]
section KM
variable {G : KG} {M : KM} {d bc bs pc : Nat} {ls : List (Option AV)} {st : List AV} {S : KSt} {Q : Option AV → KSt → Prop} {a b x : Int}
theorem kw_get {ci k N idx : Nat} {Cn : String} {T : u_T} (hin : ∀ w ∈ u_ws Cn T N, w ∈ KW) (hc : vwCl[ci]? = some (Cn, T, N)) (hk : k < N) (hd : decode M.2.1 pc = .ok (.getfield idx, 3)) (hT : (T k).1 = Cn) (hw : Cond.fieldLink M.1 idx Cn (T k).2.1 (T k).2.2.1 ∈ KW) (hs : S.1.2.1 a = (10 + ci, N)) (k1 : kWP G M d bc bs (pc + 3) ls (kfv ci k (S.1.2.2 a k) (S.2 a k) :: st) S Q) : kWP G M d bc bs (pc) ls (kA a :: st) S Q := by
  intro p l e R s m args below meth c H locs cells slots LS Z C hl hf
  obtain ⟨i, rfl, hi, hr, hg⟩ := kadr C.2.2.2.1 hs (by omega)
  show W _ _ _ _ _ _ _ _ _ _ _ _ _ _ _ (F0 m pc LS (kref G i :: st.map (kv G)))
  rw [hr]
  rw [kcell_o hs] at hg
  exact va_get C.1.1 C.1.2.1 C.1.2.2.2.2 hin C.1.2.2.2.1 C.2.2.2.2.2.1 C.2.2.2.1.1 i hg hc k hk (C.1.2.2.2.2 _ hw) (fun y hy => by rw [hT] at hy; exact hy) (v := kv G (kfv ci k (S.1.2.2 i k) (S.2 i k))) (by simp [hk]) hd (k1 p l e R s m args below meth c H locs cells slots LS Z C hl hf)

theorem kw_getI {ci k N idx : Nat} {Cn : String} {T : u_T} (hty : kfty ci k = 0) (hin : ∀ w ∈ u_ws Cn T N, w ∈ KW) (hc : vwCl[ci]? = some (Cn, T, N)) (hk : k < N) (hd : decode M.2.1 pc = .ok (.getfield idx, 3)) (hT : (T k).1 = Cn) (hw : Cond.fieldLink M.1 idx Cn (T k).2.1 (T k).2.2.1 ∈ KW) (hs : S.1.2.1 a = (10 + ci, N)) (k1 : kWP G M d bc bs (pc + 3) ls (kI (S.2 a k) :: st) S Q) : kWP G M d bc bs (pc) ls (kA a :: st) S Q :=
  kw_get hin hc hk hd hT hw hs (by unfold kfv; rw [hty]; exact k1)
theorem kw_getL {ci k N idx : Nat} {Cn : String} {T : u_T} (hty : kfty ci k = 1) (hin : ∀ w ∈ u_ws Cn T N, w ∈ KW) (hc : vwCl[ci]? = some (Cn, T, N)) (hk : k < N) (hd : decode M.2.1 pc = .ok (.getfield idx, 3)) (hT : (T k).1 = Cn) (hw : Cond.fieldLink M.1 idx Cn (T k).2.1 (T k).2.2.1 ∈ KW) (hs : S.1.2.1 a = (10 + ci, N)) (k1 : kWP G M d bc bs (pc + 3) ls (kL (S.2 a k) :: st) S Q) : kWP G M d bc bs (pc) ls (kA a :: st) S Q :=
  kw_get hin hc hk hd hT hw hs (by unfold kfv; rw [hty]; exact k1)
theorem kw_getR {ci k N idx : Nat} {Cn : String} {T : u_T} (hty : kfty ci k = 2) (hin : ∀ w ∈ u_ws Cn T N, w ∈ KW) (hc : vwCl[ci]? = some (Cn, T, N)) (hk : k < N) (hd : decode M.2.1 pc = .ok (.getfield idx, 3)) (hT : (T k).1 = Cn) (hw : Cond.fieldLink M.1 idx Cn (T k).2.1 (T k).2.2.1 ∈ KW) (hs : S.1.2.1 a = (10 + ci, N)) (k1 : kWP G M d bc bs (pc + 3) ls (kA (S.1.2.2 a k) :: st) S Q) : kWP G M d bc bs (pc) ls (kA a :: st) S Q :=
  kw_get hin hc hk hd hT hw hs (by unfold kfv; rw [hty]; exact k1)
theorem kw_getD {ci k N idx : Nat} {Cn : String} {T : u_T} (hty : kfty ci k = 3) (hin : ∀ w ∈ u_ws Cn T N, w ∈ KW) (hc : vwCl[ci]? = some (Cn, T, N)) (hk : k < N) (hd : decode M.2.1 pc = .ok (.getfield idx, 3)) (hT : (T k).1 = Cn) (hw : Cond.fieldLink M.1 idx Cn (T k).2.1 (T k).2.2.1 ∈ KW) (hs : S.1.2.1 a = (10 + ci, N)) (k1 : kWP G M d bc bs (pc + 3) ls (kA (S.2 a k) :: st) S Q) : kWP G M d bc bs (pc) ls (kA a :: st) S Q :=
  kw_get hin hc hk hd hT hw hs (by unfold kfv; rw [hty]; exact k1)
theorem kw_iald {n : Nat} (hd : decode M.2.1 pc = .ok (.iaload, 1)) (hs : S.1.2.1 a = (1, n)) (hn : n < 2147483648) (hi : 0 ≤ x ∧ x < n) (k1 : kWP G M d bc bs (pc + 1) ls (kI (S.2 a x) :: st) S Q) : kWP G M d bc bs (pc) ls (kI x :: kA a :: st) S Q := by
  intro p l e R s m args below meth c H locs cells slots LS Z C hl hf
  obtain ⟨i, rfl, hil, hr, hg⟩ := kadr C.2.2.2.1 hs (by omega)
  obtain ⟨h1, h2, h3⟩ := kix hi hn
  show W _ _ _ _ _ _ _ _ _ _ _ _ _ _ _ (F0 m pc LS (.int (Int32.ofInt x) :: kref G i :: st.map (kv G)))
  rw [hr]
  rw [kcell_1 hs] at hg
  refine va_iald C.1.1 C.1.2.1 C.2.2.2.2.2.1 C.2.2.2.1.1 i 0 hg rfl h1 hd ?_
  rw [h2, h3]
  exact k1 p l e R s m args below meth c H locs cells slots LS Z C hl hf
theorem kw_lald {n : Nat} (hd : decode M.2.1 pc = .ok (.laload, 1)) (hs : S.1.2.1 a = (2, n)) (hn : n < 2147483648) (hi : 0 ≤ x ∧ x < n) (k1 : kWP G M d bc bs (pc + 1) ls (kL (S.2 a x) :: st) S Q) : kWP G M d bc bs (pc) ls (kI x :: kA a :: st) S Q := by
  intro p l e R s m args below meth c H locs cells slots LS Z C hl hf
  obtain ⟨i, rfl, hil, hr, hg⟩ := kadr C.2.2.2.1 hs (by omega)
  obtain ⟨h1, h2, h3⟩ := kix hi hn
  show W _ _ _ _ _ _ _ _ _ _ _ _ _ _ _ (F0 m pc LS (.int (Int32.ofInt x) :: kref G i :: st.map (kv G)))
  rw [hr]
  rw [kcell_2 hs] at hg
  refine va_lald C.1.1 C.1.2.1 C.2.2.2.2.2.1 C.2.2.2.1.1 i 1 hg rfl h1 hd ?_
  rw [h2, h3]
  exact k1 p l e R s m args below meth c H locs cells slots LS Z C hl hf
theorem kw_bald {n : Nat} (hd : decode M.2.1 pc = .ok (.baload, 1)) (hs : S.1.2.1 a = (3, n)) (hn : n < 2147483648) (hi : 0 ≤ x ∧ x < n) (k1 : kWP G M d bc bs (pc + 1) ls (kI (S.2 a x) :: st) S Q) : kWP G M d bc bs (pc) ls (kI x :: kA a :: st) S Q := by
  intro p l e R s m args below meth c H locs cells slots LS Z C hl hf
  obtain ⟨i, rfl, hil, hr, hg⟩ := kadr C.2.2.2.1 hs (by omega)
  obtain ⟨h1, h2, h3⟩ := kix hi hn
  show W _ _ _ _ _ _ _ _ _ _ _ _ _ _ _ (F0 m pc LS (.int (Int32.ofInt x) :: kref G i :: st.map (kv G)))
  rw [hr]
  rw [kcell_3 hs] at hg
  refine va_bald C.1.1 C.1.2.1 C.2.2.2.2.2.1 C.2.2.2.1.1 i 2 hg rfl h1 hd ?_
  rw [h2, h3]
  exact k1 p l e R s m args below meth c H locs cells slots LS Z C hl hf
theorem kw_zald {n : Nat} (hd : decode M.2.1 pc = .ok (.baload, 1)) (hs : S.1.2.1 a = (4, n)) (hn : n < 2147483648) (hi : 0 ≤ x ∧ x < n) (k1 : kWP G M d bc bs (pc + 1) ls (kI (S.2 a x) :: st) S Q) : kWP G M d bc bs (pc) ls (kI x :: kA a :: st) S Q := by
  intro p l e R s m args below meth c H locs cells slots LS Z C hl hf
  obtain ⟨i, rfl, hil, hr, hg⟩ := kadr C.2.2.2.1 hs (by omega)
  obtain ⟨h1, h2, h3⟩ := kix hi hn
  show W _ _ _ _ _ _ _ _ _ _ _ _ _ _ _ (F0 m pc LS (.int (Int32.ofInt x) :: kref G i :: st.map (kv G)))
  rw [hr]
  rw [kcell_4 hs] at hg
  refine va_zald C.1.1 C.1.2.1 C.2.2.2.2.2.1 C.2.2.2.1.1 i 3 hg rfl h1 hd ?_
  rw [h2, h3]
  exact k1 p l e R s m args below meth c H locs cells slots LS Z C hl hf
theorem kw_aald5 {n : Nat} (hd : decode M.2.1 pc = .ok (.aaload, 1)) (hs : S.1.2.1 a = (5, n)) (hn : n < 2147483648) (hi : 0 ≤ x ∧ x < n) (hr0 : -1 ≤ S.1.2.2 a x) (k1 : kWP G M d bc bs (pc + 1) ls (kA (S.1.2.2 a x) :: st) S Q) : kWP G M d bc bs (pc) ls (kI x :: kA a :: st) S Q := by
  intro p l e R s m args below meth c H locs cells slots LS Z C hl hf
  obtain ⟨i, rfl, hil, hr, hg⟩ := kadr C.2.2.2.1 hs (by omega)
  obtain ⟨h1, h2, h3⟩ := kix hi hn
  show W _ _ _ _ _ _ _ _ _ _ _ _ _ _ _ (F0 m pc LS (.int (Int32.ofInt x) :: kref G i :: st.map (kv G)))
  rw [hr]
  rw [kcell_5 hs] at hg
  have hlt : (Int32.ofInt x).toNatClampNeg < n := by rw [h2]; omega
  refine W.aald (v := kref G (S.1.2.2 i x)) C.1.1 C.1.2.1 (C.2.2.2.1.1 i _ hg) ((C.2.2.2.2.2.1.2 4 _ rfl).1 n _) rfl (fun q => by cases q) (by show ¬ (Int32.ofInt x < 0 ∨ (arrV _ _ _).slots.size ≤ _); rw [arrV_size]; exact h1) ?_ rfl rfl hd (k1 p l e R s m args below meth c H locs cells slots LS Z C hl hf)
  show (arrV _ _ _).slots[_]? = _
  rw [arrV_read _ _ hlt, h2]
  show some (va_rf (krf G (S.1.2.2 i ((x.toNat : Nat) : Int)))) = _
  rw [h3, krf_kref G hr0]
theorem kw_aald6 {n : Nat} (hd : decode M.2.1 pc = .ok (.aaload, 1)) (hs : S.1.2.1 a = (6, n)) (hn : n < 2147483648) (hi : 0 ≤ x ∧ x < n) (hr0 : -1 ≤ S.1.2.2 a x) (k1 : kWP G M d bc bs (pc + 1) ls (kA (S.1.2.2 a x) :: st) S Q) : kWP G M d bc bs (pc) ls (kI x :: kA a :: st) S Q := by
  intro p l e R s m args below meth c H locs cells slots LS Z C hl hf
  obtain ⟨i, rfl, hil, hr, hg⟩ := kadr C.2.2.2.1 hs (by omega)
  obtain ⟨h1, h2, h3⟩ := kix hi hn
  show W _ _ _ _ _ _ _ _ _ _ _ _ _ _ _ (F0 m pc LS (.int (Int32.ofInt x) :: kref G i :: st.map (kv G)))
  rw [hr]
  rw [kcell_6 hs] at hg
  have hlt : (Int32.ofInt x).toNatClampNeg < n := by rw [h2]; omega
  refine W.aald (v := kref G (S.1.2.2 i x)) C.1.1 C.1.2.1 (C.2.2.2.1.1 i _ hg) ((C.2.2.2.2.2.1.2 5 _ rfl).1 n _) rfl (fun q => by cases q) (by show ¬ (Int32.ofInt x < 0 ∨ (arrV _ _ _).slots.size ≤ _); rw [arrV_size]; exact h1) ?_ rfl rfl hd (k1 p l e R s m args below meth c H locs cells slots LS Z C hl hf)
  show (arrV _ _ _).slots[_]? = _
  rw [arrV_read _ _ hlt, h2]
  show some (va_rf (krf G (S.1.2.2 i ((x.toNat : Nat) : Int)))) = _
  rw [h3, krf_kref G hr0]

theorem kcell_ext {D : ClassId} {n : Nat} {f g : Nat → Value} (h : ∀ j, j < n → f j = g j) : arrV D n f = arrV D n g := by
  unfold arrV
  congr 1
  apply Array.ext
  · simp
  · intro i h1 h2
    simp at h1
    simp [h i h1]
/-- behind a store -/
theorem kstore {G : KG} {S S' : KSt} {H H1 H0 : Heap} {locs : List Loc} {i j : Nat} (hH : kHeap G S H) (hS : va_S (fun q => kb0 G ≤ q) H0 H locs) (hi : i < S.1.1) (hN : S'.1.1 = S.1.1) (hsh : S'.1.2.1 = S.1.2.1) (hoth : ∀ k : Nat, k ≠ i → kcell G S' k = kcell G S k) (he : va_at (kD G) vwCl (kb0 G + i, kcell G S' i) H1) (hz : H1.size = H.size) (oq : ∀ q : Nat, q ≠ kb0 G + i → H1[q]? = H[q]?) :
    kHeap G S' H1 ∧ va_S (fun q => kb0 G ≤ q) H0 H1 (locs ++ [⟨kb0 G + i, j⟩]) := by
  refine ⟨⟨?_, by rw [hz, hH.2.1, hN], fun a ha => ?_⟩, hS.put hz oq (Nat.le_add_right _ _)⟩
  · rw [kws_set hN hoth]
    exact hH.1.set (kws_D G S) (kws_get hi) he oq
  · rw [hsh] at ha
    rw [hN]
    exact hH.2.2 a ha

theorem kw_iast {n : Nat} (hd : decode M.2.1 pc = .ok (.iastore, 1)) (hs : S.1.2.1 a = (1, n)) (hn : n < 2147483648) (hi : 0 ≤ x ∧ x < n) (k1 : kWP G M d bc bs (pc + 1) ls (st) (kS S a x (b)) Q) : kWP G M d bc bs (pc) ls (kI b :: kI x :: kA a :: st) S Q := by
  intro p l e R s m args below meth c H locs cells slots LS Z C hl hf
  obtain ⟨i, rfl, hil, hr, hg⟩ := kadr C.2.2.2.1 hs (by omega)
  obtain ⟨h1, h2, h3⟩ := kix hi hn
  show W _ _ _ _ _ _ _ _ _ _ _ _ _ _ _ (F0 m pc LS (.int (Int32.ofInt b) :: .int (Int32.ofInt x) :: kref G i :: st.map (kv G)))
  rw [hr]
  rw [kcell_1 hs] at hg
  refine W.iast C.1.1 C.1.2.1 (C.2.2.2.1.1 i _ hg) ((C.2.2.2.2.2.1.2 0 _ rfl).1 n _) (fun q => by cases q) (by show ¬ (Int32.ofInt x < 0 ∨ (arrV _ _ _).slots.size ≤ _); rw [arrV_size]; exact h1) rfl rfl hd fun H1 e1 z oq => ?_
  have hst := kstore (S' := kS S i x (b)) (j := (Int32.ofInt x).toNatClampNeg) C.2.2.2.1 C.2.2.2.2.1 hil rfl rfl (fun k hk => kcell_kS (by omega)) (by
    rw [kcell_1 (S := kS S i x (b)) hs]
    show H1[kb0 G + i]? = some (vp_cell _ _)
    rw [e1]
    show some ((arrV _ _ (fun j => Value.int (Int32.ofInt (S.2 i j)))).setSlot _ _) = some (arrV _ _ (fun j => Value.int (Int32.ofInt (kup S.2 i x (b) i j))))
    rw [arrV_store]
    refine congrArg some (kcell_ext fun j _ => ?_)
    by_cases hj : j = (Int32.ofInt x).toNatClampNeg
    · subst hj
      rw [h2, h3, kup_s]
      simp only [updV, if_true]
    · rw [kup_n (Or.inr (by omega))]
      simp only [updV, hj, if_false]) z oq
  exact k1 p l e R s m args below meth c H1 _ cells slots LS Z ⟨C.1, C.2.1, C.2.2.1, hst.1, hst.2, C.2.2.2.2.2⟩ hl hf
theorem kw_last {n : Nat} (hd : decode M.2.1 pc = .ok (.lastore, 1)) (hs : S.1.2.1 a = (2, n)) (hn : n < 2147483648) (hi : 0 ≤ x ∧ x < n) (k1 : kWP G M d bc bs (pc + 1) ls (st) (kS S a x (b)) Q) : kWP G M d bc bs (pc) ls (kL b :: kI x :: kA a :: st) S Q := by
  intro p l e R s m args below meth c H locs cells slots LS Z C hl hf
  obtain ⟨i, rfl, hil, hr, hg⟩ := kadr C.2.2.2.1 hs (by omega)
  obtain ⟨h1, h2, h3⟩ := kix hi hn
  show W _ _ _ _ _ _ _ _ _ _ _ _ _ _ _ (F0 m pc LS (.long (Int64.ofInt b) :: .int (Int32.ofInt x) :: kref G i :: st.map (kv G)))
  rw [hr]
  rw [kcell_2 hs] at hg
  refine W.last C.1.1 C.1.2.1 (C.2.2.2.1.1 i _ hg) ((C.2.2.2.2.2.1.2 1 _ rfl).1 n _) (fun q => by cases q) (by show ¬ (Int32.ofInt x < 0 ∨ (arrV _ _ _).slots.size ≤ _); rw [arrV_size]; exact h1) rfl rfl hd fun H1 e1 z oq => ?_
  have hst := kstore (S' := kS S i x (b)) (j := (Int32.ofInt x).toNatClampNeg) C.2.2.2.1 C.2.2.2.2.1 hil rfl rfl (fun k hk => kcell_kS (by omega)) (by
    rw [kcell_2 (S := kS S i x (b)) hs]
    show H1[kb0 G + i]? = some (vp_cell _ _)
    rw [e1]
    show some ((arrV _ _ (fun j => Value.long (Int64.ofInt (S.2 i j)))).setSlot _ _) = some (arrV _ _ (fun j => Value.long (Int64.ofInt (kup S.2 i x (b) i j))))
    rw [arrV_store]
    refine congrArg some (kcell_ext fun j _ => ?_)
    by_cases hj : j = (Int32.ofInt x).toNatClampNeg
    · subst hj
      rw [h2, h3, kup_s]
      simp only [updV, if_true]
    · rw [kup_n (Or.inr (by omega))]
      simp only [updV, hj, if_false]) z oq
  exact k1 p l e R s m args below meth c H1 _ cells slots LS Z ⟨C.1, C.2.1, C.2.2.1, hst.1, hst.2, C.2.2.2.2.2⟩ hl hf
theorem kw_bast {n : Nat} (hd : decode M.2.1 pc = .ok (.bastore, 1)) (hs : S.1.2.1 a = (3, n)) (hn : n < 2147483648) (hi : 0 ≤ x ∧ x < n) (k1 : kWP G M d bc bs (pc + 1) ls (st) (kS S a x (ki2b b)) Q) : kWP G M d bc bs (pc) ls (kI b :: kI x :: kA a :: st) S Q := by
  intro p l e R s m args below meth c H locs cells slots LS Z C hl hf
  obtain ⟨i, rfl, hil, hr, hg⟩ := kadr C.2.2.2.1 hs (by omega)
  obtain ⟨h1, h2, h3⟩ := kix hi hn
  show W _ _ _ _ _ _ _ _ _ _ _ _ _ _ _ (F0 m pc LS (.int (Int32.ofInt b) :: .int (Int32.ofInt x) :: kref G i :: st.map (kv G)))
  rw [hr]
  rw [kcell_3 hs] at hg
  refine W.bast C.1.1 C.1.2.1 (C.2.2.2.1.1 i _ hg) ((C.2.2.2.2.2.1.2 2 _ rfl).1 n _) (fun q => by cases q) (by show ¬ (Int32.ofInt x < 0 ∨ (arrV _ _ _).slots.size ≤ _); rw [arrV_size]; exact h1) rfl rfl hd fun H1 e1 z oq => ?_
  have hst := kstore (S' := kS S i x (ki2b b)) (j := (Int32.ofInt x).toNatClampNeg) C.2.2.2.1 C.2.2.2.2.1 hil rfl rfl (fun k hk => kcell_kS (by omega)) (by
    rw [kcell_3 (S := kS S i x (ki2b b)) hs]
    show H1[kb0 G + i]? = some (vp_cell _ _)
    rw [e1]
    show some ((arrV _ _ (fun j => Value.int (Int32.ofInt (S.2 i j)))).setSlot _ _) = some (arrV _ _ (fun j => Value.int (Int32.ofInt (kup S.2 i x (ki2b b) i j))))
    rw [arrV_store]
    refine congrArg some (kcell_ext fun j _ => ?_)
    by_cases hj : j = (Int32.ofInt x).toNatClampNeg
    · subst hj
      rw [h2, h3, kup_s]
      simp only [updV, if_true]
      exact (congrArg Value.int (Int32.ofInt_toInt _) : Value.int (Int32.ofInt (ki2b b)) = _).symm
    · rw [kup_n (Or.inr (by omega))]
      simp only [updV, hj, if_false]) z oq
  exact k1 p l e R s m args below meth c H1 _ cells slots LS Z ⟨C.1, C.2.1, C.2.2.1, hst.1, hst.2, C.2.2.2.2.2⟩ hl hf
theorem kw_zast {n : Nat} (hd : decode M.2.1 pc = .ok (.bastore, 1)) (hs : S.1.2.1 a = (4, n)) (hn : n < 2147483648) (hi : 0 ≤ x ∧ x < n) (k1 : kWP G M d bc bs (pc + 1) ls (st) (kS S a x (kb1 b)) Q) : kWP G M d bc bs (pc) ls (kI b :: kI x :: kA a :: st) S Q := by
  intro p l e R s m args below meth c H locs cells slots LS Z C hl hf
  obtain ⟨i, rfl, hil, hr, hg⟩ := kadr C.2.2.2.1 hs (by omega)
  obtain ⟨h1, h2, h3⟩ := kix hi hn
  show W _ _ _ _ _ _ _ _ _ _ _ _ _ _ _ (F0 m pc LS (.int (Int32.ofInt b) :: .int (Int32.ofInt x) :: kref G i :: st.map (kv G)))
  rw [hr]
  rw [kcell_4 hs] at hg
  refine W.zast C.1.1 C.1.2.1 (C.2.2.2.1.1 i _ hg) ((C.2.2.2.2.2.1.2 3 _ rfl).1 n _) (fun q => by cases q) (by show ¬ (Int32.ofInt x < 0 ∨ (arrV _ _ _).slots.size ≤ _); rw [arrV_size]; exact h1) rfl rfl hd fun H1 e1 z oq => ?_
  have hst := kstore (S' := kS S i x (kb1 b)) (j := (Int32.ofInt x).toNatClampNeg) C.2.2.2.1 C.2.2.2.2.1 hil rfl rfl (fun k hk => kcell_kS (by omega)) (by
    rw [kcell_4 (S := kS S i x (kb1 b)) hs]
    show H1[kb0 G + i]? = some (vp_cell _ _)
    rw [e1]
    show some ((arrV _ _ (fun j => Value.int (Int32.ofInt (S.2 i j)))).setSlot _ _) = some (arrV _ _ (fun j => Value.int (Int32.ofInt (kup S.2 i x (kb1 b) i j))))
    rw [arrV_store]
    refine congrArg some (kcell_ext fun j _ => ?_)
    by_cases hj : j = (Int32.ofInt x).toNatClampNeg
    · subst hj
      rw [h2, h3, kup_s]
      simp only [updV, if_true]
      exact (congrArg Value.int (Int32.ofInt_toInt _) : Value.int (Int32.ofInt (kb1 b)) = _).symm
    · rw [kup_n (Or.inr (by omega))]
      simp only [updV, hj, if_false]) z oq
  exact k1 p l e R s m args below meth c H1 _ cells slots LS Z ⟨C.1, C.2.1, C.2.2.1, hst.1, hst.2, C.2.2.2.2.2⟩ hl hf
theorem kw_putI {ci k N idx : Nat} {Cn : String} {T : u_T} (hty : kfty ci k = 0) (hin : ∀ w ∈ u_ws Cn T N, w ∈ KW) (tyf : Nat → FieldType) (htyf : ∀ k, k < N → parseFieldDescriptor (T k).2.2.1 = some (tyf k)) (hnm : ∀ a, a < N → ∀ b, b < N → a ≠ b → (T a).2.1 ≠ (T b).2.1) (hc : vwCl[ci]? = some (Cn, T, N)) (hk : k < N) (hd : decode M.2.1 pc = .ok (.putfield idx, 3)) (hT : (T k).1 = Cn) (hw : Cond.fieldLink M.1 idx Cn (T k).2.1 (T k).2.2.1 ∈ KW) (hfin : (T k).2.2.2 = false) (hs : S.1.2.1 a = (10 + ci, N)) (ht : tyf k = .int) (k1 : kWP G M d bc bs (pc + 3) ls (st) (kS S a k b) Q) : kWP G M d bc bs (pc) ls (kI b :: kA a :: st) S Q := by
  intro p l e R s m args below meth c H locs cells slots LS Z C hl hf
  obtain ⟨i, rfl, hi, hr, hg⟩ := kadr C.2.2.2.1 hs (by omega)
  have hfit : narrow (tyf k) (kv G (kI b)) = kv G (kI b) ∧ fits (tyf k) (kv G (kI b)) = true := by rw [ht]; exact ⟨rfl, rfl⟩
  show W _ _ _ _ _ _ _ _ _ _ _ _ _ _ _ (F0 m pc LS (kv G (kI b) :: kref G i :: st.map (kv G)))
  rw [hr]
  rw [kcell_o hs] at hg
  have hts := C.1.2.2.2.2
  have hK := C.2.2.2.2.2.1
  have hlk : ∀ y, s.fieldFound? (T k).1 (T k).2.1 (T k).2.2.1 = some y → s.fieldFound? Cn (T k).2.1 (T k).2.2.1 = some y := fun y hy => by rw [hT] at hy; exact hy
  have hap := va_apart (own := M.1) hts hin tyf htyf hnm hK hc
  obtain ⟨r, h1, cell, q1, q2, q3, q4⟩ := C.2.2.2.1.1 i _ hg
  have hr : r = (Cn, T, N) := Option.some.inj (h1.symm.trans hc)
  subst hr
  obtain ⟨hS9, hfc, kC, hkC, hkind⟩ := hK.1 ci _ hc
  obtain ⟨cf, kf, fi, f, hi9, hsl⟩ := hS9 k hk
  have hlay := hts _ (hin _ (u_in_lay hk))
  unfold u_lay at hlay
  rw [if_neg (by rw [hfin]; decide)] at hlay
  have hst := (u_facts hfc hkC (u_lays hts hin hk) hi9).1
  have h6 := u_store hfc hkC hkind hlay hi9 (htyf k hk) hfit.1 hfit.2
  refine W.putK C.1.1 C.1.2.1 (f := f) ⟨C.1.2.2.2.1, C.1.2.2.2.2 _ hw, ⟨_, _, _, hlk _ hi9⟩, hst⟩ (by rw [q2]; exact h6) q1 q3 (by rw [hsl]; exact k2_hasslot (q4 k hk)) rfl rfl hd fun H1 e1 z oq => ?_
  have hstr := kstore (S' := kS S i k b) (j := f.slot) C.2.2.2.1 C.2.2.2.2.1 hi rfl rfl (fun j hj => kcell_kS (by omega)) (by
    rw [kcell_o (S := kS S i k b) hs]
    have e9 : (List.range N).map (fun (j : Nat) => kv G (kfv ci j ((kS S i k b).1.2.2 i j) ((kS S i k b).2 i j))) = ((List.range N).map (fun (j : Nat) => kv G (kfv ci j (S.1.2.2 i j) (S.2 i j)))).set k (kv G (kI b)) := by
      refine kmap_set N k _ _ _ (fun j hj => ?_) ?_
      · show kv G (kfv ci j _ (kup S.2 i k b i j)) = _
        rw [kup_n (Or.inr (by omega))]
      · show kv G (kfv ci k _ (kup S.2 i k b i k)) = _
        rw [kup_s]
        unfold kfv
        rw [hty]
        rfl
    rw [e9]
    rw [hsl] at e1
    exact ⟨_, hc, t_OB.to (V := updV (vp_V _) k _) ⟨_, e1, q2, q3, t_set q4 hap hk _⟩ (fun j _ => vp_updV_set (by simpa using hk) _ j)⟩) z oq
  exact k1 p l e R s m args below meth c H1 _ cells slots LS Z ⟨C.1, C.2.1, C.2.2.1, hstr.1, hstr.2, C.2.2.2.2.2⟩ hl hf
theorem kw_putZ {ci k N idx : Nat} {Cn : String} {T : u_T} (hty : kfty ci k = 0) (hin : ∀ w ∈ u_ws Cn T N, w ∈ KW) (tyf : Nat → FieldType) (htyf : ∀ k, k < N → parseFieldDescriptor (T k).2.2.1 = some (tyf k)) (hnm : ∀ a, a < N → ∀ b, b < N → a ≠ b → (T a).2.1 ≠ (T b).2.1) (hc : vwCl[ci]? = some (Cn, T, N)) (hk : k < N) (hd : decode M.2.1 pc = .ok (.putfield idx, 3)) (hT : (T k).1 = Cn) (hw : Cond.fieldLink M.1 idx Cn (T k).2.1 (T k).2.2.1 ∈ KW) (hfin : (T k).2.2.2 = false) (hs : S.1.2.1 a = (10 + ci, N)) (ht : tyf k = .boolean) (h01 : b = 0 ∨ b = 1) (k1 : kWP G M d bc bs (pc + 3) ls (st) (kS S a k b) Q) : kWP G M d bc bs (pc) ls (kI b :: kA a :: st) S Q := by
  intro p l e R s m args below meth c H locs cells slots LS Z C hl hf
  obtain ⟨i, rfl, hi, hr, hg⟩ := kadr C.2.2.2.1 hs (by omega)
  have hfit : narrow (tyf k) (kv G (kI b)) = kv G (kI b) ∧ fits (tyf k) (kv G (kI b)) = true := by rw [ht]; rcases h01 with rfl | rfl; exact (by decide : narrow FieldType.boolean (Value.int (Int32.ofInt 0)) = Value.int (Int32.ofInt 0) ∧ fits FieldType.boolean (Value.int (Int32.ofInt 0)) = true); exact (by decide : narrow FieldType.boolean (Value.int (Int32.ofInt 1)) = Value.int (Int32.ofInt 1) ∧ fits FieldType.boolean (Value.int (Int32.ofInt 1)) = true)
  show W _ _ _ _ _ _ _ _ _ _ _ _ _ _ _ (F0 m pc LS (kv G (kI b) :: kref G i :: st.map (kv G)))
  rw [hr]
  rw [kcell_o hs] at hg
  have hts := C.1.2.2.2.2
  have hK := C.2.2.2.2.2.1
  have hlk : ∀ y, s.fieldFound? (T k).1 (T k).2.1 (T k).2.2.1 = some y → s.fieldFound? Cn (T k).2.1 (T k).2.2.1 = some y := fun y hy => by rw [hT] at hy; exact hy
  have hap := va_apart (own := M.1) hts hin tyf htyf hnm hK hc
  obtain ⟨r, h1, cell, q1, q2, q3, q4⟩ := C.2.2.2.1.1 i _ hg
  have hr : r = (Cn, T, N) := Option.some.inj (h1.symm.trans hc)
  subst hr
  obtain ⟨hS9, hfc, kC, hkC, hkind⟩ := hK.1 ci _ hc
  obtain ⟨cf, kf, fi, f, hi9, hsl⟩ := hS9 k hk
  have hlay := hts _ (hin _ (u_in_lay hk))
  unfold u_lay at hlay
  rw [if_neg (by rw [hfin]; decide)] at hlay
  have hst := (u_facts hfc hkC (u_lays hts hin hk) hi9).1
  have h6 := u_store hfc hkC hkind hlay hi9 (htyf k hk) hfit.1 hfit.2
  refine W.putK C.1.1 C.1.2.1 (f := f) ⟨C.1.2.2.2.1, C.1.2.2.2.2 _ hw, ⟨_, _, _, hlk _ hi9⟩, hst⟩ (by rw [q2]; exact h6) q1 q3 (by rw [hsl]; exact k2_hasslot (q4 k hk)) rfl rfl hd fun H1 e1 z oq => ?_
  have hstr := kstore (S' := kS S i k b) (j := f.slot) C.2.2.2.1 C.2.2.2.2.1 hi rfl rfl (fun j hj => kcell_kS (by omega)) (by
    rw [kcell_o (S := kS S i k b) hs]
    have e9 : (List.range N).map (fun (j : Nat) => kv G (kfv ci j ((kS S i k b).1.2.2 i j) ((kS S i k b).2 i j))) = ((List.range N).map (fun (j : Nat) => kv G (kfv ci j (S.1.2.2 i j) (S.2 i j)))).set k (kv G (kI b)) := by
      refine kmap_set N k _ _ _ (fun j hj => ?_) ?_
      · show kv G (kfv ci j _ (kup S.2 i k b i j)) = _
        rw [kup_n (Or.inr (by omega))]
      · show kv G (kfv ci k _ (kup S.2 i k b i k)) = _
        rw [kup_s]
        unfold kfv
        rw [hty]
        rfl
    rw [e9]
    rw [hsl] at e1
    exact ⟨_, hc, t_OB.to (V := updV (vp_V _) k _) ⟨_, e1, q2, q3, t_set q4 hap hk _⟩ (fun j _ => vp_updV_set (by simpa using hk) _ j)⟩) z oq
  exact k1 p l e R s m args below meth c H1 _ cells slots LS Z ⟨C.1, C.2.1, C.2.2.1, hstr.1, hstr.2, C.2.2.2.2.2⟩ hl hf
theorem kw_putL {ci k N idx : Nat} {Cn : String} {T : u_T} (hty : kfty ci k = 1) (hin : ∀ w ∈ u_ws Cn T N, w ∈ KW) (tyf : Nat → FieldType) (htyf : ∀ k, k < N → parseFieldDescriptor (T k).2.2.1 = some (tyf k)) (hnm : ∀ a, a < N → ∀ b, b < N → a ≠ b → (T a).2.1 ≠ (T b).2.1) (hc : vwCl[ci]? = some (Cn, T, N)) (hk : k < N) (hd : decode M.2.1 pc = .ok (.putfield idx, 3)) (hT : (T k).1 = Cn) (hw : Cond.fieldLink M.1 idx Cn (T k).2.1 (T k).2.2.1 ∈ KW) (hfin : (T k).2.2.2 = false) (hs : S.1.2.1 a = (10 + ci, N)) (ht : tyf k = .long) (k1 : kWP G M d bc bs (pc + 3) ls (st) (kS S a k b) Q) : kWP G M d bc bs (pc) ls (kL b :: kA a :: st) S Q := by
  intro p l e R s m args below meth c H locs cells slots LS Z C hl hf
  obtain ⟨i, rfl, hi, hr, hg⟩ := kadr C.2.2.2.1 hs (by omega)
  have hfit : narrow (tyf k) (kv G (kL b)) = kv G (kL b) ∧ fits (tyf k) (kv G (kL b)) = true := by rw [ht]; exact ⟨rfl, rfl⟩
  show W _ _ _ _ _ _ _ _ _ _ _ _ _ _ _ (F0 m pc LS (kv G (kL b) :: kref G i :: st.map (kv G)))
  rw [hr]
  rw [kcell_o hs] at hg
  have hts := C.1.2.2.2.2
  have hK := C.2.2.2.2.2.1
  have hlk : ∀ y, s.fieldFound? (T k).1 (T k).2.1 (T k).2.2.1 = some y → s.fieldFound? Cn (T k).2.1 (T k).2.2.1 = some y := fun y hy => by rw [hT] at hy; exact hy
  have hap := va_apart (own := M.1) hts hin tyf htyf hnm hK hc
  obtain ⟨r, h1, cell, q1, q2, q3, q4⟩ := C.2.2.2.1.1 i _ hg
  have hr : r = (Cn, T, N) := Option.some.inj (h1.symm.trans hc)
  subst hr
  obtain ⟨hS9, hfc, kC, hkC, hkind⟩ := hK.1 ci _ hc
  obtain ⟨cf, kf, fi, f, hi9, hsl⟩ := hS9 k hk
  have hlay := hts _ (hin _ (u_in_lay hk))
  unfold u_lay at hlay
  rw [if_neg (by rw [hfin]; decide)] at hlay
  have hst := (u_facts hfc hkC (u_lays hts hin hk) hi9).1
  have h6 := u_store hfc hkC hkind hlay hi9 (htyf k hk) hfit.1 hfit.2
  refine W.putK C.1.1 C.1.2.1 (f := f) ⟨C.1.2.2.2.1, C.1.2.2.2.2 _ hw, ⟨_, _, _, hlk _ hi9⟩, hst⟩ (by rw [q2]; exact h6) q1 q3 (by rw [hsl]; exact k2_hasslot (q4 k hk)) rfl rfl hd fun H1 e1 z oq => ?_
  have hstr := kstore (S' := kS S i k b) (j := f.slot) C.2.2.2.1 C.2.2.2.2.1 hi rfl rfl (fun j hj => kcell_kS (by omega)) (by
    rw [kcell_o (S := kS S i k b) hs]
    have e9 : (List.range N).map (fun (j : Nat) => kv G (kfv ci j ((kS S i k b).1.2.2 i j) ((kS S i k b).2 i j))) = ((List.range N).map (fun (j : Nat) => kv G (kfv ci j (S.1.2.2 i j) (S.2 i j)))).set k (kv G (kL b)) := by
      refine kmap_set N k _ _ _ (fun j hj => ?_) ?_
      · show kv G (kfv ci j _ (kup S.2 i k b i j)) = _
        rw [kup_n (Or.inr (by omega))]
      · show kv G (kfv ci k _ (kup S.2 i k b i k)) = _
        rw [kup_s]
        unfold kfv
        rw [hty]
        rfl
    rw [e9]
    rw [hsl] at e1
    exact ⟨_, hc, t_OB.to (V := updV (vp_V _) k _) ⟨_, e1, q2, q3, t_set q4 hap hk _⟩ (fun j _ => vp_updV_set (by simpa using hk) _ j)⟩) z oq
  exact k1 p l e R s m args below meth c H1 _ cells slots LS Z ⟨C.1, C.2.1, C.2.2.1, hstr.1, hstr.2, C.2.2.2.2.2⟩ hl hf
theorem kw_putD {ci k N idx : Nat} {Cn : String} {T : u_T} (hty : kfty ci k = 3) (hin : ∀ w ∈ u_ws Cn T N, w ∈ KW) (tyf : Nat → FieldType) (htyf : ∀ k, k < N → parseFieldDescriptor (T k).2.2.1 = some (tyf k)) (hnm : ∀ a, a < N → ∀ b, b < N → a ≠ b → (T a).2.1 ≠ (T b).2.1) (hc : vwCl[ci]? = some (Cn, T, N)) (hk : k < N) (hd : decode M.2.1 pc = .ok (.putfield idx, 3)) (hT : (T k).1 = Cn) (hw : Cond.fieldLink M.1 idx Cn (T k).2.1 (T k).2.2.1 ∈ KW) (hfin : (T k).2.2.2 = false) (hs : S.1.2.1 a = (10 + ci, N)) (ht : (∃ u, tyf k = .object u) ∨ ∃ u, tyf k = .array u) (k1 : kWP G M d bc bs (pc + 3) ls (st) (kS S a k b) Q) : kWP G M d bc bs (pc) ls (kA b :: kA a :: st) S Q := by
  intro p l e R s m args below meth c H locs cells slots LS Z C hl hf
  obtain ⟨i, rfl, hi, hr, hg⟩ := kadr C.2.2.2.1 hs (by omega)
  have hfit : narrow (tyf k) (kv G (kA b)) = kv G (kA b) ∧ fits (tyf k) (kv G (kA b)) = true := by rcases kref_cases G b with ⟨q, e9⟩ | e9 <;> rcases ht with ⟨u, ht⟩ | ⟨u, ht⟩ <;> (show narrow _ (kref G b) = kref G b ∧ fits _ (kref G b) = true; rw [ht, e9]; exact ⟨rfl, rfl⟩)
  show W _ _ _ _ _ _ _ _ _ _ _ _ _ _ _ (F0 m pc LS (kv G (kA b) :: kref G i :: st.map (kv G)))
  rw [hr]
  rw [kcell_o hs] at hg
  have hts := C.1.2.2.2.2
  have hK := C.2.2.2.2.2.1
  have hlk : ∀ y, s.fieldFound? (T k).1 (T k).2.1 (T k).2.2.1 = some y → s.fieldFound? Cn (T k).2.1 (T k).2.2.1 = some y := fun y hy => by rw [hT] at hy; exact hy
  have hap := va_apart (own := M.1) hts hin tyf htyf hnm hK hc
  obtain ⟨r, h1, cell, q1, q2, q3, q4⟩ := C.2.2.2.1.1 i _ hg
  have hr : r = (Cn, T, N) := Option.some.inj (h1.symm.trans hc)
  subst hr
  obtain ⟨hS9, hfc, kC, hkC, hkind⟩ := hK.1 ci _ hc
  obtain ⟨cf, kf, fi, f, hi9, hsl⟩ := hS9 k hk
  have hlay := hts _ (hin _ (u_in_lay hk))
  unfold u_lay at hlay
  rw [if_neg (by rw [hfin]; decide)] at hlay
  have hst := (u_facts hfc hkC (u_lays hts hin hk) hi9).1
  have h6 := u_store hfc hkC hkind hlay hi9 (htyf k hk) hfit.1 hfit.2
  refine W.putK C.1.1 C.1.2.1 (f := f) ⟨C.1.2.2.2.1, C.1.2.2.2.2 _ hw, ⟨_, _, _, hlk _ hi9⟩, hst⟩ (by rw [q2]; exact h6) q1 q3 (by rw [hsl]; exact k2_hasslot (q4 k hk)) rfl rfl hd fun H1 e1 z oq => ?_
  have hstr := kstore (S' := kS S i k b) (j := f.slot) C.2.2.2.1 C.2.2.2.2.1 hi rfl rfl (fun j hj => kcell_kS (by omega)) (by
    rw [kcell_o (S := kS S i k b) hs]
    have e9 : (List.range N).map (fun (j : Nat) => kv G (kfv ci j ((kS S i k b).1.2.2 i j) ((kS S i k b).2 i j))) = ((List.range N).map (fun (j : Nat) => kv G (kfv ci j (S.1.2.2 i j) (S.2 i j)))).set k (kv G (kA b)) := by
      refine kmap_set N k _ _ _ (fun j hj => ?_) ?_
      · show kv G (kfv ci j _ (kup S.2 i k b i j)) = _
        rw [kup_n (Or.inr (by omega))]
      · show kv G (kfv ci k _ (kup S.2 i k b i k)) = _
        rw [kup_s]
        unfold kfv
        rw [hty]
        rfl
    rw [e9]
    rw [hsl] at e1
    exact ⟨_, hc, t_OB.to (V := updV (vp_V _) k _) ⟨_, e1, q2, q3, t_set q4 hap hk _⟩ (fun j _ => vp_updV_set (by simpa using hk) _ j)⟩) z oq
  exact k1 p l e R s m args below meth c H1 _ cells slots LS Z ⟨C.1, C.2.1, C.2.2.1, hstr.1, hstr.2, C.2.2.2.2.2⟩ hl hf
theorem kw_putR {ci k N idx : Nat} {Cn : String} {T : u_T} (hty : kfty ci k = 2) (hin : ∀ w ∈ u_ws Cn T N, w ∈ KW) (tyf : Nat → FieldType) (htyf : ∀ k, k < N → parseFieldDescriptor (T k).2.2.1 = some (tyf k)) (hnm : ∀ a, a < N → ∀ b, b < N → a ≠ b → (T a).2.1 ≠ (T b).2.1) (hc : vwCl[ci]? = some (Cn, T, N)) (hk : k < N) (hd : decode M.2.1 pc = .ok (.putfield idx, 3)) (hT : (T k).1 = Cn) (hw : Cond.fieldLink M.1 idx Cn (T k).2.1 (T k).2.2.1 ∈ KW) (hfin : (T k).2.2.2 = true) (hs : S.1.2.1 a = (10 + ci, N)) (hni : M.2.2.2.2.name = "<init>") (hown : Cn = M.1) (ht : (∃ u, tyf k = .object u) ∨ ∃ u, tyf k = .array u) (k1 : kWP G M d bc bs (pc + 3) ls (st) (kSR S a k b) Q) : kWP G M d bc bs (pc) ls (kA b :: kA a :: st) S Q := by
  intro p l e R s m args below meth c H locs cells slots LS Z C hl hf
  obtain ⟨i, rfl, hi, hr, hg⟩ := kadr C.2.2.2.1 hs (by omega)
  have hfit : narrow (tyf k) (kv G (kA b)) = kv G (kA b) ∧ fits (tyf k) (kv G (kA b)) = true := by rcases kref_cases G b with ⟨q, e9⟩ | e9 <;> rcases ht with ⟨u, ht⟩ | ⟨u, ht⟩ <;> (show narrow _ (kref G b) = kref G b ∧ fits _ (kref G b) = true; rw [ht, e9]; exact ⟨rfl, rfl⟩)
  show W _ _ _ _ _ _ _ _ _ _ _ _ _ _ _ (F0 m pc LS (kv G (kA b) :: kref G i :: st.map (kv G)))
  rw [hr]
  rw [kcell_o hs] at hg
  have hts := C.1.2.2.2.2
  have hK := C.2.2.2.2.2.1
  have hlk : ∀ y, s.fieldFound? (T k).1 (T k).2.1 (T k).2.2.1 = some y → s.fieldFound? Cn (T k).2.1 (T k).2.2.1 = some y := fun y hy => by rw [hT] at hy; exact hy
  have hap := va_apart (own := M.1) hts hin tyf htyf hnm hK hc
  obtain ⟨r, h1, cell, q1, q2, q3, q4⟩ := C.2.2.2.1.1 i _ hg
  have hr : r = (Cn, T, N) := Option.some.inj (h1.symm.trans hc)
  subst hr
  obtain ⟨hS9, hfc, kC, hkC, hkind⟩ := hK.1 ci _ hc
  obtain ⟨cf, kf, fi, f, hi9, hsl⟩ := hS9 k hk
  have hlay := hts _ (hin _ (u_in_lay hk))
  unfold u_lay at hlay
  rw [if_pos hfin] at hlay
  have hst := (u_facts hfc hkC (u_lays hts hin hk) hi9).1
  have hcf : m.cls = cf := by
    obtain ⟨_, _, c', _, _, _, -, -, hf', -, -, -, hown2, -⟩ := Cond.laysFinal_spec hlay
    have e1 : c' = cf := by have := hi9.symm.trans hf'; simp at this; exact this.1.symm
    rw [hT, hown] at hown2
    rw [← e1]; exact Option.some.inj (C.1.2.2.2.1.symm.trans hown2)
  have h6 := u_fits hfc hkC hkind (Or.inr hlay) hi9 (htyf k hk) hfit.1 hfit.2
  refine W.putFinK C.1.1 C.1.2.1 C.1.2.2.2.1 (C.1.2.2.2.2 _ hw) (hlk _ hi9) hst hcf (C.2.1.2.2.trans hni) (by rw [q2]; exact h6) q1 q3 (by rw [hsl]; exact k2_hasslot (q4 k hk)) rfl rfl hd fun H1 e1 z oq => ?_
  have hstr := kstore (S' := kSR S i k b) (j := f.slot) C.2.2.2.1 C.2.2.2.2.1 hi rfl rfl (fun j hj => kcell_kSR (by omega)) (by
    rw [kcell_o (S := kSR S i k b) hs]
    have e9 : (List.range N).map (fun (j : Nat) => kv G (kfv ci j ((kSR S i k b).1.2.2 i j) ((kSR S i k b).2 i j))) = ((List.range N).map (fun (j : Nat) => kv G (kfv ci j (S.1.2.2 i j) (S.2 i j)))).set k (kv G (kA b)) := by
      refine kmap_set N k _ _ _ (fun j hj => ?_) ?_
      · show kv G (kfv ci j (kup S.1.2.2 i k b i j) _) = _
        rw [kup_n (Or.inr (by omega))]
      · show kv G (kfv ci k (kup S.1.2.2 i k b i k) _) = _
        rw [kup_s]
        unfold kfv
        rw [hty]
        rfl
    rw [e9]
    rw [hsl] at e1
    exact ⟨_, hc, t_OB.to (V := updV (vp_V _) k _) ⟨_, e1, q2, q3, t_set q4 hap hk _⟩ (fun j _ => vp_updV_set (by simpa using hk) _ j)⟩) z oq
  exact k1 p l e R s m args below meth c H1 _ cells slots LS Z ⟨C.1, C.2.1, C.2.2.1, hstr.1, hstr.2, C.2.2.2.2.2⟩ hl hf
end KM
