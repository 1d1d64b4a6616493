
/-- a method of ours: what its calls need -/
def kMth (M : KM) (n : Nat) : Prop := M.2.2.2.2.cls = M.1 ∧ Cond.code M.2.2.2.2 M.2.1 M.2.2.1 M.2.2.2.1 ∈ KW ∧ Cond.initialized M.1 ∈ KW ∧ M.2.2.1 ≤ 41 ∧ (M.1 ≠ "java/lang/invoke/MethodHandle" ∧ M.1 ≠ "java/lang/invoke/VarHandle") ∧ (parseMethodDescriptor M.2.2.2.2.desc).map (fun d => d.parameters.length) = some n
def kMthV (M : KM) (n : Nat) : Prop := kMth M n ∧ Cond.instanceMethod M.2.2.2.2 ∈ KW ∧ Cond.selects M.1 M.2.2.2.2 M.2.2.2.2 ∈ KW
def kMthS (M : KM) (n : Nat) : Prop := kMth M n ∧ Cond.static M.2.2.2.2 ∈ KW
def kMthI (M : KM) (n : Nat) : Prop := kMth M n ∧ Cond.instanceMethod M.2.2.2.2 ∈ KW ∧ M.2.2.2.2.name = "<init>" ∧ M.2.2.2.1 = none
theorem kws0_good {M : KM} {n : Nat} (h : kMth M n) : GoodIn KW (kws0 M) := fun w hw => (List.mem_cons.mp hw).elim (fun e => KW_good (by rw [e]; exact h.2.1)) KW_good
theorem kCallB {G : KG} {M M2 : KM} {d bc bs bc2 bs2 n idx : Nat} {S : KSt} {p : Program} {R : Room} {s : State} {m : MethodId} {args : Array Value} {meth : Method} {c : Code} {H : Heap} {locs : List Loc} {cells slots : Nat} (C : kCtx G M (d + 1) bc bs S p R s m args meth c H locs cells slots) (h : kMth M2 n) (hw : Cond.methodLink M.1 idx M2.2.2.2.2 ∈ KW) :
    CallB R s args M.1 idx M2.2.2.2.2 M2.2.1 M2.2.2.1 M2.2.2.2.1 (kws0 M2) (krm d bc2 bs2) bc2 bs2 n := by
  obtain ⟨h1, h2, h3, h4, h5, h6⟩ := h
  refine callB_of (ws' := KW) n C.1.2.2.2.2 (kws0_good (n := n) ⟨h1, h2, h3, h4, h5, h6⟩) rfl rfl rfl (by rw [h1]; exact C.1.2.2.2.2 _ h3) (C.1.2.2.2.2 _ hw) ⟨by rw [h1]; exact h5.1, by rw [h1]; exact h5.2, h6⟩ ⟨C.2.2.1.1, ?_⟩
  have := C.2.2.1.2.1
  show 8 + (M2.2.2.1 + 11) + 60 * d ≤ R.locals
  omega
theorem kCallN {G : KG} {M M2 : KM} {d bc bs bc2 bs2 n idx : Nat} {S : KSt} {host : String} {p : Program} {R : Room} {s : State} {m : MethodId} {args : Array Value} {meth : Method} {c : Code} {H : Heap} {locs : List Loc} {cells slots : Nat} (C : kCtx G M (d + 1) bc bs S p R s m args meth c H locs cells slots) (h : kMth M2 n) (hw : Cond.methodLinkNest M.1 idx M2.2.2.2.2 host ∈ lw_tbl) :
    va_CN R s args M.1 idx M2.2.2.2.2 host M2.2.1 M2.2.2.1 M2.2.2.2.1 (kws0 M2) (krm d bc2 bs2) bc2 bs2 n := by
  obtain ⟨h1, h2, h3, h4, h5, h6⟩ := h
  refine va_cnB (ws' := KW) n C.1.2.2.2.2 (kws0_good (n := n) ⟨h1, h2, h3, h4, h5, h6⟩) rfl rfl rfl (C.2.2.2.2.2.2.2.1 _ hw ⟨_, _, _, _, rfl⟩) (by rw [h1]; exact C.1.2.2.2.2 _ h3) ⟨by rw [h1]; exact h5.1, by rw [h1]; exact h5.2, h6⟩ ⟨C.2.2.1.1, ?_⟩
  have := C.2.2.1.2.1
  show 8 + (M2.2.2.1 + 11) + 60 * d ≤ R.locals
  omega
theorem kstk (G : KG) (av st : List AV) (v : AV) : (av.reverse ++ v :: st).map (kv G) = (av.map (kv G)).reverse ++ kv G v :: st.map (kv G) := by simp
theorem kstk0 (G : KG) (av st : List AV) : (av.reverse ++ st).map (kv G) = (av.map (kv G)).reverse ++ st.map (kv G) := by simp
section KC
variable {G : KG} {M M2 : KM} {d bc bs bc2 bs2 bcT bsT pc idx : Nat} {ls : List (Option AV)} {st stk av : List AV} {S : KSt} {Q : Option AV → KSt → Prop} {a b x : Int}

theorem kw_callV {ci N : Nat} {T : u_T} (hc : vwCl[ci]? = some (M2.1, T, N)) (hs : S.1.2.1 a = (10 + ci, N)) (hm : kMthV M2 av.length) (hd : decode M.2.1 pc = .ok (.invokevirtual idx, 3)) (hw : Cond.methodLink M.1 idx M2.2.2.2.2 ∈ KW) (hst : stk = av.reverse ++ kA a :: st) (hcat : (st.map kcat).sum ≤ 8) (k1 : kCall G M2 d bc2 bs2 (kA a :: av) S (fun r S2 => kWP G M (d + 1) bc bs (pc + 3) ls (r.toList ++ st) S2 Q)) (e1 : bcT = bc2 + bc := by rfl) (e2 : bsT = bs2 + bs := by rfl) : kWP G M (d + 1) bcT bsT (pc) ls (stk) S Q := by
  subst hst e1 e2
  intro p l e R s m args below meth c H locs cells slots LS Z C hl hf
  obtain ⟨i, rfl, hi, hr, hg⟩ := kadr C.2.2.2.1 hs (by omega)
  rw [kcell_o hs] at hg
  have hr9 : kv G (kA (i : Int)) = .ref (kb0 G + i) := hr
  have hP := kPc_at (av := kA (i : Int) :: av) C.2.2.2.1 C.2.2.2.2.1 C.2.2.2.2.2
  rw [List.map_cons, hr9] at hP
  rw [kstk, hr9]
  exact k_goes C hl hf (va_runV C.1 (k1 l) ⟨kCallB C hm.1 hw, C.1.2.2.2.2 _ hm.2.1, C.1.2.2.2.2 _ hm.2.2⟩ ⟨kPc_blind G _ S, va_recv C.2.2.2.2.2.1 C.2.2.2.1.1 hc hg, hP⟩ rfl (by rw [List.length_map]) hl.2.1 rfl (lv_room (by rw [kcats]; exact hcat)) hd ⟨Nat.le_trans (by omega) C.2.2.1.2.2.1, Nat.le_trans (by omega) C.2.2.1.2.2.2⟩)
theorem kw_callVN {host : String} {ci N : Nat} {T : u_T} (hc : vwCl[ci]? = some (M2.1, T, N)) (hs : S.1.2.1 a = (10 + ci, N)) (hm : kMthV M2 av.length) (hd : decode M.2.1 pc = .ok (.invokevirtual idx, 3)) (hw : Cond.methodLinkNest M.1 idx M2.2.2.2.2 host ∈ lw_tbl) (hst : stk = av.reverse ++ kA a :: st) (hcat : (st.map kcat).sum ≤ 8) (k1 : kCall G M2 d bc2 bs2 (kA a :: av) S (fun r S2 => kWP G M (d + 1) bc bs (pc + 3) ls (r.toList ++ st) S2 Q)) (e1 : bcT = bc2 + bc := by rfl) (e2 : bsT = bs2 + bs := by rfl) : kWP G M (d + 1) bcT bsT (pc) ls (stk) S Q := by
  subst hst e1 e2
  intro p l e R s m args below meth c H locs cells slots LS Z C hl hf
  obtain ⟨i, rfl, hi, hr, hg⟩ := kadr C.2.2.2.1 hs (by omega)
  rw [kcell_o hs] at hg
  have hr9 : kv G (kA (i : Int)) = .ref (kb0 G + i) := hr
  have hP := kPc_at (av := kA (i : Int) :: av) C.2.2.2.1 C.2.2.2.2.1 C.2.2.2.2.2
  rw [List.map_cons, hr9] at hP
  rw [kstk, hr9]
  exact k_goes C hl hf (va_runVN C.1 (k1 l) ⟨kCallN C hm.1 hw, C.1.2.2.2.2 _ hm.2.1, C.1.2.2.2.2 _ hm.2.2⟩ ⟨kPc_blind G _ S, va_recv C.2.2.2.2.2.1 C.2.2.2.1.1 hc hg, hP⟩ rfl (by rw [List.length_map]) hl.2.1 rfl (lv_room (by rw [kcats]; exact hcat)) hd ⟨Nat.le_trans (by omega) C.2.2.1.2.2.1, Nat.le_trans (by omega) C.2.2.1.2.2.2⟩)
theorem kw_callS  (hm : kMthS M2 av.length) (hd : decode M.2.1 pc = .ok (.invokestatic idx, 3)) (hw : Cond.methodLink M.1 idx M2.2.2.2.2 ∈ KW) (hst : stk = av.reverse ++ st) (hcat : (st.map kcat).sum ≤ 8) (k1 : kCall G M2 d bc2 bs2 av S (fun r S2 => kWP G M (d + 1) bc bs (pc + 3) ls (r.toList ++ st) S2 Q)) (e1 : bcT = bc2 + bc := by rfl) (e2 : bsT = bs2 + bs := by rfl) : kWP G M (d + 1) bcT bsT (pc) ls (stk) S Q := by
  subst hst e1 e2
  intro p l e R s m args below meth c H locs cells slots LS Z C hl hf
  rw [kstk0]
  exact k_goes C hl hf (va_runS C.1 (k1 l) ⟨kCallB C hm.1 hw, C.1.2.2.2.2 _ hm.2⟩ ⟨kPc_blind G _ S, kPc_at C.2.2.2.1 C.2.2.2.2.1 C.2.2.2.2.2⟩ rfl (by rw [List.length_map]) hl.2.1 rfl (lv_room (by rw [kcats]; exact hcat)) hd ⟨Nat.le_trans (by omega) C.2.2.1.2.2.1, Nat.le_trans (by omega) C.2.2.1.2.2.2⟩)
theorem kw_callSN {host : String} (hm : kMthS M2 av.length) (hd : decode M.2.1 pc = .ok (.invokestatic idx, 3)) (hw : Cond.methodLinkNest M.1 idx M2.2.2.2.2 host ∈ lw_tbl) (hst : stk = av.reverse ++ st) (hcat : (st.map kcat).sum ≤ 8) (k1 : kCall G M2 d bc2 bs2 av S (fun r S2 => kWP G M (d + 1) bc bs (pc + 3) ls (r.toList ++ st) S2 Q)) (e1 : bcT = bc2 + bc := by rfl) (e2 : bsT = bs2 + bs := by rfl) : kWP G M (d + 1) bcT bsT (pc) ls (stk) S Q := by
  subst hst e1 e2
  intro p l e R s m args below meth c H locs cells slots LS Z C hl hf
  rw [kstk0]
  exact k_goes C hl hf (va_runSN C.1 (k1 l) ⟨kCallN C hm.1 hw, C.1.2.2.2.2 _ hm.2, trivial⟩ ⟨kPc_blind G _ S, kPc_at C.2.2.2.1 C.2.2.2.2.1 C.2.2.2.2.2⟩ rfl (by rw [List.length_map]) hl.2.1 rfl (lv_room (by rw [kcats]; exact hcat)) hd ⟨Nat.le_trans (by omega) C.2.2.1.2.2.1, Nat.le_trans (by omega) C.2.2.1.2.2.2⟩)
theorem kw_callI {t n : Nat} (hs : S.1.2.1 a = (t, n)) (ht : t ≠ 0) (hm : kMthI M2 av.length) (hd : decode M.2.1 pc = .ok (.invokespecial idx, 3)) (hw : Cond.methodLink M.1 idx M2.2.2.2.2 ∈ KW) (hst : stk = av.reverse ++ kA a :: st) (hcat : (st.map kcat).sum ≤ 8) (k1 : kCall G M2 d bc2 bs2 (kA a :: av) S (fun r S2 => kWP G M (d + 1) bc bs (pc + 3) ls (r.toList ++ st) S2 Q)) (e1 : bcT = bc2 + bc := by rfl) (e2 : bsT = bs2 + bs := by rfl) : kWP G M (d + 1) bcT bsT (pc) ls (stk) S Q := by
  subst hst e1 e2
  intro p l e R s m args below meth c H locs cells slots LS Z C hl hf
  obtain ⟨i, rfl, hi, hr, hg⟩ := kadr C.2.2.2.1 hs ht
  have hr9 : kv G (kA (i : Int)) = .ref (kb0 G + i) := hr
  have hP := kPc_at (av := kA (i : Int) :: av) C.2.2.2.1 C.2.2.2.2.1 C.2.2.2.2.2
  rw [List.map_cons, hr9] at hP
  rw [kstk, hr9]
  have hret := hm.2.2.2
  have cb := kCallB (bc2 := bc2) (bs2 := bs2) C hm.1 hw
  rw [hret] at cb
  exact k_goes C hl hf (va_runI C.1 (k1 l) ⟨cb, hm.2.2.1, C.1.2.2.2.2 _ hm.2.1⟩ ⟨kPc_blind G _ S, hP⟩ rfl (by rw [List.length_map]) hl.2.1 rfl (lv_room (by rw [kcats]; exact hcat)) hd ⟨Nat.le_trans (by omega) C.2.2.1.2.2.1, Nat.le_trans (by omega) C.2.2.1.2.2.2⟩)
theorem kw_callIN {host : String} {t n : Nat} (hs : S.1.2.1 a = (t, n)) (ht : t ≠ 0) (hm : kMthI M2 av.length) (hd : decode M.2.1 pc = .ok (.invokespecial idx, 3)) (hw : Cond.methodLinkNest M.1 idx M2.2.2.2.2 host ∈ lw_tbl) (hst : stk = av.reverse ++ kA a :: st) (hcat : (st.map kcat).sum ≤ 8) (k1 : kCall G M2 d bc2 bs2 (kA a :: av) S (fun r S2 => kWP G M (d + 1) bc bs (pc + 3) ls (r.toList ++ st) S2 Q)) (e1 : bcT = bc2 + bc := by rfl) (e2 : bsT = bs2 + bs := by rfl) : kWP G M (d + 1) bcT bsT (pc) ls (stk) S Q := by
  subst hst e1 e2
  intro p l e R s m args below meth c H locs cells slots LS Z C hl hf
  obtain ⟨i, rfl, hi, hr, hg⟩ := kadr C.2.2.2.1 hs ht
  have hr9 : kv G (kA (i : Int)) = .ref (kb0 G + i) := hr
  have hP := kPc_at (av := kA (i : Int) :: av) C.2.2.2.1 C.2.2.2.2.1 C.2.2.2.2.2
  rw [List.map_cons, hr9] at hP
  rw [kstk, hr9]
  have hret := hm.2.2.2
  have cb := kCallN (bc2 := bc2) (bs2 := bs2) C hm.1 hw
  rw [hret] at cb
  exact k_goes C hl hf (va_runIN C.1 (k1 l) ⟨cb, hm.2.2.1, C.1.2.2.2.2 _ hm.2.1⟩ ⟨kPc_blind G _ S, hP⟩ rfl (by rw [List.length_map]) hl.2.1 rfl (lv_room (by rw [kcats]; exact hcat)) hd ⟨Nat.le_trans (by omega) C.2.2.1.2.2.1, Nat.le_trans (by omega) C.2.2.1.2.2.2⟩)
theorem kw_objinit (hd : decode M.2.1 pc = .ok (.invokespecial idx, 3)) (hw : Cond.methodLink M.1 idx Lib.objectInit ∈ KW) (hi : Cond.instanceMethod Lib.objectInit ∈ KW) (hc : Cond.code Lib.objectInit ⟨#[0xb1]⟩ 1 none ∈ KW) {t n : Nat} (hs : S.1.2.1 a = (t, n)) (ht : t ≠ 0) (hcat : (st.map kcat).sum ≤ 8) (k1 : kWP G M (d + 1) bc bs (pc + 3) ls (st) S Q) : kWP G M (d + 1) bc bs (pc) ls (kA a :: st) S Q := by
  intro p l e R s m args below meth c H locs cells slots LS Z C hl hf
  obtain ⟨i, rfl, hi9, hr, hg⟩ := kadr C.2.2.2.1 hs ht
  show W _ _ _ _ _ _ _ _ _ _ _ _ _ _ _ (F0 m pc LS (kref G i :: st.map (kv G)))
  rw [hr]
  have h2 := C.2.2.1
  have h3 : 2 * (F0 m pc LS (st.map (kv G))).monitorRoom + ((st.map (kv G)).map fun v => v.category).sum ≤ 8 := lv_room (by rw [kcats]; exact hcat)
  exact W.objInit C.1.1 C.1.2.1 C.1.2.2.2.1 (C.1.2.2.2.2 _ hw) (C.1.2.2.2.2 _ hi) (C.1.2.2.2.2 _ hc) rfl (hl.2.1.trans C.1.2.2.1.symm) rfl hd (by omega) (by have h4 : 2 * (F0 m pc LS (Value.ref (kb0 G + i) :: st.map (kv G))).monitorRoom + ((st.map (kv G)).map fun v => v.category).sum ≤ 8 := h3; omega) (k1 p l e R s m args below meth c H locs cells slots LS Z C hl hf)
theorem kw_getstatic (hd : decode M.2.1 pc = .ok (.getstatic idx, 3)) (hw : Cond.fieldLink M.1 idx "BladesBench$Algebra" "SIGN_TURNS" "[I" ∈ KW) (k1 : kWP G M d bc bs (pc + 3) ls (kA (-3) :: st) S Q) : kWP G M d bc bs (pc) ls (st) S Q := by
  intro p l e R s m args below meth c H locs cells slots LS Z C hl hf
  exact va_gets C.1.1 C.1.2.1 C.2.2.2.2.2.2.1.2.2.2.2.1 C.2.2.2.2.1 C.1.2.2.2.1 (C.1.2.2.2.2 _ hw) (fun _ h => h) hd (k1 p l e R s m args below meth c H locs cells slots LS Z C hl hf)
theorem kw_sgn (hd : decode M.2.1 pc = .ok (.iaload, 1)) (hi : 0 ≤ x ∧ x < 16) (k1 : kWP G M d bc bs (pc + 1) ls (kI (kSigns.getD x.toNat 0).toInt :: st) S Q) : kWP G M d bc bs (pc) ls (kI x :: kA (-3) :: st) S Q := by
  intro p l e R s m args below meth c H locs cells slots LS Z C hl hf
  obtain ⟨h1, h2, h3⟩ := kix (n := 16) hi (by omega)
  have hF := C.2.2.2.2.2.2.1
  refine va_sld C.1.1 C.1.2.1 hF.2.2.1 (Nat.lt_of_lt_of_le hF.2.2.2.1 hF.2.2.2.2.2) (Nat.not_le.mpr hF.2.2.2.1) C.2.2.2.2.1 h1 hd ?_
  have k9 := k1 p l e R s m args below meth c H locs cells slots LS Z C hl hf
  rw [h2]
  have e9 : kv G (kI (kSigns.getD x.toNat 0).toInt) = .int (kSigns.getD x.toNat 0) := congrArg Value.int (Int32.ofInt_toInt _)
  change W _ _ _ _ _ _ _ _ _ _ _ _ _ _ _ (F0 m (pc + 1) LS (_ :: st.map (kv G))) at k9
  rw [e9] at k9
  exact k9
theorem kw_scr (hd : decode M.2.1 pc = .ok (.iaload, 1)) (hL : kLn G < 2147483648) (hi : 0 ≤ x ∧ x < (kLn G : Int)) (k1 : kWP G M d bc bs (pc + 1) ls (kI (kxs G x.toNat).toInt :: st) S Q) : kWP G M d bc bs (pc) ls (kI x :: kA (-2) :: st) S Q := by
  intro p l e R s m args below meth c H locs cells slots LS Z C hl hf
  obtain ⟨h1, h2, h3⟩ := kix (n := kLn G) hi hL
  have hF := C.2.2.2.2.2.2.1
  refine va_sld C.1.1 C.1.2.1 hF.1 (Nat.lt_of_lt_of_le hF.2.1 hF.2.2.2.2.2) (Nat.not_le.mpr hF.2.1) C.2.2.2.2.1 h1 hd ?_
  have k9 := k1 p l e R s m args below meth c H locs cells slots LS Z C hl hf
  rw [h2]
  have e9 : kv G (kI (kxs G x.toNat).toInt) = .int (kxs G x.toNat) := congrArg Value.int (Int32.ofInt_toInt _)
  change W _ _ _ _ _ _ _ _ _ _ _ _ _ _ _ (F0 m (pc + 1) LS (_ :: st.map (kv G))) at k9
  rw [e9] at k9
  exact k9
theorem kw_slen (hd : decode M.2.1 pc = .ok (.arraylength, 1)) (k1 : kWP G M d bc bs (pc + 1) ls (kI (kLn G) :: st) S Q) : kWP G M d bc bs (pc) ls (kA (-2) :: st) S Q := by
  intro p l e R s m args below meth c H locs cells slots LS Z C hl hf
  have hF := C.2.2.2.2.2.2.1
  refine va_slen C.1.1 C.1.2.1 hF.1 (Nat.lt_of_lt_of_le hF.2.1 hF.2.2.2.2.2) (Nat.not_le.mpr hF.2.1) C.2.2.2.2.1 hd ?_
  have k9 := k1 p l e R s m args below meth c H locs cells slots LS Z C hl hf
  have e9 : kv G (kI (kLn G)) = .int (Int32.ofNat (kLn G)) := congrArg Value.int Int32.ofInt_eq_ofNat
  change W _ _ _ _ _ _ _ _ _ _ _ _ _ _ _ (F0 m (pc + 1) LS (_ :: st.map (kv G))) at k9
  rw [e9] at k9
  exact k9
theorem kw_alen {n : Nat} (hd : decode M.2.1 pc = .ok (.arraylength, 1)) (hs : S.1.2.1 a = (1, n)) (k1 : kWP G M d bc bs (pc + 1) ls (kI n :: st) S Q) : kWP G M d bc bs (pc) ls (kA a :: st) S Q := by
  intro p l e R s m args below meth c H locs cells slots LS Z C hl hf
  obtain ⟨i, rfl, hil, hr, hg⟩ := kadr C.2.2.2.1 hs (by omega)
  show W _ _ _ _ _ _ _ _ _ _ _ _ _ _ _ (F0 m pc LS (kref G i :: st.map (kv G)))
  rw [hr]
  rw [kcell_1 hs] at hg
  exact va_alen C.1.1 C.1.2.1 C.2.2.2.2.2.1 C.2.2.2.1.1 i 0 hg rfl Int32.ofInt_eq_ofNat.symm hd (k1 p l e R s m args below meth c H locs cells slots LS Z C hl hf)
/-- a stretch copied -/
def kcpy (c : KMem) (a b x y n : Int) : KMem := fun u v => if u = b ∧ y ≤ v ∧ v < y + n then c a (x + (v - y)) else c u v
theorem kw_copyi {n0 n1 : Nat} {y n : Int} (hd : decode M.2.1 pc = .ok (.invokestatic idx, 3)) (hw : Cond.methodLink M.1 idx arraycopyName ∈ KW) (hw2 : Cond.native arraycopyName ∈ KW) (hw3 : Cond.static arraycopyName ∈ KW) (hw4 : Cond.initialized "java/lang/System" ∈ KW) (hsa : S.1.2.1 a = (1, n0)) (hsb : S.1.2.1 b = (1, n1)) (hn0 : n0 < 1073741824) (hn1 : n1 < 1073741824) (hx : 0 ≤ x ∧ 0 ≤ y ∧ 0 ≤ n ∧ x + n ≤ n0 ∧ y + n ≤ n1) (hcat : (st.map kcat).sum ≤ 8) (k1 : kWP G M (d + 1) bc bs (pc + 3) ls (st) (S.1, kcpy S.2 a b x y n) Q) : kWP G M (d + 1) bc bs (pc) ls (kI n :: kI y :: kA b :: kI x :: kA a :: st) S Q := by
  intro p l e R s m args below meth c H locs cells slots LS Z C hl hf
  obtain ⟨i, rfl, hil, hr, hg⟩ := kadr C.2.2.2.1 hsa (by omega)
  obtain ⟨j, rfl, hjl, hrj, hgj⟩ := kadr C.2.2.2.1 hsb (by omega)
  show W _ _ _ _ _ _ _ _ _ _ _ _ _ _ _ (F0 m pc LS (.int (Int32.ofInt n) :: .int (Int32.ofInt y) :: kref G j :: .int (Int32.ofInt x) :: kref G i :: st.map (kv G)))
  rw [hr, hrj]
  rw [kcell_1 hsa] at hg
  rw [kcell_1 hsb] at hgj
  have tI : ∀ z : Int, 0 ≤ z → z < 2147483648 → (Int32.ofInt z).toInt = z := fun z h1 h2 => k32_t (by unfold k32; omega)
  have ex := tI x hx.1 (by omega)
  have ey := tI y hx.2.1 (by omega)
  have en := tI n hx.2.2.1 (by omega)
  have cl : ∀ z : Int, (Int32.ofInt z).toInt = z → (Int32.ofInt z).toNatClampNeg = z.toNat := fun z h => by show (Int32.ofInt z).toInt.toNat = _; rw [h]
  have nneg : ∀ z : Int, 0 ≤ z → (Int32.ofInt z).toInt = z → ¬ Int32.ofInt z < 0 := fun z h0 h q => by rw [Int32.lt_iff_toInt_lt, h] at q; exact absurd q (by simpa using h0)
  intro T hT X
  have hc0 : H[kb0 G + i]? = some (arrV (kdA G 1) n0 (fun q => Value.int (Int32.ofInt (S.2 i q)))) := C.2.2.2.1.1 i _ hg
  have hc1 : H[kb0 G + j]? = some (arrV (kdA G 1) n1 (fun q => Value.int (Int32.ofInt (S.2 j q)))) := C.2.2.2.1.1 j _ hgj
  obtain ⟨-, k0, hk0, cm0, hkk0⟩ := (C.2.2.2.2.2.1.2 0 _ rfl).1 n0 (fun q => Value.int (Int32.ofInt (S.2 i q)))
  obtain ⟨-, k2, hk2, cm2, hkk2⟩ := (C.2.2.2.2.2.1.2 0 _ rfl).1 n1 (fun q => Value.int (Int32.ofInt (S.2 j q)))
  have h20 := C.2.2.1
  have hro : ((st.map (kv G)).map fun v => v.category).sum ≤ 8 := by rw [kcats]; exact hcat
  obtain ⟨vm', X', step⟩ := X.arraycopy C.1.1 C.1.2.2.2.1 (C.1.2.2.2.2 _ hw) (C.1.2.2.2.2 _ hw2) (C.1.2.2.2.2 _ hw3) (C.1.2.2.2.2 _ hw4) (src := kb0 G + i) (dst := kb0 G + j) (srcPos := Int32.ofInt x) (destPos := Int32.ofInt y) (n := Int32.ofInt n) (by rw [hT]; exact hc0) (by rw [hT]; exact hc1)
    (fun _ h => by cases h) (fun _ h => by cases h) (fun h => by cases h) (fun h => by cases h) hk0 hk2 hkk0 hkk2 rfl (nneg x hx.1 ex) (nneg y hx.2.1 ey) (nneg n hx.2.2.1 en)
    (by rw [ex, en, arrV_size]; omega) (by rw [ey, en, arrV_size]; omega)
    (fun vm1 _ q hq => by
      have e : (arrV (kdA G 1) n0 (fun q => Value.int (Int32.ofInt (S.2 i q)))).slots.getD ((Int32.ofInt x).toNatClampNeg + q) .null = Value.int (Int32.ofInt (S.2 i ((Int32.ofInt x).toNatClampNeg + q : Nat))) := by
        rw [Array.getD_eq_getD_getElem?, arrV_read _ _ (by rw [cl n en] at hq; rw [cl x ex]; omega)]
        rfl
      rw [e]
      exact ⟨rfl, trivial⟩)
    (g := F0 m pc LS (.int (Int32.ofInt n) :: .int (Int32.ofInt y) :: .ref (kb0 G + j) :: .int (Int32.ofInt x) :: .ref (kb0 G + i) :: st.map (kv G))) rfl (hl.2.1.trans C.1.2.2.1.symm) (rest := st.map (kv G)) rfl (by rw [C.1.2.1]; exact hd) (by omega)
    (by have e9 : nativeFrameWords "java/lang/System" "arraycopy" 5 ≤ 40 := by decide +kernel
        show 2 * 0 + _ + _ ≤ _; omega)
  have e1 : copied (arrV (kdA G 1) n0 (fun q => Value.int (Int32.ofInt (S.2 i q)))) (arrV (kdA G 1) n1 (fun q => Value.int (Int32.ofInt (S.2 j q)))) (Int32.ofInt x) (Int32.ofInt y) (Int32.ofInt n) = arrV (kdA G 1) n1 (fun q => Value.int (Int32.ofInt (kcpy S.2 i j x y n j q))) := by
    have h9 := va_copied (fun z : Int => Value.int (Int32.ofInt z)) (kdA G 1) (kdA G 1) (n0 := n0) (n1 := n1) (sp := (Int32.ofInt x).toNatClampNeg) (dp := (Int32.ofInt y).toNatClampNeg) (n := (Int32.ofInt n).toNatClampNeg) (fun q => S.2 i q) (fun q => S.2 j q) (by rw [cl x ex, cl n en]; omega)
    refine Eq.trans (b := (arrV (kdA G 1) n1 (fun q => Value.int (Int32.ofInt (S.2 j q)))).storeRun (Int32.ofInt y).toNatClampNeg ((arrV (kdA G 1) n0 (fun q => Value.int (Int32.ofInt (S.2 i q)))).stretch (Int32.ofInt x).toNatClampNeg (Int32.ofInt n).toNatClampNeg)) rfl (h9.trans ?_)
    refine kcell_ext fun q _ => ?_
    rw [cl x ex, cl y ey, cl n en]
    unfold va_cpy kcpy
    by_cases hq : y ≤ (q : Int) ∧ (q : Int) < y + n
    · rw [if_pos ⟨by omega, by omega⟩, if_pos ⟨rfl, hq⟩]
      have e8 : ((x.toNat + (q - y.toNat) : Nat) : Int) = x + ((q : Int) - y) := by omega
      show Value.int (Int32.ofInt (S.2 i ((x.toNat + (q - y.toNat) : Nat) : Int))) = _
      rw [e8]
    · rw [if_neg (by omega), if_neg (fun z => hq z.2)]
  rw [e1] at X' step
  have hl9 : kb0 G + j < H.size := (Array.getElem?_eq_some_iff.mp hc1).1
  have hheap : ((T.setVm vm').setCell (kb0 G + j) (arrV (kdA G 1) n1 (fun q => Value.int (Int32.ofInt (kcpy S.2 i j x y n j q))))).heap = H.setIfInBounds (kb0 G + j) (arrV (kdA G 1) n1 (fun q => Value.int (Int32.ofInt (kcpy S.2 i j x y n j q)))) := by rw [← hT]; rfl
  have hst := kstore (S' := (S.1, kcpy S.2 i j x y n)) (H1 := H.setIfInBounds (kb0 G + j) (arrV (kdA G 1) n1 (fun q => Value.int (Int32.ofInt (kcpy S.2 i j x y n j q))))) (j := 0) C.2.2.2.1 C.2.2.2.2.1 hjl rfl rfl (fun k hk => kcell_congr rfl (fun _ => rfl) (fun _ => if_neg (by omega))) (by
    rw [kcell_1 (S := (S.1, kcpy S.2 i j x y n)) hsb]
    show (H.setIfInBounds _ _)[kb0 G + j]? = some _
    rw [Array.getElem?_setIfInBounds, if_pos rfl, if_pos hl9]
    rfl) (by simp) (fun q hq => by simp [Array.getElem?_setIfInBounds, Ne.symm hq])
  obtain ⟨t, a1, b1⟩ := k1 p l e R s m args below meth c _ _ cells slots LS Z ⟨C.1, C.2.1, C.2.2.1, hst.1, ⟨hst.2.1, hst.2.2.1, fun q hq => by
      rcases List.mem_append.mp hq with h | h
      · exact C.2.2.2.2.1.2.2 q h
      · obtain ⟨z, -, hz⟩ := List.mem_map.mp h
        rw [← hz]
        exact Nat.le_add_right _ _⟩, C.2.2.2.2.2⟩ hl hf _ hheap X'
  exact ⟨t, step t a1, b1⟩
theorem kw_copyl {n0 n1 : Nat} {y n : Int} (hd : decode M.2.1 pc = .ok (.invokestatic idx, 3)) (hw : Cond.methodLink M.1 idx arraycopyName ∈ KW) (hw2 : Cond.native arraycopyName ∈ KW) (hw3 : Cond.static arraycopyName ∈ KW) (hw4 : Cond.initialized "java/lang/System" ∈ KW) (hsa : S.1.2.1 a = (2, n0)) (hsb : S.1.2.1 b = (2, n1)) (hn0 : n0 < 1073741824) (hn1 : n1 < 1073741824) (hx : 0 ≤ x ∧ 0 ≤ y ∧ 0 ≤ n ∧ x + n ≤ n0 ∧ y + n ≤ n1) (hcat : (st.map kcat).sum ≤ 8) (k1 : kWP G M (d + 1) bc bs (pc + 3) ls (st) (S.1, kcpy S.2 a b x y n) Q) : kWP G M (d + 1) bc bs (pc) ls (kI n :: kI y :: kA b :: kI x :: kA a :: st) S Q := by
  intro p l e R s m args below meth c H locs cells slots LS Z C hl hf
  obtain ⟨i, rfl, hil, hr, hg⟩ := kadr C.2.2.2.1 hsa (by omega)
  obtain ⟨j, rfl, hjl, hrj, hgj⟩ := kadr C.2.2.2.1 hsb (by omega)
  show W _ _ _ _ _ _ _ _ _ _ _ _ _ _ _ (F0 m pc LS (.int (Int32.ofInt n) :: .int (Int32.ofInt y) :: kref G j :: .int (Int32.ofInt x) :: kref G i :: st.map (kv G)))
  rw [hr, hrj]
  rw [kcell_2 hsa] at hg
  rw [kcell_2 hsb] at hgj
  have tI : ∀ z : Int, 0 ≤ z → z < 2147483648 → (Int32.ofInt z).toInt = z := fun z h1 h2 => k32_t (by unfold k32; omega)
  have ex := tI x hx.1 (by omega)
  have ey := tI y hx.2.1 (by omega)
  have en := tI n hx.2.2.1 (by omega)
  have cl : ∀ z : Int, (Int32.ofInt z).toInt = z → (Int32.ofInt z).toNatClampNeg = z.toNat := fun z h => by show (Int32.ofInt z).toInt.toNat = _; rw [h]
  have nneg : ∀ z : Int, 0 ≤ z → (Int32.ofInt z).toInt = z → ¬ Int32.ofInt z < 0 := fun z h0 h q => by rw [Int32.lt_iff_toInt_lt, h] at q; exact absurd q (by simpa using h0)
  intro T hT X
  have hc0 : H[kb0 G + i]? = some (arrV (kdA G 2) n0 (fun q => Value.long (Int64.ofInt (S.2 i q)))) := C.2.2.2.1.1 i _ hg
  have hc1 : H[kb0 G + j]? = some (arrV (kdA G 2) n1 (fun q => Value.long (Int64.ofInt (S.2 j q)))) := C.2.2.2.1.1 j _ hgj
  obtain ⟨-, k0, hk0, cm0, hkk0⟩ := (C.2.2.2.2.2.1.2 1 _ rfl).1 n0 (fun q => Value.long (Int64.ofInt (S.2 i q)))
  obtain ⟨-, k2, hk2, cm2, hkk2⟩ := (C.2.2.2.2.2.1.2 1 _ rfl).1 n1 (fun q => Value.long (Int64.ofInt (S.2 j q)))
  have h20 := C.2.2.1
  have hro : ((st.map (kv G)).map fun v => v.category).sum ≤ 8 := by rw [kcats]; exact hcat
  obtain ⟨vm', X', step⟩ := X.arraycopy C.1.1 C.1.2.2.2.1 (C.1.2.2.2.2 _ hw) (C.1.2.2.2.2 _ hw2) (C.1.2.2.2.2 _ hw3) (C.1.2.2.2.2 _ hw4) (src := kb0 G + i) (dst := kb0 G + j) (srcPos := Int32.ofInt x) (destPos := Int32.ofInt y) (n := Int32.ofInt n) (by rw [hT]; exact hc0) (by rw [hT]; exact hc1)
    (fun _ h => by cases h) (fun _ h => by cases h) (fun h => by cases h) (fun h => by cases h) hk0 hk2 hkk0 hkk2 rfl (nneg x hx.1 ex) (nneg y hx.2.1 ey) (nneg n hx.2.2.1 en)
    (by rw [ex, en, arrV_size]; omega) (by rw [ey, en, arrV_size]; omega)
    (fun vm1 _ q hq => by
      have e : (arrV (kdA G 2) n0 (fun q => Value.long (Int64.ofInt (S.2 i q)))).slots.getD ((Int32.ofInt x).toNatClampNeg + q) .null = Value.long (Int64.ofInt (S.2 i ((Int32.ofInt x).toNatClampNeg + q : Nat))) := by
        rw [Array.getD_eq_getD_getElem?, arrV_read _ _ (by rw [cl n en] at hq; rw [cl x ex]; omega)]
        rfl
      rw [e]
      exact ⟨rfl, trivial⟩)
    (g := F0 m pc LS (.int (Int32.ofInt n) :: .int (Int32.ofInt y) :: .ref (kb0 G + j) :: .int (Int32.ofInt x) :: .ref (kb0 G + i) :: st.map (kv G))) rfl (hl.2.1.trans C.1.2.2.1.symm) (rest := st.map (kv G)) rfl (by rw [C.1.2.1]; exact hd) (by omega)
    (by have e9 : nativeFrameWords "java/lang/System" "arraycopy" 5 ≤ 40 := by decide +kernel
        show 2 * 0 + _ + _ ≤ _; omega)
  have e1 : copied (arrV (kdA G 2) n0 (fun q => Value.long (Int64.ofInt (S.2 i q)))) (arrV (kdA G 2) n1 (fun q => Value.long (Int64.ofInt (S.2 j q)))) (Int32.ofInt x) (Int32.ofInt y) (Int32.ofInt n) = arrV (kdA G 2) n1 (fun q => Value.long (Int64.ofInt (kcpy S.2 i j x y n j q))) := by
    have h9 := va_copied (fun z : Int => Value.long (Int64.ofInt z)) (kdA G 2) (kdA G 2) (n0 := n0) (n1 := n1) (sp := (Int32.ofInt x).toNatClampNeg) (dp := (Int32.ofInt y).toNatClampNeg) (n := (Int32.ofInt n).toNatClampNeg) (fun q => S.2 i q) (fun q => S.2 j q) (by rw [cl x ex, cl n en]; omega)
    refine Eq.trans (b := (arrV (kdA G 2) n1 (fun q => Value.long (Int64.ofInt (S.2 j q)))).storeRun (Int32.ofInt y).toNatClampNeg ((arrV (kdA G 2) n0 (fun q => Value.long (Int64.ofInt (S.2 i q)))).stretch (Int32.ofInt x).toNatClampNeg (Int32.ofInt n).toNatClampNeg)) rfl (h9.trans ?_)
    refine kcell_ext fun q _ => ?_
    rw [cl x ex, cl y ey, cl n en]
    unfold va_cpy kcpy
    by_cases hq : y ≤ (q : Int) ∧ (q : Int) < y + n
    · rw [if_pos ⟨by omega, by omega⟩, if_pos ⟨rfl, hq⟩]
      have e8 : ((x.toNat + (q - y.toNat) : Nat) : Int) = x + ((q : Int) - y) := by omega
      show Value.long (Int64.ofInt (S.2 i ((x.toNat + (q - y.toNat) : Nat) : Int))) = _
      rw [e8]
    · rw [if_neg (by omega), if_neg (fun z => hq z.2)]
  rw [e1] at X' step
  have hl9 : kb0 G + j < H.size := (Array.getElem?_eq_some_iff.mp hc1).1
  have hheap : ((T.setVm vm').setCell (kb0 G + j) (arrV (kdA G 2) n1 (fun q => Value.long (Int64.ofInt (kcpy S.2 i j x y n j q))))).heap = H.setIfInBounds (kb0 G + j) (arrV (kdA G 2) n1 (fun q => Value.long (Int64.ofInt (kcpy S.2 i j x y n j q)))) := by rw [← hT]; rfl
  have hst := kstore (S' := (S.1, kcpy S.2 i j x y n)) (H1 := H.setIfInBounds (kb0 G + j) (arrV (kdA G 2) n1 (fun q => Value.long (Int64.ofInt (kcpy S.2 i j x y n j q))))) (j := 0) C.2.2.2.1 C.2.2.2.2.1 hjl rfl rfl (fun k hk => kcell_congr rfl (fun _ => rfl) (fun _ => if_neg (by omega))) (by
    rw [kcell_2 (S := (S.1, kcpy S.2 i j x y n)) hsb]
    show (H.setIfInBounds _ _)[kb0 G + j]? = some _
    rw [Array.getElem?_setIfInBounds, if_pos rfl, if_pos hl9]
    rfl) (by simp) (fun q hq => by simp [Array.getElem?_setIfInBounds, Ne.symm hq])
  obtain ⟨t, a1, b1⟩ := k1 p l e R s m args below meth c _ _ cells slots LS Z ⟨C.1, C.2.1, C.2.2.1, hst.1, ⟨hst.2.1, hst.2.2.1, fun q hq => by
      rcases List.mem_append.mp hq with h | h
      · exact C.2.2.2.2.1.2.2 q h
      · obtain ⟨z, -, hz⟩ := List.mem_map.mp h
        rw [← hz]
        exact Nat.le_add_right _ _⟩, C.2.2.2.2.2⟩ hl hf _ hheap X'
  exact ⟨t, step t a1, b1⟩

theorem va_AO.any {C : String} {U : State} {A : Array Value} (h : va_AO C U) : (Cond.arrayOver (.object C)).before A U = true := (va_AO.moved (Vm.Alike.refl U.vm) h : va_AO C U)
theorem kref_nat (G : KG) (n : Nat) : kv G (kA (n : Int)) = .ref (kb0 G + n) := by
  show kref G (n : Int) = _
  unfold kref
  rw [if_pos (Int.natCast_nonneg n)]
  rfl
/-- the state with a cell more -/
abbrev kNew (S : KSt) (sh : Nat × Nat) (dv : Int → Int) : KSt := ((S.1.1 + 1, fun u => if u = (S.1.1 : Int) then sh else S.1.2.1 u, fun u v => if u = (S.1.1 : Int) then -1 else S.1.2.2 u v), fun u v => if u = (S.1.1 : Int) then dv v else S.2 u v)
theorem kcell_new {G : KG} {S : KSt} {sh : Nat × Nat} {dv : Int → Int} {i : Nat} (h : i < S.1.1) : kcell G (kNew S sh dv) i = kcell G S i :=
  kcell_congr (if_neg (by omega)) (fun _ => if_neg (by omega)) (fun _ => if_neg (by omega))
theorem kalloc {G : KG} {S : KSt} {sh : Nat × Nat} {dv : Int → Int} {H H1 H0 : Heap} {locs : List Loc} (hH : kHeap G S H) (hS : va_S (fun q => kb0 G ≤ q) H0 H locs) (hz : H1.size = H.size + 1) (oq : ∀ q : Nat, q < H.size → H1[q]? = H[q]?) (he : va_at (kD G) vwCl (kb0 G + S.1.1, kcell G (kNew S sh dv) S.1.1) H1) (hH0 : kb0 G ≤ H0.size) :
    kHeap G (kNew S sh dv) H1 ∧ va_S (fun q => kb0 G ≤ q) H0 H1 locs := by
  refine ⟨⟨?_, by rw [hz, hH.2.1]; rfl, fun u hu => ?_⟩, ⟨Nat.le_trans hS.1 (by omega), fun q h1 h2 => (oq q (Nat.lt_of_lt_of_le h1 hS.1)).trans (hS.2.1 q h1 h2), hS.2.2⟩⟩
  · rw [kws_push (S := S) rfl (fun i hi => kcell_new hi)]
    refine (hH.1.kept (fun k q hk => oq q.1 ((hH.1 k q hk).lt))).app (fun k q hk => ?_)
    have hz : k < 1 := (List.getElem?_eq_some_iff.mp hk).1
    rw [show k = 0 by omega] at hk
    cases hk
    exact he
  · by_cases e : u = (S.1.1 : Int)
    · subst e
      exact ⟨by omega, by show (S.1.1 : Int) < ((S.1.1 + 1 : Nat) : Int); omega⟩
    · have h9 : (S.1.2.1 u).1 ≠ 0 := by
        have : (kNew S sh dv).1.2.1 u = S.1.2.1 u := if_neg e
        rw [this] at hu
        exact hu
      have := hH.2.2 u h9
      exact ⟨this.1, by show u < ((S.1.1 + 1 : Nat) : Int); omega⟩
/-- what a new object's fields hold -/
def kdv (ci : Nat) : Int → Int := fun y => if kfty ci y.toNat = 3 then -1 else 0
section KN
variable {G : KG} {M M2 : KM} {d bc bs pc idx : Nat} {ls : List (Option AV)} {st : List AV} {S : KSt} {Q : Option AV → KSt → Prop} {a b x : Int}

theorem kw_new {ci N : Nat} {Cn : String} {T : u_T} (hin : ∀ w ∈ u_ws Cn T N, w ∈ KW) (tyf : Nat → FieldType) (htyf : ∀ k, k < N → parseFieldDescriptor (T k).2.2.1 = some (tyf k)) (hc : vwCl[ci]? = some (Cn, T, N)) (hd : decode M.2.1 pc = .ok (.new idx, 3)) (hw : Cond.classLink M.1 idx Cn ∈ KW) (hw2 : Cond.instantiable Cn N ∈ KW) (hw3 : Cond.initialized Cn ∈ KW) (hdv : ∀ k, k < N → kv G (kfv ci k (-1) (kdv ci k)) = defaultValue (tyf k)) (k1 : kWP G M d bc bs (pc + 3) ls (kA (S.1.1 : Int) :: st) (kNew S (10 + ci, N) (kdv ci)) Q) : kWP G M d (bc + 1) (bs + N) (pc) ls (st) S Q := by
  intro p l e R s m args below meth c H locs cells slots LS Z C hl hf
  have hts := C.1.2.2.2.2
  have hKn := C.2.2.2.2.2.1.1 ci _ hc
  have hrm := C.2.2.1
  refine W.newcK C.1.1 C.1.2.1 C.1.2.2.2.1 (hts _ hw) (hts _ hw2) (hts _ hw3) rfl hd (by omega) (by omega) hKn.2.1 C.2.2.2.1.2.1 fun H1 kC hkC e1 z oq => ?_
  have hal := kalloc (sh := (10 + ci, N)) (dv := kdv ci) (H1 := H1) C.2.2.2.1 C.2.2.2.2.1 (by rw [C.2.2.2.1.2.1]; exact z) (by rw [C.2.2.2.1.2.1]; exact oq) (by
    rw [kcell_o (ci := ci) (n := N) (if_pos rfl)]
    refine ⟨_, hc, t_OB.to (u_born tyf hts hin hKn hkC e1 htyf) (fun k hk => ?_)⟩
    have e9 : kv G (kfv ci k ((kNew S (10 + ci, N) (kdv ci)).1.2.2 (S.1.1 : Int) k) ((kNew S (10 + ci, N) (kdv ci)).2 (S.1.1 : Int) k)) = defaultValue (tyf k) := by
      rw [show (kNew S (10 + ci, N) (kdv ci)).1.2.2 (S.1.1 : Int) k = -1 from if_pos rfl, show (kNew S (10 + ci, N) (kdv ci)).2 (S.1.1 : Int) k = kdv ci k from if_pos rfl]
      exact hdv k hk
    rw [← e9]
    have hk9 : k < N := hk
    simp [vp_V, hk9]) C.2.2.2.2.2.2.1.2.2.2.2.2
  have k9 := k1 p l e R s m args below meth c H1 locs (cells + 1) (slots + N) LS Z ⟨C.1, C.2.1, ⟨hrm.1, hrm.2.1, by omega, by omega⟩, hal.1, hal.2, C.2.2.2.2.2⟩ hl hf
  have e8 := kref_nat G S.1.1
  change W _ _ _ _ _ _ _ _ _ _ _ _ _ _ _ (F0 m (pc + 3) LS (_ :: st.map (kv G))) at k9
  rw [e8] at k9
  exact k9
theorem kw_newI {n : Nat} (hd : decode M.2.1 pc = .ok (.newarray .int, 2)) (hw : Cond.arrayClass .int ∈ KW) (hn : n < 65536) (k1 : kWP G M d bc bs (pc + 2) ls (kA (S.1.1 : Int) :: st) (kNew S (1, n) (fun _ => 0)) Q) : kWP G M d (bc + 1) (bs + n) (pc) ls (kI (n : Int) :: st) S Q := by
  intro p l e R s m args below meth c H locs cells slots LS Z C hl hf
  have hts := C.1.2.2.2.2
  have hrm := C.2.2.1
  have tI : (Int32.ofInt (n : Int)).toInt = n := k32_t (by unfold k32; omega)
  have cl : (Int32.ofInt (n : Int)).toNatClampNeg = n := by show (Int32.ofInt (n : Int)).toInt.toNat = _; rw [tI]; omega
  have e8 := kref_nat G S.1.1
  show W _ _ _ _ _ _ _ _ _ _ _ _ _ _ _ (F0 m pc LS (.int (Int32.ofInt (n : Int)) :: st.map (kv G)))
  have hcb : n * componentBytes (newarray.typeOf .int) ≤ 536870912 := Nat.le_trans (Nat.mul_le_mul (Nat.le_of_lt hn) (by decide : componentBytes (newarray.typeOf .int) ≤ 8)) (by decide)
  refine va_newaK (atype := .int) C.1.1 C.1.2.1 (hts _ hw) rfl hd rfl (fun q => by rw [Int32.lt_iff_toInt_lt, tI] at q; exact absurd q (by simp)) cl hcb (by omega) (by omega) C.2.2.2.1.2.1 fun H1 cA e1 z oq hAr hNm => ?_
  have hcA : cA = kdA G 1 := by
    have h9 := (C.2.2.2.2.2.1.2 0 _ rfl).2
    have h8 : s.vm.findClass ("[" ++ (FieldType.int).toString) = some (kdA G 1) := h9
    exact Option.some.inj (hNm.symm.trans h8)
  subst hcA
  have hal := kalloc (sh := (1, n)) (dv := fun _ => 0) (H1 := H1) C.2.2.2.1 C.2.2.2.2.1 (by rw [C.2.2.2.1.2.1]; exact z) (by rw [C.2.2.2.1.2.1]; exact oq) (by
    rw [kcell_1 (n := n) (if_pos rfl)]
    show H1[kb0 G + S.1.1]? = some (vp_cell _ _)
    rw [e1]
    show some (arrV _ _ _) = some (arrV _ _ (fun j => Value.int (Int32.ofInt ((kNew S (1, n) (fun _ => 0)).2 (S.1.1 : Int) j))))
    refine congrArg some (kcell_ext fun j _ => ?_)
    have e7 : (kNew S (1, n) (fun _ => 0)).2 (S.1.1 : Int) j = 0 := if_pos rfl
    rw [e7]
    rfl) C.2.2.2.2.2.2.1.2.2.2.2.2
  have k9 := k1 p l e R s m args below meth c H1 locs (cells + 1) (slots + n) LS Z ⟨C.1, C.2.1, ⟨hrm.1, hrm.2.1, by omega, by omega⟩, hal.1, hal.2, C.2.2.2.2.2⟩ hl hf
  change W _ _ _ _ _ _ _ _ _ _ _ _ _ _ _ (F0 m (pc + 2) LS (_ :: st.map (kv G))) at k9
  rw [e8] at k9
  exact k9
theorem kw_newL {n : Nat} (hd : decode M.2.1 pc = .ok (.newarray .long, 2)) (hw : Cond.arrayClass .long ∈ KW) (hn : n < 65536) (k1 : kWP G M d bc bs (pc + 2) ls (kA (S.1.1 : Int) :: st) (kNew S (2, n) (fun _ => 0)) Q) : kWP G M d (bc + 1) (bs + n) (pc) ls (kI (n : Int) :: st) S Q := by
  intro p l e R s m args below meth c H locs cells slots LS Z C hl hf
  have hts := C.1.2.2.2.2
  have hrm := C.2.2.1
  have tI : (Int32.ofInt (n : Int)).toInt = n := k32_t (by unfold k32; omega)
  have cl : (Int32.ofInt (n : Int)).toNatClampNeg = n := by show (Int32.ofInt (n : Int)).toInt.toNat = _; rw [tI]; omega
  have e8 := kref_nat G S.1.1
  show W _ _ _ _ _ _ _ _ _ _ _ _ _ _ _ (F0 m pc LS (.int (Int32.ofInt (n : Int)) :: st.map (kv G)))
  have hcb : n * componentBytes (newarray.typeOf .long) ≤ 536870912 := Nat.le_trans (Nat.mul_le_mul (Nat.le_of_lt hn) (by decide : componentBytes (newarray.typeOf .long) ≤ 8)) (by decide)
  refine va_newaK (atype := .long) C.1.1 C.1.2.1 (hts _ hw) rfl hd rfl (fun q => by rw [Int32.lt_iff_toInt_lt, tI] at q; exact absurd q (by simp)) cl hcb (by omega) (by omega) C.2.2.2.1.2.1 fun H1 cA e1 z oq hAr hNm => ?_
  have hcA : cA = kdA G 2 := by
    have h9 := (C.2.2.2.2.2.1.2 1 _ rfl).2
    have h8 : s.vm.findClass ("[" ++ (FieldType.long).toString) = some (kdA G 2) := h9
    exact Option.some.inj (hNm.symm.trans h8)
  subst hcA
  have hal := kalloc (sh := (2, n)) (dv := fun _ => 0) (H1 := H1) C.2.2.2.1 C.2.2.2.2.1 (by rw [C.2.2.2.1.2.1]; exact z) (by rw [C.2.2.2.1.2.1]; exact oq) (by
    rw [kcell_2 (n := n) (if_pos rfl)]
    show H1[kb0 G + S.1.1]? = some (vp_cell _ _)
    rw [e1]
    show some (arrV _ _ _) = some (arrV _ _ (fun j => Value.long (Int64.ofInt ((kNew S (2, n) (fun _ => 0)).2 (S.1.1 : Int) j))))
    refine congrArg some (kcell_ext fun j _ => ?_)
    have e7 : (kNew S (2, n) (fun _ => 0)).2 (S.1.1 : Int) j = 0 := if_pos rfl
    rw [e7]
    rfl) C.2.2.2.2.2.2.1.2.2.2.2.2
  have k9 := k1 p l e R s m args below meth c H1 locs (cells + 1) (slots + n) LS Z ⟨C.1, C.2.1, ⟨hrm.1, hrm.2.1, by omega, by omega⟩, hal.1, hal.2, C.2.2.2.2.2⟩ hl hf
  change W _ _ _ _ _ _ _ _ _ _ _ _ _ _ _ (F0 m (pc + 2) LS (_ :: st.map (kv G))) at k9
  rw [e8] at k9
  exact k9
theorem kw_newB {n : Nat} (hd : decode M.2.1 pc = .ok (.newarray .byte, 2)) (hw : Cond.arrayClass .byte ∈ KW) (hn : n < 65536) (k1 : kWP G M d bc bs (pc + 2) ls (kA (S.1.1 : Int) :: st) (kNew S (3, n) (fun _ => 0)) Q) : kWP G M d (bc + 1) (bs + n) (pc) ls (kI (n : Int) :: st) S Q := by
  intro p l e R s m args below meth c H locs cells slots LS Z C hl hf
  have hts := C.1.2.2.2.2
  have hrm := C.2.2.1
  have tI : (Int32.ofInt (n : Int)).toInt = n := k32_t (by unfold k32; omega)
  have cl : (Int32.ofInt (n : Int)).toNatClampNeg = n := by show (Int32.ofInt (n : Int)).toInt.toNat = _; rw [tI]; omega
  have e8 := kref_nat G S.1.1
  show W _ _ _ _ _ _ _ _ _ _ _ _ _ _ _ (F0 m pc LS (.int (Int32.ofInt (n : Int)) :: st.map (kv G)))
  have hcb : n * componentBytes (newarray.typeOf .byte) ≤ 536870912 := Nat.le_trans (Nat.mul_le_mul (Nat.le_of_lt hn) (by decide : componentBytes (newarray.typeOf .byte) ≤ 8)) (by decide)
  refine va_newaK (atype := .byte) C.1.1 C.1.2.1 (hts _ hw) rfl hd rfl (fun q => by rw [Int32.lt_iff_toInt_lt, tI] at q; exact absurd q (by simp)) cl hcb (by omega) (by omega) C.2.2.2.1.2.1 fun H1 cA e1 z oq hAr hNm => ?_
  have hcA : cA = kdA G 3 := by
    have h9 := (C.2.2.2.2.2.1.2 2 _ rfl).2
    have h8 : s.vm.findClass ("[" ++ (FieldType.byte).toString) = some (kdA G 3) := h9
    exact Option.some.inj (hNm.symm.trans h8)
  subst hcA
  have hal := kalloc (sh := (3, n)) (dv := fun _ => 0) (H1 := H1) C.2.2.2.1 C.2.2.2.2.1 (by rw [C.2.2.2.1.2.1]; exact z) (by rw [C.2.2.2.1.2.1]; exact oq) (by
    rw [kcell_3 (n := n) (if_pos rfl)]
    show H1[kb0 G + S.1.1]? = some (vp_cell _ _)
    rw [e1]
    show some (arrV _ _ _) = some (arrV _ _ (fun j => Value.int (Int32.ofInt ((kNew S (3, n) (fun _ => 0)).2 (S.1.1 : Int) j))))
    refine congrArg some (kcell_ext fun j _ => ?_)
    have e7 : (kNew S (3, n) (fun _ => 0)).2 (S.1.1 : Int) j = 0 := if_pos rfl
    rw [e7]
    rfl) C.2.2.2.2.2.2.1.2.2.2.2.2
  have k9 := k1 p l e R s m args below meth c H1 locs (cells + 1) (slots + n) LS Z ⟨C.1, C.2.1, ⟨hrm.1, hrm.2.1, by omega, by omega⟩, hal.1, hal.2, C.2.2.2.2.2⟩ hl hf
  change W _ _ _ _ _ _ _ _ _ _ _ _ _ _ _ (F0 m (pc + 2) LS (_ :: st.map (kv G))) at k9
  rw [e8] at k9
  exact k9
theorem kw_newZ {n : Nat} (hd : decode M.2.1 pc = .ok (.newarray .boolean, 2)) (hw : Cond.arrayClass .boolean ∈ KW) (hn : n < 65536) (k1 : kWP G M d bc bs (pc + 2) ls (kA (S.1.1 : Int) :: st) (kNew S (4, n) (fun _ => 0)) Q) : kWP G M d (bc + 1) (bs + n) (pc) ls (kI (n : Int) :: st) S Q := by
  intro p l e R s m args below meth c H locs cells slots LS Z C hl hf
  have hts := C.1.2.2.2.2
  have hrm := C.2.2.1
  have tI : (Int32.ofInt (n : Int)).toInt = n := k32_t (by unfold k32; omega)
  have cl : (Int32.ofInt (n : Int)).toNatClampNeg = n := by show (Int32.ofInt (n : Int)).toInt.toNat = _; rw [tI]; omega
  have e8 := kref_nat G S.1.1
  show W _ _ _ _ _ _ _ _ _ _ _ _ _ _ _ (F0 m pc LS (.int (Int32.ofInt (n : Int)) :: st.map (kv G)))
  have hcb : n * componentBytes (newarray.typeOf .boolean) ≤ 536870912 := Nat.le_trans (Nat.mul_le_mul (Nat.le_of_lt hn) (by decide : componentBytes (newarray.typeOf .boolean) ≤ 8)) (by decide)
  refine va_newaK (atype := .boolean) C.1.1 C.1.2.1 (hts _ hw) rfl hd rfl (fun q => by rw [Int32.lt_iff_toInt_lt, tI] at q; exact absurd q (by simp)) cl hcb (by omega) (by omega) C.2.2.2.1.2.1 fun H1 cA e1 z oq hAr hNm => ?_
  have hcA : cA = kdA G 4 := by
    have h9 := (C.2.2.2.2.2.1.2 3 _ rfl).2
    have h8 : s.vm.findClass ("[" ++ (FieldType.boolean).toString) = some (kdA G 4) := h9
    exact Option.some.inj (hNm.symm.trans h8)
  subst hcA
  have hal := kalloc (sh := (4, n)) (dv := fun _ => 0) (H1 := H1) C.2.2.2.1 C.2.2.2.2.1 (by rw [C.2.2.2.1.2.1]; exact z) (by rw [C.2.2.2.1.2.1]; exact oq) (by
    rw [kcell_4 (n := n) (if_pos rfl)]
    show H1[kb0 G + S.1.1]? = some (vp_cell _ _)
    rw [e1]
    show some (arrV _ _ _) = some (arrV _ _ (fun j => Value.int (Int32.ofInt ((kNew S (4, n) (fun _ => 0)).2 (S.1.1 : Int) j))))
    refine congrArg some (kcell_ext fun j _ => ?_)
    have e7 : (kNew S (4, n) (fun _ => 0)).2 (S.1.1 : Int) j = 0 := if_pos rfl
    rw [e7]
    rfl) C.2.2.2.2.2.2.1.2.2.2.2.2
  have k9 := k1 p l e R s m args below meth c H1 locs (cells + 1) (slots + n) LS Z ⟨C.1, C.2.1, ⟨hrm.1, hrm.2.1, by omega, by omega⟩, hal.1, hal.2, C.2.2.2.2.2⟩ hl hf
  change W _ _ _ _ _ _ _ _ _ _ _ _ _ _ _ (F0 m (pc + 2) LS (_ :: st.map (kv G))) at k9
  rw [e8] at k9
  exact k9
theorem kw_anew {n : Nat} (hd : decode M.2.1 pc = .ok (.anewarray idx, 3)) (hw : Cond.classLink M.1 idx "BladesBench$Letters" ∈ KW) (hn : n < 65536) (k1 : kWP G M d bc bs (pc + 3) ls (kA (S.1.1 : Int) :: st) (kNew S (6, n) (fun _ => 0)) Q) : kWP G M d (bc + 1) (bs + n) (pc) ls (kI (n : Int) :: st) S Q := by
  intro p l e R s m args below meth c H locs cells slots LS Z C hl hf
  have hts := C.1.2.2.2.2
  have hrm := C.2.2.1
  have tI : (Int32.ofInt (n : Int)).toInt = n := k32_t (by unfold k32; omega)
  have cl : (Int32.ofInt (n : Int)).toNatClampNeg = n := by show (Int32.ofInt (n : Int)).toInt.toNat = _; rw [tI]; omega
  have e8 := kref_nat G S.1.1
  show W _ _ _ _ _ _ _ _ _ _ _ _ _ _ _ (F0 m pc LS (.int (Int32.ofInt (n : Int)) :: st.map (kv G)))
  refine W.anew C.1.1 C.1.2.1 C.1.2.2.2.1 (hts _ hw) (va_AO.any C.2.2.2.2.2.2.2.2.2) rfl hd rfl (fun q => by rw [Int32.lt_iff_toInt_lt, tI] at q; exact absurd q (by simp)) (by rw [cl]; omega) (by omega) (by rw [cl]; omega) fun cA kA9 comp f1 f2 f3 f4 => ?_
  have hcA : cA = kdA G 6 := by
    obtain ⟨_, _, _, _, _, h8⟩ := (C.2.2.2.2.2.1.2 5 _ rfl).2
    exact Option.some.inj (f1.symm.trans h8)
  subst hcA
  generalize hH1 : H.push ({ cls := kdA G 6, slots := Array.replicate (Int32.ofInt (n : Int)).toNatClampNeg .null, vm := .none } : Cell) = H1
  have z1 : H1.size = H.size + 1 := by rw [← hH1, Array.size_push]
  have e1 : H1[H.size]? = some (arrV (kdA G 6) n (fun _ => .null)) := by rw [← hH1, Array.getElem?_push_size, ← arrV_new, cl]
  have o1 : ∀ q : Nat, q < H.size → H1[q]? = H[q]? := fun q hq => by rw [← hH1, Array.getElem?_push, if_neg (Nat.ne_of_lt hq)]
  have hal := kalloc (sh := (6, n)) (dv := fun _ => 0) (H1 := H1) C.2.2.2.1 C.2.2.2.2.1 z1 o1 (by
    rw [kcell_6 (n := n) (if_pos rfl)]
    show H1[kb0 G + S.1.1]? = some (vp_cell _ _)
    rw [← C.2.2.2.1.2.1, e1]
    show some (arrV _ _ _) = some (arrV _ _ (fun j => va_rf (krf G ((kNew S (6, n) (fun _ => 0)).1.2.2 (S.1.1 : Int) j))))
    refine congrArg some (kcell_ext fun j _ => ?_)
    have e7 : (kNew S (6, n) (fun _ => 0)).1.2.2 (S.1.1 : Int) j = -1 := if_pos rfl
    rw [e7]
    rfl) C.2.2.2.2.2.2.1.2.2.2.2.2
  have k9 := k1 p l e R s m args below meth c H1 locs (cells + 1) (slots + n) LS Z ⟨C.1, C.2.1, ⟨hrm.1, hrm.2.1, by omega, by omega⟩, hal.1, hal.2, C.2.2.2.2.2⟩ hl hf
  change W _ _ _ _ _ _ _ _ _ _ _ _ _ _ _ (F0 m (pc + 3) LS (_ :: st.map (kv G))) at k9
  rw [e8, ← C.2.2.2.1.2.1] at k9
  show W _ _ _ _ _ _ _ _ _ _ _ _ _ _ _ (F0 m (pc + 3) LS (.ref H.size :: st.map (kv G)))
  rw [cl]
  exact k9
theorem kw_aast6 {n ci N : Nat} {T : u_T} (hd : decode M.2.1 pc = .ok (.aastore, 1)) (hs : S.1.2.1 a = (6, n)) (hn : n < 65536) (hi : 0 ≤ x ∧ x < n) (hc : vwCl[ci]? = some ("BladesBench$Letters", T, N)) (hsb : S.1.2.1 b = (10 + ci, N)) (k1 : kWP G M d bc bs (pc + 1) ls (st) (kSR S a x b) Q) : kWP G M d bc bs (pc) ls (kA b :: kI x :: kA a :: st) S Q := by
  intro p l e R s m args below meth c H locs cells slots LS Z C hl hf
  obtain ⟨i, rfl, hil, hr, hg⟩ := kadr C.2.2.2.1 hs (by omega)
  obtain ⟨j, rfl, hjl, hrj, hgj⟩ := kadr C.2.2.2.1 hsb (by omega)
  obtain ⟨h1, h2, h3⟩ := kix hi (by omega)
  show W _ _ _ _ _ _ _ _ _ _ _ _ _ _ _ (F0 m pc LS (kref G j :: .int (Int32.ofInt x) :: kref G i :: st.map (kv G)))
  rw [hr, hrj]
  rw [kcell_6 hs] at hg
  rw [kcell_o hsb] at hgj
  have hlt : (Int32.ofInt x).toNatClampNeg < n := by rw [h2]; omega
  have hK := C.2.2.2.2.2.1
  obtain ⟨r', hr', cellV, g1, g2, g3, -⟩ := C.2.2.2.1.1 j _ hgj
  have hcls := (hK.1 ci _ hc).2
  obtain ⟨kA9, comp, q1, q2, q3, -⟩ := (hK.2 5 _ rfl).2
  have hcomp : comp = (kD G).1 ci := Option.some.inj (q3.symm.trans hcls.1)
  subst hcomp
  obtain ⟨kC, hkC, -⟩ := hcls.2
  refine W.aast C.1.1 C.1.2.1 (C.2.2.2.1.1 i _ hg) (fun q h => by cases h) (fun h => by cases h) q1 q2 rfl hkC ⟨fun q => h1 (Or.inl q), by show _ < (arrV _ _ _).slots.size; rw [arrV_size]; exact hlt⟩ g1 (fun q h => by rw [g3] at h; cases h) (by rw [g2]; exact hkC) (by rw [g2]; exact va_assign hcls) rfl rfl hd fun H1 e1 z oq => ?_
  have hst := kstore (S' := kSR S i x j) (j := (Int32.ofInt x).toNatClampNeg) C.2.2.2.1 C.2.2.2.2.1 hil rfl rfl (fun k hk => kcell_kSR (by omega)) (by
    rw [kcell_6 (S := kSR S i x j) hs]
    show H1[kb0 G + i]? = some (vp_cell _ _)
    rw [e1]
    show some ((arrV _ _ (fun j => va_rf (krf G (S.1.2.2 i j)))).setSlot _ _) = some (arrV _ _ (fun q => va_rf (krf G (kup S.1.2.2 i x j i q))))
    rw [arrV_store]
    refine congrArg some (kcell_ext fun q _ => ?_)
    by_cases hq : q = (Int32.ofInt x).toNatClampNeg
    · subst hq
      rw [h2, h3, kup_s]
      simp only [updV, if_true]
      rw [krf_kref G (by omega), hrj]
    · rw [kup_n (Or.inr (by omega))]
      simp only [updV, hq, if_false]) z oq
  exact k1 p l e R s m args below meth c H1 _ cells slots LS Z ⟨C.1, C.2.1, C.2.2.1, hst.1, hst.2, C.2.2.2.2.2⟩ hl hf

end KN
end KC
