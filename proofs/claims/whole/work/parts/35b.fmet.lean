/-! A member of a class of the JDK that has native members of its own too. -/
theorem kOfWF {l : Launch} {y : MethodName} {ws ws' : List Cond} {rm : Room} {Pc : Array Value → State → Prop} {Qc : Array Value → State → Outcome → State → Prop} {mc ms : Nat} {free : Addr → Prop} {cc : ByteArray} {maxL : Nat} {ret : Option FieldType}
    (hy : plainFor y = true) (hw : ws = Cond.code y cc maxL ret :: ws')
    (body : ∀ p e s m args below meth c s₁, BodyLoose p l y (headSpec ws rm) cc maxL ret e s m args below meth c s₁ → c.maxLocals = maxL → Pc args s →
      W p l e (headSpec ws rm).room s m args below meth c s.heap [] 0 0 (MQ below Qc args s mc ms free) (entryFrame m args maxL)) : Met l y ws rm Pc Qc mc ms free := by
  refine MetFree.of_bodySF (code := cc) (maxLocals := maxL) (ret := ret) hy ?_ ?_
  · intro args s m h hn
    obtain ⟨meth, c, h1, h2, h3, h4, h5, h6, -, -⟩ := Cond.code_spec hn (atoms_spec (ws := ws) h _ (by rw [hw]; exact List.mem_cons_self))
    exact ⟨meth, c, h1, h2, h3, h4, h5, h6⟩
  · intro p e s m args below meth c s₁ B hml hP _
    have hh0 : s₁.heap = s.heap := by rw [B.state]; rfl
    obtain ⟨t, a1, o, b1, b2, b3⟩ := body p e s m args below meth c s₁ B hml hP s₁ hh0 (Stand.of_body B)
    exact ⟨t, o, a1, b1, b2, ⟨b3.1, b3.2⟩⟩
/-- the contract out of the judgement at the entry -/
theorem kMetF {G : KG} {M : KM} {d bc bs : Nat} {av : List AV} {S : KSt} {Q : Option AV → KSt → Prop} (hy : plainFor M.2.2.2.2 = true) (hc : M.2.2.2.2.cls = M.1) (hlen : (karg av).length ≤ M.2.2.1)
    (k : kWP G M d bc bs 0 (kpad M.2.2.1 (karg av)) [] S Q) : kCall G M d bc bs av S Q := by
  intro l
  refine kOfWF (cc := M.2.1) (maxL := M.2.2.1) (ret := M.2.2.2.1) hy rfl ?_
  intro p e s m args below meth c s₁ B hml hv
  obtain ⟨rfl, hH, hT⟩ := hv
  have hts := atoms_spec (ws := kws0 M) B.pre
  rw [lg_entry_eq]
  refine k p l e _ s m _ below meth c s.heap [] 0 0 _ _ ⟨⟨B.exec, B.bytes, hml, ?_, fun w hw => hts w (List.mem_cons_of_mem _ hw)⟩, ⟨B.returns, B.notSynchronized, (name_of_methodNamed B.named B.method).1⟩, ⟨Nat.le_refl _, Nat.le_refl _, Nat.le_of_eq (Nat.zero_add _), Nat.le_of_eq (Nat.zero_add _)⟩, hH, va_S.rf, hT⟩ (kls_entry hlen) ?_
  · rw [← hc]; exact findClass_of_methodNamed B.named
  · intro r S' H' locs cells slots pc LS i hd hr h1 h2 hH' hS hq
    have hlocks := B.notSynchronized
    refine W.widen (k := bc) (n := bs) h1 h2 ?_
    have fin : ∀ (v : Option Value), v = r.map (kv G) → ∀ t : State, t.heap = H' → s.WarmedH t.vm → kQc G Q ((av.map (kv G)).toArray) s (.returned v) t := fun v hv t ht _ => ⟨⟨r, S', by rw [hv], hq, by rw [ht]; exact hH'⟩, hS.F ht⟩
    match r, hr with
    | none, hr =>
      obtain ⟨a, rfl⟩ := hr
      exact W.vret B.exec B.bytes (B.returns.trans a) (fin none rfl) hS.2.2 hd
    | some (.inl z), hr =>
      obtain ⟨rfl, a | ⟨a, b⟩⟩ := hr
      · exact W.iret B.exec B.bytes (B.returns.trans a) (fin _ rfl) hS.2.2 hd
      · refine W.zret B.exec B.bytes (B.returns.trans a) ?_ (fin _ rfl) hS.2.2 hd
        rcases b with rfl | rfl <;> decide
    | some (.inr (.inl z)), hr =>
      obtain ⟨rfl, a⟩ := hr
      exact W.lret B.exec B.bytes (B.returns.trans a) (fin _ rfl) hS.2.2 hd
    | some (.inr (.inr z)), hr =>
      obtain ⟨rfl, a, h0⟩ := hr
      have e : kv G (.inr (.inr z)) = .ref (kb0 G + z.toNat) := if_pos h0
      rcases a with ⟨n, a⟩ | ⟨t, a⟩
      · exact W.aret B.exec B.bytes (B.returns.trans a) (Or.inl ⟨n, rfl⟩) (Or.inr ⟨_, e⟩) (fin _ rfl) hS.2.2 hd
      · exact W.aret B.exec B.bytes (B.returns.trans a) (Or.inr ⟨t, rfl⟩) (Or.inr ⟨_, e⟩) (fin _ rfl) hS.2.2 hd
theorem k2_metF {G : KG} {S0 : KSh} {M : KM} {c : KMem} {P : Option AV → KMem → Prop} {d : Nat} {av : List AV} (hy : plainFor M.2.2.2.2 = true) (hc : M.2.2.2.2.cls = M.1) (hlen : (karg av).length ≤ M.2.2.1) {l0 : List (Option AV)} (e : kpad M.2.2.1 (karg av) = l0) (k : kW2 G S0 M d 0 l0 [] c P) : kC2 G S0 M d av c P := kMetF hy hc hlen (by rw [e]; exact k)
