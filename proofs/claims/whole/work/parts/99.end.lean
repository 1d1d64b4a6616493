set_option maxHeartbeats 4000000 in
set_option maxRecDepth 100000 in
theorem whole_start {p : Program} {e : Env} {s : State} {m : MethodId} {below : List Frame} {meth : Method} {c : Code} (l : Launch) (hflags : l.flags = flags0) {b L : Nat} {xs : Nat → Int32} (hL : L ≤ 3072) (C0 : lw_At p s m meth c b L xs) : W p l e room_1 s m #[Value.ref b] below meth c s.heap [] 0 0 (lw_Z below #[Value.ref b] s) (entryFrame m ([Value.ref b] : List Value).toArray 4) := by
  obtain ⟨hx, hb, hr, hml, hown, hts, hX, hbl, hlocks, hgv⟩ := id C0
  have word : ∀ w ∈ KW, w.before #[Value.ref b] s = true := fun w hw => hts w (List.mem_filter.mp hw).1
  obtain ⟨c0, i0, u0⟩ := u_known (C := RX1) (T := TX1) (N := 2) (n := 2) word kin_X1 (word _ wins_X1)
  obtain ⟨c1, i1, u1⟩ := u_known (C := RX2) (T := TX2) (N := 7) (n := 7) word kin_X2 (word _ wins_X2)
  obtain ⟨c2, i2, u2⟩ := u_known (C := RX3) (T := TX3) (N := 7) (n := 7) word kin_X3 (word _ wins_X3)
  obtain ⟨c3, i3, u3⟩ := u_known (C := RX4) (T := TX4) (N := 4) (n := 4) word kin_X4 (word _ wins_X4)
  obtain ⟨c4, i4, u4⟩ := u_known (C := RX5) (T := TX5) (N := 3) (n := 3) word kin_X5 (word _ wins_X5)
  obtain ⟨c5, i5, u5⟩ := u_known (C := RX6) (T := TX6) (N := 2) (n := 2) word kin_X6 (word _ wins_X6)
  obtain ⟨c6, i6, u6⟩ := u_known (C := RX7) (T := TX7) (N := 12) (n := 12) word kin_X7 (word _ wins_X7)
  obtain ⟨c7, i7, u7⟩ := u_known (C := RX9) (T := TX9) (N := 5) (n := 5) word kin_X9 (word _ wins_X9)
  obtain ⟨c8, i8, u8⟩ := u_known (C := RX10) (T := TX10) (N := 20) (n := 20) word kin_X10 (word _ wins_X10)
  obtain ⟨c9, i9, u9⟩ := u_known (C := RX11) (T := TX11) (N := 38) (n := 38) word kin_X11 (word _ wins_X11)
  obtain ⟨dC, dI, hKc⟩ : ∃ (dC : Nat → ClassId) (dI : Nat → Nat → Nat), ∀ (k : Nat) (q : vw_C), vwCl[k]? = some q → u_Kn s q.1 q.2.1 q.2.2 (dC k) (dI k) := by
    refine ⟨fun k => [c0, c1, c2, c3, c4, c5, c6, c7, c8, c9].getD k c0, fun k => [i0, i1, i2, i3, i4, i5, i6, i7, i8, i9].getD k i0, ?_⟩
    intro k q hq
    match k, hq with
    | 0, hq => cases hq; exact u0
    | 1, hq => cases hq; exact u1
    | 2, hq => cases hq; exact u2
    | 3, hq => cases hq; exact u3
    | 4, hq => cases hq; exact u4
    | 5, hq => cases hq; exact u5
    | 6, hq => cases hq; exact u6
    | 7, hq => cases hq; exact u7
    | 8, hq => cases hq; exact u8
    | 9, hq => cases hq; exact u9
    | k + 10, hq => simp [vwCl] at hq
  obtain ⟨a1, ha1⟩ := st_arr (word _ warr_int) (fun _ h => by cases h)
  obtain ⟨a2, ha2⟩ := st_arr (word _ warr_long) (fun _ h => by cases h)
  obtain ⟨a3, ha3⟩ := st_arr (word _ warr_byte) (fun _ h => by cases h)
  obtain ⟨a4, ha4⟩ := st_arr (word _ warr_boolean) (fun _ h => by cases h)
  have hov : (Cond.arrayOver (.array .long)).before #[Value.ref b] s = true := hts _ (List.mem_of_getElem? (i := 154) (by decide +kernel))
  have hoL : (Cond.arrayOver (.object "BladesBench$Letters")).before #[Value.ref b] s = true := hts _ (List.mem_of_getElem? (i := 172) (by decide +kernel))
  obtain ⟨a5, ha5⟩ := st_arrA hov
  obtain ⟨a6, ha6⟩ := st_arrO hoL
  obtain ⟨t, hXt, htl, hZ⟩ := st_sgn hgv (hts _ (List.mem_of_getElem? (i := 482) (by decide +kernel))) (word _ wi_X0)
  have hTab : kTab ((s.heap.size, b, t, L), xs, (dC, dI), fun k => [a1, a1, a2, a3, a4, a5, a6].getD k a1) s s.heap := by
    refine ⟨⟨hKc, fun k q hq => ?_⟩, ⟨hX, hbl, hXt, htl, hZ, Nat.le_refl _⟩, fun w hw hx => ?_, over_moved (Vm.Alike.refl _) hov, va_AO.of hoL⟩
    · match k, hq with
      | 0, hq => cases hq; exact ha1
      | 1, hq => cases hq; exact ha2
      | 2, hq => cases hq; exact ha3
      | 3, hq => cases hq; exact ha4
      | 4, hq => cases hq; exact ha5
      | 5, hq => cases hq; exact ha6
      | k + 6, hq => simp [ktys] at hq
    · obtain ⟨a, i, y, h, rfl⟩ := hx
      exact va_tabs rfl rfl (hts _ hw)
  have hwalk : kWP ((s.heap.size, b, t, L), xs, (dC, dI), fun k => [a1, a1, a2, a3, a4, a5, a6].getD k a1) (kM_LW meth.name) (0 + 60) 600000 7302250 0 [some (kA (-2)), none, none, none] [] ((0, (fun _ => (0, 0)), fun _ _ => -1), fun _ _ => 0) (fun r _ => r = some (kI 1)) := law_walk hL
  rw [lg_entry_eq]
  refine hwalk p l e room_1 s m #[Value.ref b] below meth c s.heap [] 0 0 _ _ ⟨⟨hx, hb, hml, hown, word⟩, ⟨hr, hlocks, rfl⟩, ⟨Nat.le_of_ble_eq_true rfl, Nat.le_of_ble_eq_true rfl, Nat.le_of_ble_eq_true rfl, Nat.le_of_ble_eq_true rfl⟩, ⟨fun k q h => by simp [kws] at h, rfl, fun a h => absurd rfl h⟩, va_S.rf, hTab⟩ (kls_entry (av := [kA (-2)]) (n := 4) (Nat.le_of_ble_eq_true rfl)) ?_
  intro r S H locs cells slots pc LS i hd hk h1 h2 hH hS hq
  subst hq
  obtain ⟨rfl, -⟩ := hk
  refine va_forget hS.2.2 ?_
  exact W.widen h1 h2 (lw_ret hx hb hr hlocks hd)
set_option maxHeartbeats 4000000 in
theorem lw_walk (l : Launch) (hflags : l.flags = flags0) (b : Addr) (xs : List Int32) : MetFree l x (headSpec (Jvm.Cond.code x code maxLocals ret :: tables_1) room_1) (lw_P b xs) (fun _ _ _ _ _ => True) lw_Q := by
  refine MetFree.of_bodyS (code := code) (maxLocals := maxLocals) (ret := ret) (by decide) ?_ ?_
  · intro args s m h hn
    obtain ⟨meth, c, h1, h2, h3, h4, h5, h6, -, -⟩ := Cond.code_spec hn (atoms_spec (ws := Jvm.Cond.code x code maxLocals ret :: tables_1) h _ List.mem_cons_self)
    exact ⟨meth, c, h1, h2, h3, h4, h5, h6⟩
  · intro p e s m args below meth c s₁ B hml0 hP _
    obtain ⟨rfl, hx, hbd, hgv⟩ := hP
    obtain ⟨scr, harrAt, hlist, hof, hsmall⟩ := hx
    obtain ⟨hcb, hkn, -, -⟩ := State.arrayAt?_spec harrAt
    have hown : s.vm.findClass R_law = some m.cls := findClass_of_methodNamed B.named
    have hts0 : ∀ c ∈ (Jvm.Cond.code x code maxLocals ret :: tables_1), c.before #[Value.ref b] s = true := atoms_spec (ws := Jvm.Cond.code x code maxLocals ret :: tables_1) B.pre
    have hts : ∀ w ∈ lw_tbl, w.before #[Value.ref b] s = true := k2_hts_sels lw_privs (fun w hw => hts0 w (List.mem_cons_of_mem _ hw)) lw_privs_ok
    have hml : c.maxLocals = 4 := B.maxLocals_eq (hts0 _ List.mem_cons_self)
    have X₀ : Stand p l e room_1 s m #[Value.ref b] below meth c s₁ [] 0 0 := Stand.of_body B
    have hh0 : s₁.heap = s.heap := by rw [B.state]; rfl
    have hsz : scr.slots.size = xs.length := by rw [← Array.length_toList, hlist, List.length_map]
    have hval : ∀ j : Nat, j < xs.length → scr.slots[j]? = some (.int (xs.getD j 0)) := fun j hj => by
      rw [← Array.getElem?_toList, hlist]
      simp [hj]
    have hbl : b < s.heap.size := (Array.getElem?_eq_some_iff.mp hcb).1
    have hX : va_X b xs.length (fun j => xs.getD j 0) s s.heap := ⟨scr, hcb, hof, hkn, hsz, hval⟩
    have K : W p l e room_1 s m #[Value.ref b] below meth c s₁.heap [] 0 0 (lw_Z below #[Value.ref b] s) (entryFrame m ([Value.ref b] : List Value).toArray 4) := by
      rw [hh0]
      exact whole_start l hflags hbd ⟨B.exec, B.bytes, B.returns, hml, hown, hts, hX, hbl, B.notSynchronized, hgv⟩
    obtain ⟨t, a1, o, b1, b2, b3⟩ := K s₁ rfl X₀
    exact ⟨t, o, a1, b1, b2, b3⟩
theorem lw_pre_spec {args : Array Value} {s : State} (h : (Jvm.Cond.and given_1 narrow_1).before args s = true) (hr : rest_1_c.before args s = true) : ∃ (b : Addr) (xs : List Int32), lw_P b xs args s := by
  have hs := flat_of_before _ h
  have hq := flat_of_before _ hr
  have hc : (Cond.count 1).before args s = true := hs _ (by decide +kernel)
  have harr : (Cond.arrayOf (.arg 0) .int).before args s = true := hs _ (by decide +kernel)
  have hle : (Cond.le (.length (.arg 0)) (.int 3072)).before args s = true := hs _ (by decide +kernel)
  have hlen : (Cond.isInt (.length (.arg 0))).before args s = true := hq _ (by decide +kernel)
  have hall : (Cond.all (.arg 0) (.isInt (.elem (.arg 0) (.index 0)))).before args s = true := hq _ (by decide +kernel)
  obtain ⟨b, xs, hb, hx⟩ := State.ints_of_pre rfl harr hlen hall
  have hsm : xs.length < 2 ^ 31 := hx.choose_spec.2.2.2
  have hev : (Term.length (.arg 0)).eval args s none [] s = some (.int xs.length.toInt32) := hx.length_eval hb
  have hv := Cond.le_ints hev (show (Term.int 3072).eval args s none [] s = some (.int 3072) from rfl)
  have hd : xs.length.toInt32 ≤ 3072 := by
    simpa [Cond.before, Cond.holds, hv] using hle
  have hN : xs.length ≤ 3072 := (Int32.ofNat_le_ofNat hsm (by decide)).mp (show Int32.ofNat xs.length ≤ Int32.ofNat 3072 from hd)
  exact ⟨b, xs, Cond.one_arg hc (show args[0]? = some (.ref b) from hb), hx, hN, h⟩
theorem lw_comes (l : Launch) (hflags : l.flags = flags0) : Comes l x (Jvm.Cond.code x code maxLocals ret :: tables_1) room_1 (fun tb e args s => Calls_1 tb e args s ∧ rest_1 tb e args s ∧ Pre_1 tb e args s)
    (fun _ _ args s o t => lw_Q args s o t) := by
  intro p e ha hc hk s m args below hf hfit hheap happ hpre
  obtain ⟨b, xs, hP⟩ := lw_pre_spec hpre.2.2 hpre.2.1
  obtain ⟨k, o, h1, h2, h3, hQ⟩ := lw_walk l hflags b xs p e ha hc hk s m args below hf ((Spec.applies_iff_loose hf).mp happ).1 hP trivial
  exact ⟨k, o, h1, h2, h3, hQ⟩
theorem lw_frame {s t : State} {o : Outcome} {args : Array Value} (h : Framed s o t [] 600000 7302250) :
    Framed s o t (fieldLocs frame_1_writes args s ++ arrayLocs frame_1_arrays args s ++ staticLocs frame_1_statics s) 600000 7302250 := h
theorem lw_limb (L : Cond) (hL : ∀ (args : Array Value) (s t : State), L.after args s (.returned (some (.int 1))) t = true) :
    ArmFor flags0 classFile x code maxLocals ret World_1 tables_1 room_1 Calls_1 rest_1 Pre_1
      (fun tb e a s o t => postC L tb e a s o t ∧ Framed s o t (fieldLocs frame_1_writes a s ++ arrayLocs frame_1_arrays a s ++ staticLocs frame_1_statics s) 600000 7302250) := by
  intro l hflags _ _ p e ha hc hk s m args below hf hfit hheap happ hpre
  obtain ⟨k, o, h1, h2, h3, rfl, hF⟩ := lw_comes l hflags p e ha hc hk s m args below hf hfit hheap happ hpre
  exact ⟨k, _, h1, h2, h3, hL args s _, lw_frame hF⟩
theorem i_vc : Claimed_1_1 ∧ Claimed_1_2 := ⟨lw_limb limb_1_1 (fun args s t => by simp [limb_1_1, Cond.after, Cond.holds, Cond.value]), lw_limb limb_1_2 (fun args s t => Cond.after_iff.mpr (by
  first | (rw [show limb_1_2 = Cond.eq .result (.int 1) from rfl, Cond.eq_ints (x := 1) (y := 1) rfl rfl]; simp; done) | (simp [limb_1_2, Cond.value, Term.eval]; done)))⟩

