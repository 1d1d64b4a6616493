/-- more room than is asked -/
theorem kWP_room {G : KG} {M : KM} {d bc bs bc1 bs1 pc : Nat} {ls : List (Option AV)} {st : List AV} {S : KSt} {Q : Option AV → KSt → Prop} (h1 : bc ≤ bc1) (h2 : bs ≤ bs1) (k : kWP G M d bc bs pc ls st S Q) : kWP G M d bc1 bs1 pc ls st S Q :=
  fun p l e R s m args below meth c H locs cells slots LS Z C hl hf => k p l e R s m args below meth c H locs cells slots LS Z ⟨C.1, C.2.1, ⟨C.2.2.1.1, C.2.2.1.2.1, Nat.le_trans (Nat.add_le_add_left h1 _) C.2.2.1.2.2.1, Nat.le_trans (Nat.add_le_add_left h2 _) C.2.2.1.2.2.2⟩, C.2.2.2⟩ hl hf
/-- the law from its first place on -/
theorem law_walk {nm : String} {G : KG} (hLn : kLn G ≤ 3072) : kWP G (kM_LW nm) (0 + 60) 600000 7302250 0 [some (kA (-2)), none, none, none] [] ((0, (fun _ => (0, 0)), fun _ _ => -1), fun _ _ => 0) (fun r _ => r = some (kI 1)) := by
  refine kn_new (bc := 599999) (bs := 7302230) (A := 0) (N' := 1) rfl rfl kin_X10 tyX10 tyX10_ok rfl dL_law_0 wn_L_7 wins_X10 wi_X10 hdv_X10 (fun sh1 rf1 c1 n1 => ?_)
  refine kw_dup dL_law_3 rfl ?_
  refine kw_callI (av := []) (bc2 := 557) (bs2 := 9004) (bc := 599442) (bs := 7293226) n1.1 (by decide) m_X10_init dL_law_4 wl_L_9 rfl (Nat.le_of_ble_eq_true rfl) (n_X10c (d := 56) n1.1 n1.2.1 n1.2.2.1 (fun sh2 rf2 c2 hC hA => ?_))
  show kWP G (kM_LW nm) _ 599442 7293226 (4 + 3) _ [kA 0] ((558, sh2, rf2), c2) (fun r _ => r = some (kI 1))
  refine kw_astore_n dL_law_7 (Nat.le_of_ble_eq_true rfl) ?_
  refine kn_new (bc := 599441) (bs := 7293188) (A := 558) (N' := 559) rfl rfl kin_X11 tyX11 tyX11_ok rfl dL_law_8 wn_L_10 wins_X11 wi_X11 hdv_X11 (fun sh3 rf3 c3 n3 => ?_)
  refine kw_dup dL_law_11 rfl ?_
  refine kw_callI (av := []) (bc2 := 17) (bs2 := 9244) (bc := 599424) (bs := 7283944) n3.1 (by decide) m_X11_init dL_law_12 wl_L_12 rfl (Nat.le_of_ble_eq_true rfl) (n_X11 (d := 57) n3.1 n3.2.1 n3.2.2.1 (hC.bl (fun u hu => ⟨(n3.2.2.2 u (by omega)).1, (n3.2.2.2 u (by omega)).2.1⟩)) (fun S0 c4 hN hL hR hlo => ?_))
  show kWP G (kM_LW nm) _ 599424 7283944 (12 + 3) _ [kA 558] (S0, c4) (fun r _ => r = some (kI 1))
  refine kw_astore_n dL_law_15 (Nat.le_of_ble_eq_true rfl) ?_
  refine kw_iconst dL_law_16 ?_
  refine kw_istore_n dL_law_17 (Nat.le_of_ble_eq_true rfl) ?_
  have hA3 : CAl kL0 kT0 kT0 1 kK0 [] c3 := hA.lo (fun u i hu => congrFun (n3.2.2.2 u (by omega)).2.2 i)
  have hinv : kInv c4 := ⟨_, _, _, _, _, _, hA3.lo hlo, hR⟩
  have loop := law_loop (nm := nm) (G := G) hL (d := 0) (P := fun r _ => r = some (kI 1)) hLn (fun _ => rfl) (kLn G + 1) 0 (by omega) (Nat.zero_le _) c4 hinv
  exact kWP_room (Nat.zero_le _) (Nat.zero_le _) (kWP_mono (fun r S h => h.2) loop)
