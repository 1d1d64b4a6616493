/-- the law's method, by whatever name it bears -/
abbrev kM_LW (nm : String) : KM := (RL, cL_law, 4, some .boolean, ⟨RL, nm, "([I)Z"⟩)
section LWR
variable {G : KG} {M : KM} {d bc bs pc : Nat} {ls : List (Option AV)} {st : List AV} {S : KSt} {Q : Option AV → KSt → Prop} {a b : Int}
/-- two answers that are the same -/
theorem kw_icmp_eqr {off : Int} (tgt : Nat) (hd : decode M.2.1 pc = .ok (.if_icmp .eq off, 3)) (ht : (pc : Int) + off = (tgt : Int)) (h : b = a) (k1 : kWP G M d bc bs (tgt) ls (st) S Q) : kWP G M d bc bs (pc) ls (kI b :: kI a :: st) S Q := by
  subst h
  intro p l e R s m args below meth c H locs cells slots LS Z C hl hf
  exact lv_icmp_eq C.1.1 C.1.2.1 hd ht (fun _ => k1 p l e R s m args below meth c H locs cells slots LS Z C hl hf) (fun h => absurd rfl h)
theorem klc_self (a : Int) : lg_cmp (Int64.ofInt a) (Int64.ofInt a) = 0 := by
  unfold lg_cmp
  rw [if_neg (fun q => Int.lt_irrefl _ (Int64.lt_iff_toInt_lt.mp q)), if_pos rfl]
theorem kw_lcmp_eqr {off : Int} (tgt : Nat) (hd : decode M.2.1 pc = .ok (.lcmp, 1)) (hd2 : decode M.2.1 (pc + 1) = .ok (.ifCond .eq off, 3)) (ht : (pc : Int) + 1 + off = (tgt : Int)) (h : b = a) (k1 : kWP G M d bc bs (tgt) ls (st) S Q) : kWP G M d bc bs (pc) ls (kL b :: kL a :: st) S Q := by
  subst h
  intro p l e R s m args below meth c H locs cells slots LS Z C hl hf
  refine W.lcmp C.1.1 C.1.2.1 hd ?_
  refine lv_if_eq (tgt := tgt) C.1.1 C.1.2.1 hd2 (by rw [← ht]; rfl) (fun _ => k1 p l e R s m args below meth c H locs cells slots LS Z C hl hf) (fun h => absurd (klc_self _) h)
end LWR
set_option maxRecDepth 4000 in
theorem v_L_law_18 {nm : String} {G : KG} {S0 : KSh} (hL : kLay S0) {d : Nat} {P : Option AV → KMem → Prop} {c : KMem} {x3 : Int} (r3 : 0 ≤ x3 ∧ x3 < 2147483648) (hLn : kLn G < 2147483648) (H : ((((kLn G : Nat) : Int) - 6) < x3 → (P (some (kI 1)) c)) ∧ (x3 ≤ (((kLn G : Nat) : Int) - 6) → (((kand ((kxs G (Int.toNat x3)).toInt) 63) ≠ 0 ∧ (kand ((kxs G (Int.toNat x3)).toInt) 63) ≠ 1 ∧ (kand ((kxs G (Int.toNat x3)).toInt) 63) ≠ 2 ∧ (kand ((kxs G (Int.toNat x3)).toInt) 63) ≠ 3 ∧ (kand ((kxs G (Int.toNat x3)).toInt) 63) ≠ 4 ∧ (kand ((kxs G (Int.toNat x3)).toInt) 63) ≠ 5 ∧ (kand ((kxs G (Int.toNat x3)).toInt) 63) ≠ 6 ∧ (kand ((kxs G (Int.toNat x3)).toInt) 63) ≠ 7 ∧ (kand ((kxs G (Int.toNat x3)).toInt) 63) ≠ 8 ∧ (kand ((kxs G (Int.toNat x3)).toInt) 63) ≠ 9 ∧ (kand ((kxs G (Int.toNat x3)).toInt) 63) ≠ 10 ∧ (kand ((kxs G (Int.toNat x3)).toInt) 63) ≠ 11 ∧ (kand ((kxs G (Int.toNat x3)).toInt) 63) ≠ 12 ∧ (kand ((kxs G (Int.toNat x3)).toInt) 63) ≠ 13 ∧ (kand ((kxs G (Int.toNat x3)).toInt) 63) ≠ 14 ∧ (kand ((kxs G (Int.toNat x3)).toInt) 63) ≠ 15 ∧ (kand ((kxs G (Int.toNat x3)).toInt) 63) ≠ 16 ∧ (kand ((kxs G (Int.toNat x3)).toInt) 63) ≠ 17 ∧ (kand ((kxs G (Int.toNat x3)).toInt) 63) ≠ 18 ∧ (kand ((kxs G (Int.toNat x3)).toInt) 63) ≠ 19 ∧ (kand ((kxs G (Int.toNat x3)).toInt) 63) ≠ 20 ∧ (kand ((kxs G (Int.toNat x3)).toInt) 63) ≠ 21 ∧ (kand ((kxs G (Int.toNat x3)).toInt) 63) ≠ 22 ∧ (kand ((kxs G (Int.toNat x3)).toInt) 63) ≠ 23 ∧ (kand ((kxs G (Int.toNat x3)).toInt) 63) ≠ 24 ∧ (kand ((kxs G (Int.toNat x3)).toInt) 63) ≠ 25 ∧ (kand ((kxs G (Int.toNat x3)).toInt) 63) ≠ 26 ∧ (kand ((kxs G (Int.toNat x3)).toInt) 63) ≠ 27 ∧ (kand ((kxs G (Int.toNat x3)).toInt) 63) ≠ 28 ∧ (kand ((kxs G (Int.toNat x3)).toInt) 63) ≠ 29 ∧ (kand ((kxs G (Int.toNat x3)).toInt) 63) ≠ 30 ∧ (kand ((kxs G (Int.toNat x3)).toInt) 63) ≠ 31 ∧ (kand ((kxs G (Int.toNat x3)).toInt) 63) ≠ 32 ∧ (kand ((kxs G (Int.toNat x3)).toInt) 63) ≠ 33 ∧ (kand ((kxs G (Int.toNat x3)).toInt) 63) ≠ 34 ∧ (kand ((kxs G (Int.toNat x3)).toInt) 63) ≠ 35 ∧ (kand ((kxs G (Int.toNat x3)).toInt) 63) ≠ 36 → (kW2 G S0 (kM_LW nm) (d + 60) 1404 [some (kA (-2)), some (kA 0), some (kA 558), some (kI x3)] [] c P)) ∧ ((kand ((kxs G (Int.toNat x3)).toInt) 63) = 0 → (kW2 G S0 (kM_LW nm) (d + 60) 196 [some (kA (-2)), some (kA 0), some (kA 558), some (kI x3)] [] c P)) ∧ ((kand ((kxs G (Int.toNat x3)).toInt) 63) = 1 → (kW2 G S0 (kM_LW nm) (d + 60) 259 [some (kA (-2)), some (kA 0), some (kA 558), some (kI x3)] [] c P)) ∧ ((kand ((kxs G (Int.toNat x3)).toInt) 63) = 2 → (kW2 G S0 (kM_LW nm) (d + 60) 282 [some (kA (-2)), some (kA 0), some (kA 558), some (kI x3)] [] c P)) ∧ ((kand ((kxs G (Int.toNat x3)).toInt) 63) = 3 → (kW2 G S0 (kM_LW nm) (d + 60) 305 [some (kA (-2)), some (kA 0), some (kA 558), some (kI x3)] [] c P)) ∧ ((kand ((kxs G (Int.toNat x3)).toInt) 63) = 4 → (kW2 G S0 (kM_LW nm) (d + 60) 328 [some (kA (-2)), some (kA 0), some (kA 558), some (kI x3)] [] c P)) ∧ ((kand ((kxs G (Int.toNat x3)).toInt) 63) = 5 → (kW2 G S0 (kM_LW nm) (d + 60) 361 [some (kA (-2)), some (kA 0), some (kA 558), some (kI x3)] [] c P)) ∧ ((kand ((kxs G (Int.toNat x3)).toInt) 63) = 6 → (kW2 G S0 (kM_LW nm) (d + 60) 384 [some (kA (-2)), some (kA 0), some (kA 558), some (kI x3)] [] c P)) ∧ ((kand ((kxs G (Int.toNat x3)).toInt) 63) = 7 → (kW2 G S0 (kM_LW nm) (d + 60) 417 [some (kA (-2)), some (kA 0), some (kA 558), some (kI x3)] [] c P)) ∧ ((kand ((kxs G (Int.toNat x3)).toInt) 63) = 8 → (kW2 G S0 (kM_LW nm) (d + 60) 451 [some (kA (-2)), some (kA 0), some (kA 558), some (kI x3)] [] c P)) ∧ ((kand ((kxs G (Int.toNat x3)).toInt) 63) = 9 → (kW2 G S0 (kM_LW nm) (d + 60) 484 [some (kA (-2)), some (kA 0), some (kA 558), some (kI x3)] [] c P)) ∧ ((kand ((kxs G (Int.toNat x3)).toInt) 63) = 10 → (kW2 G S0 (kM_LW nm) (d + 60) 527 [some (kA (-2)), some (kA 0), some (kA 558), some (kI x3)] [] c P)) ∧ ((kand ((kxs G (Int.toNat x3)).toInt) 63) = 11 → (kW2 G S0 (kM_LW nm) (d + 60) 581 [some (kA (-2)), some (kA 0), some (kA 558), some (kI x3)] [] c P)) ∧ ((kand ((kxs G (Int.toNat x3)).toInt) 63) = 12 → (kW2 G S0 (kM_LW nm) (d + 60) 625 [some (kA (-2)), some (kA 0), some (kA 558), some (kI x3)] [] c P)) ∧ ((kand ((kxs G (Int.toNat x3)).toInt) 63) = 13 → (kW2 G S0 (kM_LW nm) (d + 60) 669 [some (kA (-2)), some (kA 0), some (kA 558), some (kI x3)] [] c P)) ∧ ((kand ((kxs G (Int.toNat x3)).toInt) 63) = 14 → (kW2 G S0 (kM_LW nm) (d + 60) 703 [some (kA (-2)), some (kA 0), some (kA 558), some (kI x3)] [] c P)) ∧ ((kand ((kxs G (Int.toNat x3)).toInt) 63) = 15 → (kW2 G S0 (kM_LW nm) (d + 60) 757 [some (kA (-2)), some (kA 0), some (kA 558), some (kI x3)] [] c P)) ∧ ((kand ((kxs G (Int.toNat x3)).toInt) 63) = 16 → (kW2 G S0 (kM_LW nm) (d + 60) 790 [some (kA (-2)), some (kA 0), some (kA 558), some (kI x3)] [] c P)) ∧ ((kand ((kxs G (Int.toNat x3)).toInt) 63) = 17 → (kW2 G S0 (kM_LW nm) (d + 60) 833 [some (kA (-2)), some (kA 0), some (kA 558), some (kI x3)] [] c P)) ∧ ((kand ((kxs G (Int.toNat x3)).toInt) 63) = 18 → (kW2 G S0 (kM_LW nm) (d + 60) 856 [some (kA (-2)), some (kA 0), some (kA 558), some (kI x3)] [] c P)) ∧ ((kand ((kxs G (Int.toNat x3)).toInt) 63) = 19 → (kW2 G S0 (kM_LW nm) (d + 60) 879 [some (kA (-2)), some (kA 0), some (kA 558), some (kI x3)] [] c P)) ∧ ((kand ((kxs G (Int.toNat x3)).toInt) 63) = 20 → (kW2 G S0 (kM_LW nm) (d + 60) 912 [some (kA (-2)), some (kA 0), some (kA 558), some (kI x3)] [] c P)) ∧ ((kand ((kxs G (Int.toNat x3)).toInt) 63) = 21 → (kW2 G S0 (kM_LW nm) (d + 60) 935 [some (kA (-2)), some (kA 0), some (kA 558), some (kI x3)] [] c P)) ∧ ((kand ((kxs G (Int.toNat x3)).toInt) 63) = 22 → (kW2 G S0 (kM_LW nm) (d + 60) 958 [some (kA (-2)), some (kA 0), some (kA 558), some (kI x3)] [] c P)) ∧ ((kand ((kxs G (Int.toNat x3)).toInt) 63) = 23 → (kW2 G S0 (kM_LW nm) (d + 60) 971 [some (kA (-2)), some (kA 0), some (kA 558), some (kI x3)] [] c P)) ∧ ((kand ((kxs G (Int.toNat x3)).toInt) 63) = 24 → (kW2 G S0 (kM_LW nm) (d + 60) 1024 [some (kA (-2)), some (kA 0), some (kA 558), some (kI x3)] [] c P)) ∧ ((kand ((kxs G (Int.toNat x3)).toInt) 63) = 25 → (kW2 G S0 (kM_LW nm) (d + 60) 1057 [some (kA (-2)), some (kA 0), some (kA 558), some (kI x3)] [] c P)) ∧ ((kand ((kxs G (Int.toNat x3)).toInt) 63) = 26 → (kW2 G S0 (kM_LW nm) (d + 60) 1090 [some (kA (-2)), some (kA 0), some (kA 558), some (kI x3)] [] c P)) ∧ ((kand ((kxs G (Int.toNat x3)).toInt) 63) = 27 → (kW2 G S0 (kM_LW nm) (d + 60) 1113 [some (kA (-2)), some (kA 0), some (kA 558), some (kI x3)] [] c P)) ∧ ((kand ((kxs G (Int.toNat x3)).toInt) 63) = 28 → (kW2 G S0 (kM_LW nm) (d + 60) 1156 [some (kA (-2)), some (kA 0), some (kA 558), some (kI x3)] [] c P)) ∧ ((kand ((kxs G (Int.toNat x3)).toInt) 63) = 29 → (kW2 G S0 (kM_LW nm) (d + 60) 1210 [some (kA (-2)), some (kA 0), some (kA 558), some (kI x3)] [] c P)) ∧ ((kand ((kxs G (Int.toNat x3)).toInt) 63) = 30 → (kW2 G S0 (kM_LW nm) (d + 60) 1253 [some (kA (-2)), some (kA 0), some (kA 558), some (kI x3)] [] c P)) ∧ ((kand ((kxs G (Int.toNat x3)).toInt) 63) = 31 → (kW2 G S0 (kM_LW nm) (d + 60) 1296 [some (kA (-2)), some (kA 0), some (kA 558), some (kI x3)] [] c P)) ∧ ((kand ((kxs G (Int.toNat x3)).toInt) 63) = 32 → (kW2 G S0 (kM_LW nm) (d + 60) 1309 [some (kA (-2)), some (kA 0), some (kA 558), some (kI x3)] [] c P)) ∧ ((kand ((kxs G (Int.toNat x3)).toInt) 63) = 33 → (kW2 G S0 (kM_LW nm) (d + 60) 1332 [some (kA (-2)), some (kA 0), some (kA 558), some (kI x3)] [] c P)) ∧ ((kand ((kxs G (Int.toNat x3)).toInt) 63) = 34 → (kW2 G S0 (kM_LW nm) (d + 60) 1345 [some (kA (-2)), some (kA 0), some (kA 558), some (kI x3)] [] c P)) ∧ ((kand ((kxs G (Int.toNat x3)).toInt) 63) = 35 → (kW2 G S0 (kM_LW nm) (d + 60) 1358 [some (kA (-2)), some (kA 0), some (kA 558), some (kI x3)] [] c P)) ∧ ((kand ((kxs G (Int.toNat x3)).toInt) 63) = 36 → (kW2 G S0 (kM_LW nm) (d + 60) 1381 [some (kA (-2)), some (kA 0), some (kA 558), some (kI x3)] [] c P))))) : kW2 G S0 (kM_LW nm) (d + 60) 18 [some (kA (-2)), some (kA 0), some (kA 558), some (kI x3)] [] c P := by
  refine kw_iload_n dL_law_18 rfl ?_
  refine kw_aload_n dL_law_19 rfl ?_
  refine kw_slen dL_law_20 ?_
  refine kw_bipush dL_law_21 (by decide) ?_
  refine kw_isub dL_law_23 ?_
  refine kw_icmp_gt 1410 dL_law_24 (by decide) (k32i (by omega)) (k32i (by omega)) (fun h1 => ?_) (fun h1 => ?_)
  · have H := H.1 h1
    refine kw_iconst dL_law_1410 ?_
    refine k2_zret dL_law_1411 rfl (Or.inr rfl) H
  · have H := H.2 h1
    refine kw_aload_n dL_law_27 rfl ?_
    refine kw_iload_n dL_law_28 rfl ?_
    refine kw_scr dL_law_29 hLn (by omega) ?_
    refine kw_bipush dL_law_30 (by decide) ?_
    refine kw_iand dL_law_32 ?_
    refine k2_tsw dL_law_33 (k32_kand _ _) 1404 (by decide) (fun h2 => ?_) ?_
    · have H := H.1 (by omega)
      exact kw_forget (ls' := [some (kA (-2)), some (kA 0), some (kA 558), some (kI x3)]) ⟨Or.inr rfl, ⟨Or.inr rfl, ⟨Or.inr rfl, ⟨Or.inr rfl, trivial⟩⟩⟩⟩ H
    · intro j off tgt e1 e2 e3 e4
      have hj : j < 37 := by omega
      by_cases f0 : j = 0
      · subst f0
        have e5 : off = 163 := Option.some.inj (e3.symm.trans (by decide))
        obtain rfl : tgt = 196 := by omega
        have H := H.2.1 (by omega)
        exact kw_forget (ls' := [some (kA (-2)), some (kA 0), some (kA 558), some (kI x3)]) ⟨Or.inr rfl, ⟨Or.inr rfl, ⟨Or.inr rfl, ⟨Or.inr rfl, trivial⟩⟩⟩⟩ H
      by_cases f1 : j = 1
      · subst f1
        have e5 : off = 226 := Option.some.inj (e3.symm.trans (by decide))
        obtain rfl : tgt = 259 := by omega
        have H := H.2.2.1 (by omega)
        exact kw_forget (ls' := [some (kA (-2)), some (kA 0), some (kA 558), some (kI x3)]) ⟨Or.inr rfl, ⟨Or.inr rfl, ⟨Or.inr rfl, ⟨Or.inr rfl, trivial⟩⟩⟩⟩ H
      by_cases f2 : j = 2
      · subst f2
        have e5 : off = 249 := Option.some.inj (e3.symm.trans (by decide))
        obtain rfl : tgt = 282 := by omega
        have H := H.2.2.2.1 (by omega)
        exact kw_forget (ls' := [some (kA (-2)), some (kA 0), some (kA 558), some (kI x3)]) ⟨Or.inr rfl, ⟨Or.inr rfl, ⟨Or.inr rfl, ⟨Or.inr rfl, trivial⟩⟩⟩⟩ H
      by_cases f3 : j = 3
      · subst f3
        have e5 : off = 272 := Option.some.inj (e3.symm.trans (by decide))
        obtain rfl : tgt = 305 := by omega
        have H := H.2.2.2.2.1 (by omega)
        exact kw_forget (ls' := [some (kA (-2)), some (kA 0), some (kA 558), some (kI x3)]) ⟨Or.inr rfl, ⟨Or.inr rfl, ⟨Or.inr rfl, ⟨Or.inr rfl, trivial⟩⟩⟩⟩ H
      by_cases f4 : j = 4
      · subst f4
        have e5 : off = 295 := Option.some.inj (e3.symm.trans (by decide))
        obtain rfl : tgt = 328 := by omega
        have H := H.2.2.2.2.2.1 (by omega)
        exact kw_forget (ls' := [some (kA (-2)), some (kA 0), some (kA 558), some (kI x3)]) ⟨Or.inr rfl, ⟨Or.inr rfl, ⟨Or.inr rfl, ⟨Or.inr rfl, trivial⟩⟩⟩⟩ H
      by_cases f5 : j = 5
      · subst f5
        have e5 : off = 328 := Option.some.inj (e3.symm.trans (by decide))
        obtain rfl : tgt = 361 := by omega
        have H := H.2.2.2.2.2.2.1 (by omega)
        exact kw_forget (ls' := [some (kA (-2)), some (kA 0), some (kA 558), some (kI x3)]) ⟨Or.inr rfl, ⟨Or.inr rfl, ⟨Or.inr rfl, ⟨Or.inr rfl, trivial⟩⟩⟩⟩ H
      by_cases f6 : j = 6
      · subst f6
        have e5 : off = 351 := Option.some.inj (e3.symm.trans (by decide))
        obtain rfl : tgt = 384 := by omega
        have H := H.2.2.2.2.2.2.2.1 (by omega)
        exact kw_forget (ls' := [some (kA (-2)), some (kA 0), some (kA 558), some (kI x3)]) ⟨Or.inr rfl, ⟨Or.inr rfl, ⟨Or.inr rfl, ⟨Or.inr rfl, trivial⟩⟩⟩⟩ H
      by_cases f7 : j = 7
      · subst f7
        have e5 : off = 384 := Option.some.inj (e3.symm.trans (by decide))
        obtain rfl : tgt = 417 := by omega
        have H := H.2.2.2.2.2.2.2.2.1 (by omega)
        exact kw_forget (ls' := [some (kA (-2)), some (kA 0), some (kA 558), some (kI x3)]) ⟨Or.inr rfl, ⟨Or.inr rfl, ⟨Or.inr rfl, ⟨Or.inr rfl, trivial⟩⟩⟩⟩ H
      by_cases f8 : j = 8
      · subst f8
        have e5 : off = 418 := Option.some.inj (e3.symm.trans (by decide))
        obtain rfl : tgt = 451 := by omega
        have H := H.2.2.2.2.2.2.2.2.2.1 (by omega)
        exact kw_forget (ls' := [some (kA (-2)), some (kA 0), some (kA 558), some (kI x3)]) ⟨Or.inr rfl, ⟨Or.inr rfl, ⟨Or.inr rfl, ⟨Or.inr rfl, trivial⟩⟩⟩⟩ H
      by_cases f9 : j = 9
      · subst f9
        have e5 : off = 451 := Option.some.inj (e3.symm.trans (by decide))
        obtain rfl : tgt = 484 := by omega
        have H := H.2.2.2.2.2.2.2.2.2.2.1 (by omega)
        exact kw_forget (ls' := [some (kA (-2)), some (kA 0), some (kA 558), some (kI x3)]) ⟨Or.inr rfl, ⟨Or.inr rfl, ⟨Or.inr rfl, ⟨Or.inr rfl, trivial⟩⟩⟩⟩ H
      by_cases f10 : j = 10
      · subst f10
        have e5 : off = 494 := Option.some.inj (e3.symm.trans (by decide))
        obtain rfl : tgt = 527 := by omega
        have H := H.2.2.2.2.2.2.2.2.2.2.2.1 (by omega)
        exact kw_forget (ls' := [some (kA (-2)), some (kA 0), some (kA 558), some (kI x3)]) ⟨Or.inr rfl, ⟨Or.inr rfl, ⟨Or.inr rfl, ⟨Or.inr rfl, trivial⟩⟩⟩⟩ H
      by_cases f11 : j = 11
      · subst f11
        have e5 : off = 548 := Option.some.inj (e3.symm.trans (by decide))
        obtain rfl : tgt = 581 := by omega
        have H := H.2.2.2.2.2.2.2.2.2.2.2.2.1 (by omega)
        exact kw_forget (ls' := [some (kA (-2)), some (kA 0), some (kA 558), some (kI x3)]) ⟨Or.inr rfl, ⟨Or.inr rfl, ⟨Or.inr rfl, ⟨Or.inr rfl, trivial⟩⟩⟩⟩ H
      by_cases f12 : j = 12
      · subst f12
        have e5 : off = 592 := Option.some.inj (e3.symm.trans (by decide))
        obtain rfl : tgt = 625 := by omega
        have H := H.2.2.2.2.2.2.2.2.2.2.2.2.2.1 (by omega)
        exact kw_forget (ls' := [some (kA (-2)), some (kA 0), some (kA 558), some (kI x3)]) ⟨Or.inr rfl, ⟨Or.inr rfl, ⟨Or.inr rfl, ⟨Or.inr rfl, trivial⟩⟩⟩⟩ H
      by_cases f13 : j = 13
      · subst f13
        have e5 : off = 636 := Option.some.inj (e3.symm.trans (by decide))
        obtain rfl : tgt = 669 := by omega
        have H := H.2.2.2.2.2.2.2.2.2.2.2.2.2.2.1 (by omega)
        exact kw_forget (ls' := [some (kA (-2)), some (kA 0), some (kA 558), some (kI x3)]) ⟨Or.inr rfl, ⟨Or.inr rfl, ⟨Or.inr rfl, ⟨Or.inr rfl, trivial⟩⟩⟩⟩ H
      by_cases f14 : j = 14
      · subst f14
        have e5 : off = 670 := Option.some.inj (e3.symm.trans (by decide))
        obtain rfl : tgt = 703 := by omega
        have H := H.2.2.2.2.2.2.2.2.2.2.2.2.2.2.2.1 (by omega)
        exact kw_forget (ls' := [some (kA (-2)), some (kA 0), some (kA 558), some (kI x3)]) ⟨Or.inr rfl, ⟨Or.inr rfl, ⟨Or.inr rfl, ⟨Or.inr rfl, trivial⟩⟩⟩⟩ H
      by_cases f15 : j = 15
      · subst f15
        have e5 : off = 724 := Option.some.inj (e3.symm.trans (by decide))
        obtain rfl : tgt = 757 := by omega
        have H := H.2.2.2.2.2.2.2.2.2.2.2.2.2.2.2.2.1 (by omega)
        exact kw_forget (ls' := [some (kA (-2)), some (kA 0), some (kA 558), some (kI x3)]) ⟨Or.inr rfl, ⟨Or.inr rfl, ⟨Or.inr rfl, ⟨Or.inr rfl, trivial⟩⟩⟩⟩ H
      by_cases f16 : j = 16
      · subst f16
        have e5 : off = 757 := Option.some.inj (e3.symm.trans (by decide))
        obtain rfl : tgt = 790 := by omega
        have H := H.2.2.2.2.2.2.2.2.2.2.2.2.2.2.2.2.2.1 (by omega)
        exact kw_forget (ls' := [some (kA (-2)), some (kA 0), some (kA 558), some (kI x3)]) ⟨Or.inr rfl, ⟨Or.inr rfl, ⟨Or.inr rfl, ⟨Or.inr rfl, trivial⟩⟩⟩⟩ H
      by_cases f17 : j = 17
      · subst f17
        have e5 : off = 800 := Option.some.inj (e3.symm.trans (by decide))
        obtain rfl : tgt = 833 := by omega
        have H := H.2.2.2.2.2.2.2.2.2.2.2.2.2.2.2.2.2.2.1 (by omega)
        exact kw_forget (ls' := [some (kA (-2)), some (kA 0), some (kA 558), some (kI x3)]) ⟨Or.inr rfl, ⟨Or.inr rfl, ⟨Or.inr rfl, ⟨Or.inr rfl, trivial⟩⟩⟩⟩ H
      by_cases f18 : j = 18
      · subst f18
        have e5 : off = 823 := Option.some.inj (e3.symm.trans (by decide))
        obtain rfl : tgt = 856 := by omega
        have H := H.2.2.2.2.2.2.2.2.2.2.2.2.2.2.2.2.2.2.2.1 (by omega)
        exact kw_forget (ls' := [some (kA (-2)), some (kA 0), some (kA 558), some (kI x3)]) ⟨Or.inr rfl, ⟨Or.inr rfl, ⟨Or.inr rfl, ⟨Or.inr rfl, trivial⟩⟩⟩⟩ H
      by_cases f19 : j = 19
      · subst f19
        have e5 : off = 846 := Option.some.inj (e3.symm.trans (by decide))
        obtain rfl : tgt = 879 := by omega
        have H := H.2.2.2.2.2.2.2.2.2.2.2.2.2.2.2.2.2.2.2.2.1 (by omega)
        exact kw_forget (ls' := [some (kA (-2)), some (kA 0), some (kA 558), some (kI x3)]) ⟨Or.inr rfl, ⟨Or.inr rfl, ⟨Or.inr rfl, ⟨Or.inr rfl, trivial⟩⟩⟩⟩ H
      by_cases f20 : j = 20
      · subst f20
        have e5 : off = 879 := Option.some.inj (e3.symm.trans (by decide))
        obtain rfl : tgt = 912 := by omega
        have H := H.2.2.2.2.2.2.2.2.2.2.2.2.2.2.2.2.2.2.2.2.2.1 (by omega)
        exact kw_forget (ls' := [some (kA (-2)), some (kA 0), some (kA 558), some (kI x3)]) ⟨Or.inr rfl, ⟨Or.inr rfl, ⟨Or.inr rfl, ⟨Or.inr rfl, trivial⟩⟩⟩⟩ H
      by_cases f21 : j = 21
      · subst f21
        have e5 : off = 902 := Option.some.inj (e3.symm.trans (by decide))
        obtain rfl : tgt = 935 := by omega
        have H := H.2.2.2.2.2.2.2.2.2.2.2.2.2.2.2.2.2.2.2.2.2.2.1 (by omega)
        exact kw_forget (ls' := [some (kA (-2)), some (kA 0), some (kA 558), some (kI x3)]) ⟨Or.inr rfl, ⟨Or.inr rfl, ⟨Or.inr rfl, ⟨Or.inr rfl, trivial⟩⟩⟩⟩ H
      by_cases f22 : j = 22
      · subst f22
        have e5 : off = 925 := Option.some.inj (e3.symm.trans (by decide))
        obtain rfl : tgt = 958 := by omega
        have H := H.2.2.2.2.2.2.2.2.2.2.2.2.2.2.2.2.2.2.2.2.2.2.2.1 (by omega)
        exact kw_forget (ls' := [some (kA (-2)), some (kA 0), some (kA 558), some (kI x3)]) ⟨Or.inr rfl, ⟨Or.inr rfl, ⟨Or.inr rfl, ⟨Or.inr rfl, trivial⟩⟩⟩⟩ H
      by_cases f23 : j = 23
      · subst f23
        have e5 : off = 938 := Option.some.inj (e3.symm.trans (by decide))
        obtain rfl : tgt = 971 := by omega
        have H := H.2.2.2.2.2.2.2.2.2.2.2.2.2.2.2.2.2.2.2.2.2.2.2.2.1 (by omega)
        exact kw_forget (ls' := [some (kA (-2)), some (kA 0), some (kA 558), some (kI x3)]) ⟨Or.inr rfl, ⟨Or.inr rfl, ⟨Or.inr rfl, ⟨Or.inr rfl, trivial⟩⟩⟩⟩ H
      by_cases f24 : j = 24
      · subst f24
        have e5 : off = 991 := Option.some.inj (e3.symm.trans (by decide))
        obtain rfl : tgt = 1024 := by omega
        have H := H.2.2.2.2.2.2.2.2.2.2.2.2.2.2.2.2.2.2.2.2.2.2.2.2.2.1 (by omega)
        exact kw_forget (ls' := [some (kA (-2)), some (kA 0), some (kA 558), some (kI x3)]) ⟨Or.inr rfl, ⟨Or.inr rfl, ⟨Or.inr rfl, ⟨Or.inr rfl, trivial⟩⟩⟩⟩ H
      by_cases f25 : j = 25
      · subst f25
        have e5 : off = 1024 := Option.some.inj (e3.symm.trans (by decide))
        obtain rfl : tgt = 1057 := by omega
        have H := H.2.2.2.2.2.2.2.2.2.2.2.2.2.2.2.2.2.2.2.2.2.2.2.2.2.2.1 (by omega)
        exact kw_forget (ls' := [some (kA (-2)), some (kA 0), some (kA 558), some (kI x3)]) ⟨Or.inr rfl, ⟨Or.inr rfl, ⟨Or.inr rfl, ⟨Or.inr rfl, trivial⟩⟩⟩⟩ H
      by_cases f26 : j = 26
      · subst f26
        have e5 : off = 1057 := Option.some.inj (e3.symm.trans (by decide))
        obtain rfl : tgt = 1090 := by omega
        have H := H.2.2.2.2.2.2.2.2.2.2.2.2.2.2.2.2.2.2.2.2.2.2.2.2.2.2.2.1 (by omega)
        exact kw_forget (ls' := [some (kA (-2)), some (kA 0), some (kA 558), some (kI x3)]) ⟨Or.inr rfl, ⟨Or.inr rfl, ⟨Or.inr rfl, ⟨Or.inr rfl, trivial⟩⟩⟩⟩ H
      by_cases f27 : j = 27
      · subst f27
        have e5 : off = 1080 := Option.some.inj (e3.symm.trans (by decide))
        obtain rfl : tgt = 1113 := by omega
        have H := H.2.2.2.2.2.2.2.2.2.2.2.2.2.2.2.2.2.2.2.2.2.2.2.2.2.2.2.2.1 (by omega)
        exact kw_forget (ls' := [some (kA (-2)), some (kA 0), some (kA 558), some (kI x3)]) ⟨Or.inr rfl, ⟨Or.inr rfl, ⟨Or.inr rfl, ⟨Or.inr rfl, trivial⟩⟩⟩⟩ H
      by_cases f28 : j = 28
      · subst f28
        have e5 : off = 1123 := Option.some.inj (e3.symm.trans (by decide))
        obtain rfl : tgt = 1156 := by omega
        have H := H.2.2.2.2.2.2.2.2.2.2.2.2.2.2.2.2.2.2.2.2.2.2.2.2.2.2.2.2.2.1 (by omega)
        exact kw_forget (ls' := [some (kA (-2)), some (kA 0), some (kA 558), some (kI x3)]) ⟨Or.inr rfl, ⟨Or.inr rfl, ⟨Or.inr rfl, ⟨Or.inr rfl, trivial⟩⟩⟩⟩ H
      by_cases f29 : j = 29
      · subst f29
        have e5 : off = 1177 := Option.some.inj (e3.symm.trans (by decide))
        obtain rfl : tgt = 1210 := by omega
        have H := H.2.2.2.2.2.2.2.2.2.2.2.2.2.2.2.2.2.2.2.2.2.2.2.2.2.2.2.2.2.2.1 (by omega)
        exact kw_forget (ls' := [some (kA (-2)), some (kA 0), some (kA 558), some (kI x3)]) ⟨Or.inr rfl, ⟨Or.inr rfl, ⟨Or.inr rfl, ⟨Or.inr rfl, trivial⟩⟩⟩⟩ H
      by_cases f30 : j = 30
      · subst f30
        have e5 : off = 1220 := Option.some.inj (e3.symm.trans (by decide))
        obtain rfl : tgt = 1253 := by omega
        have H := H.2.2.2.2.2.2.2.2.2.2.2.2.2.2.2.2.2.2.2.2.2.2.2.2.2.2.2.2.2.2.2.1 (by omega)
        exact kw_forget (ls' := [some (kA (-2)), some (kA 0), some (kA 558), some (kI x3)]) ⟨Or.inr rfl, ⟨Or.inr rfl, ⟨Or.inr rfl, ⟨Or.inr rfl, trivial⟩⟩⟩⟩ H
      by_cases f31 : j = 31
      · subst f31
        have e5 : off = 1263 := Option.some.inj (e3.symm.trans (by decide))
        obtain rfl : tgt = 1296 := by omega
        have H := H.2.2.2.2.2.2.2.2.2.2.2.2.2.2.2.2.2.2.2.2.2.2.2.2.2.2.2.2.2.2.2.2.1 (by omega)
        exact kw_forget (ls' := [some (kA (-2)), some (kA 0), some (kA 558), some (kI x3)]) ⟨Or.inr rfl, ⟨Or.inr rfl, ⟨Or.inr rfl, ⟨Or.inr rfl, trivial⟩⟩⟩⟩ H
      by_cases f32 : j = 32
      · subst f32
        have e5 : off = 1276 := Option.some.inj (e3.symm.trans (by decide))
        obtain rfl : tgt = 1309 := by omega
        have H := H.2.2.2.2.2.2.2.2.2.2.2.2.2.2.2.2.2.2.2.2.2.2.2.2.2.2.2.2.2.2.2.2.2.1 (by omega)
        exact kw_forget (ls' := [some (kA (-2)), some (kA 0), some (kA 558), some (kI x3)]) ⟨Or.inr rfl, ⟨Or.inr rfl, ⟨Or.inr rfl, ⟨Or.inr rfl, trivial⟩⟩⟩⟩ H
      by_cases f33 : j = 33
      · subst f33
        have e5 : off = 1299 := Option.some.inj (e3.symm.trans (by decide))
        obtain rfl : tgt = 1332 := by omega
        have H := H.2.2.2.2.2.2.2.2.2.2.2.2.2.2.2.2.2.2.2.2.2.2.2.2.2.2.2.2.2.2.2.2.2.2.1 (by omega)
        exact kw_forget (ls' := [some (kA (-2)), some (kA 0), some (kA 558), some (kI x3)]) ⟨Or.inr rfl, ⟨Or.inr rfl, ⟨Or.inr rfl, ⟨Or.inr rfl, trivial⟩⟩⟩⟩ H
      by_cases f34 : j = 34
      · subst f34
        have e5 : off = 1312 := Option.some.inj (e3.symm.trans (by decide))
        obtain rfl : tgt = 1345 := by omega
        have H := H.2.2.2.2.2.2.2.2.2.2.2.2.2.2.2.2.2.2.2.2.2.2.2.2.2.2.2.2.2.2.2.2.2.2.2.1 (by omega)
        exact kw_forget (ls' := [some (kA (-2)), some (kA 0), some (kA 558), some (kI x3)]) ⟨Or.inr rfl, ⟨Or.inr rfl, ⟨Or.inr rfl, ⟨Or.inr rfl, trivial⟩⟩⟩⟩ H
      by_cases f35 : j = 35
      · subst f35
        have e5 : off = 1325 := Option.some.inj (e3.symm.trans (by decide))
        obtain rfl : tgt = 1358 := by omega
        have H := H.2.2.2.2.2.2.2.2.2.2.2.2.2.2.2.2.2.2.2.2.2.2.2.2.2.2.2.2.2.2.2.2.2.2.2.2.1 (by omega)
        exact kw_forget (ls' := [some (kA (-2)), some (kA 0), some (kA 558), some (kI x3)]) ⟨Or.inr rfl, ⟨Or.inr rfl, ⟨Or.inr rfl, ⟨Or.inr rfl, trivial⟩⟩⟩⟩ H
      by_cases f36 : j = 36
      · subst f36
        have e5 : off = 1348 := Option.some.inj (e3.symm.trans (by decide))
        obtain rfl : tgt = 1381 := by omega
        have H := H.2.2.2.2.2.2.2.2.2.2.2.2.2.2.2.2.2.2.2.2.2.2.2.2.2.2.2.2.2.2.2.2.2.2.2.2.2 (by omega)
        exact kw_forget (ls' := [some (kA (-2)), some (kA 0), some (kA 558), some (kI x3)]) ⟨Or.inr rfl, ⟨Or.inr rfl, ⟨Or.inr rfl, ⟨Or.inr rfl, trivial⟩⟩⟩⟩ H
      omega
set_option maxRecDepth 4000 in
theorem v_L_law_1404 {nm : String} {G : KG} {S0 : KSh} (hL : kLay S0) {d : Nat} {P : Option AV → KMem → Prop} {c : KMem} {x3 : Int} (r3 : 0 ≤ x3 ∧ x3 < 2147483648) (hLn : kLn G < 2147483648) (hp : 0 ≤ x3 ∧ x3 + 6 ≤ (kLn G : Int)) (H : kW2 G S0 (kM_LW nm) (d + 60) 18 [some (kA (-2)), some (kA 0), some (kA 558), some (kI (x3 + 6))] [] c P) : kW2 G S0 (kM_LW nm) (d + 60) 1404 [some (kA (-2)), some (kA 0), some (kA 558), some (kI x3)] [] c P := by
  refine kw_iinc dL_law_1404 rfl ?_
  refine kw_goto 18 dL_law_1407 (by decide) ?_
  exact kw_forget (ls' := [some (kA (-2)), some (kA 0), some (kA 558), some (kI (x3 + 6))]) ⟨Or.inr rfl, ⟨Or.inr rfl, ⟨Or.inr rfl, ⟨Or.inr rfl, trivial⟩⟩⟩⟩ H
set_option maxRecDepth 4000 in
theorem v_L_law_196 {nm : String} {G : KG} {S0 : KSh} (hL : kLay S0) {d : Nat} {P : Option AV → KMem → Prop} {c : KMem} {x3 : Int} (r3 : 0 ≤ x3 ∧ x3 < 2147483648) (hLn : kLn G < 2147483648) (hp : 0 ≤ x3 ∧ x3 + 6 ≤ (kLn G : Int)) (H : kC2 G S0 kM_X10_feed (d + 59) [kA 0, kI ((kxs G (Int.toNat (x3 + 1))).toInt), kI ((kxs G (Int.toNat (x3 + 2))).toInt), kI ((kxs G (Int.toNat (x3 + 3))).toInt), kI ((kxs G (Int.toNat (x3 + 4))).toInt), kI ((kxs G (Int.toNat (x3 + 5))).toInt)] c (kRI (fun z3 c4 => kC2 G S0 kM_X11_feed (d + 59) [kA 558, kI ((kxs G (Int.toNat (x3 + 1))).toInt), kI ((kxs G (Int.toNat (x3 + 2))).toInt), kI ((kxs G (Int.toNat (x3 + 3))).toInt), kI ((kxs G (Int.toNat (x3 + 4))).toInt), kI ((kxs G (Int.toNat (x3 + 5))).toInt)] c4 (kRI (fun z5 c6 => (z5 = z3) ∧ (kW2 G S0 (kM_LW nm) (d + 60) 1404 [some (kA (-2)), some (kA 0), some (kA 558), some (kI x3)] [] c6 P)))))) : kW2 G S0 (kM_LW nm) (d + 60) 196 [some (kA (-2)), some (kA 0), some (kA 558), some (kI x3)] [] c P := by
  refine kw_aload_n dL_law_196 rfl ?_
  refine kw_aload_n dL_law_197 rfl ?_
  refine kw_iload_n dL_law_198 rfl ?_
  refine kw_iconst dL_law_199 ?_
  refine kw_iadd dL_law_200 ?_
  refine kw_scr dL_law_201 hLn (by omega) ?_
  refine kw_aload_n dL_law_202 rfl ?_
  refine kw_iload_n dL_law_203 rfl ?_
  refine kw_iconst dL_law_204 ?_
  refine kw_iadd dL_law_205 ?_
  refine kw_scr dL_law_206 hLn (by omega) ?_
  refine kw_aload_n dL_law_207 rfl ?_
  refine kw_iload_n dL_law_208 rfl ?_
  refine kw_iconst dL_law_209 ?_
  refine kw_iadd dL_law_210 ?_
  refine kw_scr dL_law_211 hLn (by omega) ?_
  refine kw_aload_n dL_law_212 rfl ?_
  refine kw_iload_n dL_law_213 rfl ?_
  refine kw_iconst dL_law_214 ?_
  refine kw_iadd dL_law_215 ?_
  refine kw_scr dL_law_216 hLn (by omega) ?_
  refine kw_aload_n dL_law_217 rfl ?_
  refine kw_iload_n dL_law_218 rfl ?_
  refine kw_iconst dL_law_219 ?_
  refine kw_iadd dL_law_220 ?_
  refine kw_scr dL_law_221 hLn (by omega) ?_
  refine k2_callV5I (ci := 8) (N := 20) (T := TX10) rfl (lsh_0 hL) m_X10_feed dL_law_222 wl_L_13 (Nat.le_of_ble_eq_true rfl) (kC2_mono H (fun r c4 H => ?_))
  obtain ⟨z3, rfl, H⟩ := H
  refine ⟨z3, rfl, ?_⟩
  refine kw_aload_n dL_law_225 rfl ?_
  refine kw_aload_n dL_law_226 rfl ?_
  refine kw_iload_n dL_law_227 rfl ?_
  refine kw_iconst dL_law_228 ?_
  refine kw_iadd dL_law_229 ?_
  refine kw_scr dL_law_230 hLn (by omega) ?_
  refine kw_aload_n dL_law_231 rfl ?_
  refine kw_iload_n dL_law_232 rfl ?_
  refine kw_iconst dL_law_233 ?_
  refine kw_iadd dL_law_234 ?_
  refine kw_scr dL_law_235 hLn (by omega) ?_
  refine kw_aload_n dL_law_236 rfl ?_
  refine kw_iload_n dL_law_237 rfl ?_
  refine kw_iconst dL_law_238 ?_
  refine kw_iadd dL_law_239 ?_
  refine kw_scr dL_law_240 hLn (by omega) ?_
  refine kw_aload_n dL_law_241 rfl ?_
  refine kw_iload_n dL_law_242 rfl ?_
  refine kw_iconst dL_law_243 ?_
  refine kw_iadd dL_law_244 ?_
  refine kw_scr dL_law_245 hLn (by omega) ?_
  refine kw_aload_n dL_law_246 rfl ?_
  refine kw_iload_n dL_law_247 rfl ?_
  refine kw_iconst dL_law_248 ?_
  refine kw_iadd dL_law_249 ?_
  refine kw_scr dL_law_250 hLn (by omega) ?_
  refine k2_callV5I (ci := 9) (N := 38) (T := TX11) rfl (lsh_558 hL) m_X11_feed dL_law_251 wl_L_17 (Nat.le_of_ble_eq_true rfl) (kC2_mono H (fun r c6 H => ?_))
  obtain ⟨z5, rfl, H⟩ := H
  refine ⟨z5, rfl, ?_⟩
  have o7 := H.1
  have H := H.2
  refine kw_icmp_eqr 1404 dL_law_254 (by decide) o7 ?_
  exact kw_forget (ls' := [some (kA (-2)), some (kA 0), some (kA 558), some (kI x3)]) ⟨Or.inr rfl, ⟨Or.inr rfl, ⟨Or.inr rfl, ⟨Or.inr rfl, trivial⟩⟩⟩⟩ H
set_option maxRecDepth 4000 in
theorem v_L_law_259 {nm : String} {G : KG} {S0 : KSh} (hL : kLay S0) {d : Nat} {P : Option AV → KMem → Prop} {c : KMem} {x3 : Int} (r3 : 0 ≤ x3 ∧ x3 < 2147483648) (hLn : kLn G < 2147483648) (hp : 0 ≤ x3 ∧ x3 + 6 ≤ (kLn G : Int)) (H : kC2 G S0 kM_X10_work (d + 59) [kA 0, kI ((kxs G (Int.toNat (x3 + 1))).toInt)] c (kRI (fun z8 c9 => kC2 G S0 kM_X11_work (d + 59) [kA 558, kI ((kxs G (Int.toNat (x3 + 1))).toInt)] c9 (kRI (fun z10 c11 => (z10 = z8) ∧ (kW2 G S0 (kM_LW nm) (d + 60) 1404 [some (kA (-2)), some (kA 0), some (kA 558), some (kI x3)] [] c11 P)))))) : kW2 G S0 (kM_LW nm) (d + 60) 259 [some (kA (-2)), some (kA 0), some (kA 558), some (kI x3)] [] c P := by
  refine kw_aload_n dL_law_259 rfl ?_
  refine kw_aload_n dL_law_260 rfl ?_
  refine kw_iload_n dL_law_261 rfl ?_
  refine kw_iconst dL_law_262 ?_
  refine kw_iadd dL_law_263 ?_
  refine kw_scr dL_law_264 hLn (by omega) ?_
  refine k2_callV1I (ci := 8) (N := 20) (T := TX10) rfl (lsh_0 hL) m_X10_work dL_law_265 wl_L_18 (Nat.le_of_ble_eq_true rfl) (kC2_mono H (fun r c9 H => ?_))
  obtain ⟨z8, rfl, H⟩ := H
  refine ⟨z8, rfl, ?_⟩
  refine kw_aload_n dL_law_268 rfl ?_
  refine kw_aload_n dL_law_269 rfl ?_
  refine kw_iload_n dL_law_270 rfl ?_
  refine kw_iconst dL_law_271 ?_
  refine kw_iadd dL_law_272 ?_
  refine kw_scr dL_law_273 hLn (by omega) ?_
  refine k2_callV1I (ci := 9) (N := 38) (T := TX11) rfl (lsh_558 hL) m_X11_work dL_law_274 wl_L_22 (Nat.le_of_ble_eq_true rfl) (kC2_mono H (fun r c11 H => ?_))
  obtain ⟨z10, rfl, H⟩ := H
  refine ⟨z10, rfl, ?_⟩
  have o12 := H.1
  have H := H.2
  refine kw_icmp_eqr 1404 dL_law_277 (by decide) o12 ?_
  exact kw_forget (ls' := [some (kA (-2)), some (kA 0), some (kA 558), some (kI x3)]) ⟨Or.inr rfl, ⟨Or.inr rfl, ⟨Or.inr rfl, ⟨Or.inr rfl, trivial⟩⟩⟩⟩ H
set_option maxRecDepth 4000 in
theorem v_L_law_282 {nm : String} {G : KG} {S0 : KSh} (hL : kLay S0) {d : Nat} {P : Option AV → KMem → Prop} {c : KMem} {x3 : Int} (r3 : 0 ≤ x3 ∧ x3 < 2147483648) (hLn : kLn G < 2147483648) (hp : 0 ≤ x3 ∧ x3 + 6 ≤ (kLn G : Int)) (H : kC2 G S0 kM_X10_drop (d + 59) [kA 0, kI ((kxs G (Int.toNat (x3 + 1))).toInt)] c (kRI (fun z13 c14 => kC2 G S0 kM_X11_drop (d + 59) [kA 558, kI ((kxs G (Int.toNat (x3 + 1))).toInt)] c14 (kRI (fun z15 c16 => (z15 = z13) ∧ (kW2 G S0 (kM_LW nm) (d + 60) 1404 [some (kA (-2)), some (kA 0), some (kA 558), some (kI x3)] [] c16 P)))))) : kW2 G S0 (kM_LW nm) (d + 60) 282 [some (kA (-2)), some (kA 0), some (kA 558), some (kI x3)] [] c P := by
  refine kw_aload_n dL_law_282 rfl ?_
  refine kw_aload_n dL_law_283 rfl ?_
  refine kw_iload_n dL_law_284 rfl ?_
  refine kw_iconst dL_law_285 ?_
  refine kw_iadd dL_law_286 ?_
  refine kw_scr dL_law_287 hLn (by omega) ?_
  refine k2_callV1I (ci := 8) (N := 20) (T := TX10) rfl (lsh_0 hL) m_X10_drop dL_law_288 wl_L_23 (Nat.le_of_ble_eq_true rfl) (kC2_mono H (fun r c14 H => ?_))
  obtain ⟨z13, rfl, H⟩ := H
  refine ⟨z13, rfl, ?_⟩
  refine kw_aload_n dL_law_291 rfl ?_
  refine kw_aload_n dL_law_292 rfl ?_
  refine kw_iload_n dL_law_293 rfl ?_
  refine kw_iconst dL_law_294 ?_
  refine kw_iadd dL_law_295 ?_
  refine kw_scr dL_law_296 hLn (by omega) ?_
  refine k2_callV1I (ci := 9) (N := 38) (T := TX11) rfl (lsh_558 hL) m_X11_drop dL_law_297 wl_L_27 (Nat.le_of_ble_eq_true rfl) (kC2_mono H (fun r c16 H => ?_))
  obtain ⟨z15, rfl, H⟩ := H
  refine ⟨z15, rfl, ?_⟩
  have o17 := H.1
  have H := H.2
  refine kw_icmp_eqr 1404 dL_law_300 (by decide) o17 ?_
  exact kw_forget (ls' := [some (kA (-2)), some (kA 0), some (kA 558), some (kI x3)]) ⟨Or.inr rfl, ⟨Or.inr rfl, ⟨Or.inr rfl, ⟨Or.inr rfl, trivial⟩⟩⟩⟩ H
set_option maxRecDepth 4000 in
theorem v_L_law_305 {nm : String} {G : KG} {S0 : KSh} (hL : kLay S0) {d : Nat} {P : Option AV → KMem → Prop} {c : KMem} {x3 : Int} (r3 : 0 ≤ x3 ∧ x3 < 2147483648) (hLn : kLn G < 2147483648) (hp : 0 ≤ x3 ∧ x3 + 6 ≤ (kLn G : Int)) (H : kC2 G S0 kM_X10_draws (d + 59) [kA 0, kI ((kxs G (Int.toNat (x3 + 1))).toInt)] c (kRI (fun z18 c19 => kC2 G S0 kM_X11_draws (d + 59) [kA 558, kI ((kxs G (Int.toNat (x3 + 1))).toInt)] c19 (kRI (fun z20 c21 => (z20 = z18) ∧ (kW2 G S0 (kM_LW nm) (d + 60) 1404 [some (kA (-2)), some (kA 0), some (kA 558), some (kI x3)] [] c21 P)))))) : kW2 G S0 (kM_LW nm) (d + 60) 305 [some (kA (-2)), some (kA 0), some (kA 558), some (kI x3)] [] c P := by
  refine kw_aload_n dL_law_305 rfl ?_
  refine kw_aload_n dL_law_306 rfl ?_
  refine kw_iload_n dL_law_307 rfl ?_
  refine kw_iconst dL_law_308 ?_
  refine kw_iadd dL_law_309 ?_
  refine kw_scr dL_law_310 hLn (by omega) ?_
  refine k2_callV1I (ci := 8) (N := 20) (T := TX10) rfl (lsh_0 hL) m_X10_draws dL_law_311 wl_L_28 (Nat.le_of_ble_eq_true rfl) (kC2_mono H (fun r c19 H => ?_))
  obtain ⟨z18, rfl, H⟩ := H
  refine ⟨z18, rfl, ?_⟩
  refine kw_aload_n dL_law_314 rfl ?_
  refine kw_aload_n dL_law_315 rfl ?_
  refine kw_iload_n dL_law_316 rfl ?_
  refine kw_iconst dL_law_317 ?_
  refine kw_iadd dL_law_318 ?_
  refine kw_scr dL_law_319 hLn (by omega) ?_
  refine k2_callV1I (ci := 9) (N := 38) (T := TX11) rfl (lsh_558 hL) m_X11_draws dL_law_320 wl_L_31 (Nat.le_of_ble_eq_true rfl) (kC2_mono H (fun r c21 H => ?_))
  obtain ⟨z20, rfl, H⟩ := H
  refine ⟨z20, rfl, ?_⟩
  have o22 := H.1
  have H := H.2
  refine kw_icmp_eqr 1404 dL_law_323 (by decide) o22 ?_
  exact kw_forget (ls' := [some (kA (-2)), some (kA 0), some (kA 558), some (kI x3)]) ⟨Or.inr rfl, ⟨Or.inr rfl, ⟨Or.inr rfl, ⟨Or.inr rfl, trivial⟩⟩⟩⟩ H
set_option maxRecDepth 4000 in
theorem v_L_law_328 {nm : String} {G : KG} {S0 : KSh} (hL : kLay S0) {d : Nat} {P : Option AV → KMem → Prop} {c : KMem} {x3 : Int} (r3 : 0 ≤ x3 ∧ x3 < 2147483648) (hLn : kLn G < 2147483648) (hp : 0 ≤ x3 ∧ x3 + 6 ≤ (kLn G : Int)) (H : kC2 G S0 kM_X10_part (d + 59) [kA 0, kI ((kxs G (Int.toNat (x3 + 1))).toInt), kI ((kxs G (Int.toNat (x3 + 2))).toInt)] c (kRI (fun z23 c24 => kC2 G S0 kM_X11_part (d + 59) [kA 558, kI ((kxs G (Int.toNat (x3 + 1))).toInt), kI ((kxs G (Int.toNat (x3 + 2))).toInt)] c24 (kRI (fun z25 c26 => (z25 = z23) ∧ (kW2 G S0 (kM_LW nm) (d + 60) 1404 [some (kA (-2)), some (kA 0), some (kA 558), some (kI x3)] [] c26 P)))))) : kW2 G S0 (kM_LW nm) (d + 60) 328 [some (kA (-2)), some (kA 0), some (kA 558), some (kI x3)] [] c P := by
  refine kw_aload_n dL_law_328 rfl ?_
  refine kw_aload_n dL_law_329 rfl ?_
  refine kw_iload_n dL_law_330 rfl ?_
  refine kw_iconst dL_law_331 ?_
  refine kw_iadd dL_law_332 ?_
  refine kw_scr dL_law_333 hLn (by omega) ?_
  refine kw_aload_n dL_law_334 rfl ?_
  refine kw_iload_n dL_law_335 rfl ?_
  refine kw_iconst dL_law_336 ?_
  refine kw_iadd dL_law_337 ?_
  refine kw_scr dL_law_338 hLn (by omega) ?_
  refine k2_callV2I (ci := 8) (N := 20) (T := TX10) rfl (lsh_0 hL) m_X10_part dL_law_339 wl_L_32 (Nat.le_of_ble_eq_true rfl) (kC2_mono H (fun r c24 H => ?_))
  obtain ⟨z23, rfl, H⟩ := H
  refine ⟨z23, rfl, ?_⟩
  refine kw_aload_n dL_law_342 rfl ?_
  refine kw_aload_n dL_law_343 rfl ?_
  refine kw_iload_n dL_law_344 rfl ?_
  refine kw_iconst dL_law_345 ?_
  refine kw_iadd dL_law_346 ?_
  refine kw_scr dL_law_347 hLn (by omega) ?_
  refine kw_aload_n dL_law_348 rfl ?_
  refine kw_iload_n dL_law_349 rfl ?_
  refine kw_iconst dL_law_350 ?_
  refine kw_iadd dL_law_351 ?_
  refine kw_scr dL_law_352 hLn (by omega) ?_
  refine k2_callV2I (ci := 9) (N := 38) (T := TX11) rfl (lsh_558 hL) m_X11_part dL_law_353 wl_L_36 (Nat.le_of_ble_eq_true rfl) (kC2_mono H (fun r c26 H => ?_))
  obtain ⟨z25, rfl, H⟩ := H
  refine ⟨z25, rfl, ?_⟩
  have o27 := H.1
  have H := H.2
  refine kw_icmp_eqr 1404 dL_law_356 (by decide) o27 ?_
  exact kw_forget (ls' := [some (kA (-2)), some (kA 0), some (kA 558), some (kI x3)]) ⟨Or.inr rfl, ⟨Or.inr rfl, ⟨Or.inr rfl, ⟨Or.inr rfl, trivial⟩⟩⟩⟩ H
set_option maxRecDepth 4000 in
theorem v_L_law_361 {nm : String} {G : KG} {S0 : KSh} (hL : kLay S0) {d : Nat} {P : Option AV → KMem → Prop} {c : KMem} {x3 : Int} (r3 : 0 ≤ x3 ∧ x3 < 2147483648) (hLn : kLn G < 2147483648) (hp : 0 ≤ x3 ∧ x3 + 6 ≤ (kLn G : Int)) (H : kC2 G S0 kM_X10_letters (d + 59) [kA 0, kI ((kxs G (Int.toNat (x3 + 1))).toInt)] c (kRI (fun z28 c29 => kC2 G S0 kM_X11_letters (d + 59) [kA 558, kI ((kxs G (Int.toNat (x3 + 1))).toInt)] c29 (kRI (fun z30 c31 => (z30 = z28) ∧ (kW2 G S0 (kM_LW nm) (d + 60) 1404 [some (kA (-2)), some (kA 0), some (kA 558), some (kI x3)] [] c31 P)))))) : kW2 G S0 (kM_LW nm) (d + 60) 361 [some (kA (-2)), some (kA 0), some (kA 558), some (kI x3)] [] c P := by
  refine kw_aload_n dL_law_361 rfl ?_
  refine kw_aload_n dL_law_362 rfl ?_
  refine kw_iload_n dL_law_363 rfl ?_
  refine kw_iconst dL_law_364 ?_
  refine kw_iadd dL_law_365 ?_
  refine kw_scr dL_law_366 hLn (by omega) ?_
  refine k2_callV1I (ci := 8) (N := 20) (T := TX10) rfl (lsh_0 hL) m_X10_letters dL_law_367 wl_L_37 (Nat.le_of_ble_eq_true rfl) (kC2_mono H (fun r c29 H => ?_))
  obtain ⟨z28, rfl, H⟩ := H
  refine ⟨z28, rfl, ?_⟩
  refine kw_aload_n dL_law_370 rfl ?_
  refine kw_aload_n dL_law_371 rfl ?_
  refine kw_iload_n dL_law_372 rfl ?_
  refine kw_iconst dL_law_373 ?_
  refine kw_iadd dL_law_374 ?_
  refine kw_scr dL_law_375 hLn (by omega) ?_
  refine k2_callV1I (ci := 9) (N := 38) (T := TX11) rfl (lsh_558 hL) m_X11_letters dL_law_376 wl_L_40 (Nat.le_of_ble_eq_true rfl) (kC2_mono H (fun r c31 H => ?_))
  obtain ⟨z30, rfl, H⟩ := H
  refine ⟨z30, rfl, ?_⟩
  have o32 := H.1
  have H := H.2
  refine kw_icmp_eqr 1404 dL_law_379 (by decide) o32 ?_
  exact kw_forget (ls' := [some (kA (-2)), some (kA 0), some (kA 558), some (kI x3)]) ⟨Or.inr rfl, ⟨Or.inr rfl, ⟨Or.inr rfl, ⟨Or.inr rfl, trivial⟩⟩⟩⟩ H
set_option maxRecDepth 4000 in
theorem v_L_law_384 {nm : String} {G : KG} {S0 : KSh} (hL : kLay S0) {d : Nat} {P : Option AV → KMem → Prop} {c : KMem} {x3 : Int} (r3 : 0 ≤ x3 ∧ x3 < 2147483648) (hLn : kLn G < 2147483648) (hp : 0 ≤ x3 ∧ x3 + 6 ≤ (kLn G : Int)) (H : kC2 G S0 kM_X10_formIs (d + 59) [kA 0, kI ((kxs G (Int.toNat (x3 + 1))).toInt), kI ((kxs G (Int.toNat (x3 + 2))).toInt)] c (kRI (fun z33 c34 => kC2 G S0 kM_X11_formIs (d + 59) [kA 558, kI ((kxs G (Int.toNat (x3 + 1))).toInt), kI ((kxs G (Int.toNat (x3 + 2))).toInt)] c34 (kRI (fun z35 c36 => (z35 = z33) ∧ (kW2 G S0 (kM_LW nm) (d + 60) 1404 [some (kA (-2)), some (kA 0), some (kA 558), some (kI x3)] [] c36 P)))))) : kW2 G S0 (kM_LW nm) (d + 60) 384 [some (kA (-2)), some (kA 0), some (kA 558), some (kI x3)] [] c P := by
  refine kw_aload_n dL_law_384 rfl ?_
  refine kw_aload_n dL_law_385 rfl ?_
  refine kw_iload_n dL_law_386 rfl ?_
  refine kw_iconst dL_law_387 ?_
  refine kw_iadd dL_law_388 ?_
  refine kw_scr dL_law_389 hLn (by omega) ?_
  refine kw_aload_n dL_law_390 rfl ?_
  refine kw_iload_n dL_law_391 rfl ?_
  refine kw_iconst dL_law_392 ?_
  refine kw_iadd dL_law_393 ?_
  refine kw_scr dL_law_394 hLn (by omega) ?_
  refine k2_callV2I (ci := 8) (N := 20) (T := TX10) rfl (lsh_0 hL) m_X10_formIs dL_law_395 wl_L_41 (Nat.le_of_ble_eq_true rfl) (kC2_mono H (fun r c34 H => ?_))
  obtain ⟨z33, rfl, H⟩ := H
  refine ⟨z33, rfl, ?_⟩
  refine kw_aload_n dL_law_398 rfl ?_
  refine kw_aload_n dL_law_399 rfl ?_
  refine kw_iload_n dL_law_400 rfl ?_
  refine kw_iconst dL_law_401 ?_
  refine kw_iadd dL_law_402 ?_
  refine kw_scr dL_law_403 hLn (by omega) ?_
  refine kw_aload_n dL_law_404 rfl ?_
  refine kw_iload_n dL_law_405 rfl ?_
  refine kw_iconst dL_law_406 ?_
  refine kw_iadd dL_law_407 ?_
  refine kw_scr dL_law_408 hLn (by omega) ?_
  refine k2_callV2I (ci := 9) (N := 38) (T := TX11) rfl (lsh_558 hL) m_X11_formIs dL_law_409 wl_L_44 (Nat.le_of_ble_eq_true rfl) (kC2_mono H (fun r c36 H => ?_))
  obtain ⟨z35, rfl, H⟩ := H
  refine ⟨z35, rfl, ?_⟩
  have o37 := H.1
  have H := H.2
  refine kw_icmp_eqr 1404 dL_law_412 (by decide) o37 ?_
  exact kw_forget (ls' := [some (kA (-2)), some (kA 0), some (kA 558), some (kI x3)]) ⟨Or.inr rfl, ⟨Or.inr rfl, ⟨Or.inr rfl, ⟨Or.inr rfl, trivial⟩⟩⟩⟩ H
set_option maxRecDepth 4000 in
theorem v_L_law_417 {nm : String} {G : KG} {S0 : KSh} (hL : kLay S0) {d : Nat} {P : Option AV → KMem → Prop} {c : KMem} {x3 : Int} (r3 : 0 ≤ x3 ∧ x3 < 2147483648) (hLn : kLn G < 2147483648) (hp : 0 ≤ x3 ∧ x3 + 6 ≤ (kLn G : Int)) (H : kC2 G S0 kM_X10_middle (d + 59) [kA 0, kI ((kxs G (Int.toNat (x3 + 1))).toInt), kI ((kxs G (Int.toNat (x3 + 2))).toInt)] c (kRL (fun z38 c39 => kC2 G S0 kM_X11_middle (d + 59) [kA 558, kI ((kxs G (Int.toNat (x3 + 1))).toInt), kI ((kxs G (Int.toNat (x3 + 2))).toInt)] c39 (kRL (fun z40 c41 => (z40 = z38) ∧ (kW2 G S0 (kM_LW nm) (d + 60) 1404 [some (kA (-2)), some (kA 0), some (kA 558), some (kI x3)] [] c41 P)))))) : kW2 G S0 (kM_LW nm) (d + 60) 417 [some (kA (-2)), some (kA 0), some (kA 558), some (kI x3)] [] c P := by
  refine kw_aload_n dL_law_417 rfl ?_
  refine kw_aload_n dL_law_418 rfl ?_
  refine kw_iload_n dL_law_419 rfl ?_
  refine kw_iconst dL_law_420 ?_
  refine kw_iadd dL_law_421 ?_
  refine kw_scr dL_law_422 hLn (by omega) ?_
  refine kw_aload_n dL_law_423 rfl ?_
  refine kw_iload_n dL_law_424 rfl ?_
  refine kw_iconst dL_law_425 ?_
  refine kw_iadd dL_law_426 ?_
  refine kw_scr dL_law_427 hLn (by omega) ?_
  refine k2_callV2L (ci := 8) (N := 20) (T := TX10) rfl (lsh_0 hL) m_X10_middle dL_law_428 wl_L_45 (Nat.le_of_ble_eq_true rfl) (kC2_mono H (fun r c39 H => ?_))
  obtain ⟨z38, rfl, H⟩ := H
  refine ⟨z38, rfl, ?_⟩
  refine kw_aload_n dL_law_431 rfl ?_
  refine kw_aload_n dL_law_432 rfl ?_
  refine kw_iload_n dL_law_433 rfl ?_
  refine kw_iconst dL_law_434 ?_
  refine kw_iadd dL_law_435 ?_
  refine kw_scr dL_law_436 hLn (by omega) ?_
  refine kw_aload_n dL_law_437 rfl ?_
  refine kw_iload_n dL_law_438 rfl ?_
  refine kw_iconst dL_law_439 ?_
  refine kw_iadd dL_law_440 ?_
  refine kw_scr dL_law_441 hLn (by omega) ?_
  refine k2_callV2L (ci := 9) (N := 38) (T := TX11) rfl (lsh_558 hL) m_X11_middle dL_law_442 wl_L_49 (Nat.le_of_ble_eq_true rfl) (kC2_mono H (fun r c41 H => ?_))
  obtain ⟨z40, rfl, H⟩ := H
  refine ⟨z40, rfl, ?_⟩
  have o42 := H.1
  have H := H.2
  refine kw_lcmp_eqr 1404 dL_law_445 dL_law_446 (by decide) o42 ?_
  exact kw_forget (ls' := [some (kA (-2)), some (kA 0), some (kA 558), some (kI x3)]) ⟨Or.inr rfl, ⟨Or.inr rfl, ⟨Or.inr rfl, ⟨Or.inr rfl, trivial⟩⟩⟩⟩ H
set_option maxRecDepth 4000 in
theorem v_L_law_451 {nm : String} {G : KG} {S0 : KSh} (hL : kLay S0) {d : Nat} {P : Option AV → KMem → Prop} {c : KMem} {x3 : Int} (r3 : 0 ≤ x3 ∧ x3 < 2147483648) (hLn : kLn G < 2147483648) (hp : 0 ≤ x3 ∧ x3 + 6 ≤ (kLn G : Int)) (H : kC2 G S0 kM_X10_line (d + 59) [kA 0, kI ((kxs G (Int.toNat (x3 + 1))).toInt), kI ((kxs G (Int.toNat (x3 + 2))).toInt)] c (kRI (fun z43 c44 => kC2 G S0 kM_X11_line (d + 59) [kA 558, kI ((kxs G (Int.toNat (x3 + 1))).toInt), kI ((kxs G (Int.toNat (x3 + 2))).toInt)] c44 (kRI (fun z45 c46 => (z45 = z43) ∧ (kW2 G S0 (kM_LW nm) (d + 60) 1404 [some (kA (-2)), some (kA 0), some (kA 558), some (kI x3)] [] c46 P)))))) : kW2 G S0 (kM_LW nm) (d + 60) 451 [some (kA (-2)), some (kA 0), some (kA 558), some (kI x3)] [] c P := by
  refine kw_aload_n dL_law_451 rfl ?_
  refine kw_aload_n dL_law_452 rfl ?_
  refine kw_iload_n dL_law_453 rfl ?_
  refine kw_iconst dL_law_454 ?_
  refine kw_iadd dL_law_455 ?_
  refine kw_scr dL_law_456 hLn (by omega) ?_
  refine kw_aload_n dL_law_457 rfl ?_
  refine kw_iload_n dL_law_458 rfl ?_
  refine kw_iconst dL_law_459 ?_
  refine kw_iadd dL_law_460 ?_
  refine kw_scr dL_law_461 hLn (by omega) ?_
  refine k2_callV2I (ci := 8) (N := 20) (T := TX10) rfl (lsh_0 hL) m_X10_line dL_law_462 wl_L_50 (Nat.le_of_ble_eq_true rfl) (kC2_mono H (fun r c44 H => ?_))
  obtain ⟨z43, rfl, H⟩ := H
  refine ⟨z43, rfl, ?_⟩
  refine kw_aload_n dL_law_465 rfl ?_
  refine kw_aload_n dL_law_466 rfl ?_
  refine kw_iload_n dL_law_467 rfl ?_
  refine kw_iconst dL_law_468 ?_
  refine kw_iadd dL_law_469 ?_
  refine kw_scr dL_law_470 hLn (by omega) ?_
  refine kw_aload_n dL_law_471 rfl ?_
  refine kw_iload_n dL_law_472 rfl ?_
  refine kw_iconst dL_law_473 ?_
  refine kw_iadd dL_law_474 ?_
  refine kw_scr dL_law_475 hLn (by omega) ?_
  refine k2_callV2I (ci := 9) (N := 38) (T := TX11) rfl (lsh_558 hL) m_X11_line dL_law_476 wl_L_53 (Nat.le_of_ble_eq_true rfl) (kC2_mono H (fun r c46 H => ?_))
  obtain ⟨z45, rfl, H⟩ := H
  refine ⟨z45, rfl, ?_⟩
  have o47 := H.1
  have H := H.2
  refine kw_icmp_eqr 1404 dL_law_479 (by decide) o47 ?_
  exact kw_forget (ls' := [some (kA (-2)), some (kA 0), some (kA 558), some (kI x3)]) ⟨Or.inr rfl, ⟨Or.inr rfl, ⟨Or.inr rfl, ⟨Or.inr rfl, trivial⟩⟩⟩⟩ H
set_option maxRecDepth 4000 in
theorem v_L_law_484 {nm : String} {G : KG} {S0 : KSh} (hL : kLay S0) {d : Nat} {P : Option AV → KMem → Prop} {c : KMem} {x3 : Int} (r3 : 0 ≤ x3 ∧ x3 < 2147483648) (hLn : kLn G < 2147483648) (hp : 0 ≤ x3 ∧ x3 + 6 ≤ (kLn G : Int)) (H : kC2 G S0 kM_X10_on (d + 59) [kA 0, kI ((kxs G (Int.toNat (x3 + 1))).toInt), kI ((kxs G (Int.toNat (x3 + 2))).toInt), kI ((kxs G (Int.toNat (x3 + 3))).toInt)] c (kRI (fun z48 c49 => kC2 G S0 kM_X11_on (d + 59) [kA 558, kI ((kxs G (Int.toNat (x3 + 1))).toInt), kI ((kxs G (Int.toNat (x3 + 2))).toInt), kI ((kxs G (Int.toNat (x3 + 3))).toInt)] c49 (kRI (fun z50 c51 => (z50 = z48) ∧ (kW2 G S0 (kM_LW nm) (d + 60) 1404 [some (kA (-2)), some (kA 0), some (kA 558), some (kI x3)] [] c51 P)))))) : kW2 G S0 (kM_LW nm) (d + 60) 484 [some (kA (-2)), some (kA 0), some (kA 558), some (kI x3)] [] c P := by
  refine kw_aload_n dL_law_484 rfl ?_
  refine kw_aload_n dL_law_485 rfl ?_
  refine kw_iload_n dL_law_486 rfl ?_
  refine kw_iconst dL_law_487 ?_
  refine kw_iadd dL_law_488 ?_
  refine kw_scr dL_law_489 hLn (by omega) ?_
  refine kw_aload_n dL_law_490 rfl ?_
  refine kw_iload_n dL_law_491 rfl ?_
  refine kw_iconst dL_law_492 ?_
  refine kw_iadd dL_law_493 ?_
  refine kw_scr dL_law_494 hLn (by omega) ?_
  refine kw_aload_n dL_law_495 rfl ?_
  refine kw_iload_n dL_law_496 rfl ?_
  refine kw_iconst dL_law_497 ?_
  refine kw_iadd dL_law_498 ?_
  refine kw_scr dL_law_499 hLn (by omega) ?_
  refine k2_callV3I (ci := 8) (N := 20) (T := TX10) rfl (lsh_0 hL) m_X10_on dL_law_500 wl_L_54 (Nat.le_of_ble_eq_true rfl) (kC2_mono H (fun r c49 H => ?_))
  obtain ⟨z48, rfl, H⟩ := H
  refine ⟨z48, rfl, ?_⟩
  refine kw_aload_n dL_law_503 rfl ?_
  refine kw_aload_n dL_law_504 rfl ?_
  refine kw_iload_n dL_law_505 rfl ?_
  refine kw_iconst dL_law_506 ?_
  refine kw_iadd dL_law_507 ?_
  refine kw_scr dL_law_508 hLn (by omega) ?_
  refine kw_aload_n dL_law_509 rfl ?_
  refine kw_iload_n dL_law_510 rfl ?_
  refine kw_iconst dL_law_511 ?_
  refine kw_iadd dL_law_512 ?_
  refine kw_scr dL_law_513 hLn (by omega) ?_
  refine kw_aload_n dL_law_514 rfl ?_
  refine kw_iload_n dL_law_515 rfl ?_
  refine kw_iconst dL_law_516 ?_
  refine kw_iadd dL_law_517 ?_
  refine kw_scr dL_law_518 hLn (by omega) ?_
  refine k2_callV3I (ci := 9) (N := 38) (T := TX11) rfl (lsh_558 hL) m_X11_on dL_law_519 wl_L_58 (Nat.le_of_ble_eq_true rfl) (kC2_mono H (fun r c51 H => ?_))
  obtain ⟨z50, rfl, H⟩ := H
  refine ⟨z50, rfl, ?_⟩
  have o52 := H.1
  have H := H.2
  refine kw_icmp_eqr 1404 dL_law_522 (by decide) o52 ?_
  exact kw_forget (ls' := [some (kA (-2)), some (kA 0), some (kA 558), some (kI x3)]) ⟨Or.inr rfl, ⟨Or.inr rfl, ⟨Or.inr rfl, ⟨Or.inr rfl, trivial⟩⟩⟩⟩ H
set_option maxRecDepth 4000 in
theorem v_L_law_527 {nm : String} {G : KG} {S0 : KSh} (hL : kLay S0) {d : Nat} {P : Option AV → KMem → Prop} {c : KMem} {x3 : Int} (r3 : 0 ≤ x3 ∧ x3 < 2147483648) (hLn : kLn G < 2147483648) (hp : 0 ≤ x3 ∧ x3 + 6 ≤ (kLn G : Int)) (H : kC2 G S0 kM_X10_product (d + 59) [kA 0, kI ((kxs G (Int.toNat (x3 + 1))).toInt), kI ((kxs G (Int.toNat (x3 + 2))).toInt), kI ((kxs G (Int.toNat (x3 + 3))).toInt), kI ((kxs G (Int.toNat (x3 + 4))).toInt)] c (kRL (fun z53 c54 => kC2 G S0 kM_X11_product (d + 59) [kA 558, kI ((kxs G (Int.toNat (x3 + 1))).toInt), kI ((kxs G (Int.toNat (x3 + 2))).toInt), kI ((kxs G (Int.toNat (x3 + 3))).toInt), kI ((kxs G (Int.toNat (x3 + 4))).toInt)] c54 (kRL (fun z55 c56 => (z55 = z53) ∧ (kW2 G S0 (kM_LW nm) (d + 60) 1404 [some (kA (-2)), some (kA 0), some (kA 558), some (kI x3)] [] c56 P)))))) : kW2 G S0 (kM_LW nm) (d + 60) 527 [some (kA (-2)), some (kA 0), some (kA 558), some (kI x3)] [] c P := by
  refine kw_aload_n dL_law_527 rfl ?_
  refine kw_aload_n dL_law_528 rfl ?_
  refine kw_iload_n dL_law_529 rfl ?_
  refine kw_iconst dL_law_530 ?_
  refine kw_iadd dL_law_531 ?_
  refine kw_scr dL_law_532 hLn (by omega) ?_
  refine kw_aload_n dL_law_533 rfl ?_
  refine kw_iload_n dL_law_534 rfl ?_
  refine kw_iconst dL_law_535 ?_
  refine kw_iadd dL_law_536 ?_
  refine kw_scr dL_law_537 hLn (by omega) ?_
  refine kw_aload_n dL_law_538 rfl ?_
  refine kw_iload_n dL_law_539 rfl ?_
  refine kw_iconst dL_law_540 ?_
  refine kw_iadd dL_law_541 ?_
  refine kw_scr dL_law_542 hLn (by omega) ?_
  refine kw_aload_n dL_law_543 rfl ?_
  refine kw_iload_n dL_law_544 rfl ?_
  refine kw_iconst dL_law_545 ?_
  refine kw_iadd dL_law_546 ?_
  refine kw_scr dL_law_547 hLn (by omega) ?_
  refine k2_callV4L (ci := 8) (N := 20) (T := TX10) rfl (lsh_0 hL) m_X10_product dL_law_548 wl_L_59 (Nat.le_of_ble_eq_true rfl) (kC2_mono H (fun r c54 H => ?_))
  obtain ⟨z53, rfl, H⟩ := H
  refine ⟨z53, rfl, ?_⟩
  refine kw_aload_n dL_law_551 rfl ?_
  refine kw_aload_n dL_law_552 rfl ?_
  refine kw_iload_n dL_law_553 rfl ?_
  refine kw_iconst dL_law_554 ?_
  refine kw_iadd dL_law_555 ?_
  refine kw_scr dL_law_556 hLn (by omega) ?_
  refine kw_aload_n dL_law_557 rfl ?_
  refine kw_iload_n dL_law_558 rfl ?_
  refine kw_iconst dL_law_559 ?_
  refine kw_iadd dL_law_560 ?_
  refine kw_scr dL_law_561 hLn (by omega) ?_
  refine kw_aload_n dL_law_562 rfl ?_
  refine kw_iload_n dL_law_563 rfl ?_
  refine kw_iconst dL_law_564 ?_
  refine kw_iadd dL_law_565 ?_
  refine kw_scr dL_law_566 hLn (by omega) ?_
  refine kw_aload_n dL_law_567 rfl ?_
  refine kw_iload_n dL_law_568 rfl ?_
  refine kw_iconst dL_law_569 ?_
  refine kw_iadd dL_law_570 ?_
  refine kw_scr dL_law_571 hLn (by omega) ?_
  refine k2_callV4L (ci := 9) (N := 38) (T := TX11) rfl (lsh_558 hL) m_X11_product dL_law_572 wl_L_63 (Nat.le_of_ble_eq_true rfl) (kC2_mono H (fun r c56 H => ?_))
  obtain ⟨z55, rfl, H⟩ := H
  refine ⟨z55, rfl, ?_⟩
  have o57 := H.1
  have H := H.2
  refine kw_lcmp_eqr 1404 dL_law_575 dL_law_576 (by decide) o57 ?_
  exact kw_forget (ls' := [some (kA (-2)), some (kA 0), some (kA 558), some (kI x3)]) ⟨Or.inr rfl, ⟨Or.inr rfl, ⟨Or.inr rfl, ⟨Or.inr rfl, trivial⟩⟩⟩⟩ H
set_option maxRecDepth 4000 in
theorem v_L_law_581 {nm : String} {G : KG} {S0 : KSh} (hL : kLay S0) {d : Nat} {P : Option AV → KMem → Prop} {c : KMem} {x3 : Int} (r3 : 0 ≤ x3 ∧ x3 < 2147483648) (hLn : kLn G < 2147483648) (hp : 0 ≤ x3 ∧ x3 + 6 ≤ (kLn G : Int)) (H : kC2 G S0 kM_X10_cosine (d + 59) [kA 0, kI ((kxs G (Int.toNat (x3 + 1))).toInt), kI ((kxs G (Int.toNat (x3 + 2))).toInt), kI ((kxs G (Int.toNat (x3 + 3))).toInt)] c (kRL (fun z58 c59 => kC2 G S0 kM_X11_cosine (d + 59) [kA 558, kI ((kxs G (Int.toNat (x3 + 1))).toInt), kI ((kxs G (Int.toNat (x3 + 2))).toInt), kI ((kxs G (Int.toNat (x3 + 3))).toInt)] c59 (kRL (fun z60 c61 => (z60 = z58) ∧ (kW2 G S0 (kM_LW nm) (d + 60) 1404 [some (kA (-2)), some (kA 0), some (kA 558), some (kI x3)] [] c61 P)))))) : kW2 G S0 (kM_LW nm) (d + 60) 581 [some (kA (-2)), some (kA 0), some (kA 558), some (kI x3)] [] c P := by
  refine kw_aload_n dL_law_581 rfl ?_
  refine kw_aload_n dL_law_582 rfl ?_
  refine kw_iload_n dL_law_583 rfl ?_
  refine kw_iconst dL_law_584 ?_
  refine kw_iadd dL_law_585 ?_
  refine kw_scr dL_law_586 hLn (by omega) ?_
  refine kw_aload_n dL_law_587 rfl ?_
  refine kw_iload_n dL_law_588 rfl ?_
  refine kw_iconst dL_law_589 ?_
  refine kw_iadd dL_law_590 ?_
  refine kw_scr dL_law_591 hLn (by omega) ?_
  refine kw_aload_n dL_law_592 rfl ?_
  refine kw_iload_n dL_law_593 rfl ?_
  refine kw_iconst dL_law_594 ?_
  refine kw_iadd dL_law_595 ?_
  refine kw_scr dL_law_596 hLn (by omega) ?_
  refine k2_callV3L (ci := 8) (N := 20) (T := TX10) rfl (lsh_0 hL) m_X10_cosine dL_law_597 wl_L_64 (Nat.le_of_ble_eq_true rfl) (kC2_mono H (fun r c59 H => ?_))
  obtain ⟨z58, rfl, H⟩ := H
  refine ⟨z58, rfl, ?_⟩
  refine kw_aload_n dL_law_600 rfl ?_
  refine kw_aload_n dL_law_601 rfl ?_
  refine kw_iload_n dL_law_602 rfl ?_
  refine kw_iconst dL_law_603 ?_
  refine kw_iadd dL_law_604 ?_
  refine kw_scr dL_law_605 hLn (by omega) ?_
  refine kw_aload_n dL_law_606 rfl ?_
  refine kw_iload_n dL_law_607 rfl ?_
  refine kw_iconst dL_law_608 ?_
  refine kw_iadd dL_law_609 ?_
  refine kw_scr dL_law_610 hLn (by omega) ?_
  refine kw_aload_n dL_law_611 rfl ?_
  refine kw_iload_n dL_law_612 rfl ?_
  refine kw_iconst dL_law_613 ?_
  refine kw_iadd dL_law_614 ?_
  refine kw_scr dL_law_615 hLn (by omega) ?_
  refine k2_callV3L (ci := 9) (N := 38) (T := TX11) rfl (lsh_558 hL) m_X11_cosine dL_law_616 wl_L_68 (Nat.le_of_ble_eq_true rfl) (kC2_mono H (fun r c61 H => ?_))
  obtain ⟨z60, rfl, H⟩ := H
  refine ⟨z60, rfl, ?_⟩
  have o62 := H.1
  have H := H.2
  refine kw_lcmp_eqr 1404 dL_law_619 dL_law_620 (by decide) o62 ?_
  exact kw_forget (ls' := [some (kA (-2)), some (kA 0), some (kA 558), some (kI x3)]) ⟨Or.inr rfl, ⟨Or.inr rfl, ⟨Or.inr rfl, ⟨Or.inr rfl, trivial⟩⟩⟩⟩ H
set_option maxRecDepth 4000 in
theorem v_L_law_625 {nm : String} {G : KG} {S0 : KSh} (hL : kLay S0) {d : Nat} {P : Option AV → KMem → Prop} {c : KMem} {x3 : Int} (r3 : 0 ≤ x3 ∧ x3 < 2147483648) (hLn : kLn G < 2147483648) (hp : 0 ≤ x3 ∧ x3 + 6 ≤ (kLn G : Int)) (H : kC2 G S0 kM_X10_distance (d + 59) [kA 0, kI ((kxs G (Int.toNat (x3 + 1))).toInt), kI ((kxs G (Int.toNat (x3 + 2))).toInt), kI ((kxs G (Int.toNat (x3 + 3))).toInt)] c (kRL (fun z63 c64 => kC2 G S0 kM_X11_distance (d + 59) [kA 558, kI ((kxs G (Int.toNat (x3 + 1))).toInt), kI ((kxs G (Int.toNat (x3 + 2))).toInt), kI ((kxs G (Int.toNat (x3 + 3))).toInt)] c64 (kRL (fun z65 c66 => (z65 = z63) ∧ (kW2 G S0 (kM_LW nm) (d + 60) 1404 [some (kA (-2)), some (kA 0), some (kA 558), some (kI x3)] [] c66 P)))))) : kW2 G S0 (kM_LW nm) (d + 60) 625 [some (kA (-2)), some (kA 0), some (kA 558), some (kI x3)] [] c P := by
  refine kw_aload_n dL_law_625 rfl ?_
  refine kw_aload_n dL_law_626 rfl ?_
  refine kw_iload_n dL_law_627 rfl ?_
  refine kw_iconst dL_law_628 ?_
  refine kw_iadd dL_law_629 ?_
  refine kw_scr dL_law_630 hLn (by omega) ?_
  refine kw_aload_n dL_law_631 rfl ?_
  refine kw_iload_n dL_law_632 rfl ?_
  refine kw_iconst dL_law_633 ?_
  refine kw_iadd dL_law_634 ?_
  refine kw_scr dL_law_635 hLn (by omega) ?_
  refine kw_aload_n dL_law_636 rfl ?_
  refine kw_iload_n dL_law_637 rfl ?_
  refine kw_iconst dL_law_638 ?_
  refine kw_iadd dL_law_639 ?_
  refine kw_scr dL_law_640 hLn (by omega) ?_
  refine k2_callV3L (ci := 8) (N := 20) (T := TX10) rfl (lsh_0 hL) m_X10_distance dL_law_641 wl_L_69 (Nat.le_of_ble_eq_true rfl) (kC2_mono H (fun r c64 H => ?_))
  obtain ⟨z63, rfl, H⟩ := H
  refine ⟨z63, rfl, ?_⟩
  refine kw_aload_n dL_law_644 rfl ?_
  refine kw_aload_n dL_law_645 rfl ?_
  refine kw_iload_n dL_law_646 rfl ?_
  refine kw_iconst dL_law_647 ?_
  refine kw_iadd dL_law_648 ?_
  refine kw_scr dL_law_649 hLn (by omega) ?_
  refine kw_aload_n dL_law_650 rfl ?_
  refine kw_iload_n dL_law_651 rfl ?_
  refine kw_iconst dL_law_652 ?_
  refine kw_iadd dL_law_653 ?_
  refine kw_scr dL_law_654 hLn (by omega) ?_
  refine kw_aload_n dL_law_655 rfl ?_
  refine kw_iload_n dL_law_656 rfl ?_
  refine kw_iconst dL_law_657 ?_
  refine kw_iadd dL_law_658 ?_
  refine kw_scr dL_law_659 hLn (by omega) ?_
  refine k2_callV3L (ci := 9) (N := 38) (T := TX11) rfl (lsh_558 hL) m_X11_distance dL_law_660 wl_L_72 (Nat.le_of_ble_eq_true rfl) (kC2_mono H (fun r c66 H => ?_))
  obtain ⟨z65, rfl, H⟩ := H
  refine ⟨z65, rfl, ?_⟩
  have o67 := H.1
  have H := H.2
  refine kw_lcmp_eqr 1404 dL_law_663 dL_law_664 (by decide) o67 ?_
  exact kw_forget (ls' := [some (kA (-2)), some (kA 0), some (kA 558), some (kI x3)]) ⟨Or.inr rfl, ⟨Or.inr rfl, ⟨Or.inr rfl, ⟨Or.inr rfl, trivial⟩⟩⟩⟩ H
set_option maxRecDepth 4000 in
theorem v_L_law_669 {nm : String} {G : KG} {S0 : KSh} (hL : kLay S0) {d : Nat} {P : Option AV → KMem → Prop} {c : KMem} {x3 : Int} (r3 : 0 ≤ x3 ∧ x3 < 2147483648) (hLn : kLn G < 2147483648) (hp : 0 ≤ x3 ∧ x3 + 6 ≤ (kLn G : Int)) (H : kC2 G S0 kM_X10_pair (d + 59) [kA 0, kI ((kxs G (Int.toNat (x3 + 1))).toInt), kI ((kxs G (Int.toNat (x3 + 2))).toInt)] c (kRL (fun z68 c69 => kC2 G S0 kM_X11_pair (d + 59) [kA 558, kI ((kxs G (Int.toNat (x3 + 1))).toInt), kI ((kxs G (Int.toNat (x3 + 2))).toInt)] c69 (kRL (fun z70 c71 => (z70 = z68) ∧ (kW2 G S0 (kM_LW nm) (d + 60) 1404 [some (kA (-2)), some (kA 0), some (kA 558), some (kI x3)] [] c71 P)))))) : kW2 G S0 (kM_LW nm) (d + 60) 669 [some (kA (-2)), some (kA 0), some (kA 558), some (kI x3)] [] c P := by
  refine kw_aload_n dL_law_669 rfl ?_
  refine kw_aload_n dL_law_670 rfl ?_
  refine kw_iload_n dL_law_671 rfl ?_
  refine kw_iconst dL_law_672 ?_
  refine kw_iadd dL_law_673 ?_
  refine kw_scr dL_law_674 hLn (by omega) ?_
  refine kw_aload_n dL_law_675 rfl ?_
  refine kw_iload_n dL_law_676 rfl ?_
  refine kw_iconst dL_law_677 ?_
  refine kw_iadd dL_law_678 ?_
  refine kw_scr dL_law_679 hLn (by omega) ?_
  refine k2_callV2L (ci := 8) (N := 20) (T := TX10) rfl (lsh_0 hL) m_X10_pair dL_law_680 wl_L_73 (Nat.le_of_ble_eq_true rfl) (kC2_mono H (fun r c69 H => ?_))
  obtain ⟨z68, rfl, H⟩ := H
  refine ⟨z68, rfl, ?_⟩
  refine kw_aload_n dL_law_683 rfl ?_
  refine kw_aload_n dL_law_684 rfl ?_
  refine kw_iload_n dL_law_685 rfl ?_
  refine kw_iconst dL_law_686 ?_
  refine kw_iadd dL_law_687 ?_
  refine kw_scr dL_law_688 hLn (by omega) ?_
  refine kw_aload_n dL_law_689 rfl ?_
  refine kw_iload_n dL_law_690 rfl ?_
  refine kw_iconst dL_law_691 ?_
  refine kw_iadd dL_law_692 ?_
  refine kw_scr dL_law_693 hLn (by omega) ?_
  refine k2_callV2L (ci := 9) (N := 38) (T := TX11) rfl (lsh_558 hL) m_X11_pair dL_law_694 wl_L_76 (Nat.le_of_ble_eq_true rfl) (kC2_mono H (fun r c71 H => ?_))
  obtain ⟨z70, rfl, H⟩ := H
  refine ⟨z70, rfl, ?_⟩
  have o72 := H.1
  have H := H.2
  refine kw_lcmp_eqr 1404 dL_law_697 dL_law_698 (by decide) o72 ?_
  exact kw_forget (ls' := [some (kA (-2)), some (kA 0), some (kA 558), some (kI x3)]) ⟨Or.inr rfl, ⟨Or.inr rfl, ⟨Or.inr rfl, ⟨Or.inr rfl, trivial⟩⟩⟩⟩ H
set_option maxRecDepth 4000 in
theorem v_L_law_703 {nm : String} {G : KG} {S0 : KSh} (hL : kLay S0) {d : Nat} {P : Option AV → KMem → Prop} {c : KMem} {x3 : Int} (r3 : 0 ≤ x3 ∧ x3 < 2147483648) (hLn : kLn G < 2147483648) (hp : 0 ≤ x3 ∧ x3 + 6 ≤ (kLn G : Int)) (H : kC2 G S0 kM_X10_power (d + 59) [kA 0, kI ((kxs G (Int.toNat (x3 + 1))).toInt), kI ((kxs G (Int.toNat (x3 + 2))).toInt), kI ((kxs G (Int.toNat (x3 + 3))).toInt), kI ((kxs G (Int.toNat (x3 + 4))).toInt)] c (kRL (fun z73 c74 => kC2 G S0 kM_X11_power (d + 59) [kA 558, kI ((kxs G (Int.toNat (x3 + 1))).toInt), kI ((kxs G (Int.toNat (x3 + 2))).toInt), kI ((kxs G (Int.toNat (x3 + 3))).toInt), kI ((kxs G (Int.toNat (x3 + 4))).toInt)] c74 (kRL (fun z75 c76 => (z75 = z73) ∧ (kW2 G S0 (kM_LW nm) (d + 60) 1404 [some (kA (-2)), some (kA 0), some (kA 558), some (kI x3)] [] c76 P)))))) : kW2 G S0 (kM_LW nm) (d + 60) 703 [some (kA (-2)), some (kA 0), some (kA 558), some (kI x3)] [] c P := by
  refine kw_aload_n dL_law_703 rfl ?_
  refine kw_aload_n dL_law_704 rfl ?_
  refine kw_iload_n dL_law_705 rfl ?_
  refine kw_iconst dL_law_706 ?_
  refine kw_iadd dL_law_707 ?_
  refine kw_scr dL_law_708 hLn (by omega) ?_
  refine kw_aload_n dL_law_709 rfl ?_
  refine kw_iload_n dL_law_710 rfl ?_
  refine kw_iconst dL_law_711 ?_
  refine kw_iadd dL_law_712 ?_
  refine kw_scr dL_law_713 hLn (by omega) ?_
  refine kw_aload_n dL_law_714 rfl ?_
  refine kw_iload_n dL_law_715 rfl ?_
  refine kw_iconst dL_law_716 ?_
  refine kw_iadd dL_law_717 ?_
  refine kw_scr dL_law_718 hLn (by omega) ?_
  refine kw_aload_n dL_law_719 rfl ?_
  refine kw_iload_n dL_law_720 rfl ?_
  refine kw_iconst dL_law_721 ?_
  refine kw_iadd dL_law_722 ?_
  refine kw_scr dL_law_723 hLn (by omega) ?_
  refine k2_callV4L (ci := 8) (N := 20) (T := TX10) rfl (lsh_0 hL) m_X10_power dL_law_724 wl_L_77 (Nat.le_of_ble_eq_true rfl) (kC2_mono H (fun r c74 H => ?_))
  obtain ⟨z73, rfl, H⟩ := H
  refine ⟨z73, rfl, ?_⟩
  refine kw_aload_n dL_law_727 rfl ?_
  refine kw_aload_n dL_law_728 rfl ?_
  refine kw_iload_n dL_law_729 rfl ?_
  refine kw_iconst dL_law_730 ?_
  refine kw_iadd dL_law_731 ?_
  refine kw_scr dL_law_732 hLn (by omega) ?_
  refine kw_aload_n dL_law_733 rfl ?_
  refine kw_iload_n dL_law_734 rfl ?_
  refine kw_iconst dL_law_735 ?_
  refine kw_iadd dL_law_736 ?_
  refine kw_scr dL_law_737 hLn (by omega) ?_
  refine kw_aload_n dL_law_738 rfl ?_
  refine kw_iload_n dL_law_739 rfl ?_
  refine kw_iconst dL_law_740 ?_
  refine kw_iadd dL_law_741 ?_
  refine kw_scr dL_law_742 hLn (by omega) ?_
  refine kw_aload_n dL_law_743 rfl ?_
  refine kw_iload_n dL_law_744 rfl ?_
  refine kw_iconst dL_law_745 ?_
  refine kw_iadd dL_law_746 ?_
  refine kw_scr dL_law_747 hLn (by omega) ?_
  refine k2_callV4L (ci := 9) (N := 38) (T := TX11) rfl (lsh_558 hL) m_X11_power dL_law_748 wl_L_80 (Nat.le_of_ble_eq_true rfl) (kC2_mono H (fun r c76 H => ?_))
  obtain ⟨z75, rfl, H⟩ := H
  refine ⟨z75, rfl, ?_⟩
  have o77 := H.1
  have H := H.2
  refine kw_lcmp_eqr 1404 dL_law_751 dL_law_752 (by decide) o77 ?_
  exact kw_forget (ls' := [some (kA (-2)), some (kA 0), some (kA 558), some (kI x3)]) ⟨Or.inr rfl, ⟨Or.inr rfl, ⟨Or.inr rfl, ⟨Or.inr rfl, trivial⟩⟩⟩⟩ H
set_option maxRecDepth 4000 in
theorem v_L_law_757 {nm : String} {G : KG} {S0 : KSh} (hL : kLay S0) {d : Nat} {P : Option AV → KMem → Prop} {c : KMem} {x3 : Int} (r3 : 0 ≤ x3 ∧ x3 < 2147483648) (hLn : kLn G < 2147483648) (hp : 0 ≤ x3 ∧ x3 + 6 ≤ (kLn G : Int)) (H : kC2 G S0 kM_X10_stand (d + 59) [kA 0, kI ((kxs G (Int.toNat (x3 + 1))).toInt), kI ((kxs G (Int.toNat (x3 + 2))).toInt)] c (kRI (fun z78 c79 => kC2 G S0 kM_X11_stand (d + 59) [kA 558, kI ((kxs G (Int.toNat (x3 + 1))).toInt), kI ((kxs G (Int.toNat (x3 + 2))).toInt)] c79 (kRI (fun z80 c81 => (z80 = z78) ∧ (kW2 G S0 (kM_LW nm) (d + 60) 1404 [some (kA (-2)), some (kA 0), some (kA 558), some (kI x3)] [] c81 P)))))) : kW2 G S0 (kM_LW nm) (d + 60) 757 [some (kA (-2)), some (kA 0), some (kA 558), some (kI x3)] [] c P := by
  refine kw_aload_n dL_law_757 rfl ?_
  refine kw_aload_n dL_law_758 rfl ?_
  refine kw_iload_n dL_law_759 rfl ?_
  refine kw_iconst dL_law_760 ?_
  refine kw_iadd dL_law_761 ?_
  refine kw_scr dL_law_762 hLn (by omega) ?_
  refine kw_aload_n dL_law_763 rfl ?_
  refine kw_iload_n dL_law_764 rfl ?_
  refine kw_iconst dL_law_765 ?_
  refine kw_iadd dL_law_766 ?_
  refine kw_scr dL_law_767 hLn (by omega) ?_
  refine k2_callV2I (ci := 8) (N := 20) (T := TX10) rfl (lsh_0 hL) m_X10_stand dL_law_768 wl_L_81 (Nat.le_of_ble_eq_true rfl) (kC2_mono H (fun r c79 H => ?_))
  obtain ⟨z78, rfl, H⟩ := H
  refine ⟨z78, rfl, ?_⟩
  refine kw_aload_n dL_law_771 rfl ?_
  refine kw_aload_n dL_law_772 rfl ?_
  refine kw_iload_n dL_law_773 rfl ?_
  refine kw_iconst dL_law_774 ?_
  refine kw_iadd dL_law_775 ?_
  refine kw_scr dL_law_776 hLn (by omega) ?_
  refine kw_aload_n dL_law_777 rfl ?_
  refine kw_iload_n dL_law_778 rfl ?_
  refine kw_iconst dL_law_779 ?_
  refine kw_iadd dL_law_780 ?_
  refine kw_scr dL_law_781 hLn (by omega) ?_
  refine k2_callV2I (ci := 9) (N := 38) (T := TX11) rfl (lsh_558 hL) m_X11_stand dL_law_782 wl_L_84 (Nat.le_of_ble_eq_true rfl) (kC2_mono H (fun r c81 H => ?_))
  obtain ⟨z80, rfl, H⟩ := H
  refine ⟨z80, rfl, ?_⟩
  have o82 := H.1
  have H := H.2
  refine kw_icmp_eqr 1404 dL_law_785 (by decide) o82 ?_
  exact kw_forget (ls' := [some (kA (-2)), some (kA 0), some (kA 558), some (kI x3)]) ⟨Or.inr rfl, ⟨Or.inr rfl, ⟨Or.inr rfl, ⟨Or.inr rfl, trivial⟩⟩⟩⟩ H
set_option maxRecDepth 4000 in
theorem v_L_law_790 {nm : String} {G : KG} {S0 : KSh} (hL : kLay S0) {d : Nat} {P : Option AV → KMem → Prop} {c : KMem} {x3 : Int} (r3 : 0 ≤ x3 ∧ x3 < 2147483648) (hLn : kLn G < 2147483648) (hp : 0 ≤ x3 ∧ x3 + 6 ≤ (kLn G : Int)) (H : kC2 G S0 kM_X10_bundle (d + 59) [kA 0, kI ((kxs G (Int.toNat (x3 + 1))).toInt), kI ((kxs G (Int.toNat (x3 + 2))).toInt), kI ((kxs G (Int.toNat (x3 + 3))).toInt)] c (kRI (fun z83 c84 => kC2 G S0 kM_X11_bundle (d + 59) [kA 558, kI ((kxs G (Int.toNat (x3 + 1))).toInt), kI ((kxs G (Int.toNat (x3 + 2))).toInt), kI ((kxs G (Int.toNat (x3 + 3))).toInt)] c84 (kRI (fun z85 c86 => (z85 = z83) ∧ (kW2 G S0 (kM_LW nm) (d + 60) 1404 [some (kA (-2)), some (kA 0), some (kA 558), some (kI x3)] [] c86 P)))))) : kW2 G S0 (kM_LW nm) (d + 60) 790 [some (kA (-2)), some (kA 0), some (kA 558), some (kI x3)] [] c P := by
  refine kw_aload_n dL_law_790 rfl ?_
  refine kw_aload_n dL_law_791 rfl ?_
  refine kw_iload_n dL_law_792 rfl ?_
  refine kw_iconst dL_law_793 ?_
  refine kw_iadd dL_law_794 ?_
  refine kw_scr dL_law_795 hLn (by omega) ?_
  refine kw_aload_n dL_law_796 rfl ?_
  refine kw_iload_n dL_law_797 rfl ?_
  refine kw_iconst dL_law_798 ?_
  refine kw_iadd dL_law_799 ?_
  refine kw_scr dL_law_800 hLn (by omega) ?_
  refine kw_aload_n dL_law_801 rfl ?_
  refine kw_iload_n dL_law_802 rfl ?_
  refine kw_iconst dL_law_803 ?_
  refine kw_iadd dL_law_804 ?_
  refine kw_scr dL_law_805 hLn (by omega) ?_
  refine k2_callV3I (ci := 8) (N := 20) (T := TX10) rfl (lsh_0 hL) m_X10_bundle dL_law_806 wl_L_85 (Nat.le_of_ble_eq_true rfl) (kC2_mono H (fun r c84 H => ?_))
  obtain ⟨z83, rfl, H⟩ := H
  refine ⟨z83, rfl, ?_⟩
  refine kw_aload_n dL_law_809 rfl ?_
  refine kw_aload_n dL_law_810 rfl ?_
  refine kw_iload_n dL_law_811 rfl ?_
  refine kw_iconst dL_law_812 ?_
  refine kw_iadd dL_law_813 ?_
  refine kw_scr dL_law_814 hLn (by omega) ?_
  refine kw_aload_n dL_law_815 rfl ?_
  refine kw_iload_n dL_law_816 rfl ?_
  refine kw_iconst dL_law_817 ?_
  refine kw_iadd dL_law_818 ?_
  refine kw_scr dL_law_819 hLn (by omega) ?_
  refine kw_aload_n dL_law_820 rfl ?_
  refine kw_iload_n dL_law_821 rfl ?_
  refine kw_iconst dL_law_822 ?_
  refine kw_iadd dL_law_823 ?_
  refine kw_scr dL_law_824 hLn (by omega) ?_
  refine k2_callV3I (ci := 9) (N := 38) (T := TX11) rfl (lsh_558 hL) m_X11_bundle dL_law_825 wl_L_88 (Nat.le_of_ble_eq_true rfl) (kC2_mono H (fun r c86 H => ?_))
  obtain ⟨z85, rfl, H⟩ := H
  refine ⟨z85, rfl, ?_⟩
  have o87 := H.1
  have H := H.2
  refine kw_icmp_eqr 1404 dL_law_828 (by decide) o87 ?_
  exact kw_forget (ls' := [some (kA (-2)), some (kA 0), some (kA 558), some (kI x3)]) ⟨Or.inr rfl, ⟨Or.inr rfl, ⟨Or.inr rfl, ⟨Or.inr rfl, trivial⟩⟩⟩⟩ H
set_option maxRecDepth 4000 in
theorem v_L_law_833 {nm : String} {G : KG} {S0 : KSh} (hL : kLay S0) {d : Nat} {P : Option AV → KMem → Prop} {c : KMem} {x3 : Int} (r3 : 0 ≤ x3 ∧ x3 < 2147483648) (hLn : kLn G < 2147483648) (hp : 0 ≤ x3 ∧ x3 + 6 ≤ (kLn G : Int)) (H : kC2 G S0 kM_X10_group (d + 59) [kA 0, kI ((kxs G (Int.toNat (x3 + 1))).toInt)] c (kRI (fun z88 c89 => kC2 G S0 kM_X11_group (d + 59) [kA 558, kI ((kxs G (Int.toNat (x3 + 1))).toInt)] c89 (kRI (fun z90 c91 => (z90 = z88) ∧ (kW2 G S0 (kM_LW nm) (d + 60) 1404 [some (kA (-2)), some (kA 0), some (kA 558), some (kI x3)] [] c91 P)))))) : kW2 G S0 (kM_LW nm) (d + 60) 833 [some (kA (-2)), some (kA 0), some (kA 558), some (kI x3)] [] c P := by
  refine kw_aload_n dL_law_833 rfl ?_
  refine kw_aload_n dL_law_834 rfl ?_
  refine kw_iload_n dL_law_835 rfl ?_
  refine kw_iconst dL_law_836 ?_
  refine kw_iadd dL_law_837 ?_
  refine kw_scr dL_law_838 hLn (by omega) ?_
  refine k2_callV1I (ci := 8) (N := 20) (T := TX10) rfl (lsh_0 hL) m_X10_group dL_law_839 wl_L_89 (Nat.le_of_ble_eq_true rfl) (kC2_mono H (fun r c89 H => ?_))
  obtain ⟨z88, rfl, H⟩ := H
  refine ⟨z88, rfl, ?_⟩
  refine kw_aload_n dL_law_842 rfl ?_
  refine kw_aload_n dL_law_843 rfl ?_
  refine kw_iload_n dL_law_844 rfl ?_
  refine kw_iconst dL_law_845 ?_
  refine kw_iadd dL_law_846 ?_
  refine kw_scr dL_law_847 hLn (by omega) ?_
  refine k2_callV1I (ci := 9) (N := 38) (T := TX11) rfl (lsh_558 hL) m_X11_group dL_law_848 wl_L_92 (Nat.le_of_ble_eq_true rfl) (kC2_mono H (fun r c91 H => ?_))
  obtain ⟨z90, rfl, H⟩ := H
  refine ⟨z90, rfl, ?_⟩
  have o92 := H.1
  have H := H.2
  refine kw_icmp_eqr 1404 dL_law_851 (by decide) o92 ?_
  exact kw_forget (ls' := [some (kA (-2)), some (kA 0), some (kA 558), some (kI x3)]) ⟨Or.inr rfl, ⟨Or.inr rfl, ⟨Or.inr rfl, ⟨Or.inr rfl, trivial⟩⟩⟩⟩ H
set_option maxRecDepth 4000 in
theorem v_L_law_856 {nm : String} {G : KG} {S0 : KSh} (hL : kLay S0) {d : Nat} {P : Option AV → KMem → Prop} {c : KMem} {x3 : Int} (r3 : 0 ≤ x3 ∧ x3 < 2147483648) (hLn : kLn G < 2147483648) (hp : 0 ≤ x3 ∧ x3 + 6 ≤ (kLn G : Int)) (H : kC2 G S0 kM_X10_rank (d + 59) [kA 0, kI ((kxs G (Int.toNat (x3 + 1))).toInt)] c (kRI (fun z93 c94 => kC2 G S0 kM_X11_rank (d + 59) [kA 558, kI ((kxs G (Int.toNat (x3 + 1))).toInt)] c94 (kRI (fun z95 c96 => (z95 = z93) ∧ (kW2 G S0 (kM_LW nm) (d + 60) 1404 [some (kA (-2)), some (kA 0), some (kA 558), some (kI x3)] [] c96 P)))))) : kW2 G S0 (kM_LW nm) (d + 60) 856 [some (kA (-2)), some (kA 0), some (kA 558), some (kI x3)] [] c P := by
  refine kw_aload_n dL_law_856 rfl ?_
  refine kw_aload_n dL_law_857 rfl ?_
  refine kw_iload_n dL_law_858 rfl ?_
  refine kw_iconst dL_law_859 ?_
  refine kw_iadd dL_law_860 ?_
  refine kw_scr dL_law_861 hLn (by omega) ?_
  refine k2_callV1I (ci := 8) (N := 20) (T := TX10) rfl (lsh_0 hL) m_X10_rank dL_law_862 wl_L_93 (Nat.le_of_ble_eq_true rfl) (kC2_mono H (fun r c94 H => ?_))
  obtain ⟨z93, rfl, H⟩ := H
  refine ⟨z93, rfl, ?_⟩
  refine kw_aload_n dL_law_865 rfl ?_
  refine kw_aload_n dL_law_866 rfl ?_
  refine kw_iload_n dL_law_867 rfl ?_
  refine kw_iconst dL_law_868 ?_
  refine kw_iadd dL_law_869 ?_
  refine kw_scr dL_law_870 hLn (by omega) ?_
  refine k2_callV1I (ci := 9) (N := 38) (T := TX11) rfl (lsh_558 hL) m_X11_rank dL_law_871 wl_L_96 (Nat.le_of_ble_eq_true rfl) (kC2_mono H (fun r c96 H => ?_))
  obtain ⟨z95, rfl, H⟩ := H
  refine ⟨z95, rfl, ?_⟩
  have o97 := H.1
  have H := H.2
  refine kw_icmp_eqr 1404 dL_law_874 (by decide) o97 ?_
  exact kw_forget (ls' := [some (kA (-2)), some (kA 0), some (kA 558), some (kI x3)]) ⟨Or.inr rfl, ⟨Or.inr rfl, ⟨Or.inr rfl, ⟨Or.inr rfl, trivial⟩⟩⟩⟩ H
set_option maxRecDepth 4000 in
theorem v_L_law_879 {nm : String} {G : KG} {S0 : KSh} (hL : kLay S0) {d : Nat} {P : Option AV → KMem → Prop} {c : KMem} {x3 : Int} (r3 : 0 ≤ x3 ∧ x3 < 2147483648) (hLn : kLn G < 2147483648) (hp : 0 ≤ x3 ∧ x3 + 6 ≤ (kLn G : Int)) (H : kC2 G S0 kM_X10_row (d + 59) [kA 0, kI ((kxs G (Int.toNat (x3 + 1))).toInt), kI ((kxs G (Int.toNat (x3 + 2))).toInt)] c (kRI (fun z98 c99 => kC2 G S0 kM_X11_row (d + 59) [kA 558, kI ((kxs G (Int.toNat (x3 + 1))).toInt), kI ((kxs G (Int.toNat (x3 + 2))).toInt)] c99 (kRI (fun z100 c101 => (z100 = z98) ∧ (kW2 G S0 (kM_LW nm) (d + 60) 1404 [some (kA (-2)), some (kA 0), some (kA 558), some (kI x3)] [] c101 P)))))) : kW2 G S0 (kM_LW nm) (d + 60) 879 [some (kA (-2)), some (kA 0), some (kA 558), some (kI x3)] [] c P := by
  refine kw_aload_n dL_law_879 rfl ?_
  refine kw_aload_n dL_law_880 rfl ?_
  refine kw_iload_n dL_law_881 rfl ?_
  refine kw_iconst dL_law_882 ?_
  refine kw_iadd dL_law_883 ?_
  refine kw_scr dL_law_884 hLn (by omega) ?_
  refine kw_aload_n dL_law_885 rfl ?_
  refine kw_iload_n dL_law_886 rfl ?_
  refine kw_iconst dL_law_887 ?_
  refine kw_iadd dL_law_888 ?_
  refine kw_scr dL_law_889 hLn (by omega) ?_
  refine k2_callV2I (ci := 8) (N := 20) (T := TX10) rfl (lsh_0 hL) m_X10_row dL_law_890 wl_L_97 (Nat.le_of_ble_eq_true rfl) (kC2_mono H (fun r c99 H => ?_))
  obtain ⟨z98, rfl, H⟩ := H
  refine ⟨z98, rfl, ?_⟩
  refine kw_aload_n dL_law_893 rfl ?_
  refine kw_aload_n dL_law_894 rfl ?_
  refine kw_iload_n dL_law_895 rfl ?_
  refine kw_iconst dL_law_896 ?_
  refine kw_iadd dL_law_897 ?_
  refine kw_scr dL_law_898 hLn (by omega) ?_
  refine kw_aload_n dL_law_899 rfl ?_
  refine kw_iload_n dL_law_900 rfl ?_
  refine kw_iconst dL_law_901 ?_
  refine kw_iadd dL_law_902 ?_
  refine kw_scr dL_law_903 hLn (by omega) ?_
  refine k2_callV2I (ci := 9) (N := 38) (T := TX11) rfl (lsh_558 hL) m_X11_row dL_law_904 wl_L_100 (Nat.le_of_ble_eq_true rfl) (kC2_mono H (fun r c101 H => ?_))
  obtain ⟨z100, rfl, H⟩ := H
  refine ⟨z100, rfl, ?_⟩
  have o102 := H.1
  have H := H.2
  refine kw_icmp_eqr 1404 dL_law_907 (by decide) o102 ?_
  exact kw_forget (ls' := [some (kA (-2)), some (kA 0), some (kA 558), some (kI x3)]) ⟨Or.inr rfl, ⟨Or.inr rfl, ⟨Or.inr rfl, ⟨Or.inr rfl, trivial⟩⟩⟩⟩ H
set_option maxRecDepth 4000 in
theorem v_L_law_912 {nm : String} {G : KG} {S0 : KSh} (hL : kLay S0) {d : Nat} {P : Option AV → KMem → Prop} {c : KMem} {x3 : Int} (r3 : 0 ≤ x3 ∧ x3 < 2147483648) (hLn : kLn G < 2147483648) (hp : 0 ≤ x3 ∧ x3 + 6 ≤ (kLn G : Int)) (H : kC2 G S0 kM_X10_whole (d + 59) [kA 0, kI ((kxs G (Int.toNat (x3 + 1))).toInt)] c (kRI (fun z103 c104 => kC2 G S0 kM_X11_whole (d + 59) [kA 558, kI ((kxs G (Int.toNat (x3 + 1))).toInt)] c104 (kRI (fun z105 c106 => (z105 = z103) ∧ (kW2 G S0 (kM_LW nm) (d + 60) 1404 [some (kA (-2)), some (kA 0), some (kA 558), some (kI x3)] [] c106 P)))))) : kW2 G S0 (kM_LW nm) (d + 60) 912 [some (kA (-2)), some (kA 0), some (kA 558), some (kI x3)] [] c P := by
  refine kw_aload_n dL_law_912 rfl ?_
  refine kw_aload_n dL_law_913 rfl ?_
  refine kw_iload_n dL_law_914 rfl ?_
  refine kw_iconst dL_law_915 ?_
  refine kw_iadd dL_law_916 ?_
  refine kw_scr dL_law_917 hLn (by omega) ?_
  refine k2_callV1I (ci := 8) (N := 20) (T := TX10) rfl (lsh_0 hL) m_X10_whole dL_law_918 wl_L_101 (Nat.le_of_ble_eq_true rfl) (kC2_mono H (fun r c104 H => ?_))
  obtain ⟨z103, rfl, H⟩ := H
  refine ⟨z103, rfl, ?_⟩
  refine kw_aload_n dL_law_921 rfl ?_
  refine kw_aload_n dL_law_922 rfl ?_
  refine kw_iload_n dL_law_923 rfl ?_
  refine kw_iconst dL_law_924 ?_
  refine kw_iadd dL_law_925 ?_
  refine kw_scr dL_law_926 hLn (by omega) ?_
  refine k2_callV1I (ci := 9) (N := 38) (T := TX11) rfl (lsh_558 hL) m_X11_whole dL_law_927 wl_L_104 (Nat.le_of_ble_eq_true rfl) (kC2_mono H (fun r c106 H => ?_))
  obtain ⟨z105, rfl, H⟩ := H
  refine ⟨z105, rfl, ?_⟩
  have o107 := H.1
  have H := H.2
  refine kw_icmp_eqr 1404 dL_law_930 (by decide) o107 ?_
  exact kw_forget (ls' := [some (kA (-2)), some (kA 0), some (kA 558), some (kI x3)]) ⟨Or.inr rfl, ⟨Or.inr rfl, ⟨Or.inr rfl, ⟨Or.inr rfl, trivial⟩⟩⟩⟩ H
set_option maxRecDepth 4000 in
theorem v_L_law_935 {nm : String} {G : KG} {S0 : KSh} (hL : kLay S0) {d : Nat} {P : Option AV → KMem → Prop} {c : KMem} {x3 : Int} (r3 : 0 ≤ x3 ∧ x3 < 2147483648) (hLn : kLn G < 2147483648) (hp : 0 ≤ x3 ∧ x3 + 6 ≤ (kLn G : Int)) (H : kC2 G S0 kM_X10_book (d + 59) [kA 0, kI ((kxs G (Int.toNat (x3 + 1))).toInt)] c (kRI (fun z108 c109 => kC2 G S0 kM_X11_book (d + 59) [kA 558, kI ((kxs G (Int.toNat (x3 + 1))).toInt)] c109 (kRI (fun z110 c111 => (z110 = z108) ∧ (kW2 G S0 (kM_LW nm) (d + 60) 1404 [some (kA (-2)), some (kA 0), some (kA 558), some (kI x3)] [] c111 P)))))) : kW2 G S0 (kM_LW nm) (d + 60) 935 [some (kA (-2)), some (kA 0), some (kA 558), some (kI x3)] [] c P := by
  refine kw_aload_n dL_law_935 rfl ?_
  refine kw_aload_n dL_law_936 rfl ?_
  refine kw_iload_n dL_law_937 rfl ?_
  refine kw_iconst dL_law_938 ?_
  refine kw_iadd dL_law_939 ?_
  refine kw_scr dL_law_940 hLn (by omega) ?_
  refine k2_callV1I (ci := 8) (N := 20) (T := TX10) rfl (lsh_0 hL) m_X10_book dL_law_941 wl_L_105 (Nat.le_of_ble_eq_true rfl) (kC2_mono H (fun r c109 H => ?_))
  obtain ⟨z108, rfl, H⟩ := H
  refine ⟨z108, rfl, ?_⟩
  refine kw_aload_n dL_law_944 rfl ?_
  refine kw_aload_n dL_law_945 rfl ?_
  refine kw_iload_n dL_law_946 rfl ?_
  refine kw_iconst dL_law_947 ?_
  refine kw_iadd dL_law_948 ?_
  refine kw_scr dL_law_949 hLn (by omega) ?_
  refine k2_callV1I (ci := 9) (N := 38) (T := TX11) rfl (lsh_558 hL) m_X11_book dL_law_950 wl_L_108 (Nat.le_of_ble_eq_true rfl) (kC2_mono H (fun r c111 H => ?_))
  obtain ⟨z110, rfl, H⟩ := H
  refine ⟨z110, rfl, ?_⟩
  have o112 := H.1
  have H := H.2
  refine kw_icmp_eqr 1404 dL_law_953 (by decide) o112 ?_
  exact kw_forget (ls' := [some (kA (-2)), some (kA 0), some (kA 558), some (kI x3)]) ⟨Or.inr rfl, ⟨Or.inr rfl, ⟨Or.inr rfl, ⟨Or.inr rfl, trivial⟩⟩⟩⟩ H
set_option maxRecDepth 4000 in
theorem v_L_law_958 {nm : String} {G : KG} {S0 : KSh} (hL : kLay S0) {d : Nat} {P : Option AV → KMem → Prop} {c : KMem} {x3 : Int} (r3 : 0 ≤ x3 ∧ x3 < 2147483648) (hLn : kLn G < 2147483648) (hp : 0 ≤ x3 ∧ x3 + 6 ≤ (kLn G : Int)) (H : kC2 G S0 kM_X10_run (d + 59) [kA 0] c (kRI (fun z113 c114 => kC2 G S0 kM_X11_run (d + 59) [kA 558] c114 (kRI (fun z115 c116 => (z115 = z113) ∧ (kW2 G S0 (kM_LW nm) (d + 60) 1404 [some (kA (-2)), some (kA 0), some (kA 558), some (kI x3)] [] c116 P)))))) : kW2 G S0 (kM_LW nm) (d + 60) 958 [some (kA (-2)), some (kA 0), some (kA 558), some (kI x3)] [] c P := by
  refine kw_aload_n dL_law_958 rfl ?_
  refine k2_callV0I (ci := 8) (N := 20) (T := TX10) rfl (lsh_0 hL) m_X10_run dL_law_959 wl_L_109 (Nat.le_of_ble_eq_true rfl) (kC2_mono H (fun r c114 H => ?_))
  obtain ⟨z113, rfl, H⟩ := H
  refine ⟨z113, rfl, ?_⟩
  refine kw_aload_n dL_law_962 rfl ?_
  refine k2_callV0I (ci := 9) (N := 38) (T := TX11) rfl (lsh_558 hL) m_X11_run dL_law_963 wl_L_113 (Nat.le_of_ble_eq_true rfl) (kC2_mono H (fun r c116 H => ?_))
  obtain ⟨z115, rfl, H⟩ := H
  refine ⟨z115, rfl, ?_⟩
  have o117 := H.1
  have H := H.2
  refine kw_icmp_eqr 1404 dL_law_966 (by decide) o117 ?_
  exact kw_forget (ls' := [some (kA (-2)), some (kA 0), some (kA 558), some (kI x3)]) ⟨Or.inr rfl, ⟨Or.inr rfl, ⟨Or.inr rfl, ⟨Or.inr rfl, trivial⟩⟩⟩⟩ H
set_option maxRecDepth 4000 in
theorem v_L_law_971 {nm : String} {G : KG} {S0 : KSh} (hL : kLay S0) {d : Nat} {P : Option AV → KMem → Prop} {c : KMem} {x3 : Int} (r3 : 0 ≤ x3 ∧ x3 < 2147483648) (hLn : kLn G < 2147483648) (hp : 0 ≤ x3 ∧ x3 + 6 ≤ (kLn G : Int)) (H : kC2 G S0 kM_X10_trials (d + 59) [kA 0, kI ((kxs G (Int.toNat (x3 + 1))).toInt), kI ((kxs G (Int.toNat (x3 + 2))).toInt), kI ((kxs G (Int.toNat (x3 + 3))).toInt), kI ((kxs G (Int.toNat (x3 + 4))).toInt)] c (kRI (fun z118 c119 => kC2 G S0 kM_X11_trials (d + 59) [kA 558, kI ((kxs G (Int.toNat (x3 + 1))).toInt), kI ((kxs G (Int.toNat (x3 + 2))).toInt), kI ((kxs G (Int.toNat (x3 + 3))).toInt), kI ((kxs G (Int.toNat (x3 + 4))).toInt)] c119 (kRI (fun z120 c121 => (z120 = z118) ∧ (kW2 G S0 (kM_LW nm) (d + 60) 1404 [some (kA (-2)), some (kA 0), some (kA 558), some (kI x3)] [] c121 P)))))) : kW2 G S0 (kM_LW nm) (d + 60) 971 [some (kA (-2)), some (kA 0), some (kA 558), some (kI x3)] [] c P := by
  refine kw_aload_n dL_law_971 rfl ?_
  refine kw_aload_n dL_law_972 rfl ?_
  refine kw_iload_n dL_law_973 rfl ?_
  refine kw_iconst dL_law_974 ?_
  refine kw_iadd dL_law_975 ?_
  refine kw_scr dL_law_976 hLn (by omega) ?_
  refine kw_aload_n dL_law_977 rfl ?_
  refine kw_iload_n dL_law_978 rfl ?_
  refine kw_iconst dL_law_979 ?_
  refine kw_iadd dL_law_980 ?_
  refine kw_scr dL_law_981 hLn (by omega) ?_
  refine kw_aload_n dL_law_982 rfl ?_
  refine kw_iload_n dL_law_983 rfl ?_
  refine kw_iconst dL_law_984 ?_
  refine kw_iadd dL_law_985 ?_
  refine kw_scr dL_law_986 hLn (by omega) ?_
  refine kw_aload_n dL_law_987 rfl ?_
  refine kw_iload_n dL_law_988 rfl ?_
  refine kw_iconst dL_law_989 ?_
  refine kw_iadd dL_law_990 ?_
  refine kw_scr dL_law_991 hLn (by omega) ?_
  refine k2_callV4I (ci := 8) (N := 20) (T := TX10) rfl (lsh_0 hL) m_X10_trials dL_law_992 wl_L_114 (Nat.le_of_ble_eq_true rfl) (kC2_mono H (fun r c119 H => ?_))
  obtain ⟨z118, rfl, H⟩ := H
  refine ⟨z118, rfl, ?_⟩
  refine kw_aload_n dL_law_995 rfl ?_
  refine kw_aload_n dL_law_996 rfl ?_
  refine kw_iload_n dL_law_997 rfl ?_
  refine kw_iconst dL_law_998 ?_
  refine kw_iadd dL_law_999 ?_
  refine kw_scr dL_law_1000 hLn (by omega) ?_
  refine kw_aload_n dL_law_1001 rfl ?_
  refine kw_iload_n dL_law_1002 rfl ?_
  refine kw_iconst dL_law_1003 ?_
  refine kw_iadd dL_law_1004 ?_
  refine kw_scr dL_law_1005 hLn (by omega) ?_
  refine kw_aload_n dL_law_1006 rfl ?_
  refine kw_iload_n dL_law_1007 rfl ?_
  refine kw_iconst dL_law_1008 ?_
  refine kw_iadd dL_law_1009 ?_
  refine kw_scr dL_law_1010 hLn (by omega) ?_
  refine kw_aload_n dL_law_1011 rfl ?_
  refine kw_iload_n dL_law_1012 rfl ?_
  refine kw_iconst dL_law_1013 ?_
  refine kw_iadd dL_law_1014 ?_
  refine kw_scr dL_law_1015 hLn (by omega) ?_
  refine k2_callV4I (ci := 9) (N := 38) (T := TX11) rfl (lsh_558 hL) m_X11_trials dL_law_1016 wl_L_118 (Nat.le_of_ble_eq_true rfl) (kC2_mono H (fun r c121 H => ?_))
  obtain ⟨z120, rfl, H⟩ := H
  refine ⟨z120, rfl, ?_⟩
  have o122 := H.1
  have H := H.2
  refine kw_icmp_eqr 1404 dL_law_1019 (by decide) o122 ?_
  exact kw_forget (ls' := [some (kA (-2)), some (kA 0), some (kA 558), some (kI x3)]) ⟨Or.inr rfl, ⟨Or.inr rfl, ⟨Or.inr rfl, ⟨Or.inr rfl, trivial⟩⟩⟩⟩ H
set_option maxRecDepth 4000 in
theorem v_L_law_1024 {nm : String} {G : KG} {S0 : KSh} (hL : kLay S0) {d : Nat} {P : Option AV → KMem → Prop} {c : KMem} {x3 : Int} (r3 : 0 ≤ x3 ∧ x3 < 2147483648) (hLn : kLn G < 2147483648) (hp : 0 ≤ x3 ∧ x3 + 6 ≤ (kLn G : Int)) (H : kC2 G S0 kM_X10_like (d + 59) [kA 0, kI ((kxs G (Int.toNat (x3 + 1))).toInt), kI ((kxs G (Int.toNat (x3 + 2))).toInt)] c (kRI (fun z123 c124 => kC2 G S0 kM_X11_like (d + 59) [kA 558, kI ((kxs G (Int.toNat (x3 + 1))).toInt), kI ((kxs G (Int.toNat (x3 + 2))).toInt)] c124 (kRI (fun z125 c126 => (z125 = z123) ∧ (kW2 G S0 (kM_LW nm) (d + 60) 1404 [some (kA (-2)), some (kA 0), some (kA 558), some (kI x3)] [] c126 P)))))) : kW2 G S0 (kM_LW nm) (d + 60) 1024 [some (kA (-2)), some (kA 0), some (kA 558), some (kI x3)] [] c P := by
  refine kw_aload_n dL_law_1024 rfl ?_
  refine kw_aload_n dL_law_1025 rfl ?_
  refine kw_iload_n dL_law_1026 rfl ?_
  refine kw_iconst dL_law_1027 ?_
  refine kw_iadd dL_law_1028 ?_
  refine kw_scr dL_law_1029 hLn (by omega) ?_
  refine kw_aload_n dL_law_1030 rfl ?_
  refine kw_iload_n dL_law_1031 rfl ?_
  refine kw_iconst dL_law_1032 ?_
  refine kw_iadd dL_law_1033 ?_
  refine kw_scr dL_law_1034 hLn (by omega) ?_
  refine k2_callV2I (ci := 8) (N := 20) (T := TX10) rfl (lsh_0 hL) m_X10_like dL_law_1035 wl_L_119 (Nat.le_of_ble_eq_true rfl) (kC2_mono H (fun r c124 H => ?_))
  obtain ⟨z123, rfl, H⟩ := H
  refine ⟨z123, rfl, ?_⟩
  refine kw_aload_n dL_law_1038 rfl ?_
  refine kw_aload_n dL_law_1039 rfl ?_
  refine kw_iload_n dL_law_1040 rfl ?_
  refine kw_iconst dL_law_1041 ?_
  refine kw_iadd dL_law_1042 ?_
  refine kw_scr dL_law_1043 hLn (by omega) ?_
  refine kw_aload_n dL_law_1044 rfl ?_
  refine kw_iload_n dL_law_1045 rfl ?_
  refine kw_iconst dL_law_1046 ?_
  refine kw_iadd dL_law_1047 ?_
  refine kw_scr dL_law_1048 hLn (by omega) ?_
  refine k2_callV2I (ci := 9) (N := 38) (T := TX11) rfl (lsh_558 hL) m_X11_like dL_law_1049 wl_L_122 (Nat.le_of_ble_eq_true rfl) (kC2_mono H (fun r c126 H => ?_))
  obtain ⟨z125, rfl, H⟩ := H
  refine ⟨z125, rfl, ?_⟩
  have o127 := H.1
  have H := H.2
  refine kw_icmp_eqr 1404 dL_law_1052 (by decide) o127 ?_
  exact kw_forget (ls' := [some (kA (-2)), some (kA 0), some (kA 558), some (kI x3)]) ⟨Or.inr rfl, ⟨Or.inr rfl, ⟨Or.inr rfl, ⟨Or.inr rfl, trivial⟩⟩⟩⟩ H
set_option maxRecDepth 4000 in
theorem v_L_law_1057 {nm : String} {G : KG} {S0 : KSh} (hL : kLay S0) {d : Nat} {P : Option AV → KMem → Prop} {c : KMem} {x3 : Int} (r3 : 0 ≤ x3 ∧ x3 < 2147483648) (hLn : kLn G < 2147483648) (hp : 0 ≤ x3 ∧ x3 + 6 ≤ (kLn G : Int)) (H : kC2 G S0 kM_X10_lies (d + 59) [kA 0, kI ((kxs G (Int.toNat (x3 + 1))).toInt), kI ((kxs G (Int.toNat (x3 + 2))).toInt)] c (kRI (fun z128 c129 => kC2 G S0 kM_X11_lies (d + 59) [kA 558, kI ((kxs G (Int.toNat (x3 + 1))).toInt), kI ((kxs G (Int.toNat (x3 + 2))).toInt)] c129 (kRI (fun z130 c131 => (z130 = z128) ∧ (kW2 G S0 (kM_LW nm) (d + 60) 1404 [some (kA (-2)), some (kA 0), some (kA 558), some (kI x3)] [] c131 P)))))) : kW2 G S0 (kM_LW nm) (d + 60) 1057 [some (kA (-2)), some (kA 0), some (kA 558), some (kI x3)] [] c P := by
  refine kw_aload_n dL_law_1057 rfl ?_
  refine kw_aload_n dL_law_1058 rfl ?_
  refine kw_iload_n dL_law_1059 rfl ?_
  refine kw_iconst dL_law_1060 ?_
  refine kw_iadd dL_law_1061 ?_
  refine kw_scr dL_law_1062 hLn (by omega) ?_
  refine kw_aload_n dL_law_1063 rfl ?_
  refine kw_iload_n dL_law_1064 rfl ?_
  refine kw_iconst dL_law_1065 ?_
  refine kw_iadd dL_law_1066 ?_
  refine kw_scr dL_law_1067 hLn (by omega) ?_
  refine k2_callV2I (ci := 8) (N := 20) (T := TX10) rfl (lsh_0 hL) m_X10_lies dL_law_1068 wl_L_123 (Nat.le_of_ble_eq_true rfl) (kC2_mono H (fun r c129 H => ?_))
  obtain ⟨z128, rfl, H⟩ := H
  refine ⟨z128, rfl, ?_⟩
  refine kw_aload_n dL_law_1071 rfl ?_
  refine kw_aload_n dL_law_1072 rfl ?_
  refine kw_iload_n dL_law_1073 rfl ?_
  refine kw_iconst dL_law_1074 ?_
  refine kw_iadd dL_law_1075 ?_
  refine kw_scr dL_law_1076 hLn (by omega) ?_
  refine kw_aload_n dL_law_1077 rfl ?_
  refine kw_iload_n dL_law_1078 rfl ?_
  refine kw_iconst dL_law_1079 ?_
  refine kw_iadd dL_law_1080 ?_
  refine kw_scr dL_law_1081 hLn (by omega) ?_
  refine k2_callV2I (ci := 9) (N := 38) (T := TX11) rfl (lsh_558 hL) m_X11_lies dL_law_1082 wl_L_126 (Nat.le_of_ble_eq_true rfl) (kC2_mono H (fun r c131 H => ?_))
  obtain ⟨z130, rfl, H⟩ := H
  refine ⟨z130, rfl, ?_⟩
  have o132 := H.1
  have H := H.2
  refine kw_icmp_eqr 1404 dL_law_1085 (by decide) o132 ?_
  exact kw_forget (ls' := [some (kA (-2)), some (kA 0), some (kA 558), some (kI x3)]) ⟨Or.inr rfl, ⟨Or.inr rfl, ⟨Or.inr rfl, ⟨Or.inr rfl, trivial⟩⟩⟩⟩ H
set_option maxRecDepth 4000 in
theorem v_L_law_1090 {nm : String} {G : KG} {S0 : KSh} (hL : kLay S0) {d : Nat} {P : Option AV → KMem → Prop} {c : KMem} {x3 : Int} (r3 : 0 ≤ x3 ∧ x3 < 2147483648) (hLn : kLn G < 2147483648) (hp : 0 ≤ x3 ∧ x3 + 6 ≤ (kLn G : Int)) (H : kC2 G S0 kM_X10_meetings (d + 59) [kA 0, kI ((kxs G (Int.toNat (x3 + 1))).toInt)] c (kRI (fun z133 c134 => kC2 G S0 kM_X11_meetings (d + 59) [kA 558, kI ((kxs G (Int.toNat (x3 + 1))).toInt)] c134 (kRI (fun z135 c136 => (z135 = z133) ∧ (kW2 G S0 (kM_LW nm) (d + 60) 1404 [some (kA (-2)), some (kA 0), some (kA 558), some (kI x3)] [] c136 P)))))) : kW2 G S0 (kM_LW nm) (d + 60) 1090 [some (kA (-2)), some (kA 0), some (kA 558), some (kI x3)] [] c P := by
  refine kw_aload_n dL_law_1090 rfl ?_
  refine kw_aload_n dL_law_1091 rfl ?_
  refine kw_iload_n dL_law_1092 rfl ?_
  refine kw_iconst dL_law_1093 ?_
  refine kw_iadd dL_law_1094 ?_
  refine kw_scr dL_law_1095 hLn (by omega) ?_
  refine k2_callV1I (ci := 8) (N := 20) (T := TX10) rfl (lsh_0 hL) m_X10_meetings dL_law_1096 wl_L_127 (Nat.le_of_ble_eq_true rfl) (kC2_mono H (fun r c134 H => ?_))
  obtain ⟨z133, rfl, H⟩ := H
  refine ⟨z133, rfl, ?_⟩
  refine kw_aload_n dL_law_1099 rfl ?_
  refine kw_aload_n dL_law_1100 rfl ?_
  refine kw_iload_n dL_law_1101 rfl ?_
  refine kw_iconst dL_law_1102 ?_
  refine kw_iadd dL_law_1103 ?_
  refine kw_scr dL_law_1104 hLn (by omega) ?_
  refine k2_callV1I (ci := 9) (N := 38) (T := TX11) rfl (lsh_558 hL) m_X11_meetings dL_law_1105 wl_L_130 (Nat.le_of_ble_eq_true rfl) (kC2_mono H (fun r c136 H => ?_))
  obtain ⟨z135, rfl, H⟩ := H
  refine ⟨z135, rfl, ?_⟩
  have o137 := H.1
  have H := H.2
  refine kw_icmp_eqr 1404 dL_law_1108 (by decide) o137 ?_
  exact kw_forget (ls' := [some (kA (-2)), some (kA 0), some (kA 558), some (kI x3)]) ⟨Or.inr rfl, ⟨Or.inr rfl, ⟨Or.inr rfl, ⟨Or.inr rfl, trivial⟩⟩⟩⟩ H
set_option maxRecDepth 4000 in
theorem v_L_law_1113 {nm : String} {G : KG} {S0 : KSh} (hL : kLay S0) {d : Nat} {P : Option AV → KMem → Prop} {c : KMem} {x3 : Int} (r3 : 0 ≤ x3 ∧ x3 < 2147483648) (hLn : kLn G < 2147483648) (hp : 0 ≤ x3 ∧ x3 + 6 ≤ (kLn G : Int)) (H : kC2 G S0 kM_X10_turned (d + 59) [kA 0, kI ((kxs G (Int.toNat (x3 + 1))).toInt), kI ((kxs G (Int.toNat (x3 + 2))).toInt), kI ((kxs G (Int.toNat (x3 + 3))).toInt)] c (kRI (fun z138 c139 => kC2 G S0 kM_X11_turned (d + 59) [kA 558, kI ((kxs G (Int.toNat (x3 + 1))).toInt), kI ((kxs G (Int.toNat (x3 + 2))).toInt), kI ((kxs G (Int.toNat (x3 + 3))).toInt)] c139 (kRI (fun z140 c141 => (z140 = z138) ∧ (kW2 G S0 (kM_LW nm) (d + 60) 1404 [some (kA (-2)), some (kA 0), some (kA 558), some (kI x3)] [] c141 P)))))) : kW2 G S0 (kM_LW nm) (d + 60) 1113 [some (kA (-2)), some (kA 0), some (kA 558), some (kI x3)] [] c P := by
  refine kw_aload_n dL_law_1113 rfl ?_
  refine kw_aload_n dL_law_1114 rfl ?_
  refine kw_iload_n dL_law_1115 rfl ?_
  refine kw_iconst dL_law_1116 ?_
  refine kw_iadd dL_law_1117 ?_
  refine kw_scr dL_law_1118 hLn (by omega) ?_
  refine kw_aload_n dL_law_1119 rfl ?_
  refine kw_iload_n dL_law_1120 rfl ?_
  refine kw_iconst dL_law_1121 ?_
  refine kw_iadd dL_law_1122 ?_
  refine kw_scr dL_law_1123 hLn (by omega) ?_
  refine kw_aload_n dL_law_1124 rfl ?_
  refine kw_iload_n dL_law_1125 rfl ?_
  refine kw_iconst dL_law_1126 ?_
  refine kw_iadd dL_law_1127 ?_
  refine kw_scr dL_law_1128 hLn (by omega) ?_
  refine k2_callV3I (ci := 8) (N := 20) (T := TX10) rfl (lsh_0 hL) m_X10_turned dL_law_1129 wl_L_131 (Nat.le_of_ble_eq_true rfl) (kC2_mono H (fun r c139 H => ?_))
  obtain ⟨z138, rfl, H⟩ := H
  refine ⟨z138, rfl, ?_⟩
  refine kw_aload_n dL_law_1132 rfl ?_
  refine kw_aload_n dL_law_1133 rfl ?_
  refine kw_iload_n dL_law_1134 rfl ?_
  refine kw_iconst dL_law_1135 ?_
  refine kw_iadd dL_law_1136 ?_
  refine kw_scr dL_law_1137 hLn (by omega) ?_
  refine kw_aload_n dL_law_1138 rfl ?_
  refine kw_iload_n dL_law_1139 rfl ?_
  refine kw_iconst dL_law_1140 ?_
  refine kw_iadd dL_law_1141 ?_
  refine kw_scr dL_law_1142 hLn (by omega) ?_
  refine kw_aload_n dL_law_1143 rfl ?_
  refine kw_iload_n dL_law_1144 rfl ?_
  refine kw_iconst dL_law_1145 ?_
  refine kw_iadd dL_law_1146 ?_
  refine kw_scr dL_law_1147 hLn (by omega) ?_
  refine k2_callV3I (ci := 9) (N := 38) (T := TX11) rfl (lsh_558 hL) m_X11_turned dL_law_1148 wl_L_134 (Nat.le_of_ble_eq_true rfl) (kC2_mono H (fun r c141 H => ?_))
  obtain ⟨z140, rfl, H⟩ := H
  refine ⟨z140, rfl, ?_⟩
  have o142 := H.1
  have H := H.2
  refine kw_icmp_eqr 1404 dL_law_1151 (by decide) o142 ?_
  exact kw_forget (ls' := [some (kA (-2)), some (kA 0), some (kA 558), some (kI x3)]) ⟨Or.inr rfl, ⟨Or.inr rfl, ⟨Or.inr rfl, ⟨Or.inr rfl, trivial⟩⟩⟩⟩ H
set_option maxRecDepth 4000 in
theorem v_L_law_1156 {nm : String} {G : KG} {S0 : KSh} (hL : kLay S0) {d : Nat} {P : Option AV → KMem → Prop} {c : KMem} {x3 : Int} (r3 : 0 ≤ x3 ∧ x3 < 2147483648) (hLn : kLn G < 2147483648) (hp : 0 ≤ x3 ∧ x3 + 6 ≤ (kLn G : Int)) (H : kC2 G S0 kM_X10_brings (d + 59) [kA 0, kI ((kxs G (Int.toNat (x3 + 1))).toInt), kI ((kxs G (Int.toNat (x3 + 2))).toInt), kI ((kxs G (Int.toNat (x3 + 3))).toInt), kI ((kxs G (Int.toNat (x3 + 4))).toInt)] c (kRL (fun z143 c144 => kC2 G S0 kM_X11_brings (d + 59) [kA 558, kI ((kxs G (Int.toNat (x3 + 1))).toInt), kI ((kxs G (Int.toNat (x3 + 2))).toInt), kI ((kxs G (Int.toNat (x3 + 3))).toInt), kI ((kxs G (Int.toNat (x3 + 4))).toInt)] c144 (kRL (fun z145 c146 => (z145 = z143) ∧ (kW2 G S0 (kM_LW nm) (d + 60) 1404 [some (kA (-2)), some (kA 0), some (kA 558), some (kI x3)] [] c146 P)))))) : kW2 G S0 (kM_LW nm) (d + 60) 1156 [some (kA (-2)), some (kA 0), some (kA 558), some (kI x3)] [] c P := by
  refine kw_aload_n dL_law_1156 rfl ?_
  refine kw_aload_n dL_law_1157 rfl ?_
  refine kw_iload_n dL_law_1158 rfl ?_
  refine kw_iconst dL_law_1159 ?_
  refine kw_iadd dL_law_1160 ?_
  refine kw_scr dL_law_1161 hLn (by omega) ?_
  refine kw_aload_n dL_law_1162 rfl ?_
  refine kw_iload_n dL_law_1163 rfl ?_
  refine kw_iconst dL_law_1164 ?_
  refine kw_iadd dL_law_1165 ?_
  refine kw_scr dL_law_1166 hLn (by omega) ?_
  refine kw_aload_n dL_law_1167 rfl ?_
  refine kw_iload_n dL_law_1168 rfl ?_
  refine kw_iconst dL_law_1169 ?_
  refine kw_iadd dL_law_1170 ?_
  refine kw_scr dL_law_1171 hLn (by omega) ?_
  refine kw_aload_n dL_law_1172 rfl ?_
  refine kw_iload_n dL_law_1173 rfl ?_
  refine kw_iconst dL_law_1174 ?_
  refine kw_iadd dL_law_1175 ?_
  refine kw_scr dL_law_1176 hLn (by omega) ?_
  refine k2_callV4L (ci := 8) (N := 20) (T := TX10) rfl (lsh_0 hL) m_X10_brings dL_law_1177 wl_L_135 (Nat.le_of_ble_eq_true rfl) (kC2_mono H (fun r c144 H => ?_))
  obtain ⟨z143, rfl, H⟩ := H
  refine ⟨z143, rfl, ?_⟩
  refine kw_aload_n dL_law_1180 rfl ?_
  refine kw_aload_n dL_law_1181 rfl ?_
  refine kw_iload_n dL_law_1182 rfl ?_
  refine kw_iconst dL_law_1183 ?_
  refine kw_iadd dL_law_1184 ?_
  refine kw_scr dL_law_1185 hLn (by omega) ?_
  refine kw_aload_n dL_law_1186 rfl ?_
  refine kw_iload_n dL_law_1187 rfl ?_
  refine kw_iconst dL_law_1188 ?_
  refine kw_iadd dL_law_1189 ?_
  refine kw_scr dL_law_1190 hLn (by omega) ?_
  refine kw_aload_n dL_law_1191 rfl ?_
  refine kw_iload_n dL_law_1192 rfl ?_
  refine kw_iconst dL_law_1193 ?_
  refine kw_iadd dL_law_1194 ?_
  refine kw_scr dL_law_1195 hLn (by omega) ?_
  refine kw_aload_n dL_law_1196 rfl ?_
  refine kw_iload_n dL_law_1197 rfl ?_
  refine kw_iconst dL_law_1198 ?_
  refine kw_iadd dL_law_1199 ?_
  refine kw_scr dL_law_1200 hLn (by omega) ?_
  refine k2_callV4L (ci := 9) (N := 38) (T := TX11) rfl (lsh_558 hL) m_X11_brings dL_law_1201 wl_L_138 (Nat.le_of_ble_eq_true rfl) (kC2_mono H (fun r c146 H => ?_))
  obtain ⟨z145, rfl, H⟩ := H
  refine ⟨z145, rfl, ?_⟩
  have o147 := H.1
  have H := H.2
  refine kw_lcmp_eqr 1404 dL_law_1204 dL_law_1205 (by decide) o147 ?_
  exact kw_forget (ls' := [some (kA (-2)), some (kA 0), some (kA 558), some (kI x3)]) ⟨Or.inr rfl, ⟨Or.inr rfl, ⟨Or.inr rfl, ⟨Or.inr rfl, trivial⟩⟩⟩⟩ H
set_option maxRecDepth 4000 in
theorem v_L_law_1210 {nm : String} {G : KG} {S0 : KSh} (hL : kLay S0) {d : Nat} {P : Option AV → KMem → Prop} {c : KMem} {x3 : Int} (r3 : 0 ≤ x3 ∧ x3 < 2147483648) (hLn : kLn G < 2147483648) (hp : 0 ≤ x3 ∧ x3 + 6 ≤ (kLn G : Int)) (H : kC2 G S0 kM_X10_brought (d + 59) [kA 0, kI ((kxs G (Int.toNat (x3 + 1))).toInt), kI ((kxs G (Int.toNat (x3 + 2))).toInt), kI ((kxs G (Int.toNat (x3 + 3))).toInt)] c (kRI (fun z148 c149 => kC2 G S0 kM_X11_brought (d + 59) [kA 558, kI ((kxs G (Int.toNat (x3 + 1))).toInt), kI ((kxs G (Int.toNat (x3 + 2))).toInt), kI ((kxs G (Int.toNat (x3 + 3))).toInt)] c149 (kRI (fun z150 c151 => (z150 = z148) ∧ (kW2 G S0 (kM_LW nm) (d + 60) 1404 [some (kA (-2)), some (kA 0), some (kA 558), some (kI x3)] [] c151 P)))))) : kW2 G S0 (kM_LW nm) (d + 60) 1210 [some (kA (-2)), some (kA 0), some (kA 558), some (kI x3)] [] c P := by
  refine kw_aload_n dL_law_1210 rfl ?_
  refine kw_aload_n dL_law_1211 rfl ?_
  refine kw_iload_n dL_law_1212 rfl ?_
  refine kw_iconst dL_law_1213 ?_
  refine kw_iadd dL_law_1214 ?_
  refine kw_scr dL_law_1215 hLn (by omega) ?_
  refine kw_aload_n dL_law_1216 rfl ?_
  refine kw_iload_n dL_law_1217 rfl ?_
  refine kw_iconst dL_law_1218 ?_
  refine kw_iadd dL_law_1219 ?_
  refine kw_scr dL_law_1220 hLn (by omega) ?_
  refine kw_aload_n dL_law_1221 rfl ?_
  refine kw_iload_n dL_law_1222 rfl ?_
  refine kw_iconst dL_law_1223 ?_
  refine kw_iadd dL_law_1224 ?_
  refine kw_scr dL_law_1225 hLn (by omega) ?_
  refine k2_callV3I (ci := 8) (N := 20) (T := TX10) rfl (lsh_0 hL) m_X10_brought dL_law_1226 wl_L_139 (Nat.le_of_ble_eq_true rfl) (kC2_mono H (fun r c149 H => ?_))
  obtain ⟨z148, rfl, H⟩ := H
  refine ⟨z148, rfl, ?_⟩
  refine kw_aload_n dL_law_1229 rfl ?_
  refine kw_aload_n dL_law_1230 rfl ?_
  refine kw_iload_n dL_law_1231 rfl ?_
  refine kw_iconst dL_law_1232 ?_
  refine kw_iadd dL_law_1233 ?_
  refine kw_scr dL_law_1234 hLn (by omega) ?_
  refine kw_aload_n dL_law_1235 rfl ?_
  refine kw_iload_n dL_law_1236 rfl ?_
  refine kw_iconst dL_law_1237 ?_
  refine kw_iadd dL_law_1238 ?_
  refine kw_scr dL_law_1239 hLn (by omega) ?_
  refine kw_aload_n dL_law_1240 rfl ?_
  refine kw_iload_n dL_law_1241 rfl ?_
  refine kw_iconst dL_law_1242 ?_
  refine kw_iadd dL_law_1243 ?_
  refine kw_scr dL_law_1244 hLn (by omega) ?_
  refine k2_callV3I (ci := 9) (N := 38) (T := TX11) rfl (lsh_558 hL) m_X11_brought dL_law_1245 wl_L_142 (Nat.le_of_ble_eq_true rfl) (kC2_mono H (fun r c151 H => ?_))
  obtain ⟨z150, rfl, H⟩ := H
  refine ⟨z150, rfl, ?_⟩
  have o152 := H.1
  have H := H.2
  refine kw_icmp_eqr 1404 dL_law_1248 (by decide) o152 ?_
  exact kw_forget (ls' := [some (kA (-2)), some (kA 0), some (kA 558), some (kI x3)]) ⟨Or.inr rfl, ⟨Or.inr rfl, ⟨Or.inr rfl, ⟨Or.inr rfl, trivial⟩⟩⟩⟩ H
set_option maxRecDepth 4000 in
theorem v_L_law_1253 {nm : String} {G : KG} {S0 : KSh} (hL : kLay S0) {d : Nat} {P : Option AV → KMem → Prop} {c : KMem} {x3 : Int} (r3 : 0 ≤ x3 ∧ x3 < 2147483648) (hLn : kLn G < 2147483648) (hp : 0 ≤ x3 ∧ x3 + 6 ≤ (kLn G : Int)) (H : kC2 G S0 kM_X10_come (d + 59) [kA 0, kI ((kxs G (Int.toNat (x3 + 1))).toInt), kI ((kxs G (Int.toNat (x3 + 2))).toInt), kI ((kxs G (Int.toNat (x3 + 3))).toInt)] c (kRI (fun z153 c154 => kC2 G S0 kM_X11_come (d + 59) [kA 558, kI ((kxs G (Int.toNat (x3 + 1))).toInt), kI ((kxs G (Int.toNat (x3 + 2))).toInt), kI ((kxs G (Int.toNat (x3 + 3))).toInt)] c154 (kRI (fun z155 c156 => (z155 = z153) ∧ (kW2 G S0 (kM_LW nm) (d + 60) 1404 [some (kA (-2)), some (kA 0), some (kA 558), some (kI x3)] [] c156 P)))))) : kW2 G S0 (kM_LW nm) (d + 60) 1253 [some (kA (-2)), some (kA 0), some (kA 558), some (kI x3)] [] c P := by
  refine kw_aload_n dL_law_1253 rfl ?_
  refine kw_aload_n dL_law_1254 rfl ?_
  refine kw_iload_n dL_law_1255 rfl ?_
  refine kw_iconst dL_law_1256 ?_
  refine kw_iadd dL_law_1257 ?_
  refine kw_scr dL_law_1258 hLn (by omega) ?_
  refine kw_aload_n dL_law_1259 rfl ?_
  refine kw_iload_n dL_law_1260 rfl ?_
  refine kw_iconst dL_law_1261 ?_
  refine kw_iadd dL_law_1262 ?_
  refine kw_scr dL_law_1263 hLn (by omega) ?_
  refine kw_aload_n dL_law_1264 rfl ?_
  refine kw_iload_n dL_law_1265 rfl ?_
  refine kw_iconst dL_law_1266 ?_
  refine kw_iadd dL_law_1267 ?_
  refine kw_scr dL_law_1268 hLn (by omega) ?_
  refine k2_callV3I (ci := 8) (N := 20) (T := TX10) rfl (lsh_0 hL) m_X10_come dL_law_1269 wl_L_143 (Nat.le_of_ble_eq_true rfl) (kC2_mono H (fun r c154 H => ?_))
  obtain ⟨z153, rfl, H⟩ := H
  refine ⟨z153, rfl, ?_⟩
  refine kw_aload_n dL_law_1272 rfl ?_
  refine kw_aload_n dL_law_1273 rfl ?_
  refine kw_iload_n dL_law_1274 rfl ?_
  refine kw_iconst dL_law_1275 ?_
  refine kw_iadd dL_law_1276 ?_
  refine kw_scr dL_law_1277 hLn (by omega) ?_
  refine kw_aload_n dL_law_1278 rfl ?_
  refine kw_iload_n dL_law_1279 rfl ?_
  refine kw_iconst dL_law_1280 ?_
  refine kw_iadd dL_law_1281 ?_
  refine kw_scr dL_law_1282 hLn (by omega) ?_
  refine kw_aload_n dL_law_1283 rfl ?_
  refine kw_iload_n dL_law_1284 rfl ?_
  refine kw_iconst dL_law_1285 ?_
  refine kw_iadd dL_law_1286 ?_
  refine kw_scr dL_law_1287 hLn (by omega) ?_
  refine k2_callV3I (ci := 9) (N := 38) (T := TX11) rfl (lsh_558 hL) m_X11_come dL_law_1288 wl_L_146 (Nat.le_of_ble_eq_true rfl) (kC2_mono H (fun r c156 H => ?_))
  obtain ⟨z155, rfl, H⟩ := H
  refine ⟨z155, rfl, ?_⟩
  have o157 := H.1
  have H := H.2
  refine kw_icmp_eqr 1404 dL_law_1291 (by decide) o157 ?_
  exact kw_forget (ls' := [some (kA (-2)), some (kA 0), some (kA 558), some (kI x3)]) ⟨Or.inr rfl, ⟨Or.inr rfl, ⟨Or.inr rfl, ⟨Or.inr rfl, trivial⟩⟩⟩⟩ H
set_option maxRecDepth 4000 in
theorem v_L_law_1296 {nm : String} {G : KG} {S0 : KSh} (hL : kLay S0) {d : Nat} {P : Option AV → KMem → Prop} {c : KMem} {x3 : Int} (r3 : 0 ≤ x3 ∧ x3 < 2147483648) (hLn : kLn G < 2147483648) (hp : 0 ≤ x3 ∧ x3 + 6 ≤ (kLn G : Int)) (H : kC2 G S0 kM_X10_back (d + 59) [kA 0] c (kRI (fun z158 c159 => kC2 G S0 kM_X11_back (d + 59) [kA 558] c159 (kRI (fun z160 c161 => (z160 = z158) ∧ (kW2 G S0 (kM_LW nm) (d + 60) 1404 [some (kA (-2)), some (kA 0), some (kA 558), some (kI x3)] [] c161 P)))))) : kW2 G S0 (kM_LW nm) (d + 60) 1296 [some (kA (-2)), some (kA 0), some (kA 558), some (kI x3)] [] c P := by
  refine kw_aload_n dL_law_1296 rfl ?_
  refine k2_callV0I (ci := 8) (N := 20) (T := TX10) rfl (lsh_0 hL) m_X10_back dL_law_1297 wl_L_147 (Nat.le_of_ble_eq_true rfl) (kC2_mono H (fun r c159 H => ?_))
  obtain ⟨z158, rfl, H⟩ := H
  refine ⟨z158, rfl, ?_⟩
  refine kw_aload_n dL_law_1300 rfl ?_
  refine k2_callV0I (ci := 9) (N := 38) (T := TX11) rfl (lsh_558 hL) m_X11_back dL_law_1301 wl_L_150 (Nat.le_of_ble_eq_true rfl) (kC2_mono H (fun r c161 H => ?_))
  obtain ⟨z160, rfl, H⟩ := H
  refine ⟨z160, rfl, ?_⟩
  have o162 := H.1
  have H := H.2
  refine kw_icmp_eqr 1404 dL_law_1304 (by decide) o162 ?_
  exact kw_forget (ls' := [some (kA (-2)), some (kA 0), some (kA 558), some (kI x3)]) ⟨Or.inr rfl, ⟨Or.inr rfl, ⟨Or.inr rfl, ⟨Or.inr rfl, trivial⟩⟩⟩⟩ H
set_option maxRecDepth 4000 in
theorem v_L_law_1309 {nm : String} {G : KG} {S0 : KSh} (hL : kLay S0) {d : Nat} {P : Option AV → KMem → Prop} {c : KMem} {x3 : Int} (r3 : 0 ≤ x3 ∧ x3 < 2147483648) (hLn : kLn G < 2147483648) (hp : 0 ≤ x3 ∧ x3 + 6 ≤ (kLn G : Int)) (H : kC2 G S0 kM_X10_seed (d + 59) [kA 0, kI ((kxs G (Int.toNat (x3 + 1))).toInt)] c (kRI (fun z163 c164 => kC2 G S0 kM_X11_seed (d + 59) [kA 558, kI ((kxs G (Int.toNat (x3 + 1))).toInt)] c164 (kRI (fun z165 c166 => (z165 = z163) ∧ (kW2 G S0 (kM_LW nm) (d + 60) 1404 [some (kA (-2)), some (kA 0), some (kA 558), some (kI x3)] [] c166 P)))))) : kW2 G S0 (kM_LW nm) (d + 60) 1309 [some (kA (-2)), some (kA 0), some (kA 558), some (kI x3)] [] c P := by
  refine kw_aload_n dL_law_1309 rfl ?_
  refine kw_aload_n dL_law_1310 rfl ?_
  refine kw_iload_n dL_law_1311 rfl ?_
  refine kw_iconst dL_law_1312 ?_
  refine kw_iadd dL_law_1313 ?_
  refine kw_scr dL_law_1314 hLn (by omega) ?_
  refine k2_callV1I (ci := 8) (N := 20) (T := TX10) rfl (lsh_0 hL) m_X10_seed dL_law_1315 wl_L_151 (Nat.le_of_ble_eq_true rfl) (kC2_mono H (fun r c164 H => ?_))
  obtain ⟨z163, rfl, H⟩ := H
  refine ⟨z163, rfl, ?_⟩
  refine kw_aload_n dL_law_1318 rfl ?_
  refine kw_aload_n dL_law_1319 rfl ?_
  refine kw_iload_n dL_law_1320 rfl ?_
  refine kw_iconst dL_law_1321 ?_
  refine kw_iadd dL_law_1322 ?_
  refine kw_scr dL_law_1323 hLn (by omega) ?_
  refine k2_callV1I (ci := 9) (N := 38) (T := TX11) rfl (lsh_558 hL) m_X11_seed dL_law_1324 wl_L_154 (Nat.le_of_ble_eq_true rfl) (kC2_mono H (fun r c166 H => ?_))
  obtain ⟨z165, rfl, H⟩ := H
  refine ⟨z165, rfl, ?_⟩
  have o167 := H.1
  have H := H.2
  refine kw_icmp_eqr 1404 dL_law_1327 (by decide) o167 ?_
  exact kw_forget (ls' := [some (kA (-2)), some (kA 0), some (kA 558), some (kI x3)]) ⟨Or.inr rfl, ⟨Or.inr rfl, ⟨Or.inr rfl, ⟨Or.inr rfl, trivial⟩⟩⟩⟩ H
set_option maxRecDepth 4000 in
theorem v_L_law_1332 {nm : String} {G : KG} {S0 : KSh} (hL : kLay S0) {d : Nat} {P : Option AV → KMem → Prop} {c : KMem} {x3 : Int} (r3 : 0 ≤ x3 ∧ x3 < 2147483648) (hLn : kLn G < 2147483648) (hp : 0 ≤ x3 ∧ x3 + 6 ≤ (kLn G : Int)) (H : kC2 G S0 kM_X10_keep (d + 59) [kA 0] c (kRI (fun z168 c169 => kC2 G S0 kM_X11_keep (d + 59) [kA 558] c169 (kRI (fun z170 c171 => (z170 = z168) ∧ (kW2 G S0 (kM_LW nm) (d + 60) 1404 [some (kA (-2)), some (kA 0), some (kA 558), some (kI x3)] [] c171 P)))))) : kW2 G S0 (kM_LW nm) (d + 60) 1332 [some (kA (-2)), some (kA 0), some (kA 558), some (kI x3)] [] c P := by
  refine kw_aload_n dL_law_1332 rfl ?_
  refine k2_callV0I (ci := 8) (N := 20) (T := TX10) rfl (lsh_0 hL) m_X10_keep dL_law_1333 wl_L_155 (Nat.le_of_ble_eq_true rfl) (kC2_mono H (fun r c169 H => ?_))
  obtain ⟨z168, rfl, H⟩ := H
  refine ⟨z168, rfl, ?_⟩
  refine kw_aload_n dL_law_1336 rfl ?_
  refine k2_callV0I (ci := 9) (N := 38) (T := TX11) rfl (lsh_558 hL) m_X11_keep dL_law_1337 wl_L_158 (Nat.le_of_ble_eq_true rfl) (kC2_mono H (fun r c171 H => ?_))
  obtain ⟨z170, rfl, H⟩ := H
  refine ⟨z170, rfl, ?_⟩
  have o172 := H.1
  have H := H.2
  refine kw_icmp_eqr 1404 dL_law_1340 (by decide) o172 ?_
  exact kw_forget (ls' := [some (kA (-2)), some (kA 0), some (kA 558), some (kI x3)]) ⟨Or.inr rfl, ⟨Or.inr rfl, ⟨Or.inr rfl, ⟨Or.inr rfl, trivial⟩⟩⟩⟩ H
set_option maxRecDepth 4000 in
theorem v_L_law_1345 {nm : String} {G : KG} {S0 : KSh} (hL : kLay S0) {d : Nat} {P : Option AV → KMem → Prop} {c : KMem} {x3 : Int} (r3 : 0 ≤ x3 ∧ x3 < 2147483648) (hLn : kLn G < 2147483648) (hp : 0 ≤ x3 ∧ x3 + 6 ≤ (kLn G : Int)) (H : kC2 G S0 kM_X10_undo (d + 59) [kA 0] c (kRI (fun z173 c174 => kC2 G S0 kM_X11_undo (d + 59) [kA 558] c174 (kRI (fun z175 c176 => (z175 = z173) ∧ (kW2 G S0 (kM_LW nm) (d + 60) 1404 [some (kA (-2)), some (kA 0), some (kA 558), some (kI x3)] [] c176 P)))))) : kW2 G S0 (kM_LW nm) (d + 60) 1345 [some (kA (-2)), some (kA 0), some (kA 558), some (kI x3)] [] c P := by
  refine kw_aload_n dL_law_1345 rfl ?_
  refine k2_callV0I (ci := 8) (N := 20) (T := TX10) rfl (lsh_0 hL) m_X10_undo dL_law_1346 wl_L_159 (Nat.le_of_ble_eq_true rfl) (kC2_mono H (fun r c174 H => ?_))
  obtain ⟨z173, rfl, H⟩ := H
  refine ⟨z173, rfl, ?_⟩
  refine kw_aload_n dL_law_1349 rfl ?_
  refine k2_callV0I (ci := 9) (N := 38) (T := TX11) rfl (lsh_558 hL) m_X11_undo dL_law_1350 wl_L_163 (Nat.le_of_ble_eq_true rfl) (kC2_mono H (fun r c176 H => ?_))
  obtain ⟨z175, rfl, H⟩ := H
  refine ⟨z175, rfl, ?_⟩
  have o177 := H.1
  have H := H.2
  refine kw_icmp_eqr 1404 dL_law_1353 (by decide) o177 ?_
  exact kw_forget (ls' := [some (kA (-2)), some (kA 0), some (kA 558), some (kI x3)]) ⟨Or.inr rfl, ⟨Or.inr rfl, ⟨Or.inr rfl, ⟨Or.inr rfl, trivial⟩⟩⟩⟩ H
set_option maxRecDepth 4000 in
theorem v_L_law_1358 {nm : String} {G : KG} {S0 : KSh} (hL : kLay S0) {d : Nat} {P : Option AV → KMem → Prop} {c : KMem} {x3 : Int} (r3 : 0 ≤ x3 ∧ x3 < 2147483648) (hLn : kLn G < 2147483648) (hp : 0 ≤ x3 ∧ x3 + 6 ≤ (kLn G : Int)) (H : kC2 G S0 kM_X10_check (d + 59) [kA 0, kI ((kxs G (Int.toNat (x3 + 1))).toInt)] c (kRI (fun z178 c179 => kC2 G S0 kM_X11_check (d + 59) [kA 558, kI ((kxs G (Int.toNat (x3 + 1))).toInt)] c179 (kRI (fun z180 c181 => (z180 = z178) ∧ (kW2 G S0 (kM_LW nm) (d + 60) 1404 [some (kA (-2)), some (kA 0), some (kA 558), some (kI x3)] [] c181 P)))))) : kW2 G S0 (kM_LW nm) (d + 60) 1358 [some (kA (-2)), some (kA 0), some (kA 558), some (kI x3)] [] c P := by
  refine kw_aload_n dL_law_1358 rfl ?_
  refine kw_aload_n dL_law_1359 rfl ?_
  refine kw_iload_n dL_law_1360 rfl ?_
  refine kw_iconst dL_law_1361 ?_
  refine kw_iadd dL_law_1362 ?_
  refine kw_scr dL_law_1363 hLn (by omega) ?_
  refine k2_callV1I (ci := 8) (N := 20) (T := TX10) rfl (lsh_0 hL) m_X10_check dL_law_1364 wl_L_164 (Nat.le_of_ble_eq_true rfl) (kC2_mono H (fun r c179 H => ?_))
  obtain ⟨z178, rfl, H⟩ := H
  refine ⟨z178, rfl, ?_⟩
  refine kw_aload_n dL_law_1367 rfl ?_
  refine kw_aload_n dL_law_1368 rfl ?_
  refine kw_iload_n dL_law_1369 rfl ?_
  refine kw_iconst dL_law_1370 ?_
  refine kw_iadd dL_law_1371 ?_
  refine kw_scr dL_law_1372 hLn (by omega) ?_
  refine k2_callV1I (ci := 9) (N := 38) (T := TX11) rfl (lsh_558 hL) m_X11_check dL_law_1373 wl_L_167 (Nat.le_of_ble_eq_true rfl) (kC2_mono H (fun r c181 H => ?_))
  obtain ⟨z180, rfl, H⟩ := H
  refine ⟨z180, rfl, ?_⟩
  have o182 := H.1
  have H := H.2
  refine kw_icmp_eqr 1404 dL_law_1376 (by decide) o182 ?_
  exact kw_forget (ls' := [some (kA (-2)), some (kA 0), some (kA 558), some (kI x3)]) ⟨Or.inr rfl, ⟨Or.inr rfl, ⟨Or.inr rfl, ⟨Or.inr rfl, trivial⟩⟩⟩⟩ H
set_option maxRecDepth 4000 in
theorem v_L_law_1381 {nm : String} {G : KG} {S0 : KSh} (hL : kLay S0) {d : Nat} {P : Option AV → KMem → Prop} {c : KMem} {x3 : Int} (r3 : 0 ≤ x3 ∧ x3 < 2147483648) (hLn : kLn G < 2147483648) (hp : 0 ≤ x3 ∧ x3 + 6 ≤ (kLn G : Int)) (H : kC2 G S0 kM_X10_count (d + 59) [kA 0, kI ((kxs G (Int.toNat (x3 + 1))).toInt)] c (kRI (fun z183 c184 => kC2 G S0 kM_X11_count (d + 59) [kA 558, kI ((kxs G (Int.toNat (x3 + 1))).toInt)] c184 (kRI (fun z185 c186 => (z185 = z183) ∧ (kW2 G S0 (kM_LW nm) (d + 60) 1404 [some (kA (-2)), some (kA 0), some (kA 558), some (kI x3)] [] c186 P)))))) : kW2 G S0 (kM_LW nm) (d + 60) 1381 [some (kA (-2)), some (kA 0), some (kA 558), some (kI x3)] [] c P := by
  refine kw_aload_n dL_law_1381 rfl ?_
  refine kw_aload_n dL_law_1382 rfl ?_
  refine kw_iload_n dL_law_1383 rfl ?_
  refine kw_iconst dL_law_1384 ?_
  refine kw_iadd dL_law_1385 ?_
  refine kw_scr dL_law_1386 hLn (by omega) ?_
  refine k2_callV1I (ci := 8) (N := 20) (T := TX10) rfl (lsh_0 hL) m_X10_count dL_law_1387 wl_L_168 (Nat.le_of_ble_eq_true rfl) (kC2_mono H (fun r c184 H => ?_))
  obtain ⟨z183, rfl, H⟩ := H
  refine ⟨z183, rfl, ?_⟩
  refine kw_aload_n dL_law_1390 rfl ?_
  refine kw_aload_n dL_law_1391 rfl ?_
  refine kw_iload_n dL_law_1392 rfl ?_
  refine kw_iconst dL_law_1393 ?_
  refine kw_iadd dL_law_1394 ?_
  refine kw_scr dL_law_1395 hLn (by omega) ?_
  refine k2_callV1I (ci := 9) (N := 38) (T := TX11) rfl (lsh_558 hL) m_X11_count dL_law_1396 wl_L_171 (Nat.le_of_ble_eq_true rfl) (kC2_mono H (fun r c186 H => ?_))
  obtain ⟨z185, rfl, H⟩ := H
  refine ⟨z185, rfl, ?_⟩
  have o187 := H.1
  have H := H.2
  refine kw_icmp_eqr 1404 dL_law_1399 (by decide) o187 ?_
  exact kw_forget (ls' := [some (kA (-2)), some (kA 0), some (kA 558), some (kI x3)]) ⟨Or.inr rfl, ⟨Or.inr rfl, ⟨Or.inr rfl, ⟨Or.inr rfl, trivial⟩⟩⟩⟩ H
