set_option maxRecDepth 4000 in
theorem v_X11_init_147 {G : KG} {S0 : KSh} (hL : kLay S0) {d : Nat} {P : Option AV → KMem → Prop} {c : KMem}  (H : kW2 G S0 kM_X11_init (d + 2) 149 [some (kA 558), some (kI 0), none] [] c P) : kW2 G S0 kM_X11_init (d + 2) 147 [some (kA 558), none, none] [] c P := by
  refine kw_iconst dX11_init_147 ?_
  refine kw_istore_n dX11_init_148 (Nat.le_of_ble_eq_true rfl) ?_
  exact kw_forget (ls' := [some (kA 558), some (kI 0), none]) ⟨Or.inr rfl, ⟨Or.inr rfl, ⟨Or.inr rfl, trivial⟩⟩⟩ H
set_option maxRecDepth 4000 in
theorem v_X11_init_149 {G : KG} {S0 : KSh} (hL : kLay S0) {d : Nat} {P : Option AV → KMem → Prop} {c : KMem} {x1 : Int} (r1 : 0 ≤ x1 ∧ x1 < 2147483648) (hp : 0 ≤ x1 ∧ x1 ≤ 16) (H : (16 ≤ x1 → (P none (kup (kup (kup c 558 12 1) 559 484 1) 559 488 1))) ∧ (x1 < 16 → (kW2 G S0 kM_X11_init (d + 2) 157 [some (kA 558), some (kI x1), some (kI 0)] [] c P))) : kW2 G S0 kM_X11_init (d + 2) 149 [some (kA 558), some (kI x1), none] [] c P := by
  refine kw_iload_n dX11_init_149 rfl ?_
  refine kw_bipush dX11_init_150 (by decide) ?_
  refine kw_icmp_ge 192 dX11_init_152 (by decide) (k32i (by omega)) (k32i (by omega)) (fun h1 => ?_) (fun h1 => ?_)
  · have H := H.1 h1
    refine kw_aload_n dX11_init_192 rfl ?_
    refine kw_iconst dX11_init_193 ?_
    refine k2_putI fp_X11_12 dX11_init_194 wf_X11_68 (lsh_558 hL) ?_
    refine kw_aload_n dX11_init_197 rfl ?_
    refine k2_getR fd_X11_0 dX11_init_198 wf_X11_7 (lsh_558 hL) (lrf_558_0 hL) ?_
    refine kw_sipush dX11_init_201 (by decide) ?_
    refine kw_lconst1 dX11_init_204 ?_
    refine k2_last dX11_init_205 (lsh_559 hL) (by omega) (by omega) ?_
    refine kw_aload_n dX11_init_206 rfl ?_
    refine k2_getR fd_X11_0 dX11_init_207 wf_X11_7 (lsh_558 hL) (lrf_558_0 hL) ?_
    refine kw_sipush dX11_init_210 (by decide) ?_
    refine kw_lconst1 dX11_init_213 ?_
    refine k2_last dX11_init_214 (lsh_559 hL) (by omega) (by omega) ?_
    refine k2_ret dX11_init_215 rfl H
  · have H := H.2 h1
    refine kw_iconst dX11_init_155 ?_
    refine kw_istore_n dX11_init_156 (Nat.le_of_ble_eq_true rfl) ?_
    exact kw_forget (ls' := [some (kA 558), some (kI x1), some (kI 0)]) ⟨Or.inr rfl, ⟨Or.inr rfl, ⟨Or.inr rfl, trivial⟩⟩⟩ H
set_option maxRecDepth 4000 in
theorem v_X11_init_157 {G : KG} {S0 : KSh} (hL : kLay S0) {d : Nat} {P : Option AV → KMem → Prop} {c : KMem} {x1 x2 : Int} (r1 : 0 ≤ x1 ∧ x1 < 2147483648) (r2 : 0 ≤ x2 ∧ x2 < 2147483648) (hp : 0 ≤ x1 ∧ x1 < 16 ∧ 0 ≤ x2 ∧ x2 ≤ 16) (H : (16 ≤ x2 → (kW2 G S0 kM_X11_init (d + 2) 149 [some (kA 558), some (kI (x1 + 1)), none] [] c P)) ∧ (x2 < 16 → (kC2 G S0 kM_X11_signBy (d + 1) [kA 558, kI x1, kI x2] c (kRI (fun z3 c4 => kW2 G S0 kM_X11_init (d + 2) 157 [some (kA 558), some (kI x1), some (kI (x2 + 1))] [] (kup c4 568 ((16 * x1) + x2) z3) P))))) : kW2 G S0 kM_X11_init (d + 2) 157 [some (kA 558), some (kI x1), some (kI x2)] [] c P := by
  refine kw_iload_n dX11_init_157 rfl ?_
  refine kw_bipush dX11_init_158 (by decide) ?_
  refine kw_icmp_ge 186 dX11_init_160 (by decide) (k32i (by omega)) (k32i (by omega)) (fun h2 => ?_) (fun h2 => ?_)
  · have H := H.1 h2
    refine kw_iinc dX11_init_186 rfl ?_
    refine kw_goto 149 dX11_init_189 (by decide) ?_
    exact kw_forget (ls' := [some (kA 558), some (kI (x1 + 1)), none]) ⟨Or.inr rfl, ⟨Or.inr rfl, ⟨Or.inl rfl, trivial⟩⟩⟩ H
  · have H := H.2 h2
    refine kw_aload_n dX11_init_163 rfl ?_
    refine k2_getR fd_X11_9 dX11_init_164 wf_X11_38 (lsh_558 hL) (lrf_558_9 hL) ?_
    refine kw_bipush dX11_init_167 (by decide) ?_
    refine kw_iload_n dX11_init_169 rfl ?_
    refine kw_imul dX11_init_170 ?_
    refine kw_iload_n dX11_init_171 rfl ?_
    refine kw_iadd dX11_init_172 ?_
    refine kw_aload_n dX11_init_173 rfl ?_
    refine kw_iload_n dX11_init_174 rfl ?_
    refine kw_iload_n dX11_init_175 rfl ?_
    refine k2_callV2I (ci := 9) (N := 38) (T := TX11) rfl (lsh_558 hL) m_X11_signBy dX11_init_176 wl_X11_64 (Nat.le_of_ble_eq_true rfl) (kC2_mono H (fun r c4 H => ?_))
    obtain ⟨z3, rfl, H⟩ := H
    refine ⟨z3, rfl, ?_⟩
    refine k2_iast dX11_init_179 (lsh_568 hL) (by omega) (by omega) ?_
    refine kw_iinc dX11_init_180 rfl ?_
    refine kw_goto 157 dX11_init_183 (by decide) ?_
    exact kw_forget (ls' := [some (kA 558), some (kI x1), some (kI (x2 + 1))]) ⟨Or.inr rfl, ⟨Or.inr rfl, ⟨Or.inr rfl, trivial⟩⟩⟩ H
/-- where all of the class stands -/
def kLayC (sh : KSf) (rf : KMem) : Prop := (∀ q ∈ kShT.take 39, sh q.1 = q.2) ∧ (∀ q ∈ kRfT.take 41, rf q.1 q.2.1 = q.2.2) ∧ (∀ q ∈ kRwT, ∀ x : Int, 0 ≤ x → x < q.2 → rf q.1 x = q.1 + 1 + x ∧ sh (q.1 + 1 + x) = (2, 16)) ∧ (∀ t ∈ kLtT, kLet (0, sh, rf) t) ∧ ∀ x : Int, 0 ≤ x → x < 8 → rf 49 x = 50 + 15 * x ∧ kLet (0, sh, rf) (50 + 15 * x)
theorem kShT_b : ∀ q ∈ kShT.take 39, q.1 < 558 := by decide
theorem kRfT_b : ∀ q ∈ kRfT.take 41, q.1 < 558 := by decide
theorem kRwT_b : ∀ q ∈ kRwT, q.1 + 1 + q.2 ≤ 558 ∧ 0 ≤ q.2 := by decide
theorem kLtT_b : ∀ t ∈ kLtT, t + 15 ≤ 558 := by decide
theorem kLayC.bl {sh sh1 : KSf} {rf rf1 : KMem} (h : kLayC sh rf) (e : ∀ u : Int, u < 558 → sh1 u = sh u ∧ rf1 u = rf u) : kLayC sh1 rf1 := by
  obtain ⟨h1, h2, h3, h4, h5⟩ := h
  refine ⟨fun q hq => (e q.1 (kShT_b q hq)).1.trans (h1 q hq), fun q hq => (congrFun (e q.1 (kRfT_b q hq)).2 q.2.1).trans (h2 q hq), fun q hq x a b => ?_, fun t ht => ?_, fun x a b => ⟨(congrFun (e 49 (by decide)).2 x).trans (h5 x a b).1, (h5 x a b).2.sm (fun u p q => e u (by omega))⟩⟩
  · have hb := kRwT_b q hq
    exact ⟨(congrFun (e q.1 (by omega)).2 x).trans (h3 q hq x a b).1, (e _ (by omega)).1.trans (h3 q hq x a b).2⟩
  · have hb := kLtT_b t ht
    exact (h4 t ht).sm (fun u p q => e u (by omega))
theorem kLayC.lay {sh : KSf} {rf : KMem} {N : Nat} (h : kLayC sh rf) (h1 : ∀ q ∈ kShT.drop 39, sh q.1 = q.2) (h2 : ∀ q ∈ kRfT.drop 41, rf q.1 q.2.1 = q.2.2) : kLay (N, sh, rf) := by
  refine ⟨fun q hq => ?_, fun q hq => ?_, h.2.2.1, h.2.2.2.1, h.2.2.2.2⟩
  · rw [← List.take_append_drop 39 kShT] at hq
    rcases List.mem_append.mp hq with w | w
    · exact h.1 q w
    · exact h1 q w
  · rw [← List.take_append_drop 41 kRfT] at hq
    rcases List.mem_append.mp hq with w | w
    · exact h.2.1 q w
    · exact h2 q w
/-- nothing stands -/
abbrev kL0 : KLt := (fun _ => false, fun _ _ => 0)
abbrev kT0 : KTp := (0, fun _ => 0)
abbrev kK0 : Bool × KLt × Int := (false, kL0, 0)
theorem kLm_0 {t : Int} {c : KMem} (z : ∀ j, c (t + 14) j = 0) : kLm t kL0.1 kL0.2 c :=
  ⟨fun l _ _ => Or.inl (z l), fun l => ⟨fun q => (Bool.false_ne_true q).elim, fun q => absurd (z l) q.2.2⟩, fun l q => (Bool.false_ne_true q).elim⟩
theorem CAl_0 {c : KMem} (z : ∀ j, c (3 + 14) j = 0) (f1 : kEq (c 529) farP) (f2 : kEq (c 549) farP) (h : ∀ j, c 0 j = kRow [(8, 1), (7, 0), (4, 1), (3, 0), (1, 0)] (kdv 8) j) (g : ∀ j, c 48 j = kRow [(2, 0), (1, 0)] (kdv 4) j) : CAl kL0 kT0 kT0 1 kK0 [] c := by
  have e1 : c 48 1 = 0 := (g 1).trans rfl
  have e2 : c 48 2 = 0 := (g 2).trans rfl
  have e3 : c 0 4 = 1 := (h 4).trans rfl
  refine ⟨⟨kLm_0 z, f1, f2⟩, ⟨(h 1).trans rfl, by decide, fun i a b => absurd b (by show ¬ i < ((0 : Nat) : Int); omega)⟩, ⟨(h 3).trans rfl, by decide, fun i a b => absurd b (by show ¬ i < ((0 : Nat) : Int); omega)⟩, ⟨e3, by decide, by decide⟩, ⟨(h 7).trans rfl, fun q => (Bool.false_ne_true q).elim⟩, ⟨⟨by omega, by omega⟩, e2.trans rfl, by decide, fun i L' q => ?_⟩⟩
  simp at q
theorem n_X10c {G : KG} {d : Nat} {sh : KSf} {rf c : KMem} {Q : Option AV → KSt → Prop} (h0 : sh 0 = (18, 20)) (hr0 : ∀ j, rf 0 j = -1) (hc0 : ∀ j, c 0 j = kdv 8 j) (k : ∀ sh' rf' c', kLayC sh' rf' → CAl kL0 kT0 kT0 1 kK0 [] c' → Q none ((558, sh', rf'), c')) : kCall G kM_X10_init (d + 3) 557 9004 [kA 0] ((1, sh, rf), c) Q := by
  refine n_X10 h0 hr0 hc0 (fun sh' rf' c' g0 g1 g2 g3 g4 g5 g6 g7 g8 g9 g10 g11 g12 g13 g14 g15 g16 g17 g18 g19 g20 g21 g22 g23 g24 g25 g26 g27 g28 g29 g30 g31 g32 g33 g34 g35 g36 g37 g38 g39 g40 g41 g42 g43 g44 g45 g46 g47 g48 g49 g50 g51 g52 g53 g54 g55 g56 g57 g58 g59 g60 g61 b => k sh' rf' c' ⟨?_, ?_, ?_, ?_, g15⟩ (CAl_0 g6 g46 g56 g2 g13))
  · show ∀ q ∈ ([(0, 18, 20), (1, 1, 140), (2, 1, 120), (48, 14, 3), (49, 6, 8), (170, 16, 12), (186, 5, 7), (194, 5, 7), (202, 5, 7), (210, 2, 16), (211, 2, 16), (212, 2, 16), (213, 1, 0), (214, 12, 7), (215, 5, 6), (222, 15, 2), (223, 5, 300), (524, 2, 16), (525, 2, 16), (526, 2, 16), (527, 2, 16), (528, 13, 4), (529, 2, 16), (530, 2, 16), (531, 2, 16), (532, 2, 16), (533, 11, 7), (534, 5, 12), (547, 1, 12), (548, 1, 12), (549, 2, 16), (550, 2, 16), (551, 2, 16), (552, 2, 16), (553, 17, 5), (554, 17, 5), (555, 2, 16), (556, 2, 16), (557, 2, 16)] : List (Int × Nat × Nat)), sh' q.1 = q.2
    exact List.forall_mem_cons.mpr ⟨g0, List.forall_mem_cons.mpr ⟨g3, List.forall_mem_cons.mpr ⟨g4, List.forall_mem_cons.mpr ⟨g11, List.forall_mem_cons.mpr ⟨g14, List.forall_mem_cons.mpr ⟨g16, List.forall_mem_cons.mpr ⟨g21.1, List.forall_mem_cons.mpr ⟨g22.1, List.forall_mem_cons.mpr ⟨g23.1, List.forall_mem_cons.mpr ⟨g24, List.forall_mem_cons.mpr ⟨g25, List.forall_mem_cons.mpr ⟨g26, List.forall_mem_cons.mpr ⟨g27, List.forall_mem_cons.mpr ⟨g28, List.forall_mem_cons.mpr ⟨g31.1, List.forall_mem_cons.mpr ⟨g32, List.forall_mem_cons.mpr ⟨g35.1, List.forall_mem_cons.mpr ⟨g36, List.forall_mem_cons.mpr ⟨g37, List.forall_mem_cons.mpr ⟨g38, List.forall_mem_cons.mpr ⟨g39, List.forall_mem_cons.mpr ⟨g40, List.forall_mem_cons.mpr ⟨g42, List.forall_mem_cons.mpr ⟨g43, List.forall_mem_cons.mpr ⟨g44, List.forall_mem_cons.mpr ⟨g45, List.forall_mem_cons.mpr ⟨g47, List.forall_mem_cons.mpr ⟨g49.1, List.forall_mem_cons.mpr ⟨g50, List.forall_mem_cons.mpr ⟨g51, List.forall_mem_cons.mpr ⟨g52, List.forall_mem_cons.mpr ⟨g53, List.forall_mem_cons.mpr ⟨g54, List.forall_mem_cons.mpr ⟨g55, List.forall_mem_cons.mpr ⟨g57, List.forall_mem_cons.mpr ⟨g58, List.forall_mem_cons.mpr ⟨g59, List.forall_mem_cons.mpr ⟨g60, List.forall_mem_cons.mpr ⟨g61, (fun _ q => nomatch q)⟩⟩⟩⟩⟩⟩⟩⟩⟩⟩⟩⟩⟩⟩⟩⟩⟩⟩⟩⟩⟩⟩⟩⟩⟩⟩⟩⟩⟩⟩⟩⟩⟩⟩⟩⟩⟩⟩⟩
  · show ∀ q ∈ ([(0, 0, 1), (0, 2, 2), (0, 5, 3), (0, 6, 18), (0, 9, 33), (0, 10, 48), (0, 11, 170), (0, 12, 214), (0, 13, 528), (0, 14, 533), (0, 15, 553), (0, 16, 554), (0, 17, 555), (0, 18, 556), (0, 19, 557), (48, 0, 49), (170, 0, 171), (170, 1, 186), (170, 2, 194), (170, 3, 202), (170, 4, 210), (170, 5, 211), (170, 6, 212), (214, 0, 215), (214, 2, 222), (214, 3, 524), (214, 4, 525), (214, 5, 526), (214, 6, 527), (222, 0, 223), (528, 0, 529), (528, 1, 530), (528, 2, 531), (528, 3, 532), (533, 0, 534), (533, 1, 547), (533, 2, 548), (533, 3, 549), (533, 4, 550), (533, 5, 551), (533, 6, 552)] : List (Int × Int × Int)), rf' q.1 q.2.1 = q.2.2
    exact List.forall_mem_cons.mpr ⟨(g1 0).trans rfl, List.forall_mem_cons.mpr ⟨(g1 2).trans rfl, List.forall_mem_cons.mpr ⟨(g1 5).trans rfl, List.forall_mem_cons.mpr ⟨(g1 6).trans rfl, List.forall_mem_cons.mpr ⟨(g1 9).trans rfl, List.forall_mem_cons.mpr ⟨(g1 10).trans rfl, List.forall_mem_cons.mpr ⟨(g1 11).trans rfl, List.forall_mem_cons.mpr ⟨(g1 12).trans rfl, List.forall_mem_cons.mpr ⟨(g1 13).trans rfl, List.forall_mem_cons.mpr ⟨(g1 14).trans rfl, List.forall_mem_cons.mpr ⟨(g1 15).trans rfl, List.forall_mem_cons.mpr ⟨(g1 16).trans rfl, List.forall_mem_cons.mpr ⟨(g1 17).trans rfl, List.forall_mem_cons.mpr ⟨(g1 18).trans rfl, List.forall_mem_cons.mpr ⟨(g1 19).trans rfl, List.forall_mem_cons.mpr ⟨(g12 0).trans rfl, List.forall_mem_cons.mpr ⟨(g17 0).trans rfl, List.forall_mem_cons.mpr ⟨(g17 1).trans rfl, List.forall_mem_cons.mpr ⟨(g17 2).trans rfl, List.forall_mem_cons.mpr ⟨(g17 3).trans rfl, List.forall_mem_cons.mpr ⟨(g17 4).trans rfl, List.forall_mem_cons.mpr ⟨(g17 5).trans rfl, List.forall_mem_cons.mpr ⟨(g17 6).trans rfl, List.forall_mem_cons.mpr ⟨(g29 0).trans rfl, List.forall_mem_cons.mpr ⟨(g29 2).trans rfl, List.forall_mem_cons.mpr ⟨(g29 3).trans rfl, List.forall_mem_cons.mpr ⟨(g29 4).trans rfl, List.forall_mem_cons.mpr ⟨(g29 5).trans rfl, List.forall_mem_cons.mpr ⟨(g29 6).trans rfl, List.forall_mem_cons.mpr ⟨(g33 0).trans rfl, List.forall_mem_cons.mpr ⟨(g41 0).trans rfl, List.forall_mem_cons.mpr ⟨(g41 1).trans rfl, List.forall_mem_cons.mpr ⟨(g41 2).trans rfl, List.forall_mem_cons.mpr ⟨(g41 3).trans rfl, List.forall_mem_cons.mpr ⟨(g48 0).trans rfl, List.forall_mem_cons.mpr ⟨(g48 1).trans rfl, List.forall_mem_cons.mpr ⟨(g48 2).trans rfl, List.forall_mem_cons.mpr ⟨(g48 3).trans rfl, List.forall_mem_cons.mpr ⟨(g48 4).trans rfl, List.forall_mem_cons.mpr ⟨(g48 5).trans rfl, List.forall_mem_cons.mpr ⟨(g48 6).trans rfl, (fun _ q => nomatch q)⟩⟩⟩⟩⟩⟩⟩⟩⟩⟩⟩⟩⟩⟩⟩⟩⟩⟩⟩⟩⟩⟩⟩⟩⟩⟩⟩⟩⟩⟩⟩⟩⟩⟩⟩⟩⟩⟩⟩⟩⟩
  · show ∀ q ∈ ([(186, 7), (194, 7), (202, 7), (215, 6), (223, 300), (534, 12)] : List (Int × Int)), ∀ x : Int, 0 ≤ x → x < q.2 → rf' q.1 x = q.1 + 1 + x ∧ sh' (q.1 + 1 + x) = (2, 16)
    exact List.forall_mem_cons.mpr ⟨g21.2, List.forall_mem_cons.mpr ⟨g22.2, List.forall_mem_cons.mpr ⟨g23.2, List.forall_mem_cons.mpr ⟨g31.2, List.forall_mem_cons.mpr ⟨g35.2, List.forall_mem_cons.mpr ⟨g49.2, (fun _ q => nomatch q)⟩⟩⟩⟩⟩⟩
  · show ∀ t ∈ ([3, 18, 33, 50, 65, 80, 95, 110, 125, 140, 155, 171] : List Int), kLet (0, sh', rf') t
    exact List.forall_mem_cons.mpr ⟨g5, List.forall_mem_cons.mpr ⟨g7, List.forall_mem_cons.mpr ⟨g9, List.forall_mem_cons.mpr ⟨(g15 0 (by decide) (by decide)).2, List.forall_mem_cons.mpr ⟨(g15 1 (by decide) (by decide)).2, List.forall_mem_cons.mpr ⟨(g15 2 (by decide) (by decide)).2, List.forall_mem_cons.mpr ⟨(g15 3 (by decide) (by decide)).2, List.forall_mem_cons.mpr ⟨(g15 4 (by decide) (by decide)).2, List.forall_mem_cons.mpr ⟨(g15 5 (by decide) (by decide)).2, List.forall_mem_cons.mpr ⟨(g15 6 (by decide) (by decide)).2, List.forall_mem_cons.mpr ⟨(g15 7 (by decide) (by decide)).2, List.forall_mem_cons.mpr ⟨g19, (fun _ q => nomatch q)⟩⟩⟩⟩⟩⟩⟩⟩⟩⟩⟩⟩
section MKR
variable {G : KG} {S0 : KSh} {d : Nat} {P : Option AV → KMem → Prop} {c : KMem}
theorem RAl_0 (a1 : kSgn c) (a2 : kEq (kF c 30) farP) (z : ∀ j, c 564 j = 0) (e : c 558 12 = 1) (h : ∀ j : Int, j ≠ 12 → c 558 j = kdv 9 j) : RAl kL0 kT0 kT0 1 kK0 [] c := by
  have kd : ∀ k : Nat, kfty 9 k = 0 → kdv 9 (k : Int) = 0 := fun k hk => by
    have e : kdv 9 (k : Int) = if kfty 9 k = 3 then -1 else 0 := rfl
    rw [e, hk]; rfl
  have e11 : c 558 11 = 0 := (h 11 (by decide)).trans (kd 11 fd_X11_11.1)
  have e15 : c 558 15 = 0 := (h 15 (by decide)).trans (kd 15 fd_X11_15.1)
  have e21 : c 558 21 = 0 := (h 21 (by decide)).trans (kd 21 fd_X11_21.1)
  have e22 : c 558 22 = 0 := (h 22 (by decide)).trans (kd 22 fd_X11_22.1)
  refine ⟨⟨a1, a2⟩, ⟨fun l _ _ => Or.inl (z _), fun l => ⟨fun q => (Bool.false_ne_true q).elim, fun q => ?_⟩, fun l q => (Bool.false_ne_true q).elim⟩, ⟨e21, by decide, fun i a b => absurd b (by show ¬ i < ((0 : Nat) : Int); omega)⟩, ⟨e22, by decide, fun i a b => absurd b (by show ¬ i < ((0 : Nat) : Int); omega)⟩, ⟨e, by decide, by decide⟩, ⟨e15, fun q => (Bool.false_ne_true q).elim⟩, ⟨e11, by decide, fun i L' q => ?_⟩⟩
  · have := q.2.2
    rw [z] at this
    exact absurd this (by decide)
  · simp at q
theorem t_mk (hL : kLay S0) (z : ∀ j, c 559 j = 0) (h : ∀ c', kSgn c' → kEq (kF c' 30) farP → c' 558 12 = 1 → (∀ j : Int, j ≠ 12 → c' 558 j = c 558 j) → (∀ a : Int, a ≠ 558 → a ≠ 559 → a ≠ 568 → a ≠ 569 → c' a = c a) → P none c') : kW2 G S0 kM_X11_init (d + 2) 147 [some (kA 558), none, none] [] c P := by
  have outer : ∀ n a : Nat, a + n = 16 → ∀ c1 : KMem, (∀ x i : Int, x ≠ 568 → x ≠ 569 → c1 x i = c x i) → (∀ a' b : Nat, a' < a → b < 16 → c1 568 (16 * a' + b) = ksg a' b) → kW2 G S0 kM_X11_init (d + 2) 149 [some (kA 558), some (kI (a : Int)), none] [] c1 P := by
    intro n
    induction n with
    | zero =>
      intro a ha c1 fr hg
      obtain rfl : a = 16 := by omega
      refine v_X11_init_149 hL (by omega) (by omega) ⟨fun _ => ?_, fun q => by omega⟩
      refine h _ (fun a b ha hb => ?_) (fun j j0 j1 => ?_) ?_ (fun j hj => ?_) (fun a q1 q2 q3 q4 => funext fun i => ?_)
      · rw [kup_n (Or.inl (by decide)), kup_n (Or.inl (by decide)), kup_n (Or.inl (by decide))]; exact hg a b ha hb
      · show kup (kup (kup c1 558 12 1) 559 484 1) 559 488 1 559 (16 * 30 + j) = farP j
        rw [← far_2 j]
        by_cases w : j = 8
        · rw [if_pos w, w]; exact kup_s _ _ _ _
        · rw [if_neg w, kup_n (Or.inr (by omega))]
          by_cases w2 : j = 4
          · rw [if_pos w2, w2]; exact kup_s _ _ _ _
          · rw [if_neg w2, kup_n (Or.inr (by omega)), kup_n (Or.inl (by decide)), fr _ _ (by decide) (by decide)]; exact z _
      · rw [kup_n (Or.inl (by decide)), kup_n (Or.inl (by decide)), kup_s]
      · rw [kup_n (Or.inl (by decide)), kup_n (Or.inl (by decide)), kup_n (Or.inr hj)]; exact fr _ _ (by decide) (by decide)
      · rw [kup_n (Or.inl q2), kup_n (Or.inl q2), kup_n (Or.inl q1)]; exact fr a i q3 q4
    | succ n ih =>
      intro a ha c1 fr hg
      refine v_X11_init_149 hL (by omega) (by omega) ⟨fun q => by omega, fun _ => ?_⟩
      have inner : ∀ m b : Nat, b + m = 16 → ∀ c2 : KMem, (∀ x i : Int, x ≠ 568 → x ≠ 569 → c2 x i = c x i) → (∀ a' b' : Nat, (a' < a ∨ (a' = a ∧ b' < b)) → b' < 16 → c2 568 (16 * a' + b') = ksg a' b') → kW2 G S0 kM_X11_init (d + 2) 157 [some (kA 558), some (kI (a : Int)), some (kI (b : Int))] [] c2 P := by
        intro m
        induction m with
        | zero =>
          intro b hb c2 f2 g2
          refine v_X11_init_157 hL (by omega) (by omega) (by omega) ⟨fun _ => ?_, fun q => by omega⟩
          exact ih (a + 1) (by omega) c2 f2 (fun a' b' q1 q2 => g2 a' b' (by omega) q2)
        | succ m ihm =>
          intro b hb c2 f2 g2
          refine v_X11_init_157 hL (by omega) (by omega) (by omega) ⟨fun q => by omega, fun _ => ?_⟩
          refine t_signBy hL (by omega) (by omega) (fun c3 f3 => ⟨_, rfl, ?_⟩)
          refine ihm (b + 1) (by omega) _ (fun x i q1 q2 => ?_) (fun a' b' q1 q2 => ?_)
          · rw [kup_n (Or.inl q1), f3 x i q2]; exact f2 x i q1 q2
          · by_cases w : a' = a ∧ b' = b
            · rw [w.1, w.2]; exact kup_s _ _ _ _
            · rw [kup_n (Or.inr (by omega)), f3 568 _ (by decide)]; exact g2 a' b' (by omega) q2
      exact inner 16 0 (by omega) c1 fr (fun a' b' q1 q2 => hg a' b' (by omega) q2)
  exact v_X11_init_147 hL (outer 16 0 (by omega) c (fun _ _ _ _ => rfl) (fun a' b q _ => absurd q (Nat.not_lt_zero _)))
end MKR
set_option maxHeartbeats 4000000 in
theorem n_X11 {G : KG} {d : Nat} {sh : KSf} {rf c : KMem} {Q : Option AV → KSt → Prop} (h0 : sh 558 = (19, 38)) (hr0 : ∀ j, rf 558 j = -1) (hc0 : ∀ j, c 558 j = kdv 9 j) (hC : kLayC sh rf) (k : ∀ (S0 : KSh) c', S0.1 = 576 → kLay S0 → RAl kL0 kT0 kT0 1 kK0 [] c' → kLo c c' → Q none (S0, c')) : kCall G kM_X11_init (d + 2) 17 9244 [kA 558] ((559, sh, rf), c) Q := by
  refine kMet (by decide) rfl (Nat.le_of_ble_eq_true rfl) ?_
  show kWP G kM_X11_init (d + 2) 17 9244 0 [some (kA 558), none, none] [] ((559, sh, rf), c) Q
  refine kw_aload_n dX11_init_0 rfl ?_
  refine kw_objinit dX11_init_1 wl_X11_1 w_oi w_oc h0 (by decide) (by decide) ?_
  refine kw_aload_n dX11_init_4 rfl ?_
  refine kw_sipush dX11_init_5 (by decide) ?_
  refine kn_newL (bc := 16) (bs := 7644) (A := 559) (N' := 560) 1600 rfl rfl rfl dX11_init_8 (by decide) (fun sh1 rf1 c1 n1 => ?_)
  have hs1 : sh1 558 = (19, 38) := (n1.2.2.2 558 (by decide)).1.trans h0
  have hr2 : ∀ j, rf1 558 j = kRow [] (fun _ => -1) j := fun j => (congrFun (n1.2.2.2 558 (by decide)).2.1 j).trans (hr0 j)
  have hc3 : ∀ j, c1 558 j = kRow [] (kdv 9) j := fun j => (congrFun (n1.2.2.2 558 (by decide)).2.2 j).trans (hc0 j)
  refine kn_putR (kz := 0) rfl fo_X11_0 dX11_init_10 wf_X11_7 hs1 rfl rfl (fun rf2 p2 => ?_)
  have hr4 : ∀ j, rf2 558 j = kRow [(0, 559)] (fun _ => -1) j := fun j => (p2.2 j).trans (by rw [hr2 j]; rfl)
  refine kw_aload_n dX11_init_13 rfl ?_
  refine kw_bipush dX11_init_14 (by decide) ?_
  refine kn_newL (bc := 15) (bs := 7628) (A := 560) (N' := 561) 16 rfl rfl rfl dX11_init_16 (by decide) (fun sh3 rf3 c3 n3 => ?_)
  have hs5 : sh3 558 = (19, 38) := (n3.2.2.2 558 (by decide)).1.trans hs1
  have hr6 : ∀ j, rf3 558 j = kRow [(0, 559)] (fun _ => -1) j := fun j => (congrFun (n3.2.2.2 558 (by decide)).2.1 j).trans (hr4 j)
  have hc7 : ∀ j, c3 558 j = kRow [] (kdv 9) j := fun j => (congrFun (n3.2.2.2 558 (by decide)).2.2 j).trans (hc3 j)
  refine kn_putR (kz := 1) rfl fo_X11_1 dX11_init_18 wf_X11_13 hs5 rfl rfl (fun rf4 p4 => ?_)
  have hr8 : ∀ j, rf4 558 j = kRow [(1, 560), (0, 559)] (fun _ => -1) j := fun j => (p4.2 j).trans (by rw [hr6 j]; rfl)
  refine kw_aload_n dX11_init_21 rfl ?_
  refine kw_sipush dX11_init_22 (by decide) ?_
  refine kn_newL (bc := 14) (bs := 7436) (A := 561) (N' := 562) 192 rfl rfl rfl dX11_init_25 (by decide) (fun sh5 rf5 c5 n5 => ?_)
  have hs9 : sh5 558 = (19, 38) := (n5.2.2.2 558 (by decide)).1.trans hs5
  have hr10 : ∀ j, rf5 558 j = kRow [(1, 560), (0, 559)] (fun _ => -1) j := fun j => (congrFun (n5.2.2.2 558 (by decide)).2.1 j).trans (hr8 j)
  have hc11 : ∀ j, c5 558 j = kRow [] (kdv 9) j := fun j => (congrFun (n5.2.2.2 558 (by decide)).2.2 j).trans (hc7 j)
  refine kn_putR (kz := 2) rfl fo_X11_2 dX11_init_27 wf_X11_16 hs9 rfl rfl (fun rf6 p6 => ?_)
  have hr12 : ∀ j, rf6 558 j = kRow [(2, 561), (1, 560), (0, 559)] (fun _ => -1) j := fun j => (p6.2 j).trans (by rw [hr10 j]; rfl)
  refine kw_aload_n dX11_init_30 rfl ?_
  refine kw_sipush dX11_init_31 (by decide) ?_
  refine kn_newL (bc := 13) (bs := 5900) (A := 562) (N' := 563) 1536 rfl rfl rfl dX11_init_34 (by decide) (fun sh7 rf7 c7 n7 => ?_)
  have hs13 : sh7 558 = (19, 38) := (n7.2.2.2 558 (by decide)).1.trans hs9
  have hr14 : ∀ j, rf7 558 j = kRow [(2, 561), (1, 560), (0, 559)] (fun _ => -1) j := fun j => (congrFun (n7.2.2.2 558 (by decide)).2.1 j).trans (hr12 j)
  have hc15 : ∀ j, c7 558 j = kRow [] (kdv 9) j := fun j => (congrFun (n7.2.2.2 558 (by decide)).2.2 j).trans (hc11 j)
  refine kn_putR (kz := 3) rfl fo_X11_3 dX11_init_36 wf_X11_19 hs13 rfl rfl (fun rf8 p8 => ?_)
  have hr16 : ∀ j, rf8 558 j = kRow [(3, 562), (2, 561), (1, 560), (0, 559)] (fun _ => -1) j := fun j => (p8.2 j).trans (by rw [hr14 j]; rfl)
  refine kw_aload_n dX11_init_39 rfl ?_
  refine kw_sipush dX11_init_40 (by decide) ?_
  refine kn_newL (bc := 12) (bs := 1100) (A := 563) (N' := 564) 4800 rfl rfl rfl dX11_init_43 (by decide) (fun sh9 rf9 c9 n9 => ?_)
  have hs17 : sh9 558 = (19, 38) := (n9.2.2.2 558 (by decide)).1.trans hs13
  have hr18 : ∀ j, rf9 558 j = kRow [(3, 562), (2, 561), (1, 560), (0, 559)] (fun _ => -1) j := fun j => (congrFun (n9.2.2.2 558 (by decide)).2.1 j).trans (hr16 j)
  have hc19 : ∀ j, c9 558 j = kRow [] (kdv 9) j := fun j => (congrFun (n9.2.2.2 558 (by decide)).2.2 j).trans (hc15 j)
  refine kn_putR (kz := 4) rfl fo_X11_4 dX11_init_45 wf_X11_22 hs17 rfl rfl (fun rf10 p10 => ?_)
  have hr20 : ∀ j, rf10 558 j = kRow [(4, 563), (3, 562), (2, 561), (1, 560), (0, 559)] (fun _ => -1) j := fun j => (p10.2 j).trans (by rw [hr18 j]; rfl)
  refine kw_aload_n dX11_init_48 rfl ?_
  refine kw_bipush dX11_init_49 (by decide) ?_
  refine kn_newZ (bc := 11) (bs := 1076) (A := 564) (N' := 565) 24 rfl rfl rfl dX11_init_51 (by decide) (fun sh11 rf11 c11 n11 => ?_)
  have hs21 : sh11 558 = (19, 38) := (n11.2.2.2 558 (by decide)).1.trans hs17
  have hr22 : ∀ j, rf11 558 j = kRow [(4, 563), (3, 562), (2, 561), (1, 560), (0, 559)] (fun _ => -1) j := fun j => (congrFun (n11.2.2.2 558 (by decide)).2.1 j).trans (hr20 j)
  have hc23 : ∀ j, c11 558 j = kRow [] (kdv 9) j := fun j => (congrFun (n11.2.2.2 558 (by decide)).2.2 j).trans (hc19 j)
  refine kn_putR (kz := 5) rfl fo_X11_5 dX11_init_53 wf_X11_25 hs21 rfl rfl (fun rf12 p12 => ?_)
  have hr24 : ∀ j, rf12 558 j = kRow [(5, 564), (4, 563), (3, 562), (2, 561), (1, 560), (0, 559)] (fun _ => -1) j := fun j => (p12.2 j).trans (by rw [hr22 j]; rfl)
  refine kw_aload_n dX11_init_56 rfl ?_
  refine kw_bipush dX11_init_57 (by decide) ?_
  refine kn_newZ (bc := 10) (bs := 1064) (A := 565) (N' := 566) 12 rfl rfl rfl dX11_init_59 (by decide) (fun sh13 rf13 c13 n13 => ?_)
  have hs25 : sh13 558 = (19, 38) := (n13.2.2.2 558 (by decide)).1.trans hs21
  have hr26 : ∀ j, rf13 558 j = kRow [(5, 564), (4, 563), (3, 562), (2, 561), (1, 560), (0, 559)] (fun _ => -1) j := fun j => (congrFun (n13.2.2.2 558 (by decide)).2.1 j).trans (hr24 j)
  have hc27 : ∀ j, c13 558 j = kRow [] (kdv 9) j := fun j => (congrFun (n13.2.2.2 558 (by decide)).2.2 j).trans (hc23 j)
  refine kn_putR (kz := 6) rfl fo_X11_6 dX11_init_61 wf_X11_29 hs25 rfl rfl (fun rf14 p14 => ?_)
  have hr28 : ∀ j, rf14 558 j = kRow [(6, 565), (5, 564), (4, 563), (3, 562), (2, 561), (1, 560), (0, 559)] (fun _ => -1) j := fun j => (p14.2 j).trans (by rw [hr26 j]; rfl)
  refine kw_aload_n dX11_init_64 rfl ?_
  refine kw_bipush dX11_init_65 (by decide) ?_
  refine kn_newZ (bc := 9) (bs := 968) (A := 566) (N' := 567) 96 rfl rfl rfl dX11_init_67 (by decide) (fun sh15 rf15 c15 n15 => ?_)
  have hs29 : sh15 558 = (19, 38) := (n15.2.2.2 558 (by decide)).1.trans hs25
  have hr30 : ∀ j, rf15 558 j = kRow [(6, 565), (5, 564), (4, 563), (3, 562), (2, 561), (1, 560), (0, 559)] (fun _ => -1) j := fun j => (congrFun (n15.2.2.2 558 (by decide)).2.1 j).trans (hr28 j)
  have hc31 : ∀ j, c15 558 j = kRow [] (kdv 9) j := fun j => (congrFun (n15.2.2.2 558 (by decide)).2.2 j).trans (hc27 j)
  refine kn_putR (kz := 7) rfl fo_X11_7 dX11_init_69 wf_X11_32 hs29 rfl rfl (fun rf16 p16 => ?_)
  have hr32 : ∀ j, rf16 558 j = kRow [(7, 566), (6, 565), (5, 564), (4, 563), (3, 562), (2, 561), (1, 560), (0, 559)] (fun _ => -1) j := fun j => (p16.2 j).trans (by rw [hr30 j]; rfl)
  refine kw_aload_n dX11_init_72 rfl ?_
  refine kw_bipush dX11_init_73 (by decide) ?_
  refine kn_newZ (bc := 8) (bs := 956) (A := 567) (N' := 568) 12 rfl rfl rfl dX11_init_75 (by decide) (fun sh17 rf17 c17 n17 => ?_)
  have hs33 : sh17 558 = (19, 38) := (n17.2.2.2 558 (by decide)).1.trans hs29
  have hr34 : ∀ j, rf17 558 j = kRow [(7, 566), (6, 565), (5, 564), (4, 563), (3, 562), (2, 561), (1, 560), (0, 559)] (fun _ => -1) j := fun j => (congrFun (n17.2.2.2 558 (by decide)).2.1 j).trans (hr32 j)
  have hc35 : ∀ j, c17 558 j = kRow [] (kdv 9) j := fun j => (congrFun (n17.2.2.2 558 (by decide)).2.2 j).trans (hc31 j)
  refine kn_putR (kz := 8) rfl fo_X11_8 dX11_init_77 wf_X11_35 hs33 rfl rfl (fun rf18 p18 => ?_)
  have hr36 : ∀ j, rf18 558 j = kRow [(8, 567), (7, 566), (6, 565), (5, 564), (4, 563), (3, 562), (2, 561), (1, 560), (0, 559)] (fun _ => -1) j := fun j => (p18.2 j).trans (by rw [hr34 j]; rfl)
  refine kw_aload_n dX11_init_80 rfl ?_
  refine kw_sipush dX11_init_81 (by decide) ?_
  refine kn_newI (bc := 7) (bs := 700) (A := 568) (N' := 569) 256 rfl rfl rfl dX11_init_84 (by decide) (fun sh19 rf19 c19 n19 => ?_)
  have hs37 : sh19 558 = (19, 38) := (n19.2.2.2 558 (by decide)).1.trans hs33
  have hr38 : ∀ j, rf19 558 j = kRow [(8, 567), (7, 566), (6, 565), (5, 564), (4, 563), (3, 562), (2, 561), (1, 560), (0, 559)] (fun _ => -1) j := fun j => (congrFun (n19.2.2.2 558 (by decide)).2.1 j).trans (hr36 j)
  have hc39 : ∀ j, c19 558 j = kRow [] (kdv 9) j := fun j => (congrFun (n19.2.2.2 558 (by decide)).2.2 j).trans (hc35 j)
  refine kn_putR (kz := 9) rfl fo_X11_9 dX11_init_86 wf_X11_38 hs37 rfl rfl (fun rf20 p20 => ?_)
  have hr40 : ∀ j, rf20 558 j = kRow [(9, 568), (8, 567), (7, 566), (6, 565), (5, 564), (4, 563), (3, 562), (2, 561), (1, 560), (0, 559)] (fun _ => -1) j := fun j => (p20.2 j).trans (by rw [hr38 j]; rfl)
  refine kw_aload_n dX11_init_89 rfl ?_
  refine kw_bipush dX11_init_90 (by decide) ?_
  refine kn_newI (bc := 6) (bs := 692) (A := 569) (N' := 570) 8 rfl rfl rfl dX11_init_92 (by decide) (fun sh21 rf21 c21 n21 => ?_)
  have hs41 : sh21 558 = (19, 38) := (n21.2.2.2 558 (by decide)).1.trans hs37
  have hr42 : ∀ j, rf21 558 j = kRow [(9, 568), (8, 567), (7, 566), (6, 565), (5, 564), (4, 563), (3, 562), (2, 561), (1, 560), (0, 559)] (fun _ => -1) j := fun j => (congrFun (n21.2.2.2 558 (by decide)).2.1 j).trans (hr40 j)
  have hc43 : ∀ j, c21 558 j = kRow [] (kdv 9) j := fun j => (congrFun (n21.2.2.2 558 (by decide)).2.2 j).trans (hc39 j)
  refine kn_putR (kz := 10) rfl fo_X11_10 dX11_init_94 wf_X11_42 hs41 rfl rfl (fun rf22 p22 => ?_)
  have hr44 : ∀ j, rf22 558 j = kRow [(10, 569), (9, 568), (8, 567), (7, 566), (6, 565), (5, 564), (4, 563), (3, 562), (2, 561), (1, 560), (0, 559)] (fun _ => -1) j := fun j => (p22.2 j).trans (by rw [hr42 j]; rfl)
  refine kw_aload_n dX11_init_97 rfl ?_
  refine kw_sipush dX11_init_98 (by decide) ?_
  refine kn_newB (bc := 5) (bs := 552) (A := 570) (N' := 571) 140 rfl rfl rfl dX11_init_101 (by decide) (fun sh23 rf23 c23 n23 => ?_)
  have hs45 : sh23 558 = (19, 38) := (n23.2.2.2 558 (by decide)).1.trans hs41
  have hr46 : ∀ j, rf23 558 j = kRow [(10, 569), (9, 568), (8, 567), (7, 566), (6, 565), (5, 564), (4, 563), (3, 562), (2, 561), (1, 560), (0, 559)] (fun _ => -1) j := fun j => (congrFun (n23.2.2.2 558 (by decide)).2.1 j).trans (hr44 j)
  have hc47 : ∀ j, c23 558 j = kRow [] (kdv 9) j := fun j => (congrFun (n23.2.2.2 558 (by decide)).2.2 j).trans (hc43 j)
  refine kn_putR (kz := 16) rfl fo_X11_16 dX11_init_103 wf_X11_45 hs45 rfl rfl (fun rf24 p24 => ?_)
  have hr48 : ∀ j, rf24 558 j = kRow [(16, 570), (10, 569), (9, 568), (8, 567), (7, 566), (6, 565), (5, 564), (4, 563), (3, 562), (2, 561), (1, 560), (0, 559)] (fun _ => -1) j := fun j => (p24.2 j).trans (by rw [hr46 j]; rfl)
  refine kw_aload_n dX11_init_106 rfl ?_
  refine kw_bipush dX11_init_107 (by decide) ?_
  refine kn_newB (bc := 4) (bs := 432) (A := 571) (N' := 572) 120 rfl rfl rfl dX11_init_109 (by decide) (fun sh25 rf25 c25 n25 => ?_)
  have hs49 : sh25 558 = (19, 38) := (n25.2.2.2 558 (by decide)).1.trans hs45
  have hr50 : ∀ j, rf25 558 j = kRow [(16, 570), (10, 569), (9, 568), (8, 567), (7, 566), (6, 565), (5, 564), (4, 563), (3, 562), (2, 561), (1, 560), (0, 559)] (fun _ => -1) j := fun j => (congrFun (n25.2.2.2 558 (by decide)).2.1 j).trans (hr48 j)
  have hc51 : ∀ j, c25 558 j = kRow [] (kdv 9) j := fun j => (congrFun (n25.2.2.2 558 (by decide)).2.2 j).trans (hc47 j)
  refine kn_putR (kz := 17) rfl fo_X11_17 dX11_init_111 wf_X11_49 hs49 rfl rfl (fun rf26 p26 => ?_)
  have hr52 : ∀ j, rf26 558 j = kRow [(17, 571), (16, 570), (10, 569), (9, 568), (8, 567), (7, 566), (6, 565), (5, 564), (4, 563), (3, 562), (2, 561), (1, 560), (0, 559)] (fun _ => -1) j := fun j => (p26.2 j).trans (by rw [hr50 j]; rfl)
  refine kw_aload_n dX11_init_114 rfl ?_
  refine kw_bipush dX11_init_115 (by decide) ?_
  refine kn_newI (bc := 3) (bs := 352) (A := 572) (N' := 573) 80 rfl rfl rfl dX11_init_117 (by decide) (fun sh27 rf27 c27 n27 => ?_)
  have hs53 : sh27 558 = (19, 38) := (n27.2.2.2 558 (by decide)).1.trans hs49
  have hr54 : ∀ j, rf27 558 j = kRow [(17, 571), (16, 570), (10, 569), (9, 568), (8, 567), (7, 566), (6, 565), (5, 564), (4, 563), (3, 562), (2, 561), (1, 560), (0, 559)] (fun _ => -1) j := fun j => (congrFun (n27.2.2.2 558 (by decide)).2.1 j).trans (hr52 j)
  have hc55 : ∀ j, c27 558 j = kRow [] (kdv 9) j := fun j => (congrFun (n27.2.2.2 558 (by decide)).2.2 j).trans (hc51 j)
  refine kn_putR (kz := 18) rfl fo_X11_18 dX11_init_119 wf_X11_52 hs53 rfl rfl (fun rf28 p28 => ?_)
  have hr56 : ∀ j, rf28 558 j = kRow [(18, 572), (17, 571), (16, 570), (10, 569), (9, 568), (8, 567), (7, 566), (6, 565), (5, 564), (4, 563), (3, 562), (2, 561), (1, 560), (0, 559)] (fun _ => -1) j := fun j => (p28.2 j).trans (by rw [hr54 j]; rfl)
  refine kw_aload_n dX11_init_122 rfl ?_
  refine kw_bipush dX11_init_123 (by decide) ?_
  refine kn_newI (bc := 2) (bs := 272) (A := 573) (N' := 574) 80 rfl rfl rfl dX11_init_125 (by decide) (fun sh29 rf29 c29 n29 => ?_)
  have hs57 : sh29 558 = (19, 38) := (n29.2.2.2 558 (by decide)).1.trans hs53
  have hr58 : ∀ j, rf29 558 j = kRow [(18, 572), (17, 571), (16, 570), (10, 569), (9, 568), (8, 567), (7, 566), (6, 565), (5, 564), (4, 563), (3, 562), (2, 561), (1, 560), (0, 559)] (fun _ => -1) j := fun j => (congrFun (n29.2.2.2 558 (by decide)).2.1 j).trans (hr56 j)
  have hc59 : ∀ j, c29 558 j = kRow [] (kdv 9) j := fun j => (congrFun (n29.2.2.2 558 (by decide)).2.2 j).trans (hc55 j)
  refine kn_putR (kz := 19) rfl fo_X11_19 dX11_init_127 wf_X11_55 hs57 rfl rfl (fun rf30 p30 => ?_)
  have hr60 : ∀ j, rf30 558 j = kRow [(19, 573), (18, 572), (17, 571), (16, 570), (10, 569), (9, 568), (8, 567), (7, 566), (6, 565), (5, 564), (4, 563), (3, 562), (2, 561), (1, 560), (0, 559)] (fun _ => -1) j := fun j => (p30.2 j).trans (by rw [hr58 j]; rfl)
  refine kw_aload_n dX11_init_130 rfl ?_
  refine kw_bipush dX11_init_131 (by decide) ?_
  refine kn_newI (bc := 1) (bs := 192) (A := 574) (N' := 575) 80 rfl rfl rfl dX11_init_133 (by decide) (fun sh31 rf31 c31 n31 => ?_)
  have hs61 : sh31 558 = (19, 38) := (n31.2.2.2 558 (by decide)).1.trans hs57
  have hr62 : ∀ j, rf31 558 j = kRow [(19, 573), (18, 572), (17, 571), (16, 570), (10, 569), (9, 568), (8, 567), (7, 566), (6, 565), (5, 564), (4, 563), (3, 562), (2, 561), (1, 560), (0, 559)] (fun _ => -1) j := fun j => (congrFun (n31.2.2.2 558 (by decide)).2.1 j).trans (hr60 j)
  have hc63 : ∀ j, c31 558 j = kRow [] (kdv 9) j := fun j => (congrFun (n31.2.2.2 558 (by decide)).2.2 j).trans (hc59 j)
  refine kn_putR (kz := 20) rfl fo_X11_20 dX11_init_135 wf_X11_58 hs61 rfl rfl (fun rf32 p32 => ?_)
  have hr64 : ∀ j, rf32 558 j = kRow [(20, 574), (19, 573), (18, 572), (17, 571), (16, 570), (10, 569), (9, 568), (8, 567), (7, 566), (6, 565), (5, 564), (4, 563), (3, 562), (2, 561), (1, 560), (0, 559)] (fun _ => -1) j := fun j => (p32.2 j).trans (by rw [hr62 j]; rfl)
  refine kw_aload_n dX11_init_138 rfl ?_
  refine kw_sipush dX11_init_139 (by decide) ?_
  refine kn_newL (bc := 0) (bs := 0) (A := 575) (N' := 576) 192 rfl rfl rfl dX11_init_142 (by decide) (fun sh33 rf33 c33 n33 => ?_)
  have hs65 : sh33 558 = (19, 38) := (n33.2.2.2 558 (by decide)).1.trans hs61
  have hr66 : ∀ j, rf33 558 j = kRow [(20, 574), (19, 573), (18, 572), (17, 571), (16, 570), (10, 569), (9, 568), (8, 567), (7, 566), (6, 565), (5, 564), (4, 563), (3, 562), (2, 561), (1, 560), (0, 559)] (fun _ => -1) j := fun j => (congrFun (n33.2.2.2 558 (by decide)).2.1 j).trans (hr64 j)
  have hc67 : ∀ j, c33 558 j = kRow [] (kdv 9) j := fun j => (congrFun (n33.2.2.2 558 (by decide)).2.2 j).trans (hc63 j)
  refine kn_putR (kz := 36) rfl fo_X11_36 dX11_init_144 wf_X11_61 hs65 rfl rfl (fun rf34 p34 => ?_)
  have hr68 : ∀ j, rf34 558 j = kRow [(36, 575), (20, 574), (19, 573), (18, 572), (17, 571), (16, 570), (10, 569), (9, 568), (8, 567), (7, 566), (6, 565), (5, 564), (4, 563), (3, 562), (2, 561), (1, 560), (0, 559)] (fun _ => -1) j := fun j => (p34.2 j).trans (by rw [hr66 j]; rfl)
  have fm34 : kSm 558 576 sh33 rf34 c33 sh33 rf34 c33 := kSm.r0
  have fm33 : kSm 558 576 sh33 rf33 c33 sh33 rf34 c33 := (p34.smR).tr fm34 (by decide)
  have fm32 : kSm 558 575 sh31 rf32 c31 sh33 rf34 c33 := (n33.sm (by decide)).tr fm33 (by decide)
  have fm31 : kSm 558 575 sh31 rf31 c31 sh33 rf34 c33 := (p32.smR).tr fm32 (by decide)
  have fm30 : kSm 558 574 sh29 rf30 c29 sh33 rf34 c33 := (n31.sm (by decide)).tr fm31 (by decide)
  have fm29 : kSm 558 574 sh29 rf29 c29 sh33 rf34 c33 := (p30.smR).tr fm30 (by decide)
  have fm28 : kSm 558 573 sh27 rf28 c27 sh33 rf34 c33 := (n29.sm (by decide)).tr fm29 (by decide)
  have fm27 : kSm 558 573 sh27 rf27 c27 sh33 rf34 c33 := (p28.smR).tr fm28 (by decide)
  have fm26 : kSm 558 572 sh25 rf26 c25 sh33 rf34 c33 := (n27.sm (by decide)).tr fm27 (by decide)
  have fm25 : kSm 558 572 sh25 rf25 c25 sh33 rf34 c33 := (p26.smR).tr fm26 (by decide)
  have fm24 : kSm 558 571 sh23 rf24 c23 sh33 rf34 c33 := (n25.sm (by decide)).tr fm25 (by decide)
  have fm23 : kSm 558 571 sh23 rf23 c23 sh33 rf34 c33 := (p24.smR).tr fm24 (by decide)
  have fm22 : kSm 558 570 sh21 rf22 c21 sh33 rf34 c33 := (n23.sm (by decide)).tr fm23 (by decide)
  have fm21 : kSm 558 570 sh21 rf21 c21 sh33 rf34 c33 := (p22.smR).tr fm22 (by decide)
  have fm20 : kSm 558 569 sh19 rf20 c19 sh33 rf34 c33 := (n21.sm (by decide)).tr fm21 (by decide)
  have fm19 : kSm 558 569 sh19 rf19 c19 sh33 rf34 c33 := (p20.smR).tr fm20 (by decide)
  have fm18 : kSm 558 568 sh17 rf18 c17 sh33 rf34 c33 := (n19.sm (by decide)).tr fm19 (by decide)
  have fm17 : kSm 558 568 sh17 rf17 c17 sh33 rf34 c33 := (p18.smR).tr fm18 (by decide)
  have fm16 : kSm 558 567 sh15 rf16 c15 sh33 rf34 c33 := (n17.sm (by decide)).tr fm17 (by decide)
  have fm15 : kSm 558 567 sh15 rf15 c15 sh33 rf34 c33 := (p16.smR).tr fm16 (by decide)
  have fm14 : kSm 558 566 sh13 rf14 c13 sh33 rf34 c33 := (n15.sm (by decide)).tr fm15 (by decide)
  have fm13 : kSm 558 566 sh13 rf13 c13 sh33 rf34 c33 := (p14.smR).tr fm14 (by decide)
  have fm12 : kSm 558 565 sh11 rf12 c11 sh33 rf34 c33 := (n13.sm (by decide)).tr fm13 (by decide)
  have fm11 : kSm 558 565 sh11 rf11 c11 sh33 rf34 c33 := (p12.smR).tr fm12 (by decide)
  have fm10 : kSm 558 564 sh9 rf10 c9 sh33 rf34 c33 := (n11.sm (by decide)).tr fm11 (by decide)
  have fm9 : kSm 558 564 sh9 rf9 c9 sh33 rf34 c33 := (p10.smR).tr fm10 (by decide)
  have fm8 : kSm 558 563 sh7 rf8 c7 sh33 rf34 c33 := (n9.sm (by decide)).tr fm9 (by decide)
  have fm7 : kSm 558 563 sh7 rf7 c7 sh33 rf34 c33 := (p8.smR).tr fm8 (by decide)
  have fm6 : kSm 558 562 sh5 rf6 c5 sh33 rf34 c33 := (n7.sm (by decide)).tr fm7 (by decide)
  have fm5 : kSm 558 562 sh5 rf5 c5 sh33 rf34 c33 := (p6.smR).tr fm6 (by decide)
  have fm4 : kSm 558 561 sh3 rf4 c3 sh33 rf34 c33 := (n5.sm (by decide)).tr fm5 (by decide)
  have fm3 : kSm 558 561 sh3 rf3 c3 sh33 rf34 c33 := (p4.smR).tr fm4 (by decide)
  have fm2 : kSm 558 560 sh1 rf2 c1 sh33 rf34 c33 := (n3.sm (by decide)).tr fm3 (by decide)
  have fm1 : kSm 558 560 sh1 rf1 c1 sh33 rf34 c33 := (p2.smR).tr fm2 (by decide)
  have fm0 : kSm 558 559 sh rf c sh33 rf34 c33 := (n1.sm (by decide)).tr fm1 (by decide)
  have hL : kLay (576, sh33, rf34) := kLayC.lay (hC.bl (fun u hu => ⟨(fm0 u (by omega) (by omega)).1, (fm0 u (by omega) (by omega)).2.1⟩))
    (show ∀ q ∈ ([(558, 19, 38), (559, 2, 1600), (560, 2, 16), (561, 2, 192), (562, 2, 1536), (563, 2, 4800), (564, 4, 24), (565, 4, 12), (566, 4, 96), (567, 4, 12), (568, 1, 256), (569, 1, 8), (570, 3, 140), (571, 3, 120), (572, 1, 80), (573, 1, 80), (574, 1, 80), (575, 2, 192)] : List (Int × Nat × Nat)), sh33 q.1 = q.2 from List.forall_mem_cons.mpr ⟨hs65, List.forall_mem_cons.mpr ⟨(fm1 559 (by decide) (by decide)).1.trans n1.1, List.forall_mem_cons.mpr ⟨(fm3 560 (by decide) (by decide)).1.trans n3.1, List.forall_mem_cons.mpr ⟨(fm5 561 (by decide) (by decide)).1.trans n5.1, List.forall_mem_cons.mpr ⟨(fm7 562 (by decide) (by decide)).1.trans n7.1, List.forall_mem_cons.mpr ⟨(fm9 563 (by decide) (by decide)).1.trans n9.1, List.forall_mem_cons.mpr ⟨(fm11 564 (by decide) (by decide)).1.trans n11.1, List.forall_mem_cons.mpr ⟨(fm13 565 (by decide) (by decide)).1.trans n13.1, List.forall_mem_cons.mpr ⟨(fm15 566 (by decide) (by decide)).1.trans n15.1, List.forall_mem_cons.mpr ⟨(fm17 567 (by decide) (by decide)).1.trans n17.1, List.forall_mem_cons.mpr ⟨(fm19 568 (by decide) (by decide)).1.trans n19.1, List.forall_mem_cons.mpr ⟨(fm21 569 (by decide) (by decide)).1.trans n21.1, List.forall_mem_cons.mpr ⟨(fm23 570 (by decide) (by decide)).1.trans n23.1, List.forall_mem_cons.mpr ⟨(fm25 571 (by decide) (by decide)).1.trans n25.1, List.forall_mem_cons.mpr ⟨(fm27 572 (by decide) (by decide)).1.trans n27.1, List.forall_mem_cons.mpr ⟨(fm29 573 (by decide) (by decide)).1.trans n29.1, List.forall_mem_cons.mpr ⟨(fm31 574 (by decide) (by decide)).1.trans n31.1, List.forall_mem_cons.mpr ⟨(fm33 575 (by decide) (by decide)).1.trans n33.1, (fun _ q => nomatch q)⟩⟩⟩⟩⟩⟩⟩⟩⟩⟩⟩⟩⟩⟩⟩⟩⟩⟩)
    (show ∀ q ∈ ([(558, 0, 559), (558, 1, 560), (558, 2, 561), (558, 3, 562), (558, 4, 563), (558, 5, 564), (558, 6, 565), (558, 7, 566), (558, 8, 567), (558, 9, 568), (558, 10, 569), (558, 16, 570), (558, 17, 571), (558, 18, 572), (558, 19, 573), (558, 20, 574), (558, 36, 575)] : List (Int × Int × Int)), rf34 q.1 q.2.1 = q.2.2 from List.forall_mem_cons.mpr ⟨(hr68 0).trans rfl, List.forall_mem_cons.mpr ⟨(hr68 1).trans rfl, List.forall_mem_cons.mpr ⟨(hr68 2).trans rfl, List.forall_mem_cons.mpr ⟨(hr68 3).trans rfl, List.forall_mem_cons.mpr ⟨(hr68 4).trans rfl, List.forall_mem_cons.mpr ⟨(hr68 5).trans rfl, List.forall_mem_cons.mpr ⟨(hr68 6).trans rfl, List.forall_mem_cons.mpr ⟨(hr68 7).trans rfl, List.forall_mem_cons.mpr ⟨(hr68 8).trans rfl, List.forall_mem_cons.mpr ⟨(hr68 9).trans rfl, List.forall_mem_cons.mpr ⟨(hr68 10).trans rfl, List.forall_mem_cons.mpr ⟨(hr68 16).trans rfl, List.forall_mem_cons.mpr ⟨(hr68 17).trans rfl, List.forall_mem_cons.mpr ⟨(hr68 18).trans rfl, List.forall_mem_cons.mpr ⟨(hr68 19).trans rfl, List.forall_mem_cons.mpr ⟨(hr68 20).trans rfl, List.forall_mem_cons.mpr ⟨(hr68 36).trans rfl, (fun _ q => nomatch q)⟩⟩⟩⟩⟩⟩⟩⟩⟩⟩⟩⟩⟩⟩⟩⟩⟩)
  have z1 : ∀ j, c33 559 j = 0 := fun j => (congrFun (fm1 559 (by decide) (by decide)).2.2 j).trans (n1.2.2.1 j)
  have z2 : ∀ j, c33 564 j = 0 := fun j => (congrFun (fm11 564 (by decide) (by decide)).2.2 j).trans (n11.2.2.1 j)
  have lo : kLo c c33 := fun u i hu => congrFun (fm0 u (by omega) (by omega)).2.2 i
  exact kWP_mono (fun r S h => by
    obtain ⟨S1, c2⟩ := S
    obtain ⟨rfl, rfl, h1, h2⟩ := h
    exact k _ c2 rfl hL h1 (lo.tr h2)) (t_mk (P := fun r c2 => r = none ∧ RAl kL0 kT0 kT0 1 kK0 [] c2 ∧ kLo c33 c2) hL z1 (fun c2 a1 a2 a3 a4 a5 => ⟨rfl, RAl_0 a1 a2 (fun j => (congrFun (a5 564 (by decide) (by decide) (by decide) (by decide)) j).trans (z2 j)) a3 (fun j hj => (a4 j hj).trans (hc67 j)), fun u i hu => congrFun (a5 u (by omega) (by omega) (by omega) (by omega)) i⟩))
