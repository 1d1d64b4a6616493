/-- both sides hold the same between two calls -/
def kInv (c : KMem) : Prop := ∃ (L : KLt) (T B : KTp) (x : Int) (K : Bool × KLt × Int) (Q : List KLt), CAl L T B x K Q c ∧ RAl L T B x K Q c
theorem lc_196 {nm : String} {G : KG} {S0 : KSh} (hL : kLay S0) {d : Nat} {P : Option AV → KMem → Prop} {c : KMem} {x3 : Int} (r3 : 0 ≤ x3 ∧ x3 < 2147483648) (hLn : kLn G < 2147483648) (hp : 0 ≤ x3 ∧ x3 + 6 ≤ (kLn G : Int)) (hi : kInv c) (next : ∀ c', kInv c' → kW2 G S0 (kM_LW nm) (d + 60) 1404 [some (kA (-2)), some (kA 0), some (kA 558), some (kI x3)] [] c' P) : kW2 G S0 (kM_LW nm) (d + 60) 196 [some (kA (-2)), some (kA 0), some (kA 558), some (kI x3)] [] c P := by
  obtain ⟨L, T, B, x, K, Q, hs, hr⟩ := hi
  refine v_L_law_196 hL r3 hLn hp ?_
  exact s_X10_feed hL (k32_toInt _) (k32_toInt _) (k32_toInt _) (k32_toInt _) (k32_toInt _) hs (fun t c1 a1 l1 => ⟨_, rfl, s_X11_feed hL (k32_toInt _) (k32_toInt _) (k32_toInt _) (k32_toInt _) (k32_toInt _) (hr.hi l1) (fun _ c2 b2 m2 => ⟨_, rfl, rfl, next c2 ⟨_, _, _, _, _, _, (a1.lo m2), b2⟩⟩) (fun z => absurd t z)⟩) (fun t => ⟨_, rfl, s_X11_feed hL (k32_toInt _) (k32_toInt _) (k32_toInt _) (k32_toInt _) (k32_toInt _) hr (fun z => absurd z t) (fun _ => ⟨_, rfl, rfl, next c ⟨_, _, _, _, _, _, hs, hr⟩⟩)⟩)
theorem lc_259 {nm : String} {G : KG} {S0 : KSh} (hL : kLay S0) {d : Nat} {P : Option AV → KMem → Prop} {c : KMem} {x3 : Int} (r3 : 0 ≤ x3 ∧ x3 < 2147483648) (hLn : kLn G < 2147483648) (hp : 0 ≤ x3 ∧ x3 + 6 ≤ (kLn G : Int)) (hi : kInv c) (next : ∀ c', kInv c' → kW2 G S0 (kM_LW nm) (d + 60) 1404 [some (kA (-2)), some (kA 0), some (kA 558), some (kI x3)] [] c' P) : kW2 G S0 (kM_LW nm) (d + 60) 259 [some (kA (-2)), some (kA 0), some (kA 558), some (kI x3)] [] c P := by
  obtain ⟨L, T, B, x, K, Q, hs, hr⟩ := hi
  refine v_L_law_259 hL r3 hLn hp ?_
  refine s_X10_work hL (k32_toInt _) hs (fun t s1 L1 c1 e a1 l1 => ⟨_, rfl, ?_⟩) (fun t v1 c1 e a1 l1 => ⟨_, rfl, ?_⟩) (fun t => ⟨_, rfl, ?_⟩)
  · refine s_X11_work hL (k32_toInt _) (hr.hi l1) (fun _ s2 L2 c2 e' b2 m2 => ?_) (fun _ v2 c2 e' => ?_) (fun z => ?_)
    · cases e.symm.trans e'
      exact ⟨_, rfl, rfl, next c2 ⟨_, _, _, _, _, _, (a1.lo m2), b2⟩⟩
    · cases e.symm.trans e'
    · exact absurd t z
  · refine s_X11_work hL (k32_toInt _) (hr.hi l1) (fun _ s2 L2 c2 e' => ?_) (fun _ v2 c2 e' b2 m2 => ?_) (fun z => ?_)
    · cases e.symm.trans e'
    · cases e.symm.trans e'
      exact ⟨_, rfl, rfl, next c2 ⟨_, _, _, _, _, _, (a1.lo m2), b2⟩⟩
    · exact absurd t z
  · exact s_X11_work hL (k32_toInt _) hr (fun z => absurd z t) (fun z => absurd z t) (fun _ => ⟨_, rfl, rfl, next c ⟨_, _, _, _, _, _, hs, hr⟩⟩)
theorem lc_282 {nm : String} {G : KG} {S0 : KSh} (hL : kLay S0) {d : Nat} {P : Option AV → KMem → Prop} {c : KMem} {x3 : Int} (r3 : 0 ≤ x3 ∧ x3 < 2147483648) (hLn : kLn G < 2147483648) (hp : 0 ≤ x3 ∧ x3 + 6 ≤ (kLn G : Int)) (hi : kInv c) (next : ∀ c', kInv c' → kW2 G S0 (kM_LW nm) (d + 60) 1404 [some (kA (-2)), some (kA 0), some (kA 558), some (kI x3)] [] c' P) : kW2 G S0 (kM_LW nm) (d + 60) 282 [some (kA (-2)), some (kA 0), some (kA 558), some (kI x3)] [] c P := by
  obtain ⟨L, T, B, x, K, Q, hs, hr⟩ := hi
  refine v_L_law_282 hL r3 hLn hp ?_
  exact s_X10_drop hL (k32_toInt _) hs (fun t c1 a1 l1 => ⟨_, rfl, s_X11_drop hL (k32_toInt _) (hr.hi l1) (fun _ c2 b2 m2 => ⟨_, rfl, rfl, next c2 ⟨_, _, _, _, _, _, (a1.lo m2), b2⟩⟩) (fun z => absurd t z)⟩) (fun t => ⟨_, rfl, s_X11_drop hL (k32_toInt _) hr (fun z => absurd z t) (fun _ => ⟨_, rfl, rfl, next c ⟨_, _, _, _, _, _, hs, hr⟩⟩)⟩)
theorem lc_305 {nm : String} {G : KG} {S0 : KSh} (hL : kLay S0) {d : Nat} {P : Option AV → KMem → Prop} {c : KMem} {x3 : Int} (r3 : 0 ≤ x3 ∧ x3 < 2147483648) (hLn : kLn G < 2147483648) (hp : 0 ≤ x3 ∧ x3 + 6 ≤ (kLn G : Int)) (hi : kInv c) (next : ∀ c', kInv c' → kW2 G S0 (kM_LW nm) (d + 60) 1404 [some (kA (-2)), some (kA 0), some (kA 558), some (kI x3)] [] c' P) : kW2 G S0 (kM_LW nm) (d + 60) 305 [some (kA (-2)), some (kA 0), some (kA 558), some (kI x3)] [] c P := by
  obtain ⟨L, T, B, x, K, Q, hs, hr⟩ := hi
  refine v_L_law_305 hL r3 hLn hp ?_
  exact s_X10_draws hL (k32_toInt _) hs (fun t c1 a1 l1 => ⟨_, rfl, s_X11_draws hL (k32_toInt _) (hr.hi l1) (fun _ c2 b2 m2 => ⟨_, rfl, rfl, next c2 ⟨_, _, _, _, _, _, (a1.lo m2), b2⟩⟩) (fun z => absurd t z)⟩) (fun t => ⟨_, rfl, s_X11_draws hL (k32_toInt _) hr (fun z => absurd z t) (fun _ => ⟨_, rfl, rfl, next c ⟨_, _, _, _, _, _, hs, hr⟩⟩)⟩)
theorem lc_328 {nm : String} {G : KG} {S0 : KSh} (hL : kLay S0) {d : Nat} {P : Option AV → KMem → Prop} {c : KMem} {x3 : Int} (r3 : 0 ≤ x3 ∧ x3 < 2147483648) (hLn : kLn G < 2147483648) (hp : 0 ≤ x3 ∧ x3 + 6 ≤ (kLn G : Int)) (hi : kInv c) (next : ∀ c', kInv c' → kW2 G S0 (kM_LW nm) (d + 60) 1404 [some (kA (-2)), some (kA 0), some (kA 558), some (kI x3)] [] c' P) : kW2 G S0 (kM_LW nm) (d + 60) 328 [some (kA (-2)), some (kA 0), some (kA 558), some (kI x3)] [] c P := by
  obtain ⟨L, T, B, x, K, Q, hs, hr⟩ := hi
  refine v_L_law_328 hL r3 hLn hp ?_
  exact s_X10_part hL (k32_toInt _) (k32_toInt _) hs.1 (fun c1 e1 => ⟨_, rfl, s_X11_part hL (k32_toInt _) (k32_toInt _) (hr.hi e1.hi).rs ⟨_, rfl, rfl, next c1 ⟨_, _, _, _, _, _, (hs.rp e1), (hr.hi e1.hi)⟩⟩⟩)
theorem lc_361 {nm : String} {G : KG} {S0 : KSh} (hL : kLay S0) {d : Nat} {P : Option AV → KMem → Prop} {c : KMem} {x3 : Int} (r3 : 0 ≤ x3 ∧ x3 < 2147483648) (hLn : kLn G < 2147483648) (hp : 0 ≤ x3 ∧ x3 + 6 ≤ (kLn G : Int)) (hi : kInv c) (next : ∀ c', kInv c' → kW2 G S0 (kM_LW nm) (d + 60) 1404 [some (kA (-2)), some (kA 0), some (kA 558), some (kI x3)] [] c' P) : kW2 G S0 (kM_LW nm) (d + 60) 361 [some (kA (-2)), some (kA 0), some (kA 558), some (kI x3)] [] c P := by
  obtain ⟨L, T, B, x, K, Q, hs, hr⟩ := hi
  refine v_L_law_361 hL r3 hLn hp ?_
  exact s_X10_letters hL (k32_toInt _) hs.1 (fun c1 e1 => ⟨_, rfl, s_X11_letters hL (k32_toInt _) (hr.hi e1.hi).rs (fun c2 _ e3 => ⟨_, rfl, rfl, next c2 ⟨_, _, _, _, _, _, ((hs.rp e1).lo (e3.rp kT2s).lo), ((hr.hi e1.hi).rp (e3.rp kT2s))⟩⟩)⟩)
theorem lc_384 {nm : String} {G : KG} {S0 : KSh} (hL : kLay S0) {d : Nat} {P : Option AV → KMem → Prop} {c : KMem} {x3 : Int} (r3 : 0 ≤ x3 ∧ x3 < 2147483648) (hLn : kLn G < 2147483648) (hp : 0 ≤ x3 ∧ x3 + 6 ≤ (kLn G : Int)) (hi : kInv c) (next : ∀ c', kInv c' → kW2 G S0 (kM_LW nm) (d + 60) 1404 [some (kA (-2)), some (kA 0), some (kA 558), some (kI x3)] [] c' P) : kW2 G S0 (kM_LW nm) (d + 60) 384 [some (kA (-2)), some (kA 0), some (kA 558), some (kI x3)] [] c P := by
  obtain ⟨L, T, B, x, K, Q, hs, hr⟩ := hi
  refine v_L_law_384 hL r3 hLn hp ?_
  exact s_X10_formIs hL (k32_toInt _) (k32_toInt _) hs.1 (fun c1 e1 => ⟨_, rfl, s_X11_formIs hL (k32_toInt _) (k32_toInt _) (hr.hi e1.hi).rs (fun c2 e2 => ⟨_, rfl, rfl, next c2 ⟨_, _, _, _, _, _, ((hs.rp e1).lo e2.lo), ((hr.hi e1.hi).rp e2)⟩⟩)⟩)
theorem lc_417 {nm : String} {G : KG} {S0 : KSh} (hL : kLay S0) {d : Nat} {P : Option AV → KMem → Prop} {c : KMem} {x3 : Int} (r3 : 0 ≤ x3 ∧ x3 < 2147483648) (hLn : kLn G < 2147483648) (hp : 0 ≤ x3 ∧ x3 + 6 ≤ (kLn G : Int)) (hi : kInv c) (next : ∀ c', kInv c' → kW2 G S0 (kM_LW nm) (d + 60) 1404 [some (kA (-2)), some (kA 0), some (kA 558), some (kI x3)] [] c' P) : kW2 G S0 (kM_LW nm) (d + 60) 417 [some (kA (-2)), some (kA 0), some (kA 558), some (kI x3)] [] c P := by
  obtain ⟨L, T, B, x, K, Q, hs, hr⟩ := hi
  refine v_L_law_417 hL r3 hLn hp ?_
  exact s_X10_middle hL (k32_toInt _) (k32_toInt _) hs.1 (fun c1 e1 => ⟨_, rfl, s_X11_middle hL (k32_toInt _) (k32_toInt _) (hr.hi e1.hi).rs (fun c2 e2 => ⟨_, rfl, rfl, next c2 ⟨_, _, _, _, _, _, ((hs.rp e1).lo e2.lo), ((hr.hi e1.hi).rp e2)⟩⟩)⟩)
theorem lc_451 {nm : String} {G : KG} {S0 : KSh} (hL : kLay S0) {d : Nat} {P : Option AV → KMem → Prop} {c : KMem} {x3 : Int} (r3 : 0 ≤ x3 ∧ x3 < 2147483648) (hLn : kLn G < 2147483648) (hp : 0 ≤ x3 ∧ x3 + 6 ≤ (kLn G : Int)) (hi : kInv c) (next : ∀ c', kInv c' → kW2 G S0 (kM_LW nm) (d + 60) 1404 [some (kA (-2)), some (kA 0), some (kA 558), some (kI x3)] [] c' P) : kW2 G S0 (kM_LW nm) (d + 60) 451 [some (kA (-2)), some (kA 0), some (kA 558), some (kI x3)] [] c P := by
  obtain ⟨L, T, B, x, K, Q, hs, hr⟩ := hi
  refine v_L_law_451 hL r3 hLn hp ?_
  exact s_X10_line hL (k32_toInt _) (k32_toInt _) hs.1 (fun c1 e1 => ⟨_, rfl, s_X11_line hL (k32_toInt _) (k32_toInt _) (hr.hi e1.hi).rs (fun c2 e2 => ⟨_, rfl, rfl, next c2 ⟨_, _, _, _, _, _, ((hs.rp e1).lo e2.lo), ((hr.hi e1.hi).rp e2)⟩⟩)⟩)
theorem lc_484 {nm : String} {G : KG} {S0 : KSh} (hL : kLay S0) {d : Nat} {P : Option AV → KMem → Prop} {c : KMem} {x3 : Int} (r3 : 0 ≤ x3 ∧ x3 < 2147483648) (hLn : kLn G < 2147483648) (hp : 0 ≤ x3 ∧ x3 + 6 ≤ (kLn G : Int)) (hi : kInv c) (next : ∀ c', kInv c' → kW2 G S0 (kM_LW nm) (d + 60) 1404 [some (kA (-2)), some (kA 0), some (kA 558), some (kI x3)] [] c' P) : kW2 G S0 (kM_LW nm) (d + 60) 484 [some (kA (-2)), some (kA 0), some (kA 558), some (kI x3)] [] c P := by
  obtain ⟨L, T, B, x, K, Q, hs, hr⟩ := hi
  refine v_L_law_484 hL r3 hLn hp ?_
  exact s_X10_on hL (k32_toInt _) (k32_toInt _) (k32_toInt _) hs.1 (fun c1 e1 => ⟨_, rfl, s_X11_on hL (k32_toInt _) (k32_toInt _) (k32_toInt _) (hr.hi e1.hi).rs (fun c2 e2 => ⟨_, rfl, rfl, next c2 ⟨_, _, _, _, _, _, ((hs.rp e1).lo e2.lo), ((hr.hi e1.hi).rp e2)⟩⟩)⟩)
theorem lc_527 {nm : String} {G : KG} {S0 : KSh} (hL : kLay S0) {d : Nat} {P : Option AV → KMem → Prop} {c : KMem} {x3 : Int} (r3 : 0 ≤ x3 ∧ x3 < 2147483648) (hLn : kLn G < 2147483648) (hp : 0 ≤ x3 ∧ x3 + 6 ≤ (kLn G : Int)) (hi : kInv c) (next : ∀ c', kInv c' → kW2 G S0 (kM_LW nm) (d + 60) 1404 [some (kA (-2)), some (kA 0), some (kA 558), some (kI x3)] [] c' P) : kW2 G S0 (kM_LW nm) (d + 60) 527 [some (kA (-2)), some (kA 0), some (kA 558), some (kI x3)] [] c P := by
  obtain ⟨L, T, B, x, K, Q, hs, hr⟩ := hi
  refine v_L_law_527 hL r3 hLn hp ?_
  exact s_X10_product hL (k32_toInt _) (k32_toInt _) (k32_toInt _) (k32_toInt _) hs.1 (fun c1 e1 => ⟨_, rfl, s_X11_product hL (k32_toInt _) (k32_toInt _) (k32_toInt _) (k32_toInt _) (hr.hi e1.hi).rs (fun c2 e2 => ⟨_, rfl, rfl, next c2 ⟨_, _, _, _, _, _, ((hs.rp e1).lo e2.lo), ((hr.hi e1.hi).rp e2)⟩⟩)⟩)
theorem lc_581 {nm : String} {G : KG} {S0 : KSh} (hL : kLay S0) {d : Nat} {P : Option AV → KMem → Prop} {c : KMem} {x3 : Int} (r3 : 0 ≤ x3 ∧ x3 < 2147483648) (hLn : kLn G < 2147483648) (hp : 0 ≤ x3 ∧ x3 + 6 ≤ (kLn G : Int)) (hi : kInv c) (next : ∀ c', kInv c' → kW2 G S0 (kM_LW nm) (d + 60) 1404 [some (kA (-2)), some (kA 0), some (kA 558), some (kI x3)] [] c' P) : kW2 G S0 (kM_LW nm) (d + 60) 581 [some (kA (-2)), some (kA 0), some (kA 558), some (kI x3)] [] c P := by
  obtain ⟨L, T, B, x, K, Q, hs, hr⟩ := hi
  refine v_L_law_581 hL r3 hLn hp ?_
  exact s_X10_cosine hL (k32_toInt _) (k32_toInt _) (k32_toInt _) hs.1 (fun c1 e1 => ⟨_, rfl, s_X11_cosine hL (k32_toInt _) (k32_toInt _) (k32_toInt _) (hr.hi e1.hi).rs (fun c2 e2 => ⟨_, rfl, rfl, next c2 ⟨_, _, _, _, _, _, ((hs.rp e1).lo e2.lo), ((hr.hi e1.hi).rp e2)⟩⟩)⟩)
theorem lc_625 {nm : String} {G : KG} {S0 : KSh} (hL : kLay S0) {d : Nat} {P : Option AV → KMem → Prop} {c : KMem} {x3 : Int} (r3 : 0 ≤ x3 ∧ x3 < 2147483648) (hLn : kLn G < 2147483648) (hp : 0 ≤ x3 ∧ x3 + 6 ≤ (kLn G : Int)) (hi : kInv c) (next : ∀ c', kInv c' → kW2 G S0 (kM_LW nm) (d + 60) 1404 [some (kA (-2)), some (kA 0), some (kA 558), some (kI x3)] [] c' P) : kW2 G S0 (kM_LW nm) (d + 60) 625 [some (kA (-2)), some (kA 0), some (kA 558), some (kI x3)] [] c P := by
  obtain ⟨L, T, B, x, K, Q, hs, hr⟩ := hi
  refine v_L_law_625 hL r3 hLn hp ?_
  exact s_X10_distance hL (k32_toInt _) (k32_toInt _) (k32_toInt _) hs.1 (fun c1 e1 => ⟨_, rfl, s_X11_distance hL (k32_toInt _) (k32_toInt _) (k32_toInt _) (hr.hi e1.hi).rs (fun c2 e2 => ⟨_, rfl, rfl, next c2 ⟨_, _, _, _, _, _, ((hs.rp e1).lo e2.lo), ((hr.hi e1.hi).rp e2)⟩⟩)⟩)
theorem lc_669 {nm : String} {G : KG} {S0 : KSh} (hL : kLay S0) {d : Nat} {P : Option AV → KMem → Prop} {c : KMem} {x3 : Int} (r3 : 0 ≤ x3 ∧ x3 < 2147483648) (hLn : kLn G < 2147483648) (hp : 0 ≤ x3 ∧ x3 + 6 ≤ (kLn G : Int)) (hi : kInv c) (next : ∀ c', kInv c' → kW2 G S0 (kM_LW nm) (d + 60) 1404 [some (kA (-2)), some (kA 0), some (kA 558), some (kI x3)] [] c' P) : kW2 G S0 (kM_LW nm) (d + 60) 669 [some (kA (-2)), some (kA 0), some (kA 558), some (kI x3)] [] c P := by
  obtain ⟨L, T, B, x, K, Q, hs, hr⟩ := hi
  refine v_L_law_669 hL r3 hLn hp ?_
  exact s_X10_pair hL (k32_toInt _) (k32_toInt _) hs.1 (fun c1 e1 => ⟨_, rfl, s_X11_pair hL (k32_toInt _) (k32_toInt _) (hr.hi e1.hi).rs (fun c2 e2 => ⟨_, rfl, rfl, next c2 ⟨_, _, _, _, _, _, ((hs.rp e1).lo e2.lo), ((hr.hi e1.hi).rp e2)⟩⟩)⟩)
theorem lc_703 {nm : String} {G : KG} {S0 : KSh} (hL : kLay S0) {d : Nat} {P : Option AV → KMem → Prop} {c : KMem} {x3 : Int} (r3 : 0 ≤ x3 ∧ x3 < 2147483648) (hLn : kLn G < 2147483648) (hp : 0 ≤ x3 ∧ x3 + 6 ≤ (kLn G : Int)) (hi : kInv c) (next : ∀ c', kInv c' → kW2 G S0 (kM_LW nm) (d + 60) 1404 [some (kA (-2)), some (kA 0), some (kA 558), some (kI x3)] [] c' P) : kW2 G S0 (kM_LW nm) (d + 60) 703 [some (kA (-2)), some (kA 0), some (kA 558), some (kI x3)] [] c P := by
  obtain ⟨L, T, B, x, K, Q, hs, hr⟩ := hi
  refine v_L_law_703 hL r3 hLn hp ?_
  exact s_X10_power hL (k32_toInt _) (k32_toInt _) (k32_toInt _) (k32_toInt _) hs.1 (fun c1 e1 => ⟨_, rfl, s_X11_power hL (k32_toInt _) (k32_toInt _) (k32_toInt _) (k32_toInt _) (hr.hi e1.hi).rs (fun c2 e2 => ⟨_, rfl, rfl, next c2 ⟨_, _, _, _, _, _, ((hs.rp e1).lo e2.lo), ((hr.hi e1.hi).rp e2)⟩⟩)⟩)
theorem lc_757 {nm : String} {G : KG} {S0 : KSh} (hL : kLay S0) {d : Nat} {P : Option AV → KMem → Prop} {c : KMem} {x3 : Int} (r3 : 0 ≤ x3 ∧ x3 < 2147483648) (hLn : kLn G < 2147483648) (hp : 0 ≤ x3 ∧ x3 + 6 ≤ (kLn G : Int)) (hi : kInv c) (next : ∀ c', kInv c' → kW2 G S0 (kM_LW nm) (d + 60) 1404 [some (kA (-2)), some (kA 0), some (kA 558), some (kI x3)] [] c' P) : kW2 G S0 (kM_LW nm) (d + 60) 757 [some (kA (-2)), some (kA 0), some (kA 558), some (kI x3)] [] c P := by
  obtain ⟨L, T, B, x, K, Q, hs, hr⟩ := hi
  refine v_L_law_757 hL r3 hLn hp ?_
  exact s_X10_stand hL (k32_toInt _) (k32_toInt _) hs.1 (fun c1 e1 => ⟨_, rfl, s_X11_stand hL (k32_toInt _) (k32_toInt _) (hr.hi e1.hi).rs (fun c2 e2 => ⟨_, rfl, rfl, next c2 ⟨_, _, _, _, _, _, ((hs.rp e1).lo e2.lo), ((hr.hi e1.hi).rp e2)⟩⟩)⟩)
theorem lc_790 {nm : String} {G : KG} {S0 : KSh} (hL : kLay S0) {d : Nat} {P : Option AV → KMem → Prop} {c : KMem} {x3 : Int} (r3 : 0 ≤ x3 ∧ x3 < 2147483648) (hLn : kLn G < 2147483648) (hp : 0 ≤ x3 ∧ x3 + 6 ≤ (kLn G : Int)) (hi : kInv c) (next : ∀ c', kInv c' → kW2 G S0 (kM_LW nm) (d + 60) 1404 [some (kA (-2)), some (kA 0), some (kA 558), some (kI x3)] [] c' P) : kW2 G S0 (kM_LW nm) (d + 60) 790 [some (kA (-2)), some (kA 0), some (kA 558), some (kI x3)] [] c P := by
  obtain ⟨L, T, B, x, K, Q, hs, hr⟩ := hi
  refine v_L_law_790 hL r3 hLn hp ?_
  exact s_X10_bundle hL (k32_toInt _) (k32_toInt _) (k32_toInt _) hs.1 (fun c1 e1 => ⟨_, rfl, s_X11_bundle hL (k32_toInt _) (k32_toInt _) (k32_toInt _) (hr.hi e1.hi).rs (fun c2 e2 => ⟨_, rfl, rfl, next c2 ⟨_, _, _, _, _, _, ((hs.rp e1).lo e2.lo), ((hr.hi e1.hi).rp e2)⟩⟩)⟩)
theorem lc_833 {nm : String} {G : KG} {S0 : KSh} (hL : kLay S0) {d : Nat} {P : Option AV → KMem → Prop} {c : KMem} {x3 : Int} (r3 : 0 ≤ x3 ∧ x3 < 2147483648) (hLn : kLn G < 2147483648) (hp : 0 ≤ x3 ∧ x3 + 6 ≤ (kLn G : Int)) (hi : kInv c) (next : ∀ c', kInv c' → kW2 G S0 (kM_LW nm) (d + 60) 1404 [some (kA (-2)), some (kA 0), some (kA 558), some (kI x3)] [] c' P) : kW2 G S0 (kM_LW nm) (d + 60) 833 [some (kA (-2)), some (kA 0), some (kA 558), some (kI x3)] [] c P := by
  obtain ⟨L, T, B, x, K, Q, hs, hr⟩ := hi
  refine v_L_law_833 hL r3 hLn hp ?_
  exact s_X10_group hL (k32_toInt _) hs.1 (fun c1 e1 => ⟨_, rfl, s_X11_group hL (k32_toInt _) (hr.hi e1.hi).rs (fun c2 e2 => ⟨_, rfl, rfl, next c2 ⟨_, _, _, _, _, _, ((hs.rp e1).lo e2.lo), ((hr.hi e1.hi).rp e2)⟩⟩)⟩)
theorem lc_856 {nm : String} {G : KG} {S0 : KSh} (hL : kLay S0) {d : Nat} {P : Option AV → KMem → Prop} {c : KMem} {x3 : Int} (r3 : 0 ≤ x3 ∧ x3 < 2147483648) (hLn : kLn G < 2147483648) (hp : 0 ≤ x3 ∧ x3 + 6 ≤ (kLn G : Int)) (hi : kInv c) (next : ∀ c', kInv c' → kW2 G S0 (kM_LW nm) (d + 60) 1404 [some (kA (-2)), some (kA 0), some (kA 558), some (kI x3)] [] c' P) : kW2 G S0 (kM_LW nm) (d + 60) 856 [some (kA (-2)), some (kA 0), some (kA 558), some (kI x3)] [] c P := by
  obtain ⟨L, T, B, x, K, Q, hs, hr⟩ := hi
  refine v_L_law_856 hL r3 hLn hp ?_
  exact s_X10_rank hL (k32_toInt _) hs.1 (fun t m1 c1 i1 _ e1 => ⟨_, rfl, s_X11_rank hL (k32_toInt _) (hr.hi e1.hi).rs (fun _ m2 c2 i2 _ e2 => ⟨_, rfl, by rw [i2.un i1], next c2 ⟨_, _, _, _, _, _, ((hs.rp e1).lo e2.lo), ((hr.hi e1.hi).rp e2)⟩⟩) (fun z => absurd t z)⟩) (fun t => ⟨_, rfl, s_X11_rank hL (k32_toInt _) hr.rs (fun z => absurd z t) (fun _ => ⟨_, rfl, rfl, next c ⟨_, _, _, _, _, _, hs, hr⟩⟩)⟩)
theorem lc_879 {nm : String} {G : KG} {S0 : KSh} (hL : kLay S0) {d : Nat} {P : Option AV → KMem → Prop} {c : KMem} {x3 : Int} (r3 : 0 ≤ x3 ∧ x3 < 2147483648) (hLn : kLn G < 2147483648) (hp : 0 ≤ x3 ∧ x3 + 6 ≤ (kLn G : Int)) (hi : kInv c) (next : ∀ c', kInv c' → kW2 G S0 (kM_LW nm) (d + 60) 1404 [some (kA (-2)), some (kA 0), some (kA 558), some (kI x3)] [] c' P) : kW2 G S0 (kM_LW nm) (d + 60) 879 [some (kA (-2)), some (kA 0), some (kA 558), some (kI x3)] [] c P := by
  obtain ⟨L, T, B, x, K, Q, hs, hr⟩ := hi
  refine v_L_law_879 hL r3 hLn hp ?_
  exact s_X10_row hL (k32_toInt _) (k32_toInt _) hs.1 (fun c1 e1 => ⟨_, rfl, s_X11_row hL (k32_toInt _) (k32_toInt _) (hr.hi e1.hi).rs (fun c2 e2 => ⟨_, rfl, rfl, next c2 ⟨_, _, _, _, _, _, ((hs.rp e1).lo e2.lo), ((hr.hi e1.hi).rp e2)⟩⟩)⟩)
theorem lc_912 {nm : String} {G : KG} {S0 : KSh} (hL : kLay S0) {d : Nat} {P : Option AV → KMem → Prop} {c : KMem} {x3 : Int} (r3 : 0 ≤ x3 ∧ x3 < 2147483648) (hLn : kLn G < 2147483648) (hp : 0 ≤ x3 ∧ x3 + 6 ≤ (kLn G : Int)) (hi : kInv c) (next : ∀ c', kInv c' → kW2 G S0 (kM_LW nm) (d + 60) 1404 [some (kA (-2)), some (kA 0), some (kA 558), some (kI x3)] [] c' P) : kW2 G S0 (kM_LW nm) (d + 60) 912 [some (kA (-2)), some (kA 0), some (kA 558), some (kI x3)] [] c P := by
  obtain ⟨L, T, B, x, K, Q, hs, hr⟩ := hi
  refine v_L_law_912 hL r3 hLn hp ?_
  exact s_X10_whole hL (k32_toInt _) hs.1 (fun c1 e1 => ⟨_, rfl, s_X11_whole hL (k32_toInt _) (hr.hi e1.hi).rs (fun c2 e2 => ⟨_, rfl, rfl, next c2 ⟨_, _, _, _, _, _, ((hs.rp e1).lo e2.lo), ((hr.hi e1.hi).rp e2)⟩⟩)⟩)
theorem lc_935 {nm : String} {G : KG} {S0 : KSh} (hL : kLay S0) {d : Nat} {P : Option AV → KMem → Prop} {c : KMem} {x3 : Int} (r3 : 0 ≤ x3 ∧ x3 < 2147483648) (hLn : kLn G < 2147483648) (hp : 0 ≤ x3 ∧ x3 + 6 ≤ (kLn G : Int)) (hi : kInv c) (next : ∀ c', kInv c' → kW2 G S0 (kM_LW nm) (d + 60) 1404 [some (kA (-2)), some (kA 0), some (kA 558), some (kI x3)] [] c' P) : kW2 G S0 (kM_LW nm) (d + 60) 935 [some (kA (-2)), some (kA 0), some (kA 558), some (kI x3)] [] c P := by
  obtain ⟨L, T, B, x, K, Q, hs, hr⟩ := hi
  refine v_L_law_935 hL r3 hLn hp ?_
  exact s_X10_book hL (k32_toInt _) hs (fun t c1 a1 l1 => ⟨_, rfl, s_X11_book hL (k32_toInt _) (hr.hi l1) (fun _ c2 b2 m2 => ⟨_, rfl, rfl, next c2 ⟨_, _, _, _, _, _, (a1.lo m2), b2⟩⟩) (fun z => absurd t z)⟩) (fun t => ⟨_, rfl, s_X11_book hL (k32_toInt _) hr (fun z => absurd z t) (fun _ => ⟨_, rfl, rfl, next c ⟨_, _, _, _, _, _, hs, hr⟩⟩)⟩)
theorem lc_958 {nm : String} {G : KG} {S0 : KSh} (hL : kLay S0) {d : Nat} {P : Option AV → KMem → Prop} {c : KMem} {x3 : Int} (r3 : 0 ≤ x3 ∧ x3 < 2147483648) (hLn : kLn G < 2147483648) (hp : 0 ≤ x3 ∧ x3 + 6 ≤ (kLn G : Int)) (hi : kInv c) (next : ∀ c', kInv c' → kW2 G S0 (kM_LW nm) (d + 60) 1404 [some (kA (-2)), some (kA 0), some (kA 558), some (kI x3)] [] c' P) : kW2 G S0 (kM_LW nm) (d + 60) 958 [some (kA (-2)), some (kA 0), some (kA 558), some (kI x3)] [] c P := by
  obtain ⟨L, T, B, x, K, Q, hs, hr⟩ := hi
  refine v_L_law_958 hL r3 hLn hp ?_
  refine s_X10_run hL hs (fun t s1 L1 c1 e a1 l1 => ⟨_, rfl, ?_⟩) (fun t v1 c1 e a1 l1 => ⟨_, rfl, ?_⟩) (fun t => ⟨_, rfl, ?_⟩)
  · refine s_X11_run hL (hr.hi l1) (fun _ s2 L2 c2 e' b2 m2 => ?_) (fun _ v2 c2 e' => ?_) (fun z => ?_)
    · cases e.symm.trans e'
      exact ⟨_, rfl, rfl, next c2 ⟨_, _, _, _, _, _, (a1.lo m2), b2⟩⟩
    · cases e.symm.trans e'
    · exact absurd z t
  · refine s_X11_run hL (hr.hi l1) (fun _ s2 L2 c2 e' => ?_) (fun _ v2 c2 e' b2 m2 => ?_) (fun z => ?_)
    · cases e.symm.trans e'
    · cases e.symm.trans e'
      exact ⟨_, rfl, rfl, next c2 ⟨_, _, _, _, _, _, (a1.lo m2), b2⟩⟩
    · exact absurd z t
  · exact s_X11_run hL hr (fun z => absurd t z) (fun z => absurd t z) (fun _ => ⟨_, rfl, rfl, next c ⟨_, _, _, _, _, _, hs, hr⟩⟩)
theorem lc_971 {nm : String} {G : KG} {S0 : KSh} (hL : kLay S0) {d : Nat} {P : Option AV → KMem → Prop} {c : KMem} {x3 : Int} (r3 : 0 ≤ x3 ∧ x3 < 2147483648) (hLn : kLn G < 2147483648) (hp : 0 ≤ x3 ∧ x3 + 6 ≤ (kLn G : Int)) (hi : kInv c) (next : ∀ c', kInv c' → kW2 G S0 (kM_LW nm) (d + 60) 1404 [some (kA (-2)), some (kA 0), some (kA 558), some (kI x3)] [] c' P) : kW2 G S0 (kM_LW nm) (d + 60) 971 [some (kA (-2)), some (kA 0), some (kA 558), some (kI x3)] [] c P := by
  obtain ⟨L, T, B, x, K, Q, hs, hr⟩ := hi
  refine v_L_law_971 hL r3 hLn hp ?_
  refine s_X10_trials hL (k32_toInt _) (k32_toInt _) (k32_toInt _) (k32_toInt _) hs (fun t t2 c1 a1 l1 => ⟨_, rfl, ?_⟩) (fun t t2 => ⟨_, rfl, ?_⟩) (fun t => ⟨_, rfl, ?_⟩)
  · exact s_X11_trials hL (k32_toInt _) (k32_toInt _) (k32_toInt _) (k32_toInt _) (hr.hi l1) (fun _ _ c2 b2 m2 => ⟨_, rfl, rfl, next c2 ⟨_, _, _, _, _, _, (a1.lo m2), b2⟩⟩) (fun _ z => absurd z t2) (fun z => absurd t z)
  · exact s_X11_trials hL (k32_toInt _) (k32_toInt _) (k32_toInt _) (k32_toInt _) hr (fun _ z => absurd t2 z) (fun _ _ => ⟨_, rfl, rfl, next c ⟨_, _, _, _, _, _, hs, hr⟩⟩) (fun z => absurd t z)
  · exact s_X11_trials hL (k32_toInt _) (k32_toInt _) (k32_toInt _) (k32_toInt _) hr (fun z => absurd z t) (fun z => absurd z t) (fun _ => ⟨_, rfl, rfl, next c ⟨_, _, _, _, _, _, hs, hr⟩⟩)
theorem lc_1024 {nm : String} {G : KG} {S0 : KSh} (hL : kLay S0) {d : Nat} {P : Option AV → KMem → Prop} {c : KMem} {x3 : Int} (r3 : 0 ≤ x3 ∧ x3 < 2147483648) (hLn : kLn G < 2147483648) (hp : 0 ≤ x3 ∧ x3 + 6 ≤ (kLn G : Int)) (hi : kInv c) (next : ∀ c', kInv c' → kW2 G S0 (kM_LW nm) (d + 60) 1404 [some (kA (-2)), some (kA 0), some (kA 558), some (kI x3)] [] c' P) : kW2 G S0 (kM_LW nm) (d + 60) 1024 [some (kA (-2)), some (kA 0), some (kA 558), some (kI x3)] [] c P := by
  obtain ⟨L, T, B, x, K, Q, hs, hr⟩ := hi
  refine v_L_law_1024 hL r3 hLn hp ?_
  exact s_X10_like hL (k32_toInt _) (k32_toInt _) hs.1 (fun c1 e1 => ⟨_, rfl, s_X11_like hL (k32_toInt _) (k32_toInt _) (hr.hi e1.hi).rs (fun c2 e2 => ⟨_, rfl, rfl, next c2 ⟨_, _, _, _, _, _, ((hs.rp e1).lo e2.lo), ((hr.hi e1.hi).rp e2)⟩⟩)⟩)
theorem lc_1057 {nm : String} {G : KG} {S0 : KSh} (hL : kLay S0) {d : Nat} {P : Option AV → KMem → Prop} {c : KMem} {x3 : Int} (r3 : 0 ≤ x3 ∧ x3 < 2147483648) (hLn : kLn G < 2147483648) (hp : 0 ≤ x3 ∧ x3 + 6 ≤ (kLn G : Int)) (hi : kInv c) (next : ∀ c', kInv c' → kW2 G S0 (kM_LW nm) (d + 60) 1404 [some (kA (-2)), some (kA 0), some (kA 558), some (kI x3)] [] c' P) : kW2 G S0 (kM_LW nm) (d + 60) 1057 [some (kA (-2)), some (kA 0), some (kA 558), some (kI x3)] [] c P := by
  obtain ⟨L, T, B, x, K, Q, hs, hr⟩ := hi
  refine v_L_law_1057 hL r3 hLn hp ?_
  exact s_X10_lies hL (k32_toInt _) (k32_toInt _) hs.1 (fun c1 e1 => ⟨_, rfl, s_X11_lies hL (k32_toInt _) (k32_toInt _) (hr.hi e1.hi).rs (fun c2 e2 => ⟨_, rfl, rfl, next c2 ⟨_, _, _, _, _, _, ((hs.rp e1).lo e2.lo), ((hr.hi e1.hi).rp e2)⟩⟩)⟩)
theorem lc_1090 {nm : String} {G : KG} {S0 : KSh} (hL : kLay S0) {d : Nat} {P : Option AV → KMem → Prop} {c : KMem} {x3 : Int} (r3 : 0 ≤ x3 ∧ x3 < 2147483648) (hLn : kLn G < 2147483648) (hp : 0 ≤ x3 ∧ x3 + 6 ≤ (kLn G : Int)) (hi : kInv c) (next : ∀ c', kInv c' → kW2 G S0 (kM_LW nm) (d + 60) 1404 [some (kA (-2)), some (kA 0), some (kA 558), some (kI x3)] [] c' P) : kW2 G S0 (kM_LW nm) (d + 60) 1090 [some (kA (-2)), some (kA 0), some (kA 558), some (kI x3)] [] c P := by
  obtain ⟨L, T, B, x, K, Q, hs, hr⟩ := hi
  refine v_L_law_1090 hL r3 hLn hp ?_
  exact s_X10_meetings hL (k32_toInt _) hs.1 (fun c1 e1 => ⟨_, rfl, s_X11_meetings hL (k32_toInt _) (hr.hi e1.hi).rs (fun c2 e2 => ⟨_, rfl, rfl, next c2 ⟨_, _, _, _, _, _, ((hs.rp e1).lo e2.lo), ((hr.hi e1.hi).rp e2)⟩⟩)⟩)
theorem lc_1113 {nm : String} {G : KG} {S0 : KSh} (hL : kLay S0) {d : Nat} {P : Option AV → KMem → Prop} {c : KMem} {x3 : Int} (r3 : 0 ≤ x3 ∧ x3 < 2147483648) (hLn : kLn G < 2147483648) (hp : 0 ≤ x3 ∧ x3 + 6 ≤ (kLn G : Int)) (hi : kInv c) (next : ∀ c', kInv c' → kW2 G S0 (kM_LW nm) (d + 60) 1404 [some (kA (-2)), some (kA 0), some (kA 558), some (kI x3)] [] c' P) : kW2 G S0 (kM_LW nm) (d + 60) 1113 [some (kA (-2)), some (kA 0), some (kA 558), some (kI x3)] [] c P := by
  obtain ⟨L, T, B, x, K, Q, hs, hr⟩ := hi
  refine v_L_law_1113 hL r3 hLn hp ?_
  exact s_X10_turned hL (k32_toInt _) (k32_toInt _) (k32_toInt _) hs.1 (fun c1 e1 => ⟨_, rfl, s_X11_turned hL (k32_toInt _) (k32_toInt _) (k32_toInt _) (hr.hi e1.hi).rs (fun c2 e2 => ⟨_, rfl, rfl, next c2 ⟨_, _, _, _, _, _, ((hs.rp e1).lo e2.lo), ((hr.hi e1.hi).rp e2)⟩⟩)⟩)
theorem lc_1156 {nm : String} {G : KG} {S0 : KSh} (hL : kLay S0) {d : Nat} {P : Option AV → KMem → Prop} {c : KMem} {x3 : Int} (r3 : 0 ≤ x3 ∧ x3 < 2147483648) (hLn : kLn G < 2147483648) (hp : 0 ≤ x3 ∧ x3 + 6 ≤ (kLn G : Int)) (hi : kInv c) (next : ∀ c', kInv c' → kW2 G S0 (kM_LW nm) (d + 60) 1404 [some (kA (-2)), some (kA 0), some (kA 558), some (kI x3)] [] c' P) : kW2 G S0 (kM_LW nm) (d + 60) 1156 [some (kA (-2)), some (kA 0), some (kA 558), some (kI x3)] [] c P := by
  obtain ⟨L, T, B, x, K, Q, hs, hr⟩ := hi
  refine v_L_law_1156 hL r3 hLn hp ?_
  exact s_X10_brings hL (k32_toInt _) (k32_toInt _) (k32_toInt _) (k32_toInt _) hs.1 (fun c1 e1 => ⟨_, rfl, s_X11_brings hL (k32_toInt _) (k32_toInt _) (k32_toInt _) (k32_toInt _) (hr.hi e1.hi).rs (fun c2 e2 => ⟨_, rfl, rfl, next c2 ⟨_, _, _, _, _, _, ((hs.rp e1).lo e2.lo), ((hr.hi e1.hi).rp e2)⟩⟩)⟩)
theorem lc_1210 {nm : String} {G : KG} {S0 : KSh} (hL : kLay S0) {d : Nat} {P : Option AV → KMem → Prop} {c : KMem} {x3 : Int} (r3 : 0 ≤ x3 ∧ x3 < 2147483648) (hLn : kLn G < 2147483648) (hp : 0 ≤ x3 ∧ x3 + 6 ≤ (kLn G : Int)) (hi : kInv c) (next : ∀ c', kInv c' → kW2 G S0 (kM_LW nm) (d + 60) 1404 [some (kA (-2)), some (kA 0), some (kA 558), some (kI x3)] [] c' P) : kW2 G S0 (kM_LW nm) (d + 60) 1210 [some (kA (-2)), some (kA 0), some (kA 558), some (kI x3)] [] c P := by
  obtain ⟨L, T, B, x, K, Q, hs, hr⟩ := hi
  refine v_L_law_1210 hL r3 hLn hp ?_
  exact s_X10_brought hL (k32_toInt _) (k32_toInt _) (k32_toInt _) hs.1 (fun c1 e1 => ⟨_, rfl, s_X11_brought hL (k32_toInt _) (k32_toInt _) (k32_toInt _) (hr.hi e1.hi).rs (fun c2 e2 => ⟨_, rfl, rfl, next c2 ⟨_, _, _, _, _, _, ((hs.rp e1).lo e2.lo), ((hr.hi e1.hi).rp e2)⟩⟩)⟩)
theorem lc_1253 {nm : String} {G : KG} {S0 : KSh} (hL : kLay S0) {d : Nat} {P : Option AV → KMem → Prop} {c : KMem} {x3 : Int} (r3 : 0 ≤ x3 ∧ x3 < 2147483648) (hLn : kLn G < 2147483648) (hp : 0 ≤ x3 ∧ x3 + 6 ≤ (kLn G : Int)) (hi : kInv c) (next : ∀ c', kInv c' → kW2 G S0 (kM_LW nm) (d + 60) 1404 [some (kA (-2)), some (kA 0), some (kA 558), some (kI x3)] [] c' P) : kW2 G S0 (kM_LW nm) (d + 60) 1253 [some (kA (-2)), some (kA 0), some (kA 558), some (kI x3)] [] c P := by
  obtain ⟨L, T, B, x, K, Q, hs, hr⟩ := hi
  refine v_L_law_1253 hL r3 hLn hp ?_
  exact s_X10_come hL (k32_toInt _) (k32_toInt _) (k32_toInt _) hs.1 (fun c1 e1 => ⟨_, rfl, s_X11_come hL (k32_toInt _) (k32_toInt _) (k32_toInt _) (hr.hi e1.hi).rs (fun c2 e2 => ⟨_, rfl, rfl, next c2 ⟨_, _, _, _, _, _, ((hs.rp e1).lo e2.lo), ((hr.hi e1.hi).rp e2)⟩⟩)⟩)
theorem lc_1296 {nm : String} {G : KG} {S0 : KSh} (hL : kLay S0) {d : Nat} {P : Option AV → KMem → Prop} {c : KMem} {x3 : Int} (r3 : 0 ≤ x3 ∧ x3 < 2147483648) (hLn : kLn G < 2147483648) (hp : 0 ≤ x3 ∧ x3 + 6 ≤ (kLn G : Int)) (hi : kInv c) (next : ∀ c', kInv c' → kW2 G S0 (kM_LW nm) (d + 60) 1404 [some (kA (-2)), some (kA 0), some (kA 558), some (kI x3)] [] c' P) : kW2 G S0 (kM_LW nm) (d + 60) 1296 [some (kA (-2)), some (kA 0), some (kA 558), some (kI x3)] [] c P := by
  obtain ⟨L, T, B, x, K, Q, hs, hr⟩ := hi
  refine v_L_law_1296 hL r3 hLn hp ?_
  refine s_X10_back hL hs (fun L1 Q1 e c1 a1 l1 => ⟨_, rfl, ?_⟩) (fun e => ⟨_, rfl, ?_⟩)
  · refine s_X11_back hL (hr.hi l1) (fun L2 Q2 e' c2 b2 m2 => ?_) (fun z => ?_)
    · cases e.symm.trans e'
      exact ⟨_, rfl, rfl, next c2 ⟨_, _, _, _, _, _, (a1.lo m2), b2⟩⟩
    · rw [e] at z; cases z
  · refine s_X11_back hL hr (fun L2 Q2 e' => ?_) (fun _ => ⟨_, rfl, rfl, next c ⟨_, _, _, _, _, _, hs, hr⟩⟩)
    rw [e] at e'; cases e'
theorem lc_1309 {nm : String} {G : KG} {S0 : KSh} (hL : kLay S0) {d : Nat} {P : Option AV → KMem → Prop} {c : KMem} {x3 : Int} (r3 : 0 ≤ x3 ∧ x3 < 2147483648) (hLn : kLn G < 2147483648) (hp : 0 ≤ x3 ∧ x3 + 6 ≤ (kLn G : Int)) (hi : kInv c) (next : ∀ c', kInv c' → kW2 G S0 (kM_LW nm) (d + 60) 1404 [some (kA (-2)), some (kA 0), some (kA 558), some (kI x3)] [] c' P) : kW2 G S0 (kM_LW nm) (d + 60) 1309 [some (kA (-2)), some (kA 0), some (kA 558), some (kI x3)] [] c P := by
  obtain ⟨L, T, B, x, K, Q, hs, hr⟩ := hi
  refine v_L_law_1309 hL r3 hLn hp ?_
  exact s_X10_seed hL (k32_toInt _) hs (fun t c1 a1 l1 => ⟨_, rfl, s_X11_seed hL (k32_toInt _) (hr.hi l1) (fun _ c2 b2 m2 => ⟨_, rfl, rfl, next c2 ⟨_, _, _, _, _, _, (a1.lo m2), b2⟩⟩) (fun z => absurd t z)⟩) (fun t => ⟨_, rfl, s_X11_seed hL (k32_toInt _) hr (fun z => absurd z t) (fun _ => ⟨_, rfl, rfl, next c ⟨_, _, _, _, _, _, hs, hr⟩⟩)⟩)
theorem lc_1332 {nm : String} {G : KG} {S0 : KSh} (hL : kLay S0) {d : Nat} {P : Option AV → KMem → Prop} {c : KMem} {x3 : Int} (r3 : 0 ≤ x3 ∧ x3 < 2147483648) (hLn : kLn G < 2147483648) (hp : 0 ≤ x3 ∧ x3 + 6 ≤ (kLn G : Int)) (hi : kInv c) (next : ∀ c', kInv c' → kW2 G S0 (kM_LW nm) (d + 60) 1404 [some (kA (-2)), some (kA 0), some (kA 558), some (kI x3)] [] c' P) : kW2 G S0 (kM_LW nm) (d + 60) 1332 [some (kA (-2)), some (kA 0), some (kA 558), some (kI x3)] [] c P := by
  obtain ⟨L, T, B, x, K, Q, hs, hr⟩ := hi
  refine v_L_law_1332 hL r3 hLn hp ?_
  exact s_X10_keep hL hs (fun c1 a1 l1 => ⟨_, rfl, s_X11_keep hL (hr.hi l1) (fun c2 b2 m2 => ⟨_, rfl, rfl, next c2 ⟨_, _, _, _, _, _, (a1.lo m2), b2⟩⟩)⟩)
theorem lc_1345 {nm : String} {G : KG} {S0 : KSh} (hL : kLay S0) {d : Nat} {P : Option AV → KMem → Prop} {c : KMem} {x3 : Int} (r3 : 0 ≤ x3 ∧ x3 < 2147483648) (hLn : kLn G < 2147483648) (hp : 0 ≤ x3 ∧ x3 + 6 ≤ (kLn G : Int)) (hi : kInv c) (next : ∀ c', kInv c' → kW2 G S0 (kM_LW nm) (d + 60) 1404 [some (kA (-2)), some (kA 0), some (kA 558), some (kI x3)] [] c' P) : kW2 G S0 (kM_LW nm) (d + 60) 1345 [some (kA (-2)), some (kA 0), some (kA 558), some (kI x3)] [] c P := by
  obtain ⟨L, T, B, x, K, Q, hs, hr⟩ := hi
  refine v_L_law_1345 hL r3 hLn hp ?_
  exact s_X10_undo hL hs (fun t c1 a1 l1 => ⟨_, rfl, s_X11_undo hL (hr.hi l1) (fun _ c2 b2 m2 => ⟨_, rfl, rfl, next c2 ⟨_, _, _, _, _, _, (a1.lo m2), b2⟩⟩) (fun z => absurd t z)⟩) (fun t => ⟨_, rfl, s_X11_undo hL hr (fun z => absurd z t) (fun _ => ⟨_, rfl, rfl, next c ⟨_, _, _, _, _, _, hs, hr⟩⟩)⟩)
theorem lc_1358 {nm : String} {G : KG} {S0 : KSh} (hL : kLay S0) {d : Nat} {P : Option AV → KMem → Prop} {c : KMem} {x3 : Int} (r3 : 0 ≤ x3 ∧ x3 < 2147483648) (hLn : kLn G < 2147483648) (hp : 0 ≤ x3 ∧ x3 + 6 ≤ (kLn G : Int)) (hi : kInv c) (next : ∀ c', kInv c' → kW2 G S0 (kM_LW nm) (d + 60) 1404 [some (kA (-2)), some (kA 0), some (kA 558), some (kI x3)] [] c' P) : kW2 G S0 (kM_LW nm) (d + 60) 1358 [some (kA (-2)), some (kA 0), some (kA 558), some (kI x3)] [] c P := by
  obtain ⟨L, T, B, x, K, Q, hs, hr⟩ := hi
  refine v_L_law_1358 hL r3 hLn hp ?_
  exact s_X10_check hL (k32_toInt _) hs (fun t c1 a1 l1 => ⟨_, rfl, s_X11_check hL (k32_toInt _) (hr.hi l1) (fun _ c2 b2 m2 => ⟨_, rfl, rfl, next c2 ⟨_, _, _, _, _, _, (a1.lo m2), b2⟩⟩) (fun z => absurd t z)⟩) (fun t => ⟨_, rfl, s_X11_check hL (k32_toInt _) hr (fun z => absurd z t) (fun _ => ⟨_, rfl, rfl, next c ⟨_, _, _, _, _, _, hs, hr⟩⟩)⟩)
theorem lc_1381 {nm : String} {G : KG} {S0 : KSh} (hL : kLay S0) {d : Nat} {P : Option AV → KMem → Prop} {c : KMem} {x3 : Int} (r3 : 0 ≤ x3 ∧ x3 < 2147483648) (hLn : kLn G < 2147483648) (hp : 0 ≤ x3 ∧ x3 + 6 ≤ (kLn G : Int)) (hi : kInv c) (next : ∀ c', kInv c' → kW2 G S0 (kM_LW nm) (d + 60) 1404 [some (kA (-2)), some (kA 0), some (kA 558), some (kI x3)] [] c' P) : kW2 G S0 (kM_LW nm) (d + 60) 1381 [some (kA (-2)), some (kA 0), some (kA 558), some (kI x3)] [] c P := by
  obtain ⟨L, T, B, x, K, Q, hs, hr⟩ := hi
  refine v_L_law_1381 hL r3 hLn hp ?_
  exact s_X10_count hL (k32_toInt _) hs ⟨_, rfl, s_X11_count hL (k32_toInt _) hr ⟨_, rfl, rfl, next c ⟨_, _, _, _, _, _, hs, hr⟩⟩⟩
/-- the law's loop -/
theorem law_loop {nm : String} {G : KG} {S0 : KSh} (hL : kLay S0) {d : Nat} {P : Option AV → KMem → Prop} (hLn : kLn G ≤ 3072) (hP : ∀ c, P (some (kI 1)) c) : ∀ n i : Nat, kLn G < i + 6 * n → i ≤ kLn G → ∀ c, kInv c → kW2 G S0 (kM_LW nm) (d + 60) 18 [some (kA (-2)), some (kA 0), some (kA 558), some (kI (i : Int))] [] c P := by
  intro n
  induction n with
  | zero => intro i h1 h2; omega
  | succ n ih =>
    intro i h1 h2 c hi
    refine v_L_law_18 hL (by omega) (by omega) ⟨fun _ => hP c, fun z => ?_⟩
    have next : ∀ c', kInv c' → kW2 G S0 (kM_LW nm) (d + 60) 1404 [some (kA (-2)), some (kA 0), some (kA 558), some (kI (i : Int))] [] c' P := fun c' hi' => by
      refine v_L_law_1404 hL (by omega) (by omega) (by omega) ?_
      have := ih (i + 6) (by omega) (by omega) c' hi'
      rw [show ((i + 6 : Nat) : Int) = (i : Int) + 6 by omega] at this
      exact this
    exact ⟨fun _ => next c hi, fun _ => lc_196 hL (by omega) (by omega) (by omega) hi next, fun _ => lc_259 hL (by omega) (by omega) (by omega) hi next, fun _ => lc_282 hL (by omega) (by omega) (by omega) hi next, fun _ => lc_305 hL (by omega) (by omega) (by omega) hi next, fun _ => lc_328 hL (by omega) (by omega) (by omega) hi next, fun _ => lc_361 hL (by omega) (by omega) (by omega) hi next, fun _ => lc_384 hL (by omega) (by omega) (by omega) hi next, fun _ => lc_417 hL (by omega) (by omega) (by omega) hi next, fun _ => lc_451 hL (by omega) (by omega) (by omega) hi next, fun _ => lc_484 hL (by omega) (by omega) (by omega) hi next, fun _ => lc_527 hL (by omega) (by omega) (by omega) hi next, fun _ => lc_581 hL (by omega) (by omega) (by omega) hi next, fun _ => lc_625 hL (by omega) (by omega) (by omega) hi next, fun _ => lc_669 hL (by omega) (by omega) (by omega) hi next, fun _ => lc_703 hL (by omega) (by omega) (by omega) hi next, fun _ => lc_757 hL (by omega) (by omega) (by omega) hi next, fun _ => lc_790 hL (by omega) (by omega) (by omega) hi next, fun _ => lc_833 hL (by omega) (by omega) (by omega) hi next, fun _ => lc_856 hL (by omega) (by omega) (by omega) hi next, fun _ => lc_879 hL (by omega) (by omega) (by omega) hi next, fun _ => lc_912 hL (by omega) (by omega) (by omega) hi next, fun _ => lc_935 hL (by omega) (by omega) (by omega) hi next, fun _ => lc_958 hL (by omega) (by omega) (by omega) hi next, fun _ => lc_971 hL (by omega) (by omega) (by omega) hi next, fun _ => lc_1024 hL (by omega) (by omega) (by omega) hi next, fun _ => lc_1057 hL (by omega) (by omega) (by omega) hi next, fun _ => lc_1090 hL (by omega) (by omega) (by omega) hi next, fun _ => lc_1113 hL (by omega) (by omega) (by omega) hi next, fun _ => lc_1156 hL (by omega) (by omega) (by omega) hi next, fun _ => lc_1210 hL (by omega) (by omega) (by omega) hi next, fun _ => lc_1253 hL (by omega) (by omega) (by omega) hi next, fun _ => lc_1296 hL (by omega) (by omega) (by omega) hi next, fun _ => lc_1309 hL (by omega) (by omega) (by omega) hi next, fun _ => lc_1332 hL (by omega) (by omega) (by omega) hi next, fun _ => lc_1345 hL (by omega) (by omega) (by omega) hi next, fun _ => lc_1358 hL (by omega) (by omega) (by omega) hi next, fun _ => lc_1381 hL (by omega) (by omega) (by omega) hi next⟩
