section CS
variable {G : KG} {S0 : KSh} {d : Nat} {P : Option AV → KMem → Prop} {c c0 c' : KMem} {L : KLt} {T B : KTp} {x : Int} {K : Bool × KLt × Int} {Q : List KLt} {x0 x1 x2 x3 x4 x5 : Int}
/-- letters, X and rows of work alone change -/
theorem CAl.ltr {L' : KLt} {x' : Int} (h : CAl L T B x K Q c) (e : ∀ a i : Int, ¬ ((3 ≤ a ∧ a < 18) ∨ (33 ≤ a ∧ a < 48) ∨ kSc a ∨ (a = 0 ∧ i = 4)) → c' a i = c a i) (h1 : kLm 3 L'.1 L'.2 c') (h4 : c' 0 4 = x' ∧ 0 ≤ x' ∧ x' ≤ 65535) : CAl L' T B x' K Q c' := by
  have e' : ∀ a i : Int, ((0 < a ∧ a < 3) ∨ (18 ≤ a ∧ a < 33) ∨ (48 ≤ a ∧ a < 170) ∨ a = 529 ∨ a = 549 ∨ (a = 0 ∧ i ≠ 4)) → c' a i = c a i := fun a i z => e a i (fun w => by unfold kSc at w; omega)
  exact h.fr (Or.inr h1) (fun i => ⟨e' _ _ (by omega), e' _ _ (by omega)⟩) (Or.inl ⟨rfl, e' _ _ (by omega), fun i => e' _ _ (by omega)⟩) (Or.inl ⟨rfl, e' _ _ (by omega), fun i => e' _ _ (by omega)⟩) (Or.inr h4) (Or.inl ⟨rfl, e' _ _ (by omega), e' _ _ (by omega), fun a i p q => e' a i (by omega)⟩) (Or.inl ⟨rfl, fun a i p q => e' a i (by omega)⟩)
/-- what can be taken back alone changes -/
theorem CAl.pst {Q' : List KLt} (h : CAl L T B x K Q c) (e : ∀ a i : Int, ¬ (48 ≤ a ∧ a < 170) → c' a i = c a i) (h6 : (0 ≤ c' 48 1 ∧ c' 48 1 < 8) ∧ c' 48 2 = (Q'.length : Int) ∧ Q'.length ≤ 8 ∧ ∀ (i : Nat) (L' : KLt), Q'[i]? = some L' → kLm (50 + 15 * ((c' 48 1 - 1 - i) % 8)) L'.1 L'.2 c') : CAl L T B x K Q' c' :=
  h.fr (Or.inl ⟨rfl, fun a i p q => e a i (by omega)⟩) (fun i => ⟨e _ _ (by omega), e _ _ (by omega)⟩) (Or.inl ⟨rfl, e _ _ (by omega), fun i => e _ _ (by omega)⟩) (Or.inl ⟨rfl, e _ _ (by omega), fun i => e _ _ (by omega)⟩) (Or.inl ⟨rfl, e _ _ (by omega)⟩) (Or.inl ⟨rfl, e _ _ (by omega), e _ _ (by omega), fun a i p q => e a i (by omega)⟩) (Or.inr h6)
theorem ring (hL : kLay S0) {x : Int} (h0 : 0 ≤ x) (h1 : x < 8) : kLet S0 (50 + 15 * x) := (hL.2.2.2.2 x h0 h1).2
theorem tc_remember (hL : kLay S0) (hs : CAl L T B x K Q c) (h : ∀ c', CAl L T B x K ((L :: Q).take 8) c' → (∀ a i : Int, ¬ (48 ≤ a ∧ a < 170) → c' a i = c a i) → P none c') : kC2 G S0 kM_X5_remember (d + 3) [kA 48, kA 3] c P := by
  obtain ⟨p1, p2, p3, p4⟩ := hs.2.2.2.2.2
  refine v_X5_remember hL (llt_3 hL) (by omega) ⟨p1, ?_⟩
  refine s_X1_become hL (ring hL p1.1 p1.2) (llt_3 hL) (by omega) (by omega) hs.1.1 (fun c1 l1 o1 => ⟨rfl, ?_⟩)
  have e1 : c1 48 1 = c 48 1 := o1 48 1 (by omega)
  have e2 : c1 48 2 = c 48 2 := o1 48 2 (by omega)
  have et : Int.tmod (c 48 1 + 1) 8 = (c 48 1 + 1) % 8 := Int.tmod_eq_emod_of_nonneg (by omega)
  have lt8 : ((L :: Q).take 8).length = if Q.length = 8 then 8 else Q.length + 1 := by
    rw [List.length_take]; show min 8 (Q.length + 1) = _
    split <;> omega
  have fin : ∀ c2 : KMem, (∀ a i : Int, ¬ (a = 48 ∧ (i = 1 ∨ i = 2)) → c2 a i = c1 a i) → c2 48 1 = (c 48 1 + 1) % 8 → c2 48 2 = (((L :: Q).take 8).length : Int) → P none c2 := fun c2 f1 f2 f3 => by
    have hb : ∀ a i : Int, ¬ (48 ≤ a ∧ a < 170) → c2 a i = c a i := fun a i z => (f1 a i (by omega)).trans (o1 a i (by omega))
    refine h c2 (hs.pst hb ⟨by rw [f2]; omega, f3, by rw [lt8]; split <;> omega, fun i L' hi => ?_⟩) hb
    rw [f2]
    cases i with
    | zero =>
      have hi' : some L = some L' := hi
      cases hi'
      have es : ((c 48 1 + 1) % 8 - 1 - ((0 : Nat) : Int)) % 8 = c 48 1 := by omega
      rw [es]
      exact l1.kept (fun a j q1 q2 => f1 a j (by omega))
    | succ i =>
      have hlt := kgetl hi
      have hi8 : i + 1 < 8 := by rw [lt8] at hlt; split at hlt <;> omega
      have hiQ : Q[i]? = some L' := by
        rw [List.getElem?_take] at hi
        rw [if_pos hi8] at hi
        exact hi
      have es : ((c 48 1 + 1) % 8 - 1 - ((i + 1 : Nat) : Int)) % 8 = (c 48 1 - 1 - i) % 8 := by omega
      rw [es]
      have hne : (c 48 1 - 1 - (i : Int)) % 8 ≠ c 48 1 := by omega
      exact (p4 i L' hiQ).kept (fun a j q1 q2 => (f1 a j (by omega)).trans (o1 a j (by omega)))
  dsimp only
  rw [e1, e2, et]
  refine ⟨k32i (by omega), k32i (by omega), fun q => ?_, fun q => ?_⟩
  · refine fin _ (fun a i z => kup_n (by omega)) (kup_s _ _ _ _) ?_
    rw [kup_n (Or.inr (by decide)), e2, lt8, if_pos (by omega)]; omega
  · refine fin _ (fun a i z => by rw [kup_n (by omega), kup_n (by omega)]) (by rw [kup_n (Or.inr (by decide)), kup_s]) ?_
    rw [kup_s, lt8, if_neg (by omega)]; omega
theorem s_X10_drop (hL : kLay S0) (r1 : k32 x1) (hs : CAl L T B x K Q c) (h1 : L.1 x1 = true → ∀ c', CAl (hSet L.1 x1 false, L.2) T B x K ((L :: Q).take 8) c' → kHi c c' → P (some (kI 1)) c') (h0 : ¬ L.1 x1 = true → P (some (kI 0)) c) : kC2 G S0 kM_X10_drop (d + 4) [kA 0, kI x1] c P := by
  refine v_X10_drop hL r1 ⟨hs.1.1.1, fun q => ?_, fun q => h0 (fun w => q ((hs.1.hh _).mpr w))⟩
  refine tc_remember hL hs (fun c1 s1 e1 => ⟨rfl, ?_⟩)
  refine s_X1_forget hL (llt_3 hL) ⟨q.1, q.2.1⟩ s1.1.1 (fun c2 l2 o2 => ⟨rfl, ?_⟩)
  exact h1 ((hs.1.hh _).mp q) c2 (s1.ltr (fun a i z => o2 a i (by omega)) l2 ⟨(o2 0 4 (by omega)).trans s1.2.2.2.1.1, s1.2.2.2.1.2⟩) (fun a i z => (o2 a i (by omega)).trans (e1 a i (by omega)))
theorem kand_m16 (v : Int) : kand v 65535 = v % 65536 := by
  unfold kand
  have e : (Int32.ofInt v &&& Int32.ofInt 65535).toBitVec.toNat = (v % 65536).toNat := by
    rw [Int32.toBitVec_and, BitVec.toNat_and]
    have h1 : (Int32.ofInt 65535).toBitVec.toNat = 2 ^ 16 - 1 := by decide
    rw [h1, Nat.and_two_pow_sub_one_eq_mod]
    have h2 : (Int32.ofInt v).toBitVec = BitVec.ofInt 32 v := rfl
    rw [h2, BitVec.toNat_ofInt]
    omega
  have := ktoInt_bv _ (v % 65536).toNat (by omega) e
  rw [this]; omega
theorem tc_drawCoordinate (hL : kLay S0) (h4 : c 0 4 = x ∧ 0 ≤ x ∧ x ≤ 65535) (h : P (some (kI (lcg x % 21 - 10))) (kup c 0 4 (lcg x))) : kC2 G S0 kM_X10_drawCoordinate d [kA 0] c P := by
  have e1 : kand (25173 * x + 13849) 65535 = lcg x := kand_m16 _
  have hr := lcg_rg x
  have e2 : Int.tmod (lcg x) 21 = lcg x % 21 := Int.tmod_eq_emod_of_nonneg hr.1
  refine v_X10_drawCoordinate hL (by omega) ?_
  rw [h4.1, e1, e2]
  exact ⟨k32i (by omega), h⟩
/-- letters are drawn in a set of letters at t -/
theorem tc_drawInto (hL : kLay S0) {t : Int} (ht : kLet S0 t) (t0 : 0 < t ∧ t + 15 ≤ 48) (hs : kLm t L.1 L.2 c) (h4 : c 0 4 = x ∧ 0 ≤ x ∧ x ≤ 65535) {n : Nat} (hn : n ≤ 6) (h : ∀ c', kLm t (drwN n (L, x)).1.1 (drwN n (L, x)).1.2 c' → c' 0 4 = (drwN n (L, x)).2 → (∀ a i : Int, ¬ ((t ≤ a ∧ a < t + 15) ∨ a = 557 ∨ (a = 0 ∧ i = 4)) → c' a i = c a i) → P none c') : kC2 G S0 kM_X10_drawInto (d + 3) [kA 0, kA t, kI (n : Int)] c P := by
  have xr : ∀ k, 0 ≤ (drwN k (L, x)).2 ∧ (drwN k (L, x)).2 ≤ 65535 := fun k => by
    cases k with
    | zero => exact h4.2
    | succ k => exact lcg_rg _
  have loop : ∀ m k : Nat, k + m = n → ∀ c', kLm t (drwN k (L, x)).1.1 (drwN k (L, x)).1.2 c' → c' 0 4 = (drwN k (L, x)).2 → (∀ a i : Int, ¬ ((t ≤ a ∧ a < t + 15) ∨ a = 557 ∨ (a = 0 ∧ i = 4)) → c' a i = c a i) → kW2 G S0 kM_X10_drawInto (d + 3) 2 [some (kA 0), some (kA t), some (kI (n : Int)), some (kI (k : Int)), none, none] [] c' P := by
    intro m
    induction m with
    | zero =>
      intro k hk c' l1 x1 e1
      obtain rfl : k = n := by omega
      exact v_X10_drawInto_2 hL ht (by omega) (by omega) (by omega) ⟨fun _ => h _ l1 x1 e1, fun q => by omega⟩
    | succ m ih =>
      intro k hk c' l1 x1 e1
      have hx := xr k
      have hr := lcg_rg (drwN k (L, x)).2
      have hr2 := lcg_rg (lcg (drwN k (L, x)).2)
      refine v_X10_drawInto_2 hL ht (by omega) (by omega) (by omega) ⟨fun q => by omega, fun _ => ?_⟩
      refine tc_drawCoordinate hL ⟨x1, hx⟩ ⟨_, rfl, ?_⟩
      have hx1 : (kup c' 0 4 (lcg (drwN k (L, x)).2)) 0 4 = lcg (drwN k (L, x)).2 ∧ 0 ≤ lcg (drwN k (L, x)).2 ∧ lcg (drwN k (L, x)).2 ≤ 65535 := ⟨kup_s _ _ _ _, hr⟩
      refine tc_drawCoordinate hL hx1 ⟨_, rfl, ?_⟩
      refine s_X0_place hL (k32i (by omega)) (k32i (by omega)) (lsh_557 hL) (fun c4 q1 o4 => ⟨rfl, ?_⟩)
      have l4 : kLm t (drwN k (L, x)).1.1 (drwN k (L, x)).1.2 c4 := l1.kept (fun a i p q => by rw [o4 a i (by omega), kup_n (Or.inl (by omega)), kup_n (Or.inl (by omega))])
      refine s_X1_put hL ht (by omega) (by omega) (lsh_557 hL) l4 q1 (plcP_bd (by omega) (by omega)) (fun c5 l5 o5 => ⟨rfl, ?_⟩)
      refine ih (k + 1) (by omega) c5 l5 ?_ (fun a i z => ?_)
      · rw [o5 0 4 (by omega), o4 0 4 (by omega), kup_s]; rfl
      · rw [o5 a i (by omega), o4 a i (by omega), kup_n (by omega), kup_n (by omega)]; exact e1 a i z
  exact v_X10_drawInto hL ht (by omega) (by omega) (loop n 0 (by omega) c hs h4.1 (fun _ _ _ => rfl))
theorem drw_x {k : Nat} (h : 0 ≤ x ∧ x ≤ 65535) : 0 ≤ (drwN k (L, x)).2 ∧ (drwN k (L, x)).2 ≤ 65535 := by
  cases k with
  | zero => exact h
  | succ k => exact lcg_rg _
theorem s_X10_draws (hL : kLay S0) (r1 : k32 x1) (hs : CAl L T B x K Q c) (h1 : (1 ≤ x1 ∧ x1 ≤ 6) → ∀ c', CAl (drwN x1.toNat (L, x)).1 T B (drwN x1.toNat (L, x)).2 K ((L :: Q).take 8) c' → kHi c c' → P (some (kI (kHn (drwN x1.toNat (L, x)).1.1 12 : Int))) c') (h0 : ¬ (1 ≤ x1 ∧ x1 ≤ 6) → P (some (kI (-1))) c) : kC2 G S0 kM_X10_draws (d + 4) [kA 0, kI x1] c P := by
  refine v_X10_draws hL r1 ⟨fun q => h0 (by omega), fun q => ⟨fun w => ?_, fun w => h0 (by omega)⟩⟩
  obtain ⟨n, rfl⟩ := kint_nat (z := x1) (by omega)
  rw [show ((n : Int)).toNat = n by omega] at h1
  refine tc_remember hL hs (fun c1 s1 e1 => ⟨rfl, ?_⟩)
  refine tc_drawInto hL (llt_3 hL) (by omega) s1.1.1 s1.2.2.2.1 (by omega) (fun c2 l2 x2 e2 => ⟨rfl, ?_⟩)
  refine s_X1_size hL (llt_3 hL) l2 ⟨_, rfl, h1 ⟨q, w⟩ c2 (s1.ltr (fun a i z => e2 a i (fun y => z (by unfold kSc; omega))) l2 ⟨x2, drw_x s1.2.2.2.1.2⟩) (fun a i z => (e2 a i (by omega)).trans (e1 a i (by omega)))⟩
theorem s_X10_back (hL : kLay S0) (hs : CAl L T B x K Q c) (h1 : ∀ L' Q', Q = L' :: Q' → ∀ c', CAl L' T B x K Q' c' → kHi c c' → P (some (kI (Q'.length : Int))) c') (h0 : Q = [] → P (some (kI (-1))) c) : kC2 G S0 kM_X10_back (d + 4) [kA 0] c P := by
  obtain ⟨p1, p2, p3, p4⟩ := hs.2.2.2.2.2
  refine v_X10_back hL (by omega) (v_X5_size hL ⟨_, rfl, by rw [p2]; exact k32i (by omega), fun z => ?_, fun z => h0 (List.eq_nil_of_length_eq_zero (by omega))⟩)
  match Q, hs, p2, p3, p4, h1, z with
  | [], hs, p2, p3, p4, h1, z => exact absurd p2 (by intro q; exact z q)
  | L' :: Q', hs, p2, p3, p4, h1, z =>
    have hl : (L' :: Q').length = Q'.length + 1 := rfl
    have et : Int.tmod (c 48 1 + 8 - 1) 8 = (c 48 1 + 8 - 1) % 8 := Int.tmod_eq_emod_of_nonneg (by omega)
    refine v_X5_restore hL (llt_3 hL) (by omega) ⟨k32i (by omega), fun _ => ?_, fun q => by omega⟩
    rw [et]
    refine ⟨k32i (by omega), by omega, ?_⟩
    have q0 := p4 0 L' rfl
    have es : (c 48 1 - 1 - ((0 : Nat) : Int)) % 8 = (c 48 1 + 8 - 1) % 8 := by omega
    rw [es] at q0
    have l0 : kLm (50 + 15 * ((c 48 1 + 8 - 1) % 8)) L'.1 L'.2 (kup (kup c 48 1 ((c 48 1 + 8 - 1) % 8)) 48 2 (c 48 2 - 1)) := q0.kept (fun a i q1 q2 => by rw [kup_n (Or.inl (by omega)), kup_n (Or.inl (by omega))])
    refine s_X1_become hL (llt_3 hL) (ring hL (by omega) (by omega)) (by omega) (by omega) l0 (fun c1 l1 o1 => ⟨rfl, rfl, ?_⟩)
    have e2 : c1 48 2 = (Q'.length : Int) := by rw [o1 48 2 (by omega), kup_s]; omega
    have e1 : c1 48 1 = (c 48 1 + 8 - 1) % 8 := by rw [o1 48 1 (by omega), kup_n (Or.inr (by decide)), kup_s]
    refine v_X5_size hL ⟨_, rfl, ?_⟩
    rw [e2]
    have hm : CAl L T B x K Q' (kup (kup c 48 1 ((c 48 1 + 8 - 1) % 8)) 48 2 (c 48 2 - 1)) := by
      refine hs.pst (fun a i z => by rw [kup_n (Or.inl (by omega)), kup_n (Or.inl (by omega))]) ?_
      have f1 : (kup (kup c 48 1 ((c 48 1 + 8 - 1) % 8)) 48 2 (c 48 2 - 1)) 48 1 = (c 48 1 + 8 - 1) % 8 := by rw [kup_n (Or.inr (by decide)), kup_s]
      rw [f1]
      refine ⟨by omega, by rw [kup_s]; omega, by omega, fun i L2 hi => ?_⟩
      have := p4 (i + 1) L2 hi
      have e3 : (c 48 1 - 1 - ((i + 1 : Nat) : Int)) % 8 = ((c 48 1 + 8 - 1) % 8 - 1 - i) % 8 := by omega
      rw [e3] at this
      exact this.kept (fun a j q1 q2 => by rw [kup_n (Or.inl (by omega)), kup_n (Or.inl (by omega))])
    exact h1 L' Q' rfl c1 (hm.ltr (fun a i z => o1 a i (by omega)) l1 ⟨(o1 0 4 (by omega)).trans hm.2.2.2.1.1, hm.2.2.2.1.2⟩) (fun a i z => by rw [o1 a i (by omega), kup_n (Or.inl (by omega)), kup_n (Or.inl (by omega))])
theorem s_X10_keep (hL : kLay S0) (hs : CAl L T B x K Q c) (h : ∀ c', CAl L T B x (true, L, x) Q c' → kHi c c' → P (some (kI (kHn L.1 12 : Int))) c') : kC2 G S0 kM_X10_keep (d + 3) [kA 0] c P := by
  refine v_X10_keep hL ?_
  refine s_X1_become hL (llt_18 hL) (llt_3 hL) (by omega) (by omega) hs.1.1 (fun c1 l1 o1 => ⟨rfl, ?_⟩)
  have e : ∀ a i : Int, ¬ ((18 ≤ a ∧ a < 33) ∨ (a = 0 ∧ (i = 7 ∨ i = 8))) → (kup (kup c1 0 8 (c1 0 4)) 0 7 1) a i = c a i := fun a i z => by rw [kup_n (by omega), kup_n (by omega)]; exact o1 a i (by omega)
  have fin : CAl L T B x (true, L, x) Q (kup (kup c1 0 8 (c1 0 4)) 0 7 1) := by
    refine hs.fr (Or.inl ⟨rfl, fun a i p q => e a i (by omega)⟩) (fun i => ⟨e _ _ (by omega), e _ _ (by omega)⟩) (Or.inl ⟨rfl, e _ _ (by omega), fun i => e _ _ (by omega)⟩) (Or.inl ⟨rfl, e _ _ (by omega), fun i => e _ _ (by omega)⟩) (Or.inl ⟨rfl, e _ _ (by omega)⟩) (Or.inr ⟨kup_s _ _ _ _, fun _ => ⟨?_, hs.2.2.2.1.2.1, hs.2.2.2.1.2.2, ?_⟩⟩) (Or.inl ⟨rfl, fun a i p q => e a i (by omega)⟩)
    · rw [kup_n (Or.inr (by decide)), kup_s, o1 0 4 (by omega)]; exact hs.2.2.2.1.1
    · exact l1.kept (fun a i p q => by rw [kup_n (Or.inl (by omega)), kup_n (Or.inl (by omega))])
  exact s_X1_size hL (llt_3 hL) fin.1.1 ⟨_, rfl, h _ fin (fun a i z => e a i (by omega))⟩
theorem s_X10_undo (hL : kLay S0) (hs : CAl L T B x K Q c) (h1 : K.1 = true → ∀ c', CAl K.2.1 T B K.2.2 K [] c' → kHi c c' → P (some (kI 1)) c') (h0 : ¬ K.1 = true → P (some (kI 0)) c) : kC2 G S0 kM_X10_undo (d + 3) [kA 0] c P := by
  have a5 := hs.2.2.2.2.1
  have a6 := hs.2.2.2.2.2
  refine v_X10_undo hL (by rw [a5.1]; split <;> omega) ⟨fun z => ?_, fun z => h0 (fun q => by rw [a5.1, if_pos q] at z; omega)⟩
  have hk : K.1 = true := Classical.byContradiction (fun q => by rw [a5.1, if_neg q] at z; exact z rfl)
  obtain ⟨k1, k2, k3, k4⟩ := a5.2 hk
  refine s_X1_become hL (llt_3 hL) (llt_18 hL) (by omega) (by omega) k4 (fun c1 l1 o1 => ⟨rfl, ?_⟩)
  have e8 : c1 0 8 = K.2.2 := (o1 0 8 (by omega)).trans k1
  refine v_X5_clear hL ⟨rfl, ?_⟩
  have e : ∀ a i : Int, ¬ ((3 ≤ a ∧ a < 18) ∨ (a = 0 ∧ i = 4) ∨ (a = 48 ∧ i = 2)) → (kup (kup c1 0 4 (c1 0 8)) 48 2 0) a i = c a i := fun a i z => by rw [kup_n (by omega), kup_n (by omega)]; exact o1 a i (by omega)
  have e1 : (kup (kup c1 0 4 (c1 0 8)) 48 2 0) 48 1 = c 48 1 := e 48 1 (by omega)
  refine h1 hk _ (hs.fr (Or.inr (l1.kept (fun a i p q => by rw [kup_n (Or.inl (by omega)), kup_n (Or.inl (by omega))]))) (fun i => ⟨e _ _ (by omega), e _ _ (by omega)⟩) (Or.inl ⟨rfl, e _ _ (by omega), fun i => e _ _ (by omega)⟩) (Or.inl ⟨rfl, e _ _ (by omega), fun i => e _ _ (by omega)⟩) (Or.inr ⟨by rw [kup_n (Or.inl (by decide)), kup_s]; exact e8, k2, k3⟩) (Or.inl ⟨rfl, e _ _ (by omega), e _ _ (by omega), fun a i p q => e a i (by omega)⟩) (Or.inr ⟨by rw [e1]; exact a6.1, kup_s _ _ _ _, Nat.zero_le _, fun i L' q => by cases q⟩)) (fun a i z => e a i (by omega))
theorem s_X10_check (hL : kLay S0) (r1 : k32 x1) (hs : CAl L T B x K Q c) (h1 : (0 ≤ x1 ∧ x1 ≤ 12) ∧ x1 ≤ T.1 → ∀ c', CAl L (0, T.2) B x K Q c' → kHi c c' → P (some (kI (chF L T x1.toNat x1.toNat))) c') (h0 : ¬ ((0 ≤ x1 ∧ x1 ≤ 12) ∧ x1 ≤ T.1) → P (some (kI (-2))) c) : kC2 G S0 kM_X10_check (d + 6) [kA 0, kI x1] c P := by
  have b1 := hs.2.1.1
  have b2 := hs.2.1.2.1
  have bT := hs.2.1.2.2
  refine v_X10_check hL r1 (by omega) ⟨fun q => h0 (by omega), fun q => ⟨fun w => h0 (by omega), fun w => ⟨fun z => ?_, fun z => h0 (by omega)⟩⟩⟩
  obtain ⟨n, rfl⟩ := kint_nat q
  rw [show ((n : Int)).toNat = n by omega] at h1
  have s1 : CAl L (0, T.2) B x K Q (kup c 0 1 0) := hs.own (fun a i z => kup_n (Or.inl (by omega))) ⟨kup_n (Or.inr (by decide)), kup_n (Or.inr (by decide))⟩ (Or.inr ⟨kup_s _ _ _ _, Nat.zero_le _, fun i a b => by have b' : i < ((0 : Nat) : Int) := b; omega⟩) (Or.inl ⟨rfl, kup_n (Or.inr (by decide)), fun i => kup_n (Or.inl (by decide))⟩) (Or.inl ⟨rfl, kup_n (Or.inr (by decide))⟩)
  have hP := h1 ⟨⟨q, w⟩, by omega⟩ _ s1 (fun a i z => kup_n (Or.inl (by omega)))
  obtain ⟨Ψ, s0, hl⟩ := s1.1.op
  have tp : ∀ i : Int, 0 ≤ i → i < T.1 → (kup c 0 1 0) 1 i = T.2 i ∧ 0 ≤ T.2 i ∧ T.2 i ≤ 255 := fun i a b => by rw [kup_n (Or.inl (by decide))]; exact bT i a b
  have loop : ∀ m k : Nat, k + m = n → chF L T n n = chF L T n m → kW2 G S0 kM_X10_check (d + 6) 28 [some (kA 0), some (kI (n : Int)), some (kI (k : Int)), none] [] (kup c 0 1 0) P := by
    intro m
    induction m with
    | zero =>
      intro k hk eq
      obtain rfl : k = n := by omega
      rw [eq] at hP
      exact v_X10_check_28 hL (by omega) (by omega) (by omega) ⟨fun _ => hP, fun z => by omega⟩
    | succ m ih =>
      intro k hk eq
      have ei : (n : Int) - (m + 1) = k := by omega
      have ed : chF L T n (m + 1) = if T.2 (k : Int) = chK L k then chF L T n m else (k : Int) := by
        have : chF L T n (m + 1) = if T.2 ((n : Int) - (m + 1)) = chK L ((n : Int) - (m + 1)) then chF L T n m else (n : Int) - (m + 1) := rfl
        rw [ei] at this; exact this
      have et := tp k (by omega) (by omega)
      refine v_X10_check_28 hL (by omega) (by omega) (by omega) ⟨fun z => by omega, fun _ => ⟨s1.1.1.1, fun y => ?_, fun y => ?_⟩⟩
      · have y' := (s1.1.hh _).mp y
        obtain ⟨a1, b1', e1, q1⟩ := hl.1 _ y'
        have w1 := lrow hL a1 b1'
        have hk := kind_rg (L.2 k)
        have ec : chK L k = kind (L.2 k) := if_pos y'
        rw [ec] at ed
        refine tc_kindAt hL s0 ⟨_, rfl, ?_⟩
        dsimp only
        rw [et.1]
        refine ⟨k32i (by omega), k32i (by omega), fun u => ?_, fun u => ?_⟩
        · rw [if_pos u] at ed; exact ih (k + 1) (by omega) (by rw [eq, ed])
        · rw [if_neg u] at ed; rw [eq, ed] at hP; exact hP
      · have n' : ¬ L.1 k = true := fun w => y ((s1.1.hh _).mpr w)
        have ec : chK L k = 255 := if_neg n'
        rw [ec] at ed
        rw [et.1]
        refine ⟨k32i (by omega), fun u => ?_, fun u => ?_⟩
        · rw [if_pos u] at ed; exact ih (k + 1) (by omega) (by rw [eq, ed])
        · rw [if_neg u] at ed; rw [eq, ed] at hP; exact hP
  exact loop n 0 (by omega) rfl
end CS
