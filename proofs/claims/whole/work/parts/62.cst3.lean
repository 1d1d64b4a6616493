def kTc (a : Int) (T : KTp) (c : KMem) : Prop := ∀ i : Int, 0 ≤ i → i < T.1 → c a i = T.2 i ∧ 0 ≤ T.2 i ∧ T.2 i ≤ 255
/-- what the class holds between calls -/
def CAl (L : KLt) (T B : KTp) (x : Int) (K : Bool × KLt × Int) (Q : List KLt) (c : KMem) : Prop :=
  CSt L.1 L.2 c ∧ (c 0 1 = (T.1 : Int) ∧ T.1 ≤ 140 ∧ kTc 1 T c) ∧ (c 0 3 = (B.1 : Int) ∧ B.1 ≤ 120 ∧ kTc 2 B c) ∧ (c 0 4 = x ∧ 0 ≤ x ∧ x ≤ 65535) ∧
  (c 0 7 = (if K.1 = true then 1 else 0) ∧ (K.1 = true → c 0 8 = K.2.2 ∧ 0 ≤ K.2.2 ∧ K.2.2 ≤ 65535 ∧ kLm 18 K.2.1.1 K.2.1.2 c)) ∧
  ((0 ≤ c 48 1 ∧ c 48 1 < 8) ∧ c 48 2 = (Q.length : Int) ∧ Q.length ≤ 8 ∧ ∀ (i : Nat) (L' : KLt), Q[i]? = some L' → kLm (50 + 15 * ((c 48 1 - 1 - i) % 8)) L'.1 L'.2 c)
/-- the reference's addresses stay -/
def kHi (c c' : KMem) : Prop := ∀ a i : Int, 558 ≤ a → c' a i = c a i
theorem kHi.rf {c : KMem} : kHi c c := fun _ _ _ => rfl
theorem kHi.tr {c c1 c2 : KMem} (h : kHi c c1) (g : kHi c1 c2) : kHi c c2 := fun a i q => (g a i q).trans (h a i q)
theorem kCP.hi {c c' : KMem} (h : kCP c c') : kHi c c' := fun a i q => h a i (fun z => by unfold kSc at z; omega)
section CS
variable {G : KG} {S0 : KSh} {d : Nat} {P : Option AV → KMem → Prop} {c c0 c' : KMem} {L : KLt} {T B : KTp} {x : Int} {K : Bool × KLt × Int} {Q : List KLt} {x0 x1 x2 x3 x4 x5 : Int}
/-- the class's state, one thing of it changed at a time: what else stays -/
theorem CAl.fr {L' : KLt} {T' B' : KTp} {x' : Int} {K' : Bool × KLt × Int} {Q' : List KLt} (h : CAl L T B x K Q c)
    (h1 : (L' = L ∧ ∀ a i : Int, 3 ≤ a → a < 18 → c' a i = c a i) ∨ kLm 3 L'.1 L'.2 c') (hf : ∀ i : Int, c' 529 i = c 529 i ∧ c' 549 i = c 549 i)
    (h2 : (T' = T ∧ c' 0 1 = c 0 1 ∧ ∀ i : Int, c' 1 i = c 1 i) ∨ (c' 0 1 = (T'.1 : Int) ∧ T'.1 ≤ 140 ∧ kTc 1 T' c'))
    (h3 : (B' = B ∧ c' 0 3 = c 0 3 ∧ ∀ i : Int, c' 2 i = c 2 i) ∨ (c' 0 3 = (B'.1 : Int) ∧ B'.1 ≤ 120 ∧ kTc 2 B' c'))
    (h4 : (x' = x ∧ c' 0 4 = c 0 4) ∨ (c' 0 4 = x' ∧ 0 ≤ x' ∧ x' ≤ 65535))
    (h5 : (K' = K ∧ c' 0 7 = c 0 7 ∧ c' 0 8 = c 0 8 ∧ ∀ a i : Int, 18 ≤ a → a < 33 → c' a i = c a i) ∨ (c' 0 7 = (if K'.1 = true then 1 else 0) ∧ (K'.1 = true → c' 0 8 = K'.2.2 ∧ 0 ≤ K'.2.2 ∧ K'.2.2 ≤ 65535 ∧ kLm 18 K'.2.1.1 K'.2.1.2 c')))
    (h6 : (Q' = Q ∧ ∀ a i : Int, 48 ≤ a → a < 170 → c' a i = c a i) ∨ ((0 ≤ c' 48 1 ∧ c' 48 1 < 8) ∧ c' 48 2 = (Q'.length : Int) ∧ Q'.length ≤ 8 ∧ ∀ (i : Nat) (L' : KLt), Q'[i]? = some L' → kLm (50 + 15 * ((c' 48 1 - 1 - i) % 8)) L'.1 L'.2 c')) : CAl L' T' B' x' K' Q' c' := by
  obtain ⟨a1, a2, a3, a4, a5, a6⟩ := h
  refine ⟨⟨?_, fun k p q => by rw [(hf k).1]; exact a1.2.1 k p q, fun k p q => by rw [(hf k).2]; exact a1.2.2 k p q⟩, ?_, ?_, ?_, ?_, ?_⟩
  · rcases h1 with ⟨rfl, e⟩ | h1
    · exact a1.1.kept (fun a i p q => e a i p (by omega))
    · exact h1
  · rcases h2 with ⟨rfl, e, e2⟩ | h2
    · exact ⟨e.trans a2.1, a2.2.1, fun i p q => by rw [e2]; exact a2.2.2 i p q⟩
    · exact h2
  · rcases h3 with ⟨rfl, e, e2⟩ | h3
    · exact ⟨e.trans a3.1, a3.2.1, fun i p q => by rw [e2]; exact a3.2.2 i p q⟩
    · exact h3
  · rcases h4 with ⟨rfl, e⟩ | h4
    · exact ⟨e.trans a4.1, a4.2⟩
    · exact h4
  · rcases h5 with ⟨rfl, e, e2, e3⟩ | h5
    · refine ⟨e.trans a5.1, fun w => ?_⟩
      have := a5.2 w
      exact ⟨e2.trans this.1, this.2.1, this.2.2.1, this.2.2.2.kept (fun a i p q => e3 a i p (by omega))⟩
    · exact h5
  · rcases h6 with ⟨rfl, e⟩ | h6
    · have e1 : c' 48 1 = c 48 1 := e 48 1 (by omega) (by omega)
      have e2 : c' 48 2 = c 48 2 := e 48 2 (by omega) (by omega)
      refine ⟨by rw [e1]; exact a6.1, e2.trans a6.2.1, a6.2.2.1, fun i L' q => ?_⟩
      rw [e1]
      exact (a6.2.2.2 i L' q).kept (fun a j p w => e a j (by omega) (by omega))
    · exact h6
theorem CAl.rp (h : CAl L T B x K Q c) (r : kCP c c') : CAl L T B x K Q c' := by
  have e : ∀ a i : Int, a < 170 ∨ a = 529 ∨ a = 549 → c' a i = c a i := fun a i q => r a i (fun z => by unfold kSc at z; omega)
  exact h.fr (Or.inl ⟨rfl, fun a i p q => e a i (by omega)⟩) (fun i => ⟨e _ _ (by omega), e _ _ (by omega)⟩) (Or.inl ⟨rfl, e _ _ (by omega), fun i => e _ _ (by omega)⟩) (Or.inl ⟨rfl, e _ _ (by omega), fun i => e _ _ (by omega)⟩) (Or.inl ⟨rfl, e _ _ (by omega)⟩) (Or.inl ⟨rfl, e _ _ (by omega), e _ _ (by omega), fun a i p q => e a i (by omega)⟩) (Or.inl ⟨rfl, fun a i p q => e a i (by omega)⟩)
theorem CAl.lo (h : CAl L T B x K Q c) (e : kLo c c') : CAl L T B x K Q c' :=
  h.fr (Or.inl ⟨rfl, fun a i p q => e a i (by omega)⟩) (fun i => ⟨e _ _ (by omega), e _ _ (by omega)⟩) (Or.inl ⟨rfl, e _ _ (by omega), fun i => e _ _ (by omega)⟩) (Or.inl ⟨rfl, e _ _ (by omega), fun i => e _ _ (by omega)⟩) (Or.inl ⟨rfl, e _ _ (by omega)⟩) (Or.inl ⟨rfl, e _ _ (by omega), e _ _ (by omega), fun a i p q => e a i (by omega)⟩) (Or.inl ⟨rfl, fun a i p q => e a i (by omega)⟩)
theorem RAl.hi (h : RAl L T B x K Q c) (e : kHi c c') : RAl L T B x K Q c' := by
  obtain ⟨a1, a2, a3, a4, a5, a6, a7⟩ := h
  refine ⟨?_, ?_, ?_, ?_, ?_, ?_, ?_⟩
  · exact ⟨fun a b ha hb => (e _ _ (by omega)).trans (a1.1 a b ha hb), fun k k0 k1 => (e _ _ (by omega)).trans (a1.2 k k0 k1)⟩
  · exact a2.cp (fun i _ _ => e _ _ (by omega)) (fun i _ _ => e _ _ (by omega))
  · exact ⟨(e _ _ (by omega)).trans a3.1, a3.2.1, fun i a b => by rw [e _ _ (by omega)]; exact a3.2.2 i a b⟩
  · exact ⟨(e _ _ (by omega)).trans a4.1, a4.2.1, fun i a b => by rw [e _ _ (by omega)]; exact a4.2.2 i a b⟩
  · exact ⟨(e _ _ (by omega)).trans a5.1, a5.2⟩
  · refine ⟨(e _ _ (by omega)).trans a6.1, fun w => ?_⟩
    have := a6.2 w
    exact ⟨(e _ _ (by omega)).trans this.1, this.2.1, this.2.2.1, this.2.2.2.cp (fun i _ _ => e _ _ (by omega)) (fun i _ _ => e _ _ (by omega))⟩
  · exact ⟨(e _ _ (by omega)).trans a7.1, a7.2.1, fun i L' q => (a7.2.2 i L' q).cp (fun j _ _ => e _ _ (by omega)) (fun j _ _ => e _ _ (by omega))⟩
/-- fields of the bench's own alone, its tape, its book -/
theorem CAl.own {T' B' : KTp} {x' : Int} (h : CAl L T B x K Q c) (e : ∀ a i : Int, ¬ (a = 0 ∨ a = 1 ∨ a = 2) → c' a i = c a i) (e7 : c' 0 7 = c 0 7 ∧ c' 0 8 = c 0 8)
    (h2 : (T' = T ∧ c' 0 1 = c 0 1 ∧ ∀ i : Int, c' 1 i = c 1 i) ∨ (c' 0 1 = (T'.1 : Int) ∧ T'.1 ≤ 140 ∧ kTc 1 T' c'))
    (h3 : (B' = B ∧ c' 0 3 = c 0 3 ∧ ∀ i : Int, c' 2 i = c 2 i) ∨ (c' 0 3 = (B'.1 : Int) ∧ B'.1 ≤ 120 ∧ kTc 2 B' c'))
    (h4 : (x' = x ∧ c' 0 4 = c 0 4) ∨ (c' 0 4 = x' ∧ 0 ≤ x' ∧ x' ≤ 65535)) : CAl L T' B' x' K Q c' :=
  h.fr (Or.inl ⟨rfl, fun a i p q => e a i (by omega)⟩) (fun i => ⟨e _ _ (by omega), e _ _ (by omega)⟩) h2 h3 h4 (Or.inl ⟨rfl, e7.1, e7.2, fun a i p q => e a i (by omega)⟩) (Or.inl ⟨rfl, fun a i p q => e a i (by omega)⟩)
theorem s_X10_seed (hL : kLay S0) (r1 : k32 x1) (hs : CAl L T B x K Q c) (h1 : (0 ≤ x1 ∧ x1 ≤ 65535) → ∀ c', CAl L T B x1 K Q c' → kHi c c' → P (some (kI 1)) c') (h0 : ¬ (0 ≤ x1 ∧ x1 ≤ 65535) → P (some (kI 0)) c) : kC2 G S0 kM_X10_seed d [kA 0, kI x1] c P :=
  v_X10_seed hL r1 ⟨fun a => h0 (by omega), fun a => ⟨fun b => h1 ⟨a, b⟩ _ (hs.own (fun a i z => kup_n (Or.inl (by omega))) ⟨kup_n (Or.inr (by decide)), kup_n (Or.inr (by decide))⟩ (Or.inl ⟨rfl, kup_n (Or.inr (by decide)), fun i => kup_n (Or.inl (by decide))⟩) (Or.inl ⟨rfl, kup_n (Or.inr (by decide)), fun i => kup_n (Or.inl (by decide))⟩) (Or.inr ⟨kup_s _ _ _ _, a, b⟩)) (fun a i z => kup_n (Or.inl (by omega))), fun b => h0 (by omega)⟩⟩
theorem tc_lay (hL : kLay S0) (r1 : k32 x1) (hs : CAl L T B x K Q c) (hT : T.1 ≤ 136) (h : ∀ c', CAl L (tyP T x1) B x K Q c' → kHi c c' → P none c') : kC2 G S0 kM_X10_lay d [kA 0, kI x1] c P := by
  have b1 := hs.2.1.1
  have bT := hs.2.1.2.2
  have loop : ∀ n k : Nat, k + n = 4 → ∀ c', (∀ a i : Int, ¬ (a = 1 ∨ (a = 0 ∧ i = 1)) → c' a i = c a i) → c' 0 1 = (T.1 : Int) + k → (∀ i : Int, 0 ≤ i → i < (T.1 : Int) + k → c' 1 i = (tyP T x1).2 i) → kW2 G S0 kM_X10_lay d 3 [some (kA 0), some (kI x1), some (kI (24 - 8 * (k : Int)))] [] c' P := by
    intro n
    induction n with
    | zero =>
      intro k hk c' e1 e2 e3
      obtain rfl : k = 4 := by omega
      refine v_X10_lay_3 hL r1 (by omega) (by omega) ⟨fun _ => h _ (hs.own (fun a i z => e1 a i (by omega)) ⟨e1 _ _ (by omega), e1 _ _ (by omega)⟩ (Or.inr ⟨by rw [e2]; show (T.1 : Int) + 4 = ((T.1 + 4 : Nat) : Int); omega, by show T.1 + 4 ≤ 140; omega, fun i a b => ?_⟩) (Or.inl ⟨rfl, e1 _ _ (by omega), fun i => e1 _ _ (by omega)⟩) (Or.inl ⟨rfl, e1 _ _ (by omega)⟩)) (fun a i q => e1 a i (by omega)), fun q => by omega⟩
      have b' : i < ((T.1 + 4 : Nat) : Int) := b
      exact ⟨e3 i a (by omega), tyP_rg (fun j p q => (bT j p q).2) i a b⟩
    | succ n ih =>
      intro k hk c' e1 e2 e3
      refine v_X10_lay_3 hL r1 (by omega) (by omega) ⟨fun q => by omega, fun _ => ⟨fun q => by omega, fun _ => ?_⟩⟩
      rw [e2]
      have nx := ih (k + 1) (by omega) (kup (kup c' 1 ((T.1 : Int) + k) (kand (kshr x1 (24 - 8 * (k : Int))) 255)) 0 1 ((T.1 : Int) + k + 1)) (fun a i q => by rw [kup_n (by omega), kup_n (by omega)]; exact e1 a i q) (by rw [kup_s]; omega) (fun i a b => by
        rw [kup_n (Or.inl (by decide))]
        by_cases w : i = (T.1 : Int) + k
        · rw [w, kup_s]
          show _ = if (T.1 : Int) + k < T.1 then _ else kand (kshr x1 (24 - 8 * ((T.1 : Int) + k - T.1))) 255
          rw [if_neg (by omega)]
          congr 2; omega
        · rw [kup_n (Or.inr w)]; exact e3 i a (by omega))
      rw [show (24 : Int) - 8 * ((k + 1 : Nat) : Int) = 24 - 8 * (k : Int) + -8 by omega] at nx
      exact nx
  refine v_X10_lay hL r1 (loop 4 0 (by omega) c (fun _ _ _ => rfl) (by omega) (fun i a b => ?_))
  show _ = if i < T.1 then T.2 i else _
  rw [if_pos (by omega)]
  exact (bT i a (by omega)).1
theorem s_X10_feed (hL : kLay S0) (r1 : k32 x1) (r2 : k32 x2) (r3 : k32 x3) (r4 : k32 x4) (r5 : k32 x5) (hs : CAl L T B x K Q c) (h1 : T.1 ≤ 120 → ∀ c', CAl L (fdP T x1 x2 x3 x4 x5) B x K Q c' → kHi c c' → P (some (kI ((T.1 : Int) + 20))) c') (h0 : ¬ T.1 ≤ 120 → P (some (kI (-1))) c) : kC2 G S0 kM_X10_feed (d + 1) [kA 0, kI x1, kI x2, kI x3, kI x4, kI x5] c P := by
  have b1 := hs.2.1.1
  have b2 := hs.2.1.2.1
  refine v_X10_feed hL r1 r2 r3 r4 r5 (by omega) ⟨fun q => ?_, fun q => h0 (by omega)⟩
  have hT : T.1 ≤ 120 := by omega
  refine tc_lay hL r1 hs (by omega) (fun c1 s1 l1 => ⟨rfl, ?_⟩)
  refine tc_lay hL r2 s1 (by show T.1 + 4 ≤ 136; omega) (fun c2 s2 l2 => ⟨rfl, ?_⟩)
  refine tc_lay hL r3 s2 (by show T.1 + 4 + 4 ≤ 136; omega) (fun c3 s3 l3 => ⟨rfl, ?_⟩)
  refine tc_lay hL r4 s3 (by show T.1 + 4 + 4 + 4 ≤ 136; omega) (fun c4 s4 l4 => ⟨rfl, ?_⟩)
  refine tc_lay hL r5 s4 (by show T.1 + 4 + 4 + 4 + 4 ≤ 136; omega) (fun c5 s5 l5 => ⟨rfl, ?_⟩)
  have e5 : c5 0 1 = (T.1 : Int) + 20 := by rw [s5.2.1.1]; show ((T.1 + 4 + 4 + 4 + 4 + 4 : Nat) : Int) = _; omega
  dsimp only
  rw [e5]
  exact h1 hT c5 s5 ((((l1.tr l2).tr l3).tr l4).tr l5)
theorem s_X10_count (hL : kLay S0) (r1 : k32 x1) (hs : CAl L T B x K Q c) (h : P (some (kI (if x1 = 0 then (kHn L.1 12 : Int) else if x1 = 1 then (Q.length : Int) else if x1 = 2 then (T.1 : Int) else if x1 = 3 then x else -1))) c) : kC2 G S0 kM_X10_count (d + 1) [kA 0, kI x1] c P := by
  refine v_X10_count hL r1 ⟨fun a => ⟨fun b => ⟨fun e => ⟨fun z => ?_, fun z => ?_⟩, fun e => ?_⟩, fun b => ?_⟩, fun a => ?_⟩
  · rw [if_neg a, if_neg b, if_neg e, if_neg z] at h; exact h
  · rw [if_neg a, if_neg b, if_neg e, if_pos z] at h; rw [hs.2.2.2.1.1]; exact h
  · rw [if_neg a, if_neg b, if_pos e] at h; rw [hs.2.1.1]; exact h
  · rw [if_neg a, if_pos b] at h
    refine v_X5_size hL ⟨_, rfl, ?_⟩
    rw [hs.2.2.2.2.2.2.1]; exact h
  · rw [if_pos a] at h; exact s_X1_size hL (llt_3 hL) hs.1.1 ⟨_, rfl, h⟩
theorem s_X10_book (hL : kLay S0) (r1 : k32 x1) (hs : CAl L T B x K Q c) (h1 : (0 ≤ x1 ∧ x1 ≤ 120) ∧ x1 ≤ T.1 → ∀ c', CAl L (0, T.2) (x1.toNat, T.2) x K Q c' → kHi c c' → P (some (kI x1)) c') (h0 : ¬ ((0 ≤ x1 ∧ x1 ≤ 120) ∧ x1 ≤ T.1) → P (some (kI (-1))) c) : kC2 G S0 kM_X10_book (d + 1) [kA 0, kI x1] c P := by
  have b1 := hs.2.1.1
  have b2 := hs.2.1.2.1
  have bT := hs.2.1.2.2
  refine v_X10_book hL r1 (by omega) ⟨fun q => h0 (by omega), fun q => ⟨fun w => h0 (by omega), fun w => ⟨fun z => ?_, fun z => h0 (by omega)⟩⟩⟩
  refine h1 ⟨⟨q, w⟩, by omega⟩ _ (hs.own (fun a i z => by rw [kup_n (Or.inl (by omega)), kup_n (Or.inl (by omega)), kcpy_out (Or.inl (by omega))]) ⟨by rw [kup_n (Or.inr (by decide)), kup_n (Or.inr (by decide)), kcpy_out (Or.inl (by decide))], by rw [kup_n (Or.inr (by decide)), kup_n (Or.inr (by decide)), kcpy_out (Or.inl (by decide))]⟩ (Or.inr ⟨kup_s _ _ _ _, Nat.zero_le _, fun i a b => by have b' : i < ((0 : Nat) : Int) := b; omega⟩) (Or.inr ⟨?_, by show x1.toNat ≤ 120; omega, fun i a b => ?_⟩) (Or.inl ⟨rfl, by rw [kup_n (Or.inr (by decide)), kup_n (Or.inr (by decide)), kcpy_out (Or.inl (by decide))]⟩)) (fun a i z => by rw [kup_n (Or.inl (by omega)), kup_n (Or.inl (by omega)), kcpy_out (Or.inl (by omega))])
  · rw [kup_n (Or.inr (by decide)), kup_s]; show x1 = ((x1.toNat : Nat) : Int); omega
  · have b' : i < ((x1.toNat : Nat) : Int) := b
    rw [kup_n (Or.inl (by decide)), kup_n (Or.inl (by decide))]
    have := kcpy_in (c := c) (a := 1) (b := 2) (x := 0) (y := 0) (n := x1) (i := i) a (by omega)
    rw [Int.zero_add] at this
    rw [this]
    exact bT i a (by omega)
end CS
