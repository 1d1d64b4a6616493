def hitB (U : Int → Int) (n : Int) (L' : KLt) (l kd : Int) : Bool := match rdS U n 12 0 L' 0 with
  | .inr _ => decide (kd = -1)
  | .inl (_, L2) => decide (kd ≠ -1) && (L2.1 l && decide (kind (L2.2 l) = kd))
def trX (L : KLt) (dr : Nat) (x : Int) : Nat → Int
  | 0 => x
  | k + 1 => (drwN dr (L, trX L dr x k)).2
def trM (U : Int → Int) (n : Int) (L : KLt) (dr : Nat) (l kd x : Int) : Nat → Int
  | 0 => 0
  | k + 1 => trM U n L dr l kd x k + (if hitB U n (drwN dr (L, trX L dr x k)).1 l kd = true then 1 else 0)
theorem trM_rg {U : Int → Int} {n : Int} {L : KLt} {dr : Nat} {l kd x : Int} : ∀ k : Nat, 0 ≤ trM U n L dr l kd x k ∧ trM U n L dr l kd x k ≤ k
  | 0 => by show (0 : Int) ≤ 0 ∧ (0 : Int) ≤ 0; omega
  | k + 1 => by
    have := trM_rg (U := U) (n := n) (L := L) (dr := dr) (l := l) (kd := kd) (x := x) k
    rw [trM]
    split <;> omega
section CT
variable {G : KG} {S0 : KSh} {d : Nat} {P : Option AV → KMem → Prop} {c c' c0 c1 c2 : KMem} {U : Int → Int} {n p q : Int} {L L' : KLt} {T B : KTp} {x : Int} {K : Bool × KLt × Int} {Q : List KLt} {x1 x2 x3 x4 : Int}
theorem CPr.lt (h : CPr U n L p c) (e : ∀ a i : Int, a < 171 ∨ 186 ≤ a → c' a i = c a i) (hl : kLm 171 L'.1 L'.2 c') : CPr U n L' p c' := by
  obtain ⟨e9, hp, e8, e7, ht, _⟩ := h
  have r7 := e 170 7 (by omega)
  refine ⟨(e _ _ (by omega)).trans e9, hp, (e _ _ (by omega)).trans e8, by rw [r7]; exact e7, fun i a b => ?_, hl⟩
  rw [r7, e _ _ (by omega)]; exact ht i a b
theorem c_target (hL : kLay S0) (h : CPr U n L p c) (h1 : (65 ≤ chO U n p ∧ chO U n p ≤ 76) → chO U n (p + 1) = 61 → ∀ c', kFq 7 7 7 c c' → c' 170 9 = p + 2 → P (some (kI (chO U n p - 65))) c') (h0 : ∀ v c', (¬ (65 ≤ chO U n p ∧ chO U n p ≤ 76) ∧ v = -1000 - p ∨ (65 ≤ chO U n p ∧ chO U n p ≤ 76) ∧ chO U n (p + 1) ≠ 61 ∧ v = -1000 - (p + 1)) → kFq 7 7 7 c c' → flt c' = v → P (some (kI (-1))) c') : kC2 G S0 kM_X7_target (d + 1) [kA 170] c P := by
  have hs0 := h.2.1
  have e9 := h.1
  have hr := h.ch p
  refine v_X7_target hL (c_next hL h ⟨_, rfl, k32i (by omega), fun y => ?_, fun y => ⟨fun y2 => ?_, fun y2 => ?_⟩⟩)
  · exact c_fails hL (k32i (by omega)) (by rw [e9]; exact k32i (by omega)) (fun c2 r2 e2 => ⟨_, rfl, h0 _ c2 (Or.inl ⟨by omega, rfl⟩) r2 (by rw [e2, e9]; omega)⟩)
  · exact c_fails hL (k32i (by omega)) (by rw [e9]; exact k32i (by omega)) (fun c2 r2 e2 => ⟨_, rfl, h0 _ c2 (Or.inl ⟨by omega, rfl⟩) r2 (by rw [e2, e9]; omega)⟩)
  · have hin := chO_in (T := U) (n := n) (p := p) (by omega)
    have h2 := h.nx hin.2
    have h29 := h2.1
    have f1 : kFq 7 7 7 c (kup c 170 9 (c 170 9 + 1)) := kFq.rf.up
    refine c_next hL h2 ⟨_, rfl, h2.k _, fun y3 => ?_, fun y3 => ?_⟩
    · exact c_fails hL (k32i (by omega)) (by rw [h29]; exact k32i (by omega)) (fun c2 r2 e2 => ⟨_, rfl, h0 _ c2 (Or.inr ⟨by omega, y3, rfl⟩) (f1.tr r2) (by rw [e2, h29]; omega)⟩)
    · exact h1 (by omega) y3 _ f1.up (by rw [kup_s, h29]; omega)
theorem c_told (hL : kLay S0) {v : Int} (e : flt c = v) (h : P (some (kI v)) c) : kC2 G S0 kM_X7_toldFault d [kA 170] c P :=
  v_X7_toldFault hL (by subst e; exact h)
theorem c_read (hL : kLay S0) {n1 : Nat} (hx : x1 = 1 ∨ x1 = 2) (hx1 : S0.2.1 x1 = (1, n1)) (hn1 : n ≤ n1 ∧ n1 < 1000) (hn : 0 ≤ n ∧ n ≤ 120) (ht : ∀ i : Int, 0 ≤ i → i < n → c x1 i = U i ∧ 0 ≤ U i ∧ U i ≤ 255) (hx3 : kLet S0 x3) (h3 : 0 ≤ x3 ∧ x3 + 15 ≤ 170) (hl : kLm x3 L.1 L.2 c)
    (h1 : ∀ s L' c', rdS U n 12 0 L 0 = .inl (s, L') → kLm 171 L'.1 L'.2 c' → kCP c c' → P (some (kI s)) c') (h0 : ∀ v c', rdS U n 12 0 L 0 = .inr v → kCP c c' → P (some (kI v)) c') : kC2 G S0 kM_X7_read (d + 24 + 11) [kA 170, kA x1, kI n, kA x3] c P := by
  generalize hR : rdS U n 12 0 L 0 = R at h1 h0
  have loop : ∀ (j : Nat) (s : Int) (L1 : KLt) (p : Int) (c' : KMem), CPr U n L1 p c' → s + j = 12 → 0 ≤ s → kCP c c' → R = rdS U n j s L1 p → kW2 G S0 kM_X7_read (d + 24 + 11) 31 [some (kA 170), none, none, none, some (kI (s + 1)), none] [] c' P := by
    intro j
    induction j with
    | zero =>
      intro s L1 p c' hs hj s0 hc e
      have e9 := hs.1
      have hs0 := hs.2.1
      refine v_X7_read_31 hL (by omega) ⟨fun _ => ?_, fun y => by omega⟩
      rw [rdS] at e
      exact c_fails hL (k32i (by omega)) (by rw [e9]; exact k32i (by omega)) (fun c2 r2 e2 => ⟨_, rfl, c_told hL (v := -4000 - p) (by rw [e2, e9]; omega) ⟨_, rfl, h0 _ c2 e (hc.tr (r2.cp (by omega)))⟩⟩)
    | succ j ih =>
      intro s L1 p c' hs hj s0 hc e
      have e9 := hs.1
      have hs0 := hs.2.1
      have hB := hs.bd
      rw [rdS] at e
      refine v_X7_read_31 hL (by omega) ⟨fun y => by omega, fun _ => ?_⟩
      refine c_target hL hs (fun y y2 c1 r1 e1 => ⟨_, rfl, k32i (by omega), fun z => by omega, fun _ => ?_⟩) (fun v c1 hv r1 e1 => ⟨_, rfl, k32i (by omega), fun _ => ?_, fun z => absurd rfl z⟩)
      · have hin := chO_in (T := U) (n := n) (p := p + 1) (by omega)
        rw [if_pos y, if_pos y2] at e
        have hs1 : CPr U n L1 (p + 2) c1 := hs.fr r1 e1 (by omega)
        refine (c_all hL 400).2.2.2.1 6 0 (p + 2) d _ c1 (fun _ => 0) (by omega) (by omega) hs1 (by omega) (fun g q c2 er k2 r2 e2 => ⟨_, rfl, kq1 ?_⟩) (fun v c2 er r2 e2 => ⟨_, rfl, kq0 ?_⟩)
        · rw [er] at e
          have hg := rd_ok hB _ _ _ _ _ _ _ (by omega) (fun z => by omega) er
          have hs2 : CPr U n L1 q c2 := hs1.fr r2 e2 (by omega)
          have h187 : S0.2.1 187 = (2, 16) := rw1 hL (o := 0) ⟨by omega, by omega⟩
          refine s_X1_put hL (llt_171 hL) (by omega) ⟨by omega, by omega⟩ h187 hs2.2.2.2.2.2 (f := g) k2 hg.2.2 (fun c3 l3 e3 => ⟨rfl, ?_⟩)
          have hs3 : CPr U n (hSet L1.1 (chO U n p - 65) true, kU L1.2 (chO U n p - 65) g) q c3 := hs2.lt (fun a i z => e3 a i (by omega)) l3
          have h39 := hs3.1
          have h38 := hs3.2.2.1
          have c3c : kCP c c3 := ((hc.tr (r1.cp (by omega))).tr (r2.cp (by omega))).tr (fun a i z => e3 a i (by unfold kSc at z; omega))
          refine ⟨by rw [h39]; exact k32i (by omega), by rw [h38]; exact k32i (by omega), fun z => ?_, fun z => ?_⟩
          · rw [h39, h38] at z
            dsimp only at e
            rw [if_neg (by omega)] at e
            refine c_next hL hs3 ⟨_, rfl, hs3.k _, fun y5 => ?_, fun y5 => ?_⟩
            · rw [if_pos y5] at e
              exact ih (s + 1) _ (q + 1) _ (hs3.nx z) (by omega) (by omega) (c3c.tr (fun a i w => kup_n (Or.inl (fun w2 => w (by rw [w2]; unfold kSc; omega))))) e
            · rw [if_neg y5] at e
              exact c_fails hL (k32i (by omega)) (by rw [h39]; exact k32i (by omega)) (fun c4 r4 e4 => ⟨_, rfl, c_told hL (v := -1000 - q) (by rw [e4, h39]; omega) ⟨_, rfl, h0 _ c4 e (c3c.tr (r4.cp (by omega)))⟩⟩)
          · rw [h39, h38] at z
            dsimp only at e
            rw [if_pos z] at e
            exact h1 _ _ c3 e l3 c3c
        · rw [er] at e
          exact c_told hL e2 ⟨_, rfl, h0 _ c2 e ((hc.tr (r1.cp (by omega))).tr (r2.cp (by omega)))⟩
      · refine c_told hL e1 ⟨_, rfl, h0 _ c1 (e.trans ?_) (hc.tr (r1.cp (by omega)))⟩
        rcases hv with ⟨a, b⟩ | ⟨a, b, z⟩
        · rw [if_neg a, b]
        · rw [if_pos a, if_neg b, z]
  refine v_X7_read hL (by omega) hx1 (k32i (by omega)) hx3 (s_min hL (k32i (by omega)) (k32i (by omega)) ⟨_, rfl, ?_⟩)
  rw [if_neg (by omega)]
  have cp : kCP c (kup (kup (kup c 170 7 x1) 170 8 n) 170 9 0) := fun a i z => by
    have : a ≠ 170 := fun w => z (by rw [w]; unfold kSc; omega)
    rw [kup_n (Or.inl this), kup_n (Or.inl this), kup_n (Or.inl this)]
  refine s_X1_become hL (llt_171 hL) hx3 ⟨by omega, h3.1⟩ (by omega) (L.1 |> fun _ => hl.kept (fun a i y z => cp a i (by unfold kSc; omega))) (fun c3 l3 e3 => ⟨rfl, ?_⟩)
  have e170 : ∀ i : Int, c3 170 i = (kup (kup (kup c 170 7 x1) 170 8 n) 170 9 0) 170 i := fun i => e3 170 i (by omega)
  have e7 : c3 170 7 = x1 := by rw [e170, kup_n (Or.inr (by decide)), kup_n (Or.inr (by decide)), kup_s]
  refine loop 12 0 L 0 c3 ⟨?_, by omega, ?_, by rw [e7]; exact hx, fun i a b => ?_, l3⟩ (by omega) (by omega) (fun a i z => (e3 a i (by unfold kSc at z; omega)).trans (cp a i z)) hR.symm
  · rw [e170, kup_s]
  · rw [e170, kup_n (Or.inr (by decide)), kup_s]
  · rw [e7, e3 _ _ (by omega), cp _ _ (by unfold kSc; omega)]; exact ht i a b
theorem CAl.bl (h : CAl L T B x K Q c) : kBL L := fun l y => (h.1.1.2.2 l y).2
theorem c_perform (hL : kLay S0) (hs : CAl L T B x K Q c) {n1 : Nat} (hx : x1 = 1 ∨ x1 = 2) (hx1 : S0.2.1 x1 = (1, n1)) (hn1 : n ≤ n1 ∧ n1 < 1000) (hn : 0 ≤ n ∧ n ≤ 120) (ht : ∀ i : Int, 0 ≤ i → i < n → c x1 i = U i ∧ 0 ≤ U i ∧ U i ≤ 255)
    (h1 : ∀ s L' c', rdS U n 12 0 L 0 = .inl (s, L') → CAl L' T B x K ((L :: Q).take 8) c' → kHi c c' → P (some (kI s)) c') (h0 : ∀ v c', rdS U n 12 0 L 0 = .inr v → CAl L T B x K Q c' → kHi c c' → P (some (kI v)) c') : kC2 G S0 kM_X10_perform (d + 24 + 12) [kA 0, kA x1, kI n] c P := by
  have rg := rdS_rg (T := U) hn.2 12 0 L 0 hs.bl (by omega) hn.1
  refine v_X10_perform hL (by omega) hx1 (k32i (by omega)) (c_read hL hx hx1 hn1 hn ht (llt_3 hL) (by omega) hs.1.1 (fun s L' c1 e l1 r1 => ?_) (fun v c1 e r1 => ?_))
  · have hr := rg.1 s L' e
    refine ⟨_, rfl, k32i (by omega), fun z => by omega, fun _ => ?_⟩
    refine tc_remember hL (hs.rp r1) (fun c2 s2 e2 => ⟨rfl, ?_⟩)
    refine s_X1_become hL (llt_3 hL) (llt_171 hL) (by omega) (by omega) (l1.kept (fun a i y z => e2 a i (by omega))) (fun c3 l3 e3 => ⟨rfl, ?_⟩)
    refine h1 s L' c3 e (s2.ltr (fun a i z => e3 a i (by omega)) l3 ?_) (fun a i z => (e3 a i (by omega)).trans ((e2 a i (by omega)).trans (r1.hi a i z)))
    have := s2.2.2.2.1
    exact ⟨(e3 _ _ (by omega)).trans this.1, this.2⟩
  · have hr := rg.2 v e
    exact ⟨_, rfl, k32i (by omega), fun _ => h0 v c1 e (hs.rp r1) r1.hi, fun z => by omega⟩
theorem s_X10_work (hL : kLay S0) (r1 : k32 x1) (hs : CAl L T B x K Q c)
    (h1 : (1 ≤ x1 ∧ x1 ≤ 120) ∧ x1 ≤ T.1 → ∀ s L' c', rdS T.2 x1 12 0 L 0 = .inl (s, L') → CAl L' (0, T.2) B x K ((L :: Q).take 8) c' → kHi c c' → P (some (kI s)) c')
    (h2 : (1 ≤ x1 ∧ x1 ≤ 120) ∧ x1 ≤ T.1 → ∀ v c', rdS T.2 x1 12 0 L 0 = .inr v → CAl L (0, T.2) B x K Q c' → kHi c c' → P (some (kI v)) c')
    (h0 : ¬ ((1 ≤ x1 ∧ x1 ≤ 120) ∧ x1 ≤ T.1) → P (some (kI (-1))) c) : kC2 G S0 kM_X10_work (d + 24 + 13) [kA 0, kI x1] c P := by
  have b1 := hs.2.1.1
  have b2 := hs.2.1.2.1
  have bT := hs.2.1.2.2
  refine v_X10_work hL r1 ⟨fun y => h0 (by omega), fun y => ⟨fun y2 => h0 (by omega), fun y2 => ⟨by rw [b1]; exact k32i (by omega), fun y3 => ?_, fun y3 => h0 (by omega)⟩⟩⟩
  have s1 : CAl L (0, T.2) B x K Q (kup c 0 1 0) := hs.own (fun a i z => kup_n (Or.inl (by omega))) ⟨kup_n (Or.inr (by decide)), kup_n (Or.inr (by decide))⟩ (Or.inr ⟨kup_s _ _ _ _, Nat.zero_le _, fun i a b => by have b' : i < ((0 : Nat) : Int) := b; omega⟩) (Or.inl ⟨rfl, kup_n (Or.inr (by decide)), fun i => kup_n (Or.inl (by decide))⟩) (Or.inl ⟨rfl, kup_n (Or.inr (by decide))⟩)
  have hi : kHi c (kup c 0 1 0) := fun a i z => kup_n (Or.inl (by omega))
  refine c_perform hL s1 (Or.inl rfl) (lsh_1 hL) (by omega) (by omega) (U := T.2) (fun i a b => ?_) (fun s L' c1 e q1 r1 => ⟨_, rfl, h1 (by omega) s L' c1 e q1 (hi.tr r1)⟩) (fun v c1 e q1 r1 => ⟨_, rfl, h2 (by omega) v c1 e q1 (hi.tr r1)⟩)
  rw [kup_n (Or.inl (by decide))]; exact bT i a (by omega)
theorem s_X10_run (hL : kLay S0) (hs : CAl L T B x K Q c)
    (h1 : B.1 ≠ 0 → ∀ s L' c', rdS B.2 B.1 12 0 L 0 = .inl (s, L') → CAl L' T B x K ((L :: Q).take 8) c' → kHi c c' → P (some (kI s)) c')
    (h2 : B.1 ≠ 0 → ∀ v c', rdS B.2 B.1 12 0 L 0 = .inr v → CAl L T B x K Q c' → kHi c c' → P (some (kI v)) c')
    (h0 : B.1 = 0 → P (some (kI (-2))) c) : kC2 G S0 kM_X10_run (d + 24 + 13) [kA 0] c P := by
  have b1 := hs.2.2.1.1
  have b2 := hs.2.2.1.2.1
  have bT := hs.2.2.1.2.2
  refine v_X10_run hL ⟨by rw [b1]; exact k32i (by omega), fun y => ?_, fun y => h0 (by omega)⟩
  rw [b1]
  exact c_perform hL hs (Or.inr rfl) (lsh_2 hL) (by omega) (by omega) (U := B.2) bT (fun s L' c1 e q1 r1 => ⟨_, rfl, h1 (by omega) s L' c1 e q1 r1⟩) (fun v c1 e q1 r1 => ⟨_, rfl, h2 (by omega) v c1 e q1 r1⟩)
theorem c_hits (hL : kLay S0) (hs : CAl L T B x K Q c) {dr : Nat} (hd : dr ≤ 6) (hx2 : 0 ≤ x2 ∧ x2 < 12) (hx3 : k32 x3) (h : ∀ c', CAl L T B (drwN dr (L, x)).2 K Q c' → kHi c c' → P (some (kI (if hitB B.2 B.1 (drwN dr (L, x)).1 x2 x3 = true then 1 else 0))) c') : kC2 G S0 kM_X10_hitsInTrial (d + 24 + 12) [kA 0, kI (dr : Int), kI x2, kI x3] c P := by
  have b1 := hs.2.2.1.1
  have b2 := hs.2.2.1.2.1
  have bT := hs.2.2.1.2.2
  refine v_X10_hitsInTrial hL (k32i (by omega)) (k32i (by omega)) hx3 (s_X1_become hL (llt_33 hL) (llt_3 hL) (by omega) (by omega) hs.1.1 (fun c1 l1 e1 => ⟨rfl, ?_⟩))
  have q4 := hs.2.2.2.1
  refine tc_drawInto hL (llt_33 hL) (by omega) l1 (x := x) ⟨(e1 _ _ (by omega)).trans q4.1, q4.2⟩ hd (fun c2 l2 x2' e2 => ⟨rfl, ?_⟩)
  have hx' := drw_x (L := L) (k := dr) q4.2
  have s2 : CAl L T B (drwN dr (L, x)).2 K Q c2 := by
    refine hs.ltr (fun a i z => ?_) (hs.1.1.kept (fun a i y z => ?_)) ⟨x2', hx'⟩
    · have : ¬ kSc 557 → False := fun w => w (by unfold kSc; omega)
      rw [e2 a i (fun w => z (by rcases w with w | w | w; exact Or.inr (Or.inl (by omega)); exact Or.inr (Or.inr (Or.inl (by rw [w]; unfold kSc; omega))); exact Or.inr (Or.inr (Or.inr w)))), e1 a i (by omega)]
    · rw [e2 a i (by omega), e1 a i (by omega)]
  have hi2 : kHi c c2 := fun a i z => (e2 a i (by omega)).trans (e1 a i (by omega))
  have e03 : c2 0 3 = (B.1 : Int) := s2.2.2.1.1
  have rg := rdS_rg (T := B.2) (n := B.1) (by omega) 12 0 (drwN dr (L, x)).1 0 (fun l y => (l2.2.2 l y).2) (by omega) (by omega)
  dsimp only
  rw [e03]
  refine c_read hL (Or.inr rfl) (lsh_2 hL) (by omega) (by omega) s2.2.2.1.2.2 (llt_33 hL) (by omega) l2 (fun s L' c3 e l3 r3 => ?_) (fun v c3 e r3 => ?_)
  · have hr := rg.1 s L' e
    have s3 := s2.rp r3
    have hi3 := hi2.tr r3.hi
    have ek : hitB B.2 B.1 (drwN dr (L, x)).1 x2 x3 = (decide (x3 ≠ -1) && (L'.1 x2 && decide (kind (L'.2 x2) = x3))) := by unfold hitB; rw [e]
    rw [ek] at h
    refine ⟨_, rfl, k32i (by omega), fun _ => ⟨fun y => ⟨fun z => absurd y z, fun _ => ?_⟩, fun y => ⟨l3.1, fun z => ⟨hx2, ?_⟩, fun z => ?_⟩⟩, fun z => by omega⟩
    · have := h c3 s3 hi3
      rw [decide_eq_false (fun w => w y), Bool.false_and] at this
      exact this
    · have hl := (l3.2.1 x2).mpr z
      have hk := l3.2.2 x2 hl
      have hkr := kind_rg (L'.2 x2)
      have hc : kCh (fun x => c3 x) c3 c3 := ⟨fun _ => kEq.rf, fun _ _ _ => rfl⟩
      refine tc_kindOf hL hc ⟨_, rfl, ?_⟩ (((llt_171 hL).2.2.2.2.2 _ hx2.1 hx2.2).2) rfl (hk.2.eq hk.1)
      rw [kind_congr hk.1]
      have := h c3 s3 hi3
      rw [decide_eq_true y, hl, Bool.true_and, Bool.true_and] at this
      refine ⟨k32i (by omega), fun w => ?_, fun w => ?_⟩
      · rw [decide_eq_false w] at this; exact this
      · rw [decide_eq_true w] at this; exact this
    · have hl : ¬ L'.1 x2 = true := fun w => z ((l3.2.1 x2).mp w)
      have := h c3 s3 hi3
      rw [Bool.eq_false_iff.mpr hl, Bool.false_and, Bool.and_false] at this
      exact this
  · have hr := rg.2 v e
    have s3 := s2.rp r3
    have hi3 := hi2.tr r3.hi
    have ek : hitB B.2 B.1 (drwN dr (L, x)).1 x2 x3 = decide (x3 = -1) := by unfold hitB; rw [e]
    rw [ek] at h
    have := h c3 s3 hi3
    refine ⟨_, rfl, k32i (by omega), fun z => by omega, fun _ => ⟨fun y => ⟨fun z => absurd y z, fun _ => ?_⟩, fun y => ⟨fun _ => ?_, fun z => absurd z y⟩⟩⟩
    · rw [decide_eq_true y] at this; exact this
    · rw [decide_eq_false y] at this; exact this
theorem s_X10_trials (hL : kLay S0) (r1 : k32 x1) (r2 : k32 x2) (r3 : k32 x3) (r4 : k32 x4) (hs : CAl L T B x K Q c)
    (h1 : ((0 ≤ x1 ∧ x1 ≤ 6) ∧ (1 ≤ x2 ∧ x2 ≤ 20) ∧ (0 ≤ x3 ∧ x3 ≤ 11) ∧ (-1 ≤ x4 ∧ x4 ≤ 42)) → B.1 ≠ 0 → ∀ c', CAl L T B x K Q c' → kHi c c' → P (some (kI (trM B.2 B.1 L x1.toNat x3 x4 x x2.toNat))) c')
    (h2 : ((0 ≤ x1 ∧ x1 ≤ 6) ∧ (1 ≤ x2 ∧ x2 ≤ 20) ∧ (0 ≤ x3 ∧ x3 ≤ 11) ∧ (-1 ≤ x4 ∧ x4 ≤ 42)) → B.1 = 0 → P (some (kI (-2))) c)
    (h0 : ¬ ((0 ≤ x1 ∧ x1 ≤ 6) ∧ (1 ≤ x2 ∧ x2 ≤ 20) ∧ (0 ≤ x3 ∧ x3 ≤ 11) ∧ (-1 ≤ x4 ∧ x4 ≤ 42)) → P (some (kI (-1))) c) : kC2 G S0 kM_X10_trials (d + 24 + 13) [kA 0, kI x1, kI x2, kI x3, kI x4] c P := by
  have b1 := hs.2.2.1.1
  have b2 := hs.2.2.1.2.1
  refine v_X10_trials hL r1 r2 r3 r4 ⟨fun y => h0 (by omega), fun y1 => ⟨fun y => h0 (by omega), fun y2 => ⟨fun y => h0 (by omega), fun y3 => ⟨fun y4 => ⟨fun y => h0 (by omega), fun y5 => ⟨fun y => h0 (by omega), fun y6 => ⟨fun y => h0 (by omega), fun y7 => ⟨fun y8 => ⟨by rw [b1]; exact k32i (by omega), fun yb => ?_, fun yb => h2 (by omega) (by omega)⟩, fun y => h0 (by omega)⟩⟩⟩⟩, fun y => h0 (by omega)⟩⟩⟩⟩
  obtain ⟨dr, rfl⟩ := kint_nat y1
  obtain ⟨m, rfl⟩ := kint_nat (z := x2) (by omega)
  rw [show ((dr : Int)).toNat = dr by omega, show ((m : Int)).toNat = m by omega] at h1
  have e4 := hs.2.2.2.1
  rw [e4.1]
  have loop : ∀ r k : Nat, k + r = m → ∀ c', CAl L T B (trX L dr x k) K Q c' → kHi c c' → kW2 G S0 kM_X10_trials (d + 24 + 13) 70 [some (kA 0), some (kI (dr : Int)), some (kI (m : Int)), some (kI x3), some (kI x4), some (kI x), some (kI (trM B.2 B.1 L dr x3 x4 x k)), some (kI (k : Int))] [] c' P := by
    intro r
    induction r with
    | zero =>
      intro k hk c' q1 hi
      obtain rfl : k = m := by omega
      have hm := trM_rg (U := B.2) (n := B.1) (L := L) (dr := dr) (l := x3) (kd := x4) (x := x) k
      refine v_X10_trials_70 hL r1 r2 r3 r4 (by omega) (by omega) (by omega) ⟨fun _ => h1 (by omega) (by omega) _ ?_ (fun a i z => (kup_n (Or.inl (by omega))).trans (hi a i z)), fun z => by omega⟩
      exact q1.own (fun a i z => kup_n (Or.inl (by omega))) ⟨kup_n (Or.inr (by decide)), kup_n (Or.inr (by decide))⟩ (Or.inl ⟨rfl, kup_n (Or.inr (by decide)), fun i => kup_n (Or.inl (by decide))⟩) (Or.inl ⟨rfl, kup_n (Or.inr (by decide)), fun i => kup_n (Or.inl (by decide))⟩) (Or.inr ⟨kup_s _ _ _ _, e4.2⟩)
    | succ r ih =>
      intro k hk c' q1 hi
      have hm := trM_rg (U := B.2) (n := B.1) (L := L) (dr := dr) (l := x3) (kd := x4) (x := x) k
      refine v_X10_trials_70 hL r1 r2 r3 r4 (by omega) (by omega) (by omega) ⟨fun z => by omega, fun _ => ?_⟩
      refine c_hits hL q1 (by omega) (by omega) r4 (fun c2 q2 hi2 => ?_)
      have nx := ih (k + 1) (by omega) c2 q2 (hi.tr hi2)
      rw [trM] at nx
      by_cases w : hitB B.2 B.1 (drwN dr (L, trX L dr x k)).1 x3 x4 = true
      · rw [if_pos w] at nx ⊢
        exact ⟨_, rfl, kr1 nx⟩
      · rw [if_neg w] at nx ⊢
        rw [Int.add_zero] at nx
        exact ⟨_, rfl, kr0 nx⟩
  exact loop m 0 (by omega) c hs kHi.rf
end CT
