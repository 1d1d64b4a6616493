/-- the first letters of a set are copied, slots fs.. to ts.., stands likewise -/
def kCpL (fs sa sb ts ta tb : Int) (k : Nat) (c c' : KMem) : Prop := (∀ l : Int, 0 ≤ l → l < k → kEq (kF c' (ts + l)) (kF c (fs + l)) ∧ c' ta (tb + l) = c sa (sb + l)) ∧ (∀ a i : Int, a ≠ 559 → a ≠ 560 → ¬ (a = ta ∧ tb ≤ i ∧ i < tb + 12) → c' a i = c a i) ∧ ∀ s : Int, 0 ≤ s → ¬ (ts ≤ s ∧ s < ts + 12) → kEq (kF c' s) (kF c s)
section CL
variable {G : KG} {S0 : KSh} {d : Nat} {P : Option AV → KMem → Prop} {c c' c0 c1 c2 c3 : KMem} {L L' : KLt} {fs sa sb ts ta tb t v : Int}
theorem kCpL.ini : kCpL fs sa sb ts ta tb 0 c c := ⟨fun l a b => by omega, fun _ _ _ _ _ => rfl, fun _ _ _ => kEq.rf⟩
theorem kCpL.s {k : Nat} (h : kCpL fs sa sb ts ta tb k c c') (hk : k < 12) (q : kEq (kF c3 t) (kF c' (fs + k))) (r : kR (fun s => s = t) c' c3) (et : t = ts + k) {i : Int} (ei : i = tb + k) (ev : v = c3 sa (sb + k)) (n1 : 0 ≤ fs ∧ 0 ≤ ts ∧ (fs + 12 ≤ ts ∨ ts + 12 ≤ fs)) (n2 : (sa ≠ ta ∨ sb + 12 ≤ tb ∨ tb + 12 ≤ sb) ∧ (sa ≠ 559 ∧ sa ≠ 560 ∧ ta ≠ 559 ∧ ta ≠ 560)) : kCpL fs sa sb ts ta tb (k + 1) c (kup c3 ta i v) := by
  obtain ⟨h1, h2, h3⟩ := h
  have eF : ∀ s : Int, kEq (kF (kup c3 ta i v) s) (kF c3 s) := fun s j _ _ => kup_n (Or.inl (by omega))
  subst et ei
  refine ⟨fun l a b => ?_, fun a j x y z => ?_, fun s x y => ?_⟩
  · by_cases w : l = k
    · rw [w]
      refine ⟨((eF _).tr q).tr (h3 _ (by omega) (by omega)), ?_⟩
      rw [kup_s, ev, r.2 _ _ (by omega) (by omega), h2 _ _ (by omega) (by omega) (by omega)]
    · have := h1 l a (by omega)
      refine ⟨((eF _).tr (r.1 _ (by omega) (by omega))).tr this.1, ?_⟩
      rw [kup_n (Or.inr (by omega)), r.2 _ _ (by omega) (by omega)]; exact this.2
  · rw [kup_n (by omega), r.2 _ _ x y]; exact h2 a j x y z
  · exact ((eF _).tr (r.1 s (by omega) x)).tr (h3 s x y)
theorem kCpL.lq (h : kCpL fs sa sb ts ta tb 12 c c') {fb tb' : Int} (ef : fb = 16 * fs) (et : tb' = 16 * ts) (hl : kLq 559 fb sa sb L c) : kLq 559 tb' ta tb L c' := by
  subst ef et
  refine hl.cp (fun i a b => ?_) (fun i a b => (h.1 i a (by omega)).2)
  have := (h.1 (i / 16) (by omega) (by omega)).1 (i % 16) (by omega) (by omega)
  have this : c' 559 (16 * (ts + i / 16) + i % 16) = c 559 (16 * (fs + i / 16) + i % 16) := this
  rw [show (16 : Int) * (ts + i / 16) + i % 16 = 16 * ts + i by omega, show (16 : Int) * (fs + i / 16) + i % 16 = 16 * fs + i by omega] at this
  exact this
theorem t_takesDraft (hL : kLay S0) (hl : kLq 559 192 564 12 L c) (h : ∀ c', kLq 559 0 564 0 L c' → kCpL 12 564 12 0 564 0 12 c c' → P none c') : kC2 G S0 kM_X11_takesDraft (d + 1) [kA 558] c P := by
  have loop : ∀ n k : Nat, k + n = 12 → ∀ c', kCpL 12 564 12 0 564 0 k c c' → kW2 G S0 kM_X11_takesDraft (d + 1) 2 [some (kA 558), some (kI (k : Int))] [] c' P := by
    intro n
    induction n with
    | zero =>
      intro k hk c' q
      obtain rfl : k = 12 := by omega
      exact v_X11_takesDraft_2 hL (by omega) (by omega) ⟨fun _ => h c' (q.lq (by decide) (by decide) hl) q, fun z => by omega⟩
    | succ n ih =>
      intro k hk c' q
      refine v_X11_takesDraft_2 hL (by omega) (by omega) ⟨fun z => by omega, fun _ => s_X11_copies hL (by omega) (fun c3 q3 r3 _ => ⟨rfl, ?_, ih (k + 1) (by omega) _ (q.s (by omega) q3 r3 (by omega) (by omega) rfl (by decide) (by decide))⟩)⟩
      rw [r3.2 _ _ (by decide) (by decide), q.2.1 _ _ (by decide) (by decide) (by omega)]
      exact hl.1 k (by omega) (by omega)
  exact v_X11_takesDraft hL (loop 12 0 (by omega) c kCpL.ini)
theorem t_saves (hL : kLay S0) (hl : kLq 559 0 564 0 L c) (h : ∀ c', kLq 559 512 567 0 L c' → kCpL 0 564 0 32 567 0 12 c c' → P none c') : kC2 G S0 kM_X11_saves (d + 1) [kA 558] c P := by
  have loop : ∀ n k : Nat, k + n = 12 → ∀ c', kCpL 0 564 0 32 567 0 k c c' → kW2 G S0 kM_X11_saves (d + 1) 2 [some (kA 558), some (kI (k : Int))] [] c' P := by
    intro n
    induction n with
    | zero =>
      intro k hk c' q
      obtain rfl : k = 12 := by omega
      exact v_X11_saves_2 hL (by omega) (by omega) ⟨fun _ => h c' (q.lq (by decide) (by decide) hl) q, fun z => by omega⟩
    | succ n ih =>
      intro k hk c' q
      have e0 : ((0 : Int) + (k : Int)) = k := by omega
      refine v_X11_saves_2 hL (by omega) (by omega) ⟨fun z => by omega, fun _ => s_X11_copies hL (by omega) (fun c3 q3 r3 _ => ⟨rfl, ?_, ih (k + 1) (by omega) _ (q.s (by omega) (by rw [e0]; exact q3) r3 (by omega) (by omega) (by rw [e0]) (by decide) (by decide))⟩)⟩
      rw [r3.2 _ _ (by decide) (by decide), q.2.1 _ _ (by decide) (by decide) (by omega)]
      have := hl.1 k (by omega) (by omega)
      rw [e0] at this; exact this
  exact v_X11_saves hL (loop 12 0 (by omega) c kCpL.ini)
theorem t_goesBack (hL : kLay S0) (hl : kLq 559 512 567 0 L c) (h : ∀ c', kLq 559 0 564 0 L c' → kCpL 32 567 0 0 564 0 12 c c' → P none c') : kC2 G S0 kM_X11_goesBack (d + 1) [kA 558] c P := by
  have loop : ∀ n k : Nat, k + n = 12 → ∀ c', kCpL 32 567 0 0 564 0 k c c' → kW2 G S0 kM_X11_goesBack (d + 1) 2 [some (kA 558), some (kI (k : Int))] [] c' P := by
    intro n
    induction n with
    | zero =>
      intro k hk c' q
      obtain rfl : k = 12 := by omega
      exact v_X11_goesBack_2 hL (by omega) (by omega) ⟨fun _ => h c' (q.lq (by decide) (by decide) hl) q, fun z => by omega⟩
    | succ n ih =>
      intro k hk c' q
      have e0 : ((0 : Int) + (k : Int)) = k := by omega
      refine v_X11_goesBack_2 hL (by omega) (by omega) ⟨fun z => by omega, fun _ => s_X11_copies hL (by omega) (fun c3 q3 r3 _ => ⟨rfl, ?_, ih (k + 1) (by omega) _ (q.s (by omega) q3 r3 (by omega) (by omega) (by rw [e0]) (by decide) (by decide))⟩)⟩
      rw [r3.2 _ _ (by decide) (by decide), q.2.1 _ _ (by decide) (by decide) (by omega)]
      have := hl.1 k (by omega) (by omega)
      rw [e0] at this; exact this
  exact v_X11_goesBack hL (loop 12 0 (by omega) c kCpL.ini)
end CL
section RD
variable {G : KG} {S0 : KSh} {d : Nat} {P : Option AV → KMem → Prop} {c c' c0 c1 c2 : KMem} {U : Int → Int} {n p q : Int} {L L' : KLt} {T B : KTp} {x : Int} {K : Bool × KLt × Int} {Q : List KLt} {x1 x2 x3 x4 : Int}
theorem RAl.dx (h : RAl L T B x K Q c) (r : kDx c c') : RAl L T B x K Q c' := by
  refine h.ltr (fun a i z _ _ => r.1 a i (by omega)) ⟨fun a b ha hb => (r.1 _ _ (by omega)).trans (h.1.1 a b ha hb), (r.2 30 (by decide) (by decide)).tr h.1.2⟩ ?_ ?_
  · refine h.2.1.cp (fun i a b => ?_) (fun i a b => r.1 _ _ (by omega))
    have := r.2 (i / 16) (by omega) (by omega) (i % 16) (by omega) (by omega)
    have this : c' 559 (16 * (i / 16) + i % 16) = c 559 (16 * (i / 16) + i % 16) := this
    rw [show (16 : Int) * (i / 16) + i % 16 = 0 + i by omega] at this
    exact this
  · exact ⟨(r.1 _ _ (by omega)).trans h.2.2.2.2.1.1, h.2.2.2.2.1.2⟩
theorem kDx.lo (r : kDx c c') : kLo c c' := fun a i z => r.1 a i (by omega)
theorem t_drafts (hL : kLay S0) (hi : kI0 c) (hl : kLq 559 0 564 0 L c) (hn : 0 ≤ n ∧ n ≤ 120) (hx : x2 = 0 ∨ x2 = 1) (ht : ∀ i : Int, 0 ≤ i → i < n → kand (c (570 + x2) i) 255 = U i ∧ 0 ≤ U i ∧ U i ≤ 255)
    (h1 : ∀ s L' c', rdS U n 12 0 L 0 = .inl (s, L') → kLq 559 192 564 12 L' c' → kDx c c' → P (some (kI s)) c') (h0 : ∀ v c', rdS U n 12 0 L 0 = .inr v → kDx c c' → P (some (kI v)) c') : kC2 G S0 kM_X11_drafts (d + 9) [kA 558, kI n, kI x2] c P := by
  generalize hR : rdS U n 12 0 L 0 = R at h1 h0
  have fin0 : ∀ (s v : Int) (c' : KMem), 0 ≤ s ∧ s ≤ 12 → R = .inr v → kDx c c' → c' 558 25 = v → kW2 G S0 kM_X11_drafts (d + 9) 62 [some (kA 558), none, none, some (kI s), some (kI 0)] [] c' P := by
    intro s v c' hs e r e25
    refine v_X11_drafts_62 hL (k32i (by omega)) (k32i (by omega)) hs ⟨fun _ => ?_, fun z => absurd rfl z⟩
    rw [e25]; exact h0 v c' e r
  have step : ∀ (j : Nat) (s : Int) (L1 : KLt) (p : Int) (c' : KMem), s + j = 12 → 0 ≤ s → RPr U n L1 p c' → kDx c c' → R = rdS U n j s L1 p → kC2 G S0 kM_X11_readsStep (d + 8) [kA 558, kI s] c' (kRI (fun z c2 => (z = 0 ∨ z = 1) ∧ kW2 G S0 kM_X11_drafts (d + 9) 62 [some (kA 558), none, none, some (kI s), some (kI z)] [] c2 P)) := by
    intro j
    induction j with
    | zero =>
      intro s L1 p c' hj s0 h r e
      have e23 := h.1
      have hs0 := h.2.1
      rw [rdS] at e
      refine v_X11_readsStep hL (k32i (by omega)) ⟨fun z => by omega, fun _ => ?_⟩
      exact t_wrongAt hL (k32i (by omega)) (by rw [e23]; exact k32i (by omega)) (fun c2 r2 e2 => ⟨_, rfl, Or.inl rfl, _, rfl, Or.inl rfl, fin0 s (-4000 - p) c2 (by omega) e (r.tr r2.fx.dx) (by rw [e2, e23]; omega)⟩)
    | succ j ih =>
      intro s L1 p c' hj s0 h r e
      refine t_step hL h (by omega) (fun g q c2 y y2 er hq a2 f2 => ⟨_, rfl, Or.inr rfl, ?_⟩) (fun v c2 er f2 e2 => ⟨_, rfl, Or.inl rfl, fin0 s v c2 (by omega) (e.trans (er j s)) (r.tr f2) e2⟩)
      have hg := rd_ok h.bd _ _ _ _ _ _ _ (by have := h.2.1; have := chO_in (T := U) (n := n) (p := p + 1) (by omega); omega) (fun z => by omega) er
      rw [rdS, if_pos y, if_pos y2, er] at e
      dsimp only at e
      have e23 := a2.1
      have e24 := a2.2.2.1
      have hs2 := a2.2.1
      refine v_X11_drafts_62 hL (k32i (by omega)) (k32i (by omega)) (by omega) ⟨fun z => absurd z (by decide), fun _ => ⟨by rw [e23]; exact k32i (by omega), by rw [e24]; exact k32i (by omega), fun z => ?_, fun z => ?_⟩⟩
      · rw [e23, e24] at z
        rw [if_neg (by omega)] at e
        refine t_takesSign hL a2 (by omega) (fun y5 c3 r3 e3 q3 => ⟨_, rfl, kr1 ?_⟩) (fun y5 c3 r3 e3 => ⟨_, rfl, kr0 ?_⟩)
        · rw [if_pos y5] at e
          have h3 : RPr U n _ (q + 1) c3 := a2.kn r3 e3 (by omega)
          refine kC2_mono (ih (s + 1) _ (q + 1) c3 (by omega) (by omega) h3 ((r.tr f2).tr r3.fx.dx) e) (fun rr c4 H => ?_)
          obtain ⟨z, rfl, hz, H⟩ := H
          rcases hz with rfl | rfl
          · exact ⟨_, rfl, kr0 H⟩
          · exact ⟨_, rfl, kr1 H⟩
        · rw [if_neg y5] at e
          exact fin0 (s + 1) (-1000 - q) c3 (by omega) e ((r.tr f2).tr r3.fx.dx) e3
      · rw [e23, e24] at z
        rw [if_pos (by omega)] at e
        exact h1 (s + 1) _ c2 e a2.2.2.2.2.2.2 (r.tr f2)
  have eC : ∀ a i : Int, ¬ (a = 558 ∧ (i = 23 ∨ i = 24 ∨ i = 30)) → kup (kup (kup c 558 30 x2) 558 23 0) 558 24 n a i = c a i := fun a i y => by rw [kup_n (by omega), kup_n (by omega), kup_n (by omega)]
  have c30 : kup (kup (kup c 558 30 x2) 558 23 0) 558 24 n 558 30 = x2 := by rw [kup_n (Or.inr (by decide)), kup_n (Or.inr (by decide)), kup_s]
  have c23 : kup (kup (kup c 558 30 x2) 558 23 0) 558 24 n 558 23 = 0 := by rw [kup_n (Or.inr (by decide)), kup_s]
  have c24 : kup (kup (kup c 558 30 x2) 558 23 0) 558 24 n 558 24 = n := kup_s _ _ _ _
  refine v_X11_drafts hL (k32i (by omega)) (k32i (by omega)) ⟨hx, ?_⟩
  generalize kup (kup (kup c 558 30 x2) 558 23 0) 558 24 n = C at eC c30 c23 c24
  have dC : kDx c C := ⟨fun a i z => eC a i (by omega), fun s _ _ k _ _ => eC 559 _ (by omega)⟩
  have lC : kLq 559 0 564 0 L C := hl.cp (fun i _ _ => eC _ _ (by omega)) (fun i _ _ => eC _ _ (by omega))
  have loop : ∀ m k : Nat, k + m = 12 → ∀ c', kCpL 0 564 0 12 564 12 k C c' → kW2 G S0 kM_X11_drafts (d + 9) 17 [some (kA 558), none, none, some (kI (k : Int)), none] [] c' P := by
    intro m
    induction m with
    | zero =>
      intro k hk c' q
      obtain rfl : k = 12 := by omega
      refine v_X11_drafts_17 hL (k32i (by omega)) (by omega) ⟨fun _ => ?_, fun z => by omega⟩
      have q2 := q.2.1
      have q3 := q.2.2
      have dd : kDx c c' := dC.tr ⟨fun a i z => q2 a i (by omega) (by omega) (by omega), fun s s0 s1 => q3 s s0 (by omega)⟩
      have e30 : c' 558 30 = x2 := (q2 _ _ (by decide) (by decide) (by omega)).trans c30
      refine kC2_mono (step 12 0 L 0 c' (by omega) (by omega) ⟨?_, by omega, ?_, by rw [e30]; exact hx, ?_, ⟨?_, ?_⟩, q.lq (by decide) (by decide) lC⟩ dd hR.symm) (fun rr c4 H => ?_)
      · exact (q2 _ _ (by decide) (by decide) (by omega)).trans c23
      · exact (q2 _ _ (by decide) (by decide) (by omega)).trans c24
      · intro i i0 i1
        rw [e30, q2 _ _ (by omega) (by omega) (by omega), eC _ _ (by omega)]; exact ht i i0 i1
      · exact fun a b ha hb => (q2 _ _ (by decide) (by decide) (by omega)).trans ((eC _ _ (by omega)).trans (hi.1 a b ha hb))
      · exact (q3 30 (by decide) (by decide)).tr (kEq.tr (fun k _ _ => eC 559 _ (by omega)) hi.2)
      · obtain ⟨z, rfl, hz, H⟩ := H
        exact ⟨z, rfl, H⟩
    | succ m ih =>
      intro k hk c' q
      have e0 : ((0 : Int) + (k : Int)) = k := by omega
      refine v_X11_drafts_17 hL (k32i (by omega)) (by omega) ⟨fun z => by omega, fun _ => s_X11_copies hL (by omega) (fun c3 q3 r3 _ => ⟨rfl, ?_, ih (k + 1) (by omega) _ (q.s (by omega) (by rw [e0]; exact q3) r3 (by omega) (by omega) (by rw [e0]) (by decide) (by decide))⟩)⟩
      rw [r3.2 _ _ (by decide) (by decide), q.2.1 _ _ (by decide) (by decide) (by omega)]
      have := lC.1 k (by omega) (by omega)
      rw [e0] at this; exact this
  exact loop 12 0 (by omega) C kCpL.ini
theorem RAl.bl (h : RAl L T B x K Q c) : kBL L := fun l y => (h.2.1.2.2 l y).2
/-- the draft becomes the letters -/
theorem RAl.tk (h : RAl L T B x K Q c) (r : kCpL 12 564 12 0 564 0 12 c c') (hl : kLq 559 0 564 0 L' c') : RAl L' T B x K Q c' := by
  refine h.ltr (fun a i z _ _ => r.2.1 a i (by omega) (by omega) (by omega)) ⟨fun a b ha hb => (r.2.1 _ _ (by decide) (by decide) (by omega)).trans (h.1.1 a b ha hb), (r.2.2 30 (by decide) (by decide)).tr h.1.2⟩ hl ?_
  exact ⟨(r.2.1 _ _ (by decide) (by decide) (by omega)).trans h.2.2.2.2.1.1, h.2.2.2.2.1.2⟩
theorem t_does (hL : kLay S0) (hs : RAl L T B x K Q c) (hn : 0 ≤ n ∧ n ≤ 120) (hx : x2 = 0 ∨ x2 = 1) (ht : ∀ i : Int, 0 ≤ i → i < n → kand (c (570 + x2) i) 255 = U i ∧ 0 ≤ U i ∧ U i ≤ 255)
    (h1 : ∀ s L' c', rdS U n 12 0 L 0 = .inl (s, L') → RAl L' T B x K ((L :: Q).take 8) c' → kLo c c' → P (some (kI s)) c') (h0 : ∀ v c', rdS U n 12 0 L 0 = .inr v → RAl L T B x K Q c' → kLo c c' → P (some (kI v)) c') : kC2 G S0 kM_X11_does (d + 10) [kA 558, kI n, kI x2] c P := by
  have rg := rdS_rg (T := U) hn.2 12 0 L 0 hs.bl (by omega) hn.1
  refine v_X11_does hL (k32i (by omega)) (k32i (by omega)) (t_drafts hL hs.1 hs.2.1 hn hx ht (fun s L' c1 e l1 r1 => ?_) (fun v c1 e r1 => ?_))
  · have hr := rg.1 s L' e
    refine ⟨_, rfl, k32i (by omega), fun _ => ?_, fun z => by omega⟩
    refine t_remembers hL (hs.dx r1) (fun c2 s2 e2 => ⟨rfl, ?_⟩)
    refine t_takesDraft hL (l1.cp (fun i _ _ => e2 _ _ (by omega)) (fun i _ _ => e2 _ _ (by omega))) (fun c3 l3 r3 => ⟨rfl, ?_⟩)
    exact h1 s L' c3 e (s2.tk r3 l3) (fun a i z => (r3.2.1 a i (by omega) (by omega) (by omega)).trans ((e2 a i (by omega)).trans (r1.lo a i z)))
  · have hr := rg.2 v e
    exact ⟨_, rfl, k32i (by omega), fun z => by omega, fun _ => h0 v c1 e (hs.dx r1) r1.lo⟩
theorem s_X11_work (hL : kLay S0) (r1 : k32 x1) (hs : RAl L T B x K Q c)
    (h1 : (1 ≤ x1 ∧ x1 ≤ 120) ∧ x1 ≤ T.1 → ∀ s L' c', rdS T.2 x1 12 0 L 0 = .inl (s, L') → RAl L' (0, T.2) B x K ((L :: Q).take 8) c' → kLo c c' → P (some (kI s)) c')
    (h2 : (1 ≤ x1 ∧ x1 ≤ 120) ∧ x1 ≤ T.1 → ∀ v c', rdS T.2 x1 12 0 L 0 = .inr v → RAl L (0, T.2) B x K Q c' → kLo c c' → P (some (kI v)) c')
    (h0 : ¬ ((1 ≤ x1 ∧ x1 ≤ 120) ∧ x1 ≤ T.1) → P (some (kI (-1))) c) : kC2 G S0 kM_X11_work (d + 11) [kA 558, kI x1] c P := by
  have b1 := hs.2.2.1.1
  have b2 := hs.2.2.1.2.1
  have bT := hs.2.2.1.2.2
  refine v_X11_work hL r1 ⟨fun y => ⟨by rw [b1]; exact k32i (by omega), fun y2 => ?_, fun y2 => h0 (by omega)⟩, fun y => h0 (fun z => y z.1)⟩
  have s1 : RAl L (0, T.2) B x K Q (kup c 558 21 0) := hs.tp (fun a i z => kup_n (by omega)) ⟨kup_s _ _ _ _, Nat.zero_le _, fun i a b => by have b' : i < ((0 : Nat) : Int) := b; omega⟩
  have lo : kLo c (kup c 558 21 0) := kLo.rf.up (by omega)
  refine t_does hL s1 (by omega) (Or.inl rfl) (U := T.2) (fun i a b => ?_) (fun s L' c1 e q1 r1 => ⟨_, rfl, h1 (by omega) s L' c1 e q1 (lo.tr r1)⟩) (fun v c1 e q1 r1 => ⟨_, rfl, h2 (by omega) v c1 e q1 (lo.tr r1)⟩)
  rw [kup_n (Or.inl (by decide))]; exact bT i a (by omega)
theorem s_X11_run (hL : kLay S0) (hs : RAl L T B x K Q c)
    (h1 : B.1 ≠ 0 → ∀ s L' c', rdS B.2 B.1 12 0 L 0 = .inl (s, L') → RAl L' T B x K ((L :: Q).take 8) c' → kLo c c' → P (some (kI s)) c')
    (h2 : B.1 ≠ 0 → ∀ v c', rdS B.2 B.1 12 0 L 0 = .inr v → RAl L T B x K Q c' → kLo c c' → P (some (kI v)) c')
    (h0 : B.1 = 0 → P (some (kI (-2))) c) : kC2 G S0 kM_X11_run (d + 11) [kA 558] c P := by
  have b1 := hs.2.2.2.1.1
  have b2 := hs.2.2.2.1.2.1
  have bT := hs.2.2.2.1.2.2
  refine v_X11_run hL ⟨by rw [b1]; exact k32i (by omega), fun y => ?_, fun y => h0 (by omega)⟩
  rw [b1]
  exact t_does hL hs (by omega) (Or.inr rfl) (U := B.2) bT (fun s L' c1 e q1 r1 => ⟨_, rfl, h1 (by omega) s L' c1 e q1 r1⟩) (fun v c1 e q1 r1 => ⟨_, rfl, h2 (by omega) v c1 e q1 r1⟩)
end RD
