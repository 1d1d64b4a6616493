section RD
variable {G : KG} {S0 : KSh} {d : Nat} {P : Option AV → KMem → Prop} {c c' c0 c1 c2 : KMem} {U : Int → Int} {n p q : Int} {L L' : KLt} {T B : KTp} {x x' : Int} {K : Bool × KLt × Int} {Q : List KLt} {x1 x2 x3 x4 : Int}
/-- what is saved stays -/
def kSv (c c' : KMem) : Prop := (∀ s : Int, 32 ≤ s → s < 44 → kEq (kF c' s) (kF c s)) ∧ ∀ i : Int, 0 ≤ i → i < 12 → c' 567 i = c 567 i
theorem kSv.tr (h : kSv c c1) (r : kSv c1 c2) : kSv c c2 := ⟨fun s a b => (r.1 s a b).tr (h.1 s a b), fun i a b => (r.2 i a b).trans (h.2 i a b)⟩
theorem kSv.lq (r : kSv c c') (h : kLq 559 512 567 0 L c) : kLq 559 512 567 0 L c' := by
  refine h.cp (fun i a b => ?_) (fun i a b => by rw [Int.zero_add]; exact r.2 i a b)
  have := r.1 (32 + i / 16) (by omega) (by omega) (i % 16) (by omega) (by omega)
  have this : c' 559 (16 * (32 + i / 16) + i % 16) = c 559 (16 * (32 + i / 16) + i % 16) := this
  rw [show (16 : Int) * (32 + i / 16) + i % 16 = 512 + i by omega] at this
  exact this
/-- the letters alone change, all else that lasts stays -/
theorem RAl.cl {fs sa sb : Int} (h : RAl L T B x K Q c) (r : kCpL fs sa sb 0 564 0 12 c c') (hl : kLq 559 0 564 0 L' c') : RAl L' T B x K Q c' := by
  refine h.ltr (fun a i z _ _ => r.2.1 a i (by omega) (by omega) (by omega)) ⟨fun a b ha hb => (r.2.1 _ _ (by decide) (by decide) (by omega)).trans (h.1.1 a b ha hb), (r.2.2 30 (by decide) (by decide)).tr h.1.2⟩ hl ?_
  exact ⟨(r.2.1 _ _ (by decide) (by decide) (by omega)).trans h.2.2.2.2.1.1, h.2.2.2.2.1.2⟩
theorem kCpL.sv {fs sa sb : Int} (r : kCpL fs sa sb 0 564 0 12 c c') : kSv c c' := ⟨fun s a b => r.2.2 s (by omega) (by omega), fun i a b => r.2.1 _ _ (by decide) (by decide) (by omega)⟩
theorem kCpL.lo {fs sa sb ts ta tb : Int} (r : kCpL fs sa sb ts ta tb 12 c c') (h : 558 ≤ ta := by decide) : kLo c c' := fun a i z => r.2.1 a i (by omega) (by omega) (by omega)
theorem s_X11_trials (hL : kLay S0) (r1 : k32 x1) (r2 : k32 x2) (r3 : k32 x3) (r4 : k32 x4) (hs : RAl L T B x K Q c)
    (h1 : ((0 ≤ x1 ∧ x1 ≤ 6) ∧ (1 ≤ x2 ∧ x2 ≤ 20) ∧ (0 ≤ x3 ∧ x3 ≤ 11) ∧ (-1 ≤ x4 ∧ x4 ≤ 42)) → B.1 ≠ 0 → ∀ c', RAl L T B x K Q c' → kLo c c' → P (some (kI (trM B.2 B.1 L x1.toNat x3 x4 x x2.toNat))) c')
    (h2 : ((0 ≤ x1 ∧ x1 ≤ 6) ∧ (1 ≤ x2 ∧ x2 ≤ 20) ∧ (0 ≤ x3 ∧ x3 ≤ 11) ∧ (-1 ≤ x4 ∧ x4 ≤ 42)) → B.1 = 0 → P (some (kI (-2))) c)
    (h0 : ¬ ((0 ≤ x1 ∧ x1 ≤ 6) ∧ (1 ≤ x2 ∧ x2 ≤ 20) ∧ (0 ≤ x3 ∧ x3 ≤ 11) ∧ (-1 ≤ x4 ∧ x4 ≤ 42)) → P (some (kI (-1))) c) : kC2 G S0 kM_X11_trials (d + 10) [kA 558, kI x1, kI x2, kI x3, kI x4] c P := by
  have b1 := hs.2.2.2.1.1
  have b2 := hs.2.2.2.1.2.1
  refine v_X11_trials hL r1 r2 r3 r4 ⟨fun y1 => ⟨fun y2 => ⟨fun y3 => ⟨fun y4 => ⟨by rw [b1]; exact k32i (by omega), fun yb => ?_, fun yb => h2 ⟨y1, y2, y3, y4⟩ (by omega)⟩, fun y => h0 (fun z => y z.2.2.2)⟩, fun y => h0 (fun z => y z.2.2.1)⟩, fun y => h0 (fun z => y z.2.1)⟩, fun y => h0 (fun z => y z.1)⟩
  have hh := h1 ⟨y1, y2, y3, y4⟩ (by omega)
  clear h1 h2 h0
  obtain ⟨dr, rfl⟩ := kint_nat y1.1
  obtain ⟨m, rfl⟩ := kint_nat (z := x2) (by omega)
  rw [show ((dr : Int)).toNat = dr by omega, show ((m : Int)).toNat = m by omega] at hh
  have e4 := hs.2.2.2.2.1
  rw [e4.1]
  have loop : ∀ r k : Nat, k + r = m → ∀ c', RAl L T B (trX L dr x k) K Q c' → kLq 559 512 567 0 L c' → kLo c c' → kW2 G S0 kM_X11_trials (d + 10) 69 [some (kA 558), some (kI (dr : Int)), some (kI (m : Int)), some (kI x3), some (kI x4), some (kI x), some (kI (trM B.2 B.1 L dr x3 x4 x k)), some (kI (k : Int)), none, none] [] c' P := by
    intro r
    induction r with
    | zero =>
      intro k hk c' q1 hv lo
      obtain rfl : k = m := by omega
      have hm := trM_rg (U := B.2) (n := B.1) (L := L) (dr := dr) (l := x3) (kd := x4) (x := x) k
      refine v_X11_trials_69 hL r1 r2 r3 r4 (k32i (by omega)) (k32i (by omega)) (by omega) (by omega) ⟨fun _ => hh _ ?_ (lo.tr (kLo.rf.up (by omega))), fun z => by omega⟩
      refine q1.ltr (fun a i z _ _ => kup_n (by omega)) ⟨fun a b ha hb => (kup_n (Or.inl (by decide))).trans (q1.1.1 a b ha hb), fun k k0 k1 => (kup_n (Or.inl (by decide))).trans (q1.1.2 k k0 k1)⟩ (q1.2.1.cp (fun i _ _ => kup_n (Or.inl (by decide))) (fun i _ _ => kup_n (Or.inl (by decide)))) ⟨kup_s _ _ _ _, e4.2⟩
    | succ r ih =>
      intro k hk c' q1 hv lo
      have hm := trM_rg (U := B.2) (n := B.1) (L := L) (dr := dr) (l := x3) (kd := x4) (x := x) k
      refine v_X11_trials_69 hL r1 r2 r3 r4 (k32i (by omega)) (k32i (by omega)) (by omega) (by omega) ⟨fun z => by omega, fun _ => ?_⟩
      refine t_drawsPlaces hL q1 (by omega) (fun c2 s2 e2 e3 => ⟨rfl, ?_⟩)
      have v2 : kSv c' c2 := ⟨fun s a b => e3 s (by omega), fun i a b => e2 _ _ (by omega)⟩
      have lo2 : kLo c c2 := lo.tr (fun a i z => e2 a i (by omega))
      have e22 : c2 558 22 = (B.1 : Int) := s2.2.2.2.1.1
      have bT := s2.2.2.2.1.2.2
      -- the end of a trial
      have tail : ∀ (z : Int) (L2 : KLt) (c4 : KMem), (z = if hitB B.2 B.1 (drwN dr (L, trX L dr x k)).1 x3 x4 = true then 1 else 0) → RAl L2 T B (trX L dr x (k + 1)) K Q c4 → kSv c' c4 → kLo c c4 → kW2 G S0 kM_X11_trials (d + 10) 156 [some (kA 558), some (kI (dr : Int)), some (kI (m : Int)), some (kI x3), some (kI x4), some (kI x), some (kI (trM B.2 B.1 L dr x3 x4 x k)), some (kI (k : Int)), none, none] [kI z] c4 P := by
        intro z L2 c4 hz s4 v4 lo4
        have hl4 := v4.lq hv
        have nx : ∀ c5, kLq 559 0 564 0 L c5 → kCpL 32 567 0 0 564 0 12 c4 c5 → kW2 G S0 kM_X11_trials (d + 10) 69 [some (kA 558), some (kI (dr : Int)), some (kI (m : Int)), some (kI x3), some (kI x4), some (kI x), some (kI (trM B.2 B.1 L dr x3 x4 x k + z)), some (kI ((k : Int) + 1)), none, none] [] c5 P := by
          intro c5 l5 p5
          have := ih (k + 1) (by omega) c5 (s4.cl p5 l5) (p5.sv.lq hl4) (lo4.tr p5.lo)
          rw [trM, ← hz] at this
          exact this
        have z01 : z = 0 ∨ z = 1 := by rw [hz]; split; exact Or.inr rfl; exact Or.inl rfl
        refine v_X11_trials_156 hL r1 r2 r3 r4 (k32i (by omega)) (k32i (by omega)) (by omega) ⟨k32i (by omega), fun w => ?_, fun w => ?_⟩
        · refine t_goesBack hL hl4 (fun c5 l5 p5 => ⟨rfl, ?_⟩)
          have := nx c5 l5 p5
          rw [w, Int.add_zero] at this
          exact this
        · refine t_goesBack hL hl4 (fun c5 l5 p5 => ⟨rfl, ?_⟩)
          have := nx c5 l5 p5
          rw [show z = 1 by omega] at this
          exact this
      have tail0 : ∀ (L2 : KLt) (c4 : KMem), ¬ hitB B.2 B.1 (drwN dr (L, trX L dr x k)).1 x3 x4 = true → RAl L2 T B (trX L dr x (k + 1)) K Q c4 → kSv c' c4 → kLo c c4 → kW2 G S0 kM_X11_trials (d + 10) 155 [some (kA 558), some (kI (dr : Int)), some (kI (m : Int)), some (kI x3), some (kI x4), some (kI x), some (kI (trM B.2 B.1 L dr x3 x4 x k)), some (kI (k : Int)), none, none] [] c4 P :=
        fun L2 c4 hz s4 v4 lo4 => v_X11_trials_155 hL r1 r2 r3 r4 (k32i (by omega)) (k32i (by omega)) (by omega) (tail 0 L2 c4 (by rw [if_neg hz]) s4 v4 lo4)
      dsimp only
      rw [e22]
      have rg := rdS_rg (T := B.2) (n := B.1) (by omega) 12 0 (drwN dr (L, trX L dr x k)).1 0 s2.bl (by omega) (by omega)
      refine t_drafts hL s2.1 s2.2.1 (by omega) (Or.inr rfl) (U := B.2) bT (fun s L2 c3 e l3 d3 => ?_) (fun v c3 e d3 => ?_)
      · have hr := rg.1 s L2 e
        have s3 := s2.dx d3
        have v3 : kSv c' c3 := v2.tr ⟨fun s a b => d3.2 s (by omega) (by omega), fun i a b => d3.1 _ _ (by omega)⟩
        have ek : hitB B.2 B.1 (drwN dr (L, trX L dr x k)).1 x3 x4 = (decide (x4 ≠ -1) && (L2.1 x3 && decide (kind (L2.2 x3) = x4))) := by unfold hitB; rw [e]
        refine ⟨_, rfl, k32i (by omega), fun z => by omega, fun _ => ?_⟩
        refine t_takesDraft hL l3 (fun c4 l4 p4 => ⟨rfl, ?_⟩)
        have s4 : RAl L2 T B (trX L dr x (k + 1)) K Q c4 := s3.cl p4 l4
        have v4 := v3.tr p4.sv
        have lo4 := (lo2.tr d3.lo).tr p4.lo
        have hrs := s4.rs
        obtain ⟨st1, st2, st3⟩ := hrs.st (l := x3) (by omega) (by omega)
        refine ⟨fun y => ⟨st1, fun z => ?_, fun z => ?_⟩, fun y => ?_⟩
        · refine tail0 L2 c4 ?_ s4 v4 lo4
          rw [ek, Bool.eq_false_iff.mpr (st3 z), Bool.false_and, Bool.and_false]; decide
        · have hy := st2 z
          have hk := kind_rg (L2.2 x3)
          refine s_X11_kindOf_l hL hrs hy (fun c5 s5 r5 => ⟨_, rfl, k32i (by omega), ?_⟩)
          have rp := r5.rp kT2s
          have v5 : kSv c' c5 := v4.tr ⟨fun s a b => r5.1 s (fun w => by have w : s = 29 ∨ s = 31 := w; omega) (by omega), fun i a b => r5.2 _ _ (by decide) (by decide)⟩
          refine ⟨fun w => ?_, fun w => ?_⟩
          · refine tail0 L2 c5 ?_ (s4.rp rp) v5 (lo4.tr rp.lo)
            rw [ek, decide_eq_false w, Bool.and_false, Bool.and_false]; decide
          · refine tail 1 L2 c5 ?_ (s4.rp rp) v5 (lo4.tr rp.lo)
            rw [if_pos]
            rw [ek, decide_eq_true w, decide_eq_true y, hy]; rfl
        · refine tail 0 L2 c4 ?_ s4 v4 lo4
          rw [if_neg]
          rw [ek, decide_eq_false (fun w => w y), Bool.false_and]; decide
      · have hr := rg.2 v e
        have s3 := s2.dx d3
        have v3 : kSv c' c3 := v2.tr ⟨fun s a b => d3.2 s (by omega) (by omega), fun i a b => d3.1 _ _ (by omega)⟩
        have ek : hitB B.2 B.1 (drwN dr (L, trX L dr x k)).1 x3 x4 = decide (x4 = -1) := by unfold hitB; rw [e]
        refine ⟨_, rfl, k32i (by omega), fun _ => ⟨fun y => ?_, fun y => ?_⟩, fun z => by omega⟩
        · refine tail0 _ c3 ?_ s3 v3 (lo2.tr d3.lo)
          rw [ek, decide_eq_false y]; decide
        · refine tail 1 _ c3 ?_ s3 v3 (lo2.tr d3.lo)
          rw [if_pos]
          rw [ek, decide_eq_true y]
  refine t_saves hL hs.2.1 (fun c1 l1 p1 => ⟨rfl, ?_⟩)
  refine loop m 0 (by omega) c1 ?_ l1 p1.lo
  refine hs.ltr (fun a i z z2 z3 => p1.2.1 a i (by omega) (by omega) (by omega)) ⟨fun a b ha hb => (p1.2.1 _ _ (by decide) (by decide) (by omega)).trans (hs.1.1 a b ha hb), (p1.2.2 30 (by decide) (by decide)).tr hs.1.2⟩ ?_ ?_
  · refine hs.2.1.cp (fun i a b => ?_) (fun i a b => p1.2.1 _ _ (by decide) (by decide) (by omega))
    have := p1.2.2 (i / 16) (by omega) (by omega) (i % 16) (by omega) (by omega)
    have this : c1 559 (16 * (i / 16) + i % 16) = c 559 (16 * (i / 16) + i % 16) := this
    rw [show (16 : Int) * (i / 16) + i % 16 = 0 + i by omega] at this
    exact this
  · exact ⟨(p1.2.1 _ _ (by decide) (by decide) (by omega)).trans e4.1, e4.2⟩
end RD
