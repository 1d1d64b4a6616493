section RR
variable {G : KG} {S0 : KSh} {T : Int → Int} {n : Int} {L : KLt}
def rF (G : KG) (S0 : KSh) (T : Int → Int) (n : Int) (L : KLt) (k : Nat) : Prop := ∀ (p : Int) (W : List (Int × Int × Int)) (V : List KF) (c : KMem) (d : Nat) (P : Option AV → KMem → Prop) (a : KF), RPr T n L p c → MS W V c → (W.length : Int) ≤ 3 * kOp W + 2 → (V.length : Int) ≤ 2 * kOp W + 2 → kOp W ≤ 6 → 3 * (n - p) + 1 ≤ (k : Int) →
  (∀ g q c', rd (chO T n) L k 0 a (kOp W) p = .inl (g, q) → RPr T n L q c' → kFx c c' → MS W (g :: V) c' → EFp G S0 d P c') →
  (∀ v c', rd (chO T n) L k 0 a (kOp W) p = .inr v → kFx c c' → c' 558 25 = v → P (some (kI 0)) c') → LFp G S0 d P c
def rT (G : KG) (S0 : KSh) (T : Int → Int) (n : Int) (L : KLt) (k : Nat) : Prop := ∀ (p : Int) (W : List (Int × Int × Int)) (V : List KF) (c : KMem) (d : Nat) (P : Option AV → KMem → Prop) (a : KF), RPr T n L p c → MS W V c → (topW W = -1 ∨ 5 ≤ topW W ∧ topW W ≤ 7) → (W.length : Int) ≤ 3 * kOp W + 1 → (V.length : Int) ≤ 2 * kOp W + 1 → kOp W ≤ 6 → 3 * (n - p) + 2 ≤ (k : Int) →
  (∀ g q c', rd (chO T n) L k 1 a (kOp W) p = .inl (g, q) → ¬ isSg (chO T n q) → RPr T n L q c' → kFx c c' → MS W (g :: V) c' → HDp G S0 d P c') →
  (∀ v c', rd (chO T n) L k 1 a (kOp W) p = .inr v → kFx c c' → c' 558 25 = v → P (some (kI 0)) c') → LFp G S0 d P c
def rTL (G : KG) (S0 : KSh) (T : Int → Int) (n : Int) (L : KLt) (k : Nat) : Prop := ∀ (p : Int) (W : List (Int × Int × Int)) (V : List KF) (c : KMem) (d : Nat) (P : Option AV → KMem → Prop) (a : KF), RPr T n L p c → MS W (a :: V) c → (W.length : Int) ≤ 3 * kOp W + 1 → (V.length : Int) ≤ 2 * kOp W + 1 → kOp W ≤ 6 → 3 * (n - p) + 1 ≤ (k : Int) →
  (∀ g q c', rd (chO T n) L k 2 a (kOp W) p = .inl (g, q) → ¬ isSg (chO T n q) → RPr T n L q c' → kFx c c' → MS W (g :: V) c' → HDp G S0 d P c') →
  (∀ v c', rd (chO T n) L k 2 a (kOp W) p = .inr v → kFx c c' → c' 558 25 = v → P (some (kI 0)) c') → HDp G S0 d P c
def rS (G : KG) (S0 : KSh) (T : Int → Int) (n : Int) (L : KLt) (k : Nat) : Prop := ∀ (p : Int) (W : List (Int × Int × Int)) (V : List KF) (c : KMem) (d : Nat) (P : Option AV → KMem → Prop) (a : KF), RPr T n L p c → MS W V c → (topW W = -1 ∨ topW W = 7) → (W.length : Int) ≤ 3 * kOp W → (V.length : Int) ≤ 2 * kOp W → kOp W ≤ 6 → 3 * (n - p) + 3 ≤ (k : Int) →
  (∀ g q c', rd (chO T n) L k 3 a (kOp W) p = .inl (g, q) → ¬ (chO T n q = 43 ∨ chO T n q = 45) → RPr T n L q c' → kFx c c' → MS W (g :: V) c' → MDp G S0 d P (chO T n q) c') →
  (∀ v c', rd (chO T n) L k 3 a (kOp W) p = .inr v → kFx c c' → c' 558 25 = v → P (some (kI 0)) c') → LFp G S0 d P c
def rSL (G : KG) (S0 : KSh) (T : Int → Int) (n : Int) (L : KLt) (k : Nat) : Prop := ∀ (p : Int) (W : List (Int × Int × Int)) (V : List KF) (c : KMem) (d : Nat) (P : Option AV → KMem → Prop) (a : KF), RPr T n L p c → MS W (a :: V) c → (W.length : Int) ≤ 3 * kOp W → (V.length : Int) ≤ 2 * kOp W → kOp W ≤ 6 → 3 * (n - p) + 1 ≤ (k : Int) →
  (∀ g q c', rd (chO T n) L k 4 a (kOp W) p = .inl (g, q) → ¬ (chO T n q = 43 ∨ chO T n q = 45) → RPr T n L q c' → kFx c c' → MS W (g :: V) c' → MDp G S0 d P (chO T n q) c') →
  (∀ v c', rd (chO T n) L k 4 a (kOp W) p = .inr v → kFx c c' → c' 558 25 = v → P (some (kI 0)) c') → MDp G S0 d P (chO T n p) c
theorem rF_s (hL : kLay S0) {k : Nat} (ih0 : rF G S0 T n L k) (ih3 : rS G S0 T n L k) : rF G S0 T n L (k + 1) := by
  intro p W V c d P a h hm hW hV hk6 hk h1 h0
  have hB := h.bd
  have hs0 := h.2.1
  have ho := kOp_rg W
  have hc := opC_rg (chO T n p)
  refine v_X11_readsF_0 hL (t_here hL h ⟨_, rfl, t_opener hL (h.k p) ⟨_, rfl, k32i (by omega), fun y => ?_, fun y => ?_⟩⟩)
  · have hn : ¬ isOp (chO T n p) := fun z => opC_op.mp z y
    have er : rd (chO T n) L (k + 1) 0 a (kOp W) p = rdA (chO T n) L p := by rw [rd, if_neg hn]
    rw [er] at h1 h0
    refine t_readsAtom hL h hm (by omega) (fun g q c1 e a1 a2 a3 => ⟨_, rfl, kr1 ?_⟩) (fun v c1 e a1 a2 => ⟨_, rfl, kr0 (QE0 (h0 v c1 e a1 a2))⟩)
    refine v_X11_endsF hL (d := d + 1) ?_
    have := h1 g q c1 e a1 a2 a3
    refine kW2_mono this (fun r c2 H => ?_)
    obtain ⟨z, rfl, hz, ha, hb⟩ := H
    rcases hz with rfl | rfl
    · exact ⟨_, rfl, kr0 (QE0 (hb rfl))⟩
    · exact ⟨_, rfl, kr1 (QE1 (ha rfl))⟩
  · have hop : isOp (chO T n p) := opC_op.mpr y
    have hin := chO_in (T := T) (n := n) (p := p) (by omega)
    refine t_here hL h ⟨_, rfl, t_opener hL (h.k p) ⟨_, rfl, ?_⟩⟩
    refine t_opens hL h hm hin.2 (by omega) (by omega) (fun z c1 f1 e1 => ⟨_, rfl, kq0 (QE0 (h0 _ c1 ?_ f1 e1))⟩) (fun z z2 c1 a1 f1 m1 => ⟨_, rfl, kq1 ?_⟩) (fun z z2 z3 z4 c1 a1 f1 m1 => ⟨_, rfl, kq1 ?_⟩) (fun z z2 z3 z4 c1 f1 e1 => ⟨_, rfl, kq0 (QE0 (h0 _ c1 ?_ f1 e1))⟩) (fun z z2 z3 c1 f1 e1 => ⟨_, rfl, kq0 (QE0 (h0 _ c1 ?_ f1 e1))⟩)
    · rw [rd, if_pos hop, if_pos z]
    · have ek : kOp ((opC (chO T n p), p, 0) :: W) = kOp W + 1 := by rw [kOp, if_pos (by show 7 ≤ opC (chO T n p); omega)]; omega
      have el : (((opC (chO T n p), p, (0 : Int)) :: W).length : Int) = (W.length : Int) + 1 := by rw [List.length_cons]; omega
      by_cases y40 : chO T n p = 40
      · have e7 : opC (chO T n p) = 7 := if_pos y40
        refine ih3 (p + 1) _ V c1 d P a a1 m1 (Or.inr e7) (by omega) (by omega) (by omega) (by omega) (fun g q c2 er hq a2 f2 m2 => ?_) (fun v c2 er f2 e2 => h0 v c2 ?_ (f1.tr f2) e2)
        · rw [ek] at er
          have e23 := a2.1
          have hs2 := a2.2.1
          have hg := rd_ok hB _ _ _ _ _ _ _ (by omega) (fun z => by omega) er
          refine v_X11_readsE_78 hL (a2.k q) ⟨fun y41 => ⟨fun z5 => absurd (Or.inl z5) hq, fun _ => ⟨fun z5 => absurd (Or.inr z5) hq, fun _ => ⟨?_, fun z5 => ?_, fun z5 => ?_⟩⟩⟩, fun y41 => ?_⟩
          · rw [m2.2.1, ek]; exact k32i (by omega)
          · rw [m2.2.1, ek] at z5; omega
          · refine t_wrongAt hL (k32i (by omega)) (by rw [e23]; exact k32i (by omega)) (fun c3 r3 e3 => ⟨_, rfl, kr0 (h0 (-1000 - q) c3 ?_ ((f1.tr f2).tr r3.fx) (by rw [e3, e23]; omega))⟩)
            rw [rd, if_pos hop, if_neg z2, if_pos y40, er]; exact if_neg y41
          · have hin2 := chO_in (T := T) (n := n) (p := q) (by omega)
            have hl : ((opC (chO T n p), p, (0 : Int)) :: W).length ≤ 40 := by rw [List.length_cons]; omega
            refine v_X11_closes hL (t_upper hL m2 hl ⟨7, by show some (kI (opC (chO T n p))) = _; rw [e7], k32i (by omega), fun _ => ?_, fun z5 => absurd rfl z5⟩)
            obtain ⟨b1, b2, b3, ⟨_, bW⟩, bV⟩ := m2
            have l27 : c2 558 27 = (W.length : Int) + 1 := by rw [b1, List.length_cons]; omega
            have l28 : c2 558 28 = kOp W + 1 := by rw [b2, ek]
            have fx : kFx c2 (kup (kup (kup c2 558 27 (c2 558 27 - 1)) 558 28 (c2 558 28 - 1)) 558 23 (c2 558 23 + 1)) := kFx.rf.up.up.up
            have e5 : ∀ b i : Int, b ≠ 558 → kup (kup (kup c2 558 27 (c2 558 27 - 1)) 558 28 (c2 558 28 - 1)) 558 23 (c2 558 23 + 1) b i = c2 b i := fun b i x => by rw [kup_n (Or.inl x), kup_n (Or.inl x), kup_n (Or.inl x)]
            refine v_X11_endsF hL (d := d + 1) ?_
            have := h1 g (q + 1) _ (by rw [rd, if_pos hop, if_neg z2, if_pos y40, er]; exact if_pos y41) (a2.fr fx (by rw [kup_s, e23]) (by omega)) ((f1.tr f2).tr fx) ⟨?_, ?_, ?_, ?_, ?_⟩
            · refine kW2_mono this (fun r c3 H => ?_)
              obtain ⟨z, rfl, hz, ha, hb⟩ := H
              rcases hz with rfl | rfl
              · exact ⟨_, rfl, Or.inl rfl, _, rfl, kq0 (hb rfl)⟩
              · exact ⟨_, rfl, Or.inr rfl, _, rfl, kq1 (ha rfl)⟩
            · rw [kup_n (Or.inr (by decide)), kup_n (Or.inr (by decide)), kup_s, l27]; omega
            · rw [kup_n (Or.inr (by decide)), kup_s, l28]; omega
            · rw [kup_n (Or.inr (by decide)), kup_n (Or.inr (by decide)), kup_n (Or.inr (by decide))]; exact b3
            · exact bW.fr (fun b i y _ _ => e5 b i (by omega))
            · exact bV.fr (fun s _ _ k _ _ => e5 559 _ (by decide))
        · rw [ek] at er
          rw [rd, if_pos hop, if_neg z2, if_pos y40, er]
      · have y103 : chO T n p ≠ 103 := fun w => z (by rw [w]; decide)
        have h8 : 8 ≤ opC (chO T n p) := by unfold opC at hc z y ⊢; omega
        refine ih0 (p + 1) _ V c1 d P a a1 m1 (by omega) (by omega) (by omega) (by omega) (fun g q c2 er a2 f2 m2 => ?_) (fun v c2 er f2 e2 => h0 v c2 ?_ (f1.tr f2) e2)
        · rw [ek] at er
          refine EF_pop hL a2 m2 (by omega) (by omega) h8 (fun c3 a3 f3 m3 => h1 _ q c3 ?_ a3 ((f1.tr f2).tr f3) m3)
          rw [rd, if_pos hop, if_neg z2, if_neg y40, if_neg y103, er]
          show _ = Sum.inl (chC (opC (chO T n p)) 0 g, q)
          rw [chC_chg hop y40]
        · rw [ek] at er
          rw [rd, if_pos hop, if_neg z2, if_neg y40, if_neg y103, er]
    · have y103 : chO T n p = 103 := by unfold opC at z; omega
      have y40 : chO T n p ≠ 40 := by omega
      have ek : kOp ((opC (chO T n p), p, chO T n (p + 1) - 48) :: W) = kOp W + 1 := by rw [kOp, if_pos (by show 7 ≤ opC (chO T n p); omega)]; omega
      have el : (((opC (chO T n p), p, chO T n (p + 1) - 48) :: W).length : Int) = (W.length : Int) + 1 := by rw [List.length_cons]; omega
      refine ih0 (p + 2) _ V c1 d P a a1 m1 (by omega) (by omega) (by omega) (by omega) (fun g q c2 er a2 f2 m2 => ?_) (fun v c2 er f2 e2 => h0 v c2 ?_ (f1.tr f2) e2)
      · rw [ek] at er
        refine EF_pop hL a2 m2 (by omega) (by omega) (by show 8 ≤ opC (chO T n p); omega) (fun c3 a3 f3 m3 => h1 _ q c3 ?_ a3 ((f1.tr f2).tr f3) m3)
        rw [rd, if_pos hop, if_neg z2, if_neg y40, if_pos y103, if_pos z3, if_pos z4, er]
        show _ = Sum.inl (chC (opC (chO T n p)) (chO T n (p + 1) - 48) g, q)
        rw [z]; rfl
      · rw [ek] at er
        rw [rd, if_pos hop, if_neg z2, if_neg y40, if_pos y103, if_pos z3, if_pos z4, er]
    · have y103 : chO T n p = 103 := by unfold opC at z; omega
      rw [rd, if_pos hop, if_neg z2, if_neg (by omega), if_pos y103, if_pos z3, if_neg z4]
    · have y103 : chO T n p = 103 := by unfold opC at z; omega
      rw [rd, if_pos hop, if_neg z2, if_neg (by omega), if_pos y103, if_neg z3]
theorem rT_s (hL : kLay S0) {k : Nat} (ih0 : rF G S0 T n L k) (ih2 : rTL G S0 T n L k) : rT G S0 T n L (k + 1) := by
  intro p W V c d P a h hm ht hW hV hk6 hk h1 h0
  have hB := h.bd
  have hs0 := h.2.1
  have ho := kOp_rg W
  refine ih0 p W V c d P a h hm (by omega) (by omega) hk6 (by omega) (fun g q c1 er a1 f1 m1 => ?_) (fun v c1 er f1 e1 => h0 v c1 (by rw [rd, er]) f1 e1)
  have hg := rd_ok hB _ _ _ _ _ _ _ (by omega) (fun z => by omega) er
  refine EF_end hL m1 (by omega) (by omega) ?_
  exact ih2 q W V c1 d P g a1 m1 hW hV hk6 (by omega) (fun g' q' c2 er2 hq a2 f2 m2 => h1 g' q' c2 (by rw [rd, er]; exact er2) hq a2 (f1.tr f2) m2) (fun v c2 er2 f2 e2 => h0 v c2 (by rw [rd, er]; exact er2) (f1.tr f2) e2)
theorem rTL_s (hL : kLay S0) {k : Nat} (ih0 : rF G S0 T n L k) (ih2 : rTL G S0 T n L k) : rTL G S0 T n L (k + 1) := by
  intro p W V c d P a h hm hW hV hk6 hk h1 h0
  have hB := h.bd
  have hs0 := h.2.1
  have ho := kOp_rg W
  by_cases hs : isSg (chO T n p)
  · have hin := chO_in (T := T) (n := n) (p := p) (by omega)
    have e := sgC_sg.mp hs
    have hr := sgC_rg (chO T n p)
    refine v_X11_readsE_24 hL (t_here hL h ⟨_, rfl, t_signFor hL (h.k p) ⟨_, rfl, k32i (by omega), fun z => absurd z e, fun _ => t_signFor hL (h.k p) ⟨_, rfl, ?_⟩⟩⟩)
    refine LF_call hL h hm hin.2 (by omega) (by omega) (fun c1 a1 f1 m1 => ?_)
    have ek : kOp ((sgC (chO T n p), p, 0) :: W) = kOp W := by rw [kOp, if_neg (by show ¬ 7 ≤ sgC (chO T n p); omega)]; omega
    have el : (((sgC (chO T n p), p, (0 : Int)) :: W).length : Int) = (W.length : Int) + 1 := by rw [List.length_cons]; omega
    have ev : ((a :: V).length : Int) = (V.length : Int) + 1 := by rw [List.length_cons]; omega
    refine ih0 (p + 1) _ (a :: V) c1 d P a a1 m1 (by omega) (by omega) (by omega) (by omega) (fun g q c2 er a2 f2 m2 => ?_) (fun v c2 er f2 e2 => h0 v c2 ?_ (f1.tr f2) e2)
    · rw [ek] at er
      have hg := rd_ok hB _ _ _ _ _ _ _ (by omega) (fun z => by omega) er
      have hcm := sg_cmb (a := a) (g := g) hs
      refine EF_sign hL a2 m2 (by omega) (by omega) ⟨by show 0 ≤ sgC (chO T n p); omega, by show sgC (chO T n p) ≤ 4; omega⟩ (fun b c3 a3 f3 m3 => ?_) (fun b c3 f3 e3 => h0 (-8000 - p) c3 ?_ ((f1.tr f2).tr f3) e3)
      · have b' : sgB (sgC (chO T n p)) a g = true := b
        have m3' : MS W (sgP (sgC (chO T n p)) a g :: V) c3 := m3
        rw [hcm.1] at b'
        rw [hcm.2] at m3'
        refine ih2 q W V c3 d P _ a3 m3' hW hV hk6 (by omega) (fun g' q' c4 er4 hq a4 f4 m4 => h1 g' q' c4 ?_ hq a4 (((f1.tr f2).tr f3).tr f4) m4) (fun v c4 er4 f4 e4 => h0 v c4 ?_ (((f1.tr f2).tr f3).tr f4) e4)
        · rw [rd, if_pos hs, er]; show (if _ then _ else _) = _; rw [if_pos b']; exact er4
        · rw [rd, if_pos hs, er]; show (if _ then _ else _) = _; rw [if_pos b']; exact er4
      · have b' : ¬ sgB (sgC (chO T n p)) a g = true := b
        rw [hcm.1] at b'
        rw [rd, if_pos hs, er]; show (if _ then _ else _) = _; rw [if_neg b']
    · rw [ek] at er
      rw [rd, if_pos hs, er]
  · exact h1 a p c (by rw [rd, if_neg hs]) hs h kFx.rf hm
theorem rS_s (hL : kLay S0) {k : Nat} (ih1 : rT G S0 T n L k) (ih4 : rSL G S0 T n L k) : rS G S0 T n L (k + 1) := by
  intro p W V c d P a h hm ht hW hV hk6 hk h1 h0
  have hB := h.bd
  have hs0 := h.2.1
  have ho := kOp_rg W
  refine ih1 p W V c d P a h hm (by omega) (by omega) (by omega) hk6 (by omega) (fun g q c1 er hq a1 f1 m1 => ?_) (fun v c1 er f1 e1 => h0 v c1 (by rw [rd, er]) f1 e1)
  have hg := rd_ok hB _ _ _ _ _ _ _ (by omega) (fun z => by omega) er
  refine HD_md hL a1 m1 (by omega) ht hq ?_
  exact ih4 q W V c1 d P g a1 m1 hW hV hk6 (by omega) (fun g' q' c2 er2 hq a2 f2 m2 => h1 g' q' c2 (by rw [rd, er]; exact er2) hq a2 (f1.tr f2) m2) (fun v c2 er2 f2 e2 => h0 v c2 (by rw [rd, er]; exact er2) (f1.tr f2) e2)
theorem rSL_s (hL : kLay S0) {k : Nat} (ih1 : rT G S0 T n L k) (ih4 : rSL G S0 T n L k) : rSL G S0 T n L (k + 1) := by
  intro p W V c d P a h hm hW hV hk6 hk h1 h0
  have hB := h.bd
  have hs0 := h.2.1
  have ho := kOp_rg W
  by_cases hs : chO T n p = 43 ∨ chO T n p = 45
  · have hin := chO_in (T := T) (n := n) (p := p) (by omega)
    have ev : ((a :: V).length : Int) = (V.length : Int) + 1 := by rw [List.length_cons]; omega
    have go : ∀ x1 : Int, (x1 = 5 ∨ x1 = 6) → (x1 = 6 ↔ chO T n p = 45) → kC2 G S0 kM_X11_waitsFor (d + 6) [kA 558, kI x1, kI (c 558 23), kI 0] c (kRN (fun c18 => kC2 G S0 kM_X11_readsF (d + 6) [kA 558] (kup c18 558 23 ((c18 558 23) + 1)) (kRI (fun z19 c20 => (k32 z19) ∧ ((z19 ≠ 0 → (kW2 G S0 kM_X11_readsE (d + 7) 24 [some (kA 558), none] [] c20 P)) ∧ (z19 = 0 → (P (some (kI 0)) c20))))))) := by
      intro x1 hx hx2
      have hcm : ∀ g : KF, sgB x1 a g = kWb (pmP (chO T n p) a g) ∧ sgP x1 a g = pmP (chO T n p) a g := by
        intro g
        unfold sgB sgP pmP
        rcases hx with y | y
        · have h45 : ¬ chO T n p = 45 := fun z => by have := hx2.mpr z; omega
          rw [if_neg h45]; subst y; exact ⟨rfl, rfl⟩
        · rw [if_pos (hx2.mp y)]; subst y; exact ⟨rfl, rfl⟩
      refine LF_call hL h hm hin.2 (by omega) (by omega) (fun c1 a1 f1 m1 => ?_)
      have ek : kOp ((x1, p, 0) :: W) = kOp W := by rw [kOp, if_neg (by show ¬ 7 ≤ x1; omega)]; omega
      have el : (((x1, p, (0 : Int)) :: W).length : Int) = (W.length : Int) + 1 := by rw [List.length_cons]; omega
      refine ih1 (p + 1) _ (a :: V) c1 d P a a1 m1 (Or.inr (by show 5 ≤ x1 ∧ x1 ≤ 7; omega)) (by omega) (by omega) (by omega) (by omega) (fun g q c2 er hq a2 f2 m2 => ?_) (fun v c2 er f2 e2 => h0 v c2 ?_ (f1.tr f2) e2)
      · rw [ek] at er
        have hg := rd_ok hB _ _ _ _ _ _ _ (by omega) (fun z => by omega) er
        refine HD_set hL a2 m2 (by omega) (by omega) hx hq (fun b c3 a3 f3 m3 => ?_) (fun b c3 f3 e3 => h0 (-8000 - p) c3 ?_ ((f1.tr f2).tr f3) e3)
        · have b' : sgB x1 a g = true := b
          have m3' : MS W (sgP x1 a g :: V) c3 := m3
          rw [(hcm g).1] at b'
          rw [(hcm g).2] at m3'
          refine ih4 q W V c3 d P _ a3 m3' hW hV hk6 (by omega) (fun g' q' c4 er4 hq a4 f4 m4 => h1 g' q' c4 ?_ hq a4 (((f1.tr f2).tr f3).tr f4) m4) (fun v c4 er4 f4 e4 => h0 v c4 ?_ (((f1.tr f2).tr f3).tr f4) e4)
          · rw [rd, if_pos hs, er]; show (if _ then _ else _) = _; rw [if_pos b']; exact er4
          · rw [rd, if_pos hs, er]; show (if _ then _ else _) = _; rw [if_pos b']; exact er4
        · have b' : ¬ sgB x1 a g = true := b
          rw [(hcm g).1] at b'
          rw [rd, if_pos hs, er]; show (if _ then _ else _) = _; rw [if_neg b']
      · rw [ek] at er
        rw [rd, if_pos hs, er]
    have p130 : kW2 G S0 kM_X11_readsE (d + 7) 130 [some (kA 558), some (kI (chO T n p))] [] c P := v_X11_readsE_130 hL (h.k p) ⟨fun y => go 6 (Or.inr rfl) ⟨fun _ => by omega, fun _ => rfl⟩, fun y => go 5 (Or.inl rfl) ⟨fun z => by omega, fun z => by omega⟩⟩
    exact v_X11_readsE_78 hL (h.k p) ⟨fun _ => ⟨fun _ => p130, fun _ => ⟨fun _ => p130, fun z => by omega⟩⟩, fun z => by omega⟩
  · exact h1 a p c (by rw [rd, if_neg hs]) hs h kFx.rf hm
theorem r_all (hL : kLay S0) : ∀ k : Nat, rF G S0 T n L k ∧ rT G S0 T n L k ∧ rTL G S0 T n L k ∧ rS G S0 T n L k ∧ rSL G S0 T n L k
  | 0 => ⟨fun p W V c d P a h _ _ _ _ hk => by have := h.2.1; omega, fun p W V c d P a h _ _ _ _ _ hk => by have := h.2.1; omega, fun p W V c d P a h _ _ _ _ hk => by have := h.2.1; omega, fun p W V c d P a h _ _ _ _ _ hk => by have := h.2.1; omega, fun p W V c d P a h _ _ _ _ hk => by have := h.2.1; omega⟩
  | k + 1 => by
    obtain ⟨a, b, e, f, g⟩ := r_all hL k
    exact ⟨rF_s hL a f, rT_s hL a e, rTL_s hL a e, rS_s hL b g, rSL_s hL b g⟩
end RR
