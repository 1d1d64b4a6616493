theorem chC_chg {z b : Int} {f : KF} (h : isOp z) (h40 : z ≠ 40) : chC (opC z) b f = chg z b f := by
  unfold opC chC chg
  rw [if_neg h40]
  by_cases y : z = 126
  · rw [if_pos y, if_pos rfl, if_neg (by omega), if_pos y]
  rw [if_neg y]
  by_cases y2 : z = 35
  · rw [if_pos y2, if_neg (by decide), if_pos rfl, if_pos y2]
  rw [if_neg y2, if_neg y2, if_neg y]
  by_cases y3 : z = 33
  · rw [if_pos y3, if_neg (by decide), if_neg (by decide), if_pos rfl, if_pos y3]
  rw [if_neg y3, if_neg y3]
  by_cases y4 : z = 45
  · rw [if_pos y4, if_neg (by decide), if_neg (by decide), if_neg (by decide), if_pos rfl, if_pos y4]
  have y5 : z = 103 := by omega
  subst y5; rfl
theorem sg_cmb {z : Int} {a g : KF} (h : isSg z) : sgB (sgC z) a g = cmbB z a g ∧ sgP (sgC z) a g = cmbP z a g := by
  unfold sgC sgB sgP cmbB cmbP sgK
  by_cases y : z = 42
  · subst y; exact ⟨rfl, rfl⟩
  by_cases y : z = 94
  · subst y; exact ⟨rfl, rfl⟩
  by_cases y : z = 46
  · subst y; exact ⟨rfl, rfl⟩
  by_cases y : z = 38
  · subst y; exact ⟨rfl, rfl⟩
  have y : z = 62 := by omega
  subst y; exact ⟨rfl, rfl⟩
section RR
variable {G : KG} {S0 : KSh} {d : Nat} {P : Option AV → KMem → Prop} {c c' c0 c1 c2 : KMem} {T : Int → Int} {n p q : Int} {L : KLt} {w : Int × Int × Int} {W : List (Int × Int × Int)} {V : List KF} {g f a : KF} {x1 x2 x3 i v x z : Int}
def QE (G : KG) (S0 : KSh) (d : Nat) (P : Option AV → KMem → Prop) : Option AV → KMem → Prop := kRI (fun z c => (k32 z) ∧ ((z ≠ 0 → (kW2 G S0 kM_X11_readsE (d + 7) 24 [some (kA 558), none] [] c P)) ∧ (z = 0 → (P (some (kI 0)) c))))
def QX (G : KG) (S0 : KSh) (d : Nat) (P : Option AV → KMem → Prop) : Option AV → KMem → Prop := kRI (fun z c => (z = 0 ∨ z = 1) ∧ ((z = 1 → (kW2 G S0 kM_X11_readsE (d + 7) 24 [some (kA 558), none] [] c P)) ∧ (z = 0 → (P (some (kI 0)) c))))
def HDp (G : KG) (S0 : KSh) (d : Nat) (P : Option AV → KMem → Prop) (c : KMem) : Prop := kW2 G S0 kM_X11_readsE (d + 7) 24 [some (kA 558), none] [] c P
def EFp (G : KG) (S0 : KSh) (d : Nat) (P : Option AV → KMem → Prop) (c : KMem) : Prop := kW2 G S0 kM_X11_endsF (d + 1 + 4) 0 [some (kA 558)] [] c (QX G S0 d P)
def LFp (G : KG) (S0 : KSh) (d : Nat) (P : Option AV → KMem → Prop) (c : KMem) : Prop := kW2 G S0 kM_X11_readsF (d + 6) 0 [some (kA 558)] [] c (QE G S0 d P)
def MDp (G : KG) (S0 : KSh) (d : Nat) (P : Option AV → KMem → Prop) (z : Int) (c : KMem) : Prop := kW2 G S0 kM_X11_readsE (d + 7) 78 [some (kA 558), some (kI z)] [] c P
theorem QX1 (h : HDp G S0 d P c) : QX G S0 d P (some (kI 1)) c := ⟨_, rfl, Or.inr rfl, fun _ => h, fun z => absurd z (by decide)⟩
theorem QX0 (h : P (some (kI 0)) c) : QX G S0 d P (some (kI 0)) c := ⟨_, rfl, Or.inl rfl, fun z => absurd z (by decide), fun _ => h⟩
theorem QE1 (h : HDp G S0 d P c) : QE G S0 d P (some (kI 1)) c := ⟨_, rfl, k32i (by omega), fun _ => h, fun z => absurd z (by decide)⟩
theorem QE0 (h : P (some (kI 0)) c) : QE G S0 d P (some (kI 0)) c := ⟨_, rfl, k32i (by omega), fun z => absurd rfl z, fun _ => h⟩
theorem EF_end (hL : kLay S0) (hm : MS W V c) (hW : W.length ≤ 40) (ht : topW W < 8 ∧ ¬ (0 ≤ topW W ∧ topW W ≤ 4)) (h : HDp G S0 d P c) : EFp G S0 d P c := by
  have htr := hm.top
  exact v_X11_endsF_0 hL (t_upper hL hm hW ⟨_, rfl, k32i (by omega), fun _ => t_upper hL hm hW ⟨_, rfl, k32i (by omega), fun z => absurd z ht.2, fun _ => QX1 h⟩, fun z => by omega⟩)
theorem EF_sign (hL : kLay S0) (h : RPr T n L p c) (hm : MS (w :: W) (g :: a :: V) c) (hW : W.length ≤ 39) (hV : V.length ≤ 20) (hw : 0 ≤ w.1 ∧ w.1 ≤ 4) (h1 : sgB w.1 a g = true → ∀ c', RPr T n L p c' → kFx c c' → MS W (sgP w.1 a g :: V) c' → HDp G S0 d P c') (h0 : ¬ sgB w.1 a g = true → ∀ c', kFx c c' → c' 558 25 = -8000 - w.2.1 → P (some (kI 0)) c') : EFp G S0 d P c := by
  have hl : (w :: W).length ≤ 40 := by rw [List.length_cons]; omega
  refine v_X11_endsF_0 hL (t_upper hL hm hl ⟨w.1, rfl, k32i (by omega), fun _ => t_upper hL hm hl ⟨w.1, rfl, k32i (by omega), fun _ => ?_, fun z => absurd hw z⟩, fun z => by omega⟩)
  exact t_settles hL h hm hW hV (by omega) (fun b c1 a1 a2 a3 => ⟨_, rfl, kr1 (QX1 (h1 b c1 a1 a2 a3))⟩) (fun b c1 a1 a2 => ⟨_, rfl, kr0 (QX0 (h0 b c1 a1 a2))⟩)
theorem EF_pop (hL : kLay S0) (h : RPr T n L p c) (hm : MS (w :: W) (g :: V) c) (hW : W.length ≤ 39) (hV : V.length ≤ 20) (hw : 8 ≤ w.1) (h1 : ∀ c', RPr T n L p c' → kFx c c' → MS W (chC w.1 w.2.2 g :: V) c' → EFp G S0 d P c') : EFp G S0 d P c := by
  have hl : (w :: W).length ≤ 40 := by rw [List.length_cons]; omega
  have hm' := hm
  obtain ⟨m1, m2, m3, ⟨⟨w1, w2, w3, w4, w5, w6⟩, mW⟩, ⟨⟨eg, bg⟩, mV⟩⟩ := hm
  have l27 : c 558 27 = (W.length : Int) + 1 := by rw [m1, List.length_cons]; omega
  have l29 : c 558 29 = (V.length : Int) + 1 := by rw [m3, List.length_cons]; omega
  have l28 : c 558 28 = kOp W + 1 := by rw [m2, kOp, if_pos (by omega)]; omega
  refine v_X11_endsF_0 hL (t_upper hL hm' hl ⟨w.1, rfl, k32i (by omega), fun z => by omega, fun _ => t_upper hL hm' hl ⟨w.1, rfl, by omega, ?_⟩⟩)
  rw [l27, l29, show (44 : Int) + ((V.length : Int) + 1) - 1 = 44 + (V.length : Int) by omega, show (W.length : Int) + 1 - 1 = (W.length : Int) by omega, w3]
  refine t_turns hL h.2.2.2.2.2.1 ⟨hw, w4.2⟩ (by omega) (k32i (by omega)) eg bg (fun c1 q1 r1 => ⟨rfl, ?_⟩)
  have e27 : c1 558 27 = (W.length : Int) + 1 := (r1.2 _ _ (by decide) (by decide)).trans l27
  have e28 : c1 558 28 = kOp W + 1 := (r1.2 _ _ (by decide) (by decide)).trans l28
  have fx : kFx c (kup (kup c1 558 27 (c1 558 27 - 1)) 558 28 (c1 558 28 - 1)) := ((kFx.rf.r r1).up).up
  have bC : kB kLB (chC w.1 w.2.2 g) := by
    unfold chC
    repeat' split
    · exact revP_bd bg
    · exact whlP_bd (Or.inr rfl) bg
    · exact nrmP_bd bg
    · exact negP_bd bg
    · exact grdP_bd bg
  have e9 : ∀ i : Int, i ≠ 27 → i ≠ 28 → kup (kup c1 558 27 (c1 558 27 - 1)) 558 28 (c1 558 28 - 1) 558 i = c 558 i := fun i x y => by rw [kup_n (Or.inr y), kup_n (Or.inr x)]; exact r1.2 _ _ (by decide) (by decide)
  have e5 : ∀ b i : Int, b ≠ 558 → kup (kup c1 558 27 (c1 558 27 - 1)) 558 28 (c1 558 28 - 1) b i = c1 b i := fun b i x => by rw [kup_n (Or.inl x), kup_n (Or.inl x)]
  refine h1 _ (h.fr fx ((e9 _ (by decide) (by decide)).trans h.1) (by have := h.2.1; omega)) fx ⟨?_, ?_, ?_, ?_, ⟨?_, bC⟩, ?_⟩
  · rw [kup_n (Or.inr (by decide)), kup_s, e27]; omega
  · rw [kup_s, e28]; omega
  · rw [e9 _ (by decide) (by decide), l29, List.length_cons]; omega
  · exact mW.fr (fun b i y _ _ => (e5 b i (by omega)).trans (r1.2 b i (by omega) (by omega)))
  · exact kEq.tr (fun k _ _ => e5 559 _ (by decide)) q1
  · exact mV.fr (fun s s0 s1 => kEq.tr (fun k _ _ => e5 559 _ (by decide)) (r1.1 s (by omega) (by omega)))
/-- the head of readsE, T over: nothing to settle -/
theorem HD_md (hL : kLay S0) (h : RPr T n L p c) (hm : MS W V c) (hW : W.length ≤ 40) (ht : topW W = -1 ∨ topW W = 7) (hc : ¬ isSg (chO T n p)) (k : MDp G S0 d P (chO T n p) c) : HDp G S0 d P c := by
  have e : sgC (chO T n p) = -1 := Classical.byContradiction (fun z => hc (sgC_sg.mpr z))
  refine v_X11_readsE_24 hL (t_here hL h ⟨_, rfl, t_signFor hL (h.k p) ⟨_, rfl, ?_⟩⟩)
  rw [e]
  refine ⟨k32i (by omega), fun _ => ?_, fun z => absurd rfl z⟩
  have htr := hm.top
  exact v_X11_endsT hL (t_upper hL hm hW ⟨_, rfl, k32i (by omega), fun z => by omega, fun _ => t_upper hL hm hW ⟨_, rfl, k32i (by omega), fun _ => ⟨_, rfl, kq1 k⟩, fun z => by omega⟩⟩)
theorem HD_set (hL : kLay S0) (h : RPr T n L p c) (hm : MS (w :: W) (g :: a :: V) c) (hW : W.length ≤ 39) (hV : V.length ≤ 20) (hw : w.1 = 5 ∨ w.1 = 6) (hc : ¬ isSg (chO T n p)) (h1 : sgB w.1 a g = true → ∀ c', RPr T n L p c' → kFx c c' → MS W (sgP w.1 a g :: V) c' → MDp G S0 d P (chO T n p) c') (h0 : ¬ sgB w.1 a g = true → ∀ c', kFx c c' → c' 558 25 = -8000 - w.2.1 → P (some (kI 0)) c') : HDp G S0 d P c := by
  have e : sgC (chO T n p) = -1 := Classical.byContradiction (fun z => hc (sgC_sg.mpr z))
  have hl : (w :: W).length ≤ 40 := by rw [List.length_cons]; omega
  refine v_X11_readsE_24 hL (t_here hL h ⟨_, rfl, t_signFor hL (h.k p) ⟨_, rfl, ?_⟩⟩)
  rw [e]
  refine ⟨k32i (by omega), fun _ => ?_, fun z => absurd rfl z⟩
  refine v_X11_endsT hL (t_upper hL hm hl ⟨w.1, rfl, k32i (by omega), fun _ => ?_, fun z => t_upper hL hm hl ⟨w.1, rfl, k32i (by omega), fun z2 => by omega, fun _ => ?_⟩⟩)
  · exact t_settles hL h hm hW hV (by omega) (fun b c1 a1 a2 a3 => ⟨_, rfl, kr1 ⟨_, rfl, kq1 (h1 b c1 a1 a2 a3)⟩⟩) (fun b c1 a1 a2 => ⟨_, rfl, kr0 ⟨_, rfl, kq0 (h0 b c1 a1 a2)⟩⟩)
  · exact t_settles hL h hm hW hV (by omega) (fun b c1 a1 a2 a3 => ⟨_, rfl, kr1 ⟨_, rfl, kq1 (h1 b c1 a1 a2 a3)⟩⟩) (fun b c1 a1 a2 => ⟨_, rfl, kr0 ⟨_, rfl, kq0 (h0 b c1 a1 a2)⟩⟩)
/-- what waits is put down, and F is read behind it -/
theorem LF_call (hL : kLay S0) (h : RPr T n L p c) (hm : MS W V c) (hp : p < n) (hW : W.length ≤ 40) (r1 : 0 ≤ x1 ∧ x1 ≤ 6) (k : ∀ c', RPr T n L (p + 1) c' → kFx c c' → MS ((x1, p, 0) :: W) V c' → LFp G S0 d P c') : kC2 G S0 kM_X11_waitsFor (d + 6) [kA 558, kI x1, kI (c 558 23), kI 0] c (kRN (fun c18 => kC2 G S0 kM_X11_readsF (d + 6) [kA 558] (kup c18 558 23 ((c18 558 23) + 1)) (kRI (fun z19 c20 => (k32 z19) ∧ ((z19 ≠ 0 → (kW2 G S0 kM_X11_readsE (d + 7) 24 [some (kA 558), none] [] c20 P)) ∧ (z19 = 0 → (P (some (kI 0)) c20))))))) := by
  have e23 := h.1
  have hs0 := h.2.1
  obtain ⟨m1, m2, m3, mW, mV⟩ := hm
  rw [e23]
  refine t_waitsFor hL m1 hW (by rw [kOp, if_neg (by omega), m2]; omega) m3 mW mV (by omega) (by omega) (by omega) (fun c1 s1 r => ⟨rfl, v_X11_readsF hL (k _ ?_ ?_ ?_)⟩)
  · exact (h.fr (wt_fx r) ((r _ _ (by omega)).trans e23)).nx hp
  · exact (wt_fx r).up
  · exact s1.kn kN.rf.up
end RR
