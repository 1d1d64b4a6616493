def opC (z : Int) : Int := if z = 40 then 7 else if z = 126 then 8 else if z = 35 then 9 else if z = 33 then 10 else if z = 45 then 11 else if z = 103 then 12 else -1
def sgC (z : Int) : Int := if z = 42 then 0 else if z = 94 then 1 else if z = 46 then 2 else if z = 38 then 3 else if z = 62 then 4 else -1
def chC (k b : Int) (f : KF) : KF := if k = 8 then revP f else if k = 9 then whlP (-1) f else if k = 10 then nrmP f else if k = 11 then negP f else grdP b f
def sgP (k : Int) (a g : KF) : KF := if k = 3 then metP a g else if k = 4 then mirP a g else if k = 5 then addP a g else if k = 6 then subP a g else mulP k a g
def sgB (k : Int) (a g : KF) : Bool := if k = 3 then kWb (mulP 1 (whlP (-1) a) (whlP (-1) g)) else if k = 4 then mirB a g else if k = 5 then kWb (addP a g) else if k = 6 then kWb (subP a g) else kWb (mulP k a g)
theorem sgP_bd {k : Int} {a g : KF} (h : sgB k a g = true) : kB kLB (sgP k a g) := by
  unfold sgB at h
  unfold sgP
  by_cases x1 : k = 3
  · rw [if_pos x1] at h ⊢; exact whlP_bd (Or.inl rfl) (kWb_bd h)
  rw [if_neg x1] at h ⊢
  by_cases x1 : k = 4
  · rw [if_pos x1] at h ⊢; unfold mirB at h; rw [Bool.and_eq_true] at h; exact kWb_bd h.2
  rw [if_neg x1] at h ⊢
  by_cases x1 : k = 5
  · rw [if_pos x1] at h ⊢; exact kWb_bd h
  rw [if_neg x1] at h ⊢
  by_cases x1 : k = 6
  · rw [if_pos x1] at h ⊢; exact kWb_bd h
  rw [if_neg x1] at h ⊢; exact kWb_bd h
theorem metP_congr {f f' g g' : KF} (a : kEq f f') (b : kEq g g') : kEq (metP f g) (metP f' g') := whlP_congr (mulP_congr (whlP_congr a) (whlP_congr b))
theorem opC_op {z : Int} : isOp z ↔ opC z ≠ -1 := by
  unfold opC
  repeat' split
  all_goals omega
theorem sgC_sg {z : Int} : isSg z ↔ sgC z ≠ -1 := by
  unfold sgC
  repeat' split
  all_goals omega
theorem opC_rg (z : Int) : opC z = -1 ∨ (7 ≤ opC z ∧ opC z ≤ 12) := by
  unfold opC
  repeat' split
  all_goals omega
theorem sgC_rg (z : Int) : -1 ≤ sgC z ∧ sgC z ≤ 4 := by
  unfold sgC
  repeat' split
  all_goals omega
section RR
variable {G : KG} {S0 : KSh} {d : Nat} {P : Option AV → KMem → Prop} {c c' c0 c1 c2 : KMem} {T : Int → Int} {n p q : Int} {L : KLt} {W : List (Int × Int × Int)} {V : List KF} {g f a : KF} {x1 x2 x3 i v x z : Int}
theorem t_opener (hL : kLay S0) (r : k32 z) (k : P (some (kI (opC z))) c) : kC2 G S0 kM_X11_opener d [kI z] c P := by
  unfold opC at k
  refine v_X11_opener hL r ⟨fun a => ?_, fun a => ?_⟩
  · rw [if_neg a] at k
    refine ⟨fun a => ?_, fun a => ?_⟩
    · rw [if_neg a] at k
      refine ⟨fun a => ?_, fun a => ?_⟩
      · rw [if_neg a] at k
        refine ⟨fun a => ?_, fun a => ?_⟩
        · rw [if_neg a] at k
          refine ⟨fun a => ?_, fun a => ?_⟩
          · rw [if_neg a] at k
            refine ⟨fun a => ?_, fun a => ?_⟩
            · rw [if_neg a] at k; exact k
            · rw [if_pos a] at k; exact k
          · rw [if_pos a] at k; exact k
        · rw [if_pos a] at k; exact k
      · rw [if_pos a] at k; exact k
    · rw [if_pos a] at k; exact k
  · rw [if_pos a] at k; exact k
theorem t_signFor (hL : kLay S0) (r : k32 z) (k : P (some (kI (sgC z))) c) : kC2 G S0 kM_X11_signFor d [kI z] c P := by
  unfold sgC at k
  refine v_X11_signFor hL r ⟨fun a => ?_, fun a => ?_⟩
  · rw [if_neg a] at k
    refine ⟨fun a => ?_, fun a => ?_⟩
    · rw [if_neg a] at k
      refine ⟨fun a => ?_, fun a => ?_⟩
      · rw [if_neg a] at k
        refine ⟨fun a => ?_, fun a => ?_⟩
        · rw [if_neg a] at k
          refine ⟨fun a => ?_, fun a => ?_⟩
          · rw [if_neg a] at k; exact k
          · rw [if_pos a] at k; exact k
        · rw [if_pos a] at k; exact k
      · rw [if_pos a] at k; exact k
    · rw [if_pos a] at k; exact k
  · rw [if_pos a] at k; exact k
theorem MS.top (h : MS W V c) : -1 ≤ topW W ∧ topW W ≤ 12 := by
  match W, h with
  | [], _ => show (-1 : Int) ≤ -1 ∧ (-1 : Int) ≤ 12; omega
  | w :: W, h => have := h.2.2.2.1.1.2.2.2.1; show -1 ≤ w.1 ∧ w.1 ≤ 12; omega
theorem t_upper (hL : kLay S0) (h : MS W V c) (hW : W.length ≤ 40) (k : P (some (kI (topW W))) c) : kC2 G S0 kM_X11_uppermost d [kA 558] c P := by
  obtain ⟨m1, m2, m3, mW, mV⟩ := h
  refine v_X11_uppermost hL ⟨by rw [m1]; exact k32i (by omega), fun y => ⟨by omega, ?_⟩, fun y => ?_⟩
  · match W, m1, mW, k with
    | [], m1, _, _ => exact absurd m1 y
    | w :: W, m1, mW, k =>
      have e : c 558 27 - 1 = (W.length : Int) := by rw [m1, List.length_cons]; omega
      rw [e, mW.1.1]; exact k
  · match W, m1, mW, k with
    | [], m1, _, k => exact k
    | w :: W, m1, mW, k => rw [List.length_cons] at m1; omega
theorem t_waitsFor (hL : kLay S0) (e27 : c 558 27 = (W.length : Int)) (hW : W.length ≤ 40) (e28 : c 558 28 = kOp ((x1, x2, x3) :: W)) (e29 : c 558 29 = (V.length : Int)) (mW : kWl c W) (mV : kVl c V) (r1 : 0 ≤ x1 ∧ x1 ≤ 12) (r2 : 0 ≤ x2 ∧ x2 ≤ 120) (r3 : 0 ≤ x3 ∧ x3 ≤ 4) (k : ∀ c', MS ((x1, x2, x3) :: W) V c' → (∀ a i : Int, ¬ (a = 572 ∨ a = 573 ∨ a = 574 ∨ (a = 558 ∧ i = 27)) → c' a i = c a i) → P none c') : kC2 G S0 kM_X11_waitsFor d [kA 558, kI x1, kI x2, kI x3] c P := by
  refine v_X11_waitsFor hL (k32i (by omega)) (k32i (by omega)) (k32i (by omega)) ⟨by omega, ?_⟩
  rw [e27]
  have e : ∀ a i : Int, ¬ (a = 572 ∨ a = 573 ∨ a = 574 ∨ (a = 558 ∧ i = 27)) → kup (kup (kup (kup c 572 (W.length : Int) x1) 573 (W.length : Int) x2) 574 (W.length : Int) x3) 558 27 ((W.length : Int) + 1) a i = c a i := fun a i y => by
    rw [kup_n (by omega), kup_n (by omega), kup_n (by omega), kup_n (by omega)]
  refine k _ ⟨by rw [kup_s, List.length_cons]; omega, (e _ _ (by omega)).trans e28, (e _ _ (by omega)).trans e29, ⟨⟨?_, ?_, ?_, r1, r2, r3⟩, mW.fr (fun a i y i0 i1 => ?_)⟩, mV.fr (fun s _ _ j j0 j1 => e 559 _ (by omega))⟩ e
  · rw [kup_n (Or.inl (by decide)), kup_n (Or.inl (by decide)), kup_n (Or.inl (by decide)), kup_s]
  · rw [kup_n (Or.inl (by decide)), kup_n (Or.inl (by decide)), kup_s]
  · rw [kup_n (Or.inl (by decide)), kup_s]
  · rw [kup_n (by omega), kup_n (by omega), kup_n (by omega), kup_n (by omega)]
theorem wt_fx (e : ∀ a i : Int, ¬ (a = 572 ∨ a = 573 ∨ a = 574 ∨ (a = 558 ∧ i = 27)) → c' a i = c a i) : kFx c c' := ⟨fun a i y => e a i (by omega), fun s _ _ k _ _ => e 559 _ (by omega)⟩
theorem t_opens (hL : kLay S0) (h : RPr T n L p c) (hm : MS W V c) (hp : p < n) (hW : W.length ≤ 40) (r1 : 7 ≤ x1 ∧ x1 ≤ 12)
    (h5 : kOp W = 6 → ∀ c', kFx c c' → c' 558 25 = -5000 - p → P (some (kI 0)) c')
    (hN : x1 ≠ 12 → kOp W ≠ 6 → ∀ c', RPr T n L (p + 1) c' → kFx c c' → MS ((x1, p, 0) :: W) V c' → P (some (kI 1)) c')
    (hG : x1 = 12 → kOp W ≠ 6 → isD (chO T n (p + 1)) → chO T n (p + 1) - 48 ≤ 4 → ∀ c', RPr T n L (p + 2) c' → kFx c c' → MS ((x1, p, chO T n (p + 1) - 48) :: W) V c' → P (some (kI 1)) c')
    (h3 : x1 = 12 → kOp W ≠ 6 → isD (chO T n (p + 1)) → ¬ chO T n (p + 1) - 48 ≤ 4 → ∀ c', kFx c c' → c' 558 25 = -3000 - (p + 1) → P (some (kI 0)) c')
    (h1 : x1 = 12 → kOp W ≠ 6 → ¬ isD (chO T n (p + 1)) → ∀ c', kFx c c' → c' 558 25 = -1000 - (p + 1) → P (some (kI 0)) c') : kC2 G S0 kM_X11_opens (d + 2) [kA 558, kI x1] c P := by
  have e23 := h.1
  have hs0 := h.2.1
  have ho := kOp_rg W
  obtain ⟨m1, m2, m3, mW, mV⟩ := hm
  have fx : kFx c (kup (kup c 558 28 (c 558 28 + 1)) 558 23 (c 558 23 + 1)) := kFx.rf.up.up
  have hs2 : RPr T n L (p + 1) (kup (kup c 558 28 (c 558 28 + 1)) 558 23 (c 558 23 + 1)) := h.fr fx (by rw [kup_s, e23]) (by omega)
  have e' : ∀ a i : Int, ¬ (a = 558 ∧ (i = 23 ∨ i = 28)) → kup (kup c 558 28 (c 558 28 + 1)) 558 23 (c 558 23 + 1) a i = c a i := fun a i y => by rw [kup_n (by omega), kup_n (by omega)]
  have e28 : kup (kup c 558 28 (c 558 28 + 1)) 558 23 (c 558 23 + 1) 558 28 = kOp W + 1 := by rw [kup_n (Or.inr (by decide)), kup_s, m2]
  have ek : ∀ b : Int, kOp ((x1, p, b) :: W) = kOp W + 1 := fun b => by rw [kOp, if_pos r1.1]; omega
  refine v_X11_opens hL (by omega) ⟨by rw [m2]; exact k32i (by omega), fun y => ⟨fun y2 => ?_, fun y2 => ?_⟩, fun y => ?_⟩
  · rw [m2] at y
    rw [show c 558 23 = p from e23] at *
    refine t_waitsFor hL (W := W) (V := V) ((e' _ _ (by omega)).trans m1) hW (by rw [ek]; exact e28) ((e' _ _ (by omega)).trans m3) (mW.fr (fun a i _ _ _ => e' a i (by omega))) (mV.fr (fun s _ _ k _ _ => e' 559 _ (by omega))) (by omega) (by omega) (by omega) (fun c2 s2 r2 => ⟨rfl, hN y2 y c2 (hs2.fr (wt_fx r2) ((r2 _ _ (by omega)).trans hs2.1)) (fx.tr (wt_fx r2)) s2⟩)
  · rw [m2] at y
    rw [show c 558 23 = p from e23] at *
    have hr := hs2.ch (p + 1)
    refine t_here hL hs2 ⟨_, rfl, t_isD hL (hs2.k _) (fun yd => ⟨_, rfl, kq1 ?_⟩) (fun yd => ⟨_, rfl, kq0 ?_⟩)⟩
    · have hin := chO_in (T := T) (n := n) (p := p + 1) (by unfold isD at yd; omega)
      refine t_here hL hs2 ⟨_, rfl, k32i (by omega), fun y4 => ?_, fun y4 => ?_⟩
      · have hs3 := hs2.nx hin.2
        have fx3 : kFx c (kup (kup (kup c 558 28 (c 558 28 + 1)) 558 23 (p + 1)) 558 23 (kup (kup c 558 28 (c 558 28 + 1)) 558 23 (p + 1) 558 23 + 1)) := fx.up
        refine t_waitsFor hL (W := W) (V := V) ?_ hW ?_ ?_ (mW.fr (fun a i _ _ _ => ?_)) (mV.fr (fun s _ _ k _ _ => ?_)) (by omega) (by omega) (by unfold isD at yd; omega) (fun c2 s2 r2 => ⟨rfl, hG y2 y yd y4 c2 ?_ (fx3.tr (wt_fx r2)) s2⟩)
        · rw [kup_n (Or.inr (by decide))]; exact (e' _ _ (by omega)).trans m1
        · rw [kup_n (Or.inr (by decide)), ek]; exact e28
        · rw [kup_n (Or.inr (by decide))]; exact (e' _ _ (by omega)).trans m3
        · rw [kup_n (by omega)]; exact e' a i (by omega)
        · show kup (kup (kup c 558 28 _) 558 23 _) 558 23 _ 559 _ = _
          rw [kup_n (Or.inl (by decide))]; exact e' 559 _ (by omega)
        · have := hs3.1
          rw [show p + 2 = p + 1 + 1 by omega]
          exact hs3.fr (wt_fx r2) ((r2 _ _ (by omega)).trans this) (by omega)
      · have := hs2.1
        exact t_wrongAt hL (k32i (by omega)) (by rw [this]; exact k32i (by omega)) (fun c2 r2 e2 => ⟨_, rfl, Or.inl rfl, h3 y2 y yd (by omega) c2 (fx.tr r2.fx) (by rw [e2, this]; omega)⟩)
    · have := hs2.1
      exact t_wrongAt hL (k32i (by omega)) (by rw [this]; exact k32i (by omega)) (fun c2 r2 e2 => ⟨_, rfl, Or.inl rfl, h1 y2 y yd c2 (fx.tr r2.fx) (by rw [e2, this]; omega)⟩)
  · rw [m2] at y
    exact t_wrongAt hL (k32i (by omega)) (by rw [e23]; exact k32i (by omega)) (fun c2 r2 e2 => ⟨_, rfl, Or.inl rfl, h5 y c2 r2.fx (by rw [e2, e23]; omega)⟩)
theorem t_turns (hL : kLay S0) (hi : kI0 c) (r1 : 8 ≤ x1 ∧ x1 ≤ 12) (hx : 0 ≤ x2 ∧ x2 < 100) (r3 : k32 x3) (ef : kEq (kF c x2) f) (bf : kB kLB f) (k : ∀ c', kEq (kF c' x2) (chC x1 x3 f) → kR (fun s => s = x2) c c' → P none c') : kC2 G S0 kM_X11_turns (d + 3) [kA 558, kI x1, kI x2, kI x3] c P := by
  unfold chC at k
  refine v_X11_turns hL (k32i (by omega)) (k32i (by omega)) r3 ⟨fun y => ?_, fun y => ?_, fun y => ?_, fun y => ?_, fun y => ?_⟩
  · rw [if_neg y.1, if_neg y.2.1, if_neg y.2.2.1, if_neg y.2.2.2] at k
    have loop : ∀ m j : Nat, j + m = 16 → ∀ c', kR (fun s => s = x2) c c' → (∀ i : Int, 0 ≤ i → i < 16 → kF c' x2 i = if i < j then grdP x3 f i else f i) → kW2 G S0 kM_X11_turns (d + 3) 86 [some (kA 558), none, some (kI x2), some (kI x3), some (kI (j : Int))] [] c' P := by
      intro m
      induction m with
      | zero =>
        intro j hj c' r q
        exact v_X11_turns_86 hL (k32i (by omega)) r3 (by omega) hx ⟨fun _ => k c' (fun i i0 i1 => by rw [q i i0 i1, if_pos (by omega)]) r, fun z => by omega⟩
      | succ m ih =>
        intro j hj c' r q
        refine v_X11_turns_86 hL (k32i (by omega)) r3 (by omega) hx ⟨fun z => by omega, fun _ => ⟨fun z => ?_, fun z => ?_⟩⟩
        · refine ih (j + 1) (by omega) _ r (fun i i0 i1 => ?_)
          refine (q i i0 i1).trans ?_
          by_cases w : i = j
          · rw [if_neg (by omega), if_pos (by omega), w]; unfold grdP; rw [if_pos z]
          · by_cases w2 : i < j
            · rw [if_pos w2, if_pos (by omega)]
            · rw [if_neg w2, if_neg (by omega)]
        · refine ih (j + 1) (by omega) _ (r.set1 (by omega)) (fun i i0 i1 => ?_)
          show kup c' 559 (16 * x2 + j) 0 559 (16 * x2 + i) = _
          by_cases w : i = j
          · rw [w, kup_s, if_pos (by omega)]; unfold grdP; rw [if_neg z]
          · rw [kup_n (Or.inr (by omega))]
            refine (q i i0 i1).trans ?_
            by_cases w2 : i < j
            · rw [if_pos w2, if_pos (by omega)]
            · rw [if_neg w2, if_neg (by omega)]
    exact loop 16 0 (by omega) c ⟨fun _ _ _ => kEq.rf, fun _ _ _ _ => rfl⟩ (fun i i0 i1 => by rw [if_neg (by omega)]; exact ef i i0 i1)
  · rw [if_pos y] at k
    exact s_X11_reverses hL hx (fun c1 q1 r1 => ⟨rfl, k c1 (q1.tr (revP_congr ef)) r1⟩)
  · rw [if_neg (by omega), if_pos y] at k
    refine s_X11_turnsWhole hL ⟨hx.1, hx.2, Or.inr rfl⟩ hi.1 (fun c1 q1 r1 => ⟨rfl, k c1 ?_ r1⟩)
    rw [if_neg (by decide)] at q1
    exact q1.tr (whlP_congr ef)
  · rw [if_neg (by omega), if_neg (by omega), if_pos y] at k
    exact s_X11_normals hL hx (kb63 (bf.eq ef) (by decide)) (fun c1 q1 r1 => ⟨rfl, k c1 (q1.tr (nrmP_congr ef)) r1⟩)
  · rw [if_neg (by omega), if_neg (by omega), if_neg (by omega), if_pos y] at k
    have loop : ∀ m j : Nat, j + m = 16 → ∀ c', kR (fun s => s = x2) c c' → (∀ i : Int, 0 ≤ i → i < 16 → kF c' x2 i = if i < j then -f i else f i) → kW2 G S0 kM_X11_turns (d + 3) 54 [some (kA 558), none, some (kI x2), none, some (kI (j : Int))] [] c' P := by
      intro m
      induction m with
      | zero =>
        intro j hj c' r q
        exact v_X11_turns_54 hL (k32i (by omega)) (by omega) hx ⟨fun _ => k c' (fun i i0 i1 => by rw [q i i0 i1, if_pos (by omega)]; rfl) r, fun z => by omega⟩
      | succ m ih =>
        intro j hj c' r q
        refine v_X11_turns_54 hL (k32i (by omega)) (by omega) hx ⟨fun z => by omega, fun _ => ?_⟩
        refine ih (j + 1) (by omega) _ (r.set1 (by omega)) (fun i i0 i1 => ?_)
        show kup c' 559 (16 * x2 + j) _ 559 (16 * x2 + i) = _
        by_cases w : i = j
        · have := q j (by omega) (by omega)
          have this : c' 559 (16 * x2 + j) = if (j : Int) < j then -f j else f j := this
          rw [w, kup_s, if_pos (by omega), this, if_neg (by omega)]
        · rw [kup_n (Or.inr (by omega))]
          refine (q i i0 i1).trans ?_
          by_cases w2 : i < j
          · rw [if_pos w2, if_pos (by omega)]
          · rw [if_neg w2, if_neg (by omega)]
    exact loop 16 0 (by omega) c ⟨fun _ _ _ => kEq.rf, fun _ _ _ _ => rfl⟩ (fun i i0 i1 => by rw [if_neg (by omega)]; exact ef i i0 i1)
end RR
