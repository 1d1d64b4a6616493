def kOp : List (Int × Int × Int) → Int
  | [] => 0
  | w :: W => (if 7 ≤ w.1 then 1 else 0) + kOp W
def kWl (c : KMem) : List (Int × Int × Int) → Prop
  | [] => True
  | w :: W => (c 572 (W.length : Int) = w.1 ∧ c 573 (W.length : Int) = w.2.1 ∧ c 574 (W.length : Int) = w.2.2 ∧ (0 ≤ w.1 ∧ w.1 ≤ 12) ∧ (0 ≤ w.2.1 ∧ w.2.1 ≤ 120) ∧ (0 ≤ w.2.2 ∧ w.2.2 ≤ 4)) ∧ kWl c W
def kVl (c : KMem) : List KF → Prop
  | [] => True
  | f :: V => (kEq (kF c (44 + (V.length : Int))) f ∧ kB kLB f) ∧ kVl c V
def topW : List (Int × Int × Int) → Int
  | [] => -1
  | w :: _ => w.1
theorem kOp_rg : ∀ W : List (Int × Int × Int), 0 ≤ kOp W ∧ kOp W ≤ W.length
  | [] => by show (0 : Int) ≤ 0 ∧ (0 : Int) ≤ ((0 : Nat) : Int); omega
  | w :: W => by
    have := kOp_rg W
    rw [kOp, List.length_cons]
    split <;> omega
theorem kWl.fr {c c' : KMem} : ∀ {W : List (Int × Int × Int)}, kWl c W → (∀ a i : Int, (a = 572 ∨ a = 573 ∨ a = 574) → 0 ≤ i → i < W.length → c' a i = c a i) → kWl c' W
  | [], _, _ => trivial
  | w :: W, h, e => by
    obtain ⟨⟨a1, a2, a3, a4⟩, h2⟩ := h
    have hl : (W.length : Int) < ((w :: W).length : Int) := by rw [List.length_cons]; omega
    refine ⟨⟨?_, ?_, ?_, a4⟩, h2.fr (fun a i x y z => e a i x y (by omega))⟩
    · rw [e _ _ (Or.inl rfl) (by omega) hl]; exact a1
    · rw [e _ _ (Or.inr (Or.inl rfl)) (by omega) hl]; exact a2
    · rw [e _ _ (Or.inr (Or.inr rfl)) (by omega) hl]; exact a3
theorem kVl.fr {c c' : KMem} : ∀ {V : List KF}, kVl c V → (∀ s : Int, 44 ≤ s → s < 44 + V.length → kEq (kF c' s) (kF c s)) → kVl c' V
  | [], _, _ => trivial
  | f :: V, h, e => by
    have hl : (V.length : Int) < ((f :: V).length : Int) := by rw [List.length_cons]; omega
    exact ⟨⟨(e _ (by omega) (by omega)).tr h.1.1, h.1.2⟩, h.2.fr (fun s x y => e s x (by omega))⟩
/-- what reading an E may change in the reference -/
def kFx (c c' : KMem) : Prop := (∀ a i : Int, ¬ (a = 559 ∨ a = 560 ∨ a = 572 ∨ a = 573 ∨ a = 574 ∨ (a = 558 ∧ (i = 23 ∨ (25 ≤ i ∧ i ≤ 29)))) → c' a i = c a i) ∧ ∀ s : Int, 0 ≤ s → s < 44 → kEq (kF c' s) (kF c s)
/-- what reading a number may change -/
def kN (c c' : KMem) : Prop := ∀ a i : Int, ¬ (a = 558 ∧ (i = 23 ∨ i = 25 ∨ i = 26)) → c' a i = c a i
section RR
variable {G : KG} {S0 : KSh} {d : Nat} {P : Option AV → KMem → Prop} {c c' c0 c1 c2 : KMem} {T : Int → Int} {n p q : Int} {L : KLt} {W : List (Int × Int × Int)} {V : List KF} {g f : KF} {x1 x2 x3 i v x z : Int}
theorem kFx.rf : kFx c c := ⟨fun _ _ _ => rfl, fun _ _ _ => kEq.rf⟩
theorem kFx.tr (h : kFx c c1) (r : kFx c1 c2) : kFx c c2 := ⟨fun a i x => (r.1 a i x).trans (h.1 a i x), fun s x y => (r.2 s x y).tr (h.2 s x y)⟩
theorem kN.rf : kN c c := fun _ _ _ => rfl
theorem kN.tr (h : kN c c1) (r : kN c1 c2) : kN c c2 := fun a i x => (r a i x).trans (h a i x)
theorem kN.up (h : kN c c1) (hi : i = 23 ∨ i = 25 ∨ i = 26 := by omega) : kN c (kup c1 558 i v) := fun a j x => (kup_n (by omega)).trans (h a j x)
theorem kN.fx (h : kN c c') : kFx c c' := ⟨fun a i x => h a i (by omega), fun s x y k k0 k1 => h 559 _ (by omega)⟩
theorem kFx.up (h : kFx c c1) {a : Int} (ha : (a = 558 ∧ (i = 23 ∨ (25 ≤ i ∧ i ≤ 29))) ∨ a = 572 ∨ a = 573 ∨ a = 574 := by omega) : kFx c (kup c1 a i v) := ⟨fun b j x => (kup_n (by omega)).trans (h.1 b j x), fun s x y k k0 k1 => by
  show kup c1 a i v 559 _ = _
  rw [kup_n (Or.inl (by omega))]; exact h.2 s x y k k0 k1⟩
theorem kFx.r (h : kFx c c1) {t : Int} (r : kR (fun s => s = t) c1 c2) (ht : 44 ≤ t := by omega) : kFx c c2 := ⟨fun a j y => (r.2 a j (by omega) (by omega)).trans (h.1 a j y), fun s a b => (r.1 s (by omega) a).tr (h.2 s a b)⟩
theorem kFx.r2 (h : kFx c c1) {t t' : Int} (r : kR (fun s => s = t ∨ s = t') c1 c2) (ht : 44 ≤ t ∧ 44 ≤ t' := by omega) : kFx c c2 := ⟨fun a j y => (r.2 a j (by omega) (by omega)).trans (h.1 a j y), fun s a b => (r.1 s (by omega) a).tr (h.2 s a b)⟩
/-- the reference at a place of a text -/
def RPr (T : Int → Int) (n : Int) (L : KLt) (p : Int) (c : KMem) : Prop := c 558 23 = p ∧ (0 ≤ p ∧ p ≤ n ∧ n ≤ 120) ∧ c 558 24 = n ∧ (c 558 30 = 0 ∨ c 558 30 = 1) ∧ (∀ i : Int, 0 ≤ i → i < n → kand (c (570 + c 558 30) i) 255 = T i ∧ 0 ≤ T i ∧ T i ≤ 255) ∧ kI0 c ∧ kLq 559 192 564 12 L c
/-- what waits, and the forms that wait -/
def MS (W : List (Int × Int × Int)) (V : List KF) (c : KMem) : Prop := c 558 27 = (W.length : Int) ∧ c 558 28 = kOp W ∧ c 558 29 = (V.length : Int) ∧ kWl c W ∧ kVl c V
theorem RPr.fr (h : RPr T n L p c) (r : kFx c c') (e : c' 558 23 = q) (hq : 0 ≤ q ∧ q ≤ n := by omega) : RPr T n L q c' := by
  obtain ⟨e23, hp, e24, e30, ht, hi, hl⟩ := h
  have r30 := r.1 558 30 (by omega)
  refine ⟨e, by omega, (r.1 _ _ (by omega)).trans e24, by rw [r30]; exact e30, fun i a b => ?_, ⟨fun a b ha hb => (r.1 _ _ (by omega)).trans (hi.1 a b ha hb), (r.2 30 (by omega) (by omega)).tr hi.2⟩, ?_⟩
  · rw [r30, r.1 _ _ (by omega)]; exact ht i a b
  · obtain ⟨l1, l2, l3⟩ := hl
    refine ⟨fun l a b => by rw [r.1 _ _ (by omega)]; exact l1 l a b, fun l => by rw [l2 l, r.1 564 _ (by omega)], fun l y => ⟨?_, (l3 l y).2⟩⟩
    have hr := (l2 l).mp y
    refine kEq.tr (fun k k0 k1 => ?_) (l3 l y).1
    have := r.2 (12 + l) (by omega) (by omega) k k0 k1
    have e : (16 : Int) * (12 + l) + k = 192 + (16 * l + k) := by omega
    have this : c' 559 (16 * (12 + l) + k) = c 559 (16 * (12 + l) + k) := this
    rw [e] at this
    exact this
theorem RPr.kn (h : RPr T n L p c) (r : kN c c') (e : c' 558 23 = q) (hq : 0 ≤ q ∧ q ≤ n := by omega) : RPr T n L q c' := h.fr r.fx e hq
theorem MS.kn (h : MS W V c) (r : kN c c') : MS W V c' := by
  obtain ⟨a1, a2, a3, a4, a5⟩ := h
  exact ⟨(r _ _ (by omega)).trans a1, (r _ _ (by omega)).trans a2, (r _ _ (by omega)).trans a3, a4.fr (fun a i x _ _ => r a i (by omega)), a5.fr (fun s _ _ k k0 k1 => r 559 _ (by omega))⟩
theorem RPr.ch (h : RPr T n L p c) (i : Int) : -1 ≤ chO T n i ∧ chO T n i ≤ 255 := by
  unfold chO
  by_cases a : 0 ≤ i ∧ i < n
  · rw [if_pos a]; have := (h.2.2.2.2.1 i a.1 a.2).2; omega
  · rw [if_neg a]; omega
theorem RPr.k (h : RPr T n L p c) (i : Int) : k32 (chO T n i) := by have := h.ch i; exact k32i (by omega)
theorem RPr.bd (h : RPr T n L p c) : kBL L := fun l y => (h.2.2.2.2.2.2.2.2 l y).2
theorem RPr.nx (h : RPr T n L p c) (hp : p < n) : RPr T n L (p + 1) (kup c 558 23 (c 558 23 + 1)) := by
  have := h.2.1
  exact h.kn kN.rf.up (by rw [kup_s, h.1]) (by omega)
theorem t_here (hL : kLay S0) (h : RPr T n L p c) (k : P (some (kI (chO T n p))) c) : kC2 G S0 kM_X11_here d [kA 558] c P := by
  obtain ⟨e23, hp, e24, e30, ht, hl⟩ := h
  refine v_X11_here hL (by omega) ⟨by rw [e23]; exact k32i (by omega), by rw [e24]; exact k32i (by omega), fun y => ⟨by rcases e30 with w | w <;> rw [w] <;> exact k32i (by omega), fun z => ⟨by omega, ?_⟩, fun z => ⟨by omega, ?_⟩⟩, fun y => ?_⟩
  · have e : chO T n p = T p := if_pos (by omega)
    have et := (ht p (by omega) (by omega)).1
    rw [z] at et
    rw [e, ← et] at k
    rw [e23]; exact k
  · have e : chO T n p = T p := if_pos (by omega)
    have et := (ht p (by omega) (by omega)).1
    rw [show c 558 30 = 1 by omega] at et
    rw [e, ← et] at k
    rw [e23]; exact k
  · have e : chO T n p = -1 := if_neg (by omega)
    rw [e] at k; exact k
theorem t_wrongAt (hL : kLay S0) (r1 : k32 x1) (r2 : k32 x2) (k : ∀ c', kN c c' → c' 558 25 = -1000 * x1 - x2 → P (some (kI 0)) c') : kC2 G S0 kM_X11_wrongAt d [kA 558, kI x1, kI x2] c P :=
  v_X11_wrongAt hL r1 r2 (k _ kN.rf.up (kup_s _ _ _ _))
theorem t_isD (hL : kLay S0) (r : k32 z) (h1 : isD z → P (some (kI 1)) c) (h0 : ¬ isD z → P (some (kI 0)) c) : kC2 G S0 kM_X11_isDigit (d + 1) [kI z] c P :=
  v_X11_isDigit hL r ⟨h1, h0⟩
theorem t_takesSign (hL : kLay S0) (h : RPr T n L p c) (r : 0 ≤ x1 ∧ x1 ≤ 255) (h1 : chO T n p = x1 → ∀ c', kN c c' → c' 558 23 = p + 1 → p < n → P (some (kI 1)) c') (h0 : chO T n p ≠ x1 → ∀ c', kN c c' → c' 558 25 = -1000 - p → P (some (kI 0)) c') : kC2 G S0 kM_X11_takesSign (d + 1) [kA 558, kI x1] c P := by
  have e23 := h.1
  have hs := h.2.1
  refine v_X11_takesSign hL (by omega) (t_here hL h ⟨_, rfl, h.k p, fun y => ?_, fun y => ?_⟩)
  · have hin := chO_in (T := T) (n := n) (p := p) (by omega)
    exact h1 y _ kN.rf.up (by rw [kup_s, e23]) hin.2
  · exact t_wrongAt hL (k32i (by omega)) (by rw [e23]; exact k32i (by omega)) (fun c2 r2 e2 => ⟨_, rfl, Or.inl rfl, h0 y c2 r2 (by rw [e2, e23]; omega)⟩)
theorem t_readsNumber (hL : kLay S0) (r1 : k32 x1) (h : RPr T n L p c) (h1 : ∀ v q c', rdM (chO T n) x1 p = .inl (v, q) → kN c c' → c' 558 23 = q → c' 558 26 = v → P (some (kI 1)) c') (h0 : ∀ v c', rdM (chO T n) x1 p = .inr v → kN c c' → c' 558 25 = v → P (some (kI 0)) c') : kC2 G S0 kM_X11_readsNumber (d + 2) [kA 558, kI x1] c P := by
  have hp := h.2.1
  have e23 := h.1
  have fin : ∀ v q c', RPr T n L q c' → rdN (chO T n) p = .inl (v, q) → kN c c' → c' 558 26 = v → (k32 (c' 558 26)) ∧ (((c' 558 26) ≤ x1 → P (some (kI 1)) c') ∧ (x1 < (c' 558 26) → kC2 G S0 kM_X11_wrongAt (d + 1) [kA 558, kI 3, kI p] c' (kRI (fun z18 c19 => (k32 z18) ∧ ((z18 = 0 → P (some (kI 0)) c19) ∧ (z18 ≠ 0 → P (some (kI 1)) c19)))))) := by
    intro v q c' hs e fr ev
    have hv := rdN_ok e
    have em : rdM (chO T n) x1 p = if v ≤ x1 then .inl (v, q) else .inr (-3000 - p) := by unfold rdM; rw [e]
    refine ⟨by rw [ev]; exact k32i (by omega), fun w => ?_, fun w => ?_⟩
    · rw [ev] at w
      rw [if_pos w] at em
      exact h1 _ _ _ em fr hs.1 ev
    · rw [ev] at w
      rw [if_neg (by omega)] at em
      exact t_wrongAt hL (k32i (by omega)) (k32i (by omega)) (fun c2 r2 e2 => ⟨_, rfl, kr0 (h0 _ c2 em (fr.tr r2) (by rw [e2]; omega))⟩)
  have loop : ∀ m k : Nat, k + m = 4 → ∀ v c', RPr T n L (p + k) c' → kN c c' → c' 558 26 = v → 0 ≤ v → rdN (chO T n) p = rdD (chO T n) m v (p + k) → kW2 G S0 kM_X11_readsNumber (d + 2) 30 [some (kA 558), some (kI x1), some (kI p)] [] c' P := by
    intro m
    induction m with
    | zero =>
      intro k hk v c' hs fr ev v0 e
      have f23 := hs.1
      unfold rdD at e
      refine v_X11_readsNumber_30 hL r1 (k32i (by omega)) (by omega) (t_here hL hs ⟨_, rfl, t_isD hL (hs.k _) (fun y => ⟨_, rfl, kr1 ?_⟩) (fun y => ⟨_, rfl, kr0 ?_⟩)⟩)
      · rw [if_pos y] at e
        have em : rdM (chO T n) x1 p = .inr (-2000 - (p + k)) := by unfold rdM; rw [e]
        refine ⟨by rw [f23]; exact k32i (by omega), fun w => by omega, fun _ => ?_⟩
        exact t_wrongAt hL (k32i (by omega)) (by rw [f23]; exact k32i (by omega)) (fun c2 r2 e2 => ⟨_, rfl, Or.inl rfl, h0 _ c2 em (fr.tr r2) (by rw [e2, f23]; omega)⟩)
      · rw [if_neg y] at e
        exact fin v (p + k) c' hs e fr ev
    | succ m ih =>
      intro k hk v c' hs fr ev v0 e
      have f23 := hs.1
      unfold rdD at e
      refine v_X11_readsNumber_30 hL r1 (k32i (by omega)) (by omega) (t_here hL hs ⟨_, rfl, t_isD hL (hs.k _) (fun y => ⟨_, rfl, kr1 ?_⟩) (fun y => ⟨_, rfl, kr0 ?_⟩)⟩)
      · rw [if_pos y] at e
        have hin := chO_in (T := T) (n := n) (p := p + k) (by unfold isD at y; omega)
        refine ⟨by rw [f23]; exact k32i (by omega), fun _ => ?_, fun w => by omega⟩
        refine t_here hL hs ⟨_, rfl, ?_⟩
        dsimp only
        rw [f23, ev]
        refine ih (k + 1) (by omega) (10 * v + chO T n (p + k) - 48) _ (hs.kn kN.rf.up.up (by rw [kup_s]; omega) (by omega)) fr.up.up (by rw [kup_n (Or.inr (by decide)), kup_s]) (by unfold isD at y; omega) (by rw [e]; congr 1; omega)
      · rw [if_neg y] at e
        exact fin v (p + k) c' hs e fr ev
  refine v_X11_readsNumber hL r1 (t_here hL h ⟨_, rfl, t_isD hL (h.k _) (fun y => ⟨_, rfl, kq1 ?_⟩) (fun y => ⟨_, rfl, kq0 ?_⟩)⟩)
  · have e : rdN (chO T n) p = rdD (chO T n) 4 0 (p + ((0 : Nat) : Int)) := by unfold rdN; rw [if_pos y]; congr 1; omega
    rw [e23]
    exact loop 4 0 (by omega) 0 _ (h.kn kN.rf.up (by rw [kup_n (Or.inr (by decide)), e23]; omega) (by omega)) kN.rf.up (kup_s _ _ _ _) (by omega) e
  · have e : rdN (chO T n) p = .inr (-1000 - p) := by unfold rdN; rw [if_neg y]
    have em : rdM (chO T n) x1 p = .inr (-1000 - p) := by unfold rdM; rw [e]
    exact t_wrongAt hL (k32i (by omega)) (by rw [e23]; exact k32i (by omega)) (fun c2 r2 e2 => ⟨_, rfl, Or.inl rfl, h0 _ c2 em r2 (by rw [e2, e23]; omega)⟩)
theorem t_readsWhere (hL : kLay S0) (h : RPr T n L p c) (h1 : ∀ v q c', rdW (chO T n) p = .inl (v, q) → kN c c' → c' 558 23 = q → c' 558 26 = v → P (some (kI 1)) c') (h0 : ∀ v c', rdW (chO T n) p = .inr v → kN c c' → c' 558 25 = v → P (some (kI 0)) c') : kC2 G S0 kM_X11_readsWhere (d + 3) [kA 558] c P := by
  have hp := h.2.1
  have e23 := h.1
  refine v_X11_readsWhere hL (t_here hL h ⟨_, rfl, h.k p, fun y => ?_, fun y => ?_⟩)
  · have ew : rdW (chO T n) p = rdM (chO T n) 99 p := if_neg y
    refine t_readsNumber hL (k32i (by omega)) h (fun v q c' e r e1 e2 => ⟨_, rfl, kq1 (h1 _ _ _ (ew.trans e) r e1 e2)⟩) (fun v c' e r e1 => ⟨_, rfl, kq0 (h0 _ _ (ew.trans e) r e1)⟩)
  · have hin := chO_in (T := T) (n := n) (p := p) (by omega)
    refine t_readsNumber hL (k32i (by omega)) (h.nx hin.2) (fun v q c' e r e1 e2 => ⟨_, rfl, kq1 (h1 (-v) q _ ?_ (kN.rf.up.tr r).up ?_ ?_)⟩) (fun v c' e r e1 => ⟨_, rfl, kq0 (h0 v _ ?_ (kN.rf.up.tr r) e1)⟩)
    · unfold rdW; rw [if_pos y, e]
    · rw [kup_n (Or.inr (by decide))]; exact e1
    · rw [kup_s, e2]
    · unfold rdW; rw [if_pos y, e]
end RR
