/-- what drafts may change in the reference -/
def kDx (c c' : KMem) : Prop := (∀ a i : Int, ¬ (a = 559 ∨ a = 560 ∨ a = 572 ∨ a = 573 ∨ a = 574 ∨ (a = 558 ∧ 23 ≤ i ∧ i ≤ 30) ∨ (a = 564 ∧ 12 ≤ i ∧ i < 24)) → c' a i = c a i) ∧ ∀ s : Int, 0 ≤ s → (s < 12 ∨ 24 ≤ s ∧ s < 44) → kEq (kF c' s) (kF c s)
section RR
variable {G : KG} {S0 : KSh} {d : Nat} {P : Option AV → KMem → Prop} {c c' c0 c1 c2 : KMem} {T : Int → Int} {n p q : Int} {L L' : KLt} {g f a : KF} {x1 x2 x3 i v x z : Int}
theorem kDx.rf : kDx c c := ⟨fun _ _ _ => rfl, fun _ _ _ => kEq.rf⟩
theorem kDx.tr (h : kDx c c1) (r : kDx c1 c2) : kDx c c2 := ⟨fun a i x => (r.1 a i x).trans (h.1 a i x), fun s x y => (r.2 s x y).tr (h.2 s x y)⟩
theorem kFx.dx (h : kFx c c') : kDx c c' := ⟨fun a i x => h.1 a i (by omega), fun s x y => h.2 s x (by omega)⟩
theorem kDx.up (h : kDx c c1) {a : Int} (ha : (a = 558 ∧ 23 ≤ i ∧ i ≤ 30) ∨ (a = 564 ∧ 12 ≤ i ∧ i < 24) := by omega) : kDx c (kup c1 a i v) := ⟨fun b j x => (kup_n (by omega)).trans (h.1 b j x), fun s x y k k0 k1 => by
  show kup c1 a i v 559 _ = _
  rw [kup_n (Or.inl (by omega))]; exact h.2 s x y k k0 k1⟩
theorem kDx.r (h : kDx c c1) {t : Int} (r : kR (fun s => s = t) c1 c2) (ht : 12 ≤ t ∧ (t < 24 ∨ 44 ≤ t) := by omega) : kDx c c2 := ⟨fun a j y => (r.2 a j (by omega) (by omega)).trans (h.1 a j y), fun s a b => (r.1 s (by omega) a).tr (h.2 s a b)⟩
theorem t_readsE (hL : kLay S0) (h : RPr T n L p c) (a : KF) (h1 : ∀ g q c', rd (chO T n) L 400 3 a 0 p = .inl (g, q) → chO T n q ≠ 41 → RPr T n L q c' → kFx c c' → kEq (kF c' 44) g → kB kLB g → P (some (kI 1)) c') (h0 : ∀ v c', (rd (chO T n) L 400 3 a 0 p = .inr v ∨ ∃ g q, rd (chO T n) L 400 3 a 0 p = .inl (g, q) ∧ chO T n q = 41 ∧ v = -1000 - q) → kFx c c' → c' 558 25 = v → P (some (kI 0)) c') : kC2 G S0 kM_X11_readsE (d + 7) [kA 558] c P := by
  have hs0 := h.2.1
  have fx : kFx c (kup (kup (kup c 558 27 0) 558 28 0) 558 29 0) := kFx.rf.up.up.up
  have hs : RPr T n L p (kup (kup (kup c 558 27 0) 558 28 0) 558 29 0) := h.fr fx (by rw [kup_n (Or.inr (by decide)), kup_n (Or.inr (by decide)), kup_n (Or.inr (by decide))]; exact h.1)
  have hm : MS [] [] (kup (kup (kup c 558 27 0) 558 28 0) 558 29 0) := ⟨by rw [kup_n (Or.inr (by decide)), kup_n (Or.inr (by decide)), kup_s]; rfl, by rw [kup_n (Or.inr (by decide)), kup_s]; rfl, by rw [kup_s]; rfl, trivial, trivial⟩
  refine v_X11_readsE hL (v_X11_readsF hL ?_)
  refine (r_all hL 400).2.2.2.1 p [] [] _ d P a hs hm (Or.inl rfl) (by decide) (by decide) (by decide) (by omega) (fun g q c1 er hq a1 f1 m1 => ?_) (fun v c1 er f1 e1 => h0 v c1 (Or.inl er) (fx.tr f1) e1)
  have hg := rd_ok h.bd _ _ _ _ _ _ _ (by omega) (fun z => by omega) er
  have e23 := a1.1
  have hs1 := a1.2.1
  refine v_X11_readsE_78 hL (a1.k q) ⟨fun y41 => ⟨fun z5 => absurd (Or.inl z5) hq, fun _ => ⟨fun z5 => absurd (Or.inr z5) hq, fun _ => ⟨?_, fun z5 => ?_, fun z5 => ?_⟩⟩⟩, fun y41 => ?_⟩
  · rw [m1.2.1]; exact k32i (by decide)
  · exact h1 g q c1 er y41 a1 (fx.tr f1) m1.2.2.2.2.1.1 m1.2.2.2.2.1.2
  · exact absurd m1.2.1 z5
  · refine v_X11_closes hL (t_upper hL m1 (by decide) ⟨_, rfl, k32i (by decide), fun z5 => absurd z5 (by decide), fun _ => ?_⟩)
    exact t_wrongAt hL (k32i (by omega)) (by rw [e23]; exact k32i (by omega)) (fun c3 r3 e3 => ⟨_, rfl, Or.inl rfl, _, rfl, kq0 (h0 (-1000 - q) c3 (Or.inr ⟨g, q, er, y41, rfl⟩) ((fx.tr f1).tr r3.fx) (by rw [e3, e23]; omega))⟩)
theorem kLq.dput {l : Int} (h : kLq 559 192 564 12 L c) (r : 0 ≤ l ∧ l < 12) (e1 : kEq (kF c' (12 + l)) f) (hb : kB kLB f) (e2 : ∀ s : Int, s ≠ 12 + l → 12 ≤ s → s < 24 → kEq (kF c' s) (kF c s)) (e3 : c' 564 (12 + l) = 1) (e4 : ∀ i : Int, i ≠ 12 + l → 12 ≤ i → i < 24 → c' 564 i = c 564 i) : kLq 559 192 564 12 (hSet L.1 l true, kU L.2 l f) c' := by
  have sh : ∀ (m : KMem) (i k : Int), m 559 (192 + (16 * i + k)) = kF m (12 + i) k := fun m i k => by
    show _ = m 559 (16 * (12 + i) + k)
    rw [show (192 : Int) + (16 * i + k) = 16 * (12 + i) + k by omega]
  refine ⟨fun i a b => ?_, fun i => ?_, fun i q => ?_⟩
  · by_cases w : i = l
    · rw [w]; exact Or.inr e3
    · rw [e4 _ (by omega) (by omega) (by omega)]; exact h.1 i a b
  · show hSet L.1 l true i = true ↔ _
    unfold hSet
    by_cases w : i = l
    · rw [if_pos w, w]; exact ⟨fun _ => ⟨r.1, r.2, e3⟩, fun _ => rfl⟩
    · rw [if_neg w, h.2.1 i]
      constructor
      · rintro ⟨a, b, e⟩; exact ⟨a, b, by rw [e4 _ (by omega) (by omega) (by omega)]; exact e⟩
      · rintro ⟨a, b, e⟩; exact ⟨a, b, by rw [e4 _ (by omega) (by omega) (by omega)] at e; exact e⟩
  · have q' : hSet L.1 l true i = true := q
    unfold hSet at q'
    show kEq _ (if i = l then f else L.2 i) ∧ kB kLB (if i = l then f else L.2 i)
    by_cases w : i = l
    · rw [if_pos w, w]
      exact ⟨fun k a b => (sh c' l k).trans (e1 k a b), hb⟩
    · rw [if_neg w]; rw [if_neg w] at q'
      have hr := (h.2.1 i).mp q'
      refine ⟨fun k a b => ?_, (h.2.2 i q').2⟩
      refine (sh c' i k).trans ((e2 (12 + i) (by omega) (by omega) (by omega) k a b).trans ?_)
      exact (sh c i k).symm.trans ((h.2.2 i q').1 k a b)
theorem t_step (hL : kLay S0) (h : RPr T n L p c) (rx : 0 ≤ x1 ∧ x1 < 12)
    (h1 : ∀ g q c', (65 ≤ chO T n p ∧ chO T n p ≤ 76) → chO T n (p + 1) = 61 → rd (chO T n) L 400 3 (fun _ => 0) 0 (p + 2) = .inl (g, q) → chO T n q ≠ 41 → RPr T n (hSet L.1 (chO T n p - 65) true, kU L.2 (chO T n p - 65) g) q c' → kDx c c' → P (some (kI 1)) c')
    (h0 : ∀ v c', (∀ j s, rdS T n (j + 1) s L p = .inr v) → kDx c c' → c' 558 25 = v → P (some (kI 0)) c') : kC2 G S0 kM_X11_readsStep (d + 8) [kA 558, kI x1] c P := by
  have e23 := h.1
  have hs0 := h.2.1
  refine v_X11_readsStep hL (k32i (by omega)) ⟨fun _ => t_here hL h ⟨_, rfl, h.k p, fun y => ?_, fun y => ?_⟩, fun z => by omega⟩
  · have hin := chO_in (T := T) (n := n) (p := p) (by omega)
    have hx := h.nx hin.2
    have fx : kFx c (kup c 558 23 (c 558 23 + 1)) := kFx.rf.up
    refine t_here hL h ⟨_, rfl, ?_⟩
    refine t_takesSign hL hx (by omega) (fun y2 c1 r1 e1 q1 => ⟨_, rfl, kr1 ?_⟩) (fun y2 c1 r1 e1 => ⟨_, rfl, kr0 (h0 (-1000 - (p + 1)) c1 ?_ (fx.tr r1.fx).dx e1)⟩)
    · have hy : RPr T n L (p + 2) c1 := hx.kn r1 (by rw [e1]; omega) (by omega)
      refine t_readsE hL hy (fun _ => 0) (fun g q c2 er hq a2 f2 eg bg => ⟨_, rfl, kq1 ?_⟩) (fun v c2 er f2 e2 => ⟨_, rfl, kq0 (h0 v c2 ?_ ((fx.tr r1.fx).tr f2).dx e2)⟩)
      · refine s_X11_copies hL (by omega) (fun c3 q3 r3 _ => ⟨rfl, by omega, ?_⟩)
        have hg := rd_ok h.bd _ _ _ _ _ _ _ (by omega) (fun z => by omega) er
        have e3 : ∀ b i : Int, b ≠ 559 → b ≠ 560 → ¬ (b = 564 ∧ i = 12 + (chO T n p - 65)) → kup c3 564 (12 + (chO T n p - 65)) 1 b i = c2 b i := fun b i x y w => (kup_n (by omega)).trans (r3.2 b i x y)
        have eF : ∀ s : Int, kEq (kF (kup c3 564 (12 + (chO T n p - 65)) 1) s) (kF c3 s) := fun s k _ _ => kup_n (Or.inl (by decide))
        have hs2 := a2.2.1
        obtain ⟨b1, b2, b3, b4, b5, b6, b7⟩ := a2
        have e30 := e3 558 30 (by decide) (by decide) (by omega)
        refine h1 g q _ y y2 er hq ⟨?_, by omega, ?_, ?_, ?_, ⟨?_, ?_⟩, ?_⟩ ?_
        · rw [e3 _ _ (by decide) (by decide) (by omega)]; exact b1
        · rw [e3 _ _ (by decide) (by decide) (by omega)]; exact b3
        · rw [e30]; exact b4
        · intro i i0 i1
          rw [e30, e3 _ _ (by omega) (by omega) (by omega)]; exact b5 i i0 i1
        · exact fun s t x y => (e3 _ _ (by decide) (by decide) (by omega)).trans (b6.1 s t x y)
        · exact ((eF 30).tr (r3.1 30 (by omega) (by omega))).tr b6.2
        · refine b7.dput (l := chO T n p - 65) (by omega) ((eF _).tr (q3.tr eg)) bg (fun s x y z => (eF s).tr (r3.1 s x (by omega))) (kup_s _ _ _ _) (fun i x y z => e3 _ _ (by decide) (by decide) (by omega))
        · exact ((((fx.tr r1.fx).tr f2).dx).r r3).up
      · intro j s
        rw [rdS, if_pos y, if_pos y2]
        rcases er with e | ⟨g, q, e, hq, hv⟩
        · rw [e]
        · have hin := chO_in (T := T) (n := n) (p := q) (by omega)
          rw [e]
          show (if n ≤ q then _ else _) = _
          rw [if_neg (by omega), if_neg (by omega), hv]
    · intro j s
      rw [rdS, if_pos y, if_neg y2]
  · refine t_wrongAt hL (k32i (by omega)) (by rw [e23]; exact k32i (by omega)) (fun c2 r2 e2 => ⟨_, rfl, Or.inl rfl, h0 (-1000 - p) c2 (fun j s => ?_) r2.fx.dx (by rw [e2, e23]; omega)⟩)
    rw [rdS, if_neg y]
end RR
