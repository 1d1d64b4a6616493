/-- X, drawn -/
def lcg (x : Int) : Int := (25173 * x + 13849) % 65536
theorem lcg_rg (x : Int) : 0 ≤ lcg x ∧ lcg x ≤ 65535 := by unfold lcg; omega
def drwN : Nat → KLt × Int → KLt × Int
  | 0, s => s
  | k + 1, s => ((hSet (drwN k s).1.1 k true, kU (drwN k s).1.2 k (plcP (lcg (drwN k s).2 % 21 - 10) (lcg (lcg (drwN k s).2) % 21 - 10))), lcg (lcg (drwN k s).2))
/-- the first of some letters whose kind isn't told -/
def chK (L : KLt) (k : Int) : Int := if L.1 k = true then kind (L.2 k) else 255
def chF (L : KLt) (T : KTp) (n : Nat) : Nat → Int
  | 0 => -1
  | j + 1 => if T.2 ((n : Int) - (j + 1)) = chK L ((n : Int) - (j + 1)) then chF L T n j else (n : Int) - (j + 1)
theorem chF_rg (L : KLt) (T : KTp) (n : Nat) : ∀ j, j ≤ n → -1 ≤ chF L T n j ∧ chF L T n j ≤ n
  | 0, _ => by show -1 ≤ (-1 : Int) ∧ (-1 : Int) ≤ n; omega
  | j + 1, h => by
    have := chF_rg L T n j (by omega)
    have e : chF L T n (j + 1) = if T.2 ((n : Int) - (j + 1)) = chK L ((n : Int) - (j + 1)) then chF L T n j else (n : Int) - (j + 1) := rfl
    rw [e]
    by_cases q : T.2 ((n : Int) - (j + 1)) = chK L ((n : Int) - (j + 1))
    · rw [if_pos q]; exact this
    · rw [if_neg q]; omega
theorem kLq.put {L : KLt} {c c' : KMem} {l : Int} {f : KF} (h : kLq 559 0 564 0 L c) (r : 0 ≤ l ∧ l < 12) (e1 : kEq (kF c' l) f) (hb : kB kLB f) (e2 : ∀ s : Int, s ≠ l → 0 ≤ s → kEq (kF c' s) (kF c s)) (e3 : c' 564 l = 1) (e4 : ∀ i : Int, i ≠ l → 0 ≤ i → i < 12 → c' 564 i = c 564 i) : kLq 559 0 564 0 (hSet L.1 l true, kU L.2 l f) c' := by
  refine ⟨fun i a b => ?_, fun i => ?_, fun i q => ?_⟩
  · rw [Int.zero_add]
    by_cases w : i = l
    · rw [w]; exact Or.inr e3
    · rw [e4 i w a b]; have := h.1 i a b; rw [Int.zero_add] at this; exact this
  · rw [Int.zero_add]
    show hSet L.1 l true i = true ↔ _
    unfold hSet
    by_cases w : i = l
    · rw [if_pos w, w]; exact ⟨fun _ => ⟨r.1, r.2, e3⟩, fun _ => rfl⟩
    · rw [if_neg w]
      have := h.2.1 i
      rw [Int.zero_add] at this
      rw [this]
      constructor
      · rintro ⟨a, b, e⟩; exact ⟨a, b, by rw [e4 i w a b]; exact e⟩
      · rintro ⟨a, b, e⟩; exact ⟨a, b, by rw [e4 i w a b] at e; exact e⟩
  · have q' : hSet L.1 l true i = true := q
    unfold hSet at q'
    show kEq _ (if i = l then f else L.2 i) ∧ kB kLB (if i = l then f else L.2 i)
    by_cases w : i = l
    · rw [if_pos w, w]
      refine ⟨fun k a b => ?_, hb⟩
      show c' 559 (0 + (16 * l + k)) = _
      rw [Int.zero_add]; exact e1 k a b
    · rw [if_neg w]; rw [if_neg w] at q'
      have hr := h.rg q'
      refine ⟨fun k a b => ?_, (h.2.2 i q').2⟩
      show c' 559 (0 + (16 * i + k)) = _
      rw [Int.zero_add]
      have h1 : c 559 (0 + (16 * i + k)) = L.2 i k := (h.2.2 i q').1 k a b
      rw [Int.zero_add] at h1
      exact (e2 i w hr.1 k a b).trans h1
theorem kLq.off {L : KLt} {c : KMem} {l : Int} (h : kLq 559 0 564 0 L c) (r : 0 ≤ l ∧ l < 12) : kLq 559 0 564 0 (hSet L.1 l false, L.2) (kup c 564 l 0) := by
  refine ⟨fun i a b => ?_, fun i => ?_, fun i q => ?_⟩
  · rw [Int.zero_add]
    by_cases w : i = l
    · rw [w, kup_s]; exact Or.inl rfl
    · rw [kup_n (Or.inr w)]; have := h.1 i a b; rw [Int.zero_add] at this; exact this
  · rw [Int.zero_add]
    show hSet L.1 l false i = true ↔ _
    unfold hSet
    by_cases w : i = l
    · rw [if_pos w, w, kup_s]; exact ⟨fun q => absurd q (by decide), fun q => by omega⟩
    · rw [if_neg w, kup_n (Or.inr w)]
      have := h.2.1 i
      rw [Int.zero_add] at this
      exact this
  · have q' : hSet L.1 l false i = true := q
    unfold hSet at q'
    by_cases w : i = l
    · rw [if_pos w] at q'; cases q'
    · rw [if_neg w] at q'
      refine ⟨fun k a b => ?_, (h.2.2 i q').2⟩
      show kup c 564 l 0 559 _ = _
      rw [kup_n (Or.inl (by decide))]; exact (h.2.2 i q').1 k a b
section RS
variable {G : KG} {S0 : KSh} {d : Nat} {P : Option AV → KMem → Prop} {c c0 : KMem} {L : KLt} {T B : KTp} {x : Int} {K : Bool × KLt × Int} {Q : List KLt} {x0 x1 x2 x3 x4 x5 : Int}
theorem t_drawn (hL : kLay S0) (h12 : c 558 12 = x ∧ 0 ≤ x ∧ x ≤ 65535) (h : P (some (kI (lcg x % 21 - 10))) (kup c 558 12 (lcg x))) : kC2 G S0 kM_X11_drawn d [kA 558] c P := by
  have e1 : Int.tmod (25173 * x + 13849) 65536 = lcg x := by rw [Int.tmod_eq_emod_of_nonneg (by omega)]; rfl
  have hr := lcg_rg x
  have e2 : Int.tmod (lcg x) 21 = lcg x % 21 := Int.tmod_eq_emod_of_nonneg hr.1
  refine v_X11_drawn hL (by omega) ?_
  rw [h12.1, e1, e2]
  exact ⟨k32i (by omega), h⟩
theorem t_drawsPlaces (hL : kLay S0) (hs : RAl L T B x K Q c) {n : Nat} (hn : n ≤ 6) (h : ∀ c', RAl (drwN n (L, x)).1 T B (drwN n (L, x)).2 K Q c' → (∀ a i : Int, ¬ (a = 559 ∨ a = 560 ∨ a = 564 ∨ (a = 558 ∧ i = 12)) → c' a i = c a i) → (∀ s : Int, 12 ≤ s → kEq (kF c' s) (kF c s)) → P none c') : kC2 G S0 kM_X11_drawsPlaces (d + 2) [kA 558, kI (n : Int)] c P := by
  have loop : ∀ m k : Nat, k + m = n → ∀ c', RAl (drwN k (L, x)).1 T B (drwN k (L, x)).2 K Q c' → (∀ a i : Int, ¬ (a = 559 ∨ a = 560 ∨ a = 564 ∨ (a = 558 ∧ i = 12)) → c' a i = c a i) → (∀ s : Int, 12 ≤ s → kEq (kF c' s) (kF c s)) → kW2 G S0 kM_X11_drawsPlaces (d + 2) 2 [some (kA 558), some (kI (n : Int)), some (kI (k : Int)), none] [] c' P := by
    intro m
    induction m with
    | zero =>
      intro k hk c' s1 e1 e2
      obtain rfl : k = n := by omega
      exact v_X11_drawsPlaces_2 hL (by omega) (by omega) (by omega) ⟨fun _ => h _ s1 e1 e2, fun q => by omega⟩
    | succ m ih =>
      intro k hk c' s1 e1 e2
      have hx := s1.2.2.2.2.1
      have hr := lcg_rg (drwN k (L, x)).2
      have hr2 := lcg_rg (lcg (drwN k (L, x)).2)
      refine v_X11_drawsPlaces_2 hL (by omega) (by omega) (by omega) ⟨fun q => by omega, fun _ => ?_⟩
      refine t_drawn hL hx ⟨_, rfl, k32i (by omega), ?_⟩
      have hx1 : (kup c' 558 12 (lcg (drwN k (L, x)).2)) 558 12 = lcg (drwN k (L, x)).2 ∧ 0 ≤ lcg (drwN k (L, x)).2 ∧ lcg (drwN k (L, x)).2 ≤ 65535 := ⟨kup_s _ _ _ _, hr⟩
      refine t_drawn hL hx1 ⟨_, rfl, k32i (by omega), ?_⟩
      refine s_X11_laysPlace hL (by omega) (fun c4 q1 q2 => ⟨rfl, ?_⟩)
      have ef : ∀ a i : Int, ¬ (a = 559 ∨ a = 560 ∨ a = 564 ∨ (a = 558 ∧ i = 12)) → (kup c4 564 k 1) a i = c' a i := fun a i z => by
        rw [kup_n (by omega), q2.2 a i (by omega) (by omega), kup_n (by omega), kup_n (by omega)]
      have es : ∀ s : Int, s ≠ k → 0 ≤ s → kEq (kF (kup c4 564 k 1) s) (kF c' s) := fun s hs0 hs1 j j0 j1 => by
        show kup c4 564 k 1 559 _ = _
        rw [kup_n (Or.inl (by decide))]
        have := q2.1 s hs0 hs1 j j0 j1
        show c4 559 (16 * s + j) = c' 559 (16 * s + j)
        have e9 : c4 559 (16 * s + j) = kup (kup c' 558 12 (lcg (drwN k (L, x)).2)) 558 12 (lcg (lcg (drwN k (L, x)).2)) 559 (16 * s + j) := this
        rw [e9, kup_n (Or.inl (by decide)), kup_n (Or.inl (by decide))]
      refine ih (k + 1) (by omega) _ ?_ (fun a i z => (ef a i z).trans (e1 a i z)) (fun s hs0 => (es s (by omega) (by omega)).tr (e2 s hs0))
      refine s1.ltr (fun a i z1 z2 z3 => ef a i (by omega)) ?_ ?_ ?_
      · refine ⟨fun a b ha hb => (ef _ _ (by omega)).trans (s1.1.1 a b ha hb), (es 30 (by omega) (by omega)).tr s1.1.2⟩
      · refine s1.2.1.put (by omega) ?_ (plcP_bd (by omega) (by omega)) es (kup_s _ _ _ _) (fun i hi _ _ => ?_)
        · intro j j0 j1
          show kup c4 564 k 1 559 _ = _
          rw [kup_n (Or.inl (by decide))]
          exact q1 j j0 j1
        · rw [kup_n (Or.inr hi), q2.2 564 i (by decide) (by decide), kup_n (Or.inl (by decide)), kup_n (Or.inl (by decide))]
      · refine ⟨?_, hr2⟩
        rw [kup_n (Or.inl (by decide)), q2.2 558 12 (by decide) (by decide), kup_s]; rfl
  exact v_X11_drawsPlaces hL (by omega) (by omega) (loop n 0 (by omega) c hs (fun _ _ _ => rfl) (fun _ _ => kEq.rf))
theorem s_X11_draws (hL : kLay S0) (r1 : k32 x1) (hs : RAl L T B x K Q c) (h1 : (1 ≤ x1 ∧ x1 ≤ 6) → ∀ c', RAl (drwN x1.toNat (L, x)).1 T B (drwN x1.toNat (L, x)).2 K ((L :: Q).take 8) c' → kLo c c' → P (some (kI (kHn (drwN x1.toNat (L, x)).1.1 12 : Int))) c') (h0 : ¬ (1 ≤ x1 ∧ x1 ≤ 6) → P (some (kI (-1))) c) : kC2 G S0 kM_X11_draws (d + 3) [kA 558, kI x1] c P := by
  refine v_X11_draws hL r1 ⟨fun q => ?_, h0⟩
  obtain ⟨n, rfl⟩ := kint_nat (z := x1) (by omega)
  rw [show ((n : Int)).toNat = n by omega] at h1
  refine t_remembers hL hs (fun c1 s1 e1 => ⟨rfl, ?_⟩)
  refine t_drawsPlaces hL s1 (by omega) (fun c2 s2 e2 _ => ⟨rfl, ?_⟩)
  exact s_X11_standing hL s2.rs ⟨_, rfl, h1 q _ s2 (fun a i z => (e2 a i (by omega)).trans (e1 a i (by omega)))⟩
theorem s_X11_drop (hL : kLay S0) (r1 : k32 x1) (hs : RAl L T B x K Q c) (h1 : L.1 x1 = true → ∀ c', RAl (hSet L.1 x1 false, L.2) T B x K ((L :: Q).take 8) c' → kLo c c' → P (some (kI 1)) c') (h0 : ¬ L.1 x1 = true → P (some (kI 0)) c) : kC2 G S0 kM_X11_drop (d + 2) [kA 558, kI x1] c P := by
  have hr := hs.rs
  refine v_X11_drop hL r1 ⟨hr.2.1, fun q => ?_, fun q => h0 (fun w => q ((hr.2.2.1 x1).mp w))⟩
  refine t_remembers hL hs (fun c1 s1 e1 => ⟨rfl, ?_⟩)
  refine h1 ((hr.2.2.1 x1).mpr q) _ ?_ (fun a i z => (kup_n (Or.inl (by omega))).trans (e1 a i (by omega)))
  refine s1.ltr (fun a i z1 z2 z3 => kup_n (Or.inl (by omega))) ⟨fun a b ha hb => (kup_n (Or.inl (by decide))).trans (s1.1.1 a b ha hb), fun k k0 k1 => (kup_n (Or.inl (by decide))).trans (s1.1.2 k k0 k1)⟩ (s1.2.1.off ⟨q.1, q.2.1⟩) ⟨(kup_n (Or.inl (by decide))).trans s1.2.2.2.2.1.1, s1.2.2.2.2.1.2⟩
theorem s_X11_check (hL : kLay S0) (r1 : k32 x1) (hs : RAl L T B x K Q c) (h1 : (0 ≤ x1 ∧ x1 ≤ 12) ∧ x1 ≤ T.1 → ∀ c', RAl L (0, T.2) B x K Q c' → kLo c c' → P (some (kI (chF L T x1.toNat x1.toNat))) c') (h0 : ¬ ((0 ≤ x1 ∧ x1 ≤ 12) ∧ x1 ≤ T.1) → P (some (kI (-2))) c) : kC2 G S0 kM_X11_check (d + 5) [kA 558, kI x1] c P := by
  have b1 := hs.2.2.1.1
  have b2 := hs.2.2.1.2.1
  have bT := hs.2.2.1.2.2
  refine v_X11_check hL r1 (by omega) ⟨fun q => ⟨fun w => ?_, fun w => h0 (fun z => by omega)⟩, fun q => h0 (fun z => q z.1)⟩
  obtain ⟨n, rfl⟩ := kint_nat q.1
  rw [show ((n : Int)).toNat = n by omega] at h1
  have loop : ∀ m j : Nat, j + m = n → ∀ c', RAl L T B x K Q c' → kLo c c' → kW2 G S0 kM_X11_check (d + 5) 27 [some (kA 558), none, some (kI (chF L T n j)), some (kI ((n : Int) - (j + 1)))] [] c' P := by
    intro m
    induction m with
    | zero =>
      intro j hj c' s1 l1
      obtain rfl : j = n := by omega
      have hrg := chF_rg L T j j (by omega)
      refine v_X11_check_27 hL (by omega) (by omega) (by omega) ⟨fun _ => h1 ⟨q, by omega⟩ _ ?_ (l1.up (by omega)), fun z => by omega⟩
      exact s1.tp (fun a i z => kup_n (by omega)) ⟨kup_s _ _ _ _, Nat.zero_le _, fun i a b => by have b' : i < ((0 : Nat) : Int) := b; omega⟩
    | succ m ih =>
      intro j hj c' s1 l1
      have hrg := chF_rg L T n j (by omega)
      have hr := s1.rs
      have ed : chF L T n (j + 1) = if T.2 ((n : Int) - (j + 1)) = chK L ((n : Int) - (j + 1)) then chF L T n j else (n : Int) - (j + 1) := rfl
      have ek : kand (c' 570 ((n : Int) - (j + 1))) 255 = T.2 ((n : Int) - (j + 1)) := ((s1.2.2.1.2.2) _ (by omega) (by omega)).1
      have nx : ∀ (c2 : KMem) (v : Int), RAl L T B x K Q c2 → kLo c c2 → v = chF L T n (j + 1) → kW2 G S0 kM_X11_check (d + 5) 27 [some (kA 558), none, some (kI v), some (kI ((n : Int) - (j + 1) + -1))] [] c2 P := fun c2 v s2 l2 hv => by
        have := ih (j + 1) (by omega) c2 s2 l2
        rw [← hv, show (n : Int) - (((j + 1 : Nat) : Int) + 1) = (n : Int) - (j + 1) + -1 by omega] at this
        exact this
      obtain ⟨st1, st2, st3⟩ := hr.st (l := (n : Int) - (j + 1)) (by omega) (by omega)
      refine v_X11_check_27 hL (by omega) (by omega) (by omega) ⟨fun z => by omega, fun _ => ⟨st1, fun z => ?_, fun z => ?_⟩⟩
      · have hn := st3 z
        have ec : chK L ((n : Int) - (j + 1)) = 255 := if_neg hn
        rw [ek]
        rw [ec] at ed
        exact ⟨fun y => nx _ _ s1 l1 (by rw [ed, if_pos y]), fun y => nx _ _ s1 l1 (by rw [ed, if_neg y])⟩
      · have hy := st2 z
        have ec : chK L ((n : Int) - (j + 1)) = kind (L.2 ((n : Int) - (j + 1))) := if_pos hy
        have hk := kind_rg (L.2 ((n : Int) - (j + 1)))
        rw [ec] at ed
        refine s_X11_kindOf_l hL hr hy (fun c2 s2 r2 => ⟨_, rfl, k32i (by omega), ?_⟩)
        have rp := r2.rp kT2s
        rw [ek]
        exact ⟨fun y => nx _ _ (s1.rp rp) (l1.tr rp.lo) (by rw [ed, if_pos y]), fun y => nx _ _ (s1.rp rp) (l1.tr rp.lo) (by rw [ed, if_neg y])⟩
  have := loop n 0 (by omega) c hs kLo.rf
  have e0 : chF L T n 0 = -1 := rfl
  rw [e0, show (n : Int) - (((0 : Nat) : Int) + 1) = (n : Int) - 1 by omega] at this
  exact this
end RS
