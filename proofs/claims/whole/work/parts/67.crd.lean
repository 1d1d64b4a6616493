section CR
variable {G : KG} {S0 : KSh} {d : Nat} {P : Option AV → KMem → Prop} {c c' c1 c2 : KMem} {T : Int → Int} {n p q w0 : Int} {L : KLt} {s t f s' t' f' : Int} {g : KF} {x1 x2 i v x z : Int}
/-- the reader's rows below some numbers stay, and all that it doesn't own -/
def kFq (s t f : Int) (c c' : KMem) : Prop := (∀ a i : Int, ¬ (a = 170 ∨ (187 + s ≤ a ∧ a ≤ 193) ∨ (195 + t ≤ a ∧ a ≤ 201) ∨ (203 + f ≤ a ∧ a ≤ 209) ∨ (210 ≤ a ∧ a ≤ 212)) → (kSc a → 0 ≤ i ∧ i < 16) → c' a i = c a i) ∧ ∀ i : Int, 0 ≤ i → i < 9 → c' 170 i = c 170 i
theorem kFq.rf : kFq s t f c c := ⟨fun _ _ _ _ => rfl, fun _ _ _ => rfl⟩
theorem kFq.tr (h : kFq s t f c c1) (r : kFq s t f c1 c2) : kFq s t f c c2 := ⟨fun a i x y => (r.1 a i x y).trans (h.1 a i x y), fun i x y => (r.2 i x y).trans (h.2 i x y)⟩
theorem kFq.w (h : kFq s t f c c1) (hs : s' ≤ s := by omega) (ht : t' ≤ t := by omega) (hf : f' ≤ f := by omega) : kFq s' t' f' c c1 := ⟨fun a i x y => h.1 a i (by omega) y, h.2⟩
theorem kFq.up (h : kFq s t f c c1) (hi : 9 ≤ i := by omega) : kFq s t f c (kup c1 170 i v) := ⟨fun a j x y => (kup_n (Or.inl (by omega))).trans (h.1 a j x y), fun j x y => (kup_n (Or.inr (by omega))).trans (h.2 j x y)⟩
theorem kFq.o (h : kFq s t f c c1) (r : kO x c1 c2) (hx : (187 + s ≤ x ∧ x ≤ 193) ∨ (195 + t ≤ x ∧ x ≤ 201) ∨ (203 + f ≤ x ∧ x ≤ 209) ∨ (210 ≤ x ∧ x ≤ 212) := by omega) (h17 : x ≠ 170 := by omega) : kFq s t f c c2 := ⟨fun a j p y => (r a j (by omega)).trans (h.1 a j p y), fun j p y => (r 170 j (by omega)).trans (h.2 j p y)⟩
theorem kFq.row (h : kFq s t f c c1) {a : Int} (r : ¬ (a = 170 ∨ (187 + s ≤ a ∧ a ≤ 193) ∨ (195 + t ≤ a ∧ a ≤ 201) ∨ (203 + f ≤ a ∧ a ≤ 209) ∨ (210 ≤ a ∧ a ≤ 212)) := by omega) : kEq (c1 a) (c a) := fun k k0 k1 => h.1 a k r (fun _ => ⟨k0, k1⟩)
theorem kFq.cp (h : kFq s t f c c1) (hs : 0 ≤ s ∧ 0 ≤ t ∧ 0 ≤ f) : kCP c c1 := fun a i r => h.1 a i (fun y => r (by unfold kSc; omega)) (fun y => absurd y r)
def flt (c : KMem) : Int := -1000 * c 170 10 - c 170 11
/-- the reader at a place of a text -/
def CPr (T : Int → Int) (n : Int) (L : KLt) (p : Int) (c : KMem) : Prop := c 170 9 = p ∧ (0 ≤ p ∧ p ≤ n ∧ n ≤ 120) ∧ c 170 8 = n ∧ (c 170 7 = 1 ∨ c 170 7 = 2) ∧ (∀ i : Int, 0 ≤ i → i < n → c (c 170 7) i = T i ∧ 0 ≤ T i ∧ T i ≤ 255) ∧ kLm 171 L.1 L.2 c
theorem CPr.fr (h : CPr T n L p c) (r : kFq s t f c c') (e : c' 170 9 = q) (hq : 0 ≤ q ∧ q ≤ n := by omega) (hs : 0 ≤ s ∧ 0 ≤ t ∧ 0 ≤ f := by omega) : CPr T n L q c' := by
  obtain ⟨e9, hp, e8, e7, ht, hl⟩ := h
  have r7 := r.2 7 (by decide) (by decide)
  refine ⟨e, by omega, (r.2 8 (by decide) (by decide)).trans e8, by rw [r7]; exact e7, fun i a b => ?_, ?_⟩
  · rw [r7, r.1 _ i (by omega) (fun z => by unfold kSc at z; omega)]; exact ht i a b
  · obtain ⟨a1, a2, a3⟩ := hl
    have e185 : ∀ l : Int, 0 ≤ l → l < 12 → c' (171 + 14) l = c (171 + 14) l := fun l x y => r.1 _ l (by omega) (fun _ => by omega)
    refine ⟨fun l x y => by rw [e185 l x y]; exact a1 l x y, fun l => ?_, fun l y => ?_⟩
    · rw [a2 l]
      unfold kHs
      constructor
      · rintro ⟨x, y, z⟩; exact ⟨x, y, by rw [e185 l x y]; exact z⟩
      · rintro ⟨x, y, z⟩; rw [e185 l x y] at z; exact ⟨x, y, z⟩
    · have hr := (a2 l).mp y
      have hr1 := hr.1
      have hr2 := hr.2.1
      exact ⟨(r.row (a := 171 + 2 + l)).tr (a3 l y).1, (a3 l y).2⟩
theorem CPr.ch (h : CPr T n L p c) (i : Int) : -1 ≤ chO T n i ∧ chO T n i ≤ 255 := by
  unfold chO
  by_cases a : 0 ≤ i ∧ i < n
  · rw [if_pos a]; have := (h.2.2.2.2.1 i a.1 a.2).2; omega
  · rw [if_neg a]; omega
theorem CPr.k (h : CPr T n L p c) (i : Int) : k32 (chO T n i) := by have := h.ch i; exact k32i (by omega)
theorem c_next (hL : kLay S0) (h : CPr T n L p c) (k : P (some (kI (chO T n p))) c) : kC2 G S0 kM_X7_next d [kA 170] c P := by
  obtain ⟨e9, hp, e8, e7, ht, hl⟩ := h
  refine v_X7_next hL ⟨by rw [e9]; exact k32i (by omega), fun _ => by omega, fun _ => ⟨by rw [e8]; exact k32i (by omega), fun y => ?_, fun y => ?_⟩⟩
  · have e : chO T n p = -1 := if_neg (by omega)
    rw [e] at k; exact k
  · have e : chO T n p = T p := if_pos (by omega)
    have et := (ht p (by omega) (by omega)).1
    rw [e, ← et] at k
    rcases e7 with w | w
    · exact ⟨140, by rw [w]; exact lsh_1 hL, by decide, by omega, by omega, by rw [e9]; exact k⟩
    · exact ⟨120, by rw [w]; exact lsh_2 hL, by decide, by omega, by omega, by rw [e9]; exact k⟩
theorem c_fails (hL : kLay S0) (r1 : k32 x1) (r2 : k32 x2) (k : ∀ c', kFq 7 7 7 c c' → flt c' = -1000 * x1 - x2 → P (some (kI 0)) c') : kC2 G S0 kM_X7_fails d [kA 170, kI x1, kI x2] c P := by
  refine v_X7_fails hL r1 r2 (k _ (kFq.rf.up.up) ?_)
  unfold flt
  rw [kup_s, kup_n (Or.inr (by decide)), kup_s]
theorem c_isD (hL : kLay S0) (r : k32 z) (h1 : isD z → P (some (kI 1)) c) (h0 : ¬ isD z → P (some (kI 0)) c) : kC2 G S0 kM_X7_isDigit d [kI z] c P :=
  v_X7_isDigit hL r ⟨fun a => h0 (by omega), fun a => ⟨fun b => h0 (by omega), fun b => h1 (by omega)⟩⟩
theorem c_isSg (hL : kLay S0) (r : k32 z) (h1 : isSg z → P (some (kI 1)) c) (h0 : ¬ isSg z → P (some (kI 0)) c) : kC2 G S0 kM_X7_isSign d [kI z] c P :=
  v_X7_isSign hL r ⟨fun a => h1 (by omega), fun a => ⟨fun b => h1 (by omega), fun b => ⟨fun e => h1 (by omega), fun e => ⟨fun g => h1 (by omega), fun g => ⟨fun j => h0 (by omega), fun j => h1 (by omega)⟩⟩⟩⟩⟩
theorem c_isOp (hL : kLay S0) (r : k32 z) (h1 : isOp z → P (some (kI 1)) c) (h0 : ¬ isOp z → P (some (kI 0)) c) : kC2 G S0 kM_X7_isOpener d [kI z] c P :=
  v_X7_isOpener hL r ⟨fun a => h1 (by omega), fun a => ⟨fun b => h1 (by omega), fun b => ⟨fun e => h1 (by omega), fun e => ⟨fun g => h1 (by omega), fun g => ⟨fun j => h1 (by omega), fun j => ⟨fun m => h0 (by omega), fun m => h1 (by omega)⟩⟩⟩⟩⟩⟩
theorem c_digits (hL : kLay S0) (h : CPr T n L p c) (h1 : ∀ v q c', rdN (chO T n) p = .inl (v, q) → kFq 7 7 7 c c' → c' 170 9 = q → P (some (kI v)) c') (h0 : ∀ v c', rdN (chO T n) p = .inr v → kFq 7 7 7 c c' → flt c' = v → P (some (kI (-1))) c') : kC2 G S0 kM_X7_digits (d + 1) [kA 170] c P := by
  have hp := h.2.1
  have e9 := h.1
  have loop : ∀ m k : Nat, k + m = 4 → ∀ v c', CPr T n L (p + k) c' → kFq 7 7 7 c c' → ((k = 0 ∧ v = 0) ∨ (k = 1 ∧ v ≤ 9) ∨ (k = 2 ∧ v ≤ 99) ∨ (k = 3 ∧ v ≤ 999) ∨ (k = 4 ∧ v ≤ 9999)) → 0 ≤ v → (k = 0 → isD (chO T n p)) → rdN (chO T n) p = rdD (chO T n) m v (p + k) → kW2 G S0 kM_X7_digits (d + 1) 9 [some (kA 170), some (kI v), some (kI p), some (kI (k : Int))] [] c' P := by
    intro m
    induction m with
    | zero =>
      intro k hk v c' hs fr hv v0 hd e
      have f9 := hs.1
      unfold rdD at e
      refine v_X7_digits_9 hL (by omega) (by omega) (by omega) ⟨fun _ => ⟨by rw [f9]; exact k32i (by omega), fun y => by omega, fun _ => ?_⟩, fun y => by omega⟩
      refine c_next hL hs ⟨_, rfl, c_isD hL (hs.k _) (fun y => ⟨_, rfl, kq1 ?_⟩) (fun y => ⟨_, rfl, kq0 ?_⟩)⟩
      · rw [if_pos y] at e
        refine ⟨by rw [f9]; exact k32i (by omega), fun _ => ?_, fun w => by omega⟩
        exact c_fails hL (k32i (by omega)) (by rw [f9]; exact k32i (by omega)) (fun c2 r2 e2 => ⟨_, rfl, h0 _ c2 e (fr.tr r2) (by rw [e2, f9]; omega)⟩)
      · rw [if_neg y] at e
        exact h1 _ _ _ e fr f9
    | succ m ih =>
      intro k hk v c' hs fr hv v0 hd e
      have f9 := hs.1
      have hq := hs.2.1
      unfold rdD at e
      refine v_X7_digits_9 hL (by omega) (by omega) (by omega) ⟨fun y => by omega, fun _ => ?_⟩
      refine c_next hL hs ⟨_, rfl, c_isD hL (hs.k _) (fun y => ⟨_, rfl, kr1 ?_⟩) (fun y => ⟨_, rfl, kr0 ?_⟩)⟩
      · rw [if_pos y] at e
        refine c_next hL hs ⟨_, rfl, ?_⟩
        dsimp only
        rw [f9]
        have hin := chO_in (T := T) (n := n) (p := p + k) (by unfold isD at y; omega)
        have := ih (k + 1) (by omega) (10 * v + chO T n (p + k) - 48) (kup c' 170 9 (p + k + 1)) (hs.fr kFq.rf.up (s := 7) (t := 7) (f := 7) (by rw [kup_s]; omega) (by omega)) fr.up (by unfold isD at y; omega) (by unfold isD at y; omega) (fun w => by omega) (by rw [e]; congr 1; omega)
        exact this
      · rw [if_neg y] at e
        have hk0 : k ≠ 0 := fun w => y (by have := hd w; rw [w, show p + ((0 : Nat) : Int) = p by omega]; exact this)
        refine ⟨by rw [f9]; exact k32i (by omega), fun w => by omega, fun _ => ?_⟩
        refine c_next hL hs ⟨_, rfl, c_isD hL (hs.k _) (fun w => absurd w y) (fun _ => ⟨_, rfl, kq0 ?_⟩)⟩
        exact h1 _ _ _ e fr f9
  refine v_X7_digits hL ?_
  rw [e9]
  by_cases y : isD (chO T n p)
  · have e : rdN (chO T n) p = rdD (chO T n) 4 0 (p + ((0 : Nat) : Int)) := by unfold rdN; rw [if_pos y]; congr 1; omega
    exact loop 4 0 (by omega) 0 c (by rw [show p + ((0 : Nat) : Int) = p by omega]; exact h) kFq.rf (Or.inl ⟨rfl, rfl⟩) (by omega) (fun _ => y) e
  · have e : rdN (chO T n) p = .inr (-1000 - p) := by unfold rdN; rw [if_neg y]
    refine v_X7_digits_9 hL (by omega) (by omega) (by omega) ⟨fun w => by omega, fun _ => ?_⟩
    refine c_next hL h ⟨_, rfl, c_isD hL (h.k _) (fun w => absurd w y) (fun _ => ⟨_, rfl, kr0 ?_⟩)⟩
    refine ⟨by rw [e9]; exact k32i (by omega), fun _ => ⟨fun w => by omega, fun _ => ?_⟩, fun w => by omega⟩
    exact c_fails hL (k32i (by omega)) (by rw [e9]; exact k32i (by omega)) (fun c2 r2 e2 => ⟨_, rfl, h0 _ c2 e r2 (by rw [e2, e9]; omega)⟩)
theorem c_coordinate (hL : kLay S0) (h : CPr T n L p c) (h1 : ∀ w q c', rdW (chO T n) p = .inl (w, q) → kFq 7 7 7 c c' → c' 170 9 = q → P (some (kI w)) c') (h0 : ∀ v c', rdW (chO T n) p = .inr v → kFq 7 7 7 c c' → flt c' = v → P (some (kI 1000)) c') : kC2 G S0 kM_X7_coordinate (d + 2) [kA 170] c P := by
  have hp := h.2.1
  have e9 := h.1
  refine v_X7_coordinate hL (c_next hL h ⟨_, rfl, h.k _, fun y => ?_, fun y => ?_⟩)
  · have ew : rdW (chO T n) p = rdM (chO T n) 99 p := if_neg y
    refine c_digits hL h (fun v q c' e r e' => ?_) (fun v c' e r e' => ?_)
    · have hv := rdN_ok e
      have em : rdM (chO T n) 99 p = if v ≤ 99 then .inl (v, q) else .inr (-3000 - p) := by unfold rdM; rw [e]
      refine ⟨_, rfl, k32i (by omega), fun _ => ⟨fun w => ?_, fun w => ?_⟩, fun w => by omega⟩
      · rw [if_pos w] at em; exact h1 _ _ _ (ew.trans em) r e'
      · rw [if_neg (by omega)] at em
        exact c_fails hL (k32i (by omega)) (by rw [e9]; exact k32i (by omega)) (fun c2 r2 e2 => ⟨_, rfl, h0 _ c2 (ew.trans em) (r.tr r2) (by rw [e2, e9]; omega)⟩)
    · have em : rdM (chO T n) 99 p = .inr v := by unfold rdM; rw [e]
      exact ⟨_, rfl, k32i (by omega), fun w => absurd rfl w, fun _ => h0 _ _ (ew.trans em) r e'⟩
  · have hin := chO_in (T := T) (n := n) (p := p) (by omega)
    have ha : CPr T n L (p + 1) (kup c 170 9 (c 170 9 + 1)) := h.fr kFq.rf.up (s := 7) (t := 7) (f := 7) (by rw [kup_s, e9]) (by omega)
    refine c_digits hL ha (fun v q c' e r e' => ?_) (fun v c' e r e' => ?_)
    · have hv := rdN_ok e
      have em : rdM (chO T n) 99 (p + 1) = if v ≤ 99 then .inl (v, q) else .inr (-3000 - (p + 1)) := by unfold rdM; rw [e]
      refine ⟨_, rfl, k32i (by omega), fun _ => ⟨fun w => ?_, fun w => ?_⟩, fun w => by omega⟩
      · rw [if_pos w] at em
        have ew : rdW (chO T n) p = .inl (-v, q) := by unfold rdW; rw [if_pos y, em]
        exact h1 _ _ _ ew (kFq.rf.up.tr r) e'
      · rw [if_neg (by omega)] at em
        have ew : rdW (chO T n) p = .inr (-3000 - (p + 1)) := by unfold rdW; rw [if_pos y, em]
        exact c_fails hL (k32i (by omega)) (by rw [e9]; exact k32i (by omega)) (fun c2 r2 e2 => ⟨_, rfl, h0 _ c2 ew ((kFq.rf.up.tr r).tr r2) (by rw [e2, e9]; omega)⟩)
    · have em : rdM (chO T n) 99 (p + 1) = .inr v := by unfold rdM; rw [e]
      have ew : rdW (chO T n) p = .inr v := by unfold rdW; rw [if_pos y, em]
      exact ⟨_, rfl, k32i (by omega), fun w => absurd rfl w, fun _ => h0 _ _ ew (kFq.rf.up.tr r) e'⟩
end CR
