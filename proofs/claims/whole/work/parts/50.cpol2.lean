/-- the pool and what is told, in the class -/
def kPo (Ψ : Int → KF) (S : KLs) : Prop := Ψ 222 1 = (S.1 : Int) ∧ ∀ i : Nat, i < S.1 → Ψ (223 + 1 + (i : Int)) = S.2 i ∧ kB kLB (S.2 i)
def kTo (Ψ : Int → KF) (T : KLs) : Prop := Ψ 214 1 = (T.1 : Int) ∧ ∀ i : Nat, i < T.1 → Ψ (215 + 1 + (i : Int)) = T.2 i ∧ kB kLB (T.2 i)
/-- all but the mover's own rows -/
def kKq (Ψ Ψ' : Int → KF) : Prop := ∀ s : Int, s < 222 ∨ 526 < s → Ψ' s = Ψ s
theorem kKq.rf {Ψ : Int → KF} : kKq Ψ Ψ := fun _ _ => rfl
theorem kKq.tr {Ψ Ψ1 Ψ2 : Int → KF} (h : kKq Ψ Ψ1) (g : kKq Ψ1 Ψ2) : kKq Ψ Ψ2 := fun s q => (g s q).trans (h s q)
theorem kTo.k {Ψ Ψ' : Int → KF} {T : KLs} (h : kTo Ψ T) (hn : T.1 ≤ 6) (k : kKq Ψ Ψ') : kTo Ψ' T := ⟨by rw [k 214 (by omega)]; exact h.1, fun i hi => ⟨by rw [k _ (by omega)]; exact (h.2 i hi).1, (h.2 i hi).2⟩⟩
/-- what is told of a set of letters -/
def tlN (g : KF → KF) (m : Int) (F : Int → KF) : Nat → KLs
  | 0 => (0, fun _ _ => 0)
  | k + 1 => if kbit m k = true then lsPut (tlN g m F k) (g (F k)) else tlN g m F k
theorem tlN_le (g : KF → KF) (m : Int) (F : Int → KF) : ∀ k, (tlN g m F k).1 = kCn (kbit m) k
  | 0 => rfl
  | k + 1 => by
    have ih := tlN_le g m F k
    show (if kbit m k = true then lsPut (tlN g m F k) (g (F k)) else tlN g m F k).1 = if kbit m k = true then kCn (kbit m) k + 1 else kCn (kbit m) k
    by_cases q : kbit m k = true
    · rw [if_pos q, if_pos q]; show (tlN g m F k).1 + 1 = _; rw [ih]
    · rw [if_neg q, if_neg q]; exact ih
/-- a fold over what is told -/
def fdT (φ : KF → KLs → KLs) (T : Nat → KF) : Nat → KLs → KLs
  | 0, S => S
  | j + 1, S => φ (T j) (fdT φ T j S)
theorem fdT_congr {φ : KF → KLs → KLs} {T T' : Nat → KF} (S : KLs) : ∀ n, (∀ j, j < n → T j = T' j) → fdT φ T n S = fdT φ T' n S
  | 0, _ => rfl
  | n + 1, h => by show φ _ _ = φ _ _; rw [h n (by omega), fdT_congr S n (fun j hj => h j (by omega))]
theorem fdT_put {φ : KF → KLs → KLs} (T : KLs) (f : KF) (S : KLs) : fdT φ (lsPut T f).2 (lsPut T f).1 S = φ f (fdT φ T.2 T.1 S) := by
  have e : (lsPut T f).2 T.1 = f := if_pos rfl
  show φ ((lsPut T f).2 T.1) (fdT φ (lsPut T f).2 T.1 S) = _
  have e2 := fdT_congr (φ := φ) (T := (lsPut T f).2) (T' := T.2) S T.1 (fun j hj => if_neg (by omega))
  rw [e, e2]
def sprF (A g : KF) (S : KLs) : KLs := if trnB g A = true then lsAdd S (trnP g A) else S
theorem sprK_T (m : Int) (F : Int → KF) (A : KF) (S : KLs) : ∀ k, sprK m F A k S = fdT (sprF A) (tlN vecP m F k).2 (tlN vecP m F k).1 S
  | 0 => rfl
  | k + 1 => by
    have ih := sprK_T m F A S k
    have e : tlN vecP m F (k + 1) = if kbit m k = true then lsPut (tlN vecP m F k) (vecP (F k)) else tlN vecP m F k := rfl
    show (if kbit m k = true ∧ trnB (vecP (F k)) A = true then lsAdd (sprK m F A k S) (trnP (vecP (F k)) A) else sprK m F A k S) = _
    rw [e]
    by_cases q : kbit m k = true
    · rw [if_pos q, fdT_put, ← ih]
      unfold sprF
      by_cases w : trnB (vecP (F k)) A = true
      · rw [if_pos ⟨q, w⟩, if_pos w]
      · rw [if_neg (fun z => w z.2), if_neg w]
    · rw [if_neg q, if_neg (fun z => q z.1)]; exact ih
def gpF (g : KF) (S : KLs) : KLs := lsAdd S (nrmP g)
theorem gpK_T (m : Int) (F : Int → KF) : ∀ k, gpK m F k = fdT gpF (tlN id m F k).2 (tlN id m F k).1 (0, fun _ _ => 0)
  | 0 => rfl
  | k + 1 => by
    have ih := gpK_T m F k
    have e : tlN id m F (k + 1) = if kbit m k = true then lsPut (tlN id m F k) (F k) else tlN id m F k := rfl
    show (if kbit m k = true then lsAdd (gpK m F k) (nrmP (F k)) else gpK m F k) = _
    rw [e]
    by_cases q : kbit m k = true
    · rw [if_pos q, if_pos q, fdT_put, ← ih]; rfl
    · rw [if_neg q, if_neg q]; exact ih
def gpQ (A g : KF) (S : KLs) : KLs := if S.1 < 200 ∧ kWb (mulP 0 A g) = true then lsAdd S (nrmP (mulP 0 A g)) else S
theorem gpP_T (m : Int) (F : Int → KF) (A : KF) (S : KLs) : ∀ k, gpP m F A k S = fdT (gpQ A) (tlN id m F k).2 (tlN id m F k).1 S
  | 0 => rfl
  | k + 1 => by
    have ih := gpP_T m F A S k
    have e : tlN id m F (k + 1) = if kbit m k = true then lsPut (tlN id m F k) (F k) else tlN id m F k := rfl
    show (if (gpP m F A k S).1 < 200 ∧ kbit m k = true ∧ kWb (mulP 0 A (F k)) = true then lsAdd (gpP m F A k S) (nrmP (mulP 0 A (F k))) else gpP m F A k S) = _
    rw [e]
    by_cases q : kbit m k = true
    · rw [if_pos q, fdT_put, ← ih]
      unfold gpQ
      by_cases w : (gpP m F A k S).1 < 200 ∧ kWb (mulP 0 A (F k)) = true
      · rw [if_pos ⟨w.1, q, w.2⟩, if_pos w]
      · rw [if_neg (fun z => w ⟨z.1, z.2.2⟩), if_neg w]
    · rw [if_neg q, if_neg (fun z => q z.2.1)]; exact ih
theorem fd_spr_le (A : KF) (T : Nat → KF) (S : KLs) : ∀ n, S.1 ≤ (fdT (sprF A) T n S).1 ∧ (fdT (sprF A) T n S).1 ≤ S.1 + n ∧ ∀ i, i < S.1 → (fdT (sprF A) T n S).2 i = S.2 i
  | 0 => ⟨Nat.le_refl _, Nat.le_refl _, fun _ _ => rfl⟩
  | n + 1 => by
    have ih := fd_spr_le A T S n
    have h := lsAdd_le (fdT (sprF A) T n S) (trnP (T n) A)
    have ed : fdT (sprF A) T (n + 1) S = if trnB (T n) A = true then lsAdd (fdT (sprF A) T n S) (trnP (T n) A) else fdT (sprF A) T n S := rfl
    rw [ed]
    by_cases q : trnB (T n) A = true
    · rw [if_pos q]
      exact ⟨by omega, by omega, fun i hi => (h.2.2 i (by omega)).trans (ih.2.2 i hi)⟩
    · rw [if_neg q]
      exact ⟨by omega, by omega, ih.2.2⟩
section CPO
variable {G : KG} {S0 : KSh} {d : Nat} {P : Option AV → KMem → Prop} {c c0 : KMem} {Ψ : Int → KF} {H : Int → Bool} {F : Int → KF} {f g s sg : KF} {M m : Int} {S T : KLs} {x0 x1 x2 x3 x4 : Int}
theorem kCh.at (hs : kCh Ψ c0 c) (a k : Int) (h : 0 ≤ k ∧ k < 16) : c a k = Ψ a k := hs.1 a k h.1 h.2
theorem prow (hL : kLay S0) {i : Int} (a : 0 ≤ i ∧ i < 300) : S0.2.1 (223 + 1 + i) = (2, 16) := (lrw_223 hL a).2
theorem trow (hL : kLay S0) {i : Int} (a : 0 ≤ i ∧ i < 6) : S0.2.1 (215 + 1 + i) = (2, 16) := (lrw_215 hL a).2
theorem tc_clear (hL : kLay S0) (hs : kCh Ψ c0 c) (h : ∀ Ψ' c', kCh Ψ' c0 c' → kPo Ψ' (0, fun _ _ => 0) → (∀ s, s ≠ 222 → Ψ' s = Ψ s) → P none c') : kC2 G S0 kM_X6_clear d [kA 222] c P :=
  v_X6_clear hL (h _ _ (hs.up (t := 222) (i := 1) (v := 0) (by unfold kSc; omega)) ⟨by rw [kUs, kup_s]; rfl, fun i hi => absurd hi (by omega)⟩ (fun s q => kUn q rfl))
theorem tc_addIfNew (hL : kLay S0) (hs : kCh Ψ c0 c) (hp : kPo Ψ S) (hlen : S.1 < 300) (h : ∀ Ψ' c', kCh Ψ' c0 c' → kPo Ψ' (lsAdd S f) → (∀ s, s < 222 ∨ 523 < s → Ψ' s = Ψ s) → P none c') (hx1 : S0.2.1 x1 = (2, 16) := by first | with_reducible assumption | with_reducible exact lsh_555 hL | with_reducible exact lsh_556 hL | with_reducible exact lsh_557 hL | with_reducible exact lsh_524 hL | with_reducible exact lsh_525 hL | with_reducible exact lsh_526 hL | with_reducible exact lsh_527 hL | with_reducible exact lsh_529 hL | with_reducible exact lsh_530 hL | with_reducible exact lsh_531 hL | with_reducible exact lsh_532 hL | with_reducible exact lsh_549 hL | with_reducible exact lsh_550 hL | with_reducible exact lsh_551 hL | with_reducible exact lsh_552 hL) (ne : x1 < 222 ∨ 523 < x1 := by omega) (e1 : Ψ x1 = f := by repeat (first | with_reducible exact kUs | with_reducible assumption | (with_reducible apply kUn; omega) | exact rfl)) (b1 : kB kLB f := by repeat' (first | with_reducible assumption | with_reducible exact farP_bdL | with_reducible apply vecP_bd | with_reducible apply nrmP_bd | with_reducible apply revP_bd | with_reducible apply whlP_bd (Or.inr rfl) | with_reducible apply whlP_bd (Or.inl rfl) | with_reducible apply mulP_bdL | with_reducible exact plcP_bd (by omega) (by omega))) : kC2 G S0 kM_X6_addIfNew (d + 2) [kA 222, kA x1] c P := by
  have e0 : c 222 1 = (S.1 : Int) := (hs.at 222 1 (by omega)).trans hp.1
  have E := hs.e e1
  have loop : ∀ n i : Nat, i + n = S.1 → (∀ j, j < i → ¬ kEq (S.2 j) f) → kW2 G S0 kM_X6_addIfNew (d + 2) 2 [some (kA 222), some (kA x1), some (kI (i : Int))] [] c P := by
    intro n
    induction n with
    | zero =>
      intro i hi hn
      refine v_X6_addIfNew_2 hL hx1 (by omega) (by omega) ⟨fun _ => ⟨fun _ => ?_, fun q => by omega⟩, fun q => by omega⟩
      have hno : ¬ lsHas S.2 f S.1 = true := fun q => by obtain ⟨j, a, b⟩ := (lsHas_iff _).mp q; exact hn j (by omega) b
      rw [e0]
      refine s_X0_copy hL hx1 (prow hL (by omega)) (fun c1 q1 o1 => ⟨rfl, ?_⟩)
      have t1 : kSc (223 + 1 + (S.1 : Int)) := by unfold kSc; omega
      have s1 := hs.s1 t1 (q1.tr E) o1
      have e2 : c1 222 1 = (S.1 : Int) := by rw [o1 222 1 (by omega)]; exact e0
      dsimp only
      rw [e2]
      have s2 := s1.up (t := 222) (i := 1) (v := (S.1 : Int) + 1) (by unfold kSc; omega)
      refine h _ _ s2 ?_ (fun s q => kUn (by omega) (kUn (by omega) rfl))
      have ea : lsAdd S f = lsPut S f := if_neg hno
      rw [ea]
      refine ⟨?_, fun j hj => ?_⟩
      · rw [kUs, kup_s]; show (S.1 : Int) + 1 = ((S.1 + 1 : Nat) : Int); omega
      · have hj' : j < S.1 + 1 := hj
        show _ = (if j = S.1 then f else S.2 j) ∧ kB kLB (if j = S.1 then f else S.2 j)
        by_cases w : j = S.1
        · rw [if_pos w, w]; exact ⟨kUn (by omega) kUs, b1⟩
        · rw [if_neg w]
          exact ⟨kUn (by omega) (kUn (by omega) (hp.2 j (by omega)).1), (hp.2 j (by omega)).2⟩
    | succ n ih =>
      intro i hi hn
      have hi2 := hp.2 i (by omega)
      have Ei := hs.e hi2.1
      refine v_X6_addIfNew_2 hL hx1 (by omega) (by omega) ⟨fun q => by omega, fun _ => ?_⟩
      refine s_X0_isSame hL (prow hL (by omega)) hx1 (kb64 (hi2.2.eq Ei) (by decide)) (kb64 (b1.eq E) (by decide)) (fun q => ⟨1, rfl, kr1 ?_⟩) (fun q => ⟨0, rfl, kr0 (ih (i + 1) (by omega) (fun j hj => ?_))⟩)
      · have hyes : lsHas S.2 f S.1 = true := (lsHas_iff _).mpr ⟨i, by omega, Ei.sy.tr (q.tr E)⟩
        have ea : lsAdd S f = S := if_pos hyes
        exact h _ _ hs (by rw [ea]; exact hp) (fun _ _ => rfl)
      · by_cases w : j = i
        · rw [w]; exact fun z => q (Ei.tr (z.tr E.sy))
        · exact hn j (by omega)
  exact v_X6_addIfNew hL hx1 (loop S.1 0 (by omega) (fun j hj => by omega))
theorem tc_tellNone (hL : kLay S0) (hs : kCh Ψ c0 c) (h : ∀ Ψ' c', kCh Ψ' c0 c' → kTo Ψ' (0, fun _ _ => 0) → (∀ s, s ≠ 214 → Ψ' s = Ψ s) → P none c') : kC2 G S0 kM_X3_tellNone d [kA 214] c P :=
  v_X3_tellNone hL (h _ _ (hs.up (t := 214) (i := 1) (v := 0) (by unfold kSc; omega)) ⟨by rw [kUs, kup_s]; rfl, fun i hi => absurd hi (by omega)⟩ (fun s q => kUn q rfl))
theorem tc_tell (hL : kLay S0) (hs : kCh Ψ c0 c) (hp : kTo Ψ T) (hlen : T.1 < 6) (h : ∀ Ψ' c', kCh Ψ' c0 c' → kTo Ψ' (lsPut T f) → (∀ s, s < 214 ∨ 221 < s → Ψ' s = Ψ s) → P none c') (hx1 : S0.2.1 x1 = (2, 16) := by first | with_reducible assumption | with_reducible exact lsh_555 hL | with_reducible exact lsh_556 hL | with_reducible exact lsh_557 hL | with_reducible exact lsh_524 hL | with_reducible exact lsh_525 hL | with_reducible exact lsh_526 hL | with_reducible exact lsh_527 hL | with_reducible exact lsh_529 hL | with_reducible exact lsh_530 hL | with_reducible exact lsh_531 hL | with_reducible exact lsh_532 hL | with_reducible exact lsh_549 hL | with_reducible exact lsh_550 hL | with_reducible exact lsh_551 hL | with_reducible exact lsh_552 hL) (ne : x1 < 214 ∨ 221 < x1 := by omega) (e1 : Ψ x1 = f := by repeat (first | with_reducible exact kUs | with_reducible assumption | (with_reducible apply kUn; omega) | exact rfl)) (b1 : kB kLB f := by repeat' (first | with_reducible assumption | with_reducible exact farP_bdL | with_reducible apply vecP_bd | with_reducible apply nrmP_bd | with_reducible apply revP_bd | with_reducible apply whlP_bd (Or.inr rfl) | with_reducible apply whlP_bd (Or.inl rfl) | with_reducible apply mulP_bdL | with_reducible exact plcP_bd (by omega) (by omega))) : kC2 G S0 kM_X3_tell (d + 2) [kA 214, kA x1] c P := by
  have e0 : c 214 1 = (T.1 : Int) := (hs.at 214 1 (by omega)).trans hp.1
  have E := hs.e e1
  refine v_X3_tell hL hx1 (by omega) ⟨fun _ => ?_, fun q => by omega⟩
  rw [e0]
  refine s_X0_copy hL hx1 (trow hL (by omega)) (fun c1 q1 o1 => ⟨rfl, ?_⟩)
  have t1 : kSc (215 + 1 + (T.1 : Int)) := by unfold kSc; omega
  have s1 := hs.s1 t1 (q1.tr E) o1
  have e2 : c1 214 1 = (T.1 : Int) := by rw [o1 214 1 (by omega)]; exact e0
  dsimp only
  rw [e2]
  have s2 := s1.up (t := 214) (i := 1) (v := (T.1 : Int) + 1) (by unfold kSc; omega)
  refine h _ _ s2 ⟨?_, fun j hj => ?_⟩ (fun s q => kUn (by omega) (kUn (by omega) rfl))
  · rw [kUs, kup_s]; show (T.1 : Int) + 1 = ((T.1 + 1 : Nat) : Int); omega
  · have hj' : j < T.1 + 1 := hj
    show _ = (if j = T.1 then f else T.2 j) ∧ kB kLB (if j = T.1 then f else T.2 j)
    by_cases w : j = T.1
    · rw [if_pos w, w]; exact ⟨kUn (by omega) kUs, b1⟩
    · rw [if_neg w]
      exact ⟨kUn (by omega) (kUn (by omega) (hp.2 j (by omega)).1), (hp.2 j (by omega)).2⟩
theorem tc_start (hL : kLay S0) (hs : kCh Ψ c0 c) (h : ∀ Ψ' c', kCh Ψ' c0 c' → kPo Ψ' (1, fun _ => nrmP f) → kKq Ψ Ψ' → P none c') (hx1 : S0.2.1 x1 = (2, 16) := by first | with_reducible assumption | with_reducible exact lsh_555 hL | with_reducible exact lsh_556 hL | with_reducible exact lsh_557 hL | with_reducible exact lsh_524 hL | with_reducible exact lsh_525 hL | with_reducible exact lsh_526 hL | with_reducible exact lsh_527 hL | with_reducible exact lsh_529 hL | with_reducible exact lsh_530 hL | with_reducible exact lsh_531 hL | with_reducible exact lsh_532 hL | with_reducible exact lsh_549 hL | with_reducible exact lsh_550 hL | with_reducible exact lsh_551 hL | with_reducible exact lsh_552 hL) (ne : x1 ≠ 526 := by omega) (e1 : Ψ x1 = f := by repeat (first | with_reducible exact kUs | with_reducible assumption | (with_reducible apply kUn; omega) | exact rfl)) (b1 : kB kLB f := by repeat' (first | with_reducible assumption | with_reducible exact farP_bdL | with_reducible apply vecP_bd | with_reducible apply nrmP_bd | with_reducible apply revP_bd | with_reducible apply whlP_bd (Or.inr rfl) | with_reducible apply whlP_bd (Or.inl rfl) | with_reducible apply mulP_bdL | with_reducible exact plcP_bd (by omega) (by omega))) : kC2 G S0 kM_X3_start (d + 3) [kA 214, kA x1] c P := by
  refine v_X3_start hL hx1 ?_
  refine tc_copy hL hs (fun c1 s1 => ⟨rfl, ?_⟩)
  refine tc_normalise hL s1 (fun c2 s2 => ⟨rfl, ?_⟩)
  refine tc_clear hL s2 (fun Ψ3 c3 s3 p3 k3 => ⟨rfl, ?_⟩)
  have e3 : Ψ3 526 = nrmP f := (k3 526 (by omega)).trans kUs
  refine tc_addIfNew hL s3 p3 (by show 0 < 300; omega) (fun Ψ4 c4 s4 p4 k4 => ⟨rfl, ?_⟩)
  refine h _ _ s4 ⟨p4.1, fun i hi => ?_⟩ (fun s q => (k4 s (by omega)).trans ((k3 s (by omega)).trans (kUn (by omega) (kUn (by omega) rfl))))
  have hi' : i < 1 := hi
  have := p4.2 i hi
  obtain rfl : i = 0 := by omega
  exact this
theorem tc_hasCome (hL : kLay S0) (hs : kCh Ψ c0 c) (hp : kPo Ψ S) (hlen : S.1 ≤ 300) {fr : Nat} (hfr : fr ≤ S.1) (h1 : (∃ i, fr ≤ i ∧ i < S.1 ∧ kEq (S.2 i) g) → P (some (kI 1)) c) (h0 : ¬ (∃ i, fr ≤ i ∧ i < S.1 ∧ kEq (S.2 i) g) → P (some (kI 0)) c) (e1 : Ψ 527 = g) (b1 : kB kLB g) : kC2 G S0 kM_X3_hasCome (d + 1) [kA 214, kI (fr : Int)] c P := by
  have e0 : c 222 1 = (S.1 : Int) := (hs.at 222 1 (by omega)).trans hp.1
  have E := hs.e e1
  have loop : ∀ n i : Nat, i + n = S.1 → fr ≤ i → (∀ j, fr ≤ j → j < i → ¬ kEq (S.2 j) g) → kW2 G S0 kM_X3_hasCome (d + 1) 2 [some (kA 214), none, some (kI (i : Int))] [] c P := by
    intro n
    induction n with
    | zero =>
      intro i hi hf hn
      exact v_X3_hasCome_2 hL (by omega) ⟨by rw [e0]; exact k32i (by omega), fun _ => h0 (fun ⟨j, a, b, w⟩ => hn j a (by omega) w), fun q => by omega⟩
    | succ n ih =>
      intro i hi hf hn
      have hi2 := hp.2 i (by omega)
      have Ei := hs.e hi2.1
      refine v_X3_hasCome_2 hL (by omega) ⟨by rw [e0]; exact k32i (by omega), fun q => by omega, fun _ => ⟨by omega, ?_⟩⟩
      refine s_X0_isSame hL (prow hL (by omega)) (lsh_527 hL) (kb64 (hi2.2.eq Ei) (by decide)) (kb64 (b1.eq E) (by decide)) (fun q => ⟨1, rfl, kr1 (h1 ⟨i, hf, by omega, Ei.sy.tr (q.tr E)⟩)⟩) (fun q => ⟨0, rfl, kr0 (ih (i + 1) (by omega) (by omega) (fun j hj0 hj => ?_))⟩)
      by_cases w : j = i
      · rw [w]; exact fun z => q (Ei.tr (z.tr E.sy))
      · exact hn j hj0 (by omega)
  exact v_X3_hasCome hL (by omega) (loop (S.1 - fr) fr (by omega) (by omega) (fun j a b => by omega))
/-- TURNS by all that are told, of the listed ones from one on -/
def sprU (T : KLs) (fr : Nat) : Nat → KLs → KLs
  | 0, S => S
  | j + 1, S => fdT (sprF ((sprU T fr j S).2 (fr + j))) T.2 T.1 (sprU T fr j S)
theorem sprI_U (m : Int) (F : Int → KF) (fr : Nat) (S : KLs) : ∀ j, sprI m F fr j S = sprU (tlN vecP m F 12) fr j S
  | 0 => rfl
  | j + 1 => by
    have ih := sprI_U m F fr S j
    show sprK m F ((sprI m F fr j S).2 (fr + j)) 12 (sprI m F fr j S) = fdT _ _ _ _
    rw [sprK_T, ih]
theorem sprU_le (T : KLs) (fr : Nat) (S : KLs) : ∀ j, S.1 ≤ (sprU T fr j S).1 ∧ (sprU T fr j S).1 ≤ S.1 + T.1 * j
  | 0 => ⟨Nat.le_refl _, Nat.le_refl _⟩
  | j + 1 => by
    have ih := sprU_le T fr S j
    have h := fd_spr_le ((sprU T fr j S).2 (fr + j)) T.2 (sprU T fr j S) T.1
    have e : T.1 * (j + 1) = T.1 * j + T.1 := Nat.mul_succ _ _
    show S.1 ≤ (fdT _ _ _ _).1 ∧ (fdT _ _ _ _).1 ≤ _
    omega
theorem tc_addTurned (hL : kLay S0) (hs : kCh Ψ c0 c) (hp : kPo Ψ S) (ht : kTo Ψ T) (hT : T.1 ≤ 6 ∧ ∀ j, j < T.1 → kEq (revP (T.2 j)) (T.2 j)) {fr : Nat} (hfr : fr ≤ S.1) (hsz : S.1 + T.1 * (S.1 - fr) ≤ 300) (h : ∀ Ψ' c', kCh Ψ' c0 c' → kPo Ψ' (sprU T fr (S.1 - fr) S) → kKq Ψ Ψ' → P none c') : kC2 G S0 kM_X3_addTurned (d + 4) [kA 214, kI (fr : Int), kI (S.1 : Int)] c P := by
  have outer : ∀ n j : Nat, fr + j + n = S.1 → ∀ Ψ' c', kCh Ψ' c0 c' → kPo Ψ' (sprU T fr j S) → kKq Ψ Ψ' → kW2 G S0 kM_X3_addTurned (d + 4) 2 [some (kA 214), none, some (kI (S.1 : Int)), some (kI ((fr + j : Nat) : Int)), none] [] c' P := by
    intro n
    induction n with
    | zero =>
      intro j hj Ψ' c' s1 p1 k1
      have ej : j = S.1 - fr := by omega
      rw [ej] at p1
      exact v_X3_addTurned_2 hL (by omega) (by omega) ⟨fun _ => h _ _ s1 p1 k1, fun q => by omega⟩
    | succ n ih =>
      intro j hj Ψ' c' s1 p1 k1
      have hle := sprU_le T fr S j
      have hmul : T.1 * (j + 1) ≤ T.1 * (S.1 - fr) := Nat.mul_le_mul_left _ (by omega)
      have hms : T.1 * (j + 1) = T.1 * j + T.1 := Nat.mul_succ _ _
      refine v_X3_addTurned_2 hL (by omega) (by omega) ⟨fun q => by omega, fun _ => ?_⟩
      have inner : ∀ n2 k : Nat, k + n2 = T.1 → ∀ Ψ2 c2, kCh Ψ2 c0 c2 → kPo Ψ2 (fdT (sprF ((sprU T fr j S).2 (fr + j))) T.2 k (sprU T fr j S)) → kKq Ψ Ψ2 → kW2 G S0 kM_X3_addTurned (d + 4) 10 [some (kA 214), none, some (kI (S.1 : Int)), some (kI ((fr + j : Nat) : Int)), some (kI (k : Int))] [] c2 P := by
        intro n2
        induction n2 with
        | zero =>
          intro k hk Ψ2 c2 s2 p2 k2
          obtain rfl : k = T.1 := by omega
          have e0 : c2 214 1 = (T.1 : Int) := (s2.at 214 1 (by omega)).trans (ht.k hT.1 k2).1
          refine v_X3_addTurned_10 hL (by omega) (by omega) (by omega) (by omega) ⟨fun _ => ?_, fun q => by omega⟩
          have := ih (j + 1) (by omega) Ψ2 c2 s2 p2 k2
          exact this
        | succ n2 ih2 =>
          intro k hk Ψ2 c2 s2 p2 k2
          have t2 := ht.k hT.1 k2
          have e0 : c2 214 1 = (T.1 : Int) := (s2.at 214 1 (by omega)).trans t2.1
          have hf := fd_spr_le ((sprU T fr j S).2 (fr + j)) T.2 (sprU T fr j S) k
          have hrow := p2.2 (fr + j) (by omega)
          rw [hf.2.2 (fr + j) (by omega)] at hrow
          have htk := t2.2 k (by omega)
          have w1 := prow hL (i := ((fr + j : Nat) : Int)) (by omega)
          have w2 := trow hL (i := (k : Int)) (by omega)
          have er := hrow.1
          have et := htk.1
          have br := hrow.2
          have bt := htk.2
          have ed : fdT (sprF ((sprU T fr j S).2 (fr + j))) T.2 (k + 1) (sprU T fr j S) = if trnB (T.2 k) ((sprU T fr j S).2 (fr + j)) = true then lsAdd (fdT (sprF ((sprU T fr j S).2 (fr + j))) T.2 k (sprU T fr j S)) (trnP (T.2 k) ((sprU T fr j S).2 (fr + j))) else fdT (sprF ((sprU T fr j S).2 (fr + j))) T.2 k (sprU T fr j S) := rfl
          refine v_X3_addTurned_10 hL (by omega) (by omega) (by omega) (by omega) ⟨fun q => by omega, fun _ => ⟨by omega, ?_⟩⟩
          refine tc_turn hL s2 (hT.2 k (by omega)) (fun Ψ3 c3 s3 em kp q => ⟨1, rfl, kr1 ?_⟩) (fun Ψ3 c3 s3 kp q => ⟨0, rfl, kr0 ?_⟩)
          · rw [if_pos q] at ed
            have p3 : kPo Ψ3 (fdT (sprF ((sprU T fr j S).2 (fr + j))) T.2 k (sprU T fr j S)) := ⟨by rw [kp 222 (by omega) (by omega) (by omega)]; exact p2.1, fun i hi => ⟨by rw [kp _ (by omega) (by omega) (by omega)]; exact (p2.2 i hi).1, (p2.2 i hi).2⟩⟩
            have bn := trnP_bd q
            refine tc_addIfNew hL s3 p3 (by omega) (fun Ψ4 c4 s4 p4 k4 => ⟨rfl, ?_⟩)
            exact ih2 (k + 1) (by omega) Ψ4 c4 s4 (by rw [ed]; exact p4) (fun s q => (k4 s (by omega)).trans ((kp s (by omega) (by omega) (by omega)).trans (k2 s q)))
          · rw [if_neg q] at ed
            refine ih2 (k + 1) (by omega) Ψ3 c3 s3 ?_ (fun s q => (kp s (by omega) (by omega) (by omega)).trans (k2 s q))
            rw [ed]
            exact ⟨by rw [kp 222 (by omega) (by omega) (by omega)]; exact p2.1, fun i hi => ⟨by rw [kp _ (by omega) (by omega) (by omega)]; exact (p2.2 i hi).1, (p2.2 i hi).2⟩⟩
      exact inner T.1 0 (by omega) Ψ' c' s1 p1 k1
  have := outer (S.1 - fr) 0 (by omega) Ψ c hs hp kKq.rf
  exact v_X3_addTurned hL (by omega) (by omega) this
end CPO
