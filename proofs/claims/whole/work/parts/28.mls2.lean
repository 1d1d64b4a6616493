/-- all of the first n -/
def kAll (p : Nat → Bool) : Nat → Bool
  | 0 => true
  | n + 1 => kAll p n && p n
theorem kAll_iff {p : Nat → Bool} : ∀ n, kAll p n = true ↔ ∀ k, k < n → p k = true
  | 0 => ⟨fun _ k hk => absurd hk (by omega), fun _ => rfl⟩
  | n + 1 => by
    show (kAll p n && p n) = true ↔ _
    rw [Bool.and_eq_true, kAll_iff n]
    constructor
    · rintro ⟨a, b⟩ k hk
      by_cases e : k = n
      · subst e; exact b
      · exact a k (by omega)
    · intro h; exact ⟨fun k hk => h k (by omega), h n (by omega)⟩
/-- bits that name letters that all stand; that name MIRRORS alone -/
def kSetB (H : Int → Bool) (m most : Int) : Bool := decide (1 ≤ m ∧ m ≤ 4095 ∧ (kpop m.toNat : Int) ≤ most) && kAll (fun k => !kbit m k || H k) 12
def kMirS (F : Int → KF) (m : Int) : Bool := kAll (fun k => !kbit m k || kMirB (kind (F k))) 12
theorem kSetB_iff {H : Int → Bool} {m most : Int} : kSetB H m most = true ↔ (1 ≤ m ∧ m ≤ 4095 ∧ (kpop m.toNat : Int) ≤ most) ∧ ∀ k : Nat, k < 12 → kbit m k = true → H k = true := by
  unfold kSetB
  rw [Bool.and_eq_true, decide_eq_true_iff, kAll_iff]
  constructor
  · rintro ⟨a, b⟩
    exact ⟨a, fun k hk h => by have := b k hk; rw [h] at this; exact this⟩
  · rintro ⟨a, b⟩
    refine ⟨a, fun k hk => ?_⟩
    cases w : kbit m k with
    | false => rfl
    | true => rw [b k hk w]; rfl
theorem kMirS_iff {F : Int → KF} {m : Int} : kMirS F m = true ↔ ∀ k : Nat, k < 12 → kbit m k = true → kMir (kind (F k)) := by
  unfold kMirS
  rw [kAll_iff]
  constructor
  · intro b k hk h
    have := b k hk
    rw [h] at this
    exact kMirB_iff.mp this
  · intro b k hk
    cases w : kbit m k with
    | false => rfl
    | true => rw [kMirB_iff.mpr (b k hk w)]; rfl
/-- one FORM turned by all MIRRORS that are named -/
def sprK (m : Int) (F : Int → KF) (A : KF) : Nat → KLs → KLs
  | 0, S => S
  | k + 1, S => if kbit m k = true ∧ trnB (vecP (F k)) A = true then lsAdd (sprK m F A k S) (trnP (vecP (F k)) A) else sprK m F A k S
def sprI (m : Int) (F : Int → KF) (fr : Nat) : Nat → KLs → KLs
  | 0, S => S
  | j + 1, S => sprK m F ((sprI m F fr j S).2 (fr + j)) 12 (sprI m F fr j S)
theorem lsAdd_le (S : KLs) (f : KF) : S.1 ≤ (lsAdd S f).1 ∧ (lsAdd S f).1 ≤ S.1 + 1 ∧ ∀ i, i < S.1 → (lsAdd S f).2 i = S.2 i := by
  unfold lsAdd lsPut
  split
  · exact ⟨Nat.le_refl _, by omega, fun _ _ => rfl⟩
  · refine ⟨by show S.1 ≤ S.1 + 1; omega, Nat.le_refl _, fun i hi => ?_⟩
    show (if i = S.1 then f else S.2 i) = _
    rw [if_neg (by omega)]
theorem sprK_le (m : Int) (F : Int → KF) (A : KF) (S : KLs) : ∀ k, S.1 ≤ (sprK m F A k S).1 ∧ (sprK m F A k S).1 ≤ S.1 + kCn (kbit m) k ∧ ∀ i, i < S.1 → (sprK m F A k S).2 i = S.2 i
  | 0 => ⟨Nat.le_refl _, Nat.le_refl _, fun _ _ => rfl⟩
  | k + 1 => by
    obtain ⟨h1, h2, h3⟩ := sprK_le m F A S k
    have e1 : kCn (kbit m) (k + 1) = if kbit m k = true then kCn (kbit m) k + 1 else kCn (kbit m) k := rfl
    have e2 : sprK m F A (k + 1) S = if kbit m k = true ∧ trnB (vecP (F k)) A = true then lsAdd (sprK m F A k S) (trnP (vecP (F k)) A) else sprK m F A k S := rfl
    rw [e1, e2]
    by_cases q : kbit m k = true ∧ trnB (vecP (F k)) A = true
    · obtain ⟨g1, g2, g3⟩ := lsAdd_le (sprK m F A k S) (trnP (vecP (F k)) A)
      rw [if_pos q, if_pos q.1]
      exact ⟨by omega, by omega, fun i hi => (g3 i (by omega)).trans (h3 i hi)⟩
    · rw [if_neg q]
      exact ⟨h1, by split <;> omega, h3⟩
theorem sprI_le (m : Int) (F : Int → KF) (fr : Nat) (S : KLs) : ∀ j, S.1 ≤ (sprI m F fr j S).1 ∧ (sprI m F fr j S).1 ≤ S.1 + kCn (kbit m) 12 * j
  | 0 => ⟨Nat.le_refl _, Nat.le_refl _⟩
  | j + 1 => by
    have h := sprI_le m F fr S j
    have g := sprK_le m F ((sprI m F fr j S).2 (fr + j)) (sprI m F fr j S) 12
    have e : sprI m F fr (j + 1) S = sprK m F ((sprI m F fr j S).2 (fr + j)) 12 (sprI m F fr j S) := rfl
    rw [e, Nat.mul_succ]
    omega
theorem kCn_mono (p : Nat → Bool) (k : Nat) : ∀ n, k < n → kCn p k + (if p k = true then 1 else 0) ≤ kCn p n
  | 0, h => by omega
  | n + 1, h => by
    have e : kCn p (n + 1) = if p n = true then kCn p n + 1 else kCn p n := rfl
    by_cases w : k = n
    · subst w; rw [e]
      by_cases q : p k = true
      · rw [if_pos q, if_pos q]; omega
      · rw [if_neg q, if_neg q]; omega
    · have := kCn_mono p k n (by omega)
      rw [e]
      by_cases q : p n = true
      · rw [if_pos q]; omega
      · rw [if_neg q]; exact this
section MLS
variable {G : KG} {S0 : KSh} {d : Nat} {P : Option AV → KMem → Prop} {c c0 : KMem} {Φ : Int → KF} {H : Int → Bool} {F : Int → KF} {f g : KF} {M m : Int} {S : KLs} {x0 x1 x2 x3 x4 : Int}
theorem kLs.put_or (hb : kB kLB f) (h : kLs S c) (hn : lsHas S.2 f S.1 = true) : kLs (lsAdd S f) c := by unfold lsAdd; rw [if_pos hn]; exact h
theorem trnP_bd (h : trnB g f = true) : kB kLB (trnP g f) := by
  unfold trnB at h
  rw [Bool.and_eq_true] at h
  exact nrmP_bd (kWb_iff.mp h.2)
theorem t_spreads (hL : kLay S0) (hg : kSgn c0) (hs : kPh Φ c0 c) (hl : kLs S c0) (e3 : Φ 30 = farP) (hm : 0 ≤ m ∧ m < 4096) (hF : ∀ k : Nat, k < 12 → kbit m k = true → Φ k = F k ∧ kB kLB (F k) ∧ kMir (kind (F k))) {fr : Nat} (hfr : fr ≤ S.1) (hsz : S.1 + kCn (kbit m) 12 * (S.1 - fr) ≤ 300) (h : ∀ (Φ' : Int → KF) c', kPh Φ' c' c' → kLs (sprI m F fr (S.1 - fr) S) c' → kFr c0 c' → kSgn c' → (∀ s : Int, 0 ≤ s → s < 12 ∨ s = 30 ∨ s = 28 → Φ' s = Φ s) → P none c') : kC2 G S0 kM_X11_spreads (d + 4) [kA 558, kI fr, kI m] c P := by
  have inner : ∀ (i : Nat) (T : KLs), i < S.1 → i < T.1 → T.1 + kCn (kbit m) 12 ≤ 300 → (∀ (Φ' : Int → KF) c', kPh Φ' c' c' → kLs (sprK m F (T.2 i) 12 T) c' → kFr c0 c' → kSgn c' → (∀ s : Int, 0 ≤ s → s < 12 ∨ s = 30 ∨ s = 28 → Φ' s = Φ s) → kW2 G S0 kM_X11_spreads (d + 4) 8 [some (kA 558), none, some (kI m), some (kI (S.1 : Int)), some (kI ((i + 1 : Nat) : Int)), none] [] c' P) → ∀ n k : Nat, k + n = 12 → ∀ (Φ' : Int → KF) c', kPh Φ' c' c' → kLs (sprK m F (T.2 i) k T) c' → kFr c0 c' → kSgn c' → (∀ s : Int, 0 ≤ s → s < 12 ∨ s = 30 ∨ s = 28 → Φ' s = Φ s) → kW2 G S0 kM_X11_spreads (d + 4) 17 [some (kA 558), none, some (kI m), some (kI (S.1 : Int)), some (kI (i : Int)), some (kI (k : Int))] [] c' P := by
    intro i T hi hiT hT K n
    induction n with
    | zero =>
      intro k hk Φ' c' hs hl hf hg hk2
      obtain rfl : k = 12 := by omega
      exact v_X11_spreads_17 hL (by omega) (by omega) (by omega) (by omega) (by omega) ⟨fun _ => K Φ' c' hs hl hf hg hk2, fun q => by omega⟩
    | succ n ih =>
      intro k hk Φ' c' hs hl hf hg hk2
      obtain ⟨g1, g2, g3⟩ := sprK_le m F (T.2 i) T k
      have hcn : kCn (kbit m) k + (if kbit m k = true then 1 else 0) ≤ kCn (kbit m) 12 := kCn_mono (kbit m) k 12 (by omega)
      have e2 : sprK m F (T.2 i) (k + 1) T = if kbit m k = true ∧ trnB (vecP (F k)) (T.2 i) = true then lsAdd (sprK m F (T.2 i) k T) (trnP (vecP (F k)) (T.2 i)) else sprK m F (T.2 i) k T := rfl
      have next : ∀ (Φ' : Int → KF) c', kPh Φ' c' c' → kLs (sprK m F (T.2 i) (k + 1) T) c' → kFr c0 c' → kSgn c' → (∀ s : Int, 0 ≤ s → s < 12 ∨ s = 30 ∨ s = 28 → Φ' s = Φ s) → kW2 G S0 kM_X11_spreads (d + 4) 78 [some (kA 558), none, some (kI m), some (kI (S.1 : Int)), some (kI (i : Int)), some (kI (k : Int))] [] c' P := fun Φ' c' a b e f g => v_X11_spreads_78 hL (by omega) (by omega) (by omega) (by omega) (ih (k + 1) (by omega) Φ' c' a b e f g)
      refine v_X11_spreads_17 hL (by omega) (by omega) (by omega) (by omega) (by omega) ⟨fun q => by omega, fun _ => ⟨fun z => ?_, fun z => ?_⟩⟩
      · have zb := (kbit_iff hm (by omega)).mp z
        rw [if_pos zb] at hcn
        obtain ⟨p1, p2, p3⟩ := hF k (by omega) zb
        have p4 : Φ' k = F k := (hk2 k (by omega) (by omega)).trans p1
        have hbl := (hl.2 i (by omega)).2
        have eT := g3 i hiT
        rw [eT] at hbl
        refine t_takesListed hL hs hl (i := i) (by omega) (by omega) (fun c1 hs => ⟨rfl, ?_⟩) (by omega)
        rw [eT] at hs
        refine t_laysVector hL hg hs (kMir_obj p3) (fun c2 hs => ⟨rfl, ?_⟩)
        refine t_isTurnedBy hL hg hs (fun c3 hs q => ⟨1, rfl, kr1 ?_⟩) (fun c3 a hs q => ⟨0, rfl, kr0 ?_⟩) (by omega) (by repeat (first | with_reducible exact kUs | with_reducible assumption | (with_reducible apply kUn; omega) | exact rfl)) kUs hbl (vecP_bd p2)
        · have bt := trnP_bd q
          rw [if_pos ⟨zb, q⟩] at e2
          refine t_isListed hL hs hl (by omega) (fun w => ⟨1, rfl, kq1 ?_⟩) (fun w => ⟨0, rfl, kq0 ?_⟩) (by omega) kUs bt
          · refine next _ _ hs.own (hs.ls ?_) (hf.tr hs.fr) (hs.sgn hg) (by intro s p q; repeat (first | exact hk2 s p q | refine kUn (by omega) ?_))
            rw [e2]; unfold lsAdd; rw [if_pos w]; exact hl
          · refine t_listsForm hL hs hl (by omega) (fun c4 hs4 hl4 hf4 hg4 => ⟨rfl, ?_⟩) (by omega) kUs bt
            refine next _ _ hs4 ?_ (hf.tr hf4) (hg4 hg) (by intro s p q; repeat (first | exact hk2 s p q | refine kUn (by omega) ?_))
            rw [e2]; unfold lsAdd; rw [if_neg w]; exact hl4
        · rw [if_neg (fun w => q w.2)] at e2
          exact next _ _ hs.own (by rw [e2]; exact hs.ls hl) (hf.tr hs.fr) (hs.sgn hg) (by intro s p q; repeat (first | exact hk2 s p q | refine kUn (by omega) ?_))
      · have zb : ¬ kbit m k = true := fun w => z ((kbit_iff hm (by omega)).mpr w)
        rw [if_neg (fun w => zb w.1)] at e2
        exact next _ _ hs (by rw [e2]; exact hl) hf hg hk2
  have outer : ∀ n j : Nat, j + n = S.1 - fr → ∀ (Φ' : Int → KF) c', kPh Φ' c' c' → kLs (sprI m F fr j S) c' → kFr c0 c' → kSgn c' → (∀ s : Int, 0 ≤ s → s < 12 ∨ s = 30 ∨ s = 28 → Φ' s = Φ s) → kW2 G S0 kM_X11_spreads (d + 4) 8 [some (kA 558), none, some (kI m), some (kI (S.1 : Int)), some (kI ((fr + j : Nat) : Int)), none] [] c' P := by
    intro n
    induction n with
    | zero =>
      intro j hj Φ' c' hs hl hf hg hk2
      obtain rfl : j = S.1 - fr := by omega
      exact v_X11_spreads_8 hL (by omega) (by omega) (by omega) ⟨fun _ => h Φ' c' hs hl hf hg hk2, fun q => by omega⟩
    | succ n ih =>
      intro j hj Φ' c' hs hl hf hg hk2
      have hle := sprI_le m F fr S j
      have hmul : kCn (kbit m) 12 * (j + 1) ≤ kCn (kbit m) 12 * (S.1 - fr) := Nat.mul_le_mul (Nat.le_refl _) (by omega)
      rw [Nat.mul_succ] at hmul
      refine v_X11_spreads_8 hL (by omega) (by omega) (by omega) ⟨fun q => by omega, fun _ => ?_⟩
      exact inner (fr + j) (sprI m F fr j S) (by omega) (by omega) (by omega) (fun Φ' c' a b e f g => ih (j + 1) (by omega) Φ' c' a b e f g) 12 0 (by omega) Φ' c' hs hl hf hg hk2
  have hl2 := hs.ls hl
  refine v_X11_spreads hL (by omega) (by omega) (by have := hl2.1; omega) ?_
  rw [hl2.1]
  exact outer (S.1 - fr) 0 (by omega) Φ c hs.own hl2 hs.fr (hs.sgn hg) (fun _ _ _ => rfl)
end MLS
