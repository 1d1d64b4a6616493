/-- one address alone changes -/
def kO (a : Int) (c c' : KMem) : Prop := ∀ x i : Int, x ≠ a → c' x i = c x i
theorem kO.rf {a : Int} {c : KMem} : kO a c c := fun _ _ _ => rfl
theorem kO.tr {a : Int} {c c1 c2 : KMem} (h : kO a c c1) (g : kO a c1 c2) : kO a c c2 := fun x i q => (g x i q).trans (h x i q)
theorem kO.up {a i v : Int} {c c1 : KMem} (h : kO a c c1) : kO a c (kup c1 a i v) := fun x j q => (kup_n (Or.inl q)).trans (h x j q)
theorem kO.e {a x : Int} {c c1 : KMem} (h : kO a c c1) (q : x ≠ a) : c1 x = c x := funext fun i => h x i q
/-- a row that is changed PART by PART -/
def kMp (x : Int) (g f : KF) (k : Nat) (c' : KMem) : Prop := ∀ j : Int, 0 ≤ j → j < 16 → c' x j = if j < k then g j else f j
theorem kMp.ini {x : Int} {g : KF} {c : KMem} : kMp x g (c x) 0 c := fun j a b => by rw [if_neg (by omega)]
theorem kMp.up {x v : Int} {g f : KF} {k : Nat} {c' : KMem} (h : kMp x g f k c') (e : v = g k) : kMp x g f (k + 1) (kup c' x k v) := fun j a b => by
  by_cases q : j = k
  · rw [q, kup_s, if_pos (by omega), e]
  · rw [kup_n (Or.inr q), h j a b]
    by_cases w : j < k
    · rw [if_pos w, if_pos (by omega)]
    · rw [if_neg w, if_neg (by omega)]
theorem kMp.sk {x : Int} {g f : KF} {k : Nat} {c' : KMem} (h : kMp x g f k c') (e : f k = g k) : kMp x g f (k + 1) c' := fun j a b => by
  rw [h j a b]
  by_cases q : j = k
  · rw [q, if_neg (by omega), if_pos (by omega), e]
  · by_cases w : j < k
    · rw [if_pos w, if_pos (by omega)]
    · rw [if_neg w, if_neg (by omega)]
theorem kMp.at {x : Int} {g f : KF} {k : Nat} {c' : KMem} (h : kMp x g f k c') (hk : k < 16) : c' x k = f k := by rw [h k (by omega) (by omega), if_neg (by omega)]
theorem kMp.fin {x : Int} {g f : KF} {c' : KMem} (h : kMp x g f 16 c') : kEq (c' x) g := fun j a b => by rw [h j a b, if_pos (by omega)]
/-- the table of signs in the class -/
theorem ksgn_c : ∀ a : Nat, a < 16 → ∀ b : Nat, b < 16 → (if kand (kshr (kSigns.getD (Int.toNat (a : Int)) 0).toInt (b : Int)) 1 = 0 then (1 : Int) else -1) = ksg a b := by decide +kernel
theorem ksgn0 {a b : Nat} (ha : a < 16) (hb : b < 16) (h : kand (kshr (kSigns.getD (Int.toNat (a : Int)) 0).toInt (b : Int)) 1 = 0) : ksg a b = 1 := by rw [← ksgn_c a ha b hb, if_pos h]
theorem ksgn1 {a b : Nat} (ha : a < 16) (hb : b < 16) (h : kand (kshr (kSigns.getD (Int.toNat (a : Int)) 0).toInt (b : Int)) 1 ≠ 0) : ksg a b = -1 := by rw [← ksgn_c a ha b hb, if_neg h]
theorem kx15 : ∀ a, a < 16 → ∀ k, k < 16 → kand (kxor ((a : Nat) : Int) ((k : Nat) : Int)) 15 = ((a ^^^ k : Nat) : Int) := by decide +kernel
def negP (f : KF) : KF := fun k => -f k
def grdP (g : Int) (f : KF) : KF := fun k => if (kpop k.toNat : Int) = g then f k else 0
def addP (f g : KF) : KF := fun k => f k + g k
def subP (f g : KF) : KF := fun k => f k + -g k
def numP (v : Int) : KF := fun k => if k = 0 then v else 0
def kLame : Nat → Nat × Nat
  | 0 => (0, 1)
  | n + 1 => ((kLame n).2, (kLame n).1 + (kLame n).2)
theorem kLame_92 : 9223372036854775808 < (kLame 92).2 := by decide +kernel
section CAL
variable {G : KG} {S0 : KSh} {d : Nat} {P : Option AV → KMem → Prop} {c : KMem} {x0 x1 x2 x3 x4 : Int}
theorem s_X0_partOf (hL : kLay S0) (h0 : x0 = 0 ∨ x0 = 1 ∨ x0 = 2) (hx1 : S0.2.1 x1 = (2, 16)) (hx2 : S0.2.1 x2 = (2, 16)) (h3 : 0 ≤ x3 ∧ x3 < 16) (b1 : ∀ k : Int, 0 ≤ k → k < 16 → k64 (c x1 k)) (b2 : ∀ k : Int, 0 ≤ k → k < 16 → k64 (c x2 k)) (h : P (some (kL (mulP x0 (c x1) (c x2) x3))) c) : kC2 G S0 kM_X0_partOf (d + 1) [kI x0, kA x1, kA x2, kI x3] c P := by
  obtain ⟨p, rfl⟩ := kint_nat h3.1
  have loop : ∀ n a : Nat, a + n = 16 → kW2 G S0 kM_X0_partOf (d + 1) 6 [some (kI x0), some (kA x1), some (kA x2), some (kI (p : Int)), some (kL (kSum a (kT x0 (c x1) (c x2) p))), none, some (kI (a : Int)), none, none, none] [] c P := by
    intro n
    induction n with
    | zero =>
      intro a ha
      obtain rfl : a = 16 := by omega
      refine v_X0_partOf_6 hL (by omega) hx1 hx2 (by omega) (by omega) ⟨fun _ => ?_, fun q => by omega⟩
      have e : mulP x0 (c x1) (c x2) (p : Int) = kSum 16 (kT x0 (c x1) (c x2) p) := rfl
      rw [← e]; exact h
    | succ n ih =>
      intro a ha
      have hx := kx16 a (by omega) p (by omega)
      have e1 : kand (kxor ((a : Nat) : Int) ((p : Nat) : Int)) 15 = ((a ^^^ p : Nat) : Int) := kx15 a (by omega) p (by omega)
      have es : kSum (a + 1) (kT x0 (c x1) (c x2) p) = kSum a (kT x0 (c x1) (c x2) p) + kT x0 (c x1) (c x2) p a := rfl
      have next : ∀ v : Int, v = kSum (a + 1) (kT x0 (c x1) (c x2) p) → kW2 G S0 kM_X0_partOf (d + 1) 89 [some (kI x0), some (kA x1), some (kA x2), some (kI (p : Int)), some (kL v), none, some (kI (a : Int)), none, none, none] [] c P := by
        intro v hv
        rw [hv]
        exact v_X0_partOf_89 hL (by omega) hx1 hx2 (by omega) (by omega) (ih (a + 1) (by omega))
      refine v_X0_partOf_6 hL (by omega) hx1 hx2 (by omega) (by omega) ⟨fun q => by omega, fun _ => ⟨b1 a (by omega) (by omega), fun z => next _ ?_, fun z => ?_⟩⟩
      · rw [es, kT_0 z]; omega
      · rw [e1]
        refine ⟨⟨by omega, by omega⟩, b2 _ (by omega) (by omega), fun y => next _ ?_, fun y => ⟨h0, fun w => ⟨fun s => next _ ?_, fun s => next _ ?_⟩, fun w => next _ ?_⟩⟩
        · have : kT x0 (c x1) (c x2) p a = 0 := by unfold kT; rw [y]; split <;> simp
          rw [es, this]; omega
        · have : kT x0 (c x1) (c x2) p a = c x1 a * c x2 ((a ^^^ p : Nat) : Int) := by unfold kT; rw [if_pos w, ksgn0 (by omega) hx.1 s, Int.one_mul]
          rw [es, this]
        · have : kT x0 (c x1) (c x2) p a = -(c x1 a * c x2 ((a ^^^ p : Nat) : Int)) := by unfold kT; rw [if_pos w, ksgn1 (by omega) hx.1 s, Int.neg_one_mul, Int.neg_mul]
          rw [es, this]
        · have : kT x0 (c x1) (c x2) p a = 0 := by unfold kT; rw [if_neg w]
          rw [es, this]; omega
  exact v_X0_partOf hL (by omega) hx1 hx2 (by omega) (loop 16 0 (by omega))
theorem s_X0_multiply (hL : kLay S0) (h0 : x0 = 0 ∨ x0 = 1 ∨ x0 = 2) (hx1 : S0.2.1 x1 = (2, 16)) (hx2 : S0.2.1 x2 = (2, 16)) (hx3 : S0.2.1 x3 = (2, 16)) (n1 : x1 ≠ x3) (n2 : x2 ≠ x3) (b1 : ∀ k : Int, 0 ≤ k → k < 16 → k64 (c x1 k)) (b2 : ∀ k : Int, 0 ≤ k → k < 16 → k64 (c x2 k)) (h : ∀ c', kEq (c' x3) (mulP x0 (c x1) (c x2)) → kO x3 c c' → P none c') : kC2 G S0 kM_X0_multiply (d + 1) [kI x0, kA x1, kA x2, kA x3] c P := by
  have L2 : ∀ n a : Nat, a + n = 16 → ∀ c', kO x3 c c' → (∀ k : Nat, k < 16 → c' x3 k = kSum a (kT x0 (c x1) (c x2) k)) → kW2 G S0 kM_X0_multiply (d + 1) 24 [some (kI x0), some (kA x1), some (kA x2), some (kA x3), some (kI (a : Int)), none, none, none] [] c' P := by
    intro n
    induction n with
    | zero =>
      intro a ha c' h1 h2
      obtain rfl : a = 16 := by omega
      refine v_X0_multiply_24 hL (by omega) hx1 hx2 hx3 (by omega) ⟨fun _ => h c' (fun j j0 j1 => ?_) h1, fun q => by omega⟩
      obtain ⟨k, rfl⟩ := kint_nat j0
      exact h2 k (by omega)
    | succ n ih =>
      intro a ha c' h1 h2
      have L3 : ∀ m b : Nat, b + m = 16 → ∀ c', kO x3 c c' → (∀ k : Nat, k < 16 → c' x3 k = kSum a (kT x0 (c x1) (c x2) k) + (if a ^^^ k < b then kT x0 (c x1) (c x2) k a else 0)) → kW2 G S0 kM_X0_multiply (d + 1) 34 [some (kI x0), some (kA x1), some (kA x2), some (kA x3), some (kI (a : Int)), some (kI (b : Int)), none, none] [] c' P := by
        intro m
        induction m with
        | zero =>
          intro b hb c' h1 h2
          refine v_X0_multiply_34 hL (by omega) hx1 hx2 hx3 (by omega) (by omega) (by omega) ⟨fun _ => ih (a + 1) (by omega) c' h1 (fun k hk => ?_), fun q => by omega⟩
          rw [h2 k hk, if_pos (by have := (kx16 a (by omega) k hk).1; omega)]
          rfl
        | succ m ih2 =>
          intro b hb c' h1 h2
          have f1 : c' x1 = c x1 := h1.e n1
          have f2 : c' x2 = c x2 := h1.e n2
          have hx := kx16 a (by omega) b (by omega)
          have e1 : kxor ((a : Nat) : Int) ((b : Nat) : Int) = ((a ^^^ b : Nat) : Int) := kxor_nat a b (by omega) (by omega)
          have nx : ∀ c2, kO x3 c c2 → (∀ k : Nat, k < 16 → c2 x3 k = kSum a (kT x0 (c x1) (c x2) k) + (if a ^^^ k < b + 1 then kT x0 (c x1) (c x2) k a else 0)) → kW2 G S0 kM_X0_multiply (d + 1) 113 [some (kI x0), some (kA x1), some (kA x2), some (kA x3), some (kI (a : Int)), some (kI (b : Int)), none, none] [] c2 P := fun c2 p q =>
            v_X0_multiply_113 hL (by omega) hx1 hx2 hx3 (by omega) (by omega) (ih2 (b + 1) (by omega) c2 p q)
          have same : (∀ k : Nat, k < 16 → a ^^^ k = b → kT x0 (c x1) (c x2) k a = 0) → kW2 G S0 kM_X0_multiply (d + 1) 113 [some (kI x0), some (kA x1), some (kA x2), some (kA x3), some (kI (a : Int)), some (kI (b : Int)), none, none] [] c' P := fun q => nx c' h1 (fun k hk => by
            rw [h2 k hk]
            by_cases w : a ^^^ k = b
            · rw [if_neg (by omega), if_pos (by omega), q k hk w]
            · by_cases y : a ^^^ k < b
              · rw [if_pos y, if_pos (by omega)]
              · rw [if_neg y, if_neg (by omega)])
          have chg : ∀ v : Int, v = c' x3 ((a ^^^ b : Nat) : Int) + kT x0 (c x1) (c x2) (a ^^^ b) a → kW2 G S0 kM_X0_multiply (d + 1) 113 [some (kI x0), some (kA x1), some (kA x2), some (kA x3), some (kI (a : Int)), some (kI (b : Int)), none, none] [] (kup c' x3 ((a ^^^ b : Nat) : Int) v) P := fun v hv => nx _ h1.up (fun k hk => by
            by_cases w : k = a ^^^ b
            · have w2 : a ^^^ k = b := by rw [w]; exact hx.2.2
              rw [w, kup_s, hv, h2 _ hx.1, ← w, if_neg (by omega), if_pos (by omega)]
              omega
            · have w2 : a ^^^ k ≠ b := fun q => w (by rw [← q]; exact (kx16 a (by omega) k hk).2.2.symm)
              rw [kup_n (Or.inr (by omega)), h2 k hk]
              by_cases y : a ^^^ k < b
              · rw [if_pos y, if_pos (by omega)]
              · rw [if_neg y, if_neg (by omega)])
          refine v_X0_multiply_34 hL (by omega) hx1 hx2 hx3 (by omega) (by omega) (by omega) ⟨fun q => by omega, fun _ => ?_⟩
          rw [f1, f2, e1]
          refine ⟨b1 a (by omega) (by omega), fun z => ih (a + 1) (by omega) c' h1 (fun k hk => ?_), fun z => ⟨b2 b (by omega) (by omega), fun y => same (fun k hk w => ?_), fun y => ⟨h0, fun w => ⟨⟨by omega, by omega⟩, fun s => chg _ ?_, fun s => chg _ ?_⟩, fun w => same (fun k hk y2 => ?_)⟩⟩⟩
          · have e : kSum (a + 1) (kT x0 (c x1) (c x2) k) = kSum a (kT x0 (c x1) (c x2) k) + kT x0 (c x1) (c x2) k a := rfl
            rw [h2 k hk, e, kT_0 z]; split <;> rfl
          · unfold kT; rw [w, y]; split <;> simp
          · unfold kT; rw [hx.2.2, if_pos w, ksgn0 (by omega) (by omega) s, Int.one_mul]
          · unfold kT; rw [hx.2.2, if_pos w, ksgn1 (by omega) (by omega) s, Int.neg_one_mul, Int.neg_mul]
          · unfold kT; rw [y2, if_neg w]
      refine v_X0_multiply_24 hL (by omega) hx1 hx2 hx3 (by omega) ⟨fun q => by omega, fun _ => L3 16 0 (by omega) c' h1 (fun k hk => ?_)⟩
      rw [h2 k hk, if_neg (by omega)]; omega
  have L1 : ∀ n k : Nat, k + n = 16 → ∀ c', kO x3 c c' → (∀ j : Nat, j < k → c' x3 j = 0) → kW2 G S0 kM_X0_multiply (d + 1) 3 [some (kI x0), some (kA x1), some (kA x2), some (kA x3), some (kI (k : Int)), none, none, none] [] c' P := by
    intro n
    induction n with
    | zero =>
      intro k hk c' h1 h2
      exact v_X0_multiply_3 hL (by omega) hx1 hx2 hx3 (by omega) ⟨fun _ => L2 16 0 (by omega) c' h1 (fun j hj => h2 j (by omega)), fun q => by omega⟩
    | succ n ih =>
      intro k hk c' h1 h2
      refine v_X0_multiply_3 hL (by omega) hx1 hx2 hx3 (by omega) ⟨fun q => by omega, fun _ => ih (k + 1) (by omega) _ h1.up (fun j hj => ?_)⟩
      by_cases e : j = k
      · rw [e, kup_s]
      · rw [kup_n (Or.inr (by omega))]; exact h2 j (by omega)
  exact v_X0_multiply hL (by omega) hx1 hx2 hx3 (L1 16 0 (by omega) c kO.rf (fun j hj => by omega))
theorem s_X0_square (hL : kLay S0) (hx0 : S0.2.1 x0 = (2, 16)) (b1 : ∀ k : Int, 0 ≤ k → k < 16 → k64 (c x0 k)) (h : P (some (kL (mulP 0 (c x0) (c x0) 0))) c) : kC2 G S0 kM_X0_square (d + 2) [kA x0] c P :=
  v_X0_square hL hx0 (s_X0_partOf hL (Or.inl rfl) hx0 hx0 (by omega) b1 b1 ⟨_, rfl, h⟩)
theorem s_X0_isOuterZero (hL : kLay S0) (hx0 : S0.2.1 x0 = (2, 16)) (hx1 : S0.2.1 x1 = (2, 16)) {M N : Int} (b1 : kB M (c x0)) (b2 : kB N (c x1)) (hM : 0 ≤ M ∧ M < 9223372036854775807) (hN : 0 ≤ N ∧ N < 9223372036854775807) (hMN : 16 * (M * N) < 9223372036854775807) (h1 : kZb (mulP 1 (c x0) (c x1)) = true → P (some (kI 1)) c) (h0 : ¬ kZb (mulP 1 (c x0) (c x1)) = true → P (some (kI 0)) c) : kC2 G S0 kM_X0_isOuterZero (d + 2) [kA x0, kA x1] c P := by
  rw [kZb_iff] at h1 h0
  have bm : kB (16 * (M * N)) (mulP 1 (c x0) (c x1)) := mulP_bd hM.1 hN.1 b1 b2
  have loop : ∀ n k : Nat, k + n = 16 → (∀ j : Int, 0 ≤ j → j < k → mulP 1 (c x0) (c x1) j = 0) → kW2 G S0 kM_X0_isOuterZero (d + 2) 2 [some (kA x0), some (kA x1), some (kI (k : Int))] [] c P := by
    intro n
    induction n with
    | zero =>
      intro k hk q
      exact v_X0_isOuterZero_2 hL hx0 hx1 (by omega) ⟨fun _ => h1 (fun j a b => q j a (by omega)), fun z => by omega⟩
    | succ n ih =>
      intro k hk q
      refine v_X0_isOuterZero_2 hL hx0 hx1 (by omega) ⟨fun z => by omega, fun _ => s_X0_partOf hL (Or.inr (Or.inl rfl)) hx0 hx1 (by omega) (kb64 b1 hM.2) (kb64 b2 hN.2) ⟨_, rfl, kb64 bm hMN k (by omega) (by omega), fun z => ih (k + 1) (by omega) (fun j a b => ?_), fun z => h0 (fun y => z (y k (by omega) (by omega)))⟩⟩
      by_cases e : j = k
      · rw [e]; exact z
      · exact q j a (by omega)
  exact v_X0_isOuterZero hL hx0 hx1 (loop 16 0 (by omega) (fun j a b => by omega))
theorem s_X0_timesWholeUnit (hL : kLay S0) (hx0 : S0.2.1 x0 = (2, 16)) (h1 : 0 ≤ x1 ∧ x1 < 16) (h : P (some (kL (whlP 1 (c x0) x1))) c) : kC2 G S0 kM_X0_timesWholeUnit d [kA x0, kI x1] c P := by
  obtain ⟨k, rfl⟩ := kint_nat h1.1
  have e1 : kand (kxor ((k : Nat) : Int) 15) 15 = ((k ^^^ 15 : Nat) : Int) := kx15 k (by omega) 15 (by omega)
  have hx := (kx16 k (by omega) 15 (by omega)).1
  have hw : whlP 1 (c x0) (k : Int) = ksg (k ^^^ 15) 15 * c x0 ((k ^^^ 15 : Nat) : Int) := by unfold whlP; rw [show ((k : Nat) : Int).toNat = k by omega, Nat.xor_comm 15 k, Int.one_mul]
  rw [hw] at h
  refine v_X0_timesWholeUnit hL hx0 (by omega) ?_
  rw [e1]
  refine ⟨fun s => ⟨⟨by omega, by omega⟩, ?_⟩, fun s => ⟨⟨by omega, by omega⟩, ?_⟩⟩
  · rw [ksgn0 hx (b := 15) (by decide) s, Int.one_mul] at h; exact h
  · rw [ksgn1 hx (b := 15) (by decide) s, Int.neg_one_mul] at h; exact h
theorem whl_neg (f : KF) (k : Int) : whlP (-1) f k = -whlP 1 f k := by unfold whlP; rw [Int.mul_assoc, Int.mul_assoc, Int.neg_one_mul, Int.one_mul]
theorem s_X0_dual (hL : kLay S0) (hx0 : S0.2.1 x0 = (2, 16)) (hx1 : S0.2.1 x1 = (2, 16)) (ne : x0 ≠ x1) (h : ∀ c', kEq (c' x1) (whlP (-1) (c x0)) → kO x1 c c' → P none c') : kC2 G S0 kM_X0_dual (d + 1) [kA x0, kA x1] c P := by
  have loop : ∀ n k : Nat, k + n = 16 → ∀ c', kMp x1 (whlP (-1) (c x0)) (c x1) k c' → kO x1 c c' → kW2 G S0 kM_X0_dual (d + 1) 2 [some (kA x0), some (kA x1), some (kI (k : Int))] [] c' P := by
    intro n
    induction n with
    | zero =>
      intro k hk c' h1 h2
      obtain rfl : k = 16 := by omega
      exact v_X0_dual_2 hL hx0 hx1 (by omega) ⟨fun _ => h c' h1.fin h2, fun z => by omega⟩
    | succ n ih =>
      intro k hk c' h1 h2
      refine v_X0_dual_2 hL hx0 hx1 (by omega) ⟨fun z => by omega, fun _ => s_X0_timesWholeUnit hL hx0 (by omega) ⟨_, rfl, ih (k + 1) (by omega) _ (h1.up ?_) h2.up⟩⟩
      rw [h2.e ne, whl_neg]
  exact v_X0_dual hL hx0 hx1 (loop 16 0 (by omega) c kMp.ini kO.rf)
theorem s_X0_reverse (hL : kLay S0) (hx0 : S0.2.1 x0 = (2, 16)) (h : ∀ c', kEq (c' x0) (revP (c x0)) → kO x0 c c' → P none c') : kC2 G S0 kM_X0_reverse (d + 1) [kA x0] c P := by
  have loop : ∀ n k : Nat, k + n = 16 → ∀ c', kMp x0 (revP (c x0)) (c x0) k c' → kO x0 c c' → kW2 G S0 kM_X0_reverse (d + 1) 2 [some (kA x0), some (kI (k : Int)), none] [] c' P := by
    intro n
    induction n with
    | zero =>
      intro k hk c' h1 h2
      obtain rfl : k = 16 := by omega
      exact v_X0_reverse_2 hL hx0 (by omega) ⟨fun _ => h c' h1.fin h2, fun z => by omega⟩
    | succ n ih =>
      intro k hk c' h1 h2
      have e := h1.at (by omega)
      refine v_X0_reverse_2 hL hx0 (by omega) ⟨fun z => by omega, fun _ => ⟨fun z => ih (k + 1) (by omega) _ (h1.up ?_) h2.up, fun z => ⟨fun y => ih (k + 1) (by omega) _ (h1.sk ?_) h2, fun y => ih (k + 1) (by omega) _ (h1.up ?_) h2.up⟩⟩⟩
      · unfold revP; rw [if_pos (by omega), e]
      · unfold revP; rw [if_neg (by omega)]
      · unfold revP; rw [if_pos (by omega), e]
  exact v_X0_reverse hL hx0 (loop 16 0 (by omega) c kMp.ini kO.rf)
theorem s_X0_negate (hL : kLay S0) (hx0 : S0.2.1 x0 = (2, 16)) (h : ∀ c', kEq (c' x0) (negP (c x0)) → kO x0 c c' → P none c') : kC2 G S0 kM_X0_negate d [kA x0] c P := by
  have loop : ∀ n k : Nat, k + n = 16 → ∀ c', kMp x0 (negP (c x0)) (c x0) k c' → kO x0 c c' → kW2 G S0 kM_X0_negate d 2 [some (kA x0), some (kI (k : Int))] [] c' P := by
    intro n
    induction n with
    | zero =>
      intro k hk c' h1 h2
      obtain rfl : k = 16 := by omega
      exact v_X0_negate_2 hL hx0 (by omega) ⟨fun _ => h c' h1.fin h2, fun z => by omega⟩
    | succ n ih =>
      intro k hk c' h1 h2
      have e := h1.at (by omega)
      exact v_X0_negate_2 hL hx0 (by omega) ⟨fun z => by omega, fun _ => ih (k + 1) (by omega) _ (h1.up (by rw [e]; rfl)) h2.up⟩
  exact v_X0_negate hL hx0 (loop 16 0 (by omega) c kMp.ini kO.rf)
theorem s_X0_keepGrade (hL : kLay S0) (hx0 : S0.2.1 x0 = (2, 16)) (r1 : k32 x1) (h : ∀ c', kEq (c' x0) (grdP x1 (c x0)) → kO x0 c c' → P none c') : kC2 G S0 kM_X0_keepGrade (d + 1) [kA x0, kI x1] c P := by
  have loop : ∀ n k : Nat, k + n = 16 → ∀ c', kMp x0 (grdP x1 (c x0)) (c x0) k c' → kO x0 c c' → kW2 G S0 kM_X0_keepGrade (d + 1) 2 [some (kA x0), some (kI x1), some (kI (k : Int))] [] c' P := by
    intro n
    induction n with
    | zero =>
      intro k hk c' h1 h2
      obtain rfl : k = 16 := by omega
      exact v_X0_keepGrade_2 hL hx0 r1 (by omega) ⟨fun _ => h c' h1.fin h2, fun z => by omega⟩
    | succ n ih =>
      intro k hk c' h1 h2
      refine v_X0_keepGrade_2 hL hx0 r1 (by omega) ⟨fun z => by omega, fun _ => ⟨fun z => ih (k + 1) (by omega) _ (h1.sk ?_) h2, fun z => ih (k + 1) (by omega) _ (h1.up ?_) h2.up⟩⟩
      · unfold grdP; rw [if_pos z]
      · unfold grdP; rw [if_neg z]
  exact v_X0_keepGrade hL hx0 r1 (loop 16 0 (by omega) c kMp.ini kO.rf)
theorem s_X0_add (hL : kLay S0) (hx0 : S0.2.1 x0 = (2, 16)) (hx1 : S0.2.1 x1 = (2, 16)) (ne : x0 ≠ x1) (r2 : k32 x2) (h : ∀ c', kEq (c' x1) (if x2 = 0 then addP (c x1) (c x0) else subP (c x1) (c x0)) → kO x1 c c' → P none c') : kC2 G S0 kM_X0_add d [kA x0, kA x1, kI x2] c P := by
  have loop : ∀ n k : Nat, k + n = 16 → ∀ c', kMp x1 (if x2 = 0 then addP (c x1) (c x0) else subP (c x1) (c x0)) (c x1) k c' → kO x1 c c' → kW2 G S0 kM_X0_add d 2 [some (kA x0), some (kA x1), some (kI x2), some (kI (k : Int))] [] c' P := by
    intro n
    induction n with
    | zero =>
      intro k hk c' h1 h2
      obtain rfl : k = 16 := by omega
      exact v_X0_add_2 hL hx0 hx1 r2 (by omega) ⟨fun _ => h c' h1.fin h2, fun z => by omega⟩
    | succ n ih =>
      intro k hk c' h1 h2
      have e := h1.at (by omega)
      refine v_X0_add_2 hL hx0 hx1 r2 (by omega) ⟨fun z => by omega, fun _ => ⟨fun z => ih (k + 1) (by omega) _ (h1.up ?_) h2.up, fun z => ih (k + 1) (by omega) _ (h1.up ?_) h2.up⟩⟩
      · rw [if_pos z, e, h2.e ne]; rfl
      · rw [if_neg z, e, h2.e ne]; rfl
  exact v_X0_add hL hx0 hx1 r2 (loop 16 0 (by omega) c kMp.ini kO.rf)
theorem s_X0_copy (hL : kLay S0) (hx0 : S0.2.1 x0 = (2, 16)) (hx1 : S0.2.1 x1 = (2, 16)) (h : ∀ c', kEq (c' x1) (c x0) → kO x1 c c' → P none c') : kC2 G S0 kM_X0_copy (d + 1) [kA x0, kA x1] c P := by
  refine v_X0_copy hL hx0 hx1 (h _ (fun j a b => ?_) (fun x i q => ?_))
  · show kcpy c x0 x1 0 0 16 x1 j = _
    unfold kcpy
    rw [if_pos (by omega)]
    congr 1; omega
  · show kcpy c x0 x1 0 0 16 x i = _
    unfold kcpy
    rw [if_neg (by omega)]
theorem s_X0_number (hL : kLay S0) (hx2 : S0.2.1 x2 = (2, 16)) (h : ∀ c', kEq (c' x2) (numP x0) → kO x2 c c' → P none c') : kC2 G S0 kM_X0_number d [kL x0, kA x2] c P := by
  have loop : ∀ n k : Nat, k + n = 16 → ∀ c', kMp x2 (fun _ => 0) (c x2) k c' → kO x2 c c' → kW2 G S0 kM_X0_number d 2 [some (kL x0), none, some (kA x2), some (kI (k : Int))] [] c' P := by
    intro n
    induction n with
    | zero =>
      intro k hk c' h1 h2
      obtain rfl : k = 16 := by omega
      refine v_X0_number_2 hL hx2 (by omega) ⟨fun _ => h _ (fun j a b => ?_) h2.up, fun z => by omega⟩
      show _ = if j = 0 then x0 else 0
      by_cases e : j = 0
      · rw [e, kup_s, if_pos rfl]
      · rw [kup_n (Or.inr e), if_neg e]; exact h1.fin j a b
    | succ n ih =>
      intro k hk c' h1 h2
      exact v_X0_number_2 hL hx2 (by omega) ⟨fun z => by omega, fun _ => ih (k + 1) (by omega) _ (h1.up rfl) h2.up⟩
  exact v_X0_number hL hx2 (loop 16 0 (by omega) c kMp.ini kO.rf)
theorem s_X0_place (hL : kLay S0) (r0 : k32 x0) (r1 : k32 x1) (hx2 : S0.2.1 x2 = (2, 16)) (h : ∀ c', kEq (c' x2) (plcP x0 x1) → kO x2 c c' → P none c') : kC2 G S0 kM_X0_place (d + 1) [kI x0, kI x1, kA x2] c P := by
  refine v_X0_place hL r0 r1 hx2 (s_X0_number hL hx2 (fun c' h1 h2 => ⟨rfl, h _ (fun j a b => ?_) h2.up.up.up.up⟩))
  unfold plcP
  by_cases e8 : j = 8
  · rw [e8, kup_s]; simp
  · rw [kup_n (Or.inr e8)]
    by_cases e4 : j = 4
    · rw [e4, kup_s]; simp
    · rw [kup_n (Or.inr e4)]
      by_cases e2 : j = 2
      · rw [e2, kup_s]; simp
      · rw [kup_n (Or.inr e2)]
        by_cases e1 : j = 1
        · rw [e1, kup_s]; simp
        · rw [kup_n (Or.inr e1), h1 j a b, if_neg e1, if_neg e2, if_neg e4, if_neg e8]
          unfold numP
          split <;> rfl
theorem s_X0_farOne (hL : kLay S0) (hx0 : S0.2.1 x0 = (2, 16)) (h : ∀ c', kEq (c' x0) farP → kO x0 c c' → P none c') : kC2 G S0 kM_X0_farOne (d + 1) [kA x0] c P := by
  refine v_X0_farOne hL hx0 (s_X0_number hL hx0 (fun c' h1 h2 => ⟨rfl, h _ (fun j a b => ?_) h2.up.up⟩))
  unfold farP
  by_cases e8 : j = 8
  · rw [e8, kup_s]; simp
  · rw [kup_n (Or.inr e8)]
    by_cases e4 : j = 4
    · rw [e4, kup_s]; simp
    · rw [kup_n (Or.inr e4), h1 j a b, if_neg (by omega)]
      unfold numP
      split <;> rfl
end CAL
