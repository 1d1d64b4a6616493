/-- the kinds that the class tells -/
def kKi (H : Int → Bool) (F : Int → KF) (Ψ : Int → KF) : Prop := ∀ l : Nat, l < 12 → Ψ 548 l = if H l = true then kind (F l) else -1
theorem kPt_iff {H : Int → Bool} {F : Int → KF} {l : Nat} : kPt H F l = true ↔ H l = true ∧ kind (F l) = 2 := by
  unfold kPt; rw [Bool.and_eq_true, kSo_e1]
theorem kKi_2 {H : Int → Bool} {F : Int → KF} {l : Nat} : (if H l = true then kind (F l) else -1) = 2 ↔ kPt H F l = true := by
  rw [kPt_iff]
  by_cases q : H l = true
  · rw [if_pos q]; exact ⟨fun w => ⟨q, w⟩, fun w => w.2⟩
  · rw [if_neg q]; exact ⟨fun w => by omega, fun w => absurd w.1 q⟩
theorem kKi_b {H : Int → Bool} {F : Int → KF} {l : Nat} : ((if H l = true then kind (F l) else -1) ≠ 2 ∧ kObj (if H l = true then kind (F l) else -1)) ↔ kBr H F l = true := by
  unfold kBr
  rw [Bool.and_eq_true, Bool.and_eq_true, Bool.not_eq_true', kObjB_iff]
  have hp := kPt_iff (H := H) (F := F) (l := l)
  by_cases q : H l = true
  · rw [if_pos q]
    constructor
    · rintro ⟨a, b⟩
      refine ⟨⟨q, b⟩, ?_⟩
      cases w : kPt H F l with
      | false => rfl
      | true => exact absurd (hp.mp w).2 a
    · rintro ⟨⟨_, b⟩, w⟩
      exact ⟨fun z => absurd (hp.mpr ⟨q, z⟩) (by rw [w]; decide), b⟩
  · rw [if_neg q]
    exact ⟨fun w => by have := w.2; unfold kObj at this; omega, fun w => absurd w.1.1 q⟩
theorem kKi_rg {H : Int → Bool} {F : Int → KF} {l : Nat} : -1 ≤ (if H l = true then kind (F l) else -1) ∧ (if H l = true then kind (F l) else -1) ≤ 42 := by
  have := kind_rg (F l); split <;> omega
theorem kCn_Sn (p : Nat → Bool) : ∀ n, kCn p n = kSn (fun i => if p i = true then 1 else 0) n
  | 0 => rfl
  | n + 1 => by
    show (if p n = true then kCn p n + 1 else kCn p n) = kSn _ n + (if p n = true then 1 else 0)
    rw [kCn_Sn p n]; split <;> omega
theorem kSn_congr {g g' : Nat → Nat} : ∀ n, (∀ i, i < n → g i = g' i) → kSn g n = kSn g' n
  | 0, _ => rfl
  | n + 1, h => by show kSn g n + g n = kSn g' n + g' n; rw [kSn_congr n (fun i hi => h i (by omega)), h n (by omega)]
abbrev T3P (F : Int → KF) (a b e : Nat) : KF := mulP 1 (mulP 1 (F a) (F b)) (F e)
def mB2 (H : Int → Bool) (F : Int → KF) (a b : Nat) : Bool := decide (a < b) && (kPt H F a && (kPt H F b && kWb (mulP 1 (F a) (F b))))
def mB3 (H : Int → Bool) (F : Int → KF) (a b e : Nat) : Bool := decide (b < e) && (kPt H F e && kWb (T3P F a b e))
def mB4 (H : Int → Bool) (F : Int → KF) (a b e k : Nat) : Bool := decide (e < k) && (kPt H F k && kZb (mulP 1 (T3P F a b e) (F k)))
def mG3 (H : Int → Bool) (F : Int → KF) (fo : Bool) (a b e : Nat) : Nat := if mB3 H F a b e = true then (if fo = true then kCn (mB4 H F a b e) 12 else (if kZb (mulP 1 (T3P F a b e) farP) = true then 1 else 0)) else 0
def mG2 (H : Int → Bool) (F : Int → KF) (fo : Bool) (a b : Nat) : Nat := if mB2 H F a b = true then kSn (mG3 H F fo a b) 12 else 0
def mG (H : Int → Bool) (F : Int → KF) (fo : Bool) : Nat := kSn (fun a => kSn (mG2 H F fo a) 12) 12
theorem mG3_le (H : Int → Bool) (F : Int → KF) (fo : Bool) (a b e : Nat) : mG3 H F fo a b e ≤ 12 := by
  have := kCn_le (mB4 H F a b e) 12
  unfold mG3; repeat' split
  all_goals omega
theorem mG2_le (H : Int → Bool) (F : Int → KF) (fo : Bool) (a b : Nat) : mG2 H F fo a b ≤ 144 := by
  have := kSn_le (mG3_le H F fo a b) 12
  unfold mG2; split <;> omega
theorem mG1_le (H : Int → Bool) (F : Int → KF) (fo : Bool) (a : Nat) : kSn (mG2 H F fo a) 12 ≤ 1728 := by
  have := kSn_le (mG2_le H F fo a) 12
  omega
theorem mG_thr (H : Int → Bool) (F : Int → KF) : mG H F false = vThr H F := by
  refine kSn_congr 12 (fun a ha => kSn_congr 12 (fun b hb => ?_))
  show mG2 H F false a b = kCn (kT3 H F a b) 12
  rw [kCn_Sn]
  unfold mG2
  by_cases q : mB2 H F a b = true
  · rw [if_pos q]
    refine kSn_congr 12 (fun e he => ?_)
    unfold mG3 kT3 mB3
    unfold mB2 at q
    simp only [Bool.and_eq_true] at q
    obtain ⟨q1, q2, q3, q4⟩ := q
    rw [q1, q2, q3, q4]
    simp only [Bool.true_and, Bool.false_eq_true, if_false]
    cases decide (b < e) <;> cases kPt H F e <;> cases kWb (T3P F a b e) <;> cases kZb (mulP 1 (T3P F a b e) farP) <;> rfl
  · rw [if_neg q]
    refine (kSn_0 12 (fun e he => ?_)).symm
    rw [if_neg]
    intro w
    unfold kT3 at w
    simp only [Bool.and_eq_true] at w
    exact q (by unfold mB2; simp only [Bool.and_eq_true]; exact ⟨w.1, w.2.2.1, w.2.2.2.1, w.2.2.2.2.2.1⟩)
section CME
variable {G : KG} {S0 : KSh} {d : Nat} {P : Option AV → KMem → Prop} {c c0 : KMem} {Ψ : Int → KF} {H : Int → Bool} {F : Int → KF} {f g s sg : KF} {M m : Int} {x0 x1 x2 x3 x4 : Int}
theorem tc_tellKinds (hL : kLay S0) (hs : kCh Ψ c0 c) (hc : CSt H F c0) (hl : kCl H F Ψ) (h : ∀ Ψ' c', kCh Ψ' c0 c' → kCl H F Ψ' → kKi H F Ψ' → P none c') : kC2 G S0 kM_X2_tellKinds (d + 5) [kA 533, kA 3] c P := by
  have loop : ∀ n k : Nat, k + n = 12 → ∀ Ψ2 c2, kCh Ψ2 c0 c2 → kCl H F Ψ2 → (∀ l : Nat, l < k → Ψ2 548 l = if H l = true then kind (F l) else -1) → kW2 G S0 kM_X2_tellKinds (d + 5) 2 [some (kA 533), some (kA 3), some (kI (k : Int))] [] c2 P := by
    intro n
    induction n with
    | zero =>
      intro k hk Ψ2 c2 s2 l2 t2
      obtain rfl : k = 12 := by omega
      exact v_X2_tellKinds_2 hL (by omega) ⟨fun _ => h _ _ s2 l2 t2, fun q => by omega⟩
    | succ n ih =>
      intro k hk Ψ2 c2 s2 l2 t2
      have hc2 : CSt H F c2 := hc.rp s2.rp
      have next : ∀ v : Int, v = (if H k = true then kind (F k) else -1) → kW2 G S0 kM_X2_tellKinds (d + 5) 2 [some (kA 533), some (kA 3), some (kI ((k : Int) + 1))] [] (kup c2 548 k v) P := fun v hv => by
        have s3 := s2.up (t := 548) (i := (k : Int)) (v := v) (by unfold kSc; omega)
        refine ih (k + 1) (by omega) _ _ s3 (l2.u (by unfold kSc; omega)) (fun l hl2 => ?_)
        rw [kUs]
        by_cases w : l = k
        · rw [w, kup_s, hv]
        · rw [kup_n (Or.inr (by omega)), s2.at 548 l (by omega)]; exact t2 l (by omega)
      refine v_X2_tellKinds_2 hL (by omega) ⟨fun q => by omega, fun _ => ⟨hc2.1.1, fun y => ?_, fun y => next _ (by rw [if_neg (fun q => y ((hc2.hh _).mpr q))])⟩⟩
      have y' := (hc2.hh _).mp y
      obtain ⟨a1, b1, e1, q1⟩ := l2.1 _ y'
      have w1 := lrow hL a1 b1
      refine ⟨⟨a1, b1⟩, ?_⟩
      refine tc_kindOf hL s2 ⟨_, rfl, ?_⟩
      exact next _ (by rw [if_pos y'])
  exact v_X2_tellKinds hL (loop 12 0 (by omega) Ψ c hs hl (fun l hl2 => by omega))
theorem tc_isBearer (hL : kLay S0) (hs : kCh Ψ c0 c) (hk : kKi H F Ψ) {l : Nat} (hl : l < 12) (h1 : kBr H F l = true → P (some (kI 1)) c) (h0 : ¬ kBr H F l = true → P (some (kI 0)) c) : kC2 G S0 kM_X2_isBearer (d + 1) [kA 533, kI (l : Int)] c P := by
  have e : c 548 l = if H l = true then kind (F l) else -1 := (hs.at 548 l (by omega)).trans (hk l hl)
  have hr := kKi_rg (H := H) (F := F) (l := l)
  rw [← kKi_b] at h1 h0
  refine v_X2_isBearer hL (by omega) (by rw [e]; omega) ?_
  rw [e]
  exact ⟨k32i (by omega), fun z => h0 (fun q => q.1 z), fun z => ⟨fun y => h1 ⟨z, y⟩, fun y => h0 (fun q => y q.2)⟩⟩
theorem kPt_at {H : Int → Bool} {F : Int → KF} {Ψ : Int → KF} {l : Nat} (hl : kCl H F Ψ) (h : kPt H F l = true) : 0 ≤ (l : Int) ∧ (l : Int) < 12 ∧ Ψ (3 + 2 + (l : Int)) = F l ∧ kB kLB (F l) := hl.1 _ (kPt_iff.mp h).1
theorem tc_pointsOn (hL : kLay S0) (hs : kCh Ψ c0 c) (hl : kCl H F Ψ) (hk : kKi H F Ψ) {o : Nat} (ho : o < 12) (hb : kBr H F o = true) (h : P (some (kI (vOnO H F o 12 : Int))) c) : kC2 G S0 kM_X2_pointsOn (d + 4) [kA 533, kA 3, kI (o : Int)] c P := by
  have hb2 := hb
  unfold kBr at hb2
  rw [Bool.and_eq_true, Bool.and_eq_true, kObjB_iff] at hb2
  obtain ⟨⟨yo, oo⟩, _⟩ := hb2
  obtain ⟨a1, b1, e1, q1⟩ := hl.1 _ yo
  have w1 := lrow hL a1 b1
  have eo : c 548 o = kind (F o) := by rw [hs.at 548 o (by omega), hk o ho, if_pos yo]
  have loop : ∀ n k : Nat, k + n = 12 → kW2 G S0 kM_X2_pointsOn (d + 4) 5 [some (kA 533), some (kA 3), some (kI (o : Int)), some (kI (vOnO H F o k : Int)), some (kI (k : Int))] [] c P := by
    intro n
    induction n with
    | zero =>
      intro k hk9
      obtain rfl : k = 12 := by omega
      have : vOnO H F o 12 ≤ 12 := kCn_le _ 12
      exact v_X2_pointsOn_5 hL (by omega) (by omega) (by omega) (by omega) ⟨fun _ => h, fun q => by omega⟩
    | succ n ih =>
      intro k hk9
      have hv : vOnO H F o k ≤ k := kCn_le _ k
      have ek : c 548 k = if H k = true then kind (F k) else -1 := (hs.at 548 k (by omega)).trans (hk k (by omega))
      have hr := kKi_rg (H := H) (F := F) (l := k)
      have ed : vOnO H F o (k + 1) = if (kPt H F k && (mulP 2 (F k) (vecP (F o)) 0 == 0)) = true then vOnO H F o k + 1 else vOnO H F o k := rfl
      have no : (kPt H F k && (mulP 2 (F k) (vecP (F o)) 0 == 0)) = false → kW2 G S0 kM_X2_pointsOn (d + 4) 49 [some (kA 533), some (kA 3), some (kI (o : Int)), some (kI (vOnO H F o k : Int)), some (kI (k : Int))] [] c P := fun q => by
        have := ih (k + 1) (by omega)
        rw [ed, q, if_neg (by decide)] at this
        exact v_X2_pointsOn_49 hL (by omega) (by omega) (by omega) this
      refine v_X2_pointsOn_5 hL (by omega) (by omega) (by omega) (by omega) ⟨fun q => by omega, fun _ => ?_⟩
      rw [ek]
      refine ⟨k32i (by omega), fun z => no ?_, fun z => ⟨⟨a1, b1⟩, ⟨by omega, by omega⟩, ?_⟩⟩
      · rw [show kPt H F k = false by cases w : kPt H F k; rfl; exact absurd (kKi_2.mpr w) z]; rfl
      · have hp := kKi_2.mp z
        obtain ⟨a2, b2, e2, q2⟩ := kPt_at hl hp
        have w2 := lrow hL a2 b2
        rw [eo]
        refine tc_bears1 hL hs oo (fun q => ⟨1, rfl, kr1 ?_⟩) (fun q => ⟨0, rfl, kr0 ?_⟩)
        · have := ih (k + 1) (by omega)
          rw [ed, hp, if_pos (by simp only [Bool.true_and, beq_iff_eq]; exact q)] at this
          exact v_X2_pointsOn_49 hL (by omega) (by omega) (by omega) this
        · exact no (by rw [hp, Bool.true_and, beq_eq_false_iff_ne]; exact q)
  exact v_X2_pointsOn hL (by omega) (by omega) (loop 12 0 (by omega))
theorem tc_pointsOnObjects (hL : kLay S0) (hs : kCh Ψ c0 c) (hc : CSt H F c0) (hl : kCl H F Ψ) (h : ∀ Ψ' c', kCh Ψ' c0 c' → P (some (kI (kSn (mtSum H F) 12 : Int))) c') : kC2 G S0 kM_X2_pointsOnObjects (d + 6) [kA 533, kA 3] c P := by
  have hb1 : ∀ i, mtSum H F i ≤ 12 := fun i => by
    have hv : vOnO H F i 12 ≤ 12 := kCn_le _ 12
    unfold mtSum; split <;> omega
  refine v_X2_pointsOnObjects hL ?_
  refine tc_tellKinds hL hs hc hl (fun Ψ1 c1 s1 l1 k1 => ⟨rfl, ?_⟩)
  have loop : ∀ n k : Nat, k + n = 12 → kW2 G S0 kM_X2_pointsOnObjects (d + 6) 9 [some (kA 533), some (kA 3), some (kI (kSn (mtSum H F) k : Int)), some (kI (k : Int))] [] c1 P := by
    intro n
    induction n with
    | zero =>
      intro k hk
      obtain rfl : k = 12 := by omega
      have := kSn_le hb1 12
      exact v_X2_pointsOnObjects_9 hL (by omega) (by omega) ⟨fun _ => h _ _ s1, fun q => by omega⟩
    | succ n ih =>
      intro k hk
      have hle := kSn_le hb1 k
      have hr := ih (k + 1) (by omega)
      have e1 : kSn (mtSum H F) (k + 1) = kSn (mtSum H F) k + mtSum H F k := rfl
      have es : mtSum H F k = if kBr H F k = true then vOnO H F k 12 else 0 := rfl
      rw [e1, es] at hr
      refine v_X2_pointsOnObjects_9 hL (by omega) (by omega) ⟨fun q => by omega, fun _ => ?_⟩
      refine tc_isBearer hL s1 k1 (by omega) (fun q => ⟨1, rfl, kr1 ?_⟩) (fun q => ⟨0, rfl, kr0 ?_⟩)
      · rw [if_pos q] at hr
        refine tc_pointsOn hL s1 l1 k1 (by omega) q ⟨_, rfl, ?_⟩
        rw [Int.natCast_add] at hr; exact hr
      · rw [if_neg q] at hr; exact hr
  exact loop 12 0 (by omega)
theorem tc_fullestObject (hL : kLay S0) (hs : kCh Ψ c0 c) (hc : CSt H F c0) (hl : kCl H F Ψ) (h : ∀ Ψ' c', kCh Ψ' c0 c' → P (some (kI (mtBest H F 12).1)) c') : kC2 G S0 kM_X2_fullestObject (d + 6) [kA 533, kA 3] c P := by
  refine v_X2_fullestObject hL ?_
  refine tc_tellKinds hL hs hc hl (fun Ψ1 c1 s1 l1 k1 => ⟨rfl, ?_⟩)
  have loop : ∀ n k : Nat, k + n = 12 → kW2 G S0 kM_X2_fullestObject (d + 6) 13 [some (kA 533), some (kA 3), some (kI (mtBest H F k).1), some (kI (mtBest H F k).2), some (kI (k : Int)), none] [] c1 P := by
    intro n
    induction n with
    | zero =>
      intro k hk
      obtain rfl : k = 12 := by omega
      have := mtBest_rg H F 12 (by omega)
      exact v_X2_fullestObject_13 hL (by omega) (by omega) (by omega) ⟨fun _ => h _ _ s1, fun q => by omega⟩
    | succ n ih =>
      intro k hk
      have hm := mtBest_rg H F k (by omega)
      have hv : vOnO H F k 12 ≤ 12 := kCn_le _ 12
      have hr := ih (k + 1) (by omega)
      have e2 : mtBest H F (k + 1) = if kBr H F k = true ∧ (mtBest H F k).2 < (vOnO H F k 12 : Int) then ((k : Int), (vOnO H F k 12 : Int)) else mtBest H F k := rfl
      rw [e2] at hr
      refine v_X2_fullestObject_13 hL (by omega) (by omega) (by omega) ⟨fun q => by omega, fun _ => ?_⟩
      refine tc_isBearer hL s1 k1 (by omega) (fun q => ⟨1, rfl, kr1 ?_⟩) (fun q => ⟨0, rfl, kr0 ⟨fun w => ?_, fun w => by omega⟩⟩)
      · refine tc_pointsOn hL s1 l1 k1 (by omega) q ⟨_, rfl, k32i (by omega), fun w => ?_, fun w => ?_⟩
        · rw [if_neg (fun z => by omega)] at hr; exact hr
        · rw [if_pos ⟨q, w⟩] at hr; exact hr
      · rw [if_neg (fun z => q z.1)] at hr; exact hr
  exact loop 12 0 (by omega)
theorem kKi.k {Ψ' : Int → KF} (h : kKi H F Ψ) (e : Ψ' 548 = Ψ 548) : kKi H F Ψ' := fun l hl => by rw [e]; exact h l hl
theorem tc_areOuter (hL : kLay S0) (hs : kCh Ψ c0 c) (hl : kCl H F Ψ) (hk : kKi H F Ψ) {a b : Nat} (hab : a < b) (hb : b < 12) (h1 : ∀ Ψ' c', kCh Ψ' c0 c' → Ψ' 550 = mulP 1 (F a) (F b) → kCl H F Ψ' → kKi H F Ψ' → mB2 H F a b = true → P (some (kI 1)) c') (h0 : ∀ Ψ' c', kCh Ψ' c0 c' → kCl H F Ψ' → kKi H F Ψ' → ¬ mB2 H F a b = true → P (some (kI 0)) c') : kC2 G S0 kM_X2_areOuter (d + 2) [kA 533, kA 3, kI (a : Int), kI (b : Int)] c P := by
  have eb : mB2 H F a b = true ↔ kPt H F a = true ∧ kPt H F b = true ∧ kWb (mulP 1 (F a) (F b)) = true := by
    unfold mB2; simp only [Bool.and_eq_true, decide_eq_true_iff]
    exact ⟨fun q => q.2, fun q => ⟨hab, q⟩⟩
  have ea : c 548 a = if H a = true then kind (F a) else -1 := (hs.at 548 a (by omega)).trans (hk a (by omega))
  have ebb : c 548 b = if H b = true then kind (F b) else -1 := (hs.at 548 b (by omega)).trans (hk b (by omega))
  have hr := kKi_rg (H := H) (F := F) (l := a)
  have hr2 := kKi_rg (H := H) (F := F) (l := b)
  rw [eb] at h1 h0
  refine v_X2_areOuter hL (by omega) (by omega) (by omega) ?_
  rw [ea, ebb]
  refine ⟨k32i (by omega), fun z => h0 _ _ hs hl hk (fun q => z (kKi_2.mpr q.1)), fun z => ⟨k32i (by omega), fun z2 => ⟨⟨by omega, by omega⟩, ⟨by omega, by omega⟩, ?_⟩, fun z2 => h0 _ _ hs hl hk (fun q => z2 (kKi_2.mpr q.2.1))⟩⟩
  have p1 := kKi_2.mp z
  have p2 := kKi_2.mp z2
  obtain ⟨a1, b1, e1, q1⟩ := kPt_at hl p1
  obtain ⟨a2, b2, e2, q2⟩ := kPt_at hl p2
  have w1 := lrow hL a1 b1
  have w2 := lrow hL a2 b2
  refine tc_multiply hL hs (Or.inr (Or.inl rfl)) (fun c1 s1 => ⟨rfl, ?_⟩)
  have l1 : kCl H F (kU Ψ 550 (mulP 1 (F a) (F b))) := hl.u (by unfold kSc; omega)
  have k1 : kKi H F (kU Ψ 550 (mulP 1 (F a) (F b))) := hk.k (kUn (by decide) rfl)
  refine tc_isWithinBound hL s1 (fun w => ⟨1, rfl, ko1 ?_⟩) (fun w => ⟨0, rfl, ko0 ?_⟩)
  · exact h1 _ _ s1 kUs l1 k1 ⟨p1, p2, w⟩
  · exact h0 _ _ s1 l1 k1 (fun q => w q.2.2)
theorem tc_fourthsBehind (hL : kLay S0) (hs : kCh Ψ c0 c) (hl : kCl H F Ψ) (hk : kKi H F Ψ) {a b e : Nat} (he : e < 12) (e51 : Ψ 551 = T3P F a b e) (bt : kB kLB (T3P F a b e)) (h : P (some (kI (kCn (mB4 H F a b e) 12 : Int))) c) : kC2 G S0 kM_X2_fourthsBehind (d + 3) [kA 533, kA 3, kI (e : Int)] c P := by
  have z0 : kCn (mB4 H F a b e) (e + 1) = 0 := kCn_0 _ (fun j hj => by unfold mB4; rw [decide_eq_false (by omega)]; rfl)
  have loop : ∀ n k : Nat, k + n = 12 → e < k → kW2 G S0 kM_X2_fourthsBehind (d + 3) 7 [some (kA 533), some (kA 3), none, some (kI (kCn (mB4 H F a b e) k : Int)), some (kI (k : Int))] [] c P := by
    intro n
    induction n with
    | zero =>
      intro k hk9 hek
      obtain rfl : k = 12 := by omega
      have := kCn_le (mB4 H F a b e) 12
      exact v_X2_fourthsBehind_7 hL (by omega) (by omega) (by omega) ⟨fun _ => h, fun q => by omega⟩
    | succ n ih =>
      intro k hk9 hek
      have hv := kCn_le (mB4 H F a b e) k
      have ek : c 548 k = if H k = true then kind (F k) else -1 := (hs.at 548 k (by omega)).trans (hk k (by omega))
      have hr := kKi_rg (H := H) (F := F) (l := k)
      have ed : kCn (mB4 H F a b e) (k + 1) = if mB4 H F a b e k = true then kCn (mB4 H F a b e) k + 1 else kCn (mB4 H F a b e) k := rfl
      have em : mB4 H F a b e k = true ↔ kPt H F k = true ∧ kZb (mulP 1 (T3P F a b e) (F k)) = true := by
        unfold mB4; simp only [Bool.and_eq_true, decide_eq_true_iff]
        exact ⟨fun q => q.2, fun q => ⟨hek, q⟩⟩
      have nx := ih (k + 1) (by omega) (by omega)
      have no : ¬ mB4 H F a b e k = true → kW2 G S0 kM_X2_fourthsBehind (d + 3) 44 [some (kA 533), some (kA 3), none, some (kI (kCn (mB4 H F a b e) k : Int)), some (kI (k : Int))] [] c P := fun q => by
        rw [ed, if_neg q] at nx
        exact v_X2_fourthsBehind_44 hL (by omega) (by omega) (by omega) nx
      refine v_X2_fourthsBehind_7 hL (by omega) (by omega) (by omega) ⟨fun q => by omega, fun _ => ?_⟩
      rw [ek]
      refine ⟨k32i (by omega), fun z => no (fun q => z (kKi_2.mpr (em.mp q).1)), fun z => ⟨⟨by omega, by omega⟩, ?_⟩⟩
      have hp := kKi_2.mp z
      obtain ⟨a2, b2, e2, q2⟩ := kPt_at hl hp
      have w2 := lrow hL a2 b2
      refine tc_isOuterZero hL hs (fun q => ⟨1, rfl, kr1 ?_⟩) (fun q => ⟨0, rfl, kr0 ?_⟩)
      · rw [ed, if_pos (em.mpr ⟨hp, q⟩)] at nx
        exact v_X2_fourthsBehind_44 hL (by omega) (by omega) (by omega) nx
      · exact no (fun w => q (em.mp w).2)
  have := loop (12 - (e + 1)) (e + 1) (by omega) (by omega)
  rw [z0] at this
  exact v_X2_fourthsBehind hL (by omega) (by omega) this
theorem tc_dependentBehind (hL : kLay S0) (hs : kCh Ψ c0 c) (hl : kCl H F Ψ) (hk : kKi H F Ψ) {a b : Nat} {fo : Bool} (hb : b < 12) (e50 : Ψ 550 = mulP 1 (F a) (F b)) (b50 : kB kLB (mulP 1 (F a) (F b))) (h : ∀ Ψ' c', kCh Ψ' c0 c' → kCl H F Ψ' → kKi H F Ψ' → P (some (kI (kSn (mG3 H F fo a b) 12 : Int))) c') : kC2 G S0 kM_X2_dependentBehind (d + 4) [kA 533, kA 3, kI (b : Int), kI (if fo = true then 1 else 0)] c P := by
  have z0 : kSn (mG3 H F fo a b) (b + 1) = 0 := kSn_0 _ (fun j hj => by unfold mG3 mB3; rw [decide_eq_false (by omega)]; rfl)
  have hfo : -2147483648 ≤ (if fo = true then (1 : Int) else 0) ∧ (if fo = true then (1 : Int) else 0) < 2147483648 := by split <;> omega
  have loop : ∀ n k : Nat, k + n = 12 → b < k → ∀ Ψ2 c2, kCh Ψ2 c0 c2 → kCl H F Ψ2 → kKi H F Ψ2 → Ψ2 550 = mulP 1 (F a) (F b) → kW2 G S0 kM_X2_dependentBehind (d + 4) 8 [some (kA 533), some (kA 3), none, some (kI (if fo = true then 1 else 0)), some (kI (kSn (mG3 H F fo a b) k : Int)), some (kI (k : Int))] [] c2 P := by
    intro n
    induction n with
    | zero =>
      intro k hk9 hbk Ψ2 c2 s2 l2 k2 e2
      obtain rfl : k = 12 := by omega
      have := kSn_le (mG3_le H F fo a b) 12
      exact v_X2_dependentBehind_8 hL hfo (by omega) (by omega) (by omega) ⟨fun _ => h _ _ s2 l2 k2, fun q => by omega⟩
    | succ n ih =>
      intro k hk9 hbk Ψ2 c2 s2 l2 k2 e2
      have hv := kSn_le (mG3_le H F fo a b) k
      have hv2 := mG3_le H F fo a b k
      have ek : c2 548 k = if H k = true then kind (F k) else -1 := (s2.at 548 k (by omega)).trans (k2 k (by omega))
      have hr := kKi_rg (H := H) (F := F) (l := k)
      have ed : kSn (mG3 H F fo a b) (k + 1) = kSn (mG3 H F fo a b) k + mG3 H F fo a b k := rfl
      have em : mB3 H F a b k = true ↔ kPt H F k = true ∧ kWb (T3P F a b k) = true := by
        unfold mB3; simp only [Bool.and_eq_true, decide_eq_true_iff]
        exact ⟨fun q => q.2, fun q => ⟨hbk, q⟩⟩
      have go : ∀ Ψ3 c3 (v : Int), kCh Ψ3 c0 c3 → kCl H F Ψ3 → kKi H F Ψ3 → Ψ3 550 = mulP 1 (F a) (F b) → v = (kSn (mG3 H F fo a b) k : Int) + (mG3 H F fo a b k : Int) → kW2 G S0 kM_X2_dependentBehind (d + 4) 90 [some (kA 533), some (kA 3), none, some (kI (if fo = true then 1 else 0)), some (kI v), some (kI (k : Int))] [] c3 P := fun Ψ3 c3 v s3 l3 k3 e3 hv3 => by
        have := ih (k + 1) (by omega) (by omega) Ψ3 c3 s3 l3 k3 e3
        rw [ed, Int.natCast_add, ← hv3] at this
        exact v_X2_dependentBehind_90 hL hfo (by omega) (by omega) (by omega) this
      refine v_X2_dependentBehind_8 hL hfo (by omega) (by omega) (by omega) ⟨fun q => by omega, fun _ => ?_⟩
      rw [ek]
      refine ⟨k32i (by omega), fun z => go _ _ _ s2 l2 k2 e2 (by unfold mG3; rw [if_neg (fun q => z (kKi_2.mpr (em.mp q).1))]; simp), fun z => ⟨⟨by omega, by omega⟩, ?_⟩⟩
      have hp := kKi_2.mp z
      obtain ⟨a2, b2, e4, q2⟩ := kPt_at l2 hp
      have w2 := lrow hL a2 b2
      refine tc_multiply hL s2 (Or.inr (Or.inl rfl)) (fun c3 s3 => ⟨rfl, ?_⟩)
      have l3 : kCl H F (kU Ψ2 551 (mulP 1 (mulP 1 (F a) (F b)) (F k))) := l2.u (by unfold kSc; omega)
      have k3 : kKi H F (kU Ψ2 551 (mulP 1 (mulP 1 (F a) (F b)) (F k))) := k2.k (kUn (by decide) rfl)
      have e3 : kU Ψ2 551 (mulP 1 (mulP 1 (F a) (F b)) (F k)) 550 = mulP 1 (F a) (F b) := kUn (by decide) e2
      have e9 : Ψ2 549 = farP := l2.2.2
      refine tc_isWithinBound hL s3 (fun w => ⟨1, rfl, kr1 ⟨fun y => ?_, fun y => ?_⟩⟩) (fun w => ⟨0, rfl, kr0 ?_⟩)
      · have nf : ¬ fo = true := fun q => by rw [if_pos q] at y; omega
        have bt := kWb_iff.mp w
        have em2 := em.mpr ⟨hp, w⟩
        refine tc_isOuterZero hL s3 (fun q => ⟨1, rfl, kr1 ?_⟩) (fun q => ⟨0, rfl, kr0 ?_⟩)
        · exact go _ _ _ s3 l3 k3 e3 (by unfold mG3; rw [if_pos em2, if_neg nf, if_pos q]; rfl)
        · exact go _ _ _ s3 l3 k3 e3 (by unfold mG3; rw [if_pos em2, if_neg nf, if_neg q]; simp)
      · have yf : fo = true := Classical.byContradiction (fun q => by rw [if_neg q] at y; exact y rfl)
        have em2 := em.mpr ⟨hp, w⟩
        refine tc_fourthsBehind (a := a) (b := b) (e := k) hL s3 l3 k3 (by omega) kUs (kWb_iff.mp w) ⟨_, rfl, ?_⟩
        exact go _ _ _ s3 l3 k3 e3 (by unfold mG3; rw [if_pos em2, if_pos yf])
      · exact go _ _ _ s3 l3 k3 e3 (by unfold mG3; rw [if_neg (fun q => w (em.mp q).2)]; simp)
  have := loop (12 - (b + 1)) (b + 1) (by omega) (by omega) Ψ c hs hl hk e50
  rw [z0] at this
  exact v_X2_dependentBehind hL (by omega) hfo (by omega) this
theorem tc_dependent (hL : kLay S0) (hs : kCh Ψ c0 c) (hc : CSt H F c0) (hl : kCl H F Ψ) {fo : Bool} (h : ∀ Ψ' c', kCh Ψ' c0 c' → P (some (kI (mG H F fo : Int))) c') : kC2 G S0 kM_X2_dependent (d + 6) [kA 533, kA 3, kI (if fo = true then 1 else 0)] c P := by
  have hfo : -2147483648 ≤ (if fo = true then (1 : Int) else 0) ∧ (if fo = true then (1 : Int) else 0) < 2147483648 := by split <;> omega
  refine v_X2_dependent hL hfo ?_
  refine tc_tellKinds hL hs hc hl (fun Ψ1 c1 s1 l1 k1 => ⟨rfl, ?_⟩)
  have outer : ∀ n a : Nat, a + n = 12 → ∀ Ψ2 c2, kCh Ψ2 c0 c2 → kCl H F Ψ2 → kKi H F Ψ2 → kW2 G S0 kM_X2_dependent (d + 6) 10 [some (kA 533), some (kA 3), some (kI (if fo = true then 1 else 0)), some (kI (kSn (fun a => kSn (mG2 H F fo a) 12) a : Int)), some (kI (a : Int)), none] [] c2 P := by
    intro n
    induction n with
    | zero =>
      intro a ha Ψ2 c2 s2 l2 k2
      obtain rfl : a = 12 := by omega
      have := kSn_le (mG1_le H F fo) 12
      exact v_X2_dependent_10 hL hfo (by omega) (by omega) ⟨fun _ => h _ _ s2, fun q => by omega⟩
    | succ n ih =>
      intro a ha Ψ2 c2 s2 l2 k2
      have hA := kSn_le (mG1_le H F fo) a
      have ed1 : kSn (fun a => kSn (mG2 H F fo a) 12) (a + 1) = kSn (fun a => kSn (mG2 H F fo a) 12) a + kSn (mG2 H F fo a) 12 := rfl
      have z0 : kSn (mG2 H F fo a) (a + 1) = 0 := kSn_0 _ (fun j hj => by unfold mG2 mB2; rw [decide_eq_false (by omega)]; rfl)
      have inner : ∀ m b : Nat, b + m = 12 → a < b → ∀ Ψ3 c3, kCh Ψ3 c0 c3 → kCl H F Ψ3 → kKi H F Ψ3 → kW2 G S0 kM_X2_dependent (d + 6) 23 [some (kA 533), some (kA 3), some (kI (if fo = true then 1 else 0)), some (kI (((kSn (fun a => kSn (mG2 H F fo a) 12) a + kSn (mG2 H F fo a) b : Nat)) : Int)), some (kI (a : Int)), some (kI (b : Int))] [] c3 P := by
        intro m
        induction m with
        | zero =>
          intro b hb hab Ψ3 c3 s3 l3 k3
          obtain rfl : b = 12 := by omega
          have hB := kSn_le (mG2_le H F fo a) 12
          have := ih (a + 1) (by omega) Ψ3 c3 s3 l3 k3
          rw [ed1] at this
          exact v_X2_dependent_23 hL hfo (by omega) (by omega) (by omega) (by omega) ⟨fun _ => this, fun q => by omega⟩
        | succ m ih2 =>
          intro b hb hab Ψ3 c3 s3 l3 k3
          have hB := kSn_le (mG2_le H F fo a) b
          have ed2 : kSn (mG2 H F fo a) (b + 1) = kSn (mG2 H F fo a) b + mG2 H F fo a b := rfl
          have e2 : mG2 H F fo a b = if mB2 H F a b = true then kSn (mG3 H F fo a b) 12 else 0 := rfl
          refine v_X2_dependent_23 hL hfo (by omega) (by omega) (by omega) (by omega) ⟨fun q => by omega, fun _ => ?_⟩
          refine tc_areOuter hL s3 l3 k3 hab (by omega) (fun Ψ4 c4 s4 e50 l4 k4 q => ⟨1, rfl, kr1 ?_⟩) (fun Ψ4 c4 s4 l4 k4 q => ⟨0, rfl, kr0 ?_⟩)
          · have q2 := q
            unfold mB2 at q2
            simp only [Bool.and_eq_true] at q2
            refine tc_dependentBehind hL s4 l4 k4 (by omega) e50 (kWb_iff.mp q2.2.2.2) (fun Ψ5 c5 s5 l5 k5 => ⟨_, rfl, ?_⟩)
            have := ih2 (b + 1) (by omega) (by omega) Ψ5 c5 s5 l5 k5
            rw [ed2, e2, if_pos q, ← Nat.add_assoc, Int.natCast_add _ (kSn (mG3 H F fo a b) 12)] at this
            exact this
          · have := ih2 (b + 1) (by omega) (by omega) Ψ4 c4 s4 l4 k4
            rw [ed2, e2, if_neg q] at this
            exact this
      have := inner (12 - (a + 1)) (a + 1) (by omega) (by omega) Ψ2 c2 s2 l2 k2
      rw [z0] at this
      exact v_X2_dependent_10 hL hfo (by omega) (by omega) ⟨fun q => by omega, fun _ => this⟩
  exact outer 12 0 (by omega) Ψ1 c1 s1 l1 k1
theorem tc_likePairs (hL : kLay S0) (hs : kCh Ψ c0 c) (hc : CSt H F c0) (hl : kCl H F Ψ) (h : ∀ Ψ' c', kCh Ψ' c0 c' → P (some (kI (vLikes H F : Int))) c') : kC2 G S0 kM_X2_likePairs (d + 3) [kA 533, kA 3] c P := by
  have outer : ∀ n a : Nat, a + n = 12 → ∀ Ψ2 c2, kCh Ψ2 c0 c2 → kCl H F Ψ2 → kW2 G S0 kM_X2_likePairs (d + 3) 4 [some (kA 533), some (kA 3), some (kI (kCm (kLkB H F) 12 a : Int)), some (kI (a : Int)), none] [] c2 P := by
    intro n
    induction n with
    | zero =>
      intro a ha Ψ2 c2 s2 l2
      obtain rfl : a = 12 := by omega
      have := kCm_le (kLkB H F) 12 12
      exact v_X2_likePairs_4 hL (by omega) (by omega) ⟨fun _ => h _ _ s2, fun q => by omega⟩
    | succ n ih =>
      intro a ha Ψ2 c2 s2 l2
      have hA := kCm_le (kLkB H F) 12 a
      have ed1 : kCm (kLkB H F) 12 (a + 1) = kCm (kLkB H F) 12 a + kCn (kLkB H F a) 12 := rfl
      have z0 : kCn (kLkB H F a) (a + 1) = 0 := kCn_0 _ (fun j hj => by unfold kLkB; rw [decide_eq_false (by omega)]; rfl)
      have inner : ∀ m b : Nat, b + m = 12 → a < b → ∀ Ψ3 c3, kCh Ψ3 c0 c3 → kCl H F Ψ3 → kW2 G S0 kM_X2_likePairs (d + 3) 15 [some (kA 533), some (kA 3), some (kI ((kCm (kLkB H F) 12 a + kCn (kLkB H F a) b : Nat) : Int)), some (kI (a : Int)), some (kI (b : Int))] [] c3 P := by
        intro m
        induction m with
        | zero =>
          intro b hb hab Ψ3 c3 s3 l3
          obtain rfl : b = 12 := by omega
          have hB := kCn_le (kLkB H F a) 12
          have := ih (a + 1) (by omega) Ψ3 c3 s3 l3
          rw [ed1] at this
          exact v_X2_likePairs_15 hL (by omega) (by omega) (by omega) (by omega) ⟨fun _ => this, fun q => by omega⟩
        | succ m ih2 =>
          intro b hb hab Ψ3 c3 s3 l3
          have hB := kCn_le (kLkB H F a) b
          have hc3 : CSt H F c3 := hc.rp s3.rp
          have ed2 : kCn (kLkB H F a) (b + 1) = if kLkB H F a b = true then kCn (kLkB H F a) b + 1 else kCn (kLkB H F a) b := rfl
          have ek : kLkB H F a b = true ↔ H a = true ∧ H b = true ∧ (¬ kZb (F a) = true ∧ ¬ kZb (F b) = true) ∧ kLk (F a) (F b) = true := by
            unfold kLkB
            simp only [Bool.and_eq_true, decide_eq_true_iff, Bool.not_eq_true', Bool.not_eq_true]
            constructor
            · rintro ⟨_, ⟨⟨⟨p, q⟩, r⟩, s⟩, t⟩; exact ⟨p, q, ⟨r, s⟩, t⟩
            · rintro ⟨p, q, ⟨r, s⟩, t⟩; exact ⟨hab, ⟨⟨⟨p, q⟩, r⟩, s⟩, t⟩
          have no : ∀ Ψ4 c4, kCh Ψ4 c0 c4 → kCl H F Ψ4 → ¬ kLkB H F a b = true → kW2 G S0 kM_X2_likePairs (d + 3) 60 [some (kA 533), some (kA 3), some (kI ((kCm (kLkB H F) 12 a + kCn (kLkB H F a) b : Nat) : Int)), some (kI (a : Int)), some (kI (b : Int))] [] c4 P := fun Ψ4 c4 s4 l4 q => by
            have := ih2 (b + 1) (by omega) (by omega) Ψ4 c4 s4 l4
            rw [ed2, if_neg q] at this
            exact v_X2_likePairs_60 hL (by omega) (by omega) (by omega) (by omega) this
          refine v_X2_likePairs_15 hL (by omega) (by omega) (by omega) (by omega) ⟨fun q => by omega, fun _ => ⟨hc3.1.1, fun y1 => ⟨fun y2 => ?_, fun y2 => no _ _ s3 l3 (fun q => y2 ((hc3.hh _).mpr (ek.mp q).2.1))⟩, fun y1 => no _ _ s3 l3 (fun q => y1 ((hc3.hh _).mpr (ek.mp q).1))⟩⟩
          have y1' := (hc3.hh _).mp y1
          have y2' := (hc3.hh _).mp y2
          obtain ⟨a1, b1, e1, q1⟩ := l3.1 _ y1'
          obtain ⟨a2, b2, e2, q2⟩ := l3.1 _ y2'
          have w1 := lrow hL a1 b1
          have w2 := lrow hL a2 b2
          refine ⟨⟨a1, b1⟩, ⟨a2, b2⟩, ?_⟩
          refine tc_areLike hL s3 (fun Ψ4 c4 s4 kp q => ⟨1, rfl, kr1 ?_⟩) (fun Ψ4 c4 s4 kp q => ⟨0, rfl, kr0 ?_⟩)
          · have := ih2 (b + 1) (by omega) (by omega) Ψ4 c4 s4 (l3.kp (fun s z => kp s (by omega) (by omega) (by omega)))
            rw [ed2, if_pos (ek.mpr ⟨y1', y2', q⟩), ← Nat.add_assoc] at this
            exact v_X2_likePairs_60 hL (by omega) (by omega) (by omega) (by omega) this
          · exact no _ _ s4 (l3.kp (fun s z => kp s (by omega) (by omega) (by omega))) (fun w => q (ek.mp w).2.2)
      have := inner (12 - (a + 1)) (a + 1) (by omega) (by omega) Ψ2 c2 s2 l2
      rw [z0] at this
      exact v_X2_likePairs_4 hL (by omega) (by omega) ⟨fun q => by omega, fun _ => this⟩
  exact v_X2_likePairs hL (outer 12 0 (by omega) Ψ c hs hl)
end CME
