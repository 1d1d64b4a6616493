/-! fours: a sum over sets is a sum over a < b < e < k -/
abbrev Q4 : Type := Nat × Nat × Nat × Nat
def q4ok (t : Q4) : Bool := decide (t.1 < t.2.1) && (decide (t.2.1 < t.2.2.1) && decide (t.2.2.1 < t.2.2.2))
def q4e (t : Q4) : Nat := ((2 ^ t.1 ||| 2 ^ t.2.1) ||| 2 ^ t.2.2.1) ||| 2 ^ t.2.2.2
def q4Ln (n : Nat) : List Q4 := (List.range n).flatMap fun a => (List.range n).flatMap fun b => (List.range n).flatMap fun e => (List.range n).map fun k => (a, b, e, k)
def q4L : List Q4 := q4Ln 12
theorem q4_perm : (((q4L.filter q4ok).map q4e).isPerm ((List.range 4096).filter (fun n => decide (kpop n = 4)))) = true := by decide +kernel
theorem kCn_count (p : Nat → Bool) : ∀ n, kCn p n = (List.range n).countP p
  | 0 => rfl
  | n + 1 => by
    rw [List.range_succ, List.countP_append, ← kCn_count p n]
    show (if p n = true then kCn p n + 1 else kCn p n) = _
    by_cases q : p n = true
    · rw [if_pos q]; simp [q]
    · rw [if_neg q]; simp [q]
theorem kSn_sum (g : Nat → Nat) : ∀ n, kSn g n = ((List.range n).map g).sum
  | 0 => rfl
  | n + 1 => by
    show kSn g n + g n = _
    rw [List.range_succ, kSn_sum g n]; simp
def q4g (H : Int → Bool) (F : Int → KF) (t : Q4) : Bool := mB2 H F t.1 t.2.1 && (mB3 H F t.1 t.2.1 t.2.2.1 && mB4 H F t.1 t.2.1 t.2.2.1 t.2.2.2)
theorem sum_0 {f : Nat → Nat} : ∀ l : List Nat, (∀ e, f e = 0) → (l.map f).sum = 0
  | [], _ => rfl
  | x :: l, h => by rw [List.map_cons, List.sum_cons, h x, sum_0 l h]
theorem q4_sumN (B2 : Nat → Nat → Bool) (B3 : Nat → Nat → Nat → Bool) (B4 : Nat → Nat → Nat → Nat → Bool) (n : Nat) : kSn (fun a => kSn (fun b => if B2 a b = true then kSn (fun e => if B3 a b e = true then kCn (B4 a b e) n else 0) n else 0) n) n = (q4Ln n).countP (fun t => B2 t.1 t.2.1 && (B3 t.1 t.2.1 t.2.2.1 && B4 t.1 t.2.1 t.2.2.1 t.2.2.2)) := by
  have l3 : ∀ a b e, ((List.range n).map fun k => ((a, b, e, k) : Q4)).countP (fun t => B2 t.1 t.2.1 && (B3 t.1 t.2.1 t.2.2.1 && B4 t.1 t.2.1 t.2.2.1 t.2.2.2)) = if B2 a b = true then (if B3 a b e = true then kCn (B4 a b e) n else 0) else 0 := by
    intro a b e
    rw [List.countP_map]
    by_cases q : B2 a b = true
    · rw [if_pos q]
      by_cases w : B3 a b e = true
      · rw [if_pos w, kCn_count]
        refine List.countP_congr fun k _ => ?_
        show (B2 a b && (B3 a b e && B4 a b e k)) = true ↔ B4 a b e k = true
        rw [q, w]; simp
      · rw [if_neg w]
        refine List.countP_eq_zero.mpr fun k _ => ?_
        show ¬ (B2 a b && (B3 a b e && B4 a b e k)) = true
        simp [w]
    · rw [if_neg q]
      refine List.countP_eq_zero.mpr fun k _ => ?_
      show ¬ (B2 a b && (B3 a b e && B4 a b e k)) = true
      simp [q]
  have l2 : ∀ a b, ((List.range n).flatMap fun e => (List.range n).map fun k => ((a, b, e, k) : Q4)).countP (fun t => B2 t.1 t.2.1 && (B3 t.1 t.2.1 t.2.2.1 && B4 t.1 t.2.1 t.2.2.1 t.2.2.2)) = if B2 a b = true then kSn (fun e => if B3 a b e = true then kCn (B4 a b e) n else 0) n else 0 := by
    intro a b
    rw [List.countP_flatMap]
    by_cases q : B2 a b = true
    · rw [if_pos q, kSn_sum]
      refine congrArg List.sum (List.map_congr_left fun e _ => ?_)
      refine (l3 a b e).trans ?_
      rw [if_pos q]
    · rw [if_neg q]
      refine sum_0 _ fun e => ?_
      refine (l3 a b e).trans ?_
      rw [if_neg q]
  have l1 : ∀ a, ((List.range n).flatMap fun b => (List.range n).flatMap fun e => (List.range n).map fun k => ((a, b, e, k) : Q4)).countP (fun t => B2 t.1 t.2.1 && (B3 t.1 t.2.1 t.2.2.1 && B4 t.1 t.2.1 t.2.2.1 t.2.2.2)) = kSn (fun b => if B2 a b = true then kSn (fun e => if B3 a b e = true then kCn (B4 a b e) n else 0) n else 0) n := by
    intro a
    rw [List.countP_flatMap, kSn_sum]
    exact congrArg List.sum (List.map_congr_left fun b _ => l2 a b)
  unfold q4Ln
  rw [List.countP_flatMap, kSn_sum]
  exact congrArg List.sum (List.map_congr_left fun a _ => (l1 a).symm)
theorem q4_sum (H : Int → Bool) (F : Int → KF) : mG H F true = q4L.countP (q4g H F) := by
  refine Eq.trans ?_ (q4_sumN (mB2 H F) (mB3 H F) (mB4 H F) 12)
  refine kSn_congr 12 fun a _ => kSn_congr 12 fun b _ => ?_
  unfold mG2
  split
  · refine kSn_congr 12 fun e _ => ?_
    unfold mG3
    rw [if_pos (rfl : true = true)]
  · rfl
theorem q4g_ok {H : Int → Bool} {F : Int → KF} {t : Q4} (h : q4g H F t = true) : q4ok t = true := by
  unfold q4g mB2 mB3 mB4 at h
  simp only [Bool.and_eq_true] at h
  unfold q4ok
  simp only [Bool.and_eq_true]
  exact ⟨h.1.1, h.2.1.1, h.2.2.1⟩
theorem q4e_bit (a b e k j : Nat) : Nat.testBit (q4e (a, b, e, k)) j = true ↔ j = a ∨ j = b ∨ j = e ∨ j = k := by
  unfold q4e
  rw [Nat.testBit_or, Nat.testBit_or, Nat.testBit_or, Nat.testBit_two_pow, Nat.testBit_two_pow, Nat.testBit_two_pow, Nat.testBit_two_pow]
  simp only [Bool.or_eq_true, decide_eq_true_iff]
  omega
theorem fsN_run (F : Int → KF) (n l : Nat) : ∀ r, (∀ j, l ≤ j → j < l + r → ¬ Nat.testBit n j = true) → fsN F n (l + r) = fsN F n l
  | 0, _ => rfl
  | r + 1, h => by
    have ih := fsN_run F n l r (fun j a b => h j a (by omega))
    have e : fsN F n (l + r + 1) = if (fsN F n (l + r)).1 = true ∧ Nat.testBit n (l + r) = true then (if (fsN F n (l + r)).2.1 = 0 then (true, 1, F ((l + r : Nat) : Int)) else (kWb (mulP 1 (fsN F n (l + r)).2.2 (F ((l + r : Nat) : Int))), (fsN F n (l + r)).2.1 + 1, mulP 1 (fsN F n (l + r)).2.2 (F ((l + r : Nat) : Int)))) else fsN F n (l + r) := rfl
    show fsN F n (l + r + 1) = _
    rw [e, if_neg (fun q => h (l + r) (by omega) (by omega) q.2), ih]
theorem fsN_off (F : Int → KF) (n l : Nat) (h : ¬ (fsN F n l).1 = true) (hl : l ≤ 12) : ¬ (fsN F n 12).1 = true := by
  have := fsN_stay F n l h (12 - l)
  rw [show l + (12 - l) = 12 by omega] at this
  rw [this]; exact h
theorem fsN_4 (F : Int → KF) {a b e k : Nat} (h1 : a < b) (h2 : b < e) (h3 : e < k) (h4 : k < 12) : ((fsN F (q4e (a, b, e, k)) 12).1 = true ∧ kZb (fsN F (q4e (a, b, e, k)) 12).2.2 = true) ↔ kWb (mulP 1 (F a) (F b)) = true ∧ kWb (T3P F a b e) = true ∧ kZb (mulP 1 (T3P F a b e) (F k)) = true := by
  have B := q4e_bit a b e k
  have step : ∀ l : Nat, fsN F (q4e (a, b, e, k)) (l + 1) = if (fsN F (q4e (a, b, e, k)) l).1 = true ∧ Nat.testBit (q4e (a, b, e, k)) l = true then (if (fsN F (q4e (a, b, e, k)) l).2.1 = 0 then (true, 1, F l) else (kWb (mulP 1 (fsN F (q4e (a, b, e, k)) l).2.2 (F l)), (fsN F (q4e (a, b, e, k)) l).2.1 + 1, mulP 1 (fsN F (q4e (a, b, e, k)) l).2.2 (F l))) else fsN F (q4e (a, b, e, k)) l := fun l => rfl
  have ea : fsN F (q4e (a, b, e, k)) a = (true, 0, fun _ => 0) := by
    have := fsN_run F (q4e (a, b, e, k)) 0 a (fun j _ hj q => by have := (B j).mp q; omega)
    rw [show 0 + a = a by omega] at this
    exact this
  have ea1 : fsN F (q4e (a, b, e, k)) (a + 1) = (true, 1, F a) := by rw [step, ea, if_pos ⟨rfl, (B a).mpr (by omega)⟩, if_pos rfl]
  have eb : fsN F (q4e (a, b, e, k)) b = (true, 1, F a) := by
    have := fsN_run F (q4e (a, b, e, k)) (a + 1) (b - (a + 1)) (fun j _ hj q => by have := (B j).mp q; omega)
    rw [show a + 1 + (b - (a + 1)) = b by omega] at this
    rw [this, ea1]
  have eb1 : fsN F (q4e (a, b, e, k)) (b + 1) = (kWb (mulP 1 (F a) (F b)), 2, mulP 1 (F a) (F b)) := by rw [step, eb, if_pos ⟨rfl, (B b).mpr (by omega)⟩, if_neg (show ¬ (1 : Nat) = 0 by omega)]
  by_cases w2 : kWb (mulP 1 (F a) (F b)) = true
  · rw [w2] at eb1
    have ee : fsN F (q4e (a, b, e, k)) e = (true, 2, mulP 1 (F a) (F b)) := by
      have := fsN_run F (q4e (a, b, e, k)) (b + 1) (e - (b + 1)) (fun j _ hj q => by have := (B j).mp q; omega)
      rw [show b + 1 + (e - (b + 1)) = e by omega] at this
      rw [this, eb1]
    have ee1 : fsN F (q4e (a, b, e, k)) (e + 1) = (kWb (T3P F a b e), 3, T3P F a b e) := by rw [step, ee, if_pos ⟨rfl, (B e).mpr (by omega)⟩, if_neg (show ¬ (2 : Nat) = 0 by omega)]
    by_cases w3 : kWb (T3P F a b e) = true
    · rw [w3] at ee1
      have ek : fsN F (q4e (a, b, e, k)) k = (true, 3, T3P F a b e) := by
        have := fsN_run F (q4e (a, b, e, k)) (e + 1) (k - (e + 1)) (fun j _ hj q => by have := (B j).mp q; omega)
        rw [show e + 1 + (k - (e + 1)) = k by omega] at this
        rw [this, ee1]
      have ek1 : fsN F (q4e (a, b, e, k)) (k + 1) = (kWb (mulP 1 (T3P F a b e) (F k)), 4, mulP 1 (T3P F a b e) (F k)) := by rw [step, ek, if_pos ⟨rfl, (B k).mpr (by omega)⟩, if_neg (show ¬ (3 : Nat) = 0 by omega)]
      have ef : fsN F (q4e (a, b, e, k)) 12 = (kWb (mulP 1 (T3P F a b e) (F k)), 4, mulP 1 (T3P F a b e) (F k)) := by
        have := fsN_run F (q4e (a, b, e, k)) (k + 1) (12 - (k + 1)) (fun j _ hj q => by have := (B j).mp q; omega)
        rw [show k + 1 + (12 - (k + 1)) = 12 by omega] at this
        rw [this, ek1]
      rw [ef]
      exact ⟨fun q => ⟨w2, w3, q.2⟩, fun q => ⟨kZb_Wb q.2.2, q.2.2⟩⟩
    · exact ⟨fun q => absurd q.1 (fsN_off F _ (e + 1) (by rw [ee1]; exact w3) (by omega)), fun q => absurd q.2.1 w3⟩
  · exact ⟨fun q => absurd q.1 (fsN_off F _ (b + 1) (by rw [eb1]; exact w2) (by omega)), fun q => absurd q.1 w2⟩
theorem q4_pop : ∀ n ∈ (q4L.filter q4ok).map q4e, kpop n = 4 := fun n hn => by
  have h := (List.isPerm_iff.mp q4_perm).mem_iff.mp hn
  exact of_decide_eq_true (List.mem_filter.mp h).2
theorem q4g_F (H : Int → Bool) (F : Int → KF) (t : Q4) (ht : t ∈ q4L.filter q4ok) : q4g H F t = true ↔ kF4 H F (q4e t) = true := by
  have hpop := q4_pop (q4e t) (List.mem_map_of_mem ht)
  obtain ⟨hm, hok⟩ := List.mem_filter.mp ht
  obtain ⟨a, b, e, k⟩ := t
  unfold q4ok at hok
  simp only [Bool.and_eq_true, decide_eq_true_iff] at hok
  obtain ⟨h1, h2, h3⟩ := hok
  have h4 : k < 12 := by
    unfold q4L q4Ln at hm
    simp only [List.mem_flatMap, List.mem_map, List.mem_range, Prod.mk.injEq] at hm
    obtain ⟨a', _, b', _, e', _, k', hk, _, _, _, hkk⟩ := hm
    omega
  rw [kF4_iff]
  have hf := fsN_4 F h1 h2 h3 h4
  unfold q4g mB2 mB3 mB4
  simp only [Bool.and_eq_true, decide_eq_true_iff]
  constructor
  · rintro ⟨⟨_, pa, pb, w2⟩, ⟨_, pe, w3⟩, _, pk, z⟩
    refine ⟨hpop, fun j _ hb => ?_, hf.mpr ⟨w2, w3, z⟩⟩
    rcases (q4e_bit a b e k j).mp hb with rfl | rfl | rfl | rfl
    · exact pa
    · exact pb
    · exact pe
    · exact pk
  · rintro ⟨_, hp, q⟩
    obtain ⟨w2, w3, z⟩ := hf.mp q
    exact ⟨⟨h1, hp a (by omega) ((q4e_bit a b e k a).mpr (by omega)), hp b (by omega) ((q4e_bit a b e k b).mpr (by omega)), w2⟩, ⟨h2, hp e (by omega) ((q4e_bit a b e k e).mpr (by omega)), w3⟩, h3, hp k h4 ((q4e_bit a b e k k).mpr (by omega)), z⟩
theorem mG_frs (H : Int → Bool) (F : Int → KF) : mG H F true = vFrs H F := by
  rw [q4_sum]
  unfold vFrs
  rw [kCn_count]
  have e1 : q4L.countP (q4g H F) = (q4L.filter q4ok).countP (q4g H F) := by
    rw [List.countP_filter]
    refine List.countP_congr fun t _ => ?_
    rw [Bool.and_eq_true]
    exact ⟨fun h => ⟨h, q4g_ok h⟩, fun h => h.1⟩
  have e2 : (q4L.filter q4ok).countP (q4g H F) = ((q4L.filter q4ok).map q4e).countP (kF4 H F) := by
    rw [List.countP_map]
    refine List.countP_congr fun t ht => ?_
    exact q4g_F H F t ht
  have e3 : (List.range 4096).countP (kF4 H F) = ((List.range 4096).filter (fun n => decide (kpop n = 4))).countP (kF4 H F) := by
    rw [List.countP_filter]
    refine List.countP_congr fun n _ => ?_
    rw [Bool.and_eq_true, decide_eq_true_iff]
    exact ⟨fun h => ⟨h, (kF4_iff.mp h).1⟩, fun h => h.1⟩
  rw [e1, e2, e3]
  exact (List.isPerm_iff.mp q4_perm).countP_eq _
section CME
variable {G : KG} {S0 : KSh} {d : Nat} {P : Option AV → KMem → Prop} {c c0 : KMem} {H : Int → Bool} {F : Int → KF} {x1 : Int}
theorem s_X10_meetings (hL : kLay S0) (r1 : k32 x1) (hs : CSt H F c) (h : ∀ c', kCP c c' → P (some (kI (vMeet H F x1))) c') : kC2 G S0 kM_X10_meetings (d + 7) [kA 0, kI x1] c P := by
  have hP := kCi h
  unfold vMeet at hP
  obtain ⟨Ψ, s0, hl⟩ := hs.op
  have h2 : x1 = 2 → kC2 G S0 kM_X2_dependent (d + 6) [kA 533, kA 3, kI 1] c (kRI (fun z c => P (some (kI z)) c)) := fun z => by
    rw [if_pos (by omega), if_neg (by omega), if_pos z] at hP
    exact tc_dependent (fo := true) hL s0 hs hl (fun Ψ1 c1 s1 => ⟨_, rfl, hP _ _ s1.rp (by rw [mG_frs])⟩)
  refine v_X10_meetings hL r1 ⟨fun z0 => ⟨fun z1 => ⟨fun _ => ?_, fun z => by omega⟩, fun z1 => ⟨fun z2 => ⟨fun z3 => ⟨fun z4 => ?_, fun z4 => ?_⟩, fun z3 => ?_⟩, fun z2 => ⟨fun z => absurd z2 z, fun _ => h2 z2⟩⟩⟩, fun z0 => ?_⟩
  · rw [if_pos (by omega), if_pos z1] at hP
    exact tc_dependent (fo := false) hL s0 hs hl (fun Ψ1 c1 s1 => ⟨_, rfl, hP _ _ s1.rp (by rw [mG_thr])⟩)
  · exact hP _ _ kCP.rf (by rw [if_neg (by omega)])
  · rw [if_pos (by omega), if_neg z1, if_neg z2, if_neg z3, if_neg z0] at hP
    exact tc_fullestObject hL s0 hs hl (fun Ψ1 c1 s1 => ⟨_, rfl, hP _ _ s1.rp rfl⟩)
  · rw [if_pos (by omega), if_neg z1, if_neg z2, if_pos z3] at hP
    exact tc_likePairs hL s0 hs hl (fun Ψ1 c1 s1 => ⟨_, rfl, hP _ _ s1.rp rfl⟩)
  · rw [if_pos (by omega), if_neg (by omega), if_neg (by omega), if_neg (by omega), if_pos z0] at hP
    exact tc_pointsOnObjects hL s0 hs hl (fun Ψ1 c1 s1 => ⟨_, rfl, hP _ _ s1.rp rfl⟩)
end CME
