theorem mirP_congr {f f' g g' : KF} (a : kEq f f') (b : kEq g g') : kEq (mirP f g) (mirP f' g') := mulP_congr (mulP_congr a b) (revP_congr a)
theorem mirB_congr {f f' g g' : KF} (a : kEq f f') (b : kEq g g') : mirB f g = mirB f' g' := by
  unfold mirB
  rw [kWb_congr (mulP_congr a b), kWb_congr (mulP_congr (mulP_congr a b) (revP_congr a))]
theorem negP_congr {f f' : KF} (a : kEq f f') : kEq (negP f) (negP f') := fun k x y => by show -f k = -f' k; rw [a k x y]
theorem grdP_congr {f f' : KF} {g : Int} (a : kEq f f') : kEq (grdP g f) (grdP g f') := fun k x y => by show (if _ then f k else 0) = if _ then f' k else 0; rw [a k x y]
theorem addP_congr {f f' g g' : KF} (a : kEq f f') (b : kEq g g') : kEq (addP f g) (addP f' g') := fun k x y => by show f k + g k = f' k + g' k; rw [a k x y, b k x y]
theorem subP_congr {f f' g g' : KF} (a : kEq f f') (b : kEq g g') : kEq (subP f g) (subP f' g') := fun k x y => by show f k + -g k = f' k + -g' k; rw [a k x y, b k x y]
section CR
variable {G : KG} {S0 : KSh} {d : Nat} {P : Option AV → KMem → Prop} {c c' c1 c2 : KMem} {T : Int → Int} {n p q o : Int} {L : KLt} {s t f s' t' f' : Int} {g : KF} {x1 x2 i v x z : Int}
theorem rw3 (hL : kLay S0) (ho : 0 ≤ o ∧ o ≤ 6) : S0.2.1 (202 + 1 + o) = (2, 16) := (lrw_202 hL ⟨ho.1, by omega⟩).2
theorem rw2 (hL : kLay S0) (ho : 0 ≤ o ∧ o ≤ 6) : S0.2.1 (194 + 1 + o) = (2, 16) := (lrw_194 hL ⟨ho.1, by omega⟩).2
theorem rw1 (hL : kLay S0) (ho : 0 ≤ o ∧ o ≤ 6) : S0.2.1 (186 + 1 + o) = (2, 16) := (lrw_186 hL ⟨ho.1, by omega⟩).2
theorem CPr.nx (h : CPr T n L p c) (hp : p < n) : CPr T n L (p + 1) (kup c 170 9 (c 170 9 + 1)) := by
  have := h.2.1
  exact h.fr kFq.rf.up (s := 7) (t := 7) (f := 7) (by rw [kup_s, h.1]) (by omega)
theorem c_spotted (hL : kLay S0) (h : CPr T n L p c) (hp : p < n) (ho : 0 ≤ o ∧ o ≤ 6) (h1 : ∀ g q c', rdP (chO T n) p = .inl (g, q) → kEq (c' (202 + 1 + o)) g → kFq 7 7 o c c' → c' 170 9 = q → P (some (kI 1)) c') (h0 : ∀ v c', rdP (chO T n) p = .inr v → kFq 7 7 o c c' → flt c' = v → P (some (kI 0)) c') : kC2 G S0 kM_X7_spotted (d + 3) [kA 170, kA (202 + 1 + o)] c P := by
  have hs0 := h.2.1
  refine v_X7_spotted hL (rw3 hL ho) (c_coordinate hL (h.nx hp) (fun u q c1 e r e' => ?_) (fun v c1 e r e' => ?_))
  · have hu := rdW_ok e
    refine ⟨_, rfl, k32i (by omega), fun _ => ?_, fun w => by omega⟩
    have hs1 : CPr T n L q c1 := (h.nx hp).fr r e' (by omega)
    have hs10 := hs1.1
    refine c_next hL hs1 ⟨_, rfl, hs1.k _, fun y => ?_, fun y => ?_⟩
    · have hin := chO_in (T := T) (n := n) (p := q) (by omega)
      refine c_coordinate hL (hs1.nx hin.2) (fun w q2 c2 e2 r2 e2' => ?_) (fun v c2 e2 r2 e2' => ?_)
      · have hw := rdW_ok e2
        refine ⟨_, rfl, k32i (by omega), fun _ => ?_, fun w => by omega⟩
        refine s_X0_place hL (k32i (by omega)) (k32i (by omega)) (rw3 hL ho) (fun c3 e3 o3 => ⟨rfl, ?_⟩)
        refine h1 _ q2 c3 (by unfold rdP; simp only [e, if_pos y, e2]) e3 ?_ (by rw [o3 _ _ (by omega)]; exact e2')
        exact (((kFq.rf.up.tr r).up.tr r2).w).o o3
      · refine ⟨_, rfl, k32i (by omega), fun w => absurd rfl w, fun _ => ?_⟩
        exact h0 _ c2 (by unfold rdP; simp only [e, if_pos y, e2]) (((kFq.rf.up.tr r).up.tr r2).w) e2'
    · refine c_fails hL (k32i (by omega)) (by rw [hs10]; have := hs1.2.1; exact k32i (by omega)) (fun c2 r2 e2 => ⟨_, rfl, Or.inl rfl, ?_⟩)
      exact h0 (-1000 - q) c2 (by unfold rdP; simp only [e, if_neg y]) (((kFq.rf.up.tr r).tr r2).w) (by rw [e2, hs10]; omega)
  · exact ⟨_, rfl, k32i (by omega), fun w => absurd rfl w, fun _ => h0 _ c1 (by unfold rdP; simp only [e]) ((kFq.rf.up.tr r).w) e'⟩
theorem rdM_N (T : Int → Int) (n p : Int) : rdM (chO T n) 9999 p = rdN (chO T n) p := by
  unfold rdM
  match e : rdN (chO T n) p with
  | .inl (v, q) => have := rdN_ok e; show (if v ≤ 9999 then _ else _) = _; rw [if_pos this.2.1]
  | .inr v => rfl
theorem c_counted (hL : kLay S0) (h : CPr T n L p c) (ho : 0 ≤ o ∧ o ≤ 6) (h1 : ∀ v q c', rdN (chO T n) p = .inl (v, q) → kEq (c' (202 + 1 + o)) (numP v) → kFq 7 7 o c c' → c' 170 9 = q → P (some (kI 1)) c') (h0 : ∀ v c', rdN (chO T n) p = .inr v → kFq 7 7 o c c' → flt c' = v → P (some (kI 0)) c') : kC2 G S0 kM_X7_counted (d + 2) [kA 170, kA (202 + 1 + o)] c P := by
  refine v_X7_counted hL (rw3 hL ho) (c_digits hL h (fun v q c1 e r e' => ?_) (fun v c1 e r e' => ?_))
  · have hv := rdN_ok e
    refine ⟨_, rfl, k32i (by omega), fun _ => ?_, fun w => by omega⟩
    exact s_X0_number hL (rw3 hL ho) (fun c3 e3 o3 => ⟨rfl, h1 _ _ c3 e e3 (r.w.o o3) (by rw [o3 _ _ (by omega)]; exact e')⟩)
  · exact ⟨_, rfl, k32i (by omega), fun w => absurd rfl w, fun _ => h0 _ c1 e r.w e'⟩
theorem c_unitPart (hL : kLay S0) (r : k32 z) (k : P (some (kI (untP z))) c) : kC2 G S0 kM_X7_unitPart d [kI z] c P := by
  unfold untP at k
  refine v_X7_unitPart hL r ⟨fun a => ?_, fun a => ?_⟩
  · rw [if_neg a] at k
    refine ⟨fun a => ?_, fun a => ?_⟩
    · rw [if_neg a] at k
      refine ⟨fun a => ?_, fun a => ?_⟩
      · rw [if_neg a] at k
        refine ⟨fun a => ?_, fun a => ?_⟩
        · rw [if_neg a] at k
          refine ⟨fun a => ?_, fun a => ?_⟩
          · rw [if_neg a] at k; exact k
          · rw [if_pos a] at k; exact k
        · rw [if_pos a] at k; exact k
      · rw [if_pos a] at k; exact k
    · rw [if_pos a] at k; exact k
  · rw [if_pos a] at k; exact k
theorem untP_rg (z : Int) : 0 ≤ untP z ∧ untP z < 16 := by
  unfold untP
  repeat' split
  all_goals omega
theorem c_unit (hL : kLay S0) (h : CPr T n L p c) (r : k32 z) (ho : 0 ≤ o ∧ o ≤ 6) (h1 : ∀ g c', (z = 102 ∧ g = farP ∨ z ≠ 102 ∧ untP z ≠ 0 ∧ g = uniP (untP z)) → kEq (c' (202 + 1 + o)) g → kFq 7 7 o c c' → c' 170 9 = p + 1 → P (some (kI 1)) c') (h0 : z ≠ 102 ∧ untP z = 0 → ∀ c', kFq 7 7 o c c' → flt c' = -1000 - p → P (some (kI 0)) c') : kC2 G S0 kM_X7_unit (d + 2) [kA 170, kI z, kA (202 + 1 + o)] c P := by
  have hs0 := h.2.1
  have e9 := h.1
  refine v_X7_unit hL r (rw3 hL ho) ⟨fun a => ?_, fun a => ?_⟩
  · have hr := untP_rg z
    refine c_unitPart hL r ⟨_, rfl, k32i (by omega), fun b => ?_, fun b => ?_⟩
    · refine s_X0_number hL (rw3 hL ho) (fun c3 e3 o3 => ⟨rfl, hr, h1 (uniP (untP z)) _ (Or.inr ⟨a, b, rfl⟩) ?_ ?_ ?_⟩)
      · intro j j0 j1
        rw [kup_n (Or.inl (by omega))]
        show _ = if j = untP z then (1 : Int) else 0
        by_cases w : j = untP z
        · rw [if_pos w, w, kup_s]
        · rw [if_neg w, kup_n (Or.inr w), e3 j j0 j1]
          show (if j = 0 then (0 : Int) else 0) = 0
          split <;> rfl
      · have r1 : kFq 7 7 o c c3 := kFq.rf.o o3
        exact (r1.o kO.rf.up).up
      · rw [kup_s, kup_n (Or.inl (by omega)), o3 _ _ (by omega), e9]
    · exact c_fails hL (k32i (by omega)) (by rw [e9]; exact k32i (by omega)) (fun c2 r2 e2 => ⟨_, rfl, Or.inl rfl, h0 ⟨a, b⟩ c2 r2.w (by rw [e2, e9]; omega)⟩)
  · exact s_X0_farOne hL (rw3 hL ho) (fun c3 e3 o3 => ⟨rfl, h1 farP _ (Or.inl ⟨a, rfl⟩) (fun j j0 j1 => by rw [kup_n (Or.inl (by omega))]; exact e3 j j0 j1) ((kFq.rf.o o3).up) (by rw [kup_s, o3 _ _ (by omega), e9])⟩)
theorem c_letter (hL : kLay S0) (h : CPr T n L p c) (hp : p < n) (ho : 0 ≤ o ∧ o ≤ 6) (hz : 65 ≤ z ∧ z < 77) (h1 : L.1 (z - 65) = true → ∀ c', kEq (c' (202 + 1 + o)) (L.2 (z - 65)) → kFq 7 7 o c c' → c' 170 9 = p + 1 → P (some (kI 1)) c') (h0 : ¬ L.1 (z - 65) = true → ∀ c', kFq 7 7 o c c' → flt c' = -7000 - p → P (some (kI 0)) c') : kC2 G S0 kM_X7_letter (d + 2) [kA 170, kI (z - 65), kA (202 + 1 + o)] c P := by
  have hs0 := h.2.1
  have e9 := h.1
  have hl := h.2.2.2.2.2
  refine v_X7_letter hL (k32i (by omega)) (rw3 hL ho) ⟨hl.1, fun y => ⟨by omega, ?_⟩, fun y => ?_⟩
  · have hy := (hl.2.1 (z - 65)).mpr y
    refine s_X0_copy hL (((llt_171 hL).2.2.2.2.2 _ (by omega) (by omega)).2) (rw3 hL ho) (fun c3 e3 o3 => ⟨rfl, h1 hy c3 ?_ (kFq.rf.up.o o3) (by rw [o3 _ _ (by omega), kup_s, e9])⟩)
    refine e3.tr ?_
    intro j j0 j1
    rw [kup_n (Or.inl (by omega))]
    exact (hl.2.2 _ hy).1 j j0 j1
  · have hy : ¬ L.1 (z - 65) = true := fun w => y ((hl.2.1 _).mp w)
    exact c_fails hL (k32i (by omega)) (by rw [e9]; exact k32i (by omega)) (fun c2 r2 e2 => ⟨_, rfl, Or.inl rfl, h0 hy c2 r2.w (by rw [e2, e9]; omega)⟩)
theorem c_dig (hL : kLay S0) (h : CPr T n L p c) (hz : z = chO T n p) (hn : z ≠ 64 ∧ ¬ (65 ≤ z ∧ z ≤ 76)) (ho : 0 ≤ o ∧ o ≤ 6) (h1 : ∀ g q c', rdA (chO T n) L p = .inl (g, q) → kEq (c' (202 + 1 + o)) g → kFq 7 7 o c c' → c' 170 9 = q → P (some (kI 1)) c') (h0 : ∀ v c', rdA (chO T n) L p = .inr v → kFq 7 7 o c c' → flt c' = v → P (some (kI 0)) c') : kC2 G S0 kM_X7_isDigit (d + 7) [kI z] c (kRI (fun z15 c16 => (k32 z15) ∧ ((z15 = 0 → (kC2 G S0 kM_X7_unit (d + 7) [kA 170, kI z, kA (202 + 1 + o)] c16 (kRI (fun z20 c21 => (z20 = 0 ∨ z20 = 1) ∧ (P (some (kI z20)) c21))))) ∧ (z15 ≠ 0 → (kC2 G S0 kM_X7_counted (d + 7) [kA 170, kA (202 + 1 + o)] c16 (kRI (fun z24 c25 => (z24 = 0 ∨ z24 = 1) ∧ (P (some (kI z24)) c25)))))))) := by
  have rz : k32 z := hz ▸ h.k p
  refine c_isD hL rz (fun y => ⟨_, rfl, kr1 ?_⟩) (fun y => ⟨_, rfl, kr0 ?_⟩)
  · rw [hz] at y hn
    have er1 : ∀ v q, rdN (chO T n) p = .inl (v, q) → rdA (chO T n) L p = .inl (numP v, q) := fun v q e => by unfold rdA; rw [if_neg hn.1, if_pos y, rdM_N, e]
    have er2 : ∀ v, rdN (chO T n) p = .inr v → rdA (chO T n) L p = .inr v := fun v e => by unfold rdA; rw [if_neg hn.1, if_pos y, rdM_N, e]
    refine c_counted hL h ho (fun v q c1 e k r e' => ⟨_, rfl, Or.inr rfl, h1 _ q c1 (er1 _ _ e) k r e'⟩) (fun v c1 e r e' => ⟨_, rfl, Or.inl rfl, h0 _ c1 (er2 _ e) r e'⟩)
  · refine c_unit hL h rz ho (fun g c1 hg k r e' => ⟨_, rfl, Or.inr rfl, h1 _ _ c1 ?_ k r e'⟩) (fun hg c1 r e' => ⟨_, rfl, Or.inl rfl, h0 _ c1 ?_ r e'⟩)
    · rw [hz] at y hn hg
      unfold rdA
      rw [if_neg hn.1, if_neg y, if_neg hn.2]
      rcases hg with ⟨a, b⟩ | ⟨a, b, e⟩
      · rw [if_pos a, b]
      · rw [if_neg a, if_neg b, e]
    · rw [hz] at y hn hg
      unfold rdA
      rw [if_neg hn.1, if_neg y, if_neg hn.2, if_neg hg.1, if_pos hg.2]
theorem kFq.k16 (h : ∀ a i : Int, a ≠ 210 → a ≠ 211 → a ≠ 212 → (kSc a → 0 ≤ i ∧ i < 16) → c' a i = c a i) : kFq 7 7 7 c c' := ⟨fun a i x y => h a i (by omega) (by omega) (by omega) y, fun i x y => h 170 i (by decide) (by decide) (by decide) (fun _ => by omega)⟩
theorem c_combine (hL : kLay S0) {a g : KF} (r : k32 z) (hs : isSg z) (ho : 0 ≤ o ∧ o ≤ 6) (ea : kEq (c (194 + 1 + o)) a) (eg : kEq (c (202 + 1 + o)) g) (ba : kB kLB a) (bg : kB kLB g) (h1 : cmbB z a g = true → ∀ c', kEq (c' 212) (cmbP z a g) → kFq 7 7 7 c c' → c' 170 9 = c 170 9 → P (some (kI 1)) c') (h0 : ¬ cmbB z a g = true → ∀ c', kFq 7 7 7 c c' → c' 170 9 = c 170 9 → P (some (kI 0)) c') : kC2 G S0 kM_X7_combine (d + 4) [kA 170, kI z, kA (194 + 1 + o), kA (202 + 1 + o)] c P := by
  have h2 := rw2 hL ho
  have h3 := rw3 hL ho
  have ba' := ba.eq ea
  have bg' := bg.eq eg
  have mul : ∀ K : Int, (K = 0 ∨ K = 1 ∨ K = 2) → cmbB z a g = kWb (mulP K a g) → cmbP z a g = mulP K a g → kW2 G S0 kM_X7_combine (d + 1 + 3) 69 [some (kA 170), none, some (kA (194 + 1 + o)), some (kA (202 + 1 + o)), none] [kI K] c P := by
    intro K hK e1 e2
    refine v_X7_combine_69 hL h2 h3 (s_X0_multiply hL hK h2 h3 (lsh_212 hL) (by omega) (by omega) (kb64 ba' (by decide)) (kb64 bg' (by decide)) (fun c1 q1 o1 => ⟨rfl, ?_⟩))
    have q2 : kEq (c1 212) (mulP K a g) := q1.tr (mulP_congr ea eg)
    have fr : kFq 7 7 7 c c1 := kFq.rf.o o1
    have f9 : c1 170 9 = c 170 9 := o1 _ _ (by decide)
    have bb := (mulP_bdL ba bg (kd := K)).eq q2
    refine s_X0_isWithinBound hL (lsh_212 hL) (kb64 bb (by decide)) (fun w => ⟨_, rfl, Or.inr rfl, h1 ?_ c1 ?_ fr f9⟩) (fun w => ⟨_, rfl, Or.inl rfl, h0 ?_ c1 fr f9⟩)
    · rw [e1, ← kWb_congr q2]; exact w
    · rw [e2]; exact q2
    · rw [e1, ← kWb_congr q2]; exact w
  refine v_X7_combine hL r h2 h3 ⟨fun y => ⟨fun y2 => ⟨fun y3 => ⟨fun y4 => ?_, fun y4 => ?_⟩, fun y3 => ?_⟩, fun y2 => ?_⟩, fun y => ?_⟩
  · have e : sgK z = 0 := by unfold sgK; rw [if_neg y3, if_neg y4]
    exact mul 0 (Or.inl rfl) (by unfold cmbB; rw [if_neg y, if_neg y2, e]) (by unfold cmbP; rw [if_neg y, if_neg y2, e])
  · have e : sgK z = 2 := by unfold sgK; rw [if_neg y3, if_pos y4]
    exact mul 2 (Or.inr (Or.inr rfl)) (by unfold cmbB; rw [if_neg y, if_neg y2, e]) (by unfold cmbP; rw [if_neg y, if_neg y2, e])
  · have e : sgK z = 1 := by unfold sgK; rw [if_pos y3]
    exact mul 1 (Or.inr (Or.inl rfl)) (by unfold cmbB; rw [if_neg y, if_neg y2, e]) (by unfold cmbP; rw [if_neg y, if_neg y2, e])
  · have hs : kCh (fun x => c x) c c := ⟨fun _ => kEq.rf, fun _ _ _ => rfl⟩
    have fr : ∀ Ψ' c', kCh Ψ' c c' → kKp (fun x => c x) Ψ' 210 211 212 → kFq 7 7 7 c c' ∧ c' 170 9 = c 170 9 := by
      intro Ψ' c' s kp
      have e : ∀ a i : Int, a ≠ 210 → a ≠ 211 → a ≠ 212 → (kSc a → 0 ≤ i ∧ i < 16) → c' a i = c a i := by
        intro a i n1 n2 n3 hi
        by_cases w : kSc a
        · have := hi w
          rw [s.1 a i this.1 this.2, kp a n1 n2 n3]
        · exact s.2 a i w
      exact ⟨kFq.k16 e, e 170 9 (by decide) (by decide) (by decide) (fun _ => by omega)⟩
    have eb : cmbB z a g = mirB (c (194 + 1 + o)) (c (202 + 1 + o)) := by unfold cmbB; rw [if_neg y, if_pos y2, mirB_congr ea eg]
    have ep : kEq (cmbP z a g) (mirP (c (194 + 1 + o)) (c (202 + 1 + o))) := by unfold cmbP; rw [if_neg y, if_pos y2]; exact (mirP_congr ea eg).sy
    refine tc_mirror hL hs (fun Ψ1 c1 s1 em kp w => ⟨_, rfl, Or.inr rfl, ?_⟩) (fun Ψ1 c1 s1 kp w => ⟨_, rfl, Or.inl rfl, ?_⟩) h2 h3 (lsh_210 hL) (lsh_211 hL) (lsh_212 hL) ⟨by omega, by omega, by omega, by decide, by decide, by decide⟩ rfl rfl ba' bg' (by first | assumption | (unfold kSc; omega)) (by first | assumption | (unfold kSc; omega)) (by first | assumption | (unfold kSc; omega))
    · have := fr _ _ s1 kp
      exact h1 (eb.trans w) c1 ((s1.e em).tr ep.sy) this.1 this.2
    · have := fr _ _ s1 kp
      exact h0 (fun x => w (eb.symm.trans x)) c1 this.1 this.2
  · have fr : ∀ c', (∀ x i : Int, x ≠ 210 → x ≠ 211 → x ≠ 212 → c' x i = c x i) → kFq 7 7 7 c c' ∧ c' 170 9 = c 170 9 := fun c' e => ⟨kFq.k16 (fun a i n1 n2 n3 _ => e a i n1 n2 n3), e _ _ (by decide) (by decide) (by decide)⟩
    have e2 : kEq (mulP 1 (whlP (-1) (c (194 + 1 + o))) (whlP (-1) (c (202 + 1 + o)))) (mulP 1 (whlP (-1) a) (whlP (-1) g)) := mulP_congr (whlP_congr ea) (whlP_congr eg)
    have eb : cmbB z a g = kWb (mulP 1 (whlP (-1) (c (194 + 1 + o))) (whlP (-1) (c (202 + 1 + o)))) := by unfold cmbB; rw [if_pos y]; exact (kWb_congr e2).symm
    have ep : kEq (metP (c (194 + 1 + o)) (c (202 + 1 + o))) (cmbP z a g) := by unfold cmbP; rw [if_pos y]; exact whlP_congr e2
    refine s_X0_meet hL h2 h3 (lsh_210 hL) (lsh_211 hL) (lsh_212 hL) ⟨by omega, by omega, by omega, by omega, by omega, by omega, by decide, by decide, by decide⟩ ba' bg' (fun c1 q1 r1 w => ⟨_, rfl, Or.inr rfl, h1 (eb.trans w) c1 (q1.tr ep) (fr c1 r1).1 (fr c1 r1).2⟩) (fun c1 q1 r1 w => ⟨_, rfl, Or.inl rfl, h0 (fun x => w (eb.symm.trans x)) c1 (fr c1 r1).1 (fr c1 r1).2⟩)
theorem c_change (hL : kLay S0) {a : KF} (ho : 0 ≤ o ∧ o < 6) (hz : k32 z) (hx : k32 x) (ea : kEq (c (202 + 1 + (o + 1))) a) (ba : kB kLB a) (h : ∀ c', kEq (c' (202 + 1 + o)) (chg z x a) → kO (202 + 1 + o) c c' → P none c') : kC2 G S0 kM_X7_change (d + 2) [kI z, kI x, kA (202 + 1 + (o + 1)), kA (202 + 1 + o)] c P := by
  have h2 := rw3 hL (o := o + 1) (by omega)
  have h3 := rw3 hL (o := o) (by omega)
  unfold chg at h
  refine v_X7_change hL hz hx h2 h3 ⟨fun y => ?_, fun y => ?_⟩
  · rw [if_neg y] at h
    refine s_X0_copy hL h2 h3 (fun c1 q1 o1 => ⟨rfl, ?_⟩)
    have q2 := q1.tr ea
    refine ⟨fun y => ?_, fun y => ?_⟩
    · rw [if_neg y] at h
      refine ⟨fun y => ?_, fun y => ?_⟩
      · rw [if_neg y] at h
        refine ⟨fun y => ?_, fun y => ?_⟩
        · rw [if_neg y] at h
          exact s_X0_keepGrade hL h3 hx (fun c2 e2 o2 => ⟨rfl, h c2 (e2.tr (grdP_congr q2)) (o1.tr o2)⟩)
        · rw [if_pos y] at h
          exact s_X0_negate hL h3 (fun c2 e2 o2 => ⟨rfl, h c2 (e2.tr (negP_congr q2)) (o1.tr o2)⟩)
      · rw [if_pos y] at h
        exact s_X0_normalise hL h3 (ba.eq q2) (by decide) (fun c2 e2 o2 => ⟨rfl, h c2 (e2.tr (nrmP_congr q2)) (o1.tr o2)⟩)
    · rw [if_pos y] at h
      exact s_X0_reverse hL h3 (fun c2 e2 o2 => ⟨rfl, h c2 (e2.tr (revP_congr q2)) (o1.tr o2)⟩)
  · rw [if_pos y] at h
    exact s_X0_dual hL h2 h3 (by omega) (fun c2 e2 o2 => ⟨rfl, h c2 (e2.tr (whlP_congr ea)) o2⟩)
end CR
