section CR
variable {G : KG} {S0 : KSh} {T : Int → Int} {n : Int} {L : KLt}
def cF (G : KG) (S0 : KSh) (T : Int → Int) (n : Int) (L : KLt) (k : Nat) : Prop := ∀ (e : Nat) (o p : Int) (d : Nat) (P : Option AV → KMem → Prop) (c : KMem) (a : KF), o + e = 6 → 0 ≤ o → CPr T n L p c → 3 * (n - p) + 1 ≤ (k : Int) →
  (∀ g q c', rd (chO T n) L k 0 a o p = .inl (g, q) → kEq (c' (202 + 1 + o)) g → kFq (o + 1) (o + 1) o c c' → c' 170 9 = q → P (some (kI 1)) c') →
  (∀ v c', rd (chO T n) L k 0 a o p = .inr v → kFq (o + 1) (o + 1) o c c' → flt c' = v → P (some (kI 0)) c') → kC2 G S0 kM_X7_factor (d + 4 * e + 8) [kA 170, kI o] c P
def cT (G : KG) (S0 : KSh) (T : Int → Int) (n : Int) (L : KLt) (k : Nat) : Prop := ∀ (e : Nat) (o p : Int) (d : Nat) (P : Option AV → KMem → Prop) (c : KMem) (a : KF), o + e = 6 → 0 ≤ o → CPr T n L p c → 3 * (n - p) + 2 ≤ (k : Int) →
  (∀ g q c', rd (chO T n) L k 1 a o p = .inl (g, q) → kEq (c' (194 + 1 + o)) g → kFq (o + 1) o o c c' → c' 170 9 = q → P (some (kI 1)) c') →
  (∀ v c', rd (chO T n) L k 1 a o p = .inr v → kFq (o + 1) o o c c' → flt c' = v → P (some (kI 0)) c') → kC2 G S0 kM_X7_term (d + 4 * e + 9) [kA 170, kI o] c P
def cS (G : KG) (S0 : KSh) (T : Int → Int) (n : Int) (L : KLt) (k : Nat) : Prop := ∀ (e : Nat) (o p : Int) (d : Nat) (P : Option AV → KMem → Prop) (c : KMem) (a : KF), o + e = 6 → 0 ≤ o → CPr T n L p c → 3 * (n - p) + 3 ≤ (k : Int) →
  (∀ g q c', rd (chO T n) L k 3 a o p = .inl (g, q) → kEq (c' (186 + 1 + o)) g → kFq o o o c c' → c' 170 9 = q → P (some (kI 1)) c') →
  (∀ v c', rd (chO T n) L k 3 a o p = .inr v → kFq o o o c c' → flt c' = v → P (some (kI 0)) c') → kC2 G S0 kM_X7_sum (d + 4 * e + 10) [kA 170, kI o] c P
def cTL (G : KG) (S0 : KSh) (T : Int → Int) (n : Int) (L : KLt) (k : Nat) : Prop := ∀ (e : Nat) (o p : Int) (d : Nat) (P : Option AV → KMem → Prop) (c : KMem) (a : KF) (l : Int), o + e = 6 → 0 ≤ o → CPr T n L p c → 3 * (n - p) + 1 ≤ (k : Int) → kEq (c (194 + 1 + o)) a → kB kLB a → n - p ≤ l → l ≤ 120 →
  (∀ g q c', rd (chO T n) L k 2 a o p = .inl (g, q) → kEq (c' (194 + 1 + o)) g → kFq (o + 1) o o c c' → c' 170 9 = q → P (some (kI 1)) c') →
  (∀ v c', rd (chO T n) L k 2 a o p = .inr v → kFq (o + 1) o o c c' → flt c' = v → P (some (kI 0)) c') → kW2 G S0 kM_X7_term (d + 4 * e + 9) 55 [some (kA 170), some (kI o), some (kI l), none, none] [] c P
def cSL (G : KG) (S0 : KSh) (T : Int → Int) (n : Int) (L : KLt) (k : Nat) : Prop := ∀ (e : Nat) (o p : Int) (d : Nat) (P : Option AV → KMem → Prop) (c : KMem) (a : KF) (l : Int), o + e = 6 → 0 ≤ o → CPr T n L p c → 3 * (n - p) + 1 ≤ (k : Int) → kEq (c (186 + 1 + o)) a → kB kLB a → n - p ≤ l → l ≤ 120 →
  (∀ g q c', rd (chO T n) L k 4 a o p = .inl (g, q) → kEq (c' (186 + 1 + o)) g → kFq o o o c c' → c' 170 9 = q → P (some (kI 1)) c') →
  (∀ v c', rd (chO T n) L k 4 a o p = .inr v → kFq o o o c c' → flt c' = v → P (some (kI 0)) c') → kW2 G S0 kM_X7_sum (d + 4 * e + 10) 55 [some (kA 170), some (kI o), some (kI l), none, none] [] c P
theorem CPr.bd {p : Int} {c : KMem} (h : CPr T n L p c) : ∀ l, L.1 l = true → kB kLB (L.2 l) := fun l y => (h.2.2.2.2.2.2.2 l y).2
theorem cF_s (hL : kLay S0) {k : Nat} (ih0 : cF G S0 T n L k) (ih3 : cS G S0 T n L k) : cF G S0 T n L (k + 1) := by
  intro e o p d P c a ho o0 h hk h1 h0
  have hB := h.bd
  have e9 := h.1
  have hs0 := h.2.1
  refine v_X7_factor hL (k32i (by omega)) ⟨fun y => by omega, fun _ => ⟨fun _ => ?_, fun y => by omega⟩⟩
  refine c_next hL h ⟨_, rfl, c_isOp hL (h.k p) (fun y => ⟨_, rfl, kr1 ?_⟩) (fun y => ⟨_, rfl, kr0 ?_⟩)⟩
  · have hin := chO_in (T := T) (n := n) (p := p) (by omega)
    refine ⟨fun w => ?_, fun w => ?_⟩
    · match e, ho with
      | 0, ho => omega
      | e + 1, ho =>
        have h2 := h.nx hin.2
        have f1 : kFq 7 7 7 c (kup c 170 9 (c 170 9 + 1)) := kFq.rf.up
        refine v_X7_opened hL (h.k p) (k32i (by omega)) ⟨fun z => by omega, fun _ => ⟨fun _ => ⟨fun y40 => ⟨fun y103 => ?_, fun y103 => ?_⟩, fun y40 => ?_⟩, fun z => by omega⟩⟩
        · rw [show d + 4 * (e + 1) + 6 = d + 2 + 4 * e + 8 by omega]
          refine ih0 e (o + 1) (p + 1) (d + 2) _ _ a (by omega) (by omega) h2 (by omega) (fun g q c1 er k1 fr eq => ⟨_, rfl, kq1 ?_⟩) (fun v c1 er fr eq => ⟨_, rfl, kq0 ?_⟩)
          · have hg := rd_ok hB _ _ _ _ _ _ _ (by omega) (fun z => by omega) er
            refine c_change hL ⟨o0, by omega⟩ (h.k p) (k32i (by omega)) k1 hg.2.2 (fun c3 e3 o3 => ⟨rfl, _, rfl, Or.inr rfl, h1 _ q c3 ?_ e3 ?_ ?_⟩)
            · rw [rd, if_pos y, if_neg w, if_neg y40, if_neg y103, er]
            · exact ((f1.w (s' := o + 1) (t' := o + 1) (f' := o)).tr fr.w).o o3
            · rw [o3 _ _ (by omega)]; exact eq
          · refine ⟨_, rfl, Or.inl rfl, h0 _ c1 ?_ (f1.w.tr fr.w) eq⟩
            rw [rd, if_pos y, if_neg w, if_neg y40, if_neg y103, er]
        · have h29 := h2.1
          refine c_next hL h2 ⟨_, rfl, c_isD hL (h2.k _) (fun yd => ⟨_, rfl, kq1 ?_⟩) (fun yd => ⟨_, rfl, kq0 ?_⟩)⟩
          · have hin2 := chO_in (T := T) (n := n) (p := p + 1) (by unfold isD at yd; omega)
            have hrg := h2.ch (p + 1)
            refine c_next hL h2 ⟨_, rfl, k32i (by omega), fun y4 => ?_, fun y4 => ?_⟩
            · rw [show d + 4 * (e + 1) + 6 = d + 2 + 4 * e + 8 by omega]
              have h3 := h2.nx hin2.2
              have f2 := f1.up (i := 9) (v := (kup c 170 9 (c 170 9 + 1)) 170 9 + 1)
              refine ih0 e (o + 1) (p + 2) (d + 2) _ _ a (by omega) (by omega) (by rw [show p + 2 = p + 1 + 1 by omega]; exact h3) (by omega) (fun g q c1 er k1 fr eq => ⟨_, rfl, kq1 ?_⟩) (fun v c1 er fr eq => ⟨_, rfl, kq0 ?_⟩)
              · have hg := rd_ok hB _ _ _ _ _ _ _ (by omega) (fun z => by omega) er
                refine c_change hL ⟨o0, by omega⟩ (h.k p) (k32i (by omega)) k1 hg.2.2 (fun c3 e3 o3 => ⟨rfl, _, rfl, Or.inr rfl, h1 _ q c3 ?_ e3 ?_ ?_⟩)
                · rw [rd, if_pos y, if_neg w, if_neg y40, if_pos y103, if_pos yd, if_pos y4, er]
                  unfold chg
                  rw [if_neg (by omega), if_neg (by omega), if_neg (by omega), if_neg (by omega)]
                · exact ((f2.w (s' := o + 1) (t' := o + 1) (f' := o)).tr fr.w).o o3
                · rw [o3 _ _ (by omega)]; exact eq
              · refine ⟨_, rfl, Or.inl rfl, h0 _ c1 ?_ (f2.w.tr fr.w) eq⟩
                rw [rd, if_pos y, if_neg w, if_neg y40, if_pos y103, if_pos yd, if_pos y4, er]
            · refine c_fails hL (k32i (by omega)) (by rw [h29]; exact k32i (by omega)) (fun c2 r2 e2 => ⟨_, rfl, Or.inl rfl, _, rfl, Or.inl rfl, h0 (-3000 - (p + 1)) c2 ?_ ((f1.tr r2).w) (by rw [e2, h29]; omega)⟩)
              rw [rd, if_pos y, if_neg w, if_neg y40, if_pos y103, if_pos yd, if_neg (by omega)]
          · refine c_fails hL (k32i (by omega)) (by rw [h29]; exact k32i (by omega)) (fun c2 r2 e2 => ⟨_, rfl, Or.inl rfl, _, rfl, Or.inl rfl, h0 (-1000 - (p + 1)) c2 ?_ ((f1.tr r2).w) (by rw [e2, h29]; omega)⟩)
            rw [rd, if_pos y, if_neg w, if_neg y40, if_pos y103, if_neg yd]
        · rw [show d + 4 * (e + 1) + 6 = d + 4 * e + 10 by omega]
          refine ih3 e (o + 1) (p + 1) d _ _ a (by omega) (by omega) h2 (by omega) (fun g q c1 er k1 fr eq => ⟨_, rfl, kq1 ?_⟩) (fun v c1 er fr eq => ⟨_, rfl, kq0 ?_⟩)
          · have hg := rd_ok hB _ _ _ _ _ _ _ (by omega) (fun z => by omega) er
            have h3 : CPr T n L q c1 := h2.fr fr eq (by omega)
            have h39 := h3.1
            refine c_next hL h3 ⟨_, rfl, h3.k _, fun y41 => ?_, fun y41 => ?_⟩
            · refine s_X0_copy hL (rw1 hL (by omega)) (rw3 hL (by omega)) (fun c3 e3 o3 => ⟨rfl, _, rfl, Or.inr rfl, h1 g (q + 1) c3 ?_ ?_ ?_ ?_⟩)
              · rw [rd, if_pos y, if_neg w, if_pos y40, er]; exact if_pos y41
              · refine e3.tr (kEq.tr (fun j j0 j1 => kup_n (Or.inl (by omega))) k1)
              · exact (((f1.w (s' := o + 1) (t' := o + 1) (f' := o)).tr fr.w).up).o o3
              · rw [o3 _ _ (by omega), kup_s, h39]
            · refine c_fails hL (k32i (by omega)) (by rw [h39]; exact k32i (by omega)) (fun c2 r2 e2 => ⟨_, rfl, Or.inl rfl, _, rfl, Or.inl rfl, h0 (-1000 - q) c2 ?_ ((f1.w.tr fr.w).tr r2.w) (by rw [e2, h39]; omega)⟩)
              rw [rd, if_pos y, if_neg w, if_pos y40, er]; exact if_neg y41
          · refine ⟨_, rfl, Or.inl rfl, h0 _ c1 ?_ (f1.w.tr fr.w) eq⟩
            rw [rd, if_pos y, if_neg w, if_pos y40, er]
    · refine c_fails hL (k32i (by omega)) (by rw [e9]; exact k32i (by omega)) (fun c2 r2 e2 => ⟨_, rfl, Or.inl rfl, h0 (-5000 - p) c2 ?_ r2.w (by rw [e2, e9]; omega)⟩)
      rw [rd, if_pos y, if_pos w]
  · have er : rd (chO T n) L (k + 1) 0 a o p = rdA (chO T n) L p := by rw [rd, if_neg y]
    rw [er] at h1 h0
    have h1' : ∀ g q c', rdA (chO T n) L p = .inl (g, q) → kEq (c' (202 + 1 + o)) g → kFq 7 7 o c c' → c' 170 9 = q → P (some (kI 1)) c' := fun g q c' x1 x2 x3 x4 => h1 g q c' x1 x2 x3.w x4
    have h0' : ∀ v c', rdA (chO T n) L p = .inr v → kFq 7 7 o c c' → flt c' = v → P (some (kI 0)) c' := fun v c' x1 x2 x3 => h0 v c' x1 x2.w x3
    have sp : chO T n p = 64 → kC2 G S0 kM_X7_spotted (d + 4 * e + 7) [kA 170, kA (202 + 1 + o)] c (kRI (fun z28 c29 => (z28 = 0 ∨ z28 = 1) ∧ (P (some (kI z28)) c29))) := by
      intro z
      have hin := chO_in (T := T) (n := n) (p := p) (by omega)
      have ez : rdA (chO T n) L p = rdP (chO T n) p := if_pos z
      exact c_spotted hL h hin.2 (by omega) (fun g q c1 e1 k1 r1 q1 => ⟨_, rfl, Or.inr rfl, h1' g q c1 (ez.trans e1) k1 r1 q1⟩) (fun v c1 e1 r1 q1 => ⟨_, rfl, Or.inl rfl, h0' v c1 (ez.trans e1) r1 q1⟩)
    refine ⟨h.k p, fun y1 => ⟨fun y2 => c_dig hL h rfl ⟨y2, by omega⟩ (by omega) h1' h0', sp⟩, fun y1 => ⟨fun y3 => ⟨fun y2 => c_dig hL h rfl ⟨y2, by omega⟩ (by omega) h1' h0', sp⟩, fun y3 => ?_⟩⟩
    have hin := chO_in (T := T) (n := n) (p := p) (by omega)
    have ez : rdA (chO T n) L p = if L.1 (chO T n p - 65) = true then .inl (L.2 (chO T n p - 65), p + 1) else .inr (-7000 - p) := by
      unfold rdA; rw [if_neg (by omega), if_neg (by unfold isD; omega), if_pos (by omega)]
    exact c_letter hL h hin.2 (by omega) ⟨y1, y3⟩ (fun w c1 k1 r1 q1 => ⟨_, rfl, Or.inr rfl, h1' _ _ c1 (by rw [ez, if_pos w]) k1 r1 q1⟩) (fun w c1 r1 q1 => ⟨_, rfl, Or.inl rfl, h0' _ c1 (by rw [ez, if_neg w]) r1 q1⟩)
theorem cT_s (hL : kLay S0) {k : Nat} (ih0 : cF G S0 T n L k) (ih2 : cTL G S0 T n L k) : cT G S0 T n L (k + 1) := by
  intro e o p d P c a ho o0 h hk h1 h0
  have hB := h.bd
  have hs0 := h.2.1
  refine v_X7_term hL (k32i (by omega)) ⟨fun y => by omega, fun _ => ⟨fun _ => ?_, fun y => by omega⟩⟩
  refine ih0 e o p d _ c a ho o0 h (by omega) (fun g q c1 er k1 fr eq => ⟨_, rfl, kq1 ?_⟩) (fun v c1 er fr eq => ⟨_, rfl, kq0 ?_⟩)
  · have hg := rd_ok hB _ _ _ _ _ _ _ (by omega) (fun z => by omega) er
    refine s_X0_copy hL (rw3 hL (by omega)) (rw2 hL (by omega)) (fun c2 e2 o2 => ⟨rfl, ?_⟩)
    have fr2 : kFq (o + 1) o o c c2 := (fr.w (s' := o + 1) (t' := o) (f' := o)).o o2
    have h92 : c2 170 9 = q := by rw [o2 _ _ (by omega)]; exact eq
    have h2 : CPr T n L q c2 := h.fr fr2 h92 (by omega)
    have h82 := h2.2.2.1
    dsimp only
    rw [h82, h92]
    refine ih2 e o q d P c2 g (n - q) ho o0 h2 (by omega) (e2.tr k1) hg.2.2 (by omega) (by omega) (fun g' q' c3 er3 k3 fr3 eq3 => h1 g' q' c3 (by rw [rd, er]; exact er3) k3 (fr2.tr fr3) eq3) (fun v c3 er3 fr3 eq3 => h0 v c3 (by rw [rd, er]; exact er3) (fr2.tr fr3) eq3)
  · exact h0 v c1 (by rw [rd, er]) fr.w eq
theorem cTL_s (hL : kLay S0) {k : Nat} (ih0 : cF G S0 T n L k) (ih2 : cTL G S0 T n L k) : cTL G S0 T n L (k + 1) := by
  intro e o p d P c a l ho o0 h hk ea ba hl hl2 h1 h0
  have hB := h.bd
  have hs0 := h.2.1
  have e9 := h.1
  refine v_X7_term_55 hL (k32i (by omega)) (k32i (by omega)) (by omega) ⟨fun y => ?_, fun y => ?_⟩
  · have ec : chO T n p = -1 := if_neg (by omega)
    exact h1 a p c (by rw [rd, if_neg (by rw [ec]; decide)]) ea kFq.rf e9
  · refine c_next hL h ⟨_, rfl, c_isSg hL (h.k p) (fun y => ⟨_, rfl, kq1 ?_⟩) (fun y => ⟨_, rfl, kq0 ?_⟩)⟩
    · have hin := chO_in (T := T) (n := n) (p := p) (by omega)
      have f1 : kFq 7 7 7 c (kup c 170 9 (c 170 9 + 1)) := kFq.rf.up
      refine ih0 e o (p + 1) d _ _ a ho o0 (h.nx hin.2) (by omega) (fun g q c1 er k1 fr eq => ⟨_, rfl, kq1 ?_⟩) (fun v c1 er fr eq => ⟨_, rfl, kq0 ?_⟩)
      · have hg := rd_ok hB _ _ _ _ _ _ _ (by omega) (fun z => by omega) er
        have fr1 : kFq (o + 1) (o + 1) o c c1 := f1.w.tr fr
        have ea1 : kEq (c1 (194 + 1 + o)) a := (fr1.row).tr ea
        refine c_combine hL (h.k p) y (by omega) ea1 k1 ba hg.2.2 (fun w c2 e2 fr2 eq2 => ⟨_, rfl, kq1 ?_⟩) (fun w c2 fr2 eq2 => ⟨_, rfl, kq0 ?_⟩)
        · refine s_X0_copy hL (lsh_212 hL) (rw2 hL (by omega)) (fun c3 e3 o3 => ⟨rfl, ?_⟩)
          have fr3 : kFq (o + 1) o o c c3 := ((fr1.w (s' := o + 1) (t' := o) (f' := o)).tr fr2.w).o o3
          have h93 : c3 170 9 = q := by rw [o3 _ _ (by omega), eq2]; exact eq
          refine ih2 e o q d P c3 _ (l + -1) ho o0 (h.fr fr3 h93 (by omega)) (by omega) (e3.tr e2) (cmb_bd w) (by omega) (by omega) (fun g' q' c4 er4 k4 fr4 eq4 => h1 g' q' c4 ?_ k4 (fr3.tr fr4) eq4) (fun v c4 er4 fr4 eq4 => h0 v c4 ?_ (fr3.tr fr4) eq4)
          · rw [rd, if_pos y, er]; show (if _ then _ else _) = _; rw [if_pos w]; exact er4
          · rw [rd, if_pos y, er]; show (if _ then _ else _) = _; rw [if_pos w]; exact er4
        · refine c_fails hL (k32i (by omega)) (by rw [e9]; exact k32i (by omega)) (fun c3 r3 e3 => ⟨_, rfl, Or.inl rfl, h0 (-8000 - p) c3 ?_ ((fr1.w.tr fr2.w).tr r3.w) (by rw [e3, e9]; omega)⟩)
          rw [rd, if_pos y, er]; show (if _ then _ else _) = _; rw [if_neg w]
      · exact h0 v c1 (by rw [rd, if_pos y, er]) (f1.w.tr fr.w) eq
    · exact h1 a p c (by rw [rd, if_neg y]) ea kFq.rf e9
theorem cS_s (hL : kLay S0) {k : Nat} (ih1 : cT G S0 T n L k) (ih4 : cSL G S0 T n L k) : cS G S0 T n L (k + 1) := by
  intro e o p d P c a ho o0 h hk h1 h0
  have hB := h.bd
  have hs0 := h.2.1
  refine v_X7_sum hL (k32i (by omega)) ⟨fun y => by omega, fun _ => ⟨fun _ => ?_, fun y => by omega⟩⟩
  refine ih1 e o p d _ c a ho o0 h (by omega) (fun g q c1 er k1 fr eq => ⟨_, rfl, kq1 ?_⟩) (fun v c1 er fr eq => ⟨_, rfl, kq0 ?_⟩)
  · have hg := rd_ok hB _ _ _ _ _ _ _ (by omega) (fun z => by omega) er
    refine s_X0_copy hL (rw2 hL (by omega)) (rw1 hL (by omega)) (fun c2 e2 o2 => ⟨rfl, ?_⟩)
    have fr2 : kFq o o o c c2 := (fr.w (s' := o) (t' := o) (f' := o)).o o2
    have h92 : c2 170 9 = q := by rw [o2 _ _ (by omega)]; exact eq
    have h2 : CPr T n L q c2 := h.fr fr2 h92 (by omega)
    have h82 := h2.2.2.1
    dsimp only
    rw [h82, h92]
    refine ih4 e o q d P c2 g (n - q) ho o0 h2 (by omega) (e2.tr k1) hg.2.2 (by omega) (by omega) (fun g' q' c3 er3 k3 fr3 eq3 => h1 g' q' c3 (by rw [rd, er]; exact er3) k3 (fr2.tr fr3) eq3) (fun v c3 er3 fr3 eq3 => h0 v c3 (by rw [rd, er]; exact er3) (fr2.tr fr3) eq3)
  · exact h0 v c1 (by rw [rd, er]) fr.w eq
theorem pmP_bd {z : Int} {f g : KF} (a : kB kLB f) (b : kB kLB g) : kB 200000000 (pmP z f g) := fun k x y => by
  have h1 : -100000000 ≤ f k ∧ f k ≤ 100000000 := a k x y
  have h2 : -100000000 ≤ g k ∧ g k ≤ 100000000 := b k x y
  unfold pmP
  split
  · show _ ≤ f k + -g k ∧ f k + -g k ≤ _; omega
  · show _ ≤ f k + g k ∧ f k + g k ≤ _; omega
theorem pmP_congr {z : Int} {f f' g g' : KF} (a : kEq f f') (b : kEq g g') : kEq (pmP z f g) (pmP z f' g') := by
  unfold pmP
  split
  · exact subP_congr a b
  · exact addP_congr a b
theorem cSL_s (hL : kLay S0) {k : Nat} (ih1 : cT G S0 T n L k) (ih4 : cSL G S0 T n L k) : cSL G S0 T n L (k + 1) := by
  intro e o p d P c a l ho o0 h hk ea ba hl hl2 h1 h0
  have hB := h.bd
  have hs0 := h.2.1
  have e9 := h.1
  refine v_X7_sum_55 hL (k32i (by omega)) (k32i (by omega)) (by omega) ⟨fun y => ?_, fun y => ?_⟩
  · have ec : chO T n p = -1 := if_neg (by omega)
    exact h1 a p c (by rw [rd, if_neg (by rw [ec]; decide)]) ea kFq.rf e9
  have f1 : kFq 7 7 7 c (kup c 170 9 (c 170 9 + 1)) := kFq.rf.up
  have tail : (chO T n p = 43 ∨ chO T n p = 45) → ∀ (g : KF) (q : Int) (c1 : KMem) (sg : Int), (sg = if chO T n p = 45 then 1 else 0) → rd (chO T n) L k 1 a o (p + 1) = .inl (g, q) → kEq (c1 (194 + 1 + o)) g → kFq (o + 1) o o (kup c 170 9 (c 170 9 + 1)) c1 → c1 170 9 = q →
      kC2 G S0 kM_X0_add (d + 4 * e + 9) [kA (194 + 1 + o), kA (186 + 1 + o), kI sg] c1 (kRN (fun c30 => kC2 G S0 kM_X0_isWithinBound (d + 4 * e + 9) [kA (186 + 1 + o)] c30 (kRI (fun z32 c33 => (k32 z32) ∧ ((z32 ≠ 0 → (kW2 G S0 kM_X7_sum (d + 4 * e + 10) 55 [some (kA 170), some (kI o), some (kI (l + -1)), none, none] [] c33 P)) ∧ (z32 = 0 → (kC2 G S0 kM_X7_fails (d + 4 * e + 9) [kA 170, kI 8, kI (c 170 9)] c33 (kRI (fun z36 c37 => (z36 = 0 ∨ z36 = 1) ∧ (P (some (kI z36)) c37)))))))))) := by
    intro hc g q c1 sg hsg er k1 fr eq
    have hin := chO_in (T := T) (n := n) (p := p) (by omega)
    have hg := rd_ok hB _ _ _ _ _ _ _ (by omega) (fun z => by omega) er
    have fr1 : kFq (o + 1) o o c c1 := f1.w.tr fr
    have ea1 : kEq (c1 (186 + 1 + o)) a := (fr1.row).tr ea
    refine s_X0_add hL (rw2 hL (by omega)) (rw1 hL (by omega)) (by omega) (by rw [hsg]; split <;> exact k32i (by omega)) (fun c2 e2 o2 => ⟨rfl, ?_⟩)
    have ep : (if sg = 0 then addP (c1 (186 + 1 + o)) (c1 (194 + 1 + o)) else subP (c1 (186 + 1 + o)) (c1 (194 + 1 + o))) = pmP (chO T n p) (c1 (186 + 1 + o)) (c1 (194 + 1 + o)) := by
      unfold pmP
      by_cases w : chO T n p = 45
      · rw [hsg, if_pos w, if_pos w, if_neg (by decide)]
      · rw [hsg, if_neg w, if_neg w, if_pos rfl]
    rw [ep] at e2
    have e3 : kEq (c2 (186 + 1 + o)) (pmP (chO T n p) a g) := e2.tr (pmP_congr ea1 k1)
    have b3 := (pmP_bd (z := chO T n p) ba hg.2.2).eq e3
    have fr2 : kFq o o o c c2 := (fr1.w (s' := o) (t' := o) (f' := o)).o o2
    have h92 : c2 170 9 = q := by rw [o2 _ _ (by omega)]; exact eq
    refine s_X0_isWithinBound hL (rw1 hL (by omega)) (kb64 b3 (by decide)) (fun w => ⟨_, rfl, kq1 ?_⟩) (fun w => ⟨_, rfl, kq0 ?_⟩)
    · rw [kWb_congr e3] at w
      refine ih4 e o q d P c2 _ (l + -1) ho o0 (h.fr fr2 h92 (by omega)) (by omega) e3 (kWb_bd w) (by omega) (by omega) (fun g' q' c4 er4 k4 fr4 eq4 => h1 g' q' c4 ?_ k4 (fr2.tr fr4) eq4) (fun v c4 er4 fr4 eq4 => h0 v c4 ?_ (fr2.tr fr4) eq4)
      · rw [rd, if_pos hc, er]; show (if _ then _ else _) = _; rw [if_pos w]; exact er4
      · rw [rd, if_pos hc, er]; show (if _ then _ else _) = _; rw [if_pos w]; exact er4
    · rw [kWb_congr e3] at w
      refine c_fails hL (k32i (by omega)) (by rw [e9]; exact k32i (by omega)) (fun c3 r3 e3 => ⟨_, rfl, Or.inl rfl, h0 (-8000 - p) c3 ?_ (fr2.tr r3.w) (by rw [e3, e9]; omega)⟩)
      rw [rd, if_pos hc, er]; show (if _ then _ else _) = _; rw [if_neg w]
  refine c_next hL h ⟨_, rfl, h.k p, fun y => ?_, fun y => ⟨fun y2 => ?_, fun y2 => ?_⟩⟩
  · have hin := chO_in (T := T) (n := n) (p := p) (by omega)
    refine ih1 e o (p + 1) d _ _ a ho o0 (h.nx hin.2) (by omega) (fun g q c1 er k1 fr eq => ⟨_, rfl, kq1 ⟨fun _ => ?_, fun w => by omega⟩⟩) (fun v c1 er fr eq => ⟨_, rfl, kq0 ?_⟩)
    · exact tail (Or.inl y) g q c1 0 (by rw [if_neg (by omega)]) er k1 fr eq
    · exact h0 v c1 (by rw [rd, if_pos (Or.inl y), er]) (f1.w.tr fr.w) eq
  · have hin := chO_in (T := T) (n := n) (p := p) (by omega)
    refine ih1 e o (p + 1) d _ _ a ho o0 (h.nx hin.2) (by omega) (fun g q c1 er k1 fr eq => ⟨_, rfl, kq1 ⟨fun w => by omega, fun _ => ?_⟩⟩) (fun v c1 er fr eq => ⟨_, rfl, kq0 ?_⟩)
    · exact tail (Or.inr y2) g q c1 1 (by rw [if_pos y2]) er k1 fr eq
    · exact h0 v c1 (by rw [rd, if_pos (Or.inr y2), er]) (f1.w.tr fr.w) eq
  · exact h1 a p c (by rw [rd, if_neg (by omega)]) ea kFq.rf e9
theorem c_all (hL : kLay S0) : ∀ k : Nat, cF G S0 T n L k ∧ cT G S0 T n L k ∧ cTL G S0 T n L k ∧ cS G S0 T n L k ∧ cSL G S0 T n L k
  | 0 => ⟨fun e o p d P c a ho o0 h hk => by have := h.2.1; omega, fun e o p d P c a ho o0 h hk => by have := h.2.1; omega, fun e o p d P c a l ho o0 h hk => by have := h.2.1; omega, fun e o p d P c a ho o0 h hk => by have := h.2.1; omega, fun e o p d P c a l ho o0 h hk => by have := h.2.1; omega⟩
  | k + 1 => by
    obtain ⟨a, b, e, f, g⟩ := c_all hL k
    exact ⟨cF_s hL a f, cT_s hL a e, cTL_s hL a e, cS_s hL b g, cSL_s hL b g⟩
end CR
