def mkZ (z : Int) : Int := if z = 120 then 2 else if z = 121 then 4 else if z = 112 then 16 else if z = 109 then 256 else if z = 119 then 32768 else if z = 102 then 272 else 0
def unF (z : Int) : KF := if z = 102 then farP else uniP (untP z)
theorem mk_120 : ∀ j : Nat, j < 16 → (kand (kshr 2 (j : Int)) 1 = 1 ∧ unF 120 (j : Int) = 1) ∨ (kand (kshr 2 (j : Int)) 1 ≠ 1 ∧ unF 120 (j : Int) = 0) := by decide +kernel
theorem mk_121 : ∀ j : Nat, j < 16 → (kand (kshr 4 (j : Int)) 1 = 1 ∧ unF 121 (j : Int) = 1) ∨ (kand (kshr 4 (j : Int)) 1 ≠ 1 ∧ unF 121 (j : Int) = 0) := by decide +kernel
theorem mk_112 : ∀ j : Nat, j < 16 → (kand (kshr 16 (j : Int)) 1 = 1 ∧ unF 112 (j : Int) = 1) ∨ (kand (kshr 16 (j : Int)) 1 ≠ 1 ∧ unF 112 (j : Int) = 0) := by decide +kernel
theorem mk_109 : ∀ j : Nat, j < 16 → (kand (kshr 256 (j : Int)) 1 = 1 ∧ unF 109 (j : Int) = 1) ∨ (kand (kshr 256 (j : Int)) 1 ≠ 1 ∧ unF 109 (j : Int) = 0) := by decide +kernel
theorem mk_119 : ∀ j : Nat, j < 16 → (kand (kshr 32768 (j : Int)) 1 = 1 ∧ unF 119 (j : Int) = 1) ∨ (kand (kshr 32768 (j : Int)) 1 ≠ 1 ∧ unF 119 (j : Int) = 0) := by decide +kernel
theorem mk_102 : ∀ j : Nat, j < 16 → (kand (kshr 272 (j : Int)) 1 = 1 ∧ unF 102 (j : Int) = 1) ∨ (kand (kshr 272 (j : Int)) 1 ≠ 1 ∧ unF 102 (j : Int) = 0) := by decide +kernel
theorem mk_b {z : Int} (h : mkZ z ≠ 0) (j : Nat) (hj : j < 16) : (kand (kshr (mkZ z) (j : Int)) 1 = 1 ∧ unF z (j : Int) = 1) ∨ (kand (kshr (mkZ z) (j : Int)) 1 ≠ 1 ∧ unF z (j : Int) = 0) := by
  unfold mkZ at h ⊢
  by_cases a : z = 120
  · rw [if_pos a, a]; exact mk_120 j hj
  rw [if_neg a] at h ⊢
  by_cases a : z = 121
  · rw [if_pos a, a]; exact mk_121 j hj
  rw [if_neg a] at h ⊢
  by_cases a : z = 112
  · rw [if_pos a, a]; exact mk_112 j hj
  rw [if_neg a] at h ⊢
  by_cases a : z = 109
  · rw [if_pos a, a]; exact mk_109 j hj
  rw [if_neg a] at h ⊢
  by_cases a : z = 119
  · rw [if_pos a, a]; exact mk_119 j hj
  rw [if_neg a] at h ⊢
  by_cases a : z = 102
  · rw [if_pos a, a]; exact mk_102 j hj
  rw [if_neg a] at h
  exact absurd rfl h
theorem mk_0 {z : Int} (h : mkZ z = 0) : z ≠ 102 ∧ untP z = 0 := by
  unfold mkZ at h
  unfold untP
  repeat' split at h
  all_goals first | (exfalso; omega) | skip
  rw [if_neg (by assumption), if_neg (by assumption), if_neg (by assumption), if_neg (by assumption), if_neg (by assumption)]
  exact ⟨by assumption, rfl⟩
theorem mk_1 {z : Int} (h : mkZ z ≠ 0) (hz : z ≠ 102) : untP z ≠ 0 := by
  unfold mkZ at h
  unfold untP
  repeat' split at h
  all_goals first | (exfalso; omega) | skip
  · rw [if_pos (by assumption)]; decide
  · rw [if_neg (by assumption), if_pos (by assumption)]; decide
  · rw [if_neg (by assumption), if_neg (by assumption), if_pos (by assumption)]; decide
  · rw [if_neg (by assumption), if_neg (by assumption), if_neg (by assumption), if_pos (by assumption)]; decide
  · rw [if_neg (by assumption), if_neg (by assumption), if_neg (by assumption), if_neg (by assumption), if_pos (by assumption)]; decide
theorem unF_bd {z : Int} : kB kLB (unF z) := by
  unfold unF
  split
  · exact farP_bdL
  · exact uniP_bd
section RR
variable {G : KG} {S0 : KSh} {d : Nat} {P : Option AV → KMem → Prop} {c c' c0 c1 c2 : KMem} {T : Int → Int} {n p q : Int} {L : KLt} {W : List (Int × Int × Int)} {V : List KF} {g f : KF} {x1 x2 x3 i v x z : Int}
theorem MS.add (h : MS W V c) (eW : ∀ a i : Int, (a = 572 ∨ a = 573 ∨ a = 574) → c' a i = c a i) (e27 : c' 558 27 = c 558 27) (e28 : c' 558 28 = c 558 28) (e29 : c' 558 29 = (V.length : Int) + 1) (ek : ∀ s : Int, 44 ≤ s → s < 44 + V.length → kEq (kF c' s) (kF c s)) (eg : kEq (kF c' (44 + (V.length : Int))) g) (bg : kB kLB g) : MS W (g :: V) c' := by
  obtain ⟨a1, a2, a3, a4, a5⟩ := h
  exact ⟨e27.trans a1, e28.trans a2, by rw [e29, List.length_cons]; omega, a4.fr (fun a i x _ _ => eW a i x), ⟨eg, bg⟩, a5.fr ek⟩
/-- a slot above the stack is set, and counted -/
theorem MS.slot (h : MS W V c) (r : kR (fun s => s = 44 + (V.length : Int)) c c1) (e : kEq (kF c1 (44 + (V.length : Int))) g) (bg : kB kLB g) : MS W (g :: V) (kup c1 558 29 (c1 558 29 + 1)) := by
  have e' : ∀ a i : Int, a ≠ 559 → a ≠ 560 → ¬ (a = 558 ∧ i = 29) → kup c1 558 29 (c1 558 29 + 1) a i = c a i := fun a i x y z => (kup_n (by omega)).trans (r.2 a i x y)
  refine h.add (fun a i x => e' a i (by omega) (by omega) (by omega)) (e' _ _ (by decide) (by decide) (by omega)) (e' _ _ (by decide) (by decide) (by omega)) (by rw [kup_s, r.2 _ _ (by decide) (by decide), h.2.2.1]) (fun s a b k k0 k1 => ?_) (fun k k0 k1 => ?_) bg
  · show kup c1 558 29 _ 559 _ = _
    rw [kup_n (Or.inl (by decide))]; exact r.1 s (by omega) (by omega) k k0 k1
  · show kup c1 558 29 _ 559 _ = _
    rw [kup_n (Or.inl (by decide))]; exact e k k0 k1
theorem kR.set1 {t : Int} (h : kR (fun s => s = t) c c1) {k : Int} (hk : 0 ≤ k ∧ k < 16) : kR (fun s => s = t) c (kup c1 559 (16 * t + k) v) := ⟨fun s x y j j0 j1 => by
  have x : ¬ s = t := x
  show kup c1 559 (16 * t + k) v 559 _ = _
  rw [kup_n (Or.inr (by omega))]; exact h.1 s x y j j0 j1, fun a j x y => (kup_n (Or.inl x)).trans (h.2 a j x y)⟩
theorem kR.kn {T' : Int → Prop} (h : kN c c1) (r : kR T' c1 c2) (e : ∀ a i : Int, a = 558 → (i = 23 ∨ i = 25 ∨ i = 26) → c1 a i = c a i) : kR T' c c2 := by
  have e' : ∀ a i : Int, c1 a i = c a i := fun a i => by
    by_cases w : a = 558 ∧ (i = 23 ∨ i = 25 ∨ i = 26)
    · exact e a i w.1 w.2
    · exact h a i w
  exact ⟨fun s x y k k0 k1 => (r.1 s x y k k0 k1).trans (e' _ _), fun a i x y => (r.2 a i x y).trans (e' a i)⟩
theorem t_readsPlace (hL : kLay S0) (h : RPr T n L p c) (hm : MS W V c) (hp : p < n) (hV : V.length ≤ 20) (h1 : ∀ g q c', rdP (chO T n) p = .inl (g, q) → RPr T n L q c' → kFx c c' → MS W (g :: V) c' → P (some (kI 1)) c') (h0 : ∀ v c', rdP (chO T n) p = .inr v → kFx c c' → c' 558 25 = v → P (some (kI 0)) c') : kC2 G S0 kM_X11_readsPlace (d + 4) [kA 558] c P := by
  have e23 := h.1
  have hs0 := h.2.1
  have f1 : kN c (kup c 558 23 (c 558 23 + 1)) := kN.rf.up
  refine v_X11_readsPlace hL (t_readsWhere hL (h.nx hp) (fun u q c1 e r a1 a2 => ⟨_, rfl, kq1 ?_⟩) (fun v c1 e r a1 => ⟨_, rfl, kq0 ?_⟩))
  · have hu := rdW_ok e
    have h2 : RPr T n L q c1 := (h.nx hp).kn r a1 (by omega)
    refine t_takesSign hL h2 (by omega) (fun y c2 r2 a3 hq => ⟨_, rfl, kr1 ?_⟩) (fun y c2 r2 a3 => ⟨_, rfl, kr0 ?_⟩)
    · have h3 : RPr T n L (q + 1) c2 := h2.kn r2 a3 (by omega)
      refine t_readsWhere hL h3 (fun w q2 c3 e2 r3 a4 a5 => ⟨_, rfl, kq1 ?_⟩) (fun v c3 e2 r3 a4 => ⟨_, rfl, kq0 ?_⟩)
      · have hw := rdW_ok e2
        have fn := ((f1.tr r).tr r2).tr r3
        have hm3 := hm.kn fn
        have h4 : RPr T n L q2 c3 := h3.kn r3 a4 (by omega)
        have e29 := hm3.2.2.1
        refine ⟨by rw [a2]; exact k32i (by omega), by rw [a5]; exact k32i (by omega), ?_⟩
        rw [a2, a5, e29]
        refine s_X11_laysPlace hL (by omega) (fun c4 q1 r4 => ⟨rfl, ?_⟩)
        have hm4 := hm3.slot r4 q1 (plcP_bd (by omega) (by omega))
        have fx : kFx c3 (kup c4 558 29 (c4 558 29 + 1)) := (kFx.rf.r r4).up
        refine h1 (plcP u w) q2 _ (by unfold rdP; simp only [e, if_pos y, e2]) (h4.fr fx ?_ (by omega)) (fn.fx.tr fx) hm4
        rw [kup_n (Or.inr (by decide)), r4.2 _ _ (by decide) (by decide)]; exact a4
      · exact h0 v c3 (by unfold rdP; simp only [e, if_pos y, e2]) (((f1.tr r).tr r2).tr r3).fx a4
    · exact h0 (-1000 - q) c2 (by unfold rdP; simp only [e, if_neg y]) ((f1.tr r).tr r2).fx a3
  · exact h0 v c1 (by unfold rdP; simp only [e]) (f1.tr r).fx a1
theorem t_partsFor (hL : kLay S0) (r : k32 z) (k : P (some (kI (mkZ z))) c) : kC2 G S0 kM_X11_partsFor d [kI z] c P := by
  unfold mkZ at k
  refine v_X11_partsFor hL r ⟨fun a => ?_, fun a => ?_⟩
  · rw [if_neg a] at k
    refine ⟨fun a => ?_, fun a => ?_⟩
    · rw [if_neg a] at k
      refine ⟨fun a => ?_, fun a => ?_⟩
      · rw [if_neg a] at k
        refine ⟨fun a => ?_, fun a => ?_⟩
        · rw [if_neg a] at k
          refine ⟨fun a => ?_, fun a => ?_⟩
          · rw [if_neg a] at k
            refine ⟨fun a => ?_, fun a => ?_⟩
            · rw [if_neg a] at k; exact k
            · rw [if_pos a] at k; exact k
          · rw [if_pos a] at k; exact k
        · rw [if_pos a] at k; exact k
      · rw [if_pos a] at k; exact k
    · rw [if_pos a] at k; exact k
  · rw [if_pos a] at k; exact k
theorem mkZ_rg (z : Int) : 0 ≤ mkZ z ∧ mkZ z ≤ 32768 := by
  unfold mkZ
  repeat' split
  all_goals omega
theorem t_readsAtom (hL : kLay S0) (h : RPr T n L p c) (hm : MS W V c) (hV : V.length ≤ 20) (h1 : ∀ g q c', rdA (chO T n) L p = .inl (g, q) → RPr T n L q c' → kFx c c' → MS W (g :: V) c' → P (some (kI 1)) c') (h0 : ∀ v c', rdA (chO T n) L p = .inr v → kFx c c' → c' 558 25 = v → P (some (kI 0)) c') : kC2 G S0 kM_X11_readsAtom (d + 5) [kA 558] c P := by
  have e23 := h.1
  have hs0 := h.2.1
  have e29 := hm.2.2.1
  refine v_X11_readsAtom hL (t_here hL h ⟨_, rfl, h.k p, fun y => ?_, fun y => ?_⟩)
  · rw [e29]
    refine s_X11_empties hL (by omega) (fun c1 q1 r1 => ⟨rfl, ?_⟩)
    have f1 : kFx c c1 := kFx.rf.r r1
    have a23 : c1 558 23 = p := (r1.2 _ _ (by decide) (by decide)).trans e23
    have h2 : RPr T n L p c1 := h.fr f1 a23
    refine t_isD hL (h.k p) (fun yd => ⟨_, rfl, kr1 ?_⟩) (fun yd => ⟨_, rfl, kr0 ?_⟩)
    · have er1 : ∀ v q, rdM (chO T n) 9999 p = .inl (v, q) → rdA (chO T n) L p = .inl (numP v, q) := fun v q e => by unfold rdA; rw [if_neg y, if_pos yd, e]
      have er2 : ∀ v, rdM (chO T n) 9999 p = .inr v → rdA (chO T n) L p = .inr v := fun v e => by unfold rdA; rw [if_neg y, if_pos yd, e]
      refine t_readsNumber hL (k32i (by omega)) h2 (fun v q c2 e r2 a1 a2 => ⟨_, rfl, kq1 ?_⟩) (fun v c2 e r2 a1 => ⟨_, rfl, kq0 (h0 _ c2 (er2 _ e) (f1.tr r2.fx) a1)⟩)
      have hv := rdM_ok e
      refine ⟨by rw [a2]; exact k32i (by omega), k32i (by omega), by omega, v_X11_readsAtom_183 hL ?_⟩
      rw [a2]
      have r3 : kR (fun s => s = 44 + (V.length : Int)) c2 (kup c2 559 (16 * (44 + (V.length : Int)) + 0) v) := kR.set1 ⟨fun _ _ _ => kEq.rf, fun _ _ _ _ => rfl⟩ (by omega)
      have hm2 : MS W V c2 := by
        refine MS.kn (c := c1) ?_ r2
        obtain ⟨b1, b2, b3, b4, b5⟩ := hm
        exact ⟨(r1.2 _ _ (by decide) (by decide)).trans b1, (r1.2 _ _ (by decide) (by decide)).trans b2, (r1.2 _ _ (by decide) (by decide)).trans b3, b4.fr (fun a i x _ _ => r1.2 a i (by omega) (by omega)), b5.fr (fun s a b => r1.1 s (by omega) (by omega))⟩
      refine h1 (numP v) q _ (er1 _ _ e) ?_ ((f1.tr r2.fx).tr ((kFx.rf.r r3).up)) (hm2.slot r3 ?_ (numP_bd (by omega)))
      · refine (h2.kn r2 a1 (by omega)).fr ((kFx.rf.r r3).up) ?_ (by omega)
        rw [kup_n (Or.inr (by decide)), kup_n (Or.inl (by decide))]; exact a1
      · intro k k0 k1
        show kup c2 559 (16 * (44 + (V.length : Int)) + 0) v 559 _ = if k = 0 then v else 0
        by_cases w : k = 0
        · rw [if_pos w, w, kup_s]
        · rw [if_neg w, kup_n (Or.inr (by omega)), r2 _ _ (by omega)]; exact q1 k k0 k1
    · refine ⟨fun yl => ⟨by omega, ?_⟩, fun yl => ?_⟩
      · obtain ⟨l1, l2, l3⟩ := h2.2.2.2.2.2.2
        have ez : (12 : Int) + chO T n p - 65 = 12 + (chO T n p - 65) := by omega
        rw [ez]
        have hb := l1 (chO T n p - 65) (by omega) (by omega)
        have hin := chO_in (T := T) (n := n) (p := p) (by omega)
        have er : rdA (chO T n) L p = if L.1 (chO T n p - 65) = true then .inl (L.2 (chO T n p - 65), p + 1) else .inr (-7000 - p) := by
          unfold rdA; rw [if_neg y, if_neg yd, if_pos yl]
        refine ⟨by rcases hb with w | w <;> rw [w] <;> exact k32i (by omega), fun w => ?_, fun w => ?_⟩
        · have hl := (l2 (chO T n p - 65)).mpr ⟨by omega, by omega, by omega⟩
          rw [if_pos hl] at er
          refine s_X11_copies hL (by omega) (fun c2 q2 r2 _ => ⟨rfl, v_X11_readsAtom_183 hL ?_⟩)
          have a232 : c2 558 23 = p := (r2.2 _ _ (by decide) (by decide)).trans a23
          rw [a232]
          have r3 : kR (fun s => s = 44 + (V.length : Int)) c c2 := ⟨fun s x y => (r2.1 s x y).tr (r1.1 s x y), fun a i x y => (r2.2 a i x y).trans (r1.2 a i x y)⟩
          have qg : kEq (kF c2 (44 + (V.length : Int))) (L.2 (chO T n p - 65)) := q2.tr (fun k k0 k1 => by
            have := (l3 _ hl).1 k k0 k1
            show c1 559 (16 * (12 + (chO T n p - 65)) + k) = _
            rw [show (16 : Int) * (12 + (chO T n p - 65)) + k = 192 + (16 * (chO T n p - 65) + k) by omega]; exact this)
          have hm2 := hm.slot r3 qg (l3 _ hl).2
          have kn : kN (kup c2 558 29 (c2 558 29 + 1)) (kup (kup c2 558 23 (p + 1)) 558 29 (kup c2 558 23 (p + 1) 558 29 + 1)) := fun a i x => by
            by_cases w : a = 558 ∧ i = 29
            · rw [w.1, w.2, kup_s, kup_s, kup_n (Or.inr (by decide))]
            · rw [kup_n (by omega), kup_n (by omega), kup_n (by omega)]
          have fx : kFx c (kup (kup c2 558 23 (p + 1)) 558 29 (kup c2 558 23 (p + 1) 558 29 + 1)) := ((kFx.rf.r r3).up).up
          exact h1 _ (p + 1) _ er (h.fr fx (by rw [kup_n (Or.inr (by decide)), kup_s]) (by omega)) fx (hm2.kn kn)
        · have hl : ¬ L.1 (chO T n p - 65) = true := fun z => by have := (l2 _).mp z; omega
          rw [if_neg hl] at er
          exact t_wrongAt hL (k32i (by omega)) (by rw [a23]; exact k32i (by omega)) (fun c2 r2 e2 => ⟨_, rfl, Or.inl rfl, h0 _ c2 er (f1.tr r2.fx) (by rw [e2, a23]; omega)⟩)
      · have hr := mkZ_rg (chO T n p)
        refine t_partsFor hL (h.k p) ⟨_, rfl, k32i (by omega), fun w => ?_, fun w => ?_⟩
        · have hin := chO_in (T := T) (n := n) (p := p) (fun z => w (by rw [z]; decide))
          have er : rdA (chO T n) L p = .inl (unF (chO T n p), p + 1) := by
            unfold rdA unF
            rw [if_neg y, if_neg yd, if_neg yl]
            by_cases w2 : chO T n p = 102
            · rw [if_pos w2, if_pos w2]
            · rw [if_neg w2, if_neg w2, if_neg (mk_1 w w2)]
          have loop : ∀ m k : Nat, k + m = 16 → ∀ c', kR (fun s => s = 44 + (V.length : Int)) c c' → (∀ j : Int, 0 ≤ j → j < 16 → kF c' (44 + (V.length : Int)) j = if j < k then unF (chO T n p) j else 0) → kW2 G S0 kM_X11_readsAtom (d + 5) 143 [some (kA 558), some (kI (chO T n p)), some (kI (44 + (V.length : Int))), some (kI (k : Int))] [] c' P := by
            intro m
            induction m with
            | zero =>
              intro k hk c' r3 q3
              refine v_X11_readsAtom_143 hL (h.k p) (by omega) (by omega) (by omega) ⟨fun _ => v_X11_readsAtom_183 hL ?_, fun z => by omega⟩
              have a232 : c' 558 23 = p := (r3.2 _ _ (by decide) (by decide)).trans e23
              rw [a232]
              have hm2 := hm.slot r3 (g := unF (chO T n p)) (fun j j0 j1 => by rw [q3 j j0 j1, if_pos (by omega)]) unF_bd
              have kn : kN (kup c' 558 29 (c' 558 29 + 1)) (kup (kup c' 558 23 (p + 1)) 558 29 (kup c' 558 23 (p + 1) 558 29 + 1)) := fun a i x => by
                by_cases w : a = 558 ∧ i = 29
                · rw [w.1, w.2, kup_s, kup_s, kup_n (Or.inr (by decide))]
                · rw [kup_n (by omega), kup_n (by omega), kup_n (by omega)]
              have fx : kFx c (kup (kup c' 558 23 (p + 1)) 558 29 (kup c' 558 23 (p + 1) 558 29 + 1)) := ((kFx.rf.r r3).up).up
              exact h1 _ (p + 1) _ er (h.fr fx (by rw [kup_n (Or.inr (by decide)), kup_s]) (by omega)) fx (hm2.kn kn)
            | succ m ih =>
              intro k hk c' r3 q3
              refine v_X11_readsAtom_143 hL (h.k p) (by omega) (by omega) (by omega) ⟨fun z => by omega, fun _ => t_partsFor hL (h.k p) ⟨_, rfl, k32i (by omega), fun z => ?_, fun z => ?_⟩⟩
              · have hb : unF (chO T n p) (k : Int) = 1 := by rcases mk_b w k (by omega) with b | b; exact b.2; exact absurd z b.1
                refine ih (k + 1) (by omega) _ (r3.set1 (by omega)) (fun j j0 j1 => ?_)
                show kup c' 559 (16 * (44 + (V.length : Int)) + k) 1 559 (16 * (44 + (V.length : Int)) + j) = _
                by_cases wj : j = k
                · rw [wj, kup_s, if_pos (by omega), hb]
                · rw [kup_n (Or.inr (by omega))]
                  refine (q3 j j0 j1).trans ?_
                  by_cases w3 : j < k
                  · rw [if_pos w3, if_pos (by omega)]
                  · rw [if_neg w3, if_neg (by omega)]
              · have hb : unF (chO T n p) (k : Int) = 0 := by rcases mk_b w k (by omega) with b | b; exact absurd b.1 z; exact b.2
                refine ih (k + 1) (by omega) _ r3 (fun j j0 j1 => ?_)
                refine (q3 j j0 j1).trans ?_
                by_cases wj : j = k
                · rw [wj, if_neg (by omega), if_pos (by omega), hb]
                · by_cases w3 : j < k
                  · rw [if_pos w3, if_pos (by omega)]
                  · rw [if_neg w3, if_neg (by omega)]
          exact loop 16 0 (by omega) c1 r1 (fun j j0 j1 => by rw [if_neg (by omega)]; exact q1 j j0 j1)
        · have hz := mk_0 w
          have er : rdA (chO T n) L p = .inr (-1000 - p) := by
            unfold rdA; rw [if_neg y, if_neg yd, if_neg yl, if_neg hz.1, if_pos hz.2]
          exact t_wrongAt hL (k32i (by omega)) (by rw [a23]; exact k32i (by omega)) (fun c2 r2 e2 => ⟨_, rfl, Or.inl rfl, h0 _ c2 er (f1.tr r2.fx) (by rw [e2, a23]; omega)⟩)
  · have hin := chO_in (T := T) (n := n) (p := p) (by omega)
    have er : rdA (chO T n) L p = rdP (chO T n) p := if_pos y
    exact t_readsPlace hL h hm hin.2 hV (fun g q c1 e a b k => ⟨_, rfl, Or.inr rfl, h1 g q c1 (er.trans e) a b k⟩) (fun v c1 e a b => ⟨_, rfl, Or.inl rfl, h0 v c1 (er.trans e) a b⟩)
end RR
