section RR
variable {G : KG} {S0 : KSh} {d : Nat} {P : Option AV → KMem → Prop} {c c' c0 c1 c2 : KMem} {T : Int → Int} {n p q : Int} {L : KLt} {w : Int × Int × Int} {W : List (Int × Int × Int)} {V : List KF} {g f a : KF} {x1 x2 x3 i v x z : Int}
theorem t_settles (hL : kLay S0) (h : RPr T n L p c) (hm : MS (w :: W) (g :: a :: V) c) (hW : W.length ≤ 39) (hV : V.length ≤ 20) (hw : w.1 ≤ 6) (h1 : sgB w.1 a g = true → ∀ c', RPr T n L p c' → kFx c c' → MS W (sgP w.1 a g :: V) c' → P (some (kI 1)) c') (h0 : ¬ sgB w.1 a g = true → ∀ c', kFx c c' → c' 558 25 = -8000 - w.2.1 → P (some (kI 0)) c') : kC2 G S0 kM_X11_settlesSign (d + 3) [kA 558] c P := by
  have hm' := hm
  obtain ⟨m1, m2, m3, ⟨⟨w1, w2, w3, w4, w5, w6⟩, mW⟩, ⟨⟨eg, bg⟩, ⟨ea, ba⟩, mV⟩⟩ := hm
  have l27 : c 558 27 = (W.length : Int) + 1 := by rw [m1, List.length_cons]; omega
  have l29 : c 558 29 = (V.length : Int) + 2 := by rw [m3, List.length_cons, List.length_cons]; omega
  have eg' : kEq (kF c (44 + ((V.length : Int) + 1))) g := by
    have e : ((a :: V).length : Int) = (V.length : Int) + 1 := by rw [List.length_cons]; omega
    rw [e] at eg; exact eg
  have e28 : c 558 28 = kOp W := by rw [m2, kOp, if_neg (by omega)]; omega
  refine v_X11_settlesSign hL (t_upper hL hm' (by rw [List.length_cons]; omega) ⟨w.1, rfl, ⟨by omega, k32i (by omega), ?_⟩⟩)
  have t1 : (44 : Int) + ((V.length : Int) + 2 - 1) = 44 + ((V.length : Int) + 1) := by omega
  have t2 : (44 : Int) + ((V.length : Int) + 1) - 1 = 44 + (V.length : Int) := by omega
  have t3 : (W.length : Int) + 1 - 1 = (W.length : Int) := by omega
  have t4 : (V.length : Int) + 2 - 1 = (V.length : Int) + 1 := by omega
  rw [l27, l29, t1, t2, t3, t4, w2]
  have eC : ∀ b j : Int, ¬ (b = 558 ∧ (j = 27 ∨ j = 29)) → kup (kup c 558 27 (W.length : Int)) 558 29 ((V.length : Int) + 1) b j = c b j := fun b j y => by rw [kup_n (by omega), kup_n (by omega)]
  generalize hC : kup (kup c 558 27 (W.length : Int)) 558 29 ((V.length : Int) + 1) = C at eC
  have c27 : C 558 27 = (W.length : Int) := by rw [← hC, kup_n (Or.inr (by decide)), kup_s]
  have c29 : C 558 29 = (V.length : Int) + 1 := by rw [← hC, kup_s]
  have fC : kFx c C := ⟨fun b j y => eC b j (by omega), fun s _ _ k _ _ => eC 559 _ (by omega)⟩
  have sC : kSgn C := fun b b' hb hb' => (eC _ _ (by omega)).trans (h.2.2.2.2.2.1.1 b b' hb hb')
  have ga : kEq (kF C (44 + (V.length : Int))) a := kEq.tr (fun k _ _ => eC 559 _ (by omega)) ea
  have gg : kEq (kF C (44 + ((V.length : Int) + 1))) g := kEq.tr (fun k _ _ => eC 559 _ (by omega)) eg'
  have ba' := ba.eq ga
  have bg' := bg.eq gg
  have fin : ∀ c', kR (fun s => s = 44 + (V.length : Int) ∨ s = 44 + ((V.length : Int) + 1)) C c' → kFx c c' := fun c' r => fC.tr (kFx.rf.r2 r)
  have good : ∀ c', kR (fun s => s = 44 + (V.length : Int) ∨ s = 44 + ((V.length : Int) + 1)) C c' → kEq (kF c' (44 + (V.length : Int))) (sgP w.1 a g) → sgB w.1 a g = true → kW2 G S0 kM_X11_settlesSign (d + 3) 183 [some (kA 558), none, some (kI w.2.1), none, none, some (kI 1), none] [] c' P := by
    intro c' r e b
    refine v_X11_settlesSign_183 hL (k32i (by omega)) (by omega) ⟨fun _ => h1 b c' ?_ (fin c' r) ⟨?_, ?_, ?_, ?_, ⟨e, sgP_bd b⟩, ?_⟩, fun z => absurd z (by decide)⟩
    · exact h.fr (fin c' r) ((r.2 _ _ (by decide) (by decide)).trans ((eC _ _ (by omega)).trans h.1)) (by have := h.2.1; omega)
    · exact (r.2 _ _ (by decide) (by decide)).trans c27
    · exact (r.2 _ _ (by decide) (by decide)).trans ((eC _ _ (by omega)).trans e28)
    · rw [r.2 _ _ (by decide) (by decide), c29, List.length_cons]; omega
    · exact mW.fr (fun b j y _ _ => (r.2 b j (by omega) (by omega)).trans (eC b j (by omega)))
    · exact mV.fr (fun s s0 s1 => (r.1 s (by omega) (by omega)).tr (fun k _ _ => eC 559 _ (by omega)))
  have bad : ∀ c', kR (fun s => s = 44 + (V.length : Int) ∨ s = 44 + ((V.length : Int) + 1)) C c' → ¬ sgB w.1 a g = true → kW2 G S0 kM_X11_settlesSign (d + 3) 183 [some (kA 558), none, some (kI w.2.1), none, none, some (kI 0), none] [] c' P := by
    intro c' r b
    refine v_X11_settlesSign_183 hL (k32i (by omega)) (by omega) ⟨fun z => absurd rfl z, fun _ => ?_⟩
    exact t_wrongAt hL (k32i (by omega)) (k32i (by omega)) (fun c2 r2 e2 => ⟨_, rfl, kr0 (h0 b c2 ((fin c' r).tr r2.fx) (by rw [e2]; omega))⟩)
  have hs : kPh (fun s => kF C s) C C := ⟨fun _ _ => kEq.rf, fun _ _ _ _ => rfl⟩
  have fr2 : ∀ u u' c', kPh (kU (kU (fun s => kF C s) (44 + ((V.length : Int) + 1)) u) (44 + (V.length : Int)) u') C c' → kR (fun s => s = 44 + (V.length : Int) ∨ s = 44 + ((V.length : Int) + 1)) C c' := by
    intro u u' c' s
    refine ⟨fun s' y y2 => ?_, s.2⟩
    have := s.1 s' y2
    unfold kU at this
    rw [if_neg (fun z => y (Or.inl z)), if_neg (fun z => y (Or.inr z))] at this
    exact this
  have one : ∀ u u' c', kPh (kU (kU (fun s => kF C s) (44 + ((V.length : Int) + 1)) u) (44 + (V.length : Int)) u') C c' → kEq (kF c' (44 + (V.length : Int))) u' := fun u u' c' s => s.e (by omega) kUs
  have two : ∀ c', kR (fun s => s = 44 + (V.length : Int)) C c' → kR (fun s => s = 44 + (V.length : Int) ∨ s = 44 + ((V.length : Int) + 1)) C c' := fun c' r => ⟨fun s y y2 => r.1 s (fun z => y (Or.inl z)) y2, r.2⟩
  have sg : kEq (sgP w.1 (kF C (44 + (V.length : Int))) (kF C (44 + ((V.length : Int) + 1)))) (sgP w.1 a g) := by
    unfold sgP
    by_cases y : w.1 = 3
    · rw [if_pos y, if_pos y]; exact metP_congr ga gg
    rw [if_neg y, if_neg y]
    by_cases y : w.1 = 4
    · rw [if_pos y, if_pos y]; exact mirP_congr ga gg
    rw [if_neg y, if_neg y]
    by_cases y : w.1 = 5
    · rw [if_pos y, if_pos y]; exact addP_congr ga gg
    rw [if_neg y, if_neg y]
    by_cases y : w.1 = 6
    · rw [if_pos y, if_pos y]; exact subP_congr ga gg
    rw [if_neg y, if_neg y]
    exact mulP_congr ga gg
  have pm : (w.1 = 5 ∨ w.1 = 6) → kW2 G S0 kM_X11_settlesSign (d + 3) 104 [some (kA 558), some (kI w.1), some (kI w.2.1), some (kI (44 + (V.length : Int))), some (kI (44 + ((V.length : Int) + 1))), none, some (kI 0)] [] C P := by
    intro hk
    have loop : ∀ m j : Nat, j + m = 16 → ∀ c', kR (fun s => s = 44 + (V.length : Int)) C c' → (∀ i : Int, 0 ≤ i → i < 16 → kF c' (44 + (V.length : Int)) i = if i < j then sgP w.1 (kF C (44 + (V.length : Int))) (kF C (44 + ((V.length : Int) + 1))) i else kF C (44 + (V.length : Int)) i) → kW2 G S0 kM_X11_settlesSign (d + 3) 104 [some (kA 558), some (kI w.1), some (kI w.2.1), some (kI (44 + (V.length : Int))), some (kI (44 + ((V.length : Int) + 1))), none, some (kI (j : Int))] [] c' P := by
      intro m
      induction m with
      | zero =>
        intro j hj c' r q
        have qa : kEq (kF c' (44 + (V.length : Int))) (sgP w.1 a g) := kEq.tr (fun i i0 i1 => by rw [q i i0 i1, if_pos (by omega)]) sg
        have hb : sgB w.1 a g = kWb (sgP w.1 a g) := by
          unfold sgB sgP
          rcases hk with y | y
          · rw [if_neg (by omega), if_neg (by omega), if_pos y, if_neg (by omega), if_neg (by omega), if_pos y]
          · rw [if_neg (by omega), if_neg (by omega), if_neg (by omega), if_pos y, if_neg (by omega), if_neg (by omega), if_neg (by omega), if_pos y]
        have bd : kB 200000000 (sgP w.1 a g) := by
          unfold sgP
          rcases hk with y | y
          · rw [if_neg (by omega), if_neg (by omega), if_pos y]
            have := pmP_bd (z := 43) ba bg
            unfold pmP at this
            rw [if_neg (by decide)] at this
            exact this
          · rw [if_neg (by omega), if_neg (by omega), if_neg (by omega), if_pos y]
            have := pmP_bd (z := 45) ba bg
            unfold pmP at this
            rw [if_pos (by decide)] at this
            exact this
        have hs' : kPh (fun s => kF c' s) c' c' := ⟨fun _ _ => kEq.rf, fun _ _ _ _ => rfl⟩
        refine v_X11_settlesSign_104 hL (k32i (by omega)) (k32i (by omega)) (k32i (by omega)) (k32i (by omega)) (by omega) (by omega) ⟨fun _ => ?_, fun z => by omega⟩
        exact t_isWithin hL hs' (fun y => ⟨_, rfl, good c' (two c' r) qa (by rw [hb, ← kWb_congr qa]; exact y)⟩) (fun y => ⟨_, rfl, bad c' (two c' r) (by rw [hb, ← kWb_congr qa]; exact y)⟩) rfl (bd.eq qa) (by decide) (by omega)
      | succ m ih =>
        intro j hj c' r q
        have qj : c' 559 (16 * (44 + (V.length : Int)) + j) = kF C (44 + (V.length : Int)) j := (q j (by omega) (by omega)).trans (if_neg (by omega))
        have qo : c' 559 (16 * (44 + ((V.length : Int) + 1)) + j) = kF C (44 + ((V.length : Int) + 1)) j := r.1 (44 + ((V.length : Int) + 1)) (by omega) (by omega) j (by omega) (by omega)
        have nx : ∀ v : Int, v = sgP w.1 (kF C (44 + (V.length : Int))) (kF C (44 + ((V.length : Int) + 1))) j → kW2 G S0 kM_X11_settlesSign (d + 3) 104 [some (kA 558), some (kI w.1), some (kI w.2.1), some (kI (44 + (V.length : Int))), some (kI (44 + ((V.length : Int) + 1))), none, some (kI ((j : Int) + 1))] [] (kup c' 559 (16 * (44 + (V.length : Int)) + j) v) P := by
          intro v hv
          refine ih (j + 1) (by omega) _ (r.set1 (by omega)) (fun i i0 i1 => ?_)
          show kup c' 559 (16 * (44 + (V.length : Int)) + j) v 559 (16 * (44 + (V.length : Int)) + i) = _
          by_cases y : i = j
          · rw [y, kup_s, if_pos (by omega), hv]
          · rw [kup_n (Or.inr (by omega))]
            refine (q i i0 i1).trans ?_
            by_cases y2 : i < j
            · rw [if_pos y2, if_pos (by omega)]
            · rw [if_neg y2, if_neg (by omega)]
        refine v_X11_settlesSign_104 hL (k32i (by omega)) (k32i (by omega)) (k32i (by omega)) (k32i (by omega)) (by omega) (by omega) ⟨fun z => by omega, fun _ => ⟨fun y => nx _ ?_, fun y => nx _ ?_⟩⟩
        · rw [qj, qo]; unfold sgP
          rw [if_neg (by omega), if_neg (by omega), if_neg y, if_pos (by omega)]; rfl
        · rw [qj, qo]; unfold sgP
          rw [if_neg (by omega), if_neg (by omega), if_pos y]; rfl
    exact loop 16 0 (by omega) C ⟨fun _ _ _ => kEq.rf, fun _ _ _ _ => rfl⟩ (fun i i0 i1 => by rw [if_neg (by omega)])
  refine ⟨fun y3 => ⟨fun y4 => ⟨fun y5 => pm (Or.inl y5), fun y5 => ⟨fun y6 => ?_, fun y6 => pm (Or.inr y6)⟩⟩, fun y4 => ?_⟩, fun y3 => ?_⟩
  · have hb : sgB w.1 a g = kWb (mulP w.1 a g) := by unfold sgB; rw [if_neg y3, if_neg y4, if_neg y5, if_neg y6]
    have hp : sgP w.1 a g = mulP w.1 a g := by unfold sgP; rw [if_neg y3, if_neg y4, if_neg y5, if_neg y6]
    refine s_X11_joins hL (k32i (by omega)) (by omega) sC (kb64 ba' (by decide)) (fun c1 q1 r1 => ⟨rfl, ?_⟩)
    have qa : kEq (kF c1 (44 + (V.length : Int))) (mulP w.1 a g) := q1.tr (mulP_congr ga gg)
    have hs' : kPh (fun s => kF c1 s) c1 c1 := ⟨fun _ _ => kEq.rf, fun _ _ _ _ => rfl⟩
    exact t_isWithin hL hs' (fun y => ⟨_, rfl, good c1 (two c1 r1) (by rw [hp]; exact qa) (by rw [hb, ← kWb_congr qa]; exact y)⟩) (fun y => ⟨_, rfl, bad c1 (two c1 r1) (by rw [hb, ← kWb_congr qa]; exact y)⟩) rfl ((mulP_bdL ba bg (kd := w.1)).eq qa) (by decide) (by omega)
  · have hb : sgB w.1 a g = mirB a g := by unfold sgB; rw [if_neg y3, if_pos y4]
    have hp : sgP w.1 a g = mirP a g := by unfold sgP; rw [if_neg y3, if_pos y4]
    exact t_mirrors hL sC hs (fun c1 s1 y => ⟨_, rfl, good c1 (fr2 _ _ c1 s1) (by rw [hp]; exact (one _ _ c1 s1).tr (mirP_congr ga gg)) (by rw [hb, ← mirB_congr ga gg]; exact y)⟩) (fun c1 u u' s1 y => ⟨_, rfl, bad c1 (fr2 _ _ c1 s1) (by rw [hb, ← mirB_congr ga gg]; exact y)⟩) (by omega) rfl rfl ba' bg'
  · have hb : sgB w.1 a g = kWb (mulP 1 (whlP (-1) a) (whlP (-1) g)) := by unfold sgB; rw [if_pos y3]
    have hp : sgP w.1 a g = metP a g := by unfold sgP; rw [if_pos y3]
    have ew : kWb (mulP 1 (whlP (-1) (kF C (44 + (V.length : Int)))) (whlP (-1) (kF C (44 + ((V.length : Int) + 1))))) = kWb (mulP 1 (whlP (-1) a) (whlP (-1) g)) := kWb_congr (mulP_congr (whlP_congr ga) (whlP_congr gg))
    exact t_meets hL sC hs (fun c1 s1 y => ⟨_, rfl, good c1 (fr2 _ _ c1 s1) (by rw [hp]; exact (one _ _ c1 s1).tr (metP_congr ga gg)) (by rw [hb, ← ew]; exact y)⟩) (fun c1 s1 y => ⟨_, rfl, bad c1 (fr2 _ _ c1 s1) (by rw [hb, ← ew]; exact y)⟩) (by omega) rfl rfl ba' bg'
end RR
