def selL (H : Int → Bool) (F : Int → KF) (b : Int) : Nat → List KF
  | 0 => []
  | k + 1 => if kbit b k = true ∧ H k = true then F k :: selL H F b k else selL H F b k
/-- rows in echelon that span what some rows do -/
def kEs (V : List KF) (ρ : Nat → KF) (δ : Nat → Int) (m : Nat) : Prop := kEg ρ δ m ∧ (∀ i : Nat, i < m → sp V (ρ i)) ∧ ∀ v, v ∈ V → sp (lst ρ m) v
theorem kEs.rk {V : List KF} {ρ : Nat → KF} {δ : Nat → Int} {m : Nat} (h : kEs V ρ δ m) : IsRk V m :=
  ⟨lst ρ m, lst δ m, h.1.ech, lst_len m, fun r hr => by obtain ⟨i, a, b⟩ := lst_mem hr; rw [b]; exact h.2.1 i a, h.2.2⟩
theorem kEs.no {V : List KF} {ρ : Nat → KF} {δ : Nat → Int} {m : Nat} {f : KF} (h : kEs V ρ δ m) (hf : sp (lst ρ m) f) : kEs (f :: V) ρ δ m :=
  ⟨h.1, fun i q => sp_cons (h.2.1 i q), fun v hv => by
    rcases List.mem_cons.mp hv with w | w
    · rw [w]; exact hf
    · exact h.2.2 v w⟩
theorem kEs.yes {V : List KF} {ρ : Nat → KF} {δ : Nat → Int} {m : Nat} {f g : KF} {e u : Int} (h : kEs V ρ δ m) (hu : u % 1000003 ≠ 0) (hs : sp (lst ρ m) (fun j => u * f j - g j)) (hl : ldC g e) (hz : ∀ i : Nat, i < m → g (δ i) % 1000003 = 0) : kEs (f :: V) (fun i => if i = m then g else ρ i) (fun i => if i = m then e else δ i) (m + 1) := by
  have el : lst (fun i => if i = m then g else ρ i) (m + 1) = g :: lst ρ m := by
    rw [lst, if_pos rfl]; congr 1; exact lst_cg (fun i q => if_neg (by omega))
  refine ⟨fun i q => ?_, fun i q => ?_, fun v hv => ?_⟩
  · by_cases w : i = m
    · rw [w]
      refine ⟨by dsimp only; rw [if_pos rfl, if_pos rfl]; exact hl, fun i' q' => ?_⟩
      dsimp only
      rw [if_pos rfl, if_neg (by omega)]; exact hz i' q'
    · have := h.1 i (by omega)
      refine ⟨by dsimp only; rw [if_neg w, if_neg w]; exact this.1, fun i' q' => ?_⟩
      dsimp only
      rw [if_neg w, if_neg (by omega)]; exact this.2 i' q'
  · by_cases w : i = m
    · dsimp only
      rw [if_pos w]
      have h1 : sp (f :: V) (fun j => u * f j - g j) := sp_cons (sp_sub (fun r hr => by obtain ⟨i, a, b⟩ := lst_mem hr; rw [b]; exact h.2.1 i a) hs)
      refine sp_cg _ (fun j _ _ => ?_) (sp_lin _ u (-1) (sp_hd f V) h1)
      show (u * f j + -1 * (u * f j - g j)) % 1000003 = g j % 1000003
      congr 1; omega
    · dsimp only
      rw [if_neg w]; exact sp_cons (h.2.1 i (by omega))
  · rw [el]
    rcases List.mem_cons.mp hv with w | w
    · rw [w]
      refine sp_div _ hu (sp_cg _ (fun j _ _ => ?_) (sp_lin _ 1 1 (sp_cons hs) (sp_hd g (lst ρ m))))
      show (1 * (u * f j - g j) + 1 * g j) % 1000003 = (u * f j) % 1000003
      congr 1; omega
    · exact sp_cons (h.2.2 v w)
section CRK
variable {G : KG} {S0 : KSh} {d : Nat} {P : Option AV → KMem → Prop} {c c' : KMem} {H : Int → Bool} {F : Int → KF} {x1 x2 : Int}
theorem c_independent (hL : kLay S0) (hb : 0 ≤ x2 ∧ x2 < 4096) (hs : kLm 3 H F c) (h : ∀ m c', IsRk (selL H F x2 12) m → m ≤ 12 → kCP c c' → P (some (kI (m : Int))) c') : kC2 G S0 kM_X2_independent (d + 3) [kA 533, kA 3, kI x2] c P := by
  have loop : ∀ n k : Nat, k + n = 12 → ∀ (m : Nat) (ρ : Nat → KF) (δ : Nat → Int) (c' : KMem), m ≤ k → kEr ρ δ m c' → kEs (selL H F x2 k) ρ δ m → kCP c c' → kW2 G S0 kM_X2_independent (d + 3) 5 [some (kA 533), some (kA 3), some (kI x2), some (kI (m : Int)), some (kI (k : Int))] [] c' P := by
    intro n
    induction n with
    | zero =>
      intro k hk m ρ δ c' hm hr he hc
      obtain rfl : k = 12 := by omega
      exact v_X2_independent_5 hL (llt_3 hL) (by omega) (by omega) (by omega) (by omega) ⟨fun _ => h m c' he.rk hm hc, fun z => by omega⟩
    | succ n ih =>
      intro k hk m ρ δ c' hm hr he hc
      have hl : kLm 3 H F c' := hs.kept (fun a i p q => hc a i (by unfold kSc; omega))
      have nx : ∀ (m' : Nat) (ρ' : Nat → KF) (δ' : Nat → Int) (c2 : KMem), m' ≤ k + 1 → kEr ρ' δ' m' c2 → kEs (selL H F x2 (k + 1)) ρ' δ' m' → kCP c c2 → kW2 G S0 kM_X2_independent (d + 3) 47 [some (kA 533), some (kA 3), some (kI x2), some (kI (m' : Int)), some (kI (k : Int))] [] c2 P := fun m' ρ' δ' c2 a1 a2 a3 a4 =>
        v_X2_independent_47 hL (llt_3 hL) (by omega) (by omega) (by omega) (ih (k + 1) (by omega) m' ρ' δ' c2 a1 a2 a3 a4)
      have bit := kbit_ne hb (show k < 12 by omega)
      refine v_X2_independent_5 hL (llt_3 hL) (by omega) (by omega) (by omega) (by omega) ⟨fun z => by omega, fun _ => ⟨fun y => ⟨hl.1, fun y2 => ⟨by omega, ?_⟩, fun y2 => ?_⟩, fun y => ?_⟩⟩
      · have hH := (hl.2.1 k).mpr y2
        have hF := hl.2.2 k hH
        have es : selL H F x2 (k + 1) = F k :: selL H F x2 k := if_pos ⟨bit.mp y, hH⟩
        rw [es] at nx
        have fr : ∀ c2, (∀ a i : Int, a ≠ 534 + 1 + (m : Int) → ¬ (a = 547 ∧ i = (m : Int)) → c2 a i = c' a i) → kCP c c2 := fun c2 e => hc.tr (fun a i z => e a i (fun w => z (by rw [w]; unfold kSc; omega)) (fun w => z (by rw [w.1]; unfold kSc; omega)))
        refine c_isInd hL (by omega) (((llt_3 hL).2.2.2.2.2 _ (by omega) (by omega)).2) (by omega) hF.1 hF.2 hr he.1 (fun g e u c2 hu hsp hld hz rg eg e547 e2 => ⟨_, rfl, kr1 ?_⟩) (fun c2 hsp e2 => ⟨_, rfl, kr0 ?_⟩)
        · refine nx (m + 1) _ _ c2 (by omega) (fun i hi => ?_) (he.yes hu hsp hld hz) (fr c2 e2)
          by_cases w : i = m
          · rw [w, if_pos rfl, if_pos rfl]; exact ⟨eg, e547, rg⟩
          · have := hr i (by omega)
            rw [if_neg w, if_neg w]
            refine ⟨kEq.tr (fun j _ _ => e2 _ _ (by omega) (by omega)) this.1, (e2 _ _ (by omega) (by omega)).trans this.2.1, this.2.2⟩
        · refine nx m ρ δ c2 (by omega) (fun i hi => ?_) (he.no hsp) (fr c2 e2)
          have := hr i hi
          exact ⟨kEq.tr (fun j _ _ => e2 _ _ (by omega) (by omega)) this.1, (e2 _ _ (by omega) (by omega)).trans this.2.1, this.2.2⟩
      · have es : selL H F x2 (k + 1) = selL H F x2 k := if_neg (fun z => y2 ((hl.2.1 k).mp z.2))
        exact nx m ρ δ c' (by omega) hr (es ▸ he) hc
      · have es : selL H F x2 (k + 1) = selL H F x2 k := if_neg (fun z => y (bit.mpr z.1))
        exact nx m ρ δ c' (by omega) hr (es ▸ he) hc
  exact v_X2_independent hL (llt_3 hL) (by omega) (loop 12 0 (by omega) 0 (fun _ _ => 0) (fun _ => 0) c (by omega) (fun i hi => by omega) ⟨fun i hi => by omega, fun i hi => by omega, fun v hv => nomatch hv⟩ kCP.rf)
theorem s_X10_rank (hL : kLay S0) (r1 : k32 x1) (hs : CSt H F c) (h1 : kSetB H x1 12 = true → ∀ m c', IsRk (selL H F x1 12) m → m ≤ 12 → kCP c c' → P (some (kI (m : Int))) c') (h0 : ¬ kSetB H x1 12 = true → P (some (kI (-1))) c) : kC2 G S0 kM_X10_rank (d + 4) [kA 0, kI x1] c P := by
  refine v_X10_rank hL r1 (tc_areTold hL r1 (k32i (by omega)) hs (fun q => ⟨_, rfl, kq1 ?_⟩) (fun q => ⟨_, rfl, kq0 (h0 q)⟩))
  have hq := kSetB_iff.mp q
  exact c_independent hL (by omega) hs.1 (fun m c' a b e => ⟨_, rfl, h1 q m c' a b e⟩)
end CRK
