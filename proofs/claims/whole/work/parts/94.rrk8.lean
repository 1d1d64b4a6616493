section RRK
variable {G : KG} {S0 : KSh} {d : Nat} {P : Option AV → KMem → Prop} {c c' c1 : KMem} {H : Int → Bool} {F : Int → KF} {x1 : Int}
/-- all but the row of ranks stays -/
theorem kRP.r575 (e : ∀ a i : Int, a ≠ 575 → c' a i = c a i) : kRP c c' :=
  ⟨fun _ _ _ _ _ _ => e 559 _ (by decide), fun a i q => e a i (by omega), fun a i q => e a i (by omega), fun i _ _ => e 564 i (by decide), fun j _ => e 558 j (by decide)⟩
theorem selL_mem : ∀ {k : Nat} {v : KF}, v ∈ selL H F x1 k → ∃ j : Nat, j < k ∧ kbit x1 j = true ∧ H j = true ∧ v = F j
  | 0, v, h => nomatch h
  | k + 1, v, h => by
    by_cases q : kbit x1 k = true ∧ H k = true
    · have e : selL H F x1 (k + 1) = F k :: selL H F x1 k := if_pos q
      rw [e] at h
      rcases List.mem_cons.mp h with w | w
      · exact ⟨k, by omega, q.1, q.2, w⟩
      · obtain ⟨j, a, b⟩ := selL_mem w; exact ⟨j, by omega, b⟩
    · have e : selL H F x1 (k + 1) = selL H F x1 k := if_neg q
      rw [e] at h
      obtain ⟨j, a, b⟩ := selL_mem h; exact ⟨j, by omega, b⟩
/-- the rows that are copied, modulo the prime -/
def kCo (V : List KF) (w : Nat → KF) (rows : Nat) : Prop := (∀ i : Nat, i < rows → kRg (w i)) ∧ (∀ i : Nat, i < rows → sp V (w i)) ∧ ∀ v, v ∈ V → sp (lst w rows) v
theorem kCo.go {V : List KF} {w : Nat → KF} {rows : Nat} (h : kCo V w rows) : kGo V w (fun _ => 0) rows 0 ((0 : Nat) : Int) :=
  ⟨h.1, fun i q => by omega, fun i a b j j0 j1 => by omega, h.2.1, h.2.2, Nat.zero_le _⟩
theorem kCo.add {V : List KF} {w : Nat → KF} {rows : Nat} {f : KF} (h : kCo V w rows) : kCo (f :: V) (fun i => if i = rows then (fun j => f j % 1000003) else w i) (rows + 1) := by
  have el : lst (fun i => if i = rows then (fun j => f j % 1000003) else w i) (rows + 1) = (fun j => f j % 1000003) :: lst w rows := by
    rw [lst, if_pos rfl]; congr 1; exact lst_cg (fun i q => if_neg (by omega))
  have em : ∀ (R : List KF), sp R f → sp R (fun j => f j % 1000003) := fun R hs => sp_cg R (fun j _ _ => by rw [Int.emod_emod]) hs
  have me : ∀ (R : List KF), sp R (fun j => f j % 1000003) → sp R f := fun R hs => sp_cg R (fun j _ _ => by rw [Int.emod_emod]) hs
  refine ⟨fun i q => ?_, fun i q => ?_, fun v hv => ?_⟩
  · by_cases b : i = rows
    · dsimp only; rw [if_pos b]; intro j _ _; dsimp only; omega
    · dsimp only; rw [if_neg b]; exact h.1 i (by omega)
  · by_cases b : i = rows
    · dsimp only; rw [if_pos b]; exact em _ (sp_hd f V)
    · dsimp only; rw [if_neg b]; exact sp_cons (h.2.1 i (by omega))
  · rw [el]
    rcases List.mem_cons.mp hv with e | e
    · rw [e]; exact me _ (sp_hd _ _)
    · exact sp_cons (h.2.2 v e)
theorem s_X11_rank (hL : kLay S0) (r1 : k32 x1) (hs : RSt H F c) (h1 : kSetB H x1 12 = true → ∀ (m : Nat) c', IsRk (selL H F x1 12) m → m ≤ 12 → kRP c c' → P (some (kI (m : Int))) c') (h0 : ¬ kSetB H x1 12 = true → P (some (kI (-1))) c) : kC2 G S0 kM_X11_rank (d + 2) [kA 558, kI x1] c P := by
  refine v_X11_rank hL r1 (t_areLetters hL r1 hs (fun q => ⟨_, rfl, kq1 ?_⟩) (fun q => ⟨_, rfl, kq0 (h0 q)⟩) (k32i (by omega)))
  have hq := kSetB_iff.mp q
  have hm : 0 ≤ x1 ∧ x1 < 4096 := by omega
  have loop : ∀ n k : Nat, k + n = 12 → ∀ (rows : Nat) (w : Nat → KF) (c' : KMem), rows ≤ k → kCo (selL H F x1 k) w rows → (∀ i : Nat, i < rows → kEq (kRw c' (i : Int)) (w i)) → (∀ a i : Int, a ≠ 575 → c' a i = c a i) → kW2 G S0 kM_X11_rank (d + 2) 16 [some (kA 558), some (kI x1), some (kI (rows : Int)), some (kI (k : Int)), none, none, none] [] c' P := by
    intro n
    induction n with
    | zero =>
      intro k hk rows w c' hr hc hw fr
      obtain rfl : k = 12 := by omega
      refine v_X11_rank_16 hL r1 (by omega) (by omega) (by omega) ⟨fun _ => ?_, fun z => by omega⟩
      exact t_elim hL hr (fun m c2 a b e => h1 q m c2 a b (kRP.r575 e)) 16 0 (by omega) 0 w (fun _ => 0) c' hc.go hw fr
    | succ n ih =>
      intro k hk rows w c' hr hc hw fr
      refine v_X11_rank_16 hL r1 (by omega) (by omega) (by omega) ⟨fun z => by omega, fun _ => ⟨fun y => ?_, fun y => ?_⟩⟩
      · have yb := (kbit_iff hm (show k < 12 by omega)).mp y
        have hH := hq.2 k (by omega) yb
        obtain ⟨_, _, hF, hB⟩ := hs.l hH
        have es : selL H F x1 (k + 1) = F k :: selL H F x1 k := if_pos ⟨yb, hH⟩
        have inner : ∀ s t : Nat, t + s = 16 → ∀ c2, (∀ a i : Int, a ≠ 575 → c2 a i = c a i) → (∀ i : Nat, i < rows → kEq (kRw c2 (i : Int)) (w i)) → (∀ j : Int, 0 ≤ j → j < t → kRw c2 (rows : Int) j = F k j % 1000003) → kW2 G S0 kM_X11_rank (d + 2) 36 [some (kA 558), some (kI x1), some (kI (rows : Int)), some (kI (k : Int)), some (kI (t : Int)), none, none] [] c2 P := by
          intro s
          induction s with
          | zero =>
            intro t ht c2 f2 w2 g2
            refine v_X11_rank_36 hL r1 (by omega) (by omega) (by omega) (by omega) ⟨fun _ => ?_, fun z => by omega⟩
            refine ih (k + 1) (by omega) (rows + 1) _ c2 (by omega) (es ▸ hc.add) (fun i hi => ?_) f2
            by_cases b : i = rows
            · rw [if_pos b, b]; exact fun j j0 j1 => g2 j j0 (by omega)
            · rw [if_neg b]; exact w2 i (by omega)
          | succ s ihs =>
            intro t ht c2 f2 w2 g2
            have e : c2 559 (16 * (k : Int) + (t : Int)) = F k t := (f2 559 _ (by decide)).trans (hF t (by omega) (by omega))
            have b : -100000000 ≤ F k t ∧ F k t ≤ 100000000 := by
              have := hB t (by omega) (by omega)
              rw [hF t (by omega) (by omega)] at this
              exact this
            have b1 := Int.lt_tmod_of_pos (F k t) (show (0 : Int) < 1000003 by decide)
            have b2 := Int.tmod_lt_of_pos (F k t) (show (0 : Int) < 1000003 by decide)
            have e3 : Int.tmod (Int.tmod (F k t) 1000003 + 1000003) 1000003 = F k t % 1000003 := by
              rw [Int.tmod_eq_emod_of_nonneg (by omega)]
              have := Int.mul_tdiv_add_tmod (F k t) 1000003
              omega
            refine v_X11_rank_36 hL r1 (by omega) (by omega) (by omega) (by omega) ⟨fun z => by omega, fun _ => ?_⟩
            rw [e, e3]
            refine ⟨by show -9223372036854775808 ≤ F k t ∧ F k t < 9223372036854775808; omega, by show -9223372036854775808 ≤ Int.tmod (F k t) 1000003 + 1000003 ∧ Int.tmod (F k t) 1000003 + 1000003 < 9223372036854775808; omega, ihs (t + 1) (by omega) _ (fun a i x => (kup_n (Or.inl x)).trans (f2 a i x)) (fun i hi j j0 j1 => ?_) (fun j j0 j1 => ?_)⟩
            · show kup c2 575 (16 * (rows : Int) + (t : Int)) _ 575 (16 * (i : Int) + j) = _
              rw [kup_n (Or.inr (by omega))]; exact w2 i hi j j0 j1
            · show kup c2 575 (16 * (rows : Int) + (t : Int)) _ 575 (16 * (rows : Int) + j) = _
              by_cases z : j = t
              · rw [z, kup_s]
              · rw [kup_n (Or.inr (by omega))]; exact g2 j j0 (by omega)
        exact inner 16 0 (by omega) c' fr hw (fun j j0 j1 => by omega)
      · have es : selL H F x1 (k + 1) = selL H F x1 k := if_neg (fun z => y ((kbit_iff hm (show k < 12 by omega)).mpr z.1))
        exact ih (k + 1) (by omega) rows w c' (by omega) (es ▸ hc) hw fr
  exact loop 12 0 (by omega) 0 (fun _ _ => 0) c (Nat.le_refl _) ⟨fun i q => by omega, fun i q => by omega, fun v hv => nomatch hv⟩ (fun i q => by omega) (fun _ _ _ => rfl)
end RRK
