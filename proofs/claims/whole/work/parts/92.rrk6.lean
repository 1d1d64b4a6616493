/-- the reference's elimination: n pivots found ahead of a column -/
def kGo (V : List KF) (w : Nat → KF) (δ : Nat → Int) (rows n : Nat) (col : Int) : Prop :=
  (∀ i : Nat, i < rows → kRg (w i)) ∧ (∀ i : Nat, i < n → ldC (w i) (δ i) ∧ δ i < col ∧ ∀ i' : Nat, i' < i → w i (δ i') % 1000003 = 0) ∧ (∀ i : Nat, n ≤ i → i < rows → ∀ j : Int, 0 ≤ j → j < col → w i j = 0) ∧ (∀ i : Nat, i < rows → sp V (w i)) ∧ (∀ v, v ∈ V → sp (lst w rows) v) ∧ n ≤ rows
theorem kGo.fin {V : List KF} {w : Nat → KF} {δ : Nat → Int} {rows n : Nat} {col : Int} (h : kGo V w δ rows n col) (hc : n = rows ∨ 16 ≤ col) : IsRk V n := by
  obtain ⟨h1, h2, h3, h4, h5, h6⟩ := h
  refine ⟨lst w n, lst δ n, kEg.ech (fun i q => ⟨(h2 i q).1, (h2 i q).2.2⟩), lst_len n, fun r hr => ?_, fun v hv => ?_⟩
  · obtain ⟨i, a, b⟩ := lst_mem hr
    rw [b]; exact h4 i (by omega)
  · refine sp_sub (fun r hr => ?_) (h5 v hv)
    obtain ⟨i, a, b⟩ := lst_mem hr
    rw [b]
    by_cases q : i < n
    · exact sp_mem (mem_lst q)
    · exact sp_0 _ (fun j j0 j1 => by rw [h3 i (by omega) a j j0 (by omega)]; rfl)
theorem kGo.no {V : List KF} {w : Nat → KF} {δ : Nat → Int} {rows n : Nat} {col : Int} (h : kGo V w δ rows n col) (hz : ∀ i : Nat, n ≤ i → i < rows → w i col = 0) : kGo V w δ rows n (col + 1) := by
  obtain ⟨h1, h2, h3, h4, h5, h6⟩ := h
  refine ⟨h1, fun i q => ⟨(h2 i q).1, by have := (h2 i q).2.1; omega, (h2 i q).2.2⟩, fun i a b j j0 j1 => ?_, h4, h5, h6⟩
  by_cases e : j = col
  · rw [e]; exact hz i a b
  · exact h3 i a b j j0 (by omega)
theorem kGo.yes {V : List KF} {w w' : Nat → KF} {δ : Nat → Int} {rows n pick : Nat} {col z : Int} (h : kGo V w δ rows n col) (hp : n ≤ pick ∧ pick < rows) (hc : 0 ≤ col ∧ col < 16) (hz : z % 1000003 ≠ 0) (h1 : (w pick col * z) % 1000003 = 1)
    (e0 : ∀ i : Nat, i < n → w' i = w i) (en : w' n = fun j => (w pick j * z) % 1000003) (er : ∀ i : Nat, n < i → i < rows → w' i = fun j => ((if i = pick then w n else w i) j - (if i = pick then w n else w i) col * w' n j) % 1000003) : kGo V w' (fun i => if i = n then col else δ i) rows (n + 1) (col + 1) := by
  obtain ⟨a1, a2, a3, a4, a5, a6⟩ := h
  have nc : w' n col = 1 := by rw [en]; exact h1
  have spn : sp V (w' n) := by
    rw [en]
    refine sp_cg V (fun j _ _ => ?_) (sp_lin V z 0 (a4 pick hp.2) (a4 pick hp.2))
    show (z * w pick j + 0 * w pick j) % 1000003 = ((w pick j * z) % 1000003) % 1000003
    rw [Int.emod_emod, Int.zero_mul, Int.add_zero, Int.mul_comm]
  have spu : ∀ i : Nat, n < i → i < rows → sp V (if i = pick then w n else w i) := fun i q q2 => by
    split
    · exact a4 n (by omega)
    · exact a4 i q2
  have zu : ∀ i : Nat, n < i → i < rows → ∀ j : Int, 0 ≤ j → j < col → (if i = pick then w n else w i) j = 0 := fun i q q2 j j0 j1 => by
    split
    · exact a3 n (by omega) (by omega) j j0 j1
    · exact a3 i (by omega) q2 j j0 j1
  have zn : ∀ j : Int, 0 ≤ j → j < col → w' n j = 0 := fun j j0 j1 => by
    rw [en]; show (w pick j * z) % 1000003 = 0
    rw [a3 pick hp.1 hp.2 j j0 j1, Int.zero_mul]; rfl
  refine ⟨fun i q => ?_, fun i q => ?_, fun i q q2 j j0 j1 => ?_, fun i q => ?_, fun v hv => ?_, by omega⟩
  · by_cases b : i < n
    · rw [e0 i b]; exact a1 i q
    · by_cases b2 : i = n
      · rw [b2, en]; intro j _ _; show 0 ≤ (w pick j * z) % 1000003 ∧ (w pick j * z) % 1000003 < 1000003; omega
      · rw [er i (by omega) q]; intro j _ _; dsimp only; omega
  · dsimp only
    by_cases b : i = n
    · rw [b, if_pos rfl]
      refine ⟨⟨hc, by rw [nc]; decide, fun j j0 j1 => by rw [zn j j0 j1]; rfl⟩, by omega, fun i' q' => ?_⟩
      rw [if_neg (by omega)]
      have := a2 i' q'
      rw [zn _ this.1.1.1 this.2.1]; rfl
    · rw [if_neg b, e0 i (by omega)]
      have := a2 i (by omega)
      refine ⟨this.1, by omega, fun i' q' => ?_⟩
      rw [if_neg (by omega)]; exact this.2.2 i' q'
  · rw [er i (by omega) q2]
    show ((if i = pick then w n else w i) j - (if i = pick then w n else w i) col * w' n j) % 1000003 = 0
    by_cases b : j = col
    · rw [b, nc, Int.mul_one, Int.sub_self]; rfl
    · rw [zu i (by omega) q2 j j0 (by omega), zn j j0 (by omega), Int.mul_zero, Int.sub_self]; rfl
  · by_cases b : i < n
    · rw [e0 i b]; exact a4 i q
    · by_cases b2 : i = n
      · rw [b2]; exact spn
      · rw [er i (by omega) q]
        refine sp_cg V (fun j _ _ => ?_) (sp_lin V 1 (-(if i = pick then w n else w i) col) (spu i (by omega) q) spn)
        rw [Int.emod_emod, Int.one_mul, Int.neg_mul]; rfl
  · refine sp_sub (fun r hr => ?_) (a5 v hv)
    obtain ⟨i, q, rfl⟩ := lst_mem hr
    have old : ∀ i : Nat, n < i → i < rows → sp (lst w' rows) (if i = pick then w n else w i) := fun i q q2 => by
      refine sp_cg _ (fun j _ _ => ?_) (sp_lin _ 1 ((if i = pick then w n else w i) col) (sp_mem (mem_lst (ρ := w') q2)) (sp_mem (mem_lst (ρ := w') (show n < rows by omega))))
      rw [er i q q2]
      dsimp only
      omega
    by_cases b : i < n
    · rw [← e0 i b]; exact sp_mem (mem_lst q)
    · by_cases b2 : i = pick
      · refine sp_div _ hz (sp_cg _ (fun j _ _ => ?_) (sp_mem (mem_lst (ρ := w') (show n < rows by omega))))
        rw [en, b2]
        show ((w pick j * z) % 1000003) % 1000003 = (z * w pick j) % 1000003
        rw [Int.emod_emod, Int.mul_comm]
      · by_cases b3 : i = n
        · have := old pick (by omega) hp.2
          rw [if_pos rfl] at this
          rw [b3]; exact this
        · have := old i (by omega) q
          rw [if_neg b2] at this
          exact this
