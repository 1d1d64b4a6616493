def lst {A : Type} (ρ : Nat → A) : Nat → List A
  | 0 => []
  | m + 1 => ρ m :: lst ρ m
theorem lst_mem {A : Type} {ρ : Nat → A} {x : A} : ∀ {m : Nat}, x ∈ lst ρ m → ∃ i, i < m ∧ x = ρ i
  | 0, h => nomatch h
  | m + 1, h => by
    rcases List.mem_cons.mp h with w | w
    · exact ⟨m, by omega, w⟩
    · obtain ⟨i, a, b⟩ := lst_mem w; exact ⟨i, by omega, b⟩
theorem mem_lst {A : Type} {ρ : Nat → A} {i : Nat} : ∀ {m : Nat}, i < m → ρ i ∈ lst ρ m
  | m + 1, h => by
    by_cases w : i = m
    · rw [w]; exact List.mem_cons_self
    · exact List.mem_cons_of_mem _ (mem_lst (by omega))
theorem lst_len {A : Type} {ρ : Nat → A} : ∀ m : Nat, (lst ρ m).length = m
  | 0 => rfl
  | m + 1 => by rw [lst, List.length_cons, lst_len m]
theorem lst_cg {A : Type} {ρ ρ' : Nat → A} : ∀ {m : Nat}, (∀ i, i < m → ρ i = ρ' i) → lst ρ m = lst ρ' m
  | 0, _ => rfl
  | m + 1, h => by rw [lst, lst, h m (by omega), lst_cg (fun i q => h i (by omega))]
/-- rows in echelon: each is nothing at the first columns of those before -/
def kEg (ρ : Nat → KF) (δ : Nat → Int) (m : Nat) : Prop := ∀ i : Nat, i < m → ldC (ρ i) (δ i) ∧ ∀ i' : Nat, i' < i → ρ i (δ i') % 1000003 = 0
theorem kEg.ech {ρ : Nat → KF} {δ : Nat → Int} : ∀ {m : Nat}, kEg ρ δ m → ech (lst ρ m) (lst δ m)
  | 0, _ => trivial
  | m + 1, h => by
    refine ⟨(h m (by omega)).1, fun z => ?_, kEg.ech (fun i q => h i (by omega))⟩
    obtain ⟨i, a, b⟩ := lst_mem z
    have := (h m (by omega)).2 i a
    rw [← b] at this
    exact (h m (by omega)).1.2.1 this
def kRg (f : KF) : Prop := ∀ j : Int, 0 ≤ j → j < 16 → 0 ≤ f j ∧ f j < 1000003
section CRK
variable {G : KG} {S0 : KSh} {d : Nat} {P : Option AV → KMem → Prop} {c c' : KMem} {f g r : KF} {x0 x1 x2 : Int} {ρ : Nat → KF} {δ : Nat → Int} {m : Nat}
def kEr (ρ : Nat → KF) (δ : Nat → Int) (m : Nat) (c : KMem) : Prop := ∀ i : Nat, i < m → kEq (c (534 + 1 + (i : Int))) (ρ i) ∧ c 547 (i : Int) = δ i ∧ kRg (ρ i)
theorem frP_rg {l : Int} : kRg (frP f r l) := fun j _ _ => by show 0 ≤ (f j * r l - r j * f l) % 1000003 ∧ (f j * r l - r j * f l) % 1000003 < 1000003; omega
theorem frP_0 {l j : Int} (h1 : f j % 1000003 = 0) (h2 : r j % 1000003 = 0) : frP f r l j % 1000003 = 0 := by
  show ((f j * r l - r j * f l) % 1000003) % 1000003 = 0
  have e1 : f j % 1000003 = (0 : Int) % 1000003 := h1
  have e2 : r j % 1000003 = (0 : Int) % 1000003 := h2
  have := em_lin (a := r l) (b := -f l) e1 e2
  rw [Int.mul_zero, Int.mul_zero, Int.add_zero, Int.zero_emod] at this
  rw [Int.emod_emod, show f j * r l - r j * f l = r l * f j + -f l * r j by rw [Int.mul_comm (f j), Int.mul_comm (r j), Int.neg_mul]; rfl]
  exact this
theorem frP_s {l : Int} : frP f r l l % 1000003 = 0 := by
  show ((f l * r l - r l * f l) % 1000003) % 1000003 = 0
  rw [Int.mul_comm (f l), Int.sub_self]; rfl
theorem frP_sp {R : List KF} {u l : Int} {v : KF} (hr : r ∈ R) (hl : r l % 1000003 ≠ 0) (hu : u % 1000003 ≠ 0) (h : sp R (fun j => u * v j - f j)) : (u * r l) % 1000003 ≠ 0 ∧ sp R (fun j => (u * r l) * v j - frP f r l j) := by
  refine ⟨nz_mul hu hl, sp_cg R (fun j _ _ => ?_) (sp_lin R (r l) (f l) h (sp_mem hr))⟩
  show (r l * (u * v j - f j) + f l * r j) % 1000003 = (u * r l * v j - (f j * r l - r j * f l) % 1000003) % 1000003
  have e : ((f j * r l - r j * f l) % 1000003) % 1000003 = (f j * r l - r j * f l) % 1000003 := Int.emod_emod _ _
  have := em_lin (a := 1) (b := -1) (rfl : (u * r l * v j) % 1000003 = (u * r l * v j) % 1000003) e
  rw [Int.one_mul, Int.neg_mul, Int.one_mul, Int.neg_mul, Int.one_mul] at this
  rw [show u * r l * v j - (f j * r l - r j * f l) % 1000003 = u * r l * v j + -((f j * r l - r j * f l) % 1000003) by omega, this]
  congr 1
  rw [Int.mul_sub, show r l * (u * v j) = u * r l * v j by ac_rfl, Int.mul_comm (r l) (f j), Int.mul_comm (f l) (r j)]
  omega
theorem c_isInd (hL : kLay S0) (hm : m < 12) (hx1 : S0.2.1 x1 = (2, 16)) (ne : x1 < 534) (ef : kEq (c x1) f) (b : kB kLB f) (hr : kEr ρ δ m c) (hg : kEg ρ δ m)
    (h1 : ∀ g e u c', u % 1000003 ≠ 0 → sp (lst ρ m) (fun j => u * f j - g j) → ldC g e → (∀ i : Nat, i < m → g (δ i) % 1000003 = 0) → kRg g → kEq (c' (534 + 1 + (m : Int))) g → c' 547 (m : Int) = e → (∀ a i : Int, a ≠ 534 + 1 + (m : Int) → ¬ (a = 547 ∧ i = (m : Int)) → c' a i = c a i) → P (some (kI 1)) c')
    (h0 : ∀ c', sp (lst ρ m) f → (∀ a i : Int, a ≠ 534 + 1 + (m : Int) → ¬ (a = 547 ∧ i = (m : Int)) → c' a i = c a i) → P (some (kI 0)) c') : kC2 G S0 kM_X2_isIndependent (d + 2) [kA 533, kA x1, kI (m : Int)] c P := by
  have hx3 : S0.2.1 (534 + 1 + (m : Int)) = (2, 16) := (lrw_534 hL ⟨by omega, by omega⟩).2
  have loop3 : ∀ (g : KF) (u : Int) (c1 : KMem), kO (534 + 1 + (m : Int)) c c1 → kEq (c1 (534 + 1 + (m : Int))) g → kRg g → u % 1000003 ≠ 0 → sp (lst ρ m) (fun j => u * f j - g j) → (∀ i : Nat, i < m → g (δ i) % 1000003 = 0) → ∀ n k : Nat, k + n = 16 → (∀ j : Int, 0 ≤ j → j < k → g j % 1000003 = 0) → kW2 G S0 kM_X2_isIndependent (d + 2) 85 [some (kA 533), none, some (kI (m : Int)), some (kA (534 + 1 + (m : Int))), some (kI (k : Int))] [] c1 P := by
    intro g u c1 o eg rg hu hs hz n
    induction n with
    | zero =>
      intro k hk q
      refine v_X2_isIndependent_85 hL (by omega) hx3 (by omega) (by omega) ⟨fun _ => h0 c1 ?_ (fun a i x _ => o a i x), fun z => by omega⟩
      refine sp_div _ hu (sp_cg _ (fun j j0 j1 => ?_) hs)
      show (u * f j - g j) % 1000003 = (u * f j) % 1000003
      have := q j j0 (by omega)
      have := rg j j0 j1
      have e : g j = 0 := by omega
      rw [e, Int.sub_zero]
    | succ n ih =>
      intro k hk q
      have e := eg k (by omega) (by omega)
      have rk := rg k (by omega) (by omega)
      refine v_X2_isIndependent_85 hL (by omega) hx3 (by omega) (by omega) ⟨fun z => by omega, fun _ => ⟨by rw [e]; show -9223372036854775808 ≤ g k ∧ g k < 9223372036854775808; omega, fun z => ?_, fun z => ?_⟩⟩
      · rw [e] at z
        refine ih (k + 1) (by omega) (fun j j0 j1 => ?_)
        by_cases w : j = k
        · rw [w, z]; rfl
        · exact q j j0 (by omega)
      · rw [e] at z
        refine h1 g k u _ hu hs ⟨⟨by omega, by omega⟩, by omega, q⟩ hz rg (fun j j0 j1 => by rw [kup_n (Or.inl (by omega))]; exact eg j j0 j1) (kup_s _ _ _ _) (fun a i x y => by rw [kup_n (by omega)]; exact o a i x)
  have loop2 : ∀ n k : Nat, k + n = m → ∀ (g : KF) (u : Int) (c1 : KMem), kO (534 + 1 + (m : Int)) c c1 → kEq (c1 (534 + 1 + (m : Int))) g → kRg g → u % 1000003 ≠ 0 → sp (lst ρ m) (fun j => u * f j - g j) → (∀ i : Nat, i < k → g (δ i) % 1000003 = 0) → kW2 G S0 kM_X2_isIndependent (d + 2) 52 [some (kA 533), none, some (kI (m : Int)), some (kA (534 + 1 + (m : Int))), some (kI (k : Int))] [] c1 P := by
    intro n
    induction n with
    | zero =>
      intro k hk g u c1 o eg rg hu hs hz
      obtain rfl : k = m := by omega
      exact v_X2_isIndependent_52 hL (by omega) hx3 (by omega) (by omega) ⟨fun _ => loop3 g u c1 o eg rg hu hs hz 16 0 (by omega) (fun j j0 j1 => by omega), fun z => by omega⟩
    | succ n ih =>
      intro k hk g u c1 o eg rg hu hs hz
      have hk2 := hr k (by omega)
      have hgk := hg k (by omega)
      have hxk : S0.2.1 (534 + 1 + (k : Int)) = (2, 16) := (lrw_534 hL ⟨by omega, by omega⟩).2
      refine v_X2_isIndependent_52 hL (by omega) hx3 (by omega) (by omega) ⟨fun z => by omega, fun _ => ?_⟩
      rw [o 547 _ (by omega), hk2.2.1]
      refine s_X2_free hL hx3 hxk (by omega) hgk.1.1 eg (by rw [o.e (by omega)]; exact hk2.1) rg hk2.2.2 (fun c2 e2 o2 => ⟨rfl, ?_⟩)
      have hf := frP_sp (f := g) (mem_lst (ρ := ρ) (show k < m by omega)) hgk.1.2.1 hu hs
      refine ih (k + 1) (by omega) (frP g (ρ k) (δ k)) _ c2 (o.tr o2) e2 frP_rg hf.1 hf.2 (fun i hi => ?_)
      by_cases w : i = k
      · rw [w]; exact frP_s
      · exact frP_0 (hz i (by omega)) (hgk.2 i (by omega))
  have loop1 : ∀ n k : Nat, k + n = 16 → ∀ c1, kO (534 + 1 + (m : Int)) c c1 → (∀ j : Int, 0 ≤ j → j < k → c1 (534 + 1 + (m : Int)) j = f j % 1000003) → kW2 G S0 kM_X2_isIndependent (d + 2) 22 [some (kA 533), some (kA x1), some (kI (m : Int)), some (kA (534 + 1 + (m : Int))), some (kI (k : Int))] [] c1 P := by
    intro n
    induction n with
    | zero =>
      intro k hk c1 o q
      refine v_X2_isIndependent_22 hL hx1 (by omega) hx3 (by omega) ⟨fun _ => loop2 m 0 (by omega) (fun j => f j % 1000003) 1 c1 o (fun j j0 j1 => q j j0 (by omega)) (fun j _ _ => by show 0 ≤ f j % 1000003 ∧ f j % 1000003 < 1000003; omega) one_nz (sp_0 _ (fun j _ _ => by show (1 * f j - f j % 1000003) % 1000003 = 0; omega)) (fun i hi => by omega), fun z => by omega⟩
    | succ n ih =>
      intro k hk c1 o q
      have e : c1 x1 (k : Int) = f k := by rw [o x1 _ (by omega)]; exact ef k (by omega) (by omega)
      have bk : -100000000 ≤ f k ∧ f k ≤ 100000000 := b k (by omega) (by omega)
      refine v_X2_isIndependent_22 hL hx1 (by omega) hx3 (by omega) ⟨fun z => by omega, fun _ => ?_⟩
      rw [e]
      refine s_floorMod hL (by show -9223372036854775808 ≤ f k ∧ f k < 9223372036854775808; omega) ⟨_, rfl, ih (k + 1) (by omega) _ o.up (fun j j0 j1 => ?_)⟩
      by_cases w : j = k
      · rw [w, kup_s]
      · rw [kup_n (Or.inr w)]; exact q j j0 (by omega)
  exact v_X2_isIndependent hL hx1 (k32i (by omega)) ⟨fun z => by omega, fun _ => ⟨fun _ => loop1 16 0 (by omega) c kO.rf (fun j j0 j1 => by omega), fun z => by omega⟩⟩
end CRK
