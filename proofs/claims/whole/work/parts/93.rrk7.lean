section RRK
variable {G : KG} {S0 : KSh} {d : Nat} {P : Option AV → KMem → Prop} {c c' c1 : KMem} {V : List KF}
theorem t_elim (hL : kLay S0) {rows : Nat} (hr : rows ≤ 12) (h : ∀ (m : Nat) c', IsRk V m → m ≤ 12 → (∀ a i : Int, a ≠ 575 → c' a i = c a i) → P (some (kI (m : Int))) c') : ∀ r col : Nat, col + r = 16 → ∀ (n : Nat) (w : Nat → KF) (δ : Nat → Int) (c1 : KMem), kGo V w δ rows n (col : Int) → (∀ i : Nat, i < rows → kEq (kRw c1 (i : Int)) (w i)) → (∀ a i : Int, a ≠ 575 → c1 a i = c a i) → kW2 G S0 kM_X11_rank (d + 2) 95 [some (kA 558), none, some (kI (rows : Int)), some (kI (n : Int)), some (kI (col : Int)), none, none] [] c1 P := by
  intro r
  induction r with
  | zero =>
    intro col hc n w δ c1 hg hw fr
    have hn := hg.2.2.2.2.2
    exact v_X11_rank_95 hL (by omega) (by omega) (by omega) (by omega) ⟨fun _ => h n c1 (hg.fin (Or.inr (by omega))) (by omega) fr, fun z => by omega⟩
  | succ r ih =>
    intro col hc n w δ c1 hg hw fr
    have hn := hg.2.2.2.2.2
    refine v_X11_rank_95 hL (by omega) (by omega) (by omega) (by omega) ⟨fun z => by omega, fun _ => ⟨fun y => h n c1 (hg.fin (Or.inl (by omega))) (by omega) fr, fun y => ?_⟩⟩
    have pick : ∀ q p : Nat, p + q = rows → n ≤ p → (∀ i : Nat, n ≤ i → i < p → w i (col : Int) = 0) → kW2 G S0 kM_X11_rank (d + 2) 110 [some (kA 558), none, some (kI (rows : Int)), some (kI (n : Int)), some (kI (col : Int)), some (kI (p : Int)), none] [] c1 P := by
      intro q
      induction q with
      | zero =>
        intro p hp hnp hz
        refine v_X11_rank_110 hL (by omega) (by omega) (by omega) (by omega) (by omega) ⟨fun _ => ?_, fun z => by omega⟩
        refine v_X11_rank_143 hL (by omega) (by omega) (by omega) (by omega) (by omega) ⟨fun z => by omega, fun _ => ?_⟩
        exact ih (col + 1) (by omega) n w δ c1 (hg.no (fun i a b => hz i a (by omega))) hw fr
      | succ q ihq =>
        intro p hp hnp hz
        have ep : c1 575 (16 * (p : Int) + (col : Int)) = w p col := hw p (by omega) col (by omega) (by omega)
        have rp := hg.1 p (by omega) col (by omega) (by omega)
        refine v_X11_rank_110 hL (by omega) (by omega) (by omega) (by omega) (by omega) ⟨fun z => by omega, fun _ => ⟨by rw [ep]; show -9223372036854775808 ≤ w p col ∧ w p col < 9223372036854775808; omega, fun z => ?_, fun z => ?_⟩⟩
        · rw [ep] at z
          refine v_X11_rank_143 hL (by omega) (by omega) (by omega) (by omega) (by omega) ⟨fun _ => ?_, fun z => by omega⟩
          refine t_swaps hL (by omega) (hw n (by omega)) (hw p (by omega)) (fun c2 s1 s2 s3 s4 => ⟨rfl, ?_⟩)
          refine t_scalV hL (by omega) s1 (hg.1 p (by omega)) (by omega) (fun z c3 hz3 one e3 r3 => ⟨rfl, ?_⟩)
          have rg : kRg (fun j => (w p j * z) % 1000003) := fun j _ _ => by dsimp only; omega
          have u3 : ∀ i : Nat, i < rows → i ≠ n → kEq (kRw c3 (i : Int)) (if i = p then w n else w i) := fun i a b => by
            refine (r3.2 i (by omega)).tr ?_
            by_cases e : i = p
            · rw [if_pos e, e]; exact s2
            · rw [if_neg e]; exact (s4 i (by omega) (by omega)).tr (hw i a)
          have ru : ∀ i : Nat, i < rows → kRg (if i = p then w n else w i) := fun i a => by
            split
            · exact hg.1 n (by omega)
            · exact hg.1 i a
          have fr3 : ∀ a i : Int, a ≠ 575 → c3 a i = c a i := fun a i x => (r3.1 a i x).trans ((s3 a i x).trans (fr a i x))
          have clr : ∀ s t : Nat, t + s = rows → n < t → ∀ c4, (∀ a i : Int, a ≠ 575 → c4 a i = c a i) → kEq (kRw c4 (n : Int)) (fun j => (w p j * z) % 1000003) → (∀ i : Nat, i < n → kEq (kRw c4 (i : Int)) (w i)) → (∀ i : Nat, n < i → i < t → kEq (kRw c4 (i : Int)) (fun j => ((if i = p then w n else w i) j - (if i = p then w n else w i) col * ((w p j * z) % 1000003)) % 1000003)) → (∀ i : Nat, t ≤ i → i < rows → kEq (kRw c4 (i : Int)) (if i = p then w n else w i)) → kW2 G S0 kM_X11_rank (d + 2) 171 [some (kA 558), none, some (kI (rows : Int)), some (kI (n : Int)), some (kI (col : Int)), none, some (kI (t : Int))] [] c4 P := by
            intro s
            induction s with
            | zero =>
              intro t ht hnt c4 f4 g4 l4 m4 h4
              refine v_X11_rank_171 hL (by omega) (by omega) (by omega) (by omega) (by omega) ⟨fun _ => ?_, fun z => by omega⟩
              refine ih (col + 1) (by omega) (n + 1) (fun i => if i < n then w i else if i = n then (fun j => (w p j * z) % 1000003) else fun j => ((if i = p then w n else w i) j - (if i = p then w n else w i) col * ((w p j * z) % 1000003)) % 1000003) _ c4 (hg.yes (z := z) ⟨hnp, by omega⟩ (by omega) hz3 one (fun i a => if_pos a) (by rw [if_neg (by omega), if_pos rfl]) (fun i a b => by rw [if_neg (show ¬ i < n by omega), if_neg (show ¬ i = n by omega), if_neg (show ¬ n < n by omega), if_pos (rfl : n = n)])) (fun i a => ?_) f4
              by_cases b : i < n
              · rw [if_pos b]; exact l4 i b
              · by_cases b2 : i = n
                · rw [if_neg b, if_pos b2, b2]; exact g4
                · rw [if_neg b, if_neg b2]; exact m4 i (by omega) (by omega)
            | succ s ihs =>
              intro t ht hnt c4 f4 g4 l4 m4 h4
              refine v_X11_rank_171 hL (by omega) (by omega) (by omega) (by omega) (by omega) ⟨fun z => by omega, fun _ => ?_⟩
              refine t_clears hL (by omega) (by omega) (h4 t (by omega) (by omega)) g4 (ru t (by omega)) rg (fun c5 e5 r5 => ⟨rfl, ?_⟩)
              refine ihs (t + 1) (by omega) (by omega) c5 (fun a i x => (r5.1 a i x).trans (f4 a i x)) ((r5.2 n (by omega)).tr g4) (fun i a => (r5.2 i (by omega)).tr (l4 i a)) (fun i a b => ?_) (fun i a b => (r5.2 i (by omega)).tr (h4 i (by omega) b))
              by_cases e : i = t
              · rw [e]; exact e5
              · exact (r5.2 i (by omega)).tr (m4 i a (by omega))
          exact clr (rows - (n + 1)) (n + 1) (by omega) (by omega) c3 fr3 e3 (fun i a => by
            have := u3 i (by omega) (by omega)
            rw [if_neg (by omega)] at this; exact this) (fun i a b => by omega) (fun i a b => u3 i b (by omega))
        · rw [ep] at z
          refine ihq (p + 1) (by omega) (by omega) (fun i a b => ?_)
          by_cases e : i = p
          · rw [e]; exact z
          · exact hz i a (by omega)
    exact pick (rows - n) n (by omega) (Nat.le_refl _) (fun i a b => by omega)
end RRK
