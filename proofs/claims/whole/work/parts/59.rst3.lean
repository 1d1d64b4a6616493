section RS
variable {G : KG} {S0 : KSh} {d : Nat} {P : Option AV → KMem → Prop} {c c0 : KMem} {L : KLt} {T B : KTp} {x : Int} {K : Bool × KLt × Int} {Q : List KLt} {x0 x1 x2 x3 x4 x5 : Int}
/-- all but what can be taken back -/
theorem RAl.pst {Q' : List KLt} {c' : KMem} (hs : RAl L T B x K Q c) (e : ∀ a i : Int, ¬ (a = 562 ∨ a = 566 ∨ (a = 558 ∧ i = 11)) → c' a i = c a i) (h7 : c' 558 11 = (Q'.length : Int) ∧ Q'.length ≤ 8 ∧ ∀ (i : Nat) (L' : KLt), Q'[i]? = some L' → kLq 562 (192 * ((Q'.length : Int) - 1 - i)) 566 (12 * ((Q'.length : Int) - 1 - i)) L' c') : RAl L T B x K Q' c' := by
  obtain ⟨a1, a2, a3, a4, a5, a6, a7⟩ := hs
  refine ⟨?_, ?_, ?_, ?_, ?_, ?_, h7⟩
  · exact ⟨fun a b ha hb => (e _ _ (by omega)).trans (a1.1 a b ha hb), fun k k0 k1 => (e _ _ (by omega)).trans (a1.2 k k0 k1)⟩
  · exact a2.cp (fun i _ _ => e _ _ (by omega)) (fun i _ _ => e _ _ (by omega))
  · exact ⟨(e _ _ (by omega)).trans a3.1, a3.2.1, fun i a b => by rw [e _ _ (by omega)]; exact a3.2.2 i a b⟩
  · exact ⟨(e _ _ (by omega)).trans a4.1, a4.2.1, fun i a b => by rw [e _ _ (by omega)]; exact a4.2.2 i a b⟩
  · exact ⟨(e _ _ (by omega)).trans a5.1, a5.2⟩
  · refine ⟨(e _ _ (by omega)).trans a6.1, fun w => ?_⟩
    have := a6.2 w
    exact ⟨(e _ _ (by omega)).trans this.1, this.2.1, this.2.2.1, this.2.2.2.cp (fun i _ _ => e _ _ (by omega)) (fun i _ _ => e _ _ (by omega))⟩
/-- all but the letters, X, and what the reference works with -/
theorem RAl.ltr {L' : KLt} {x' : Int} {c' : KMem} (hs : RAl L T B x K Q c) (e : ∀ a i : Int, ¬ (a = 559 ∨ a = 560 ∨ a = 564 ∨ a = 567 ∨ (a = 558 ∧ (i = 12 ∨ i = 14 ∨ 23 ≤ i))) → a ≠ 563 → a < 572 → c' a i = c a i) (h1 : kI0 c') (h2 : kLq 559 0 564 0 L' c') (h5 : c' 558 12 = x' ∧ 0 ≤ x' ∧ x' ≤ 65535) : RAl L' T B x' K Q c' := by
  obtain ⟨a1, a2, a3, a4, a5, a6, a7⟩ := hs
  refine ⟨h1, h2, ?_, ?_, h5, ?_, ?_⟩
  · exact ⟨(e _ _ (by omega) (by omega) (by omega)).trans a3.1, a3.2.1, fun i a b => by rw [e _ _ (by omega) (by omega) (by omega)]; exact a3.2.2 i a b⟩
  · exact ⟨(e _ _ (by omega) (by omega) (by omega)).trans a4.1, a4.2.1, fun i a b => by rw [e _ _ (by omega) (by omega) (by omega)]; exact a4.2.2 i a b⟩
  · refine ⟨(e _ _ (by omega) (by omega) (by omega)).trans a6.1, fun w => ?_⟩
    have := a6.2 w
    exact ⟨(e _ _ (by omega) (by omega) (by omega)).trans this.1, this.2.1, this.2.2.1, this.2.2.2.cp (fun i _ _ => e _ _ (by omega) (by omega) (by omega)) (fun i _ _ => e _ _ (by omega) (by omega) (by omega))⟩
  · exact ⟨(e _ _ (by omega) (by omega) (by omega)).trans a7.1, a7.2.1, fun i L' q => (a7.2.2 i L' q).cp (fun j _ _ => e _ _ (by omega) (by omega) (by omega)) (fun j _ _ => e _ _ (by omega) (by omega) (by omega))⟩
theorem kgetl {α : Type} {l : List α} {i : Nat} {x : α} (h : l[i]? = some x) : i < l.length := (List.getElem?_eq_some_iff.mp h).1
/-- one set of letters more -/
theorem t_remembers7 (hL : kLay S0) (hs : RAl L T B x K Q c) (hq : Q.length ≤ 7) (h : ∀ c', RAl L T B x K (L :: Q) c' → (∀ a i : Int, ¬ (a = 562 ∨ a = 566 ∨ (a = 558 ∧ i = 11)) → c' a i = c a i) → P none c') : kW2 G S0 kM_X11_remembers d 81 [some (kA 558), some (kI ((0 : Nat) : Int))] [] c P := by
  have a7 := hs.2.2.2.2.2.2
  have a2 := hs.2.1
  have hb : c 558 11 = (Q.length : Int) := a7.1
  refine cl_X11_remembers_81 hL hb (by omega) ?_
  have hb1 : (kcpy c 559 562 0 (192 * (Q.length : Int)) 192) 558 11 = (Q.length : Int) := by rw [kcpy_out (Or.inl (by decide))]; exact hb
  have st : ∀ i : Int, 0 ≤ i → i < 12 → (kcpy c 559 562 0 (192 * (Q.length : Int)) 192) 564 (0 + i) = 0 ∨ (kcpy c 559 562 0 (192 * (Q.length : Int)) 192) 564 (0 + i) = 1 := fun i a b => by rw [kcpy_out (Or.inl (by decide))]; exact a2.1 i a b
  refine cl_X11_remembers_117 hL hb1 (by omega) st ?_
  have e : ∀ a i : Int, ¬ (a = 562 ∨ a = 566 ∨ (a = 558 ∧ i = 11)) → (kup (kcpy (kcpy c 559 562 0 (192 * (Q.length : Int)) 192) 564 566 0 (12 * (Q.length : Int)) 12) 558 11 ((Q.length : Int) + 1)) a i = c a i := fun a i z => by
    rw [kup_n (by omega), kcpy_out (Or.inl (by omega)), kcpy_out (Or.inl (by omega))]
  refine h _ (hs.pst e ⟨?_, by show Q.length + 1 ≤ 8; omega, fun i L' hi => ?_⟩) e
  · rw [kup_s]; show (Q.length : Int) + 1 = ((Q.length + 1 : Nat) : Int); omega
  · show kLq 562 (192 * (((Q.length + 1 : Nat) : Int) - 1 - i)) 566 (12 * (((Q.length + 1 : Nat) : Int) - 1 - i)) L' _
    cases i with
    | zero =>
      have hi' : some L = some L' := hi
      cases hi'
      have ei : ((Q.length + 1 : Nat) : Int) - 1 - ((0 : Nat) : Int) = Q.length := by omega
      rw [ei]
      refine a2.cp (fun j p q => ?_) (fun j p q => ?_)
      · rw [kup_n (Or.inl (by decide)), kcpy_out (Or.inl (by decide)), kcpy_in p q]
      · rw [kup_n (Or.inl (by decide)), kcpy_in p q, kcpy_out (Or.inl (by decide))]
    | succ i =>
      have hi' : Q[i]? = some L' := hi
      have hlt := kgetl hi'
      have ei : ((Q.length + 1 : Nat) : Int) - 1 - ((i + 1 : Nat) : Int) = (Q.length : Int) - 1 - i := by omega
      rw [ei]
      refine (a7.2.2 i L' hi').cp (fun j p q => ?_) (fun j p q => ?_)
      · rw [kup_n (Or.inl (by decide)), kcpy_out (Or.inl (by decide)), kcpy_out (Or.inr (Or.inl (by omega)))]
      · rw [kup_n (Or.inl (by decide)), kcpy_out (Or.inr (Or.inl (by omega))), kcpy_out (Or.inl (by decide))]
theorem t_remembers (hL : kLay S0) (hs : RAl L T B x K Q c) (h : ∀ c', RAl L T B x K ((L :: Q).take 8) c' → (∀ a i : Int, ¬ (a = 562 ∨ a = 566 ∨ (a = 558 ∧ i = 11)) → c' a i = c a i) → P none c') : kC2 G S0 kM_X11_remembers d [kA 558] c P := by
  have a7 := hs.2.2.2.2.2.2
  have hb : c 558 11 = (Q.length : Int) := a7.1
  have hlen := a7.2.1
  refine v_X11_remembers hL (by omega) ⟨fun z => ?_, fun z => ?_⟩
  · refine t_remembers7 hL hs (by omega) (fun c' s e => h c' ?_ e)
    rw [List.take_of_length_le (by show Q.length + 1 ≤ 8; omega)]; exact s
  · have hq8 : Q.length = 8 := by omega
    refine cl_X11_remembers_11 hL ?_
    have hb1 : (kcpy c 562 562 192 0 1344) 558 11 = 8 := by rw [kcpy_out (Or.inl (by decide)), hb]; omega
    have st : ∀ i : Int, 0 ≤ i → i < 84 → (kcpy c 562 562 192 0 1344) 566 (12 + i) = 0 ∨ (kcpy c 562 562 192 0 1344) 566 (12 + i) = 1 := fun i a b => by
      rw [kcpy_out (Or.inl (by decide))]
      obtain ⟨j, hj⟩ := kint_nat (z := i / 12) (by omega)
      have hlt : 6 - j < Q.length := by omega
      have hk := (a7.2.2 (6 - j) _ (List.getElem?_eq_getElem hlt)).1 (i % 12) (by omega) (by omega)
      have ej : 12 * ((Q.length : Int) - 1 - ((6 - j : Nat) : Int)) + i % 12 = 12 + i := by omega
      rw [ej] at hk; exact hk
    refine cl_X11_remembers_42 hL hb1 (by omega) st ?_
    have e8 : (8 : Int) - 1 = 7 := by decide
    rw [e8]
    have e : ∀ a i : Int, ¬ (a = 562 ∨ a = 566 ∨ (a = 558 ∧ i = 11)) → (kup (kcpy (kcpy c 562 562 192 0 1344) 566 566 12 0 84) 558 11 7) a i = c a i := fun a i z => by
      rw [kup_n (by omega), kcpy_out (Or.inl (by omega)), kcpy_out (Or.inl (by omega))]
    have l7 : (Q.take 7).length = 7 := by rw [List.length_take]; omega
    have s1 : RAl L T B x K (Q.take 7) (kup (kcpy (kcpy c 562 562 192 0 1344) 566 566 12 0 84) 558 11 7) := by
      refine hs.pst e ⟨by rw [kup_s, l7]; rfl, by omega, fun i L' hi => ?_⟩
      have hlt := kgetl hi
      have hiQ : Q[i]? = some L' := by
        rw [List.getElem?_take] at hi
        split at hi
        · exact hi
        · cases hi
      rw [l7]
      refine (a7.2.2 i L' hiQ).cp (fun j p q => ?_) (fun j p q => ?_)
      · rw [kup_n (Or.inl (by decide)), kcpy_out (Or.inl (by decide))]
        have := kcpy_in (c := c) (a := 562) (b := 562) (x := 192) (y := 0) (n := 1344) (i := 192 * (((7 : Nat) : Int) - 1 - i) + j) (by omega) (by omega)
        rw [Int.zero_add] at this
        rw [this]; congr 1; omega
      · rw [kup_n (Or.inl (by decide))]
        have := kcpy_in (c := kcpy c 562 562 192 0 1344) (a := 566) (b := 566) (x := 12) (y := 0) (n := 84) (i := 12 * (((7 : Nat) : Int) - 1 - i) + j) (by omega) (by omega)
        rw [Int.zero_add] at this
        rw [this, kcpy_out (Or.inl (by decide))]; congr 1; omega
    refine t_remembers7 hL s1 (by omega) (fun c' s e2 => h c' ?_ (fun a i z => (e2 a i z).trans (e a i z)))
    have : (L :: Q).take 8 = L :: Q.take 7 := rfl
    rw [this]; exact s
theorem s_X11_back (hL : kLay S0) (hs : RAl L T B x K Q c) (h1 : ∀ L' Q', Q = L' :: Q' → ∀ c', RAl L' T B x K Q' c' → kLo c c' → P (some (kI (Q'.length : Int))) c') (h0 : Q = [] → P (some (kI (-1))) c) : kC2 G S0 kM_X11_back d [kA 558] c P := by
  have a7 := hs.2.2.2.2.2.2
  have a1 := hs.1
  have hb : c 558 11 = (Q.length : Int) := a7.1
  have hlen := a7.2.1
  refine v_X11_back hL (by omega) ⟨fun z => ?_, fun z => h0 (List.eq_nil_of_length_eq_zero (by omega))⟩
  match Q, hs, a7, hb, hlen, h1, z with
  | [], hs, a7, hb, hlen, h1, z => exact absurd hb (by intro q; exact z q)
  | L' :: Q', hs, a7, hb, hlen, h1, z =>
    have hl : (L' :: Q').length = Q'.length + 1 := rfl
    have eb : c 558 11 - 1 = (Q'.length : Int) := by omega
    rw [eb]
    have hb0 : (kup c 558 11 (Q'.length : Int)) 558 11 = (Q'.length : Int) := kup_s _ _ _ _
    refine cl_X11_back_21 hL hb0 (by omega) ?_
    have hb1 : (kcpy (kup c 558 11 (Q'.length : Int)) 562 559 (192 * (Q'.length : Int)) 0 192) 558 11 = (Q'.length : Int) := by rw [kcpy_out (Or.inl (by decide))]; exact hb0
    have q0 := a7.2.2 0 L' rfl
    have ei : ((L' :: Q').length : Int) - 1 - ((0 : Nat) : Int) = Q'.length := by omega
    rw [ei] at q0
    have st : ∀ i : Int, 0 ≤ i → i < 12 → (kcpy (kup c 558 11 (Q'.length : Int)) 562 559 (192 * (Q'.length : Int)) 0 192) 566 (12 * (Q'.length : Int) + i) = 0 ∨ (kcpy (kup c 558 11 (Q'.length : Int)) 562 559 (192 * (Q'.length : Int)) 0 192) 566 (12 * (Q'.length : Int) + i) = 1 := fun i a b => by rw [kcpy_out (Or.inl (by decide)), kup_n (Or.inl (by decide))]; exact q0.1 i a b
    refine cl_X11_back_57 hL hb1 (by omega) st ?_
    refine h1 L' Q' rfl _ ?_ (((kLo.rf.up (by omega)).cp (by omega)).cp (by omega))
    have e : ∀ a i : Int, ¬ (a = 559 ∨ a = 564 ∨ (a = 558 ∧ i = 11)) → (kcpy (kcpy (kup c 558 11 (Q'.length : Int)) 562 559 (192 * (Q'.length : Int)) 0 192) 566 564 (12 * (Q'.length : Int)) 0 12) a i = c a i := fun a i z => by
      rw [kcpy_out (Or.inl (by omega)), kcpy_out (Or.inl (by omega)), kup_n (by omega)]
    have hm : RAl L T B x K Q' (kup c 558 11 (Q'.length : Int)) := by
      refine hs.pst (fun a i z => kup_n (by omega)) ⟨kup_s _ _ _ _, by omega, fun i L2 hi => ?_⟩
      have := a7.2.2 (i + 1) L2 hi
      have e3 : ((L' :: Q').length : Int) - 1 - ((i + 1 : Nat) : Int) = (Q'.length : Int) - 1 - i := by omega
      rw [e3] at this
      exact this.cp (fun j _ _ => kup_n (Or.inl (by decide))) (fun j _ _ => kup_n (Or.inl (by decide)))
    refine hm.ltr (fun a i z1 z2 z3 => by rw [kcpy_out (Or.inl (by omega)), kcpy_out (Or.inl (by omega))]) ?_ ?_ ?_
    · refine ⟨fun a b ha hb => (e _ _ (by omega)).trans (a1.1 a b ha hb), fun k k0 k1 => ?_⟩
      show (kcpy _ _ _ _ _ _) 559 (16 * 30 + k) = _
      rw [kcpy_out (Or.inl (by decide)), kcpy_out (Or.inr (Or.inr (by omega))), kup_n (Or.inl (by decide))]
      exact a1.2 k k0 k1
    · refine q0.cp (fun j p q => ?_) (fun j p q => ?_)
      · rw [kcpy_out (Or.inl (by decide)), kcpy_in p q, kup_n (Or.inl (by decide))]
      · rw [kcpy_in p q, kcpy_out (Or.inl (by decide)), kup_n (Or.inl (by decide))]
    · exact ⟨(e _ _ (by omega)).trans hs.2.2.2.2.1.1, hs.2.2.2.2.1.2⟩
theorem s_X11_keep (hL : kLay S0) (hs : RAl L T B x K Q c) (h : ∀ c', RAl L T B x (true, L, x) Q c' → kLo c c' → P (some (kI (kHn L.1 12 : Int))) c') : kC2 G S0 kM_X11_keep (d + 1) [kA 558] c P := by
  obtain ⟨a1, a2, a3, a4, a5, a6, a7⟩ := hs
  refine v_X11_keep hL ?_
  have e12 : (kup c 558 15 1) 558 12 = c 558 12 := kup_n (Or.inr (by decide))
  refine cl_X11_keep_15 hL ?_
  have st : ∀ i : Int, 0 ≤ i → i < 12 → (kcpy (kup (kup c 558 15 1) 558 13 (c 558 12)) 559 561 0 0 192) 564 (0 + i) = 0 ∨ (kcpy (kup (kup c 558 15 1) 558 13 (c 558 12)) 559 561 0 0 192) 564 (0 + i) = 1 := fun i a b => by
    rw [kcpy_out (Or.inl (by decide)), kup_n (Or.inl (by decide)), kup_n (Or.inl (by decide))]; exact a2.1 i a b
  refine cl_X11_keep_42 hL st ?_
  have e : ∀ a i : Int, ¬ (a = 561 ∨ a = 565 ∨ (a = 558 ∧ (i = 13 ∨ i = 15))) → (kcpy (kcpy (kup (kup c 558 15 1) 558 13 (c 558 12)) 559 561 0 0 192) 564 565 0 0 12) a i = c a i := fun a i z => by
    rw [kcpy_out (Or.inl (by omega)), kcpy_out (Or.inl (by omega)), kup_n (by omega), kup_n (by omega)]
  have fin : RAl L T B x (true, L, x) Q (kcpy (kcpy (kup (kup c 558 15 1) 558 13 (c 558 12)) 559 561 0 0 192) 564 565 0 0 12) := by
    refine ⟨?_, ?_, ?_, ?_, ?_, ?_, ?_⟩
    · exact ⟨fun a b ha hb => (e _ _ (by omega)).trans (a1.1 a b ha hb), fun k k0 k1 => (e _ _ (by omega)).trans (a1.2 k k0 k1)⟩
    · exact a2.cp (fun i _ _ => e _ _ (by omega)) (fun i _ _ => e _ _ (by omega))
    · exact ⟨(e _ _ (by omega)).trans a3.1, a3.2.1, fun i a b => by rw [e _ _ (by omega)]; exact a3.2.2 i a b⟩
    · exact ⟨(e _ _ (by omega)).trans a4.1, a4.2.1, fun i a b => by rw [e _ _ (by omega)]; exact a4.2.2 i a b⟩
    · exact ⟨(e _ _ (by omega)).trans a5.1, a5.2⟩
    · refine ⟨?_, fun _ => ⟨?_, a5.2.1, a5.2.2, ?_⟩⟩
      · rw [kcpy_out (Or.inl (by decide)), kcpy_out (Or.inl (by decide)), kup_n (Or.inr (by decide)), kup_s]; rfl
      · rw [kcpy_out (Or.inl (by decide)), kcpy_out (Or.inl (by decide)), kup_s]; exact a5.1
      · refine a2.cp (fun j p q => ?_) (fun j p q => ?_)
        · rw [kcpy_out (Or.inl (by decide)), kcpy_in p q, kup_n (Or.inl (by decide)), kup_n (Or.inl (by decide))]
        · rw [kcpy_in p q, kcpy_out (Or.inl (by decide)), kup_n (Or.inl (by decide)), kup_n (Or.inl (by decide))]
    · exact ⟨(e _ _ (by omega)).trans a7.1, a7.2.1, fun i L' q => (a7.2.2 i L' q).cp (fun j _ _ => e _ _ (by omega)) (fun j _ _ => e _ _ (by omega))⟩
  exact s_X11_standing hL fin.rs ⟨_, rfl, h _ fin ((((kLo.rf.up (by omega)).up (by omega)).cp (by omega)).cp (by omega))⟩
theorem s_X11_undo (hL : kLay S0) (hs : RAl L T B x K Q c) (h1 : K.1 = true → ∀ c', RAl K.2.1 T B K.2.2 K [] c' → kLo c c' → P (some (kI 1)) c') (h0 : ¬ K.1 = true → P (some (kI 0)) c) : kC2 G S0 kM_X11_undo d [kA 558] c P := by
  obtain ⟨a1, a2, a3, a4, a5, a6, a7⟩ := hs
  refine v_X11_undo hL (by rw [a6.1]; split <;> omega) ⟨fun z => ?_, fun z => h0 (fun q => by rw [a6.1, if_pos q] at z; omega)⟩
  have hk : K.1 = true := Classical.byContradiction (fun q => by rw [a6.1, if_neg q] at z; exact z rfl)
  obtain ⟨k1, k2, k3, k4⟩ := a6.2 hk
  refine cl_X11_undo_19 hL ?_
  have st : ∀ i : Int, 0 ≤ i → i < 12 → (kcpy (kup c 558 12 (c 558 13)) 561 559 0 0 192) 565 (0 + i) = 0 ∨ (kcpy (kup c 558 12 (c 558 13)) 561 559 0 0 192) 565 (0 + i) = 1 := fun i a b => by
    rw [kcpy_out (Or.inl (by decide)), kup_n (Or.inl (by decide))]; exact k4.1 i a b
  refine cl_X11_undo_46 hL st ?_
  have e : ∀ a i : Int, ¬ (a = 559 ∨ a = 564 ∨ (a = 558 ∧ (i = 11 ∨ i = 12))) → (kup (kcpy (kcpy (kup c 558 12 (c 558 13)) 561 559 0 0 192) 565 564 0 0 12) 558 11 0) a i = c a i := fun a i z => by
    rw [kup_n (by omega), kcpy_out (Or.inl (by omega)), kcpy_out (Or.inl (by omega)), kup_n (by omega)]
  refine h1 hk _ ⟨?_, ?_, ?_, ?_, ?_, ?_, ?_⟩ ((((kLo.rf.up (by omega)).cp (by omega)).cp (by omega)).up (by omega))
  · refine ⟨fun a b ha hb => (e _ _ (by omega)).trans (a1.1 a b ha hb), fun k k0 k1 => ?_⟩
    show (kup _ _ _ _) 559 (16 * 30 + k) = _
    rw [kup_n (Or.inl (by decide)), kcpy_out (Or.inl (by decide)), kcpy_out (Or.inr (Or.inr (by omega))), kup_n (Or.inl (by decide))]
    exact a1.2 k k0 k1
  · refine k4.cp (fun j p q => ?_) (fun j p q => ?_)
    · rw [kup_n (Or.inl (by decide)), kcpy_out (Or.inl (by decide)), kcpy_in p q, kup_n (Or.inl (by decide))]
    · rw [kup_n (Or.inl (by decide)), kcpy_in p q, kcpy_out (Or.inl (by decide)), kup_n (Or.inl (by decide))]
  · exact ⟨(e _ _ (by omega)).trans a3.1, a3.2.1, fun i a b => by rw [e _ _ (by omega)]; exact a3.2.2 i a b⟩
  · exact ⟨(e _ _ (by omega)).trans a4.1, a4.2.1, fun i a b => by rw [e _ _ (by omega)]; exact a4.2.2 i a b⟩
  · refine ⟨?_, k2, k3⟩
    rw [kup_n (Or.inr (by decide)), kcpy_out (Or.inl (by decide)), kcpy_out (Or.inl (by decide)), kup_s]; exact k1
  · refine ⟨(e _ _ (by omega)).trans a6.1, fun w => ⟨(e _ _ (by omega)).trans k1, k2, k3, k4.cp (fun i _ _ => e _ _ (by omega)) (fun i _ _ => e _ _ (by omega))⟩⟩
  · exact ⟨kup_s _ _ _ _, Nat.zero_le _, fun i L' q => by cases q⟩
end RS
