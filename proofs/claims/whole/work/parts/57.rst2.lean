section RS
variable {G : KG} {S0 : KSh} {d : Nat} {P : Option AV → KMem → Prop} {c c0 : KMem} {L : KLt} {T B : KTp} {x : Int} {K : Bool × KLt × Int} {Q : List KLt} {x0 x1 x2 x3 x4 x5 : Int}
/-- the class's addresses stay -/
def kLo (c c' : KMem) : Prop := ∀ a i : Int, a < 558 → c' a i = c a i
theorem kLo.rf : kLo c c := fun _ _ _ => rfl
theorem kLo.tr {c1 c2 : KMem} (h : kLo c c1) (g : kLo c1 c2) : kLo c c2 := fun a i q => (g a i q).trans (h a i q)
theorem kLo.up {c1 : KMem} {a i v : Int} (h : kLo c c1) (ha : 558 ≤ a) : kLo c (kup c1 a i v) := fun x j q => (kup_n (Or.inl (by omega))).trans (h x j q)
theorem kLo.cp {c1 : KMem} {a b x y n : Int} (h : kLo c c1) (hb : 558 ≤ b) : kLo c (kcpy c1 a b x y n) := fun u v q => (kcpy_out (Or.inl (by omega))).trans (h u v q)
theorem kRP.lo {c' : KMem} (h : kRP c c') : kLo c c' := h.2.1
theorem kR.lo {T : Int → Prop} {c' : KMem} (h : kR T c c') : kLo c c' := fun a i q => h.2 a i (by omega) (by omega)
theorem s_X11_seed (hL : kLay S0) (r1 : k32 x1) (hs : RAl L T B x K Q c) (h1 : (0 ≤ x1 ∧ x1 ≤ 65535) → ∀ c', RAl L T B x1 K Q c' → kLo c c' → P (some (kI 1)) c') (h0 : ¬ (0 ≤ x1 ∧ x1 ≤ 65535) → P (some (kI 0)) c) : kC2 G S0 kM_X11_seed (d + 1) [kA 558, kI x1] c P := by
  obtain ⟨a1, a2, a3, a4, a5, a6, a7⟩ := hs
  refine v_X11_seed hL r1 ⟨fun q => h1 q _ ⟨?_, ?_, ?_, ?_, ?_, ?_, ?_⟩ (kLo.rf.up (by omega)), h0⟩
  · exact ⟨fun a b ha hb => (kup_n (Or.inl (by decide))).trans (a1.1 a b ha hb), fun k k0 k1 => (kup_n (Or.inl (by decide))).trans (a1.2 k k0 k1)⟩
  · exact a2.cp (fun i _ _ => kup_n (Or.inl (by decide))) (fun i _ _ => kup_n (Or.inl (by decide)))
  · exact ⟨(kup_n (Or.inr (by decide))).trans a3.1, a3.2.1, fun i a b => by rw [kup_n (Or.inl (by decide))]; exact a3.2.2 i a b⟩
  · exact ⟨(kup_n (Or.inr (by decide))).trans a4.1, a4.2.1, fun i a b => by rw [kup_n (Or.inl (by decide))]; exact a4.2.2 i a b⟩
  · exact ⟨kup_s _ _ _ _, q⟩
  · refine ⟨(kup_n (Or.inr (by decide))).trans a6.1, fun w => ?_⟩
    have := a6.2 w
    exact ⟨(kup_n (Or.inr (by decide))).trans this.1, this.2.1, this.2.2.1, this.2.2.2.cp (fun i _ _ => kup_n (Or.inl (by decide))) (fun i _ _ => kup_n (Or.inl (by decide)))⟩
  · exact ⟨(kup_n (Or.inr (by decide))).trans a7.1, a7.2.1, fun i L' q => (a7.2.2 i L' q).cp (fun j _ _ => kup_n (Or.inl (by decide))) (fun j _ _ => kup_n (Or.inl (by decide)))⟩
/-- all but the tape -/
theorem RAl.tp {T' : KTp} {c' : KMem} (hs : RAl L T B x K Q c) (e : ∀ a i : Int, ¬ (a = 570 ∨ (a = 558 ∧ i = 21)) → c' a i = c a i) (h3 : c' 558 21 = (T'.1 : Int) ∧ T'.1 ≤ 140 ∧ kTq 570 T' c') : RAl L T' B x K Q c' := by
  obtain ⟨a1, a2, a3, a4, a5, a6, a7⟩ := hs
  refine ⟨?_, ?_, h3, ?_, ?_, ?_, ?_⟩
  · exact ⟨fun a b ha hb => (e _ _ (by omega)).trans (a1.1 a b ha hb), fun k k0 k1 => (e _ _ (by omega)).trans (a1.2 k k0 k1)⟩
  · exact a2.cp (fun i _ _ => e _ _ (by omega)) (fun i _ _ => e _ _ (by omega))
  · exact ⟨(e _ _ (by omega)).trans a4.1, a4.2.1, fun i a b => by rw [e _ _ (by omega)]; exact a4.2.2 i a b⟩
  · exact ⟨(e _ _ (by omega)).trans a5.1, a5.2⟩
  · refine ⟨(e _ _ (by omega)).trans a6.1, fun w => ?_⟩
    have := a6.2 w
    exact ⟨(e _ _ (by omega)).trans this.1, this.2.1, this.2.2.1, this.2.2.2.cp (fun i _ _ => e _ _ (by omega)) (fun i _ _ => e _ _ (by omega))⟩
  · exact ⟨(e _ _ (by omega)).trans a7.1, a7.2.1, fun i L' q => (a7.2.2 i L' q).cp (fun j _ _ => e _ _ (by omega)) (fun j _ _ => e _ _ (by omega))⟩
theorem t_types (hL : kLay S0) (r1 : k32 x1) (hs : RAl L T B x K Q c) (hT : T.1 ≤ 136) (h : ∀ c', RAl L (tyP T x1) B x K Q c' → kLo c c' → P none c') : kC2 G S0 kM_X11_types d [kA 558, kI x1] c P := by
  have b1 := hs.2.2.1.1
  have bT := hs.2.2.1.2.2
  have loop : ∀ n k : Nat, k + n = 4 → ∀ c', (∀ a i : Int, ¬ (a = 570 ∨ (a = 558 ∧ i = 21)) → c' a i = c a i) → c' 558 21 = (T.1 : Int) + k → (∀ i : Int, 0 ≤ i → i < (T.1 : Int) + k → kand (c' 570 i) 255 = (tyP T x1).2 i) → kW2 G S0 kM_X11_types d 2 [some (kA 558), some (kI x1), some (kI (3 - (k : Int)))] [] c' P := by
    intro n
    induction n with
    | zero =>
      intro k hk c' e1 e2 e3
      obtain rfl : k = 4 := by omega
      refine v_X11_types_2 hL r1 (by omega) (by omega) ⟨fun _ => h _ (hs.tp e1 ⟨by rw [e2]; show (T.1 : Int) + 4 = ((T.1 + 4 : Nat) : Int); omega, by show T.1 + 4 ≤ 140; omega, fun i a b => ?_⟩) (fun a i q => e1 a i (by omega)), fun q => by omega⟩
      have b' : i < ((T.1 + 4 : Nat) : Int) := b
      exact ⟨e3 i a (by omega), tyP_rg (fun j p q => (bT j p q).2) i a b⟩
    | succ n ih =>
      intro k hk c' e1 e2 e3
      refine v_X11_types_2 hL r1 (by omega) (by omega) ⟨fun q => by omega, fun _ => ?_⟩
      rw [e2]
      have nx := ih (k + 1) (by omega) (kup (kup c' 570 ((T.1 : Int) + k) (ki2b (ki2b (kshr x1 (8 * (3 - (k : Int))))))) 558 21 ((T.1 : Int) + k + 1)) (fun a i q => by rw [kup_n (by omega), kup_n (by omega)]; exact e1 a i q) (by rw [kup_s]; omega) (fun i a b => by
        rw [kup_n (Or.inl (by decide))]
        by_cases w : i = (T.1 : Int) + k
        · rw [w, kup_s, kand_b, kand_b]
          show _ = if (T.1 : Int) + k < T.1 then _ else kand (kshr x1 (24 - 8 * ((T.1 : Int) + k - T.1))) 255
          rw [if_neg (by omega)]
          congr 2; omega
        · rw [kup_n (Or.inr w)]; exact e3 i a (by omega))
      rw [show (3 : Int) - ((k + 1 : Nat) : Int) = 3 - (k : Int) + -1 by omega] at nx
      exact nx
  refine v_X11_types hL r1 (by omega) (loop 4 0 (by omega) c (fun _ _ _ => rfl) (by omega) (fun i a b => ?_))
  show _ = if i < T.1 then T.2 i else _
  rw [if_pos (by omega)]
  exact (bT i a (by omega)).1
def fdP (T : KTp) (a b e f g : Int) : KTp := tyP (tyP (tyP (tyP (tyP T a) b) e) f) g
theorem s_X11_feed (hL : kLay S0) (r1 : k32 x1) (r2 : k32 x2) (r3 : k32 x3) (r4 : k32 x4) (r5 : k32 x5) (hs : RAl L T B x K Q c) (h1 : T.1 ≤ 120 → ∀ c', RAl L (fdP T x1 x2 x3 x4 x5) B x K Q c' → kLo c c' → P (some (kI ((T.1 : Int) + 20))) c') (h0 : ¬ T.1 ≤ 120 → P (some (kI (-1))) c) : kC2 G S0 kM_X11_feed (d + 1) [kA 558, kI x1, kI x2, kI x3, kI x4, kI x5] c P := by
  have b1 := hs.2.2.1.1
  have b2 := hs.2.2.1.2.1
  refine v_X11_feed hL r1 r2 r3 r4 r5 (by omega) ⟨fun q => ?_, fun q => h0 (by omega)⟩
  have hT : T.1 ≤ 120 := by omega
  refine t_types hL r1 hs (by omega) (fun c1 s1 l1 => ⟨rfl, ?_⟩)
  refine t_types hL r2 s1 (by show T.1 + 4 ≤ 136; omega) (fun c2 s2 l2 => ⟨rfl, ?_⟩)
  refine t_types hL r3 s2 (by show T.1 + 4 + 4 ≤ 136; omega) (fun c3 s3 l3 => ⟨rfl, ?_⟩)
  refine t_types hL r4 s3 (by show T.1 + 4 + 4 + 4 ≤ 136; omega) (fun c4 s4 l4 => ⟨rfl, ?_⟩)
  refine t_types hL r5 s4 (by show T.1 + 4 + 4 + 4 + 4 ≤ 136; omega) (fun c5 s5 l5 => ⟨rfl, ?_⟩)
  have e5 : c5 558 21 = (T.1 : Int) + 20 := by rw [s5.2.2.1.1]; show ((T.1 + 4 + 4 + 4 + 4 + 4 : Nat) : Int) = _; omega
  dsimp only
  rw [e5]
  exact h1 hT c5 s5 ((((l1.tr l2).tr l3).tr l4).tr l5)
theorem s_X11_count (hL : kLay S0) (r1 : k32 x1) (hs : RAl L T B x K Q c) (h : P (some (kI (if x1 = 0 then (kHn L.1 12 : Int) else if x1 = 1 then (Q.length : Int) else if x1 = 2 then (T.1 : Int) else if x1 = 3 then x else -1))) c) : kC2 G S0 kM_X11_count (d + 1) [kA 558, kI x1] c P := by
  refine v_X11_count hL r1 ⟨fun a => ⟨fun b => ⟨fun e => ⟨fun z => ?_, fun z => ?_⟩, fun e => ?_⟩, fun b => ?_⟩, fun a => ?_⟩
  · rw [if_neg a, if_neg b, if_neg e, if_neg z] at h; exact h
  · rw [if_neg a, if_neg b, if_neg e, if_pos z] at h; rw [hs.2.2.2.2.1.1]; exact h
  · rw [if_neg a, if_neg b, if_pos e] at h; rw [hs.2.2.1.1]; exact h
  · rw [if_neg a, if_pos b] at h; rw [hs.2.2.2.2.2.2.1]; exact h
  · rw [if_pos a] at h; exact s_X11_standing hL hs.rs ⟨_, rfl, h⟩
theorem s_X11_book (hL : kLay S0) (r1 : k32 x1) (hs : RAl L T B x K Q c) (h1 : (0 ≤ x1 ∧ x1 ≤ 120) ∧ x1 ≤ T.1 → ∀ c', RAl L (0, T.2) (x1.toNat, T.2) x K Q c' → kLo c c' → P (some (kI x1)) c') (h0 : ¬ ((0 ≤ x1 ∧ x1 ≤ 120) ∧ x1 ≤ T.1) → P (some (kI (-1))) c) : kC2 G S0 kM_X11_book (d + 1) [kA 558, kI x1] c P := by
  have b1 := hs.2.2.1.1
  have b2 := hs.2.2.1.2.1
  have bT := hs.2.2.1.2.2
  refine v_X11_book hL r1 (by omega) ⟨fun q => ⟨fun w => ?_, fun w => h0 (fun z => by omega)⟩, fun q => h0 (fun z => q z.1)⟩
  obtain ⟨m, rfl⟩ := kint_nat q.1
  have loop : ∀ n k : Nat, k + n = m → ∀ c', (∀ a i : Int, ¬ a = 571 → c' a i = c a i) → (∀ i : Int, 0 ≤ i → i < k → kand (c' 571 i) 255 = T.2 i) → kW2 G S0 kM_X11_book (d + 1) 22 [some (kA 558), some (kI (m : Int)), some (kI (k : Int))] [] c' P := by
    intro n
    induction n with
    | zero =>
      intro k hk c' e1 e2
      obtain rfl : k = m := by omega
      refine v_X11_book_22 hL r1 (by omega) q ⟨fun _ => h1 ⟨q, by omega⟩ _ ?_ (fun a i z => by rw [kup_n (by omega), kup_n (by omega)]; exact e1 a i (by omega)), fun z => by omega⟩
      obtain ⟨a1, a2, a3, a4, a5, a6, a7⟩ := hs
      have e : ∀ a i : Int, ¬ (a = 571 ∨ (a = 558 ∧ (i = 21 ∨ i = 22))) → kup (kup c' 558 22 (k : Int)) 558 21 0 a i = c a i := fun a i z => by rw [kup_n (by omega), kup_n (by omega)]; exact e1 a i (by omega)
      refine ⟨?_, ?_, ?_, ?_, ?_, ?_, ?_⟩
      · exact ⟨fun a b ha hb => (e _ _ (by omega)).trans (a1.1 a b ha hb), fun k k0 k1 => (e _ _ (by omega)).trans (a1.2 k k0 k1)⟩
      · exact a2.cp (fun i _ _ => e _ _ (by omega)) (fun i _ _ => e _ _ (by omega))
      · exact ⟨kup_s _ _ _ _, Nat.zero_le _, fun i a b => by have b' : i < ((0 : Nat) : Int) := b; omega⟩
      · refine ⟨?_, by show ((k : Int)).toNat ≤ 120; omega, fun i a b => ?_⟩
        · rw [kup_n (Or.inr (by decide)), kup_s]; show (k : Int) = (((k : Int)).toNat : Int); omega
        · have b' : i < (((k : Int)).toNat : Int) := b
          rw [kup_n (Or.inl (by decide)), kup_n (Or.inl (by decide))]
          exact ⟨e2 i a (by omega), (bT i a (by omega)).2⟩
      · exact ⟨(e _ _ (by omega)).trans a5.1, a5.2⟩
      · refine ⟨(e _ _ (by omega)).trans a6.1, fun w => ?_⟩
        have := a6.2 w
        exact ⟨(e _ _ (by omega)).trans this.1, this.2.1, this.2.2.1, this.2.2.2.cp (fun i _ _ => e _ _ (by omega)) (fun i _ _ => e _ _ (by omega))⟩
      · exact ⟨(e _ _ (by omega)).trans a7.1, a7.2.1, fun i L' q => (a7.2.2 i L' q).cp (fun j _ _ => e _ _ (by omega)) (fun j _ _ => e _ _ (by omega))⟩
    | succ n ih =>
      intro k hk c' e1 e2
      refine v_X11_book_22 hL r1 (by omega) q ⟨fun z => by omega, fun _ => ?_⟩
      refine ih (k + 1) (by omega) _ (fun a i z => by rw [kup_n (Or.inl z)]; exact e1 a i z) (fun i a b => ?_)
      by_cases w2 : i = k
      · rw [w2, kup_s, kand_b, e1 570 k (by decide)]; exact (bT k (by omega) (by omega)).1
      · rw [kup_n (Or.inr w2)]; exact e2 i a (by omega)
  exact loop m 0 (by omega) c (fun _ _ _ => rfl) (fun i a b => by omega)
end RS
