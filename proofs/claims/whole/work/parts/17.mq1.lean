theorem s_X11_isObjectKind {G : KG} {S0 : KSh} (hL : kLay S0) {d : Nat} {P : Option AV → KMem → Prop} {c : KMem} {x0 : Int} (r0 : k32 x0) (h1 : kObj x0 → P (some (kI 1)) c) (h0 : ¬ kObj x0 → P (some (kI 0)) c) : kC2 G S0 kM_X11_isObjectKind (d + 1) [kI x0] c P := by
  unfold kObj at h1 h0
  exact v_X11_isObjectKind hL r0 ⟨fun a => h1 (Or.inl a), fun a => ⟨fun b => h1 (Or.inr b), fun b => h0 (by omega)⟩⟩
theorem s_X11_isMirrorKind {G : KG} {S0 : KSh} (hL : kLay S0) {d : Nat} {P : Option AV → KMem → Prop} {c : KMem} {x0 : Int} (r0 : k32 x0) (h1 : kMir x0 → P (some (kI 1)) c) (h0 : ¬ kMir x0 → P (some (kI 0)) c) : kC2 G S0 kM_X11_isMirrorKind d [kI x0] c P := by
  unfold kMir at h1 h0
  exact v_X11_isMirrorKind hL r0 ⟨fun a => h1 (by omega), fun a => ⟨fun b => h1 (by omega), fun b => ⟨fun e => h1 (by omega), fun e => ⟨fun f => h0 (by omega), fun f => h1 (by omega)⟩⟩⟩⟩
theorem s_X11_isPairKind {G : KG} {S0 : KSh} (hL : kLay S0) {d : Nat} {P : Option AV → KMem → Prop} {c : KMem} {x0 : Int} (r0 : k32 x0) (h1 : (20 ≤ x0 ∧ x0 ≤ 22) → P (some (kI 1)) c) (h0 : ¬ (20 ≤ x0 ∧ x0 ≤ 22) → P (some (kI 0)) c) : kC2 G S0 kM_X11_isPairKind (d + 1) [kI x0] c P :=
  v_X11_isPairKind hL r0 ⟨h1, h0⟩
theorem s_X11_laysVector {G : KG} {S0 : KSh} (hL : kLay S0) {d : Nat} {P : Option AV → KMem → Prop} {c : KMem} {x1 x2 : Int} (hp : 0 ≤ x1 ∧ x1 < 100 ∧ 0 ≤ x2 ∧ x2 < 100) (hS : kSgn c) (hb : kB kLB (kF c x1)) (hg : kgr (kF c x1) = 2 ∨ kgr (kF c x1) = 8) (h : ∀ c', kEq (kF c' x2) (vecP (kF c x1)) → kR (fun s => s = x2) c c' → P none c') : kC2 G S0 kM_X11_laysVector (d + 2) [kA 558, kI x1, kI x2] c P := by
  refine v_X11_laysVector hL (by omega) (by omega) hp (s_X11_copies hL hp (fun c1 h1 h2 _ => ⟨rfl, ?_⟩))
  have hk : ∀ k : Int, 0 ≤ k → k < 16 → k64 (c1 559 (16 * x2 + k)) := kb64 (hb.eq h1) (by decide)
  have e1 : c1 559 (16 * x2 + 1) = kF c x1 1 := h1 1 (by omega) (by omega)
  have e2 : c1 559 (16 * x2 + 2) = kF c x1 2 := h1 2 (by omega) (by omega)
  have e4 : c1 559 (16 * x2 + 4) = kF c x1 4 := h1 4 (by omega) (by omega)
  have e8 : c1 559 (16 * x2 + 8) = kF c x1 8 := h1 8 (by omega) (by omega)
  have non : ¬ (kF c x1 1 = 0 ∧ kF c x1 2 = 0 ∧ kF c x1 4 = 0 ∧ kF c x1 8 = 0) → P none c1 := fun q => by
    refine h c1 ?_ h2
    unfold vecP
    rw [if_neg (fun z => q (kvec_08 z))]
    exact h1
  refine ⟨hk 1 (by omega) (by omega), fun z => non (fun q => z (e1.trans q.1)), fun z1 => ⟨hk 2 (by omega) (by omega), fun z => non (fun q => z (e2.trans q.2.1)), fun z2 => ⟨hk 4 (by omega) (by omega), fun z => non (fun q => z (e4.trans q.2.2.1)), fun z4 => ⟨hk 8 (by omega) (by omega), fun z => non (fun q => z (e8.trans q.2.2.2)), fun z8 => ?_⟩⟩⟩⟩
  have h8 : kgr (kF c x1) = 8 := by
    rcases hg with q | q
    · exact absurd ⟨e1.symm.trans z1, e2.symm.trans z2, e4.symm.trans z4, e8.symm.trans z8⟩ (kvec_02 q)
    · exact q
  refine s_X11_turnsWhole hL ⟨hp.2.2.1, hp.2.2.2, Or.inr rfl⟩ (hS.kept h2) (fun c2 h3 h4 => ⟨rfl, ?_⟩)
  refine h c2 ?_ (h2.tr h4 (fun _ q => q) (fun _ q => q))
  unfold vecP
  rw [if_pos h8]
  rw [if_neg (by decide)] at h3
  exact h3.tr (whlP_congr h1)
theorem s_X11_isPlain {G : KG} {S0 : KSh} (hL : kLay S0) {d : Nat} {P : Option AV → KMem → Prop} {c : KMem} {x1 : Int} (hp : 0 ≤ x1 ∧ x1 < 100) (h64 : ∀ k : Int, 0 ≤ k → k < 16 → k64 (kF c x1 k)) (h1 : kgr (kF c x1) = 1 → P (some (kI 1)) c) (h0 : ¬ kgr (kF c x1) = 1 → P (some (kI 0)) c) : kC2 G S0 kM_X11_isPlain (d + 1) [kA 558, kI x1] c P := by
  rw [kgr_1] at h1 h0
  have loop : ∀ n k : Nat, k + n = 16 → 1 ≤ k → (∀ j : Int, 1 ≤ j → j < k → kF c x1 j = 0) → kW2 G S0 kM_X11_isPlain (d + 1) 2 [some (kA 558), some (kI x1), some (kI k)] [] c P := by
    intro n
    induction n with
    | zero =>
      intro k hk hk1 q
      refine v_X11_isPlain_2 hL (by omega) (by omega) (by omega) ⟨fun _ => ⟨h64 0 (by omega) (by omega), fun z => h0 (fun y => y.1 z), fun z => h1 ⟨z, fun j a b => q j a (by omega)⟩⟩, fun z => by omega⟩
    | succ n ih =>
      intro k hk hk1 q
      refine v_X11_isPlain_2 hL (by omega) (by omega) (by omega) ⟨fun z => by omega, fun _ => ⟨h64 k (by omega) (by omega), fun z => ?_, fun z => h0 (fun y => z (y.2 k (by omega) (by omega)))⟩⟩
      refine ih (k + 1) (by omega) (by omega) (fun j a b => ?_)
      by_cases e : j = k
      · subst e; exact z
      · exact q j a (by omega)
  exact v_X11_isPlain hL (by omega) hp (loop 15 1 (by omega) (by omega) (fun j a b => by omega))
theorem s_X11_isMotion {G : KG} {S0 : KSh} (hL : kLay S0) {d : Nat} {P : Option AV → KMem → Prop} {c : KMem} {x1 : Int} (hp : 0 ≤ x1 ∧ x1 < 100 ∧ x1 ≠ 31 ∧ x1 ≠ 29) (hI : kI0 c) (hb : kB kLB (kF c x1)) (h1 : ∀ c', kR (fun s => s = 29 ∨ s = 31) c c' → kMot (kF c x1) = true → P (some (kI 1)) c') (h0 : ∀ c', kR (fun s => s = 29 ∨ s = 31) c c' → ¬ kMot (kF c x1) = true → P (some (kI 0)) c') : kC2 G S0 kM_X11_isMotion (d + 5) [kA 558, kI x1] c P := by
  rw [kMot_iff] at h1 h0
  have rest : (kind (kF c x1) = 1 ∨ kind (kF c x1) = 3 ∨ kind (kF c x1) = 4 ∨ kind (kF c x1) = 6 ∨ kind (kF c x1) = 40 ∨ kind (kF c x1) = 41) → ∀ c1, kR (fun s => s = 29 ∨ s = 31) c c1 → kW2 G S0 kM_X11_isMotion (d + 5) 41 [some (kA 558), some (kI x1), none] [] c1 P := by
    intro hk c1 hr
    have e1 : kEq (kF c1 x1) (kF c x1) := hr.1 x1 (by omega) hp.1
    refine v_X11_isMotion_41 hL (by omega) (s_X11_copies hL (by omega) (fun c2 a1 a2 _ => ⟨rfl, s_X11_reverses hL (by omega) (fun c3 a3 a4 => ⟨rfl, ?_⟩)⟩))
    have r3 : kR (fun s => s = 29 ∨ s = 31) c c3 := (hr.tr a2 (fun _ q => q) (fun _ q => Or.inl q)).tr a4 (fun _ q => q) (fun _ q => Or.inl q)
    have hI3 := hI.kept r3 (by decide)
    have e3 : kEq (kF c3 x1) (kF c x1) := r3.1 x1 (by omega) hp.1
    have e4 : kEq (kF c3 29) (revP (kF c x1)) := a3.tr (revP_congr (a1.tr e1))
    refine s_X11_joins hL (k32i (by omega)) ⟨hp.1, hp.2.1, by omega, by omega, by omega, by omega⟩ hI3.1 (kb64 (hb.eq e3) (by decide)) (fun c4 a5 a6 => ⟨rfl, ?_⟩)
    have e5 : kEq (kF c4 31) (mulP 0 (kF c x1) (revP (kF c x1))) := a5.tr (mulP_congr e3 e4)
    have r4 : kR (fun s => s = 29 ∨ s = 31) c c4 := r3.tr a6 (fun _ q => q) (fun _ q => Or.inr q)
    have b4 : kB 160000000000000000 (kF c4 31) := (mulP_bdL hb (revP_bd hb)).eq e5
    refine s_X11_isPlain hL (by omega) (kb64 b4 (by decide)) (fun z => ⟨1, rfl, Or.inr rfl, h1 c4 r4 ⟨hk, ?_⟩⟩) (fun z => ⟨0, rfl, Or.inl rfl, h0 c4 r4 (fun q => z ?_)⟩)
    · rw [← kgr_congr e5]; exact z
    · rw [kgr_congr e5]; exact q.2
  have hkr := kind_rg (kF c x1)
  refine v_X11_isMotion hL (by omega) (s_X11_kindOf hL hp hI hb (fun c1 hr => ⟨_, rfl, k32i (by omega), fun z => rest (by omega) c1 hr, fun z1 => ⟨fun z => rest (by omega) c1 hr, fun z2 => ⟨fun z => rest (by omega) c1 hr, fun z3 => ⟨fun z => rest (by omega) c1 hr, fun z4 => ⟨fun z => rest (by omega) c1 hr, fun z5 => ⟨fun z => rest (by omega) c1 hr, fun z6 => ?_⟩⟩⟩⟩⟩⟩))
  exact h0 c1 hr (fun q => by omega)
/-- which letters stand, in the reference -/
def kStd (c : KMem) : Prop := ∀ l : Int, 0 ≤ l → l < 12 → c 564 l = 0 ∨ c 564 l = 1
abbrev kHas (c : KMem) (l : Int) : Prop := 0 ≤ l ∧ l < 12 ∧ c 564 l = 1
set_option maxRecDepth 4000 in
theorem v_X11_isLetter {G : KG} {S0 : KSh} (hL : kLay S0) {d : Nat} {P : Option AV → KMem → Prop} {c : KMem} {x1 : Int} (r1 : -2147483648 ≤ x1 ∧ x1 < 2147483648) (H : ((0 ≤ x1 ∧ x1 ≤ 11) → ((k32 (c 564 x1)) ∧ (((c 564 x1) = 0 → (P (some (kI 0)) c)) ∧ ((c 564 x1) ≠ 0 → (P (some (kI 1)) c))))) ∧ (¬ (0 ≤ x1 ∧ x1 ≤ 11) → (P (some (kI 0)) c))) : kC2 G S0 kM_X11_isLetter (d + 1) [kA 558, kI x1] c P := by
  refine k2_met (by decide) rfl (Nat.le_of_ble_eq_true rfl) (l0 := [some (kA 558), some (kI x1)]) rfl ?_
  refine kw_iload_n dX11_isLetter_0 rfl ?_
  refine kw_iconst dX11_isLetter_1 ?_
  refine kw_bipush dX11_isLetter_2 (by decide) ?_
  refine k2_callS3I m_X11_in dX11_isLetter_4 wl_X11_100 (Nat.le_of_ble_eq_true rfl) (s_X11_in hL (k32i (by omega)) (k32i (by omega)) (k32i (by omega)) (fun h1 => ⟨_, rfl, ?_⟩) (fun h1 => ⟨_, rfl, ?_⟩))
  · have H := H.1 h1
    refine kw_if_eq 23 dX11_isLetter_7 (by decide) (k32i (by omega)) (fun h2 => absurd h2 (by decide)) (fun _ => ?_)
    refine kw_aload_n dX11_isLetter_10 rfl ?_
    refine k2_getR fd_X11_5 dX11_isLetter_11 wf_X11_25 (lsh_558 hL) (lrf_558_5 hL) ?_
    refine kw_iload_n dX11_isLetter_14 rfl ?_
    refine k2_zald dX11_isLetter_15 (lsh_564 hL) (by omega) (by omega) ?_
    have o4 := H.1
    have H := H.2
    refine kw_if_eq 23 dX11_isLetter_16 (by decide) o4 (fun h3 => ?_) (fun h3 => ?_)
    · have H := H.1 h3
      refine kw_iconst dX11_isLetter_23 ?_
      refine k2_zret dX11_isLetter_24 rfl (Or.inl rfl) H
    · have H := H.2 h3
      refine kw_iconst dX11_isLetter_19 ?_
      refine kw_goto 24 dX11_isLetter_20 (by decide) ?_
      refine k2_zret dX11_isLetter_24 rfl (Or.inr rfl) H
  · have H := H.2 h1
    refine kw_if_eq 23 dX11_isLetter_7 (by decide) (k32i (by omega)) (fun _ => ?_) (fun h5 => absurd h5 (by decide))
    refine kw_iconst dX11_isLetter_23 ?_
    refine k2_zret dX11_isLetter_24 rfl (Or.inl rfl) H
theorem s_X11_isLetter {G : KG} {S0 : KSh} (hL : kLay S0) {d : Nat} {P : Option AV → KMem → Prop} {c : KMem} {x1 : Int} (r1 : k32 x1) (hs : kStd c) (h1 : kHas c x1 → P (some (kI 1)) c) (h0 : ¬ kHas c x1 → P (some (kI 0)) c) : kC2 G S0 kM_X11_isLetter (d + 1) [kA 558, kI x1] c P := by
  refine v_X11_isLetter hL r1 ⟨fun a => ?_, fun a => h0 (by omega)⟩
  have h2 := hs x1 (by omega) (by omega)
  exact ⟨k32i (by omega), fun z => h0 (by omega), fun z => h1 (by omega)⟩
