/-- the reference's FORMS by their place, one of them set -/
def kU (Φ : Int → KF) (t : Int) (f : KF) : Int → KF := fun s => if s = t then f else Φ s
theorem kUs {Φ : Int → KF} {t : Int} {f : KF} : kU Φ t f t = f := if_pos rfl
theorem kUn {Φ : Int → KF} {s t : Int} {f g : KF} (h : s ≠ t) (e : Φ s = g) : kU Φ t f s = g := (if_neg h).trans e
/-- the reference's FORMS are Φ; all else but the row of work is as in c0 -/
def kPh (Φ : Int → KF) (c0 c : KMem) : Prop := (∀ s : Int, 0 ≤ s → kEq (kF c s) (Φ s)) ∧ ∀ x i : Int, x ≠ 559 → x ≠ 560 → c x i = c0 x i
/-- what the reference keeps -/
def kK (Φ : Int → KF) (c0 : KMem) : Prop := kSgn c0 ∧ Φ 30 = farP
theorem kPh.sgn {Φ : Int → KF} {c0 c : KMem} (h : kPh Φ c0 c) (g : kSgn c0) : kSgn c := fun a b ha hb => (h.2 568 _ (by decide) (by decide)).trans (g a b ha hb)
theorem kPh.i0 {Φ : Int → KF} {c0 c : KMem} (h : kPh Φ c0 c) (g : kSgn c0) (e : Φ 30 = farP) : kI0 c := ⟨h.sgn g, e ▸ h.1 30 (by decide)⟩
theorem kPh.s1 {Φ : Int → KF} {c0 c c' : KMem} {t : Int} {f : KF} (h : kPh Φ c0 c) (e : kEq (kF c' t) f) (r : kR (fun s => s = t) c c') : kPh (kU Φ t f) c0 c' := by
  refine ⟨fun s h0 => ?_, fun x i a b => (r.2 x i a b).trans (h.2 x i a b)⟩
  unfold kU
  by_cases q : s = t
  · rw [if_pos q, q]; exact e
  · rw [if_neg q]; exact (r.1 s q h0).tr (h.1 s h0)
theorem kPh.s2 {Φ : Int → KF} {c0 c c' : KMem} (h : kPh Φ c0 c) (r : kR kT2 c c') : kPh (kU (kU Φ 29 (kF c' 29)) 31 (kF c' 31)) c0 c' := by
  refine ⟨fun s h0 => ?_, fun x i a b => (r.2 x i a b).trans (h.2 x i a b)⟩
  unfold kU
  by_cases q : s = 31
  · rw [if_pos q, q]; exact kEq.rf
  · rw [if_neg q]
    by_cases q2 : s = 29
    · rw [if_pos q2, q2]; exact kEq.rf
    · rw [if_neg q2]; exact (r.1 s (fun z => by have z : s = 29 ∨ s = 31 := z; omega) h0).tr (h.1 s h0)
theorem kPh.up {Φ : Int → KF} {c0 c : KMem} {a i v : Int} (h : kPh Φ c0 c) (ha : a ≠ 559 ∧ a ≠ 560) : kPh Φ (kup c0 a i v) (kup c a i v) := by
  refine ⟨fun s h0 k k0 k1 => ?_, fun x j p q => ?_⟩
  · show kup c a i v 559 _ = _
    rw [kup_n (Or.inl (by omega))]; exact h.1 s h0 k k0 k1
  · by_cases e : x = a ∧ j = i
    · rw [e.1, e.2, kup_s, kup_s]
    · rw [kup_n (by omega), kup_n (by omega)]; exact h.2 x j p q
theorem kPh.e {Φ : Int → KF} {c0 c : KMem} {s : Int} {f : KF} (h : kPh Φ c0 c) (h0 : 0 ≤ s) (e : Φ s = f) : kEq (kF c s) f := e ▸ h.1 s h0
theorem farP_bdL : kB kLB farP := farP_bd.le (by decide)
theorem plcP_bd {u v : Int} (hu : -99 ≤ u ∧ u ≤ 99) (hv : -99 ≤ v ∧ v ≤ 99) : kB kLB (plcP u v) := by
  intro k h0 h1
  have h2 := kmul_bd (M := 99) (N := 99) hu hu
  have h3 := kmul_bd (M := 99) (N := 99) hv hv
  have e2 : (99 : Int) * 99 = 9801 := by decide
  rw [e2] at h2 h3
  show -100000000 ≤ _ ∧ _ ≤ 100000000
  unfold plcP
  repeat' split
  all_goals omega
theorem kq1 {A B : Prop} (h : A) : k32 1 ∧ (((1 : Int) ≠ 0 → A) ∧ ((1 : Int) = 0 → B)) := ⟨k32i (by omega), fun _ => h, fun q => absurd q (by decide)⟩
theorem kq0 {A B : Prop} (h : B) : k32 0 ∧ (((0 : Int) ≠ 0 → A) ∧ ((0 : Int) = 0 → B)) := ⟨k32i (by omega), fun q => absurd rfl q, fun _ => h⟩
theorem kr1 {A B : Prop} (h : A) : k32 1 ∧ (((1 : Int) = 0 → B) ∧ ((1 : Int) ≠ 0 → A)) := ⟨k32i (by omega), fun q => absurd q (by decide), fun _ => h⟩
theorem kr0 {A B : Prop} (h : B) : k32 0 ∧ (((0 : Int) = 0 → B) ∧ ((0 : Int) ≠ 0 → A)) := ⟨k32i (by omega), fun _ => h, fun q => absurd rfl q⟩
theorem ko1 {A : Prop} (h : A) : ((1 : Int) = 0 ∨ (1 : Int) = 1) ∧ A := ⟨Or.inr rfl, h⟩
theorem ko0 {A : Prop} (h : A) : ((0 : Int) = 0 ∨ (0 : Int) = 1) ∧ A := ⟨Or.inl rfl, h⟩
section MS
variable {G : KG} {S0 : KSh} {d : Nat} {P : Option AV → KMem → Prop} {c c0 : KMem} {Φ : Int → KF} {f g : KF} {M : Int} {x1 x2 x3 x4 : Int}
theorem t_copies (hL : kLay S0) (hs : kPh Φ c0 c) (h : ∀ c', kPh (kU Φ x2 f) c0 c' → P none c') (e : Φ x1 = f := by repeat (first | with_reducible exact kUs | with_reducible assumption | (with_reducible apply kUn; omega) | exact rfl)) (hp : 0 ≤ x1 ∧ x1 < 100 ∧ 0 ≤ x2 ∧ x2 < 100 := by omega) : kC2 G S0 kM_X11_copies d [kA 558, kI x1, kI x2] c P :=
  s_X11_copies hL hp (fun c1 h1 h2 _ => h c1 (hs.s1 (h1.tr (hs.e hp.1 e)) h2))
theorem t_empties (hL : kLay S0) (hs : kPh Φ c0 c) (h : ∀ c', kPh (kU Φ x1 (fun _ => 0)) c0 c' → P none c') (hp : 0 ≤ x1 ∧ x1 < 100 := by omega) : kC2 G S0 kM_X11_empties d [kA 558, kI x1] c P :=
  s_X11_empties hL hp (fun c1 h1 h2 => h c1 (hs.s1 h1 h2))
theorem t_joins (hL : kLay S0) (hg : kSgn c0) (hs : kPh Φ c0 c) (h : ∀ c', kPh (kU Φ x4 (mulP x1 f g)) c0 c' → P none c') (e : Φ x2 = f := by repeat (first | with_reducible exact kUs | with_reducible assumption | (with_reducible apply kUn; omega) | exact rfl)) (e2 : Φ x3 = g := by repeat (first | with_reducible exact kUs | with_reducible assumption | (with_reducible apply kUn; omega) | exact rfl)) (hb : kB M f := by repeat' (first | with_reducible assumption | with_reducible exact farP_bdL | with_reducible apply vecP_bd | with_reducible apply nrmP_bd | with_reducible apply revP_bd | with_reducible apply whlP_bd (Or.inr rfl) | with_reducible apply whlP_bd (Or.inl rfl) | with_reducible apply mulP_bdL | with_reducible exact plcP_bd (by omega) (by omega))) (hM : M < 9223372036854775807 := by decide) (hp : 0 ≤ x2 ∧ x2 < 100 ∧ 0 ≤ x3 ∧ x3 < 100 ∧ 0 ≤ x4 ∧ x4 < 100 := by omega) (r1 : k32 x1 := by exact k32i (by omega)) : kC2 G S0 kM_X11_joins (d + 1) [kA 558, kI x1, kI x2, kI x3, kI x4] c P :=
  s_X11_joins hL r1 hp (hs.sgn hg) (kb64 (hb.eq (hs.e hp.1 e)) hM) (fun c1 h1 h2 => h c1 (hs.s1 (h1.tr (mulP_congr (hs.e hp.1 e) (hs.e hp.2.2.1 e2))) h2))
theorem t_reverses (hL : kLay S0) (hs : kPh Φ c0 c) (h : ∀ c', kPh (kU Φ x1 (revP f)) c0 c' → P none c') (e : Φ x1 = f := by repeat (first | with_reducible exact kUs | with_reducible assumption | (with_reducible apply kUn; omega) | exact rfl)) (hp : 0 ≤ x1 ∧ x1 < 100 := by omega) : kC2 G S0 kM_X11_reverses (d + 1) [kA 558, kI x1] c P :=
  s_X11_reverses hL hp (fun c1 h1 h2 => h c1 (hs.s1 (h1.tr (revP_congr (hs.e hp.1 e))) h2))
theorem t_turnsWhole (hL : kLay S0) (hg : kSgn c0) (hs : kPh Φ c0 c) (h : ∀ c', kPh (kU Φ x1 (whlP (-1) f)) c0 c' → P none c') (e : Φ x1 = f := by repeat (first | with_reducible exact kUs | with_reducible assumption | (with_reducible apply kUn; omega) | exact rfl)) (hp : 0 ≤ x1 ∧ x1 < 100 := by omega) : kC2 G S0 kM_X11_turnsWhole (d + 1) [kA 558, kI x1, kI 1] c P :=
  s_X11_turnsWhole hL ⟨hp.1, hp.2, Or.inr rfl⟩ (hs.sgn hg) (fun c1 h1 h2 => h c1 (hs.s1 (by rw [if_neg (by decide)] at h1; exact h1.tr (whlP_congr (hs.e hp.1 e))) h2))
theorem t_turnsBack (hL : kLay S0) (hg : kSgn c0) (hs : kPh Φ c0 c) (h : ∀ c', kPh (kU Φ x1 (whlP 1 f)) c0 c' → P none c') (e : Φ x1 = f := by repeat (first | with_reducible exact kUs | with_reducible assumption | (with_reducible apply kUn; omega) | exact rfl)) (hp : 0 ≤ x1 ∧ x1 < 100 := by omega) : kC2 G S0 kM_X11_turnsWhole (d + 1) [kA 558, kI x1, kI 0] c P :=
  s_X11_turnsWhole hL ⟨hp.1, hp.2, Or.inl rfl⟩ (hs.sgn hg) (fun c1 h1 h2 => h c1 (hs.s1 (by rw [if_pos rfl] at h1; exact h1.tr (whlP_congr (hs.e hp.1 e))) h2))
theorem t_normals (hL : kLay S0) (hs : kPh Φ c0 c) (h : ∀ c', kPh (kU Φ x1 (nrmP f)) c0 c' → P none c') (e : Φ x1 = f := by repeat (first | with_reducible exact kUs | with_reducible assumption | (with_reducible apply kUn; omega) | exact rfl)) (hb : kB M f := by repeat' (first | with_reducible assumption | with_reducible exact farP_bdL | with_reducible apply vecP_bd | with_reducible apply nrmP_bd | with_reducible apply revP_bd | with_reducible apply whlP_bd (Or.inr rfl) | with_reducible apply whlP_bd (Or.inl rfl) | with_reducible apply mulP_bdL | with_reducible exact plcP_bd (by omega) (by omega))) (hM : M < 9223372036854775807 := by decide) (hp : 0 ≤ x1 ∧ x1 < 100 := by omega) : kC2 G S0 kM_X11_normals (d + 2) [kA 558, kI x1] c P :=
  s_X11_normals hL hp (kb63 (hb.eq (hs.e hp.1 e)) hM) (fun c1 h1 h2 => h c1 (hs.s1 (h1.tr (nrmP_congr (hs.e hp.1 e))) h2))
theorem t_laysPlace (hL : kLay S0) (hs : kPh Φ c0 c) (h : ∀ c', kPh (kU Φ x1 (plcP x2 x4)) c0 c' → P none c') (hp : 0 ≤ x1 ∧ x1 < 100 := by omega) : kC2 G S0 kM_X11_laysPlace (d + 1) [kA 558, kI x1, kL x2, kL x4] c P :=
  s_X11_laysPlace hL hp (fun c1 h1 h2 => h c1 (hs.s1 h1 h2))
theorem t_laysVector (hL : kLay S0) (hg : kSgn c0) (hs : kPh Φ c0 c) (ho : kObj (kind f)) (h : ∀ c', kPh (kU Φ x2 (vecP f)) c0 c' → P none c') (e : Φ x1 = f := by repeat (first | with_reducible exact kUs | with_reducible assumption | (with_reducible apply kUn; omega) | exact rfl)) (hb : kB kLB f := by assumption) (hp : 0 ≤ x1 ∧ x1 < 100 ∧ 0 ≤ x2 ∧ x2 < 100 := by omega) : kC2 G S0 kM_X11_laysVector (d + 2) [kA 558, kI x1, kI x2] c P :=
  s_X11_laysVector hL hp (hs.sgn hg) (hb.eq (hs.e hp.1 e)) (by rw [kgr_congr (hs.e hp.1 e)]; exact kObj_gr ho) (fun c1 h1 h2 => h c1 (hs.s1 (h1.tr (vecP_congr (hs.e hp.1 e))) h2))
theorem t_kindOf (hL : kLay S0) (hg : kSgn c0) (hs : kPh Φ c0 c) (h : ∀ c' a b, kPh (kU (kU Φ 29 a) 31 b) c0 c' → P (some (kI (kind f))) c') (e : Φ x1 = f := by repeat (first | with_reducible exact kUs | with_reducible assumption | (with_reducible apply kUn; omega) | exact rfl)) (e3 : Φ 30 = farP := by repeat (first | with_reducible exact kUs | with_reducible assumption | (with_reducible apply kUn; omega) | exact rfl)) (hb : kB kLB f := by assumption) (hp : 0 ≤ x1 ∧ x1 < 100 ∧ x1 ≠ 31 ∧ x1 ≠ 29 := by omega) : kC2 G S0 kM_X11_kindOf (d + 4) [kA 558, kI x1] c P :=
  s_X11_kindOf hL hp (hs.i0 hg e3) (hb.eq (hs.e hp.1 e)) (fun c1 hr => by rw [kind_congr (hs.e hp.1 e)]; exact h c1 _ _ (hs.s2 hr))
theorem t_isMotion (hL : kLay S0) (hg : kSgn c0) (hs : kPh Φ c0 c) (h1 : ∀ c' a b, kPh (kU (kU Φ 29 a) 31 b) c0 c' → kMot f = true → P (some (kI 1)) c') (h0 : ∀ c' a b, kPh (kU (kU Φ 29 a) 31 b) c0 c' → ¬ kMot f = true → P (some (kI 0)) c') (e : Φ x1 = f := by repeat (first | with_reducible exact kUs | with_reducible assumption | (with_reducible apply kUn; omega) | exact rfl)) (e3 : Φ 30 = farP := by repeat (first | with_reducible exact kUs | with_reducible assumption | (with_reducible apply kUn; omega) | exact rfl)) (hb : kB kLB f := by assumption) (hp : 0 ≤ x1 ∧ x1 < 100 ∧ x1 ≠ 31 ∧ x1 ≠ 29 := by omega) : kC2 G S0 kM_X11_isMotion (d + 5) [kA 558, kI x1] c P :=
  s_X11_isMotion hL hp (hs.i0 hg e3) (hb.eq (hs.e hp.1 e)) (fun c1 hr q => h1 c1 _ _ (hs.s2 hr) (by rw [kMot_congr (hs.e hp.1 e)] at q; exact q)) (fun c1 hr q => h0 c1 _ _ (hs.s2 hr) (by rw [kMot_congr (hs.e hp.1 e)] at q; exact q))
theorem t_isObject (hL : kLay S0) (hg : kSgn c0) (hs : kPh Φ c0 c) (h1 : ∀ c' a b, kPh (kU (kU Φ 29 a) 31 b) c0 c' → kObj (kind f) → P (some (kI 1)) c') (h0 : ∀ c' a b, kPh (kU (kU Φ 29 a) 31 b) c0 c' → ¬ kObj (kind f) → P (some (kI 0)) c') (e : Φ x1 = f := by repeat (first | with_reducible exact kUs | with_reducible assumption | (with_reducible apply kUn; omega) | exact rfl)) (e3 : Φ 30 = farP := by repeat (first | with_reducible exact kUs | with_reducible assumption | (with_reducible apply kUn; omega) | exact rfl)) (hb : kB kLB f := by assumption) (hp : 0 ≤ x1 ∧ x1 < 100 ∧ x1 ≠ 31 ∧ x1 ≠ 29 := by omega) : kC2 G S0 kM_X11_isObject (d + 5) [kA 558, kI x1] c P :=
  have hk := kind_rg f
  v_X11_isObject hL (by omega) (t_kindOf hL hg hs (fun c1 a b hs => ⟨_, rfl, k32i (by omega), h1 c1 a b hs, h0 c1 a b hs⟩) e e3 hb hp)
theorem t_isMirror (hL : kLay S0) (hg : kSgn c0) (hs : kPh Φ c0 c) (h1 : ∀ c' a b, kPh (kU (kU Φ 29 a) 31 b) c0 c' → kMir (kind f) → P (some (kI 1)) c') (h0 : ∀ c' a b, kPh (kU (kU Φ 29 a) 31 b) c0 c' → ¬ kMir (kind f) → P (some (kI 0)) c') (e : Φ x1 = f := by repeat (first | with_reducible exact kUs | with_reducible assumption | (with_reducible apply kUn; omega) | exact rfl)) (e3 : Φ 30 = farP := by repeat (first | with_reducible exact kUs | with_reducible assumption | (with_reducible apply kUn; omega) | exact rfl)) (hb : kB kLB f := by assumption) (hp : 0 ≤ x1 ∧ x1 < 100 ∧ x1 ≠ 31 ∧ x1 ≠ 29 := by omega) : kC2 G S0 kM_X11_isMirror (d + 5) [kA 558, kI x1] c P :=
  have hk := kind_rg f
  v_X11_isMirror hL (by omega) (t_kindOf hL hg hs (fun c1 a b hs => ⟨_, rfl, k32i (by omega), h1 c1 a b hs, h0 c1 a b hs⟩) e e3 hb hp)
theorem t_isNothing (hL : kLay S0) (hs : kPh Φ c0 c) (h1 : kZb f = true → P (some (kI 1)) c) (h0 : ¬ kZb f = true → P (some (kI 0)) c) (e : Φ x1 = f := by repeat (first | with_reducible exact kUs | with_reducible assumption | (with_reducible apply kUn; omega) | exact rfl)) (hb : kB M f := by repeat' (first | with_reducible assumption | with_reducible exact farP_bdL | with_reducible apply vecP_bd | with_reducible apply nrmP_bd | with_reducible apply revP_bd | with_reducible apply whlP_bd (Or.inr rfl) | with_reducible apply whlP_bd (Or.inl rfl) | with_reducible apply mulP_bdL | with_reducible exact plcP_bd (by omega) (by omega))) (hM : M < 9223372036854775807 := by decide) (hp : 0 ≤ x1 ∧ x1 < 100 := by omega) : kC2 G S0 kM_X11_isNothing (d + 1) [kA 558, kI x1] c P :=
  s_X11_isNothing hL hp (kb64 (hb.eq (hs.e hp.1 e)) hM) (fun q => h1 (kZb_iff.mpr ((hs.e hp.1 e).sy.tr q))) (fun q => h0 (fun z => q ((hs.e hp.1 e).tr (kZb_iff.mp z))))
theorem t_isWithin (hL : kLay S0) (hs : kPh Φ c0 c) (h1 : kWb f = true → P (some (kI 1)) c) (h0 : ¬ kWb f = true → P (some (kI 0)) c) (e : Φ x1 = f := by repeat (first | with_reducible exact kUs | with_reducible assumption | (with_reducible apply kUn; omega) | exact rfl)) (hb : kB M f := by repeat' (first | with_reducible assumption | with_reducible exact farP_bdL | with_reducible apply vecP_bd | with_reducible apply nrmP_bd | with_reducible apply revP_bd | with_reducible apply whlP_bd (Or.inr rfl) | with_reducible apply whlP_bd (Or.inl rfl) | with_reducible apply mulP_bdL | with_reducible exact plcP_bd (by omega) (by omega))) (hM : M < 9223372036854775807 := by decide) (hp : 0 ≤ x1 ∧ x1 < 100 := by omega) : kC2 G S0 kM_X11_isWithin (d + 1) [kA 558, kI x1] c P :=
  s_X11_isWithin hL hp (kb63 (hb.eq (hs.e hp.1 e)) hM) (fun q => h1 (kWb_iff.mpr (q.eq (hs.e hp.1 e).sy))) (fun q => h0 (fun z => q ((kWb_iff.mp z).eq (hs.e hp.1 e))))
theorem t_areSame (hL : kLay S0) (hs : kPh Φ c0 c) (h1 : kEq f g → P (some (kI 1)) c) (h0 : ¬ kEq f g → P (some (kI 0)) c) (e : Φ x1 = f := by repeat (first | with_reducible exact kUs | with_reducible assumption | (with_reducible apply kUn; omega) | exact rfl)) (e2 : Φ x2 = g := by repeat (first | with_reducible exact kUs | with_reducible assumption | (with_reducible apply kUn; omega) | exact rfl)) (hb : kB M f := by repeat' (first | with_reducible assumption | with_reducible exact farP_bdL | with_reducible apply vecP_bd | with_reducible apply nrmP_bd | with_reducible apply revP_bd | with_reducible apply whlP_bd (Or.inr rfl) | with_reducible apply whlP_bd (Or.inl rfl) | with_reducible apply mulP_bdL | with_reducible exact plcP_bd (by omega) (by omega))) (hM : M < 9223372036854775807 := by decide) {N : Int} (hb2 : kB N g := by repeat' (first | with_reducible assumption | with_reducible exact farP_bdL | with_reducible apply vecP_bd | with_reducible apply nrmP_bd | with_reducible apply revP_bd | with_reducible apply whlP_bd (Or.inr rfl) | with_reducible apply whlP_bd (Or.inl rfl) | with_reducible apply mulP_bdL | with_reducible exact plcP_bd (by omega) (by omega))) (hN : N < 9223372036854775807 := by decide) (hp : 0 ≤ x1 ∧ x1 < 100 ∧ 0 ≤ x2 ∧ x2 < 100 := by omega) : kC2 G S0 kM_X11_areSame (d + 1) [kA 558, kI x1, kI x2] c P :=
  s_X11_areSame hL hp (kb64 (hb.eq (hs.e hp.1 e)) hM) (kb64 (hb2.eq (hs.e hp.2.2.1 e2)) hN) (fun q => h1 ((hs.e hp.1 e).sy.tr (q.tr (hs.e hp.2.2.1 e2)))) (fun q => h0 (fun z => q ((hs.e hp.1 e).tr (z.tr (hs.e hp.2.2.1 e2).sy))))
theorem t_squareOf (hL : kLay S0) (hg : kSgn c0) (hs : kPh Φ c0 c) (h : ∀ c' b, kPh (kU Φ 31 b) c0 c' → P (some (kL (mulP 0 f f 0))) c') (e : Φ x1 = f := by repeat (first | with_reducible exact kUs | with_reducible assumption | (with_reducible apply kUn; omega) | exact rfl)) (e3 : Φ 30 = farP := by repeat (first | with_reducible exact kUs | with_reducible assumption | (with_reducible apply kUn; omega) | exact rfl)) (hb : kB M f := by repeat' (first | with_reducible assumption | with_reducible exact farP_bdL | with_reducible apply vecP_bd | with_reducible apply nrmP_bd | with_reducible apply revP_bd | with_reducible apply whlP_bd (Or.inr rfl) | with_reducible apply whlP_bd (Or.inl rfl) | with_reducible apply mulP_bdL | with_reducible exact plcP_bd (by omega) (by omega))) (hM : M < 9223372036854775807 := by decide) (hp : 0 ≤ x1 ∧ x1 < 100 := by omega) : kC2 G S0 kM_X11_squareOf (d + 2) [kA 558, kI x1] c P :=
  s_X11_squareOf hL hp (hs.i0 hg e3) hM (hb.eq (hs.e hp.1 e)) (fun c1 hr => by rw [mulP_congr (hs.e hp.1 e) (hs.e hp.1 e) 0 (by decide) (by decide)]; exact h c1 _ (hs.s1 kEq.rf hr))
theorem t_innerOf (hL : kLay S0) (hg : kSgn c0) (hs : kPh Φ c0 c) (h : ∀ c' b, kPh (kU Φ 31 b) c0 c' → P (some (kL (mulP 2 f g 0))) c') (e : Φ x1 = f := by repeat (first | with_reducible exact kUs | with_reducible assumption | (with_reducible apply kUn; omega) | exact rfl)) (e2 : Φ x2 = g := by repeat (first | with_reducible exact kUs | with_reducible assumption | (with_reducible apply kUn; omega) | exact rfl)) (e3 : Φ 30 = farP := by repeat (first | with_reducible exact kUs | with_reducible assumption | (with_reducible apply kUn; omega) | exact rfl)) (hb : kB M f := by repeat' (first | with_reducible assumption | with_reducible exact farP_bdL | with_reducible apply vecP_bd | with_reducible apply nrmP_bd | with_reducible apply revP_bd | with_reducible apply whlP_bd (Or.inr rfl) | with_reducible apply whlP_bd (Or.inl rfl) | with_reducible apply mulP_bdL | with_reducible exact plcP_bd (by omega) (by omega))) (hM : M < 9223372036854775807 := by decide) (hp : 0 ≤ x1 ∧ x1 < 100 ∧ 0 ≤ x2 ∧ x2 < 100 := by omega) : kC2 G S0 kM_X11_innerOf (d + 2) [kA 558, kI x1, kI x2] c P :=
  s_X11_innerOf hL hp (hs.i0 hg e3) hM (hb.eq (hs.e hp.1 e)) (fun c1 hr => by rw [mulP_congr (hs.e hp.1 e) (hs.e hp.2.2.1 e2) 0 (by decide) (by decide)]; exact h c1 _ (hs.s1 kEq.rf hr))
theorem t_gradesOf (hL : kLay S0) (hs : kPh Φ c0 c) (h : P (some (kI (kgr f))) c) (e : Φ x1 = f := by repeat (first | with_reducible exact kUs | with_reducible assumption | (with_reducible apply kUn; omega) | exact rfl)) (hb : kB M f := by repeat' (first | with_reducible assumption | with_reducible exact farP_bdL | with_reducible apply vecP_bd | with_reducible apply nrmP_bd | with_reducible apply revP_bd | with_reducible apply whlP_bd (Or.inr rfl) | with_reducible apply whlP_bd (Or.inl rfl) | with_reducible apply mulP_bdL | with_reducible exact plcP_bd (by omega) (by omega))) (hM : M < 9223372036854775807 := by decide) (hp : 0 ≤ x1 ∧ x1 < 100 := by omega) : kC2 G S0 kM_X11_gradesOf (d + 1) [kA 558, kI x1] c P :=
  s_X11_gradesOf hL hp (kb64 (hb.eq (hs.e hp.1 e)) hM) (by rw [kgr_congr (hs.e hp.1 e)]; exact h)
/-- what the letters of the reference are at the start of a query -/
theorem RSt.op {H : Int → Bool} {F : Int → KF} (h : RSt H F c) : ∃ Φ, kPh Φ c c ∧ kSgn c ∧ kStd c ∧ (∀ l, kHas c l → H l = true) ∧ (∀ l, ¬ kHas c l → ¬ H l = true) ∧ Φ 30 = farP ∧ ∀ l, H l = true → 0 ≤ l ∧ l < 12 ∧ Φ l = F l ∧ kB kLB (F l) := by
  obtain ⟨h1, h2, h3, h4⟩ := h
  refine ⟨fun s => if H s = true then F s else if s = 30 then farP else kF c s, ⟨fun s h0 => ?_, fun _ _ _ _ => rfl⟩, h1.1, h2, fun l q => (h3 l).mpr q, fun l q z => q ((h3 l).mp z), ?_, fun l hl => ?_⟩
  · show kEq (kF c s) (if H s = true then F s else if s = 30 then farP else kF c s)
    by_cases q : H s = true
    · rw [if_pos q]; exact (h4 s q).1
    · rw [if_neg q]
      by_cases q2 : s = 30
      · rw [if_pos q2, q2]; exact h1.2
      · rw [if_neg q2]; exact kEq.rf
  · show (if H 30 = true then F 30 else if (30 : Int) = 30 then farP else kF c 30) = farP
    rw [if_neg (fun q => by have := ((h3 30).mp q).2.1; omega), if_pos rfl]
  · have := (h3 l).mp hl
    exact ⟨this.1, this.2.1, if_pos hl, (h4 l hl).2⟩
/-- the frame of the reference's work -/
def kFr (c c' : KMem) : Prop := (∀ a i : Int, a < 558 → c' a i = c a i) ∧ (∀ a i : Int, a = 561 ∨ a = 562 ∨ a = 565 ∨ a = 566 ∨ a = 568 ∨ a = 570 ∨ a = 571 → c' a i = c a i) ∧ (∀ i : Int, 0 ≤ i → i < 12 → c' 564 i = c 564 i) ∧ ∀ j : Int, j = 11 ∨ j = 12 ∨ j = 13 ∨ j = 15 ∨ j = 21 ∨ j = 22 → c' 558 j = c 558 j
theorem kFr.rf : kFr c c := ⟨fun _ _ _ => rfl, fun _ _ _ => rfl, fun _ _ _ => rfl, fun _ _ => rfl⟩
theorem kFr.up {c1 : KMem} {a j v : Int} (h : kFr c c1) (ha : (a = 558 ∧ (j = 14 ∨ (23 ≤ j ∧ j ≤ 37))) ∨ a = 563 ∨ a = 572 ∨ a = 573 ∨ a = 574 ∨ a = 575) : kFr c (kup c1 a j v) :=
  ⟨fun x i q => (kup_n (by omega)).trans (h.1 x i q), fun x i q => (kup_n (by omega)).trans (h.2.1 x i q), fun i p q => (kup_n (by omega)).trans (h.2.2.1 i p q), fun i q => (kup_n (by omega)).trans (h.2.2.2 i q)⟩
theorem kPh.rp {Φ' : Int → KF} {c1 c' : KMem} (h : kPh Φ c c) (h2 : kPh Φ' c1 c') (hf : kFr c c1) (hk : ∀ s : Int, 0 ≤ s → s < 12 ∨ s = 30 → Φ' s = Φ s) : kRP c c' :=
  ⟨fun s h0 q => (h2.e h0 (hk s h0 q)).tr (h.1 s h0).sy, fun a i q => (h2.2 a i (by omega) (by omega)).trans (hf.1 a i q), fun a i q => (h2.2 a i (by omega) (by omega)).trans (hf.2.1 a i q), fun i p q => (h2.2 564 i (by decide) (by decide)).trans (hf.2.2.1 i p q), fun j q => (h2.2 558 j (by decide) (by decide)).trans (hf.2.2.2 j q)⟩
theorem kPi {w : Int} (h : ∀ c', kRP c c' → P (some (kI w)) c') : ∀ (v : Int) (c' : KMem), kRP c c' → v = w → P (some (kI v)) c' := fun _ c' a e => e ▸ h c' a
theorem kPl {w : Int} (h : ∀ c', kRP c c' → P (some (kL w)) c') : ∀ (v : Int) (c' : KMem), kRP c c' → v = w → P (some (kL v)) c' := fun _ c' a e => e ▸ h c' a
end MS
/-- the top of the stack, written otherwise -/
theorem kw_eL {G : KG} {S0 : KSh} {M : KM} {d pc : Nat} {ls : List (Option AV)} {st : List AV} {c : KMem} {P : Option AV → KMem → Prop} {a b : Int} (e : a = b) (h : kW2 G S0 M d pc ls (kL b :: st) c P) : kW2 G S0 M d pc ls (kL a :: st) c P := e ▸ h
theorem kw_eI {G : KG} {S0 : KSh} {M : KM} {d pc : Nat} {ls : List (Option AV)} {st : List AV} {c : KMem} {P : Option AV → KMem → Prop} {a b : Int} (e : a = b) (h : kW2 G S0 M d pc ls (kI b :: st) c P) : kW2 G S0 M d pc ls (kI a :: st) c P := e ▸ h
