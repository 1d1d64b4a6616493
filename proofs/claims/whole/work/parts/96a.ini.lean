/-! The makers: each step with the state behind it named, and what is known of it. -/
abbrev KSf : Type := Int → Nat × Nat
/-- one cell more -/
def kNw (A : Int) (s : Nat × Nat) (dv : Int → Int) (sh : KSf) (rf c : KMem) (sh' : KSf) (rf' c' : KMem) : Prop :=
  sh' A = s ∧ (∀ j, rf' A j = -1) ∧ (∀ j, c' A j = dv j) ∧ ∀ u : Int, u ≠ A → sh' u = sh u ∧ rf' u = rf u ∧ c' u = c u
theorem kNw_of {N : Nat} {s : Nat × Nat} {dv : Int → Int} {sh : KSf} {rf c : KMem} : kNw (N : Int) s dv sh rf c (kNew ((N, sh, rf), c) s dv).1.2.1 (kNew ((N, sh, rf), c) s dv).1.2.2 (kNew ((N, sh, rf), c) s dv).2 :=
  ⟨if_pos rfl, fun _ => if_pos rfl, fun _ => if_pos rfl, fun _ h => ⟨if_neg h, funext fun _ => if_neg h, funext fun _ => if_neg h⟩⟩
/-- rows of numbers, all at once -/
def kMn (A : Int) (n k : Nat) (sh : KSf) (rf c : KMem) (sh' : KSf) (rf' c' : KMem) : Prop :=
  sh' A = (5, n) ∧ (∀ x : Int, 0 ≤ x → x < n → rf' A x = A + 1 + x ∧ sh' (A + 1 + x) = (2, k)) ∧ ∀ u : Int, u < A → sh' u = sh u ∧ rf' u = rf u ∧ c' u = c u
theorem kMn_of {N n k : Nat} {sh : KSf} {rf c : KMem} : kMn (N : Int) n k sh rf c (kRows ((N, sh, rf), c) n k).1.2.1 (kRows ((N, sh, rf), c) n k).1.2.2 (kRows ((N, sh, rf), c) n k).2 := by
  refine ⟨if_pos rfl, fun x h0 h1 => ⟨?_, ?_⟩, fun u h => ⟨?_, funext fun v => ?_, funext fun v => ?_⟩⟩
  · show (if (N : Int) = (N : Int) then (if 0 ≤ x ∧ x < n then (N : Int) + 1 + x else -1) else _) = _
    rw [if_pos rfl, if_pos ⟨h0, h1⟩]
  · show (if _ then _ else if _ then _ else _) = _
    rw [if_neg (by show ¬ (N : Int) + 1 + x = (N : Int); omega), if_pos (by show (N : Int) < (N : Int) + 1 + x ∧ (N : Int) + 1 + x ≤ (N : Int) + n; omega)]
  · show (if _ then _ else if _ then _ else _) = _
    rw [if_neg (by show ¬ u = (N : Int); omega), if_neg (by show ¬ ((N : Int) < u ∧ u ≤ (N : Int) + n); omega)]
  · show (if _ then _ else _) = _
    rw [if_neg (by show ¬ u = (N : Int); omega)]
  · show (if _ then _ else _) = _
    rw [if_neg (by show ¬ ((N : Int) ≤ u ∧ u ≤ (N : Int) + n); omega)]
/-- one place changes -/
def kXt (a k b : Int) (c c' : KMem) : Prop := (∀ u : Int, u ≠ a → c' u = c u) ∧ ∀ j, c' a j = if j = k then b else c a j
theorem kXt_of {a k b : Int} {c : KMem} : kXt a k b c (kup c a k b) := ⟨fun u h => funext fun v => kup_n (Or.inl h), fun j => by
  by_cases e : j = k
  · rw [if_pos e, e, kup_s]
  · rw [if_neg e, kup_n (Or.inr e)]⟩
section KN1
variable {G : KG} {M M2 : KM} {d bc bs pc idx : Nat} {ls : List (Option AV)} {st : List AV} {N N' : Nat} {sh : KSf} {rf c : KMem} {Q : Option AV → KSt → Prop} {a b x A z : Int}
theorem kn_newI (n : Nat) (hA : (N : Int) = A) (hN : N + 1 = N') (hz : z = (n : Int)) (hd : decode M.2.1 pc = .ok (.newarray .int, 2)) (hn : n < 65536) (k1 : ∀ sh' rf' c', kNw A (1, n) (fun _ => 0) sh rf c sh' rf' c' → kWP G M d bc bs (pc + 2) ls (kA A :: st) ((N', sh', rf'), c') Q) : kWP G M d (bc + 1) (bs + n) pc ls (kI z :: st) ((N, sh, rf), c) Q := by
  subst hA hN hz
  exact kw_newI hd warr_int hn (k1 _ _ _ kNw_of)
theorem kn_newL (n : Nat) (hA : (N : Int) = A) (hN : N + 1 = N') (hz : z = (n : Int)) (hd : decode M.2.1 pc = .ok (.newarray .long, 2)) (hn : n < 65536) (k1 : ∀ sh' rf' c', kNw A (2, n) (fun _ => 0) sh rf c sh' rf' c' → kWP G M d bc bs (pc + 2) ls (kA A :: st) ((N', sh', rf'), c') Q) : kWP G M d (bc + 1) (bs + n) pc ls (kI z :: st) ((N, sh, rf), c) Q := by
  subst hA hN hz
  exact kw_newL hd warr_long hn (k1 _ _ _ kNw_of)
theorem kn_newB (n : Nat) (hA : (N : Int) = A) (hN : N + 1 = N') (hz : z = (n : Int)) (hd : decode M.2.1 pc = .ok (.newarray .byte, 2)) (hn : n < 65536) (k1 : ∀ sh' rf' c', kNw A (3, n) (fun _ => 0) sh rf c sh' rf' c' → kWP G M d bc bs (pc + 2) ls (kA A :: st) ((N', sh', rf'), c') Q) : kWP G M d (bc + 1) (bs + n) pc ls (kI z :: st) ((N, sh, rf), c) Q := by
  subst hA hN hz
  exact kw_newB hd warr_byte hn (k1 _ _ _ kNw_of)
theorem kn_newZ (n : Nat) (hA : (N : Int) = A) (hN : N + 1 = N') (hz : z = (n : Int)) (hd : decode M.2.1 pc = .ok (.newarray .boolean, 2)) (hn : n < 65536) (k1 : ∀ sh' rf' c', kNw A (4, n) (fun _ => 0) sh rf c sh' rf' c' → kWP G M d bc bs (pc + 2) ls (kA A :: st) ((N', sh', rf'), c') Q) : kWP G M d (bc + 1) (bs + n) pc ls (kI z :: st) ((N, sh, rf), c) Q := by
  subst hA hN hz
  exact kw_newZ hd warr_boolean hn (k1 _ _ _ kNw_of)
theorem kn_anew (n : Nat) (hA : (N : Int) = A) (hN : N + 1 = N') (hz : z = (n : Int)) (hd : decode M.2.1 pc = .ok (.anewarray idx, 3)) (hw : Cond.classLink M.1 idx "BladesBench$Letters" ∈ KW) (hn : n < 65536) (k1 : ∀ sh' rf' c', kNw A (6, n) (fun _ => 0) sh rf c sh' rf' c' → kWP G M d bc bs (pc + 3) ls (kA A :: st) ((N', sh', rf'), c') Q) : kWP G M d (bc + 1) (bs + n) pc ls (kI z :: st) ((N, sh, rf), c) Q := by
  subst hA hN hz
  exact kw_anew hd hw hn (k1 _ _ _ kNw_of)
theorem kn_mnew (n k : Nat) {y : Int} (hA : (N : Int) = A) (hN : N + 1 + n = N') (hy : y = (n : Int)) (hz : z = (k : Int)) (hd : decode M.2.1 pc = .ok (.multianewarray idx 2, 4)) (hw : Cond.classLink M.1 idx ("[" ++ (FieldType.array .long).toString) ∈ KW) (hn : n < 65536) (hk : k < 65536) (k1 : ∀ sh' rf' c', kMn A n k sh rf c sh' rf' c' → kWP G M d bc bs (pc + 4) ls (kA A :: st) ((N', sh', rf'), c') Q) : kWP G M d (bc + (1 + n)) (bs + (n + n * k)) pc ls (kI z :: kI y :: st) ((N, sh, rf), c) Q := by
  subst hA hN hy hz
  exact kw_mnew hd hw warr_long hn hk (k1 _ _ _ kMn_of)
theorem kn_new {ci n : Nat} {Cn : String} {T : u_T} (hA : (N : Int) = A) (hN : N + 1 = N') (hin : ∀ w ∈ u_ws Cn T n, w ∈ KW) (tyf : Nat → FieldType) (htyf : ∀ k, k < n → parseFieldDescriptor (T k).2.2.1 = some (tyf k)) (hc : vwCl[ci]? = some (Cn, T, n)) (hd : decode M.2.1 pc = .ok (.new idx, 3)) (hw : Cond.classLink M.1 idx Cn ∈ KW) (hw2 : Cond.instantiable Cn n ∈ KW) (hw3 : Cond.initialized Cn ∈ KW) (hdv : ∀ k, k < n → kv G (kfv ci k (-1) (kdv ci k)) = defaultValue (tyf k)) (k1 : ∀ sh' rf' c', kNw A (10 + ci, n) (kdv ci) sh rf c sh' rf' c' → kWP G M d bc bs (pc + 3) ls (kA A :: st) ((N', sh', rf'), c') Q) : kWP G M d (bc + 1) (bs + n) pc ls (st) ((N, sh, rf), c) Q := by
  subst hA hN
  exact kw_new hin tyf htyf hc hd hw hw2 hw3 hdv (k1 _ _ _ kNw_of)
/-- a field that is set once -/
def kFo (Cn : String) (T : u_T) (tyf : Nat → FieldType) (N ci k : Nat) : Prop := kFd Cn T N ci k 2 ∧ (∀ k, k < N → parseFieldDescriptor (T k).2.2.1 = some (tyf k)) ∧ (∀ a, a < N → ∀ b, b < N → a ≠ b → (T a).2.1 ≠ (T b).2.1) ∧ (T k).2.2.2 = true ∧ ((∃ u, tyf k = .object u) ∨ ∃ u, tyf k = .array u)
theorem kn_putR {ci k n : Nat} {Cn : String} {T : u_T} {tyf : Nat → FieldType} {kz : Int} (hz : ((k : Nat) : Int) = kz) (f : kFo Cn T tyf n ci k) (hd : decode M.2.1 pc = .ok (.putfield idx, 3)) (hw : Cond.fieldLink M.1 idx Cn (T k).2.1 (T k).2.2.1 ∈ KW) (hs : sh a = (10 + ci, n)) (hni : M.2.2.2.2.name = "<init>") (hown : Cn = M.1) (k1 : ∀ rf', kXt a kz b rf rf' → kWP G M d bc bs (pc + 3) ls (st) ((N, sh, rf'), c) Q) : kWP G M d bc bs (pc) ls (kA b :: kA a :: st) ((N, sh, rf), c) Q := by
  subst hz
  exact kw_putR f.1.1 f.1.2.1 tyf f.2.1 f.2.2.1 f.1.2.2.1 f.1.2.2.2.1 hd f.1.2.2.2.2 hw f.2.2.2.1 hs hni hown f.2.2.2.2 (k1 _ kXt_of)
theorem kn_putI {ci k n : Nat} {Cn : String} {T : u_T} {tyf : Nat → FieldType} {kz : Int} (hz : ((k : Nat) : Int) = kz) (f : kFp Cn T tyf n ci k 0 .int) (hd : decode M.2.1 pc = .ok (.putfield idx, 3)) (hw : Cond.fieldLink M.1 idx Cn (T k).2.1 (T k).2.2.1 ∈ KW) (hs : sh a = (10 + ci, n)) (k1 : ∀ c', kXt a kz b c c' → kWP G M d bc bs (pc + 3) ls (st) ((N, sh, rf), c') Q) : kWP G M d bc bs (pc) ls (kI b :: kA a :: st) ((N, sh, rf), c) Q := by
  subst hz
  exact kw_putI f.1.1 f.1.2.1 tyf f.2.1 f.2.2.1 f.1.2.2.1 f.1.2.2.2.1 hd f.1.2.2.2.2 hw f.2.2.2.1 hs f.2.2.2.2 (k1 _ kXt_of)
theorem kn_putZ {ci k n : Nat} {Cn : String} {T : u_T} {tyf : Nat → FieldType} {kz : Int} (hz : ((k : Nat) : Int) = kz) (f : kFp Cn T tyf n ci k 0 .boolean) (hd : decode M.2.1 pc = .ok (.putfield idx, 3)) (hw : Cond.fieldLink M.1 idx Cn (T k).2.1 (T k).2.2.1 ∈ KW) (hs : sh a = (10 + ci, n)) (h01 : b = 0 ∨ b = 1) (k1 : ∀ c', kXt a kz b c c' → kWP G M d bc bs (pc + 3) ls (st) ((N, sh, rf), c') Q) : kWP G M d bc bs (pc) ls (kI b :: kA a :: st) ((N, sh, rf), c) Q := by
  subst hz
  exact kw_putZ f.1.1 f.1.2.1 tyf f.2.1 f.2.2.1 f.1.2.2.1 f.1.2.2.2.1 hd f.1.2.2.2.2 hw f.2.2.2.1 hs f.2.2.2.2 h01 (k1 _ kXt_of)
theorem kn_putL {ci k n : Nat} {Cn : String} {T : u_T} {tyf : Nat → FieldType} {kz : Int} (hz : ((k : Nat) : Int) = kz) (f : kFp Cn T tyf n ci k 1 .long) (hd : decode M.2.1 pc = .ok (.putfield idx, 3)) (hw : Cond.fieldLink M.1 idx Cn (T k).2.1 (T k).2.2.1 ∈ KW) (hs : sh a = (10 + ci, n)) (k1 : ∀ c', kXt a kz b c c' → kWP G M d bc bs (pc + 3) ls (st) ((N, sh, rf), c') Q) : kWP G M d bc bs (pc) ls (kL b :: kA a :: st) ((N, sh, rf), c) Q := by
  subst hz
  exact kw_putL f.1.1 f.1.2.1 tyf f.2.1 f.2.2.1 f.1.2.2.1 f.1.2.2.2.1 hd f.1.2.2.2.2 hw f.2.2.2.1 hs f.2.2.2.2 (k1 _ kXt_of)
theorem kn_putD {ci k n : Nat} {Cn : String} {T : u_T} {tyf : Nat → FieldType} {u : FieldType} {kz : Int} (hz : ((k : Nat) : Int) = kz) (f : kFp Cn T tyf n ci k 3 (.array u)) (hd : decode M.2.1 pc = .ok (.putfield idx, 3)) (hw : Cond.fieldLink M.1 idx Cn (T k).2.1 (T k).2.2.1 ∈ KW) (hs : sh a = (10 + ci, n)) (k1 : ∀ c', kXt a kz b c c' → kWP G M d bc bs (pc + 3) ls (st) ((N, sh, rf), c') Q) : kWP G M d bc bs (pc) ls (kA b :: kA a :: st) ((N, sh, rf), c) Q := by
  subst hz
  exact kw_putD f.1.1 f.1.2.1 tyf f.2.1 f.2.2.1 f.1.2.2.1 f.1.2.2.2.1 hd f.1.2.2.2.2 hw f.2.2.2.1 hs (Or.inr ⟨u, f.2.2.2.2⟩) (k1 _ kXt_of)
theorem kn_getR {ci k n : Nat} {Cn : String} {T : u_T} {v kz : Int} (hz : ((k : Nat) : Int) = kz) (f : kFd Cn T n ci k 2) (hd : decode M.2.1 pc = .ok (.getfield idx, 3)) (hw : Cond.fieldLink M.1 idx Cn (T k).2.1 (T k).2.2.1 ∈ KW) (hs : sh a = (10 + ci, n)) (hv : rf a kz = v) (k1 : kWP G M d bc bs (pc + 3) ls (kA v :: st) ((N, sh, rf), c) Q) : kWP G M d bc bs (pc) ls (kA a :: st) ((N, sh, rf), c) Q := by
  subst hz hv
  exact kw_getR f.1 f.2.1 f.2.2.1 f.2.2.2.1 hd f.2.2.2.2 hw hs k1
theorem kn_last {n : Nat} (hd : decode M.2.1 pc = .ok (.lastore, 1)) (hs : sh a = (2, n)) (hn : n < 2147483648) (hi : 0 ≤ x ∧ x < n) (k1 : ∀ c', kXt a x b c c' → kWP G M d bc bs (pc + 1) ls (st) ((N, sh, rf), c') Q) : kWP G M d bc bs (pc) ls (kL b :: kI x :: kA a :: st) ((N, sh, rf), c) Q :=
  kw_last hd hs hn hi (k1 _ kXt_of)
theorem kn_aast6 {n : Nat} (hd : decode M.2.1 pc = .ok (.aastore, 1)) (hs : sh a = (6, n)) (hn : n < 65536) (hi : 0 ≤ x ∧ x < n) (hsb : sh b = (10, 2)) (k1 : ∀ rf', kXt a x b rf rf' → kWP G M d bc bs (pc + 1) ls (st) ((N, sh, rf'), c) Q) : kWP G M d bc bs (pc) ls (kA b :: kI x :: kA a :: st) ((N, sh, rf), c) Q :=
  kw_aast6 (ci := 0) (T := TX1) hd hs hn hi rfl hsb (k1 _ kXt_of)
end KN1
/-- what a maker at an address leaves: all below it -/
def kBl (A : Int) (sh : KSf) (rf c : KMem) (sh' : KSf) (rf' c' : KMem) : Prop := ∀ u : Int, u < A → sh' u = sh u ∧ rf' u = rf u ∧ c' u = c u
/-- all below an address but one stays -/
def kSm (a A : Int) (sh : KSf) (rf c : KMem) (sh' : KSf) (rf' c' : KMem) : Prop := ∀ u : Int, u < A → u ≠ a → sh' u = sh u ∧ rf' u = rf u ∧ c' u = c u
section KN2
variable {sh sh1 sh2 : KSf} {rf rf1 rf2 c c1 c2 : KMem} {a A B k b : Int}
theorem kSm.r0 : kSm a A sh rf c sh rf c := fun _ _ _ => ⟨rfl, rfl, rfl⟩
theorem kSm.tr (h : kSm a A sh rf c sh1 rf1 c1) (g : kSm a B sh1 rf1 c1 sh2 rf2 c2) (q : A ≤ B) : kSm a A sh rf c sh2 rf2 c2 := fun u h1 h2 =>
  ⟨(g u (by omega) h2).1.trans (h u h1 h2).1, (g u (by omega) h2).2.1.trans (h u h1 h2).2.1, (g u (by omega) h2).2.2.trans (h u h1 h2).2.2⟩
theorem kNw.sm {s : Nat × Nat} {dv : Int → Int} (h : kNw A s dv sh rf c sh1 rf1 c1) (q : B ≤ A) : kSm a B sh rf c sh1 rf1 c1 := fun u h1 _ => h.2.2.2 u (by omega)
theorem kMn.sm {n k : Nat} (h : kMn A n k sh rf c sh1 rf1 c1) (q : B ≤ A) : kSm a B sh rf c sh1 rf1 c1 := fun u h1 _ => h.2.2 u (by omega)
theorem kBl.sm (h : kBl A sh rf c sh1 rf1 c1) (q : B ≤ A) : kSm a B sh rf c sh1 rf1 c1 := fun u h1 _ => h u (by omega)
theorem kXt.smR (h : kXt a k b rf rf1) : kSm a A sh rf c sh rf1 c := fun u _ h2 => ⟨rfl, h.1 u h2, rfl⟩
theorem kXt.smC (h : kXt a k b c c1) : kSm a A sh rf c sh rf c1 := fun u _ h2 => ⟨rfl, rfl, h.1 u h2⟩
/-- a store into a cell of its own: for the shapes and the references, and all other cells -/
theorem kXt.bl (h : kXt B k b c c1) (q : A ≤ B) : kBl A sh rf c sh rf c1 := fun u h1 => ⟨rfl, rfl, h.1 u (by omega)⟩
theorem kSm.bl (h : kSm a A sh rf c sh1 rf1 c1) (q : a ≤ A) : kBl a sh rf c sh1 rf1 c1 := fun u h1 => h u (by omega) (by omega)
theorem kBl.tr (h : kBl A sh rf c sh1 rf1 c1) (g : kBl A sh1 rf1 c1 sh2 rf2 c2) : kBl A sh rf c sh2 rf2 c2 := fun u h1 => ⟨(g u h1).1.trans (h u h1).1, (g u h1).2.1.trans (h u h1).2.1, (g u h1).2.2.trans (h u h1).2.2⟩
theorem kLet.sm {N N1 : Nat} {t : Int} (h : kLet (N, sh, rf) t) (e : ∀ u : Int, t ≤ u → u < t + 15 → sh1 u = sh u ∧ rf1 u = rf u) : kLet (N1, sh1, rf1) t := by
  obtain ⟨h1, h2, h3, h4, h5, h6⟩ := h
  refine ⟨(e t (by omega) (by omega)).1.trans h1, (congrFun (e t (by omega) (by omega)).2 0).trans h2, (e _ (by omega) (by omega)).1.trans h3, (congrFun (e t (by omega) (by omega)).2 1).trans h4, (e _ (by omega) (by omega)).1.trans h5, fun x a b => ⟨(congrFun (e _ (by omega) (by omega)).2 x).trans (h6 x a b).1, (e _ (by omega) (by omega)).1.trans (h6 x a b).2⟩⟩
/-- rows at an address -/
def kRwA (sh : KSf) (rf : KMem) (A : Int) (n : Nat) : Prop := sh A = (5, n) ∧ ∀ x : Int, 0 ≤ x → x < n → rf A x = A + 1 + x ∧ sh (A + 1 + x) = (2, 16)
theorem kMn.rw {n : Nat} (h : kMn A n 16 sh rf c sh1 rf1 c1) : kRwA sh1 rf1 A n := ⟨h.1, h.2.1⟩
theorem kRwA.sm {n : Nat} (h : kRwA sh rf A n) (e : ∀ u : Int, A ≤ u → u < A + 1 + n → sh1 u = sh u ∧ rf1 u = rf u) : kRwA sh1 rf1 A n :=
  ⟨(e A (by omega) (by omega)).1.trans h.1, fun x a b => ⟨(congrFun (e A (by omega) (by omega)).2 x).trans (h.2 x a b).1, (e _ (by omega) (by omega)).1.trans (h.2 x a b).2⟩⟩
end KN2
def kRow : List (Int × Int) → (Int → Int) → Int → Int
  | [], f, j => f j
  | (k, v) :: t, f, j => if j = k then v else kRow t f j
theorem far_2 (j : Int) : (if j = 8 then (1 : Int) else if j = 4 then 1 else 0) = farP j := by
  unfold farP
  by_cases a : j = 8
  · rw [if_pos a, if_pos (Or.inr a)]
  · rw [if_neg a]
    by_cases b : j = 4
    · rw [if_pos b, if_pos (Or.inl b)]
    · rw [if_neg b, if_neg (by omega)]
theorem kd_0 {G : KG} {ci k : Nat} (h : kfty ci k = 0) : kv G (kfv ci k (-1) (kdv ci (k : Int))) = .int 0 := by
  have e : kdv ci (k : Int) = if kfty ci k = 3 then -1 else 0 := rfl
  rw [e]; unfold kfv; rw [h]; rfl
theorem kd_1 {G : KG} {ci k : Nat} (h : kfty ci k = 1) : kv G (kfv ci k (-1) (kdv ci (k : Int))) = .long 0 := by
  have e : kdv ci (k : Int) = if kfty ci k = 3 then -1 else 0 := rfl
  rw [e]; unfold kfv; rw [h]; rfl
theorem kref_no (G : KG) : kref G (-1) = .null := by
  unfold kref; rw [if_neg (by decide), if_neg (by decide), if_neg (by decide)]
theorem kd_2 {G : KG} {ci k : Nat} (h : kfty ci k = 2) : kv G (kfv ci k (-1) (kdv ci (k : Int))) = .null := by
  unfold kfv; rw [h]; exact kref_no G
theorem kd_3 {G : KG} {ci k : Nat} (h : kfty ci k = 3) : kv G (kfv ci k (-1) (kdv ci (k : Int))) = .null := by
  have e : kdv ci (k : Int) = if kfty ci k = 3 then -1 else 0 := rfl
  rw [e]; unfold kfv; rw [h]; exact kref_no G
theorem hdv_X1 {G : KG} : ∀ k, k < 2 → kv G (kfv 0 k (-1) (kdv 0 k)) = defaultValue (tyX1 k) := fun k hk => match k, hk with
  | 0, _ => kd_2 fd_X1_0.1
  | 1, _ => kd_2 fd_X1_1.1
  | q + 2, h => absurd h (by omega)
theorem fo_X1_0 : kFo RX1 TX1 tyX1 2 0 0 := ⟨fd_X1_0, tyX1_ok, nmX1, rfl, Or.inr ⟨_, rfl⟩⟩
theorem fo_X1_1 : kFo RX1 TX1 tyX1 2 0 1 := ⟨fd_X1_1, tyX1_ok, nmX1, rfl, Or.inr ⟨_, rfl⟩⟩
theorem hdv_X2 {G : KG} : ∀ k, k < 7 → kv G (kfv 1 k (-1) (kdv 1 k)) = defaultValue (tyX2 k) := fun k hk => match k, hk with
  | 0, _ => kd_2 fd_X2_0.1
  | 1, _ => kd_2 fd_X2_1.1
  | 2, _ => kd_2 fd_X2_2.1
  | 3, _ => kd_2 fd_X2_3.1
  | 4, _ => kd_2 fd_X2_4.1
  | 5, _ => kd_2 fd_X2_5.1
  | 6, _ => kd_2 fd_X2_6.1
  | q + 7, h => absurd h (by omega)
theorem fo_X2_0 : kFo RX2 TX2 tyX2 7 1 0 := ⟨fd_X2_0, tyX2_ok, nmX2, rfl, Or.inr ⟨_, rfl⟩⟩
theorem fo_X2_1 : kFo RX2 TX2 tyX2 7 1 1 := ⟨fd_X2_1, tyX2_ok, nmX2, rfl, Or.inr ⟨_, rfl⟩⟩
theorem fo_X2_2 : kFo RX2 TX2 tyX2 7 1 2 := ⟨fd_X2_2, tyX2_ok, nmX2, rfl, Or.inr ⟨_, rfl⟩⟩
theorem fo_X2_3 : kFo RX2 TX2 tyX2 7 1 3 := ⟨fd_X2_3, tyX2_ok, nmX2, rfl, Or.inr ⟨_, rfl⟩⟩
theorem fo_X2_4 : kFo RX2 TX2 tyX2 7 1 4 := ⟨fd_X2_4, tyX2_ok, nmX2, rfl, Or.inr ⟨_, rfl⟩⟩
theorem fo_X2_5 : kFo RX2 TX2 tyX2 7 1 5 := ⟨fd_X2_5, tyX2_ok, nmX2, rfl, Or.inr ⟨_, rfl⟩⟩
theorem fo_X2_6 : kFo RX2 TX2 tyX2 7 1 6 := ⟨fd_X2_6, tyX2_ok, nmX2, rfl, Or.inr ⟨_, rfl⟩⟩
theorem hdv_X3 {G : KG} : ∀ k, k < 7 → kv G (kfv 2 k (-1) (kdv 2 k)) = defaultValue (tyX3 k) := fun k hk => match k, hk with
  | 0, _ => kd_2 fd_X3_0.1
  | 1, _ => kd_0 fd_X3_1.1
  | 2, _ => kd_2 fd_X3_2.1
  | 3, _ => kd_2 fd_X3_3.1
  | 4, _ => kd_2 fd_X3_4.1
  | 5, _ => kd_2 fd_X3_5.1
  | 6, _ => kd_2 fd_X3_6.1
  | q + 7, h => absurd h (by omega)
theorem fo_X3_0 : kFo RX3 TX3 tyX3 7 2 0 := ⟨fd_X3_0, tyX3_ok, nmX3, rfl, Or.inr ⟨_, rfl⟩⟩
theorem fo_X3_2 : kFo RX3 TX3 tyX3 7 2 2 := ⟨fd_X3_2, tyX3_ok, nmX3, rfl, Or.inl ⟨_, rfl⟩⟩
theorem fo_X3_3 : kFo RX3 TX3 tyX3 7 2 3 := ⟨fd_X3_3, tyX3_ok, nmX3, rfl, Or.inr ⟨_, rfl⟩⟩
theorem fo_X3_4 : kFo RX3 TX3 tyX3 7 2 4 := ⟨fd_X3_4, tyX3_ok, nmX3, rfl, Or.inr ⟨_, rfl⟩⟩
theorem fo_X3_5 : kFo RX3 TX3 tyX3 7 2 5 := ⟨fd_X3_5, tyX3_ok, nmX3, rfl, Or.inr ⟨_, rfl⟩⟩
theorem fo_X3_6 : kFo RX3 TX3 tyX3 7 2 6 := ⟨fd_X3_6, tyX3_ok, nmX3, rfl, Or.inr ⟨_, rfl⟩⟩
theorem hdv_X4 {G : KG} : ∀ k, k < 4 → kv G (kfv 3 k (-1) (kdv 3 k)) = defaultValue (tyX4 k) := fun k hk => match k, hk with
  | 0, _ => kd_2 fd_X4_0.1
  | 1, _ => kd_2 fd_X4_1.1
  | 2, _ => kd_2 fd_X4_2.1
  | 3, _ => kd_2 fd_X4_3.1
  | q + 4, h => absurd h (by omega)
theorem fo_X4_0 : kFo RX4 TX4 tyX4 4 3 0 := ⟨fd_X4_0, tyX4_ok, nmX4, rfl, Or.inr ⟨_, rfl⟩⟩
theorem fo_X4_1 : kFo RX4 TX4 tyX4 4 3 1 := ⟨fd_X4_1, tyX4_ok, nmX4, rfl, Or.inr ⟨_, rfl⟩⟩
theorem fo_X4_2 : kFo RX4 TX4 tyX4 4 3 2 := ⟨fd_X4_2, tyX4_ok, nmX4, rfl, Or.inr ⟨_, rfl⟩⟩
theorem fo_X4_3 : kFo RX4 TX4 tyX4 4 3 3 := ⟨fd_X4_3, tyX4_ok, nmX4, rfl, Or.inr ⟨_, rfl⟩⟩
theorem hdv_X5 {G : KG} : ∀ k, k < 3 → kv G (kfv 4 k (-1) (kdv 4 k)) = defaultValue (tyX5 k) := fun k hk => match k, hk with
  | 0, _ => kd_2 fd_X5_0.1
  | 1, _ => kd_0 fd_X5_1.1
  | 2, _ => kd_0 fd_X5_2.1
  | q + 3, h => absurd h (by omega)
theorem fo_X5_0 : kFo RX5 TX5 tyX5 3 4 0 := ⟨fd_X5_0, tyX5_ok, nmX5, rfl, Or.inr ⟨_, rfl⟩⟩
theorem hdv_X6 {G : KG} : ∀ k, k < 2 → kv G (kfv 5 k (-1) (kdv 5 k)) = defaultValue (tyX6 k) := fun k hk => match k, hk with
  | 0, _ => kd_2 fd_X6_0.1
  | 1, _ => kd_0 fd_X6_1.1
  | q + 2, h => absurd h (by omega)
theorem fo_X6_0 : kFo RX6 TX6 tyX6 2 5 0 := ⟨fd_X6_0, tyX6_ok, nmX6, rfl, Or.inr ⟨_, rfl⟩⟩
theorem hdv_X7 {G : KG} : ∀ k, k < 12 → kv G (kfv 6 k (-1) (kdv 6 k)) = defaultValue (tyX7 k) := fun k hk => match k, hk with
  | 0, _ => kd_2 fd_X7_0.1
  | 1, _ => kd_2 fd_X7_1.1
  | 2, _ => kd_2 fd_X7_2.1
  | 3, _ => kd_2 fd_X7_3.1
  | 4, _ => kd_2 fd_X7_4.1
  | 5, _ => kd_2 fd_X7_5.1
  | 6, _ => kd_2 fd_X7_6.1
  | 7, _ => kd_3 fd_X7_7.1
  | 8, _ => kd_0 fd_X7_8.1
  | 9, _ => kd_0 fd_X7_9.1
  | 10, _ => kd_0 fd_X7_10.1
  | 11, _ => kd_0 fd_X7_11.1
  | q + 12, h => absurd h (by omega)
theorem fo_X7_0 : kFo RX7 TX7 tyX7 12 6 0 := ⟨fd_X7_0, tyX7_ok, nmX7, rfl, Or.inl ⟨_, rfl⟩⟩
theorem fo_X7_1 : kFo RX7 TX7 tyX7 12 6 1 := ⟨fd_X7_1, tyX7_ok, nmX7, rfl, Or.inr ⟨_, rfl⟩⟩
theorem fo_X7_2 : kFo RX7 TX7 tyX7 12 6 2 := ⟨fd_X7_2, tyX7_ok, nmX7, rfl, Or.inr ⟨_, rfl⟩⟩
theorem fo_X7_3 : kFo RX7 TX7 tyX7 12 6 3 := ⟨fd_X7_3, tyX7_ok, nmX7, rfl, Or.inr ⟨_, rfl⟩⟩
theorem fo_X7_4 : kFo RX7 TX7 tyX7 12 6 4 := ⟨fd_X7_4, tyX7_ok, nmX7, rfl, Or.inr ⟨_, rfl⟩⟩
theorem fo_X7_5 : kFo RX7 TX7 tyX7 12 6 5 := ⟨fd_X7_5, tyX7_ok, nmX7, rfl, Or.inr ⟨_, rfl⟩⟩
theorem fo_X7_6 : kFo RX7 TX7 tyX7 12 6 6 := ⟨fd_X7_6, tyX7_ok, nmX7, rfl, Or.inr ⟨_, rfl⟩⟩
theorem hdv_X9 {G : KG} : ∀ k, k < 5 → kv G (kfv 7 k (-1) (kdv 7 k)) = defaultValue (tyX9 k) := fun k hk => match k, hk with
  | 0, _ => kd_1 fd_X9_0.1
  | 1, _ => kd_1 fd_X9_1.1
  | 2, _ => kd_1 fd_X9_2.1
  | 3, _ => kd_1 fd_X9_3.1
  | 4, _ => kd_1 fd_X9_4.1
  | q + 5, h => absurd h (by omega)
theorem hdv_X10 {G : KG} : ∀ k, k < 20 → kv G (kfv 8 k (-1) (kdv 8 k)) = defaultValue (tyX10 k) := fun k hk => match k, hk with
  | 0, _ => kd_2 fd_X10_0.1
  | 1, _ => kd_0 fd_X10_1.1
  | 2, _ => kd_2 fd_X10_2.1
  | 3, _ => kd_0 fd_X10_3.1
  | 4, _ => kd_0 fd_X10_4.1
  | 5, _ => kd_2 fd_X10_5.1
  | 6, _ => kd_2 fd_X10_6.1
  | 7, _ => kd_0 fd_X10_7.1
  | 8, _ => kd_0 fd_X10_8.1
  | 9, _ => kd_2 fd_X10_9.1
  | 10, _ => kd_2 fd_X10_10.1
  | 11, _ => kd_2 fd_X10_11.1
  | 12, _ => kd_2 fd_X10_12.1
  | 13, _ => kd_2 fd_X10_13.1
  | 14, _ => kd_2 fd_X10_14.1
  | 15, _ => kd_2 fd_X10_15.1
  | 16, _ => kd_2 fd_X10_16.1
  | 17, _ => kd_2 fd_X10_17.1
  | 18, _ => kd_2 fd_X10_18.1
  | 19, _ => kd_2 fd_X10_19.1
  | q + 20, h => absurd h (by omega)
theorem fo_X10_0 : kFo RX10 TX10 tyX10 20 8 0 := ⟨fd_X10_0, tyX10_ok, nmX10, rfl, Or.inr ⟨_, rfl⟩⟩
theorem fo_X10_2 : kFo RX10 TX10 tyX10 20 8 2 := ⟨fd_X10_2, tyX10_ok, nmX10, rfl, Or.inr ⟨_, rfl⟩⟩
theorem fo_X10_5 : kFo RX10 TX10 tyX10 20 8 5 := ⟨fd_X10_5, tyX10_ok, nmX10, rfl, Or.inl ⟨_, rfl⟩⟩
theorem fo_X10_6 : kFo RX10 TX10 tyX10 20 8 6 := ⟨fd_X10_6, tyX10_ok, nmX10, rfl, Or.inl ⟨_, rfl⟩⟩
theorem fo_X10_9 : kFo RX10 TX10 tyX10 20 8 9 := ⟨fd_X10_9, tyX10_ok, nmX10, rfl, Or.inl ⟨_, rfl⟩⟩
theorem fo_X10_10 : kFo RX10 TX10 tyX10 20 8 10 := ⟨fd_X10_10, tyX10_ok, nmX10, rfl, Or.inl ⟨_, rfl⟩⟩
theorem fo_X10_11 : kFo RX10 TX10 tyX10 20 8 11 := ⟨fd_X10_11, tyX10_ok, nmX10, rfl, Or.inl ⟨_, rfl⟩⟩
theorem fo_X10_12 : kFo RX10 TX10 tyX10 20 8 12 := ⟨fd_X10_12, tyX10_ok, nmX10, rfl, Or.inl ⟨_, rfl⟩⟩
theorem fo_X10_13 : kFo RX10 TX10 tyX10 20 8 13 := ⟨fd_X10_13, tyX10_ok, nmX10, rfl, Or.inl ⟨_, rfl⟩⟩
theorem fo_X10_14 : kFo RX10 TX10 tyX10 20 8 14 := ⟨fd_X10_14, tyX10_ok, nmX10, rfl, Or.inl ⟨_, rfl⟩⟩
theorem fo_X10_15 : kFo RX10 TX10 tyX10 20 8 15 := ⟨fd_X10_15, tyX10_ok, nmX10, rfl, Or.inl ⟨_, rfl⟩⟩
theorem fo_X10_16 : kFo RX10 TX10 tyX10 20 8 16 := ⟨fd_X10_16, tyX10_ok, nmX10, rfl, Or.inl ⟨_, rfl⟩⟩
theorem fo_X10_17 : kFo RX10 TX10 tyX10 20 8 17 := ⟨fd_X10_17, tyX10_ok, nmX10, rfl, Or.inr ⟨_, rfl⟩⟩
theorem fo_X10_18 : kFo RX10 TX10 tyX10 20 8 18 := ⟨fd_X10_18, tyX10_ok, nmX10, rfl, Or.inr ⟨_, rfl⟩⟩
theorem fo_X10_19 : kFo RX10 TX10 tyX10 20 8 19 := ⟨fd_X10_19, tyX10_ok, nmX10, rfl, Or.inr ⟨_, rfl⟩⟩
theorem hdv_X11 {G : KG} : ∀ k, k < 38 → kv G (kfv 9 k (-1) (kdv 9 k)) = defaultValue (tyX11 k) := fun k hk => match k, hk with
  | 0, _ => kd_2 fd_X11_0.1
  | 1, _ => kd_2 fd_X11_1.1
  | 2, _ => kd_2 fd_X11_2.1
  | 3, _ => kd_2 fd_X11_3.1
  | 4, _ => kd_2 fd_X11_4.1
  | 5, _ => kd_2 fd_X11_5.1
  | 6, _ => kd_2 fd_X11_6.1
  | 7, _ => kd_2 fd_X11_7.1
  | 8, _ => kd_2 fd_X11_8.1
  | 9, _ => kd_2 fd_X11_9.1
  | 10, _ => kd_2 fd_X11_10.1
  | 11, _ => kd_0 fd_X11_11.1
  | 12, _ => kd_0 fd_X11_12.1
  | 13, _ => kd_0 fd_X11_13.1
  | 14, _ => kd_0 fd_X11_14.1
  | 15, _ => kd_0 fd_X11_15.1
  | 16, _ => kd_2 fd_X11_16.1
  | 17, _ => kd_2 fd_X11_17.1
  | 18, _ => kd_2 fd_X11_18.1
  | 19, _ => kd_2 fd_X11_19.1
  | 20, _ => kd_2 fd_X11_20.1
  | 21, _ => kd_0 fd_X11_21.1
  | 22, _ => kd_0 fd_X11_22.1
  | 23, _ => kd_0 fd_X11_23.1
  | 24, _ => kd_0 fd_X11_24.1
  | 25, _ => kd_0 fd_X11_25.1
  | 26, _ => kd_0 fd_X11_26.1
  | 27, _ => kd_0 fd_X11_27.1
  | 28, _ => kd_0 fd_X11_28.1
  | 29, _ => kd_0 fd_X11_29.1
  | 30, _ => kd_0 fd_X11_30.1
  | 31, _ => kd_1 fd_X11_31.1
  | 32, _ => kd_1 fd_X11_32.1
  | 33, _ => kd_1 fd_X11_33.1
  | 34, _ => kd_1 fd_X11_34.1
  | 35, _ => kd_1 fd_X11_35.1
  | 36, _ => kd_2 fd_X11_36.1
  | 37, _ => kd_0 fd_X11_37.1
  | q + 38, h => absurd h (by omega)
theorem fo_X11_0 : kFo RX11 TX11 tyX11 38 9 0 := ⟨fd_X11_0, tyX11_ok, nmX11, rfl, Or.inr ⟨_, rfl⟩⟩
theorem fo_X11_1 : kFo RX11 TX11 tyX11 38 9 1 := ⟨fd_X11_1, tyX11_ok, nmX11, rfl, Or.inr ⟨_, rfl⟩⟩
theorem fo_X11_2 : kFo RX11 TX11 tyX11 38 9 2 := ⟨fd_X11_2, tyX11_ok, nmX11, rfl, Or.inr ⟨_, rfl⟩⟩
theorem fo_X11_3 : kFo RX11 TX11 tyX11 38 9 3 := ⟨fd_X11_3, tyX11_ok, nmX11, rfl, Or.inr ⟨_, rfl⟩⟩
theorem fo_X11_4 : kFo RX11 TX11 tyX11 38 9 4 := ⟨fd_X11_4, tyX11_ok, nmX11, rfl, Or.inr ⟨_, rfl⟩⟩
theorem fo_X11_5 : kFo RX11 TX11 tyX11 38 9 5 := ⟨fd_X11_5, tyX11_ok, nmX11, rfl, Or.inr ⟨_, rfl⟩⟩
theorem fo_X11_6 : kFo RX11 TX11 tyX11 38 9 6 := ⟨fd_X11_6, tyX11_ok, nmX11, rfl, Or.inr ⟨_, rfl⟩⟩
theorem fo_X11_7 : kFo RX11 TX11 tyX11 38 9 7 := ⟨fd_X11_7, tyX11_ok, nmX11, rfl, Or.inr ⟨_, rfl⟩⟩
theorem fo_X11_8 : kFo RX11 TX11 tyX11 38 9 8 := ⟨fd_X11_8, tyX11_ok, nmX11, rfl, Or.inr ⟨_, rfl⟩⟩
theorem fo_X11_9 : kFo RX11 TX11 tyX11 38 9 9 := ⟨fd_X11_9, tyX11_ok, nmX11, rfl, Or.inr ⟨_, rfl⟩⟩
theorem fo_X11_10 : kFo RX11 TX11 tyX11 38 9 10 := ⟨fd_X11_10, tyX11_ok, nmX11, rfl, Or.inr ⟨_, rfl⟩⟩
theorem fo_X11_16 : kFo RX11 TX11 tyX11 38 9 16 := ⟨fd_X11_16, tyX11_ok, nmX11, rfl, Or.inr ⟨_, rfl⟩⟩
theorem fo_X11_17 : kFo RX11 TX11 tyX11 38 9 17 := ⟨fd_X11_17, tyX11_ok, nmX11, rfl, Or.inr ⟨_, rfl⟩⟩
theorem fo_X11_18 : kFo RX11 TX11 tyX11 38 9 18 := ⟨fd_X11_18, tyX11_ok, nmX11, rfl, Or.inr ⟨_, rfl⟩⟩
theorem fo_X11_19 : kFo RX11 TX11 tyX11 38 9 19 := ⟨fd_X11_19, tyX11_ok, nmX11, rfl, Or.inr ⟨_, rfl⟩⟩
theorem fo_X11_20 : kFo RX11 TX11 tyX11 38 9 20 := ⟨fd_X11_20, tyX11_ok, nmX11, rfl, Or.inr ⟨_, rfl⟩⟩
theorem fo_X11_36 : kFo RX11 TX11 tyX11 38 9 36 := ⟨fd_X11_36, tyX11_ok, nmX11, rfl, Or.inr ⟨_, rfl⟩⟩
section MK
variable {G : KG} {d N N' : Nat} {sh : KSf} {rf c : KMem} {Q : Option AV → KSt → Prop} {A : Int}
/-- LETTERS are made -/
theorem n_X1 (hA : (N : Int) = A + 1) (hN : N + 14 = N') (h0 : sh A = (10, 2)) (k : ∀ sh' rf' c', kLet (0, sh', rf') A → (∀ j, c' (A + 14) j = 0) → kBl A sh rf c sh' rf' c' → Q none ((N', sh', rf'), c')) : kCall G kM_X1_init (d + 1) 14 216 [kA A] ((N, sh, rf), c) Q := by
  refine kMet (by decide) rfl (Nat.le_of_ble_eq_true rfl) ?_
  show kWP G kM_X1_init (d + 1) 14 216 0 [some (kA A)] [] ((N, sh, rf), c) Q
  refine kw_aload_n dX1_init_0 rfl ?_
  refine kw_objinit dX1_init_1 wl_X1_3 w_oi w_oc h0 (by decide) (by decide) ?_
  refine kw_aload_n dX1_init_4 rfl ?_
  refine kw_bipush dX1_init_5 (by decide) ?_
  refine kw_bipush dX1_init_7 (by decide) ?_
  refine kn_mnew (bc := 1) (bs := 12) (A := A + 1) (N' := N + 13) 12 16 hA (by omega) rfl rfl dX1_init_9 wn_X1_9 (by decide) (by decide) (fun sh1 rf1 c1 n1 => ?_)
  refine kn_putR (kz := 0) rfl fo_X1_0 dX1_init_13 wf_X1_11 ((n1.2.2 A (by omega)).1.trans h0) rfl rfl (fun rf2 p2 => ?_)
  refine kw_aload_n dX1_init_16 rfl ?_
  refine kw_bipush dX1_init_17 (by decide) ?_
  refine kn_newZ (bc := 0) (bs := 0) (A := A + 14) (N' := N') 12 (by omega) (by omega) rfl dX1_init_19 (by decide) (fun sh3 rf3 c3 n3 => ?_)
  have e3 : ∀ u : Int, u < A + 14 → sh3 u = sh1 u ∧ rf3 u = rf2 u ∧ c3 u = c1 u := fun u h => n3.2.2.2 u (by omega)
  have hs3 : sh3 A = (10, 2) := (e3 A (by omega)).1.trans ((n1.2.2 A (by omega)).1.trans h0)
  refine kn_putR (kz := 1) rfl fo_X1_1 dX1_init_21 wf_X1_16 hs3 rfl rfl (fun rf4 p4 => ?_)
  have r4 : ∀ u : Int, u ≠ A → u < A + 14 → rf4 u = rf1 u := fun u h h2 => (p4.1 u h).trans ((e3 u h2).2.1.trans (p2.1 u h))
  refine kw_ret dX1_init_24 rfl (k sh3 rf4 c3 ⟨hs3, ?_, (e3 _ (by omega)).1.trans n1.1, ?_, n3.1, fun x a b => ⟨?_, ?_⟩⟩ n3.2.2.1 (fun u h => ⟨(e3 u (by omega)).1.trans (n1.2.2 u (by omega)).1, (r4 u (by omega) (by omega)).trans (n1.2.2 u (by omega)).2.1, (e3 u (by omega)).2.2.trans (n1.2.2 u (by omega)).2.2⟩))
  · show rf4 A 0 = A + 1
    rw [p4.2 0, if_neg (by decide), (e3 A (by omega)).2.1, p2.2 0, if_pos rfl]
  · show rf4 A 1 = A + 14
    rw [p4.2 1, if_pos rfl]
  · show rf4 (A + 1) x = A + 2 + x
    rw [r4 (A + 1) (by omega) (by omega), (n1.2.1 x a (by omega)).1]; omega
  · show sh3 (A + 2 + x) = (2, 16)
    rw [(e3 _ (by omega)).1, show A + 2 + x = A + 1 + 1 + x by omega]
    exact (n1.2.1 x a (by omega)).2
theorem n_X9 (h0 : sh A = (17, 5)) (k : ∀ sh' rf' c', sh' A = (17, 5) → kBl A sh rf c sh' rf' c' → Q none ((N, sh', rf'), c')) : kCall G kM_X9_init (d + 1) 0 0 [kA A] ((N, sh, rf), c) Q := by
  refine kMet (by decide) rfl (Nat.le_of_ble_eq_true rfl) ?_
  show kWP G kM_X9_init (d + 1) 0 0 0 [some (kA A)] [] ((N, sh, rf), c) Q
  refine kw_aload_n dX9_init_0 rfl ?_
  refine kw_objinit dX9_init_1 wl_X9_1 w_oi w_oc h0 (by decide) (by decide) ?_
  refine kw_aload_n dX9_init_4 rfl ?_
  refine kw_lconst0 dX9_init_5 ?_
  refine kn_putL rfl fp_X9_0 dX9_init_6 wf_X9_7 h0 (fun c1 p1 => ?_)
  refine kw_aload_n dX9_init_9 rfl ?_
  refine kw_lconst0 dX9_init_10 ?_
  refine kn_putL rfl fp_X9_1 dX9_init_11 wf_X9_13 h0 (fun c2 p2 => ?_)
  refine kw_aload_n dX9_init_14 rfl ?_
  refine kw_lconst1 dX9_init_15 ?_
  refine kn_putL rfl fp_X9_2 dX9_init_16 wf_X9_16 h0 (fun c3 p3 => ?_)
  refine kw_aload_n dX9_init_19 rfl ?_
  refine kw_lconst0 dX9_init_20 ?_
  refine kn_putL rfl fp_X9_3 dX9_init_21 wf_X9_19 h0 (fun c4 p4 => ?_)
  refine kw_aload_n dX9_init_24 rfl ?_
  refine kw_lconst1 dX9_init_25 ?_
  refine kn_putL rfl fp_X9_4 dX9_init_26 wf_X9_22 h0 (fun c5 p5 => ?_)
  exact kw_ret dX9_init_29 rfl (k sh rf c5 h0 (fun u h => ⟨rfl, rfl, (p5.1 u (by omega)).trans ((p4.1 u (by omega)).trans ((p3.1 u (by omega)).trans ((p2.1 u (by omega)).trans (p1.1 u (by omega)))))⟩))
/-- the ring of what can be taken BACK is made -/
theorem n_X5 (h0 : sh 48 = (14, 3)) (hr0 : ∀ j, rf 48 j = -1) (hc0 : ∀ j, c 48 j = kdv 4 j) (k : ∀ sh' rf' c', sh' 48 = (14, 3) → (∀ j, rf' 48 j = kRow [(0, 49)] (fun _ => -1) j) → (∀ j, c' 48 j = kRow [(2, 0), (1, 0)] (kdv 4) j) → sh' 49 = (6, 8) → (∀ x : Int, 0 ≤ x → x < 8 → rf' 49 x = 49 + 1 + 15 * x ∧ kLet (0, sh', rf') (49 + 1 + 15 * x)) → kBl 48 sh rf c sh' rf' c' → Q none ((170, sh', rf'), c')) : kCall G kM_X5_init (d + 2) 121 1752 [kA 48] ((49, sh, rf), c) Q := by
  have loop : ∀ n m : Nat, m + n = 8 → ∀ (sh1 : KSf) (rf1 c1 : KMem), sh1 48 = (14, 3) → (∀ j, rf1 48 j = kRow [(0, 49)] (fun _ => -1) j) → (∀ j, c1 48 j = kRow [(2, 0), (1, 0)] (kdv 4) j) → sh1 49 = (6, 8) → (∀ x : Int, 0 ≤ x → x < m → rf1 49 x = 49 + 1 + 15 * x ∧ kLet (0, sh1, rf1) (49 + 1 + 15 * x)) → kBl 48 sh rf c sh1 rf1 c1 → kWP G kM_X5_init (d + 2) (15 * n) (218 * n) 25 [some (kA 48), some (kI (m : Int))] [] ((50 + 15 * m, sh1, rf1), c1) Q := by
    intro n
    induction n with
    | zero =>
      intro m hm sh1 rf1 c1 a1 a2 a3 a4 a5 a6
      obtain rfl : m = 8 := by omega
      refine kw_iload_n dX5_init_25 rfl ?_
      refine kw_bipush dX5_init_26 (by decide) ?_
      refine kw_icmp_ge 50 dX5_init_28 (by decide) (k32i (by omega)) (k32i (by omega)) (fun _ => ?_) (fun h => by omega)
      exact kw_ret dX5_init_50 rfl (k sh1 rf1 c1 a1 a2 a3 a4 (fun x p q => a5 x p (by omega)) a6)
    | succ n ih =>
      intro m hm sh1 rf1 c1 a1 a2 a3 a4 a5 a6
      rw [show 15 * (n + 1) = 15 * n + 14 + 1 by omega, show 218 * (n + 1) = 218 * n + 216 + 2 by omega]
      refine kw_iload_n dX5_init_25 rfl ?_
      refine kw_bipush dX5_init_26 (by decide) ?_
      refine kw_icmp_ge 50 dX5_init_28 (by decide) (k32i (by omega)) (k32i (by omega)) (fun h => by omega) (fun _ => ?_)
      refine kw_aload_n dX5_init_31 rfl ?_
      refine kn_getR (kz := 0) (v := 49) rfl fd_X5_0 dX5_init_32 wf_X5_11 a1 ((a2 0).trans rfl) ?_
      refine kw_iload_n dX5_init_35 rfl ?_
      refine kn_new (A := 49 + 1 + 15 * (m : Int)) (N' := 50 + 15 * m + 1) (by omega) rfl kin_X1 tyX1 tyX1_ok rfl dX5_init_36 wn_X5_9 wins_X1 wi_X1 hdv_X1 (fun sh2 rf2 c2 n2 => ?_)
      refine kw_dup dX5_init_39 rfl ?_
      refine kw_callIN (av := []) (bc2 := 14) (bs2 := 216) (bc := 15 * n) (bs := 218 * n) n2.1 (by decide) m_X1_init dX5_init_40 wl_X5_22 rfl (Nat.le_of_ble_eq_true rfl) (n_X1 (A := 49 + 1 + 15 * (m : Int)) (N := 50 + 15 * m + 1) (N' := 50 + 15 * (m + 1)) (by omega) (by omega) n2.1 (fun sh3 rf3 c3 f1 f2 b3 => ?_)) (by omega) (by omega)
      show kWP G kM_X5_init (d + 2) (15 * n) (218 * n) 43 [some (kA 48), some (kI (m : Int))] [kA (49 + 1 + 15 * (m : Int)), kI (m : Int), kA 49] ((50 + 15 * (m + 1), sh3, rf3), c3) Q
      have e : ∀ u : Int, u < 50 + 15 * (m : Int) → sh3 u = sh1 u ∧ rf3 u = rf1 u ∧ c3 u = c1 u := fun u hu => by
        have g1 := b3 u (by omega)
        have g2 := n2.2.2.2 u (by omega)
        exact ⟨g1.1.trans g2.1, g1.2.1.trans g2.2.1, g1.2.2.trans g2.2.2⟩
      refine kn_aast6 dX5_init_43 ((e 49 (by omega)).1.trans a4) (by decide) (by omega) f1.1 (fun rf4 p4 => ?_)
      refine kw_iinc dX5_init_44 rfl ?_
      refine kw_goto 25 dX5_init_47 (by decide) ?_
      have r4 : ∀ u : Int, u ≠ 49 → rf4 u = rf3 u := p4.1
      have lets : ∀ t : Int, 49 + 1 ≤ t → kLet (0, sh3, rf3) t → kLet (0, sh3, rf4) t := fun t ht hl => hl.sm (fun u p q => ⟨rfl, r4 u (by omega)⟩)
      refine ih (m + 1) (by omega) sh3 rf4 c3 ((e 48 (by omega)).1.trans a1) (fun j => ?_) (fun j => ?_) ((e 49 (by omega)).1.trans a4) (fun x p q => ?_) (fun u hu => ?_)
      · rw [r4 48 (by decide), (e 48 (by omega)).2.1]; exact a2 j
      · rw [(e 48 (by omega)).2.2]; exact a3 j
      · rw [p4.2 x]
        by_cases w : x = (m : Int)
        · rw [if_pos w, w]; exact ⟨rfl, lets _ (by omega) f1⟩
        · rw [if_neg w, (e 49 (by omega)).2.1]
          have := a5 x p (by omega)
          exact ⟨this.1, lets _ (by omega) (this.2.sm (fun u p q => ⟨(e u (by omega)).1, (e u (by omega)).2.1⟩))⟩
      · have g := a6 u hu
        exact ⟨(e u (by omega)).1.trans g.1, (r4 u (by omega)).trans ((e u (by omega)).2.1.trans g.2.1), (e u (by omega)).2.2.trans g.2.2⟩
  refine kMet (by decide) rfl (Nat.le_of_ble_eq_true rfl) ?_
  show kWP G kM_X5_init (d + 2) 121 1752 0 [some (kA 48), none] [] ((49, sh, rf), c) Q
  refine kw_aload_n dX5_init_0 rfl ?_
  refine kw_objinit dX5_init_1 wl_X5_1 w_oi w_oc h0 (by decide) (by decide) ?_
  refine kw_aload_n dX5_init_4 rfl ?_
  refine kw_bipush dX5_init_5 (by decide) ?_
  refine kn_anew (bc := 120) (bs := 1744) (A := 49) (N' := 50) 8 rfl rfl rfl dX5_init_7 wn_X5_9 (by decide) (fun sh1 rf1 c1 n1 => ?_)
  have hs1 : sh1 48 = (14, 3) := (n1.2.2.2 48 (by decide)).1.trans h0
  refine kn_putR (kz := 0) rfl fo_X5_0 dX5_init_10 wf_X5_11 hs1 rfl rfl (fun rf2 p2 => ?_)
  refine kw_aload_n dX5_init_13 rfl ?_
  refine kw_iconst dX5_init_14 ?_
  refine kn_putI (kz := 1) rfl fp_X5_1 dX5_init_15 wf_X5_15 hs1 (fun c3 p3 => ?_)
  refine kw_aload_n dX5_init_18 rfl ?_
  refine kw_iconst dX5_init_19 ?_
  refine kn_putI (kz := 2) rfl fp_X5_2 dX5_init_20 wf_X5_19 hs1 (fun c4 p4 => ?_)
  refine kw_iconst dX5_init_23 ?_
  refine kw_istore_n dX5_init_24 (Nat.le_of_ble_eq_true rfl) ?_
  refine loop 8 0 rfl sh1 rf2 c4 hs1 (fun j => ?_) (fun j => ?_) n1.1 (fun x p q => by omega) (fun u hu => ⟨(n1.2.2.2 u (by omega)).1, (p2.1 u (by omega)).trans (n1.2.2.2 u (by omega)).2.1, (p4.1 u (by omega)).trans ((p3.1 u (by omega)).trans (n1.2.2.2 u (by omega)).2.2)⟩)
  · rw [p2.2 j, (n1.2.2.2 48 (by decide)).2.1, hr0 j]; rfl
  · rw [p4.2 j, p3.2 j, (n1.2.2.2 48 (by decide)).2.2, hc0 j]; rfl
end MK
