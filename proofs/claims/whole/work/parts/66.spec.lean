/-- the byte at a place of a text; -1: its end -/
def chO (T : Int → Int) (n i : Int) : Int := if 0 ≤ i ∧ i < n then T i else -1
abbrev isD (c : Int) : Prop := 48 ≤ c ∧ c ≤ 57
abbrev isOp (c : Int) : Prop := c = 40 ∨ c = 126 ∨ c = 35 ∨ c = 33 ∨ c = 45 ∨ c = 103
abbrev isSg (c : Int) : Prop := c = 42 ∨ c = 94 ∨ c = 46 ∨ c = 38 ∨ c = 62
def chg (c g : Int) (f : KF) : KF := if c = 35 then whlP (-1) f else if c = 126 then revP f else if c = 33 then nrmP f else if c = 45 then negP f else grdP g f
def sgK (c : Int) : Int := if c = 94 then 1 else if c = 46 then 2 else 0
def cmbB (c : Int) (f g : KF) : Bool := if c = 38 then kWb (mulP 1 (whlP (-1) f) (whlP (-1) g)) else if c = 62 then mirB f g else kWb (mulP (sgK c) f g)
def cmbP (c : Int) (f g : KF) : KF := if c = 38 then metP f g else if c = 62 then mirP f g else mulP (sgK c) f g
def pmP (c : Int) (a f : KF) : KF := if c = 45 then subP a f else addP a f
/-- what is read, and where it ends; or a FAULT as it is told -/
abbrev KR (A : Type) : Type := (A × Int) ⊕ Int
def rdD (ch : Int → Int) : Nat → Int → Int → KR Int
  | 0, v, p => if isD (ch p) then .inr (-2000 - p) else .inl (v, p)
  | k + 1, v, p => if isD (ch p) then rdD ch k (10 * v + ch p - 48) (p + 1) else .inl (v, p)
def rdN (ch : Int → Int) (p : Int) : KR Int := if isD (ch p) then rdD ch 4 0 p else .inr (-1000 - p)
/-- a number that may not be above a bound -/
def rdM (ch : Int → Int) (m p : Int) : KR Int := match rdN ch p with
  | .inl (v, q) => if v ≤ m then .inl (v, q) else .inr (-3000 - p)
  | .inr v => .inr v
def rdW (ch : Int → Int) (p : Int) : KR Int := if ch p = 45 then (match rdM ch 99 (p + 1) with
  | .inl (v, q) => .inl (-v, q)
  | .inr v => .inr v) else rdM ch 99 p
def rdP (ch : Int → Int) (p : Int) : KR KF := match rdW ch (p + 1) with
  | .inr v => .inr v
  | .inl (u, q) => if ch q = 44 then (match rdW ch (q + 1) with
    | .inr v => .inr v
    | .inl (w, r) => .inl (plcP u w, r)) else .inr (-1000 - q)
def untP (c : Int) : Int := if c = 120 then 1 else if c = 121 then 2 else if c = 112 then 4 else if c = 109 then 8 else if c = 119 then 15 else 0
def uniP (k : Int) : KF := fun j => if j = k then 1 else 0
def rdA (ch : Int → Int) (L : KLt) (p : Int) : KR KF :=
  if ch p = 64 then rdP ch p
  else if isD (ch p) then (match rdM ch 9999 p with
    | .inr v => .inr v
    | .inl (v, q) => .inl (numP v, q))
  else if 65 ≤ ch p ∧ ch p ≤ 76 then (if L.1 (ch p - 65) = true then .inl (L.2 (ch p - 65), p + 1) else .inr (-7000 - p))
  else if ch p = 102 then .inl (farP, p + 1)
  else if untP (ch p) = 0 then .inr (-1000 - p) else .inl (uniP (untP (ch p)), p + 1)
/-- F 0, T 1, T behind its first F 2, E 3, E behind its first T 4 -/
def rd (ch : Int → Int) (L : KLt) : Nat → Nat → KF → Int → Int → KR KF
  | 0, _, _, _, _ => .inr 0
  | k + 1, 0, a, o, p =>
    if isOp (ch p) then
      if o = 6 then .inr (-5000 - p)
      else if ch p = 40 then (match rd ch L k 3 a (o + 1) (p + 1) with
        | .inr v => .inr v
        | .inl (f, q) => if ch q = 41 then .inl (f, q + 1) else .inr (-1000 - q))
      else if ch p = 103 then
        if isD (ch (p + 1)) then
          if ch (p + 1) - 48 ≤ 4 then (match rd ch L k 0 a (o + 1) (p + 2) with
            | .inr v => .inr v
            | .inl (f, q) => .inl (grdP (ch (p + 1) - 48) f, q))
          else .inr (-3000 - (p + 1))
        else .inr (-1000 - (p + 1))
      else (match rd ch L k 0 a (o + 1) (p + 1) with
        | .inr v => .inr v
        | .inl (f, q) => .inl (chg (ch p) 0 f, q))
    else rdA ch L p
  | k + 1, 1, a, o, p => (match rd ch L k 0 a o p with
    | .inr v => .inr v
    | .inl (f, q) => rd ch L k 2 f o q)
  | k + 1, 2, a, o, p => if isSg (ch p) then (match rd ch L k 0 a o (p + 1) with
    | .inr v => .inr v
    | .inl (f, q) => if cmbB (ch p) a f = true then rd ch L k 2 (cmbP (ch p) a f) o q else .inr (-8000 - p)) else .inl (a, p)
  | k + 1, 3, a, o, p => (match rd ch L k 1 a o p with
    | .inr v => .inr v
    | .inl (f, q) => rd ch L k 4 f o q)
  | k + 1, _ + 4, a, o, p => if ch p = 43 ∨ ch p = 45 then (match rd ch L k 1 a o (p + 1) with
    | .inr v => .inr v
    | .inl (f, q) => if kWb (pmP (ch p) a f) = true then rd ch L k 4 (pmP (ch p) a f) o q else .inr (-8000 - p)) else .inl (a, p)
theorem kWb_bd {f : KF} (h : kWb f = true) : kB kLB f := by
  intro k h0 h1
  obtain ⟨m, rfl⟩ := kint_nat h0
  unfold kWb at h
  have := List.all_eq_true.mp h m (List.mem_range.mpr (by omega))
  rw [Bool.and_eq_true, decide_eq_true_eq, decide_eq_true_eq] at this
  show -100000000 ≤ _ ∧ _ ≤ 100000000
  exact this
theorem negP_bd {f : KF} (h : kB kLB f) : kB kLB (negP f) := fun k a b => by
  have := h k a b
  show -100000000 ≤ -f k ∧ -f k ≤ 100000000
  have h1 : -100000000 ≤ f k ∧ f k ≤ 100000000 := this
  omega
theorem grdP_bd {f : KF} {g : Int} (h : kB kLB f) : kB kLB (grdP g f) := fun k a b => by
  have h1 : -100000000 ≤ f k ∧ f k ≤ 100000000 := h k a b
  show -100000000 ≤ grdP g f k ∧ grdP g f k ≤ 100000000
  unfold grdP
  split
  · exact h1
  · omega
theorem chg_bd {f : KF} {c g : Int} (h : kB kLB f) : kB kLB (chg c g f) := by
  unfold chg
  repeat' split
  · exact whlP_bd (Or.inr rfl) h
  · exact revP_bd h
  · exact nrmP_bd h
  · exact negP_bd h
  · exact grdP_bd h
theorem cmb_bd {f g : KF} {c : Int} (h : cmbB c f g = true) : kB kLB (cmbP c f g) := by
  unfold cmbB at h; unfold cmbP
  by_cases a : c = 38
  · rw [if_pos a] at h ⊢; exact whlP_bd (Or.inl rfl) (kWb_bd h)
  · rw [if_neg a] at h ⊢
    by_cases b : c = 62
    · rw [if_pos b] at h ⊢; unfold mirB at h; rw [Bool.and_eq_true] at h; exact kWb_bd h.2
    · rw [if_neg b] at h ⊢; exact kWb_bd h
theorem uniP_bd {k : Int} : kB kLB (uniP k) := fun j a b => by
  show -100000000 ≤ uniP k j ∧ uniP k j ≤ 100000000
  unfold uniP
  split <;> omega
theorem numP_bd {v : Int} (h : 0 ≤ v ∧ v ≤ 9999) : kB kLB (numP v) := fun j a b => by
  show -100000000 ≤ numP v j ∧ numP v j ≤ 100000000
  unfold numP
  split <;> omega
section SP
variable {T : Int → Int} {n : Int} {L : KLt}
theorem chO_in {p : Int} (h : chO T n p ≠ -1) : 0 ≤ p ∧ p < n := by
  unfold chO at h
  by_cases q : 0 ≤ p ∧ p < n
  · exact q
  · rw [if_neg q] at h; exact absurd rfl h
theorem rdD_ok : ∀ (k : Nat) (v p : Int), 0 ≤ v → ∀ w q, rdD (chO T n) k v p = .inl (w, q) → 0 ≤ w ∧ p ≤ q ∧ (p = q ∨ q ≤ n) ∧ w + 1 ≤ 10 ^ k * (v + 1)
  | 0, v, p, h, w, q, e => by
    unfold rdD at e
    split at e
    · cases e
    · cases e; omega
  | k + 1, v, p, h, w, q, e => by
    unfold rdD at e
    split at e
    · rename_i hd
      have hin := chO_in (T := T) (n := n) (p := p) (by unfold isD at hd; omega)
      have hv : 48 ≤ chO T n p ∧ chO T n p ≤ 57 := hd
      have := rdD_ok k _ (p + 1) (by omega) w q e
      obtain ⟨a, b, c1, d1⟩ := this
      refine ⟨a, by omega, Or.inr (by omega), ?_⟩
      have h2 : 10 * v + chO T n p - 48 + 1 ≤ 10 * (v + 1) := by omega
      calc w + 1 ≤ 10 ^ k * (10 * v + chO T n p - 48 + 1) := d1
        _ ≤ 10 ^ k * (10 * (v + 1)) := Int.mul_le_mul_of_nonneg_left h2 (Int.pow_nonneg (by decide))
        _ = 10 ^ (k + 1) * (v + 1) := by rw [Int.pow_succ, Int.mul_assoc]
    · cases e; refine ⟨h, by omega, Or.inl rfl, ?_⟩
      have : (1 : Int) ≤ 10 ^ (k + 1) := Int.pow_pos (by decide)
      calc v + 1 = 1 * (v + 1) := (Int.one_mul _).symm
        _ ≤ _ := Int.mul_le_mul_of_nonneg_right this (by omega)
theorem rdN_ok {p w q : Int} (e : rdN (chO T n) p = .inl (w, q)) : 0 ≤ w ∧ w ≤ 9999 ∧ p < q ∧ q ≤ n := by
  unfold rdN at e
  split at e
  · rename_i hd
    have hin := chO_in (T := T) (n := n) (p := p) (by unfold isD at hd; omega)
    have hv : 48 ≤ chO T n p ∧ chO T n p ≤ 57 := hd
    have h0 := rdD_ok 4 0 p (by omega) w q e
    unfold rdD at e
    rw [if_pos hd] at e
    have h1 := rdD_ok 3 _ (p + 1) (by omega) w q e
    have : (10 : Int) ^ 4 = 10000 := by decide
    rw [this] at h0
    omega
  · cases e
theorem rdM_ok {m p w q : Int} (e : rdM (chO T n) m p = .inl (w, q)) : 0 ≤ w ∧ w ≤ 9999 ∧ w ≤ m ∧ p < q ∧ q ≤ n := by
  unfold rdM at e
  split at e
  · rename_i v r hr
    split at e
    · cases e; have := rdN_ok hr; omega
    · cases e
  · cases e
theorem rdW_ok {p w q : Int} (e : rdW (chO T n) p = .inl (w, q)) : -99 ≤ w ∧ w ≤ 99 ∧ p < q ∧ q ≤ n := by
  unfold rdW at e
  split at e
  · split at e
    · rename_i hr; cases e; have := rdM_ok hr; omega
    · cases e
  · have := rdM_ok e; omega
theorem rdP_ok {p q : Int} {f : KF} (e : rdP (chO T n) p = .inl (f, q)) : p < q ∧ q ≤ n ∧ kB kLB f := by
  unfold rdP at e
  split at e
  · cases e
  · rename_i u r hr
    split at e
    · split at e
      · cases e
      · rename_i w r2 hr2
        cases e
        have h1 := rdW_ok hr
        have h2 := rdW_ok hr2
        exact ⟨by omega, by omega, plcP_bd (by omega) (by omega)⟩
    · cases e
theorem rdA_ok (hL : ∀ l, L.1 l = true → kB kLB (L.2 l)) {p q : Int} {f : KF} (e : rdA (chO T n) L p = .inl (f, q)) : p < q ∧ q ≤ n ∧ kB kLB f := by
  unfold rdA at e
  split at e
  · exact rdP_ok e
  · split at e
    · split at e
      · cases e
      · rename_i hr; cases e; have := rdM_ok hr; exact ⟨by omega, by omega, numP_bd (by omega)⟩
    · split at e
      · rename_i hc
        have hin := chO_in (T := T) (n := n) (p := p) (by omega)
        split at e
        · rename_i hl; cases e; exact ⟨by omega, by omega, hL _ hl⟩
        · cases e
      · split at e
        · rename_i hc
          have hin := chO_in (T := T) (n := n) (p := p) (by omega)
          cases e; exact ⟨by omega, by omega, farP_bdL⟩
        · split at e
          · cases e
          · rename_i hc
            have hin := chO_in (T := T) (n := n) (p := p) (fun z => hc (by rw [z]; decide))
            cases e; exact ⟨by omega, by omega, uniP_bd⟩
theorem rd_ok (hL : ∀ l, L.1 l = true → kB kLB (L.2 l)) : ∀ (k m : Nat) (a : KF) (o p : Int) (f : KF) (q : Int), p ≤ n → (m = 2 ∨ 4 ≤ m → kB kLB a) → rd (chO T n) L k m a o p = .inl (f, q) → (p < q ∨ ((m = 2 ∨ 4 ≤ m) ∧ p = q)) ∧ q ≤ n ∧ kB kLB f
  | 0, m, a, o, p, f, q, _, _, e => by rw [rd] at e; cases e
  | k + 1, 0, a, o, p, f, q, hp, ha, e => by
    rw [rd] at e
    split at e
    · rename_i hop
      have hin := chO_in (T := T) (n := n) (p := p) (by unfold isOp at hop; omega)
      split at e
      · cases e
      · split at e
        · split at e
          · cases e
          · rename_i g r hr
            have := rd_ok hL k 3 a (o + 1) (p + 1) g r (by omega) (fun z => by omega) hr
            split at e
            · rename_i h41
              have hin2 := chO_in (T := T) (n := n) (p := r) (by omega)
              cases e; exact ⟨Or.inl (by omega), by omega, this.2.2⟩
            · cases e
        · split at e
          · split at e
            · rename_i hd
              have hin2 := chO_in (T := T) (n := n) (p := p + 1) (by unfold isD at hd; omega)
              split at e
              · split at e
                · cases e
                · rename_i g r hr
                  have := rd_ok hL k 0 a (o + 1) (p + 2) g r (by omega) (fun z => by omega) hr
                  cases e; exact ⟨Or.inl (by omega), by omega, grdP_bd this.2.2⟩
              · cases e
            · cases e
          · split at e
            · cases e
            · rename_i g r hr
              have := rd_ok hL k 0 a (o + 1) (p + 1) g r (by omega) (fun z => by omega) hr
              cases e; exact ⟨Or.inl (by omega), by omega, chg_bd this.2.2⟩
    · have := rdA_ok hL e; exact ⟨Or.inl this.1, this.2⟩
  | k + 1, 1, a, o, p, f, q, hp, ha, e => by
    rw [rd] at e
    split at e
    · cases e
    · rename_i g r hr
      have h1 := rd_ok hL k 0 a o p g r hp (fun z => by omega) hr
      have h2 := rd_ok hL k 2 g o r f q (by omega) (fun _ => h1.2.2) e
      exact ⟨Or.inl (by omega), h2.2⟩
  | k + 1, 2, a, o, p, f, q, hp, ha, e => by
    rw [rd] at e
    split at e
    · rename_i hs
      have hin := chO_in (T := T) (n := n) (p := p) (by unfold isSg at hs; omega)
      split at e
      · cases e
      · rename_i g r hr
        have h1 := rd_ok hL k 0 a o (p + 1) g r (by omega) (fun z => by omega) hr
        split at e
        · rename_i hb
          have h2 := rd_ok hL k 2 _ o r f q (by omega) (fun _ => cmb_bd hb) e
          exact ⟨Or.inl (by omega), h2.2⟩
        · cases e
    · cases e; exact ⟨Or.inr ⟨Or.inl rfl, rfl⟩, hp, ha (Or.inl rfl)⟩
  | k + 1, 3, a, o, p, f, q, hp, ha, e => by
    rw [rd] at e
    split at e
    · cases e
    · rename_i g r hr
      have h1 := rd_ok hL k 1 a o p g r hp (fun z => by omega) hr
      have h2 := rd_ok hL k 4 g o r f q (by omega) (fun _ => h1.2.2) e
      exact ⟨Or.inl (by omega), h2.2⟩
  | k + 1, m + 4, a, o, p, f, q, hp, ha, e => by
    rw [rd] at e
    split at e
    · rename_i hs
      have hin := chO_in (T := T) (n := n) (p := p) (by omega)
      split at e
      · cases e
      · rename_i g r hr
        have h1 := rd_ok hL k 1 a o (p + 1) g r (by omega) (fun z => by omega) hr
        split at e
        · rename_i hb
          have h2 := rd_ok hL k 4 _ o r f q (by omega) (fun _ => kWb_bd hb) e
          exact ⟨Or.inl (by omega), h2.2⟩
        · cases e
    · cases e; exact ⟨Or.inr ⟨Or.inr (by omega), rfl⟩, hp, ha (Or.inr (by omega))⟩
end SP
