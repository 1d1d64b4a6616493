def rdS (T : Int → Int) (n : Int) : Nat → Int → KLt → Int → (Int × KLt) ⊕ Int
  | 0, _, _, p => .inr (-4000 - p)
  | j + 1, s, L, p =>
    if 65 ≤ chO T n p ∧ chO T n p ≤ 76 then
      if chO T n (p + 1) = 61 then (match rd (chO T n) L 400 3 (fun _ => 0) 0 (p + 2) with
        | .inr v => .inr v
        | .inl (f, q) => if n ≤ q then .inl (s + 1, (hSet L.1 (chO T n p - 65) true, kU L.2 (chO T n p - 65) f))
          else if chO T n q = 59 then rdS T n j (s + 1) (hSet L.1 (chO T n p - 65) true, kU L.2 (chO T n p - 65) f) (q + 1)
          else .inr (-1000 - q))
      else .inr (-1000 - (p + 1))
    else .inr (-1000 - p)
section SP
variable {T : Int → Int} {n : Int} {L : KLt}
theorem rdD_bad (hn : n ≤ 120) : ∀ (k : Nat) (v p w : Int), 0 ≤ p → p ≤ n → rdD (chO T n) k v p = .inr w → -2120 ≤ w ∧ w ≤ -1000
  | 0, v, p, w, h0, h1, e => by
    rw [rdD] at e
    split at e
    · cases e; omega
    · cases e
  | k + 1, v, p, w, h0, h1, e => by
    rw [rdD] at e
    split at e
    · rename_i hd
      have hin := chO_in (T := T) (n := n) (p := p) (by unfold isD at hd; omega)
      exact rdD_bad hn k _ (p + 1) w (by omega) (by omega) e
    · cases e
theorem rdN_bad (hn : n ≤ 120) {p w : Int} (h0 : 0 ≤ p) (h1 : p ≤ n) (e : rdN (chO T n) p = .inr w) : -2120 ≤ w ∧ w ≤ -1000 := by
  unfold rdN at e
  split at e
  · exact rdD_bad hn 4 0 p w h0 h1 e
  · cases e; omega
theorem rdM_bad (hn : n ≤ 120) {m p w : Int} (h0 : 0 ≤ p) (h1 : p ≤ n) (e : rdM (chO T n) m p = .inr w) : -3120 ≤ w ∧ w ≤ -1000 := by
  unfold rdM at e
  split at e
  · split at e
    · cases e
    · cases e; omega
  · rename_i hr; cases e; have := rdN_bad hn h0 h1 hr; omega
theorem rdW_bad (hn : n ≤ 120) {p w : Int} (h0 : 0 ≤ p) (h1 : p ≤ n) (e : rdW (chO T n) p = .inr w) : -3120 ≤ w ∧ w ≤ -1000 := by
  unfold rdW at e
  split at e
  · rename_i hc
    have hin := chO_in (T := T) (n := n) (p := p) (by omega)
    split at e
    · cases e
    · rename_i hr; cases e; exact rdM_bad hn (by omega) (by omega) hr
  · exact rdM_bad hn h0 h1 e
theorem rdP_bad (hn : n ≤ 120) {p w : Int} (h0 : 0 ≤ p) (h1 : p < n) (e : rdP (chO T n) p = .inr w) : -3120 ≤ w ∧ w ≤ -1000 := by
  unfold rdP at e
  split at e
  · rename_i hr; cases e; exact rdW_bad hn (by omega) (by omega) hr
  · rename_i u r hr
    have h2 := rdW_ok hr
    split at e
    · rename_i hc
      have hin := chO_in (T := T) (n := n) (p := r) (by omega)
      split at e
      · rename_i hr2; cases e; exact rdW_bad hn (by omega) (by omega) hr2
      · cases e
    · cases e; omega
theorem rdA_bad (hn : n ≤ 120) {p w : Int} (h0 : 0 ≤ p) (h1 : p ≤ n) (e : rdA (chO T n) L p = .inr w) : -9000 ≤ w ∧ w ≤ -1000 := by
  unfold rdA at e
  split at e
  · rename_i hc
    have hin := chO_in (T := T) (n := n) (p := p) (by omega)
    have := rdP_bad hn h0 hin.2 e; omega
  · split at e
    · split at e
      · rename_i hr; cases e; have := rdM_bad hn h0 h1 hr; omega
      · cases e
    · split at e
      · split at e
        · cases e
        · cases e; omega
      · split at e
        · cases e
        · split at e
          · cases e; omega
          · cases e
theorem rd_bad (hn : n ≤ 120) (hL : ∀ l, L.1 l = true → kB kLB (L.2 l)) : ∀ (k m : Nat) (a : KF) (o p w : Int), 0 ≤ p → p ≤ n → (m = 2 ∨ 4 ≤ m → kB kLB a) → 3 * (n - p) + (if m = 1 then 2 else if m = 3 then 3 else 1) ≤ (k : Int) → rd (chO T n) L k m a o p = .inr w → -9000 ≤ w ∧ w ≤ -1000
  | 0, m, a, o, p, w, h0, h1, ha, hk, e => by split at hk <;> (try split at hk) <;> omega
  | k + 1, 0, a, o, p, w, h0, h1, ha, hk, e => by
    rw [if_neg (by decide), if_neg (by decide)] at hk
    rw [rd] at e
    split at e
    · rename_i hop
      have hin := chO_in (T := T) (n := n) (p := p) (by unfold isOp at hop; omega)
      split at e
      · cases e; omega
      · split at e
        · split at e
          · rename_i hr; cases e; exact rd_bad hn hL k 3 a (o + 1) (p + 1) w (by omega) (by omega) (fun z => by omega) (by rw [if_neg (by decide), if_pos rfl]; omega) hr
          · rename_i g r hr
            have := rd_ok hL k 3 a (o + 1) (p + 1) g r (by omega) (fun z => by omega) hr
            split at e
            · cases e
            · cases e; omega
        · split at e
          · split at e
            · rename_i hd
              have hin2 := chO_in (T := T) (n := n) (p := p + 1) (by unfold isD at hd; omega)
              split at e
              · split at e
                · rename_i hr; cases e; exact rd_bad hn hL k 0 a (o + 1) (p + 2) w (by omega) (by omega) (fun z => by omega) (by rw [if_neg (by decide), if_neg (by decide)]; omega) hr
                · cases e
              · cases e; omega
            · cases e; omega
          · split at e
            · rename_i hr; cases e; exact rd_bad hn hL k 0 a (o + 1) (p + 1) w (by omega) (by omega) (fun z => by omega) (by rw [if_neg (by decide), if_neg (by decide)]; omega) hr
            · cases e
    · exact rdA_bad hn h0 h1 e
  | k + 1, 1, a, o, p, w, h0, h1, ha, hk, e => by
    rw [if_pos rfl] at hk
    rw [rd] at e
    split at e
    · rename_i hr; cases e; exact rd_bad hn hL k 0 a o p w h0 h1 (fun z => by omega) (by rw [if_neg (by decide), if_neg (by decide)]; omega) hr
    · rename_i g r hr
      have h2 := rd_ok hL k 0 a o p g r h1 (fun z => by omega) hr
      exact rd_bad hn hL k 2 g o r w (by omega) (by omega) (fun _ => h2.2.2) (by rw [if_neg (by decide), if_neg (by decide)]; omega) e
  | k + 1, 2, a, o, p, w, h0, h1, ha, hk, e => by
    rw [if_neg (by decide), if_neg (by decide)] at hk
    rw [rd] at e
    split at e
    · rename_i hs
      have hin := chO_in (T := T) (n := n) (p := p) (by unfold isSg at hs; omega)
      split at e
      · rename_i hr; cases e; exact rd_bad hn hL k 0 a o (p + 1) w (by omega) (by omega) (fun z => by omega) (by rw [if_neg (by decide), if_neg (by decide)]; omega) hr
      · rename_i g r hr
        have h2 := rd_ok hL k 0 a o (p + 1) g r (by omega) (fun z => by omega) hr
        split at e
        · rename_i hb
          exact rd_bad hn hL k 2 _ o r w (by omega) (by omega) (fun _ => cmb_bd hb) (by rw [if_neg (by decide), if_neg (by decide)]; omega) e
        · cases e; omega
    · cases e
  | k + 1, 3, a, o, p, w, h0, h1, ha, hk, e => by
    rw [if_neg (by decide), if_pos rfl] at hk
    rw [rd] at e
    split at e
    · rename_i hr; cases e; exact rd_bad hn hL k 1 a o p w h0 h1 (fun z => by omega) (by rw [if_pos rfl]; omega) hr
    · rename_i g r hr
      have h2 := rd_ok hL k 1 a o p g r h1 (fun z => by omega) hr
      exact rd_bad hn hL k 4 g o r w (by omega) (by omega) (fun _ => h2.2.2) (by rw [if_neg (by decide), if_neg (by decide)]; omega) e
  | k + 1, m + 4, a, o, p, w, h0, h1, ha, hk, e => by
    rw [if_neg (by omega), if_neg (by omega)] at hk
    rw [rd] at e
    split at e
    · rename_i hs
      have hin := chO_in (T := T) (n := n) (p := p) (by omega)
      split at e
      · rename_i hr; cases e; exact rd_bad hn hL k 1 a o (p + 1) w (by omega) (by omega) (fun z => by omega) (by rw [if_pos rfl]; omega) hr
      · rename_i g r hr
        have h2 := rd_ok hL k 1 a o (p + 1) g r (by omega) (fun z => by omega) hr
        split at e
        · rename_i hb
          exact rd_bad hn hL k 4 _ o r w (by omega) (by omega) (fun _ => kWb_bd hb) (by rw [if_neg (by decide), if_neg (by decide)]; omega) e
        · cases e; omega
    · cases e
end SP
def kBL (L : KLt) : Prop := ∀ l, L.1 l = true → kB kLB (L.2 l)
theorem kBL.put {L : KLt} {l : Int} {f : KF} (h : kBL L) (hf : kB kLB f) : kBL (hSet L.1 l true, kU L.2 l f) := by
  intro i q
  have q' : (if i = l then true else L.1 i) = true := q
  show kB kLB (if i = l then f else L.2 i)
  by_cases w : i = l
  · rw [if_pos w]; exact hf
  · rw [if_neg w]; rw [if_neg w] at q'; exact h i q'
theorem rdS_rg {T : Int → Int} {n : Int} (hn : n ≤ 120) : ∀ (j : Nat) (s : Int) (L : KLt) (p : Int), kBL L → 0 ≤ p → p ≤ n → (∀ s' L', rdS T n j s L p = .inl (s', L') → s < s' ∧ s' ≤ s + j ∧ kBL L') ∧ (∀ v, rdS T n j s L p = .inr v → -9000 ≤ v ∧ v ≤ -1000)
  | 0, s, L, p, hL, h0, h1 => ⟨fun s' L' e => (by rw [rdS] at e; cases e), fun v e => (by rw [rdS] at e; cases e; omega)⟩
  | j + 1, s, L, p, hL, h0, h1 => by
    constructor
    · intro s' L' e
      rw [rdS] at e
      split at e
      · split at e
        · rename_i hc he
          have hin := chO_in (T := T) (n := n) (p := p + 1) (by omega)
          split at e
          · cases e
          · rename_i f q hr
            have h2 := rd_ok hL _ _ _ _ _ _ _ (by omega) (fun z => by omega) hr
            split at e
            · cases e; exact ⟨by omega, by omega, hL.put h2.2.2⟩
            · split at e
              · have := (rdS_rg hn j (s + 1) _ (q + 1) (hL.put h2.2.2) (by omega) (by omega)).1 s' L' e
                exact ⟨by omega, by omega, this.2.2⟩
              · cases e
        · cases e
      · cases e
    · intro v e
      rw [rdS] at e
      split at e
      · split at e
        · rename_i hc he
          have hin := chO_in (T := T) (n := n) (p := p + 1) (by omega)
          split at e
          · rename_i hr; cases e; exact rd_bad hn hL _ _ _ _ _ _ (by omega) (by omega) (fun z => by omega) (by rw [if_neg (by decide), if_pos rfl]; omega) hr
          · rename_i f q hr
            have h2 := rd_ok hL _ _ _ _ _ _ _ (by omega) (fun z => by omega) hr
            split at e
            · cases e
            · split at e
              · exact (rdS_rg hn j (s + 1) _ (q + 1) (hL.put h2.2.2) (by omega) (by omega)).2 v e
              · cases e; omega
        · cases e; omega
      · cases e; omega
