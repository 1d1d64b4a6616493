/-- a set of LETTERS: which stand, for what -/
abbrev KLt : Type := (Int → Bool) × (Int → KF)
/-- in the reference: forms at (fa, fb), which stand at (sa, sb) -/
def kLq (fa fb sa sb : Int) (L : KLt) (c : KMem) : Prop := (∀ l : Int, 0 ≤ l → l < 12 → c sa (sb + l) = 0 ∨ c sa (sb + l) = 1) ∧ (∀ l : Int, L.1 l = true ↔ 0 ≤ l ∧ l < 12 ∧ c sa (sb + l) = 1) ∧ ∀ l : Int, L.1 l = true → kEq (fun k => c fa (fb + (16 * l + k))) (L.2 l) ∧ kB kLB (L.2 l)
theorem kLq.rg {fa fb sa sb l : Int} {L : KLt} {c : KMem} (h : kLq fa fb sa sb L c) (q : L.1 l = true) : 0 ≤ l ∧ l < 12 := by have := (h.2.1 l).mp q; exact ⟨this.1, this.2.1⟩
theorem kLq.cp {fa fb sa sb fa' fb' sa' sb' : Int} {L : KLt} {c c' : KMem} (h : kLq fa fb sa sb L c) (e1 : ∀ i : Int, 0 ≤ i → i < 192 → c' fa' (fb' + i) = c fa (fb + i)) (e2 : ∀ i : Int, 0 ≤ i → i < 12 → c' sa' (sb' + i) = c sa (sb + i)) : kLq fa' fb' sa' sb' L c' := by
  refine ⟨fun l a b => by rw [e2 l a b]; exact h.1 l a b, fun l => ?_, fun l q => ⟨fun k a b => ?_, (h.2.2 l q).2⟩⟩
  · rw [h.2.1 l]
    constructor
    · rintro ⟨a, b, e⟩; exact ⟨a, b, by rw [e2 l a b]; exact e⟩
    · rintro ⟨a, b, e⟩; exact ⟨a, b, by rw [e2 l a b] at e; exact e⟩
  · have hr := h.rg q
    show c' fa' (fb' + (16 * l + k)) = _
    rw [e1 _ (by omega) (by omega)]
    exact (h.2.2 l q).1 k a b
theorem RSt.lq {H : Int → Bool} {F : Int → KF} {c : KMem} (h : RSt H F c) : kLq 559 0 564 0 (H, F) c := by
  obtain ⟨h1, h2, h3, h4⟩ := h
  refine ⟨fun l a b => by rw [Int.zero_add]; exact h2 l a b, fun l => ?_, fun l q => ⟨fun k a b => ?_, (h4 l q).2⟩⟩
  · rw [Int.zero_add]; exact h3 l
  · show c 559 (0 + (16 * l + k)) = _
    rw [Int.zero_add]; exact (h4 l q).1 k a b
theorem RSt.of {H : Int → Bool} {F : Int → KF} {c : KMem} (h0 : kI0 c) (h : kLq 559 0 564 0 (H, F) c) : RSt H F c := by
  obtain ⟨h2, h3, h4⟩ := h
  refine ⟨h0, fun l a b => ?_, fun l => ?_, fun l q => ⟨fun k a b => ?_, (h4 l q).2⟩⟩
  · have := h2 l a b; rw [Int.zero_add] at this; exact this
  · have := h3 l; rw [Int.zero_add] at this; exact this
  · have : c 559 (0 + (16 * l + k)) = F l k := (h4 l q).1 k a b
    rw [Int.zero_add] at this; exact this
/-- a tape, a book: how many bytes, which -/
abbrev KTp : Type := Nat × (Int → Int)
def kTq (a : Int) (T : KTp) (c : KMem) : Prop := ∀ i : Int, 0 ≤ i → i < T.1 → kand (c a i) 255 = T.2 i ∧ 0 ≤ T.2 i ∧ T.2 i ≤ 255
/-- what the reference holds between calls: letters, tape, book, X, what is kept, what can be taken back (the newest first) -/
def RAl (L : KLt) (T B : KTp) (x : Int) (K : Bool × KLt × Int) (Q : List KLt) (c : KMem) : Prop :=
  kI0 c ∧ kLq 559 0 564 0 L c ∧ (c 558 21 = (T.1 : Int) ∧ T.1 ≤ 140 ∧ kTq 570 T c) ∧ (c 558 22 = (B.1 : Int) ∧ B.1 ≤ 120 ∧ kTq 571 B c) ∧ (c 558 12 = x ∧ 0 ≤ x ∧ x ≤ 65535) ∧
  (c 558 15 = (if K.1 = true then 1 else 0) ∧ (K.1 = true → c 558 13 = K.2.2 ∧ 0 ≤ K.2.2 ∧ K.2.2 ≤ 65535 ∧ kLq 561 0 565 0 K.2.1 c)) ∧
  (c 558 11 = (Q.length : Int) ∧ Q.length ≤ 8 ∧ ∀ (i : Nat) (L' : KLt), Q[i]? = some L' → kLq 562 (192 * ((Q.length : Int) - 1 - i)) 566 (12 * ((Q.length : Int) - 1 - i)) L' c)
section SIM
variable {L : KLt} {T B : KTp} {x : Int} {K : Bool × KLt × Int} {Q : List KLt} {c c' : KMem}
theorem RAl.rs (h : RAl L T B x K Q c) : RSt L.1 L.2 c := RSt.of h.1 h.2.1
/-- a call that leaves all that lasts -/
theorem RAl.rp (h : RAl L T B x K Q c) (r : kRP c c') : RAl L T B x K Q c' := by
  obtain ⟨h1, h2, h3, h4, h5, h6, h7⟩ := h
  obtain ⟨r1, r2, r3, r4, r5⟩ := r
  have hs : RSt L.1 L.2 c' := (RSt.of h1 h2).rp ⟨r1, r2, r3, r4, r5⟩
  have e : ∀ a i : Int, a = 561 ∨ a = 562 ∨ a = 565 ∨ a = 566 ∨ a = 568 ∨ a = 570 ∨ a = 571 → c' a i = c a i := r3
  refine ⟨hs.1, hs.lq, ⟨(r5 21 (by omega)).trans h3.1, h3.2.1, fun i a b => by rw [e 570 i (by omega)]; exact h3.2.2 i a b⟩, ⟨(r5 22 (by omega)).trans h4.1, h4.2.1, fun i a b => by rw [e 571 i (by omega)]; exact h4.2.2 i a b⟩, ⟨(r5 12 (by omega)).trans h5.1, h5.2⟩, ⟨(r5 15 (by omega)).trans h6.1, fun q => ?_⟩, ⟨(r5 11 (by omega)).trans h7.1, h7.2.1, fun i L' q => (h7.2.2 i L' q).cp (fun j _ _ => e _ _ (by omega)) (fun j _ _ => e _ _ (by omega))⟩⟩
  have := h6.2 q
  exact ⟨(r5 13 (by omega)).trans this.1, this.2.1, this.2.2.1, this.2.2.2.cp (fun j _ _ => e _ _ (by omega)) (fun j _ _ => e _ _ (by omega))⟩
end SIM
/-- a row that is copied one by one -/
theorem kcpy_0 (c : KMem) (a b x y : Int) : kcpy c a b x y 0 = c := by
  funext u v
  unfold kcpy
  rw [if_neg (by omega)]
theorem kcpy_s {c : KMem} {a b x y : Int} {k : Nat} (h : a ≠ b ∨ y ≤ x) : kup (kcpy c a b x y k) b (y + k) (kcpy c a b x y k a (x + k)) = kcpy c a b x y ((k : Int) + 1) := by
  funext u v
  have e1 : kcpy c a b x y k a (x + k) = c a (x + k) := by unfold kcpy; rw [if_neg (by omega)]
  rw [e1]
  unfold kup kcpy
  by_cases q : u = b ∧ v = y + k
  · rw [if_pos q, if_pos (by omega)]; congr 1; omega
  · rw [if_neg q]
    by_cases w : u = b ∧ y ≤ v ∧ v < y + k
    · rw [if_pos w, if_pos (by omega)]
    · rw [if_neg w, if_neg (by omega)]
theorem kcpy_in {c : KMem} {a b x y n i : Int} (h0 : 0 ≤ i) (h1 : i < n) : kcpy c a b x y n b (y + i) = c a (x + i) := by
  unfold kcpy; rw [if_pos (by omega)]; congr 1; omega
theorem kcpy_out {c : KMem} {a b x y n u v : Int} (h : u ≠ b ∨ v < y ∨ y + n ≤ v) : kcpy c a b x y n u v = c u v := by unfold kcpy; rw [if_neg (by omega)]
/-- bytes -/
theorem kand255 (v : Int) : kand v 255 = v % 256 := by
  unfold kand
  have e : (Int32.ofInt v &&& Int32.ofInt 255).toBitVec.toNat = (v % 256).toNat := by
    rw [Int32.toBitVec_and, BitVec.toNat_and]
    have h1 : (Int32.ofInt 255).toBitVec.toNat = 2 ^ 8 - 1 := by decide
    rw [h1, Nat.and_two_pow_sub_one_eq_mod]
    have h2 : (Int32.ofInt v).toBitVec = BitVec.ofInt 32 v := rfl
    rw [h2, BitVec.toNat_ofInt]
    omega
  have := ktoInt_bv _ (v % 256).toNat (by omega) e
  rw [this]; omega
theorem ki2b_mod (v : Int) : ki2b v % 256 = v % 256 := by
  unfold ki2b
  have h1 : ((Int32.ofInt v).toInt8.toInt32).toInt = v.bmod 256 := by
    rw [show (256 : Nat) = Int8.size from rfl]; simp
  rw [h1]
  simp only [Int.bmod_def]
  omega
theorem kand_b (v : Int) : kand (ki2b v) 255 = kand v 255 := by rw [kand255, kand255, ki2b_mod]
theorem kand_rg (v : Int) : 0 ≤ kand v 255 ∧ kand v 255 ≤ 255 := by rw [kand255]; omega
/-- the tape behind one int more -/
def tyP (T : KTp) (v : Int) : KTp := (T.1 + 4, fun i => if i < T.1 then T.2 i else kand (kshr v (24 - 8 * (i - T.1))) 255)
theorem tyP_rg {T : KTp} {v : Int} (h : ∀ i : Int, 0 ≤ i → i < T.1 → 0 ≤ T.2 i ∧ T.2 i ≤ 255) : ∀ i : Int, 0 ≤ i → i < (tyP T v).1 → 0 ≤ (tyP T v).2 i ∧ (tyP T v).2 i ≤ 255 := fun i a b => by
  show 0 ≤ (if i < T.1 then T.2 i else _) ∧ (if i < T.1 then T.2 i else _) ≤ 255
  split
  · exact h i a (by assumption)
  · exact kand_rg _
