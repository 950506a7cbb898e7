-- deps:
/-! ===== bits (the rows of laws/BITS.to-paste), sums, counts ===== -/
def bt (x : Int32) (i : Nat) : Bool := x.toBitVec.getLsbD i
theorem b_ext {x y : Int32} (h : ∀ i, i < 32 → bt x i = bt y i) : x = y := Int32.toBitVec_inj.mp (BitVec.eq_of_getLsbD_eq (fun i hi => h i hi))
theorem b_or (x y : Int32) (i : Nat) : bt (x ||| y) i = (bt x i || bt y i) := by unfold bt; rw [Int32.toBitVec_or, BitVec.getLsbD_or]
theorem b_and (x y : Int32) (i : Nat) : bt (x &&& y) i = (bt x i && bt y i) := by unfold bt; rw [Int32.toBitVec_and, BitVec.getLsbD_and]
theorem b_xor (x y : Int32) (i : Nat) : bt (x ^^^ y) i = (bt x i ^^ bt y i) := by unfold bt; rw [Int32.toBitVec_xor, BitVec.getLsbD_xor]
theorem b_big {x : Int32} {i : Nat} (h : 32 ≤ i) : bt x i = false := BitVec.getLsbD_of_ge _ _ h
theorem b_255 (i : Nat) : bt 255 i = decide (i < 8) := by
  rcases Nat.lt_or_ge i 32 with h | h
  · exact (by decide +kernel : ∀ i, i < 32 → bt 255 i = decide (i < 8)) i h
  · rw [b_big h, decide_eq_false (by omega)]
theorem b_65535 (i : Nat) : bt 65535 i = decide (i < 16) := by
  rcases Nat.lt_or_ge i 32 with h | h
  · exact (by decide +kernel : ∀ i, i < 32 → bt 65535 i = decide (i < 16)) i h
  · rw [b_big h, decide_eq_false (by omega)]
theorem b_m1 : ∀ i, i < 32 → bt (-1) i = true := by decide +kernel
theorem b_0 (i : Nat) : bt 0 i = false := BitVec.getLsbD_zero
theorem s_l : ∀ n, n < 32 → ((nI n &&& 31).toBitVec.smod 32).toNat = n := by decide +kernel
theorem s_u : ∀ n, n < 32 → (((nI n).toUInt32 &&& Int32.toUInt32 31).toBitVec % 32).toNat = n := by decide +kernel
theorem b_shl (n : Nat) (hn : n < 32) (x : Int32) {i : Nat} (hi : i < 32) : bt (x <<< (nI n &&& 31)) i = (decide (n ≤ i) && bt x (i - n)) := by
  unfold bt
  rw [Int32.toBitVec_shiftLeft]
  show (x.toBitVec <<< ((nI n &&& 31).toBitVec.smod 32).toNat).getLsbD i = _
  rw [s_l n hn, BitVec.getLsbD_shiftLeft]
  rcases Nat.lt_or_ge i n with h | h
  · simp [h, Nat.not_le.mpr h]
  · simp [hi, h, Nat.not_lt.mpr h]
theorem b_ushr (n : Nat) (hn : n < 32) (x : Int32) (i : Nat) : bt ((x.toUInt32 >>> ((nI n).toUInt32 &&& Int32.toUInt32 31)).toInt32) i = bt x (n + i) := by
  show (x.toUInt32 >>> ((nI n).toUInt32 &&& Int32.toUInt32 31)).toBitVec.getLsbD i = x.toUInt32.toBitVec.getLsbD (n + i)
  rw [UInt32.toBitVec_shiftRight]
  show (x.toUInt32.toBitVec >>> (((nI n).toUInt32 &&& Int32.toUInt32 31).toBitVec % 32).toNat).getLsbD i = _
  rw [s_u n hn, BitVec.getLsbD_ushiftRight]
theorem b_sshr (n : Nat) (hn : n < 32) (x : Int32) {i : Nat} (hi : i < 32) : bt (x >>> (nI n &&& 31)) i = if n + i < 32 then bt x (n + i) else bt x 31 := by
  unfold bt
  rw [Int32.toBitVec_shiftRight]
  show (x.toBitVec.sshiftRight ((nI n &&& 31).toBitVec.smod 32).toNat).getLsbD i = _
  rw [s_l n hn, BitVec.getLsbD_sshiftRight, BitVec.msb_eq_getLsbD_last]
  simp [hi]
theorem bt_1 (i : Nat) : bt 1 i = decide (i = 0) := by
  by_cases h : i < 32
  · exact (by decide +kernel : ∀ i, i < 32 → bt 1 i = decide (i = 0)) i h
  · rw [b_big (by omega)]
    exact (decide_eq_false (by omega)).symm
theorem bt_test {x : Int32} {n : Nat} (hn : n < 32) : (x >>> (nI n &&& 31)) &&& 1 = if bt x n then 1 else 0 := by
  refine b_ext (fun i hi => ?_)
  rw [b_and, b_sshr n hn x hi, bt_1]
  by_cases e : i = 0
  · subst e
    rw [if_pos (by omega)]
    cases h : bt x n <;> simp [h, b_0, bt_1]
  · simp only [e, decide_false, Bool.and_false]
    cases h : bt x n <;> simp [b_0, bt_1, e]
theorem bt_test1 {x : Int32} {n : Nat} (hn : n < 32) : (x >>> (nI n &&& 31)) &&& 1 = 1 ↔ bt x n = true := by
  rw [bt_test hn]
  cases bt x n <;> simp
theorem bt_test0 {x : Int32} {n : Nat} (hn : n < 32) : (x >>> (nI n &&& 31)) &&& 1 = 0 ↔ bt x n = false := by
  rw [bt_test hn]
  cases bt x n <;> simp
theorem bt_bit {n i : Nat} (hn : n < 32) (hi : i < 32) : bt (1 <<< (nI n &&& 31)) i = decide (i = n) := by
  rw [b_shl n hn 1 hi, bt_1]
  by_cases h : n ≤ i
  · by_cases e : i = n
    · subst e; simp
    · simp [h, e]; omega
  · have : ¬ i = n := by omega
    simp [h, this]
theorem bt_set {x : Int32} {n i : Nat} (hn : n < 32) (hi : i < 32) : bt (x ||| 1 <<< (nI n &&& 31)) i = (bt x i || decide (i = n)) := by rw [b_or, bt_bit hn hi]
theorem bt_not {x : Int32} {i : Nat} (hi : i < 32) : bt (x ^^^ -1) i = !bt x i := by rw [b_xor, b_m1 i hi]; simp
theorem bt_clr {x : Int32} {n i : Nat} (hn : n < 32) (hi : i < 32) : bt (x &&& (1 <<< (nI n &&& 31) ^^^ -1)) i = (bt x i && !decide (i = n)) := by rw [b_and, bt_not hi, bt_bit hn hi]
theorem bt_andn {x z : Int32} {i : Nat} (hi : i < 32) : bt (x &&& (z ^^^ -1)) i = (bt x i && !bt z i) := by rw [b_and, bt_not hi]
theorem bt_nI {n i : Nat} (hi : i < 32) : bt (nI n) i = n.testBit i := by
  show (BitVec.ofNat 32 n).getLsbD i = _
  rw [BitVec.getLsbD_ofNat]
  simp [hi]
theorem gcnt_ins {p p' : Nat → Prop} [DecidablePred p] [DecidablePred p'] {k : Nat} (h1 : p' k) (h0 : ¬ p k) : ∀ n, k < n → (∀ i, i < n → i ≠ k → (p' i ↔ p i)) → gcnt p' n = gcnt p n + 1 := by
  intro n
  induction n with
  | zero => intro h; omega
  | succ n ih =>
    intro hk h
    simp only [gcnt]
    by_cases e : n = k
    · subst e
      rw [if_pos h1, if_neg h0, gcnt_congr n (fun i hi => h i (by omega) (by omega))]
    · rw [ih (by omega) (fun i hi hne => h i (by omega) hne)]
      have := h n (by omega) e
      by_cases e2 : p n
      · rw [if_pos e2, if_pos (this.mpr e2)]; try omega
      · rw [if_neg e2, if_neg (mt this.mp e2)]; try omega
theorem gcnt_mono {p p' : Nat → Prop} [DecidablePred p] [DecidablePred p'] : ∀ n, (∀ i, i < n → p i → p' i) → gcnt p n ≤ gcnt p' n := by
  intro n
  induction n with
  | zero => intro _; exact Nat.le_refl _
  | succ n ih =>
    intro h
    simp only [gcnt]
    have := ih (fun i hi => h i (by omega))
    by_cases e : p n
    · rw [if_pos e, if_pos (h n (by omega) e)]; omega
    · rw [if_neg e]; omega
theorem gcnt_all {p : Nat → Prop} [DecidablePred p] : ∀ n, n ≤ gcnt p n → ∀ i, i < n → p i := by
  intro n
  induction n with
  | zero => intro _ i hi; omega
  | succ n ih =>
    intro h i hi
    simp only [gcnt] at h
    have hle := gcnt_le p n
    by_cases e : p n
    · rw [if_pos e] at h
      by_cases e2 : i = n
      · subst e2; exact e
      · exact ih (by omega) i (by omega)
    · rw [if_neg e] at h; omega
def nsum (f : Nat → Nat) : Nat → Nat
  | 0 => 0
  | n + 1 => nsum f n + f n
theorem nsum_le {f g : Nat → Nat} : ∀ n, (∀ i, i < n → f i ≤ g i) → nsum f n ≤ nsum g n := by
  intro n
  induction n with
  | zero => intro _; exact Nat.le_refl _
  | succ n ih =>
    intro h
    have := ih (fun i hi => h i (by omega))
    have := h n (by omega)
    simp only [nsum]; omega
theorem nsum_lt {f g : Nat → Nat} {k : Nat} : ∀ n, (∀ i, i < n → f i ≤ g i) → k < n → f k < g k → nsum f n < nsum g n := by
  intro n
  induction n with
  | zero => intro _ h; omega
  | succ n ih =>
    intro h hk hl
    simp only [nsum]
    have h1 := h n (by omega)
    by_cases e : k = n
    · subst e
      have := nsum_le k (fun i hi => h i (by omega))
      omega
    · have := ih (fun i hi => h i (by omega)) (by omega) hl
      omega
theorem nsum_congr {f g : Nat → Nat} : ∀ n, (∀ i, i < n → f i = g i) → nsum f n = nsum g n := by
  intro n h
  exact Nat.le_antisymm (nsum_le n (fun i hi => Nat.le_of_eq (h i hi))) (nsum_le n (fun i hi => Nat.le_of_eq (h i hi).symm))
theorem nsum_0 : ∀ n, nsum (fun _ => 0) n = 0 := by
  intro n
  induction n with
  | zero => rfl
  | succ n ih => simp only [nsum, ih]
theorem nsum_add (f g : Nat → Nat) : ∀ n, nsum (fun i => f i + g i) n = nsum f n + nsum g n := by
  intro n
  induction n with
  | zero => rfl
  | succ n ih => simp only [nsum, ih]; omega
theorem nsum_swap (F : Nat → Nat → Nat) (n : Nat) : ∀ m, nsum (fun i => nsum (F i) n) m = nsum (fun j => nsum (fun i => F i j) m) n := by
  intro m
  induction m with
  | zero => simp only [nsum]; rw [nsum_0]
  | succ m ih => simp only [nsum]; rw [ih, nsum_add]
theorem gcnt_nsum (p : Nat → Prop) [DecidablePred p] : ∀ n, gcnt p n = nsum (fun i => if p i then 1 else 0) n := by
  intro n
  induction n with
  | zero => rfl
  | succ n ih => simp only [gcnt, nsum, ih]
