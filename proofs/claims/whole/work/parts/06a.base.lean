def bt (x : Int32) (i : Nat) : Bool := x.toBitVec.getLsbD i
theorem b_ext {x y : Int32} (h : ∀ i, i < 32 → bt x i = bt y i) : x = y := Int32.toBitVec_inj.mp (BitVec.eq_of_getLsbD_eq (fun i hi => h i hi))
theorem b_or (x y : Int32) (i : Nat) : bt (x ||| y) i = (bt x i || bt y i) := by unfold bt; rw [Int32.toBitVec_or, BitVec.getLsbD_or]
theorem b_and (x y : Int32) (i : Nat) : bt (x &&& y) i = (bt x i && bt y i) := by unfold bt; rw [Int32.toBitVec_and, BitVec.getLsbD_and]
theorem b_xor (x y : Int32) (i : Nat) : bt (x ^^^ y) i = (bt x i ^^ bt y i) := by unfold bt; rw [Int32.toBitVec_xor, BitVec.getLsbD_xor]
theorem b_big {x : Int32} {i : Nat} (h : 32 ≤ i) : bt x i = false := BitVec.getLsbD_of_ge _ _ h
theorem b_255 (i : Nat) : bt 255 i = decide (i < 8) := by
  rcases Nat.lt_or_ge i 32 with h | h
  · exact (by decide +kernel : ∀ i, i < 32 → bt 255 i = decide (i < 8)) i h
  · rw [b_big h, decide_eq_false (by omega)]
theorem b_65535 (i : Nat) : bt 65535 i = decide (i < 16) := by
  rcases Nat.lt_or_ge i 32 with h | h
  · exact (by decide +kernel : ∀ i, i < 32 → bt 65535 i = decide (i < 16)) i h
  · rw [b_big h, decide_eq_false (by omega)]
theorem b_m1 : ∀ i, i < 32 → bt (-1) i = true := by decide +kernel
theorem b_0 (i : Nat) : bt 0 i = false := BitVec.getLsbD_zero
theorem s_l : ∀ n, n < 32 → ((nI n &&& 31).toBitVec.smod 32).toNat = n := by decide +kernel
theorem s_u : ∀ n, n < 32 → (((nI n).toUInt32 &&& Int32.toUInt32 31).toBitVec % 32).toNat = n := by decide +kernel
theorem b_shl (n : Nat) (hn : n < 32) (x : Int32) {i : Nat} (hi : i < 32) : bt (x <<< (nI n &&& 31)) i = (decide (n ≤ i) && bt x (i - n)) := by
  unfold bt
  rw [Int32.toBitVec_shiftLeft]
  show (x.toBitVec <<< ((nI n &&& 31).toBitVec.smod 32).toNat).getLsbD i = _
  rw [s_l n hn, BitVec.getLsbD_shiftLeft]
  rcases Nat.lt_or_ge i n with h | h
  · simp [h, Nat.not_le.mpr h]
  · simp [hi, h, Nat.not_lt.mpr h]
theorem b_ushr (n : Nat) (hn : n < 32) (x : Int32) (i : Nat) : bt ((x.toUInt32 >>> ((nI n).toUInt32 &&& Int32.toUInt32 31)).toInt32) i = bt x (n + i) := by
  show (x.toUInt32 >>> ((nI n).toUInt32 &&& Int32.toUInt32 31)).toBitVec.getLsbD i = x.toUInt32.toBitVec.getLsbD (n + i)
  rw [UInt32.toBitVec_shiftRight]
  show (x.toUInt32.toBitVec >>> (((nI n).toUInt32 &&& Int32.toUInt32 31).toBitVec % 32).toNat).getLsbD i = _
  rw [s_u n hn, BitVec.getLsbD_ushiftRight]
theorem b_sshr (n : Nat) (hn : n < 32) (x : Int32) {i : Nat} (hi : i < 32) : bt (x >>> (nI n &&& 31)) i = if n + i < 32 then bt x (n + i) else bt x 31 := by
  unfold bt
  rw [Int32.toBitVec_shiftRight]
  show (x.toBitVec.sshiftRight ((nI n &&& 31).toBitVec.smod 32).toNat).getLsbD i = _
  rw [s_l n hn, BitVec.getLsbD_sshiftRight, BitVec.msb_eq_getLsbD_last]
  simp [hi]

/-! plain facts: counting loops, memory, sets by their bits -/
theorem upto {n : Nat} {P : Nat → Prop} (hn : P n) (hs : ∀ i, i < n → P (i + 1) → P i) : P 0 := by
  have key : ∀ k i, i + k = n → P i := by
    intro k
    induction k with
    | zero => intro i hi; have e : i = n := by omega
              rw [e]; exact hn
    | succ k ih => intro i hi; exact hs i (by omega) (ih (i + 1) (by omega))
  exact key n 0 (by omega)
theorem upto_from {n m : Nat} {P : Nat → Prop} (hm : m ≤ n) (hn : P n) (hs : ∀ i, m ≤ i → i < n → P (i + 1) → P i) : P m := by
  have key : ∀ k i, m ≤ i → i + k = n → P i := by
    intro k
    induction k with
    | zero => intro i h1 hi; have e : i = n := by omega
              rw [e]; exact hn
    | succ k ih => intro i h1 hi; exact hs i h1 (by omega) (ih (i + 1) (by omega) (by omega))
  exact key (n - m) m (Nat.le_refl _) (by omega)
theorem up_ss (M : Mem) (k i : Nat) (v : Int32) : up M k i v k i = v := by rw [up_s]; exact if_pos rfl
theorem up_sn {M : Mem} {k i j : Nat} {v : Int32} (h : j ≠ i) : up M k i v k j = M k j := by rw [up_s]; exact if_neg h
theorem cl {i : Nat} (h : i < 1000000) : (nI i).toNatClampNeg = i := nI_clamp (by omega)
theorem inb {i n : Nat} (h : i < n) (hn : n < 1000000) : vp_in (nI i) n := vp_in_nI h (by omega)
theorem leN {a b : Nat} (ha : a < 1000000) (hb : b < 1000000) : nI a ≤ nI b ↔ a ≤ b := nI_leI (by omega) (by omega)
theorem ltN {a b : Nat} (ha : a < 1000000) (hb : b < 1000000) : nI a < nI b ↔ a < b := nI_ltI (by omega) (by omega)
theorem eqN {a b : Nat} (ha : a < 1000000) (hb : b < 1000000) : nI a = nI b ↔ a = b := nI_eq (by omega) (by omega)
theorem nI_m1 {a : Nat} (h : a < 1000000) : ¬ nI a = -1 := by
  intro e
  have h1 := congrArg Int32.toInt e
  rw [nI_toInt (by omega)] at h1
  have h2 : (-1 : Int32).toInt = -1 := by decide
  omega
theorem nI_ge0 {a : Nat} (h : a < 1000000) : (0 : Int32) ≤ nI a := nI_pos' (by omega)
theorem nI_nlt0 {a : Nat} (h : a < 1000000) : ¬ nI a < 0 := nI_pos (by omega)
theorem m1_lt : ((-1 : Int32) < 0) := by decide
/-- the set of those below n for which p holds -/
def bs (p : Nat → Bool) : Nat → Int32
  | 0 => 0
  | i + 1 => if p i = true then bs p i ||| ((1 : Int32) <<< (nI i &&& 31)) else bs p i
theorem bt_one {k i : Nat} (hk : k < 32) (hi : i < 32) : bt ((1 : Int32) <<< (nI k &&& 31)) i = decide (i = k) := by
  rw [b_shl k hk 1 hi]
  by_cases h : i = k
  · subst h
    simp; decide
  · rw [decide_eq_false h]
    by_cases h2 : k ≤ i
    · have h3 : i - k ≠ 0 := by omega
      have h4 : bt 1 (i - k) = false := (by decide +kernel : ∀ j, j < 32 → j ≠ 0 → bt 1 j = false) (i - k) (by omega) h3
      simp [h4]
    · simp [h2]
theorem bt_bs (p : Nat → Bool) : ∀ (n i : Nat), n ≤ 31 → i < 32 → bt (bs p n) i = (decide (i < n) && p i)
  | 0, i, _, _ => by rw [bs, b_0]; simp
  | n + 1, i, hn, hi => by
    rw [bs]
    have ih := bt_bs p n i (by omega) hi
    by_cases h : p n = true
    · rw [if_pos h, b_or, ih, bt_one (by omega) hi]
      by_cases e : i = n
      · subst e
        simp [h]
      · have h1 : (i < n + 1) = (i < n) := by apply propext; omega
        simp [e, h1]
    · rw [if_neg h, ih]
      by_cases e : i = n
      · subst e
        simp at h
        simp [h]
      · have h1 : (i < n + 1) = (i < n) := by apply propext; omega
        simp [h1]
theorem bs_cong {p q : Nat → Bool} : ∀ n, (∀ i, i < n → p i = q i) → bs p n = bs q n
  | 0, _ => rfl
  | n + 1, h => by rw [bs, bs, bs_cong n (fun i hi => h i (by omega)), h n (by omega)]
theorem bit0 (x : Int32) {k : Nat} (hk : k < 31) : ((x >>> (nI k &&& 31)) &&& 1) = if bt x k then 1 else 0 := by
  apply b_ext
  intro i hi
  rw [b_and, b_sshr k (by omega) x hi]
  by_cases e : i = 0
  · subst e
    have h1 : bt 1 0 = true := by decide
    rw [h1, Nat.add_zero, if_pos (by omega)]
    by_cases h : bt x k = true
    · rw [h]; decide
    · simp at h
      rw [h]; decide
  · have h1 : bt 1 i = false := (by decide +kernel : ∀ j, j < 32 → j ≠ 0 → bt 1 j = false) i hi e
    rw [h1, Bool.and_false]
    by_cases h : bt x k = true
    · rw [h]; exact h1.symm
    · simp at h
      rw [h]; exact (b_0 i).symm
theorem or0 (x : Int32) : x ||| 0 = x := by
  apply b_ext
  intro i hi
  rw [b_or, b_0, Bool.or_false]

