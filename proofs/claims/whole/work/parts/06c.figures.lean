/-! numbers by their figures -/
theorem nl (n : Nat) : (OfNat.ofNat n : Int32) = nI n := rfl
theorem l1 : (1 : Int32) = nI 1 := by decide
theorem l10 : (10 : Int32) = nI 10 := by decide
theorem l6 : (6 : Int32) = nI 6 := by decide
theorem l0 : (0 : Int32) = nI 0 := by decide
def ndg (v : Nat) : Nat := if v < 10 then 1 else if v < 100 then 2 else if v < 1000 then 3 else if v < 10000 then 4 else if v < 100000 then 5 else 6
theorem ndg_in (v : Nat) : 1 ≤ ndg v ∧ ndg v ≤ 6 := by unfold ndg; repeat' split
                                                       all_goals omega
def dgt (v k : Nat) : Nat := v / 10 ^ (ndg v - 1 - k) % 10
def rnum (d : Nat → Nat) : Nat → Nat
  | 0 => 0
  | k + 1 => 10 * rnum d k + d k
theorem rnum_cong {d e : Nat → Nat} : ∀ n, (∀ k, k < n → d k = e k) → rnum d n = rnum e n
  | 0, _ => rfl
  | n + 1, h => by rw [rnum, rnum, rnum_cong n (fun k hk => h k (by omega)), h n (by omega)]
theorem rnum_lt {d : Nat → Nat} : ∀ n, (∀ k, k < n → d k ≤ 9) → rnum d n < 10 ^ n
  | 0, _ => Nat.one_pos
  | n + 1, h => by
    have h1 := rnum_lt n (fun k hk => h k (by omega))
    have h2 := h n (by omega)
    rw [rnum, Nat.pow_succ]
    omega
theorem rnum_ge {d : Nat → Nat} (h0 : 1 ≤ d 0) : ∀ n, 10 ^ n ≤ rnum d (n + 1)
  | 0 => by rw [rnum, rnum]; omega
  | n + 1 => by
    have h1 := rnum_ge h0 n
    rw [rnum, Nat.pow_succ]
    omega
theorem rnum_div {d : Nat → Nat} : ∀ m k, (∀ j, j < k + m → d j ≤ 9) → rnum d (k + m) / 10 ^ m = rnum d k
  | 0, k, _ => by simp
  | m + 1, k, h => by
    have h1 := rnum_div m k (fun j hj => h j (by omega))
    have h2 := h (k + m) (by omega)
    have e : rnum d (k + (m + 1)) = 10 * rnum d (k + m) + d (k + m) := rfl
    rw [e, Nat.pow_succ, Nat.mul_comm (10 ^ m) 10, ← Nat.div_div_eq_div_mul]
    have e2 : (10 * rnum d (k + m) + d (k + m)) / 10 = rnum d (k + m) := by omega
    rw [e2, h1]
theorem ndg_rnum {d : Nat → Nat} {n : Nat} (h1 : 1 ≤ n) (h6 : n ≤ 6) (h0 : 1 ≤ d 0) (h : ∀ k, k < n → d k ≤ 9) : ndg (rnum d n) = n := by
  have hl := rnum_lt n h
  obtain ⟨m, rfl⟩ : ∃ m, n = m + 1 := ⟨n - 1, by omega⟩
  have hg := rnum_ge h0 m
  generalize rnum d (m + 1) = v at hl hg
  unfold ndg
  rcases (by omega : m = 0 ∨ m = 1 ∨ m = 2 ∨ m = 3 ∨ m = 4 ∨ m = 5) with rfl | rfl | rfl | rfl | rfl | rfl <;> (simp at hl hg) <;> (repeat' split) <;> omega
theorem dgt_rnum {d : Nat → Nat} {n k : Nat} (h1 : 1 ≤ n) (h6 : n ≤ 6) (h0 : 1 ≤ d 0) (h : ∀ k, k < n → d k ≤ 9) (hk : k < n) : dgt (rnum d n) k = d k := by
  unfold dgt
  rw [ndg_rnum h1 h6 h0 h]
  have e : n = (k + 1) + (n - 1 - k) := by omega
  have e2 : rnum d n / 10 ^ (n - 1 - k) = rnum d (k + 1) := by
    have h2 := rnum_div (d := d) (n - 1 - k) (k + 1) (fun j hj => h j (by omega))
    rw [← e] at h2
    exact h2
  rw [e2, rnum]
  have := h k hk
  omega
theorem rnum_1e6 {d : Nat → Nat} {n : Nat} (h6 : n ≤ 6) (h : ∀ k, k < n → d k ≤ 9) : rnum d n < 1000000 := by
  have h1 := rnum_lt n h
  have h2 : 10 ^ n ≤ 10 ^ 6 := Nat.pow_le_pow_right (by decide) h6
  omega
theorem dgt_le (v k : Nat) : dgt v k ≤ 9 := by unfold dgt; omega
theorem tens_nI : ∀ i, i < 6 → tens i = nI (10 ^ i) := by decide +kernel
theorem sp_count {Q : Int32 → Mem → Prop} {v : Nat} {M : Mem} (hv : v < 1000000) (hq : Q (nI (ndg v)) M) : wp_X2_count Q (nI v) M := by
  intro X2 h2
  have st : ∀ i, i < 6 → (v < 10 ^ i → Q (nI i) M) → (¬ v < 10 ^ i → X2 (nI (i + 1)) M) → X2 (nI i) M := by
    intro i hi h1 h3
    apply h2
    unfold bd_X2_count_2
    have hp : 10 ^ i ≤ 10 ^ 5 := Nat.pow_le_pow_right (by decide) (by omega)
    rw [cl (by omega), tens_nI i hi, ltN hv (by omega), l6, leN (by omega) (by omega), nI_1]
    exact ⟨fun h => absurd h (by omega), fun _ => ⟨inb hi (by omega), h1, h3⟩⟩
  have s6 : ¬ v < 100000 → X2 (nI 6) M := by
    intro h
    apply h2
    unfold bd_X2_count_2
    have e : ndg v = 6 := by unfold ndg; repeat' split
                             all_goals omega
    rw [e] at hq
    exact ⟨fun _ => hq, fun h => absurd (by rw [l6]; exact (leN (by omega) (by omega)).mpr (Nat.le_refl _)) h⟩
  have e1 : v < 10 → ndg v = 1 := by intro h; unfold ndg; rw [if_pos h]
  have e2 : ¬ v < 10 → v < 100 → ndg v = 2 := by intro h h2; unfold ndg; rw [if_neg h, if_pos h2]
  have e3 : ¬ v < 100 → v < 1000 → ndg v = 3 := by intro h h2; unfold ndg; rw [if_neg (by omega), if_neg h, if_pos h2]
  have e4 : ¬ v < 1000 → v < 10000 → ndg v = 4 := by intro h h2; unfold ndg; rw [if_neg (by omega), if_neg (by omega), if_neg h, if_pos h2]
  have e5 : ¬ v < 10000 → v < 100000 → ndg v = 5 := by intro h h2; unfold ndg; rw [if_neg (by omega), if_neg (by omega), if_neg (by omega), if_neg h, if_pos h2]
  show X2 1 M
  rw [l1]
  refine st 1 (by omega) (fun h => by rw [e1 (by omega)] at hq; exact hq) (fun g1 => ?_)
  refine st 2 (by omega) (fun h => by rw [e2 (by omega) (by omega)] at hq; exact hq) (fun g2 => ?_)
  refine st 3 (by omega) (fun h => by rw [e3 (by omega) (by omega)] at hq; exact hq) (fun g3 => ?_)
  refine st 4 (by omega) (fun h => by rw [e4 (by omega) (by omega)] at hq; exact hq) (fun g4 => ?_)
  exact st 5 (by omega) (fun h => by rw [e5 (by omega) (by omega)] at hq; exact hq) (fun g5 => s6 (by omega))
theorem sp_at {Q : Int32 → Mem → Prop} {v k : Nat} {M : Mem} (hv : v < 1000000) (hk : k < ndg v) (hq : Q (nI (dgt v k)) M) : wp_X2_at Q (nI v) (nI k) M := by
  unfold wp_X2_at bd_X2_at
  refine sp_count hv ?_
  have hn := ndg_in v
  have e : nI (ndg v) - 1 - nI k = nI (ndg v - 1 - k) := by rw [l1, pk_sub (by omega), pk_sub (by omega)]
  have hp : 10 ^ (ndg v - 1 - k) ≤ 10 ^ 5 := Nat.pow_le_pow_right (by decide) (by omega)
  have hp1 : 1 ≤ 10 ^ (ndg v - 1 - k) := Nat.pow_pos (by decide)
  rw [e, cl (by omega), tens_nI _ (by omega)]
  refine ⟨fun h => absurd h (nI_nlt0 (by omega)), fun _ => ⟨fun h => absurd h (by rw [l6, leN (by omega) (by omega)]; omega), fun _ => ⟨inb (by omega) (by omega), ?_, ?_⟩⟩⟩
  · rw [l0, eqN (by omega) (by omega)]; omega
  · rw [pk_div (by omega) (by omega) (by omega), l10, pk_rem (by have := Nat.div_le_self v (10 ^ (ndg v - 1 - k)); omega) (by omega) (by omega)]
    exact hq
theorem sp_reversed {Q : Int32 → Mem → Prop} {v : Nat} {M : Mem} (hv : v < 1000000) (hq : Q (nI (rnum (fun j => dgt v (ndg v - 1 - j)) (ndg v))) M) : wp_X2_reversed Q (nI v) M := by
  intro X9 h9
  have hn := ndg_in v
  refine sp_count hv ?_
  have key : ∀ i, i ≤ ndg v → X9 (nI (rnum (fun j => dgt v (ndg v - 1 - j)) (ndg v - i))) (nI i - 1) M := by
    intro i
    induction i with
    | zero =>
      intro _
      apply h9
      unfold bd_X2_reversed_9
      have e : nI 0 - 1 < 0 := by decide
      exact ⟨fun _ => by rw [Nat.sub_zero]; exact hq, fun h => absurd e h⟩
    | succ i ih =>
      intro hi
      apply h9
      unfold bd_X2_reversed_9
      rw [nI_pred]
      refine ⟨fun h => absurd h (nI_nlt0 (by omega)), fun _ => sp_at hv (by omega) ?_⟩
      have e : ndg v - i = (ndg v - (i + 1)) + 1 := by omega
      have h1 := ih (by omega)
      rw [e, rnum] at h1
      have e2 : ndg v - 1 - (ndg v - (i + 1)) = i := by omega
      simp only [e2] at h1
      have e3 : nI i + (-1) = nI i - 1 := by rw [Int32.sub_eq_add_neg]
      rw [l10, pk_mul, nI_add, e3, Nat.mul_comm]
      exact h1
  have h1 := key (ndg v) (Nat.le_refl _)
  rw [Nat.sub_self] at h1
  exact h1
theorem sp_areAllUpTo {Q : Int32 → Mem → Prop} {v m : Nat} {M : Mem} (hv : v < 1000000) (hm : m ≤ 9) (hq : (∀ k, k < ndg v → 1 ≤ dgt v k ∧ dgt v k ≤ m) → Q 1 M) (hq0 : ¬ (∀ k, k < ndg v → 1 ≤ dgt v k ∧ dgt v k ≤ m) → Q 0 M) : wp_X2_areAllUpTo Q (nI v) (nI m) M := by
  intro X7 h7
  have hn := ndg_in v
  refine sp_count hv ?_
  have key : ∀ i, i ≤ ndg v → (∀ k, i ≤ k → k < ndg v → 1 ≤ dgt v k ∧ dgt v k ≤ m) → X7 (nI i - 1) M := by
    intro i
    induction i with
    | zero =>
      intro _ hh
      apply h7
      unfold bd_X2_areAllUpTo_7
      have e : nI 0 - 1 < 0 := by decide
      exact ⟨fun _ => hq (fun k hk => hh k (Nat.zero_le _) hk), fun h => absurd e h⟩
    | succ i ih =>
      intro hi hh
      apply h7
      unfold bd_X2_areAllUpTo_7
      rw [nI_pred]
      refine ⟨fun h => absurd h (nI_nlt0 (by omega)), fun _ => sp_at hv (by omega) ?_⟩
      have hd := dgt_le v i
      have e3 : nI i + (-1) = nI i - 1 := by rw [Int32.sub_eq_add_neg]
      have g1 : nI (dgt v i) < 1 ↔ dgt v i < 1 := by rw [l1]; exact ltN (by omega) (by omega)
      rw [e3, g1, leN (by omega) (by omega)]
      refine ⟨fun h => hq0 (fun z => ?_), fun h => ⟨fun g => ih (by omega) (fun k h1 h2 => ?_), fun g => hq0 (fun z => ?_)⟩⟩
      · have := z i (by omega); omega
      · rcases Nat.lt_or_ge k (i + 1) with q | q
        · have e : k = i := by omega
          rw [e]; omega
        · exact hh k q h2
      · have := z i (by omega); omega
  exact key (ndg v) (Nat.le_refl _) (fun k h1 h2 => by omega)
