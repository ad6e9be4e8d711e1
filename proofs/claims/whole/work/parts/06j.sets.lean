def cpt (p : Nat → Bool) : Nat → Nat
  | 0 => 0
  | i + 1 => cpt p i + (if p i = true then 1 else 0)
theorem cpt_le (p : Nat → Bool) : ∀ n, cpt p n ≤ n
  | 0 => Nat.le_refl 0
  | n + 1 => by
    have := cpt_le p n
    rw [cpt]
    split <;> omega
theorem cpt_cut (p : Nat → Bool) (n : Nat) : ∀ m, cpt (fun i => decide (i < n) && p i) m = cpt p (if m ≤ n then m else n)
  | 0 => by simp [cpt]
  | m + 1 => by
    rw [cpt, cpt_cut p n m]
    by_cases h : m + 1 ≤ n
    · rw [if_pos (by omega), if_pos h, cpt, decide_eq_true (show m < n by omega), Bool.true_and]
    · rw [if_neg h]
      by_cases h2 : m ≤ n
      · have e : m = n := by omega
        rw [if_pos h2, e, decide_eq_false (by omega), Bool.false_and]
        simp
      · rw [if_neg h2, decide_eq_false (by omega), Bool.false_and]
        simp
theorem bs_cut {p : Nat → Bool} {n : Nat} (hn : n ≤ 8) : bs p n = bs (fun i => decide (i < n) && p i) 8 := by
  apply b_ext
  intro i hi
  rw [bt_bs _ _ _ (by omega) hi, bt_bs _ _ _ (by omega) hi]
  by_cases h : i < n
  · rw [decide_eq_true h, decide_eq_true (show i < 8 by omega)]; simp
  · rw [decide_eq_false h]; simp
theorem cpt8 (p : Nat → Bool) : cpt p 8 = (((((((0 + (if p 0 = true then 1 else 0)) + (if p 1 = true then 1 else 0)) + (if p 2 = true then 1 else 0)) + (if p 3 = true then 1 else 0)) + (if p 4 = true then 1 else 0)) + (if p 5 = true then 1 else 0)) + (if p 6 = true then 1 else 0)) + (if p 7 = true then 1 else 0) := rfl
set_option maxRecDepth 100000 in
set_option maxHeartbeats 4000000 in
theorem sp_bitCount {Q : Int32 → Mem → Prop} {p : Nat → Bool} {n : Nat} {M : Mem} (hn : n ≤ 8) (hq : Q (nI (cpt p n)) M) : wp_J6_bitCount_0f7a4 Q (bs p n) M := by
  have key : ∀ q : Nat → Bool, (∀ z, nI (cpt q 8) = z → Q z M) → wp_J6_bitCount_0f7a4 Q (bs q 8) M := by
    intro q h
    unfold wp_J6_bitCount_0f7a4 bd_J6_bitCount_0f7a4
    apply h
    rw [cpt8, bs8]
    generalize q 0 = b0
    generalize q 1 = b1
    generalize q 2 = b2
    generalize q 3 = b3
    generalize q 4 = b4
    generalize q 5 = b5
    generalize q 6 = b6
    generalize q 7 = b7
    revert b0 b1 b2 b3 b4 b5 b6 b7
    decide +kernel
  rw [bs_cut hn]
  refine key _ (fun z e => ?_)
  have e8 : (if 8 ≤ n then 8 else n) = n := by split <;> omega
  rw [cpt_cut, e8] at e
  rw [← e]
  exact hq
theorem sp_ringCount {Q : Int32 → Mem → Prop} {b n : Nat} {f : Nat → Int32} {M : Mem} (h : Ldr n f) (h0 : M b 0 = nI n) (hl : ∀ c, c < n → M (b + 2) c = f (8 + c)) (hq : Q (nI (cpt (mk n f) n)) M) : wp_X7_ringCount Q b M := by
  unfold wp_X7_ringCount bd_X7_ringCount
  exact sp_leastOfRings h h0 hl (sp_bitCount h.1 hq)
/-- the a-th of those with p, from c on, k of them passed -/
def nthr (p : Nat → Bool) (r : Nat → Int32) (a : Int32) (dfl : Nat → Int32) : Nat → Nat → Nat → Int32
  | 0, _, k => dfl k
  | m + 1, c, k => if p c = true then (if nI k = a then r c else nthr p r a dfl m (c + 1) (k + 1)) else nthr p r a dfl m (c + 1) k
def rga (n : Nat) (f : Nat → Int32) (a : Int32) : Int32 := nthr (mk n f) (rgs n f) a (fun k => if a = -1 then nI k else -1) n 0 0
theorem nthr_m1 (p : Nat → Bool) (r : Nat → Int32) : ∀ m c k, k + m < 1000 → k = cpt p c → nthr p r (-1) (fun k => if (-1 : Int32) = -1 then nI k else -1) m c k = nI (cpt p (c + m))
  | 0, c, k, _, e => by rw [nthr, if_pos rfl, e, Nat.add_zero]
  | m + 1, c, k, h, e => by
    have ee : c + (m + 1) = c + 1 + m := by omega
    rw [nthr, ee]
    by_cases hp : p c = true
    · rw [if_pos hp, if_neg (nI_m1 (by omega)), nthr_m1 p r m (c + 1) (k + 1) (by omega) (by rw [cpt, if_pos hp, e])]
    · rw [if_neg hp, nthr_m1 p r m (c + 1) k (by omega) (by rw [cpt, if_neg hp, e, Nat.add_zero])]
theorem rga_m1 {n : Nat} {f : Nat → Int32} (hn : n ≤ 8) : rga n f (-1) = nI (cpt (mk n f) n) := by
  unfold rga
  rw [nthr_m1 _ _ n 0 0 (by omega) rfl, Nat.zero_add]
theorem sp_ringNumber {Q : Int32 → Mem → Prop} {b n : Nat} {a : Int32} {f : Nat → Int32} {M : Mem} (h : Ldr n f) (h0 : M b 0 = nI n) (hl : ∀ c, c < n → M (b + 2) c = f (8 + c)) (ha : ¬ a = -1) (hq : Q (rga n f a) M) : wp_X7_ringNumber Q b a M := by
  have h8 := h.1
  intro X10 h10
  refine sp_leastOfRings h h0 hl ?_
  have key : ∀ m c k, c + m = n → k ≤ c → Q (nthr (mk n f) (rgs n f) a (fun k => if a = -1 then nI k else -1) m c k) M → X10 (bs (mk n f) n) (nI k) (nI c) M := by
    intro m
    induction m with
    | zero =>
      intro c k hc hk hq
      apply h10
      unfold bd_X7_ringNumber_10
      rw [nthr, if_neg ha] at hq
      rw [h0]
      exact ⟨fun _ => hq, fun q => absurd ((leN (by omega) (by omega)).mpr (by omega)) q⟩
    | succ m ih =>
      intro c k hc hk hq
      apply h10
      unfold bd_X7_ringNumber_10
      rw [h0, leN (by omega) (by omega), nI_1, nI_1]
      refine ⟨fun q => absurd q (by omega), fun _ => sp_isIn (by omega) ?_⟩
      rw [bt_bs _ _ _ (by omega) (by omega), decide_eq_true (show c < n by omega), Bool.true_and]
      rw [nthr] at hq
      cases e : mk n f c
      · rw [e, if_neg (by decide)] at hq
        exact ⟨fun _ => ih (c + 1) k (by omega) (by omega) hq, fun q => absurd rfl q⟩
      · rw [e, if_pos rfl] at hq
        refine ⟨fun q => absurd q (by decide), fun _ => ⟨fun q => ?_, fun q => ?_⟩⟩
        · rw [if_pos q] at hq
          exact sp_ringOf h h0 hl (by omega) hq
        · rw [if_neg q] at hq
          exact ih (c + 1) (k + 1) (by omega) (by omega) hq
  have h1 := key n 0 0 (by omega) (Nat.le_refl 0) hq
  rw [nI_0] at h1
  exact h1
theorem sp_ringsNow {Q : Int32 → Mem → Prop} {n : Nat} {a : Int32} {f : Nat → Int32} {M : Mem} (h : Ldr n f) (h0 : M 211 2 = nI n) (hf : M 214 = f) (hq : Q (rga n f a) M) : wp_X10_ringsNow Q a M := by
  have h8 := h.1
  intro X4 h4
  have key : ∀ m c k, c + m = n → k ≤ c → Q (nthr (mk n f) (rgs n f) a (fun k => if a = -1 then nI k else -1) m c k) M → X4 (nI k) (nI c) M := by
    intro m
    induction m with
    | zero =>
      intro c k hc hk hq
      apply h4
      unfold bd_X10_ringsNow_4
      rw [nthr] at hq
      rw [h0]
      exact ⟨fun _ => hq, fun q => absurd ((leN (by omega) (by omega)).mpr (by omega)) q⟩
    | succ m ih =>
      intro c k hc hk hq
      apply h4
      unfold bd_X10_ringsNow_4
      have hcn : c < n := by omega
      rw [h0, leN (by omega) (by omega), nI_1, nI_1]
      refine ⟨fun q => absurd q (by omega), fun _ => sp_ringOfR h hf hcn ?_⟩
      rw [rgs_0 (by omega)]
      rw [nthr] at hq
      refine ⟨fun q => ?_, fun q => ?_⟩
      · have e : ¬ mk n f c = true := fun z => q (mk_iff.mp z).1
        rw [if_neg e] at hq
        exact ih (c + 1) k (by omega) (by omega) hq
      · have hr : rch n f c c = true := by simpa using q
        obtain ⟨m', m1, m2⟩ := isl_ex hr
        refine sp_least (m := m') (by omega) (by rw [rgs_bt hr (by omega)]; exact m2.1) (fun j hj => by rw [rgs_bt hr (by omega)]; exact m2.2 j hj) ?_
        rw [eqN (by omega) (by omega)]
        refine ⟨fun e => ?_, fun e => ?_⟩
        · rw [if_pos (mk_iff.mpr (by rw [← e] at m2 ⊢; exact m2))] at hq
          refine ⟨fun q => ?_, fun q => ?_⟩
          · rw [if_pos q] at hq; exact hq
          · rw [if_neg q] at hq
            exact ih (c + 1) (k + 1) (by omega) (by omega) hq
        · have e2 : ¬ mk n f c = true := fun z => e (isl_one m2 (mk_iff.mp z))
          rw [if_neg e2] at hq
          exact ih (c + 1) k (by omega) (by omega) hq
  have h1 := key n 0 0 (by omega) (Nat.le_refl 0) hq
  rw [nI_0] at h1
  exact h1
