theorem fb_holes : ∀ (m n : Nat) (f : Nat → Nat), (∀ i, i < n → f i < m) → (∀ i j, i < j → j < n → f i ≠ f j) → n ≤ m := by
  intro m
  induction m with
  | zero =>
    intro n f h1 _
    rcases Nat.eq_zero_or_pos n with h | h
    · omega
    · exact absurd (h1 0 h) (Nat.not_lt_zero _)
  | succ m ih =>
    intro n f h1 h2
    by_cases hx : ∃ i, i < n ∧ f i = m
    · obtain ⟨a, ha, hfa⟩ := hx
      have hg := ih (n - 1) (fun i => if i < a then f i else f (i + 1)) (by
        intro i hi
        by_cases q : i < a
        · simp only [if_pos q]
          have b1 := h1 i (by omega)
          have b2 := h2 i a q ha
          omega
        · simp only [if_neg q]
          have b1 := h1 (i + 1) (by omega)
          have b2 := h2 a (i + 1) (by omega) (by omega)
          omega) (by
        intro i j hij hj
        by_cases q : i < a
        · by_cases r : j < a
          · simp only [if_pos q, if_pos r]
            exact h2 i j hij (by omega)
          · simp only [if_pos q, if_neg r]
            exact h2 i (j + 1) (by omega) (by omega)
        · have r : ¬ j < a := by omega
          simp only [if_neg q, if_neg r]
          exact h2 (i + 1) (j + 1) (by omega) (by omega))
      omega
    · have hg := ih n f (fun i hi => by
        have b1 := h1 i hi
        have b2 : f i ≠ m := fun e => hx ⟨i, hi, e⟩
        omega) h2
      omega
/-! who follows whom: 8 is nobody -/
def Ldr (n : Nat) (f : Nat → Int32) : Prop := n ≤ 8 ∧ ∀ c, c < n → f (8 + c) = -1 ∨ ∃ d, d < n ∧ d ≠ c ∧ f (8 + c) = nI d
theorem WF.ldr {n : Nat} {R L f : Nat → Int32} (h : WF n R L f) : Ldr n f := ⟨h.1, h.2.2.1⟩
def ld (n : Nat) (f : Nat → Int32) (c : Nat) : Nat := if c < n ∧ ¬ f (8 + c) < 0 then (f (8 + c)).toNatClampNeg else 8
def pth (n : Nat) (f : Nat → Int32) (c : Nat) : Nat → Nat
  | 0 => c
  | k + 1 => ld n f (pth n f c k)
theorem pth_add (n : Nat) (f : Nat → Int32) (c j : Nat) : ∀ k, pth n f c (j + k) = pth n f (pth n f c j) k
  | 0 => rfl
  | k + 1 => by
    show ld n f (pth n f c (j + k)) = ld n f (pth n f (pth n f c j) k)
    rw [pth_add n f c j k]
theorem pth_1 (n : Nat) (f : Nat → Int32) (c k : Nat) : pth n f c (k + 1) = pth n f (ld n f c) k := by
  rw [Nat.add_comm, pth_add]
  rfl
/-- an int that tells a car or nobody -/
def ec (d : Nat) : Int32 := if d = 8 then -1 else nI d
theorem ec_m1 {d : Nat} (h : d ≤ 8) : ec d = -1 ↔ d = 8 := by
  unfold ec
  by_cases e : d = 8
  · rw [if_pos e]; exact ⟨fun _ => e, fun _ => rfl⟩
  · rw [if_neg e]; exact ⟨fun q => absurd q (nI_m1 (by omega)), fun q => absurd q e⟩
theorem ec_neg {d : Nat} (h : d ≤ 8) : ec d < 0 ↔ d = 8 := by
  unfold ec
  by_cases e : d = 8
  · rw [if_pos e]; exact ⟨fun _ => e, fun _ => m1_lt⟩
  · rw [if_neg e]; exact ⟨fun q => absurd q (nI_nlt0 (by omega)), fun q => absurd q e⟩
theorem ec_c {d : Nat} (h : d ≠ 8) : ec d = nI d := if_neg h
theorem ec_eq {d c : Nat} (h : d ≤ 8) (hc : c < 8) : ec d = nI c ↔ d = c := by
  unfold ec
  by_cases e : d = 8
  · rw [if_pos e]; exact ⟨fun q => absurd q.symm (nI_m1 (by omega)), fun q => by omega⟩
  · rw [if_neg e, eqN (by omega) (by omega)]
theorem ld_8 {n : Nat} {f : Nat → Int32} (h : n ≤ 8) : ld n f 8 = 8 := if_neg (fun q => by omega)
theorem ld_ec {n : Nat} {f : Nat → Int32} (h : Ldr n f) {c : Nat} (hc : c < n) : f (8 + c) = ec (ld n f c) ∧ (ld n f c = 8 ∨ (ld n f c < n ∧ ld n f c ≠ c)) := by
  have h8 := h.1
  rcases h.2 c hc with q | ⟨d, q1, q2, q3⟩
  · have e : ld n f c = 8 := if_neg (fun z => z.2 (by rw [q]; exact m1_lt))
    rw [e, q]
    exact ⟨rfl, Or.inl rfl⟩
  · have e : ld n f c = d := by
      unfold ld
      rw [if_pos ⟨hc, by rw [q3]; exact nI_nlt0 (by omega)⟩, q3, cl (by omega)]
    rw [e, q3, ec_c (by omega)]
    exact ⟨rfl, Or.inr ⟨q1, q2⟩⟩
theorem ld_in {n : Nat} {f : Nat → Int32} (h : Ldr n f) {c : Nat} (hc : c < n ∨ c = 8) : ld n f c < n ∨ ld n f c = 8 := by
  rcases hc with hc | rfl
  · rcases (ld_ec h hc).2 with q | q
    · exact Or.inr q
    · exact Or.inl q.1
  · exact Or.inr (ld_8 h.1)
theorem pth_in {n : Nat} {f : Nat → Int32} (h : Ldr n f) {c : Nat} (hc : c < n ∨ c = 8) : ∀ k, pth n f c k < n ∨ pth n f c k = 8
  | 0 => hc
  | k + 1 => ld_in h (pth_in h hc k)
theorem pth_le {n : Nat} {f : Nat → Int32} (h : Ldr n f) {c : Nat} (hc : c < n) (k : Nat) : pth n f c k ≤ 8 := by
  have := pth_in h (Or.inl hc) k
  have := h.1
  omega
theorem pth_8 {n : Nat} {f : Nat → Int32} (h : n ≤ 8) : ∀ k, pth n f 8 k = 8
  | 0 => rfl
  | k + 1 => by show ld n f (pth n f 8 k) = 8; rw [pth_8 h k, ld_8 h]
theorem pth_sink {n : Nat} {f : Nat → Int32} (h : n ≤ 8) {c i j : Nat} (hi : pth n f c i = 8) (hj : i ≤ j) : pth n f c j = 8 := by
  have e : j = i + (j - i) := by omega
  rw [e, pth_add, hi, pth_8 h]
/-- among the first i on the way from c is d -/
def rci (n : Nat) (f : Nat → Int32) (c : Nat) : Nat → Nat → Bool
  | 0, _ => false
  | i + 1, d => rci n f c i d || decide (pth n f c (i + 1) = d)
theorem rci_iff (n : Nat) (f : Nat → Int32) (c d : Nat) : ∀ i, rci n f c i d = true ↔ ∃ k, k < i ∧ pth n f c (k + 1) = d
  | 0 => by
    constructor
    · intro h; cases h
    · intro ⟨k, h, _⟩; omega
  | i + 1 => by
    rw [rci, Bool.or_eq_true, rci_iff n f c d i, decide_eq_true_eq]
    constructor
    · intro h
      rcases h with ⟨k, h1, h2⟩ | h
      · exact ⟨k, by omega, h2⟩
      · exact ⟨i, by omega, h⟩
    · intro ⟨k, h1, h2⟩
      rcases Nat.lt_or_ge k i with q | q
      · exact Or.inl ⟨k, q, h2⟩
      · have e : k = i := by omega
        rw [e] at h2
        exact Or.inr h2
def rch (n : Nat) (f : Nat → Int32) (c d : Nat) : Bool := rci n f c n d
theorem rch_any {n : Nat} {f : Nat → Int32} (h : Ldr n f) {c d : Nat} (hc : c < n) (hd : d < n) (hk : ∃ k, pth n f c (k + 1) = d) : ∃ k, k < n ∧ pth n f c (k + 1) = d := by
  have h8 := h.1
  obtain ⟨k, h1, h2⟩ := pk_least _ hk
  refine ⟨k, ?_, h1⟩
  have hh := fb_holes n (k + 1) (fun i => pth n f c (i + 1)) ?_ ?_
  · omega
  · intro i hi
    rcases pth_in h (Or.inl hc) (i + 1) with q | q
    · exact q
    · have := pth_sink h8 q (show i + 1 ≤ k + 1 by omega)
      omega
  · intro i j hij hj e
    have e1 : k + 1 = (j + 1) + (k - j) := by omega
    have e2 : (i + 1) + (k - j) = (i + (k - j)) + 1 := by omega
    refine h2 (i + (k - j)) (by omega) ?_
    rw [← e2, pth_add]
    rw [e1, pth_add] at h1
    rw [← h1]
    exact congrArg (fun z => pth n f z (k - j)) e
theorem rch_iff {n : Nat} {f : Nat → Int32} (h : Ldr n f) {c d : Nat} (hc : c < n) (hd : d < n) : rch n f c d = true ↔ ∃ k, pth n f c (k + 1) = d := by
  unfold rch
  rw [rci_iff]
  exact ⟨fun ⟨k, _, q⟩ => ⟨k, q⟩, fun q => rch_any h hc hd q⟩
theorem rch_lt {n : Nat} {f : Nat → Int32} (h : Ldr n f) {c d : Nat} (hc : c < n) (hd : d < 8) (hr : rch n f c d = true) : d < n := by
  obtain ⟨k, -, q⟩ := (rci_iff n f c d n).mp hr
  have := pth_in h (Or.inl hc) (k + 1)
  omega
theorem rch_tr {n : Nat} {f : Nat → Int32} (h : Ldr n f) {c d e : Nat} (hc : c < n) (hd : d < n) (he : e < n) (h1 : rch n f c d = true) (h2 : rch n f d e = true) : rch n f c e = true := by
  obtain ⟨i, q1⟩ := (rch_iff h hc hd).mp h1
  obtain ⟨j, q2⟩ := (rch_iff h hd he).mp h2
  exact (rch_iff h hc he).mpr ⟨(i + 1) + j, by rw [Nat.add_assoc, pth_add, q1]; exact q2⟩
theorem rci_bit {n : Nat} {f : Nat → Int32} {c i : Nat} (hp : pth n f c (i + 1) < 8) : bs (rci n f c i) 8 ||| ((1 : Int32) <<< (nI (pth n f c (i + 1)) &&& 31)) = bs (rci n f c (i + 1)) 8 := by
  apply b_ext
  intro j hj
  rw [b_or, bt_bs _ _ _ (by omega) hj, bt_bs _ _ _ (by omega) hj, bt_one (by omega) hj, rci]
  by_cases e : j = pth n f c (i + 1)
  · rw [decide_eq_true e, decide_eq_true e.symm, decide_eq_true (show j < 8 by omega)]
    simp
  · rw [decide_eq_false e, decide_eq_false (show ¬ pth n f c (i + 1) = j from fun q => e q.symm)]
    simp
theorem sp_leadersOf {Q : Int32 → Mem → Prop} {b n c : Nat} {f : Nat → Int32} {M : Mem} (h : Ldr n f) (h0 : M b 0 = nI n) (hl : ∀ c, c < n → M (b + 2) c = f (8 + c)) (hc : c < n) (hq : Q (bs (rch n f c) 8) M) : wp_X7_leadersOf Q b (nI c) M := by
  have h8 := h.1
  intro X12 h12
  have key : X12 (bs (rci n f c 0) 8) (ec (pth n f c (0 + 1))) (nI 0) M := by
    refine upto (P := fun i => X12 (bs (rci n f c i) 8) (ec (pth n f c (i + 1))) (nI i) M) (n := n) ?_ ?_
    · apply h12
      unfold bd_X7_leadersOf_12
      rw [h0]
      exact ⟨fun _ => hq, fun q => absurd ((leN (by omega) (by omega)).mpr (Nat.le_refl n)) q⟩
    · intro i hi ih
      apply h12
      unfold bd_X7_leadersOf_12
      have hp := pth_le h hc (i + 1)
      rw [h0, leN (by omega) (by omega), ec_m1 hp, nI_1]
      refine ⟨fun q => absurd q (by omega), fun _ => ⟨fun q => ?_, fun q => ?_⟩⟩
      · have e : bs (rci n f c i) 8 = bs (rch n f c) 8 := by
          apply bs_cong
          intro d hd
          unfold rch
          rw [Bool.eq_iff_iff, rci_iff, rci_iff]
          constructor
          · intro ⟨k, k1, k2⟩; exact ⟨k, by omega, k2⟩
          · intro ⟨k, k1, k2⟩
            rcases Nat.lt_or_ge k i with z | z
            · exact ⟨k, z, k2⟩
            · have := pth_sink h8 q (show i + 1 ≤ k + 1 by omega)
              omega
        rw [e]; exact hq
      · have hpn : pth n f c (i + 1) < n := by
          rcases pth_in h (Or.inl hc) (i + 1) with z | z
          · exact z
          · exact absurd z q
        rw [ec_c q, rci_bit (by omega), cl (by omega), hl _ hpn, (ld_ec h hpn).1]
        exact ⟨inb (by omega) (by omega), ih⟩
  rw [nI_0] at key
  unfold bd_X7_leadersOf
  rw [cl (by omega), hl c hc, (ld_ec h hc).1]
  exact ⟨inb (by omega) (by omega), key⟩
theorem bt_rch {n : Nat} {f : Nat → Int32} {c d : Nat} (hd : d < 8) : bt (bs (rch n f c) 8) d = rch n f c d := by
  rw [bt_bs _ _ _ (by omega) (by omega), decide_eq_true hd, Bool.true_and]
theorem bs_succ (p : Nat → Bool) (i : Nat) : bs p (i + 1) = if p i = true then bs p i ||| ((1 : Int32) <<< (nI i &&& 31)) else bs p i := rfl
theorem sp_trailOf {Q : Int32 → Mem → Prop} {b n c : Nat} {f : Nat → Int32} {M : Mem} (h : Ldr n f) (h0 : M b 0 = nI n) (hl : ∀ c, c < n → M (b + 2) c = f (8 + c)) (hc : c < n) (hq : Q (bs (fun d => rch n f d c) n) M) : wp_X7_trailOf Q b (nI c) M := by
  have h8 := h.1
  intro X4 h4
  have key : X4 (bs (fun d => rch n f d c) 0) (nI 0) M := by
    refine upto (P := fun i => X4 (bs (fun d => rch n f d c) i) (nI i) M) (n := n) ?_ ?_
    · apply h4
      unfold bd_X7_trailOf_4
      rw [h0]
      exact ⟨fun _ => hq, fun q => absurd ((leN (by omega) (by omega)).mpr (Nat.le_refl n)) q⟩
    · intro i hi ih
      apply h4
      unfold bd_X7_trailOf_4
      rw [h0, leN (by omega) (by omega), nI_1]
      refine ⟨fun q => absurd q (by omega), fun _ => sp_leadersOf h h0 hl hi (sp_isIn (by omega) ?_)⟩
      rw [bt_rch (by omega)]
      rw [bs_succ] at ih
      cases e : rch n f i c
      · rw [e] at ih; simpa using ih
      · rw [e] at ih; simpa using ih
  rw [nI_0] at key
  exact key
def rgs (n : Nat) (f : Nat → Int32) (c : Nat) : Int32 := if rch n f c c = true then bs (rch n f c) 8 else 0
theorem sp_ringOf {Q : Int32 → Mem → Prop} {b n c : Nat} {f : Nat → Int32} {M : Mem} (h : Ldr n f) (h0 : M b 0 = nI n) (hl : ∀ c, c < n → M (b + 2) c = f (8 + c)) (hc : c < n) (hq : Q (rgs n f c) M) : wp_X7_ringOf Q b (nI c) M := by
  have h8 := h.1
  unfold wp_X7_ringOf bd_X7_ringOf
  refine sp_leadersOf h h0 hl hc (sp_isIn (by omega) ?_)
  rw [bt_rch (by omega)]
  unfold rgs at hq
  cases e : rch n f c c
  · rw [e] at hq; simpa using hq
  · rw [e] at hq; simpa using hq
