def anyb (p : Nat → Bool) : Nat → Bool
  | 0 => false
  | i + 1 => anyb p i || p i
theorem anyb_iff (p : Nat → Bool) : ∀ n, anyb p n = true ↔ ∃ k, k < n ∧ p k = true
  | 0 => ⟨fun h => (by cases h), fun ⟨k, h, _⟩ => absurd h (Nat.not_lt_zero k)⟩
  | n + 1 => by
    rw [anyb, Bool.or_eq_true, anyb_iff p n]
    constructor
    · intro h
      rcases h with ⟨k, h1, h2⟩ | h
      · exact ⟨k, by omega, h2⟩
      · exact ⟨n, by omega, h⟩
    · intro ⟨k, h1, h2⟩
      rcases Nat.lt_or_ge k n with q | q
      · exact Or.inl ⟨k, q, h2⟩
      · have e : k = n := by omega
        rw [e] at h2
        exact Or.inr h2
theorem anyb_false {p : Nat → Bool} {n : Nat} (h : anyb p n = false) {k : Nat} (hk : k < n) : p k = false := by
  cases e : p k
  · rfl
  · rw [(anyb_iff p n).mpr ⟨k, hk, e⟩] at h; cases h
/-- the least of its own ring -/
def mk (n : Nat) (f : Nat → Int32) (c : Nat) : Bool := rch n f c c && !(anyb (rch n f c) c)
def isl (n : Nat) (f : Nat → Int32) (c m : Nat) : Prop := rch n f c m = true ∧ ∀ e, e < m → rch n f c e = false
theorem isl_ex {n : Nat} {f : Nat → Int32} {c : Nat} (hr : rch n f c c = true) : ∃ m, m ≤ c ∧ isl n f c m := by
  obtain ⟨m, h1, h2⟩ := pk_least (fun m => rch n f c m = true) ⟨c, hr⟩
  refine ⟨m, ?_, h1, fun e he => ?_⟩
  · rcases Nat.lt_or_ge c m with q | q
    · exact absurd hr (h2 c q)
    · exact q
  · have := h2 e he
    simpa using this
theorem isl_one {n : Nat} {f : Nat → Int32} {c m m' : Nat} (h : isl n f c m) (h' : isl n f c m') : m = m' := by
  rcases Nat.lt_trichotomy m m' with q | q | q
  · have z := h.1; rw [h'.2 m q] at z; cases z
  · exact q
  · have z := h'.1; rw [h.2 m' q] at z; cases z
theorem mk_iff {n : Nat} {f : Nat → Int32} {c : Nat} : mk n f c = true ↔ isl n f c c := by
  unfold mk isl
  rw [Bool.and_eq_true, Bool.not_eq_true']
  constructor
  · intro ⟨h1, h2⟩; exact ⟨h1, fun e he => anyb_false h2 he⟩
  · intro ⟨h1, h2⟩
    refine ⟨h1, ?_⟩
    cases e : anyb (rch n f c) c
    · rfl
    · obtain ⟨k, k1, k2⟩ := (anyb_iff _ _).mp e
      rw [h2 k k1] at k2; cases k2
theorem rgs_bt {n : Nat} {f : Nat → Int32} {c d : Nat} (hr : rch n f c c = true) (hd : d < 8) : bt (rgs n f c) d = rch n f c d := by
  unfold rgs
  rw [if_pos hr, bt_rch hd]
theorem rgs_0 {n : Nat} {f : Nat → Int32} {c : Nat} (hc : c < 8) : rgs n f c = 0 ↔ ¬ rch n f c c = true := by
  constructor
  · intro h hr
    have h1 := rgs_bt hr hc
    rw [h, b_0, hr] at h1
    cases h1
  · intro h; unfold rgs; rw [if_neg h]
/-- within a ring each comes to each -/
theorem ring_back {n : Nat} {f : Nat → Int32} (h : Ldr n f) {c d : Nat} (hc : c < n) (hd : d < n) (h1 : rch n f c c = true) (h2 : rch n f c d = true) : rch n f d c = true := by
  obtain ⟨i, q1⟩ := (rch_iff h hc hc).mp h1
  obtain ⟨k, q2⟩ := (rch_iff h hc hd).mp h2
  have per : ∀ t, pth n f c (t * (i + 1)) = c := by
    intro t
    induction t with
    | zero => rw [Nat.zero_mul]; rfl
    | succ t ih => rw [Nat.succ_mul, pth_per q1]; exact ih
  have hp := per (k + 2)
  have e : (k + 2) * (i + 1) = (k + 1) + ((k + 2) * (i + 1) - (k + 1)) := by
    have : k + 2 ≤ (k + 2) * (i + 1) := Nat.le_mul_of_pos_right _ (by omega)
    omega
  rw [e, pth_add, q2] at hp
  refine (rch_iff h hd hc).mpr ⟨(k + 2) * (i + 1) - (k + 1) - 1, ?_⟩
  have e2 : (k + 2) * (i + 1) - (k + 1) - 1 + 1 = (k + 2) * (i + 1) - (k + 1) := by
    have : k + 2 ≤ (k + 2) * (i + 1) := Nat.le_mul_of_pos_right _ (by omega)
    omega
  rw [e2]
  exact hp
theorem ring_isl {n : Nat} {f : Nat → Int32} (h : Ldr n f) {c m : Nat} (hc : c < n) (hm : m < n) (h1 : rch n f c c = true) (hi : isl n f c m) : isl n f m m := by
  have hb := ring_back h hc hm h1 hi.1
  refine ⟨rch_tr h hm hc hm hb hi.1, fun e he => ?_⟩
  cases q : rch n f m e
  · rfl
  · have := rch_tr h hc hm (show e < n by omega) hi.1 q
    rw [hi.2 e he] at this; cases this
def bq (i : Nat) (b : Bool) (x : Int32) : Int32 := if b = true then x ||| ((1 : Int32) <<< (nI i &&& 31)) else x
theorem bs8 (p : Nat → Bool) : bs p 8 = bq 7 (p 7) (bq 6 (p 6) (bq 5 (p 5) (bq 4 (p 4) (bq 3 (p 3) (bq 2 (p 2) (bq 1 (p 1) (bq 0 (p 0) 0))))))) := rfl
theorem low8 : ∀ b0 b1 b2 b3 b4 b5 b6 b7 : Bool, (bq 7 b7 (bq 6 b6 (bq 5 b5 (bq 4 b4 (bq 3 b3 (bq 2 b2 (bq 1 b1 (bq 0 b0 0))))))) &&& -(bq 7 b7 (bq 6 b6 (bq 5 b5 (bq 4 b4 (bq 3 b3 (bq 2 b2 (bq 1 b1 (bq 0 b0 0))))))))) = (if b0 = true then (1 : Int32) <<< (nI 0 &&& 31) else if b1 = true then (1 : Int32) <<< (nI 1 &&& 31) else if b2 = true then (1 : Int32) <<< (nI 2 &&& 31) else if b3 = true then (1 : Int32) <<< (nI 3 &&& 31) else if b4 = true then (1 : Int32) <<< (nI 4 &&& 31) else if b5 = true then (1 : Int32) <<< (nI 5 &&& 31) else if b6 = true then (1 : Int32) <<< (nI 6 &&& 31) else if b7 = true then (1 : Int32) <<< (nI 7 &&& 31) else 0) := by decide +kernel
theorem low_bs {p : Nat → Bool} {m : Nat} (hm : m < 8) (h1 : p m = true) (h2 : ∀ e, e < m → p e = false) : bs p 8 &&& -(bs p 8) = (1 : Int32) <<< (nI m &&& 31) := by
  rw [bs8, low8]
  rcases (by omega : m = 0 ∨ m = 1 ∨ m = 2 ∨ m = 3 ∨ m = 4 ∨ m = 5 ∨ m = 6 ∨ m = 7) with rfl | rfl | rfl | rfl | rfl | rfl | rfl | rfl
  · rw [if_pos h1]
  · rw [if_neg (by rw [h2 0 (by omega)]; decide), if_pos h1]
  · rw [if_neg (by rw [h2 0 (by omega)]; decide), if_neg (by rw [h2 1 (by omega)]; decide), if_pos h1]
  · rw [if_neg (by rw [h2 0 (by omega)]; decide), if_neg (by rw [h2 1 (by omega)]; decide), if_neg (by rw [h2 2 (by omega)]; decide), if_pos h1]
  · rw [if_neg (by rw [h2 0 (by omega)]; decide), if_neg (by rw [h2 1 (by omega)]; decide), if_neg (by rw [h2 2 (by omega)]; decide), if_neg (by rw [h2 3 (by omega)]; decide), if_pos h1]
  · rw [if_neg (by rw [h2 0 (by omega)]; decide), if_neg (by rw [h2 1 (by omega)]; decide), if_neg (by rw [h2 2 (by omega)]; decide), if_neg (by rw [h2 3 (by omega)]; decide), if_neg (by rw [h2 4 (by omega)]; decide), if_pos h1]
  · rw [if_neg (by rw [h2 0 (by omega)]; decide), if_neg (by rw [h2 1 (by omega)]; decide), if_neg (by rw [h2 2 (by omega)]; decide), if_neg (by rw [h2 3 (by omega)]; decide), if_neg (by rw [h2 4 (by omega)]; decide), if_neg (by rw [h2 5 (by omega)]; decide), if_pos h1]
  · rw [if_neg (by rw [h2 0 (by omega)]; decide), if_neg (by rw [h2 1 (by omega)]; decide), if_neg (by rw [h2 2 (by omega)]; decide), if_neg (by rw [h2 3 (by omega)]; decide), if_neg (by rw [h2 4 (by omega)]; decide), if_neg (by rw [h2 5 (by omega)]; decide), if_neg (by rw [h2 6 (by omega)]; decide), if_pos h1]
theorem sp_leastOfRings {Q : Int32 → Mem → Prop} {b n : Nat} {f : Nat → Int32} {M : Mem} (h : Ldr n f) (h0 : M b 0 = nI n) (hl : ∀ c, c < n → M (b + 2) c = f (8 + c)) (hq : Q (bs (mk n f) n) M) : wp_X7_leastOfRings Q b M := by
  have h8 := h.1
  intro X4 h4
  have key : ∀ s : Int32, (∀ d, d < 32 → (bt s d = true ↔ ∃ c, c < 0 ∧ rch n f c c = true ∧ isl n f c d)) → X4 s (nI 0) M := by
    refine upto (P := fun i => ∀ s : Int32, (∀ d, d < 32 → (bt s d = true ↔ ∃ c, c < i ∧ rch n f c c = true ∧ isl n f c d)) → X4 s (nI i) M) (n := n) ?_ ?_
    · intro s hs
      apply h4
      unfold bd_X7_leastOfRings_4
      have e : s = bs (mk n f) n := by
        apply b_ext
        intro d hd
        rw [bt_bs _ _ _ (by omega) hd, Bool.eq_iff_iff, hs d hd, Bool.and_eq_true, decide_eq_true_eq, mk_iff]
        constructor
        · intro ⟨c, c1, c2, c3⟩
          obtain ⟨m, m1, m2⟩ := isl_ex c2
          have e := isl_one c3 m2
          have hm : d < n := by omega
          exact ⟨hm, ring_isl h c1 hm c2 c3⟩
        · intro ⟨d1, d2⟩
          exact ⟨d, d1, d2.1, d2⟩
      rw [h0, e]
      exact ⟨fun _ => hq, fun q => absurd ((leN (by omega) (by omega)).mpr (Nat.le_refl n)) q⟩
    · intro i hi ih s hs
      apply h4
      unfold bd_X7_leastOfRings_4
      rw [h0, leN (by omega) (by omega), nI_1]
      refine ⟨fun q => absurd q (by omega), fun _ => sp_ringOf h h0 hl hi (ih _ (fun d hd => ?_))⟩
      rw [b_or, Bool.or_eq_true, hs d hd]
      by_cases hr : rch n f i i = true
      · obtain ⟨m, m1, m2⟩ := isl_ex hr
        have e : rgs n f i = bs (rch n f i) 8 := if_pos hr
        rw [e, low_bs (by omega) m2.1 m2.2, bt_one (by omega) hd, decide_eq_true_eq]
        constructor
        · intro q
          rcases q with ⟨c, c1, c2⟩ | q
          · exact ⟨c, by omega, c2⟩
          · exact ⟨i, by omega, hr, by rw [q]; exact m2⟩
        · intro ⟨c, c1, c2, c3⟩
          rcases Nat.lt_or_ge c i with z | z
          · exact Or.inl ⟨c, z, c2, c3⟩
          · have e : c = i := by omega
            rw [e] at c3
            exact Or.inr (isl_one c3 m2)
      · have e : rgs n f i = 0 := if_neg hr
        have e2 : (0 : Int32) &&& -(0 : Int32) = 0 := by decide
        rw [e, e2, b_0]
        constructor
        · intro q
          rcases q with ⟨c, c1, c2⟩ | q
          · exact ⟨c, by omega, c2⟩
          · cases q
        · intro ⟨c, c1, c2, c3⟩
          rcases Nat.lt_or_ge c i with z | z
          · exact Or.inl ⟨c, z, c2, c3⟩
          · have e : c = i := by omega
            rw [e] at c2
            exact absurd c2 hr
  have h1 := key 0 (fun d _ => by
    rw [b_0]
    exact ⟨fun q => (by cases q), fun ⟨c, c1, _⟩ => absurd c1 (Nat.not_lt_zero c)⟩)
  rw [nI_0] at h1
  exact h1
theorem sp_stopR {Q : Int32 → Mem → Prop} {n : Nat} {f : Nat → Int32} {M : Mem} (h : Ldr n f) (h0 : M 211 2 = nI n) (hf : M 214 = f) (hq : Q (bs (mk n f) n) M) : wp_X10_stop Q M := by
  have h8 := h.1
  intro X4 h4
  have key : X4 (bs (mk n f) 0) (nI 0) M := by
    refine upto (P := fun i => X4 (bs (mk n f) i) (nI i) M) (n := n) ?_ ?_
    · apply h4
      unfold bd_X10_stop_4
      rw [h0]
      exact ⟨fun _ => hq, fun q => absurd ((leN (by omega) (by omega)).mpr (Nat.le_refl n)) q⟩
    · intro i hi ih
      apply h4
      unfold bd_X10_stop_4
      rw [h0, leN (by omega) (by omega), nI_1]
      refine ⟨fun q => absurd q (by omega), fun _ => sp_ringOfR h hf hi ?_⟩
      rw [rgs_0 (by omega)]
      rw [bs_succ] at ih
      refine ⟨fun q => ?_, fun q => ?_⟩
      · have e : ¬ mk n f i = true := fun z => q (mk_iff.mp z).1
        rw [if_neg e] at ih
        rw [or0]; exact ih
      · have hr : rch n f i i = true := by simpa using q
        obtain ⟨m, m1, m2⟩ := isl_ex hr
        refine sp_least (m := m) (by omega) (by rw [rgs_bt hr (by omega)]; exact m2.1) (fun j hj => by rw [rgs_bt hr (by omega)]; exact m2.2 j hj) ?_
        by_cases e : m = i
        · rw [if_pos (by rw [e])]
          rw [if_pos (mk_iff.mpr (by rw [← e] at m2 ⊢; exact m2))] at ih
          exact ih
        · rw [if_neg (by rw [eqN (by omega) (by omega)]; exact e), or0]
          have e2 : ¬ mk n f i = true := fun z => e (isl_one m2 (mk_iff.mp z))
          rw [if_neg e2] at ih
          exact ih
  rw [nI_0] at key
  exact key
