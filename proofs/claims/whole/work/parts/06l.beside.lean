/-! sets of cars and corners -/
def Cor (n : Nat) (f : Nat → Int32) : Prop := n ≤ 8 ∧ ∀ c, c < n → ∃ k, k < 9 ∧ f c = nI k
theorem WF.cor {n : Nat} {R L f : Nat → Int32} (h : WF n R L f) : Cor n f := ⟨h.1, h.2.1⟩
/-- beside one of a set -/
def bsd (n : Nat) (f : Nat → Int32) (s : Int32) (c : Nat) : Bool := anyb (fun d => bt s d && decide (f d = f c)) n
theorem and_0 {x y : Int32} : x &&& y = 0 ↔ ∀ i, i < 32 → ¬ (bt x i = true ∧ bt y i = true) := by
  constructor
  · intro h i hi ⟨h1, h2⟩
    have := b_and x y i
    rw [h, b_0, h1, h2] at this
    cases this
  · intro h
    apply b_ext
    intro i hi
    rw [b_and, b_0]
    cases e1 : bt x i
    · rfl
    · cases e2 : bt y i
      · rfl
      · exact absurd ⟨e1, e2⟩ (h i hi)
theorem places_step {f : Nat → Int32} {s : Int32} {i k : Nat} (hk : k < 9) (hf : f i = nI k) {x : Int32} (hx : ∀ j, j < 32 → (bt x j = true ↔ ∃ d, d < i ∧ bt s d = true ∧ f d = nI j)) (hs : bt s i = true) : ∀ j, j < 32 → (bt (x ||| ((1 : Int32) <<< (f i &&& 31))) j = true ↔ ∃ d, d < i + 1 ∧ bt s d = true ∧ f d = nI j) := by
  intro j hj
  rw [b_or, hf, bt_one (by omega) hj, Bool.or_eq_true, decide_eq_true_eq, hx j hj]
  constructor
  · intro q
    rcases q with ⟨d, d1, d2⟩ | q
    · exact ⟨d, by omega, d2⟩
    · exact ⟨i, by omega, hs, by rw [hf, q]⟩
  · intro ⟨d, d1, d2, d3⟩
    rcases Nat.lt_or_ge d i with z | z
    · exact Or.inl ⟨d, z, d2, d3⟩
    · have e : d = i := by omega
      rw [e, hf, eqN (by omega) (by omega)] at d3
      exact Or.inr d3.symm
theorem places_skip {f : Nat → Int32} {s : Int32} {i : Nat} {x : Int32} (hx : ∀ j, j < 32 → (bt x j = true ↔ ∃ d, d < i ∧ bt s d = true ∧ f d = nI j)) (hs : bt s i = false) : ∀ j, j < 32 → (bt x j = true ↔ ∃ d, d < i + 1 ∧ bt s d = true ∧ f d = nI j) := by
  intro j hj
  rw [hx j hj]
  constructor
  · intro ⟨d, d1, d2⟩; exact ⟨d, by omega, d2⟩
  · intro ⟨d, d1, d2, d3⟩
    rcases Nat.lt_or_ge d i with z | z
    · exact ⟨d, z, d2, d3⟩
    · have e : d = i := by omega
      rw [e, hs] at d2; cases d2
theorem places_in {n : Nat} {f : Nat → Int32} (hcor : Cor n f) {s x : Int32} (hx : ∀ j, j < 32 → (bt x j = true ↔ ∃ d, d < n ∧ bt s d = true ∧ f d = nI j)) {c k : Nat} (hk : k < 9) (hf : f c = nI k) : bt x k = bsd n f s c := by
  rw [Bool.eq_iff_iff, hx k (by omega)]
  unfold bsd
  rw [anyb_iff]
  constructor
  · intro ⟨d, d1, d2, d3⟩; exact ⟨d, d1, by rw [d2, Bool.true_and, decide_eq_true_eq, d3, hf]⟩
  · intro ⟨d, d1, d2⟩
    rw [Bool.and_eq_true, decide_eq_true_eq] at d2
    exact ⟨d, d1, d2.1, by rw [d2.2, hf]⟩
theorem sp_allBeside {Q : Int32 → Mem → Prop} {b n : Nat} {f : Nat → Int32} {s : Int32} {M : Mem} (h : Cor n f) (h0 : M b 0 = nI n) (hl : ∀ c, c < n → M (b + 1) c = f c) (hq : Q (bs (bsd n f s) n) M) : wp_X7_allBeside Q b s M := by
  have h8 := h.1
  intro X4 X42 h4 h42
  have second : ∀ x : Int32, (∀ j, j < 32 → (bt x j = true ↔ ∃ d, d < n ∧ bt s d = true ∧ f d = nI j)) → X42 x 0 0 M := by
    intro x hx
    have key : X42 x (bs (bsd n f s) 0) (nI 0) M := by
      refine upto (P := fun i => X42 x (bs (bsd n f s) i) (nI i) M) (n := n) ?_ ?_
      · apply h42
        unfold bd_X7_allBeside_42
        rw [h0]
        exact ⟨fun _ => hq, fun q => absurd ((leN (by omega) (by omega)).mpr (Nat.le_refl n)) q⟩
      · intro i hi ih
        apply h42
        unfold bd_X7_allBeside_42
        obtain ⟨k, k1, k2⟩ := h.2 i hi
        rw [h0, leN (by omega) (by omega), cl (by omega), nI_1, hl i hi, k2]
        refine ⟨fun q => absurd q (by omega), fun _ => ⟨inb (by omega) (by omega), sp_isIn (by omega) ?_⟩⟩
        rw [places_in h hx k1 k2]
        rw [bs_succ] at ih
        cases e : bsd n f s i
        · rw [e, if_neg (by decide)] at ih
          exact ⟨fun _ => ih, fun q => absurd rfl q⟩
        · rw [e, if_pos rfl] at ih
          exact ⟨fun q => absurd q (by decide), fun _ => ih⟩
    rw [nI_0] at key
    exact key
  have first : ∀ x : Int32, (∀ j, j < 32 → (bt x j = true ↔ ∃ d, d < 0 ∧ bt s d = true ∧ f d = nI j)) → X4 x (nI 0) M := by
    refine upto (P := fun i => ∀ x : Int32, (∀ j, j < 32 → (bt x j = true ↔ ∃ d, d < i ∧ bt s d = true ∧ f d = nI j)) → X4 x (nI i) M) (n := n) ?_ ?_
    · intro x hx
      apply h4
      unfold bd_X7_allBeside_4
      rw [h0]
      exact ⟨fun _ => second x hx, fun q => absurd ((leN (by omega) (by omega)).mpr (Nat.le_refl n)) q⟩
    · intro i hi ih x hx
      apply h4
      unfold bd_X7_allBeside_4
      obtain ⟨k, k1, k2⟩ := h.2 i hi
      rw [h0, leN (by omega) (by omega), nI_1]
      refine ⟨fun q => absurd q (by omega), fun _ => sp_isIn (by omega) ?_⟩
      rw [cl (by omega), hl i hi]
      cases e : bt s i
      · exact ⟨fun _ => ih x (places_skip hx e), fun q => absurd rfl q⟩
      · exact ⟨fun q => absurd q (by decide), fun _ => ⟨inb (by omega) (by omega), ih _ (places_step k1 k2 hx e)⟩⟩
  have h1 := first 0 (fun j _ => by
    rw [b_0]
    exact ⟨fun q => (by cases q), fun ⟨c, c1, _⟩ => absurd c1 (Nat.not_lt_zero c)⟩)
  rw [nI_0] at h1
  exact h1
theorem sp_handedOn {Q : Int32 → Mem → Prop} {n : Nat} {f : Nat → Int32} {s : Int32} {M : Mem} (h : Cor n f) (h0 : M 211 2 = nI n) (hl : M 214 = f) (hq : Q (bs (bsd n f s) n) M) : wp_X10_handedOn Q s M := by
  have h8 := h.1
  intro X4 X46 h4 h46
  have second : ∀ x : Int32, (∀ j, j < 32 → (bt x j = true ↔ ∃ d, d < n ∧ bt s d = true ∧ f d = nI j)) → X46 x 0 0 M := by
    intro x hx
    have key : X46 x (bs (bsd n f s) 0) (nI 0) M := by
      refine upto (P := fun i => X46 x (bs (bsd n f s) i) (nI i) M) (n := n) ?_ ?_
      · apply h46
        unfold bd_X10_handedOn_46
        rw [h0]
        exact ⟨fun _ => hq, fun q => absurd ((leN (by omega) (by omega)).mpr (Nat.le_refl n)) q⟩
      · intro i hi ih
        apply h46
        unfold bd_X10_handedOn_46
        obtain ⟨k, k1, k2⟩ := h.2 i hi
        rw [h0, leN (by omega) (by omega), cl (by omega), nI_1, hl, k2]
        refine ⟨fun q => absurd q (by omega), fun _ => ⟨inb (by omega) (by omega), sp_has (by omega) ?_⟩⟩
        rw [places_in h hx k1 k2]
        rw [bs_succ] at ih
        cases e : bsd n f s i
        · rw [e, if_neg (by decide)] at ih
          rw [if_pos (show (if false = true then (1 : Int32) else 0) = 0 from rfl), or0]
          exact ih
        · rw [e, if_pos rfl] at ih
          rw [if_neg (show ¬ (if true = true then (1 : Int32) else 0) = 0 by decide)]
          exact ih
    rw [nI_0] at key
    exact key
  have first : ∀ x : Int32, (∀ j, j < 32 → (bt x j = true ↔ ∃ d, d < 0 ∧ bt s d = true ∧ f d = nI j)) → X4 x (nI 0) M := by
    refine upto (P := fun i => ∀ x : Int32, (∀ j, j < 32 → (bt x j = true ↔ ∃ d, d < i ∧ bt s d = true ∧ f d = nI j)) → X4 x (nI i) M) (n := n) ?_ ?_
    · intro x hx
      apply h4
      unfold bd_X10_handedOn_4
      rw [h0]
      exact ⟨fun _ => second x hx, fun q => absurd ((leN (by omega) (by omega)).mpr (Nat.le_refl n)) q⟩
    · intro i hi ih x hx
      apply h4
      unfold bd_X10_handedOn_4
      obtain ⟨k, k1, k2⟩ := h.2 i hi
      rw [h0, leN (by omega) (by omega), nI_1]
      refine ⟨fun q => absurd q (by omega), fun _ => sp_has (by omega) ?_⟩
      rw [cl (by omega), hl]
      refine ⟨fun _ => trivial, fun _ => ⟨inb (by omega) (by omega), trivial⟩, ?_⟩
      cases e : bt s i
      · rw [if_pos (show (if false = true then (1 : Int32) else 0) = 0 from rfl), or0]
        exact ih x (places_skip hx e)
      · rw [if_neg (show ¬ (if true = true then (1 : Int32) else 0) = 0 by decide)]
        exact ih _ (places_step k1 k2 hx e)
  have h1 := first 0 (fun j _ => by
    rw [b_0]
    exact ⟨fun q => (by cases q), fun ⟨c, c1, _⟩ => absurd c1 (Nat.not_lt_zero c)⟩)
  rw [nI_0] at h1
  exact h1
/-- the corners with a car -/
def tk (f : Nat → Int32) : Nat → Int32
  | 0 => 0
  | i + 1 => tk f i ||| ((1 : Int32) <<< (f i &&& 31))
theorem tk_cong {f g : Nat → Int32} : ∀ n, (∀ i, i < n → f i = g i) → tk f n = tk g n
  | 0, _ => rfl
  | n + 1, h => by rw [tk, tk, tk_cong n (fun i hi => h i (by omega)), h n (by omega)]
theorem sp_takenCorners {Q : Int32 → Mem → Prop} {b n : Nat} {f : Nat → Int32} {M : Mem} (h8 : n ≤ 8) (h0 : M b 0 = nI n) (hl : ∀ c, c < n → M (b + 1) c = f c) (hq : Q (tk f n) M) : wp_X7_takenCorners Q b M := by
  intro X4 h4
  have key : X4 (tk f 0) (nI 0) M := by
    refine upto (P := fun i => X4 (tk f i) (nI i) M) (n := n) ?_ ?_
    · apply h4
      unfold bd_X7_takenCorners_4
      rw [h0]
      exact ⟨fun _ => hq, fun q => absurd ((leN (by omega) (by omega)).mpr (Nat.le_refl n)) q⟩
    · intro i hi ih
      apply h4
      unfold bd_X7_takenCorners_4
      rw [h0, leN (by omega) (by omega), cl (by omega), nI_1, hl i hi]
      exact ⟨fun q => absurd q (by omega), fun _ => ⟨inb (by omega) (by omega), ih⟩⟩
  rw [nI_0] at key
  exact key
theorem sp_taken {Q : Int32 → Mem → Prop} {n : Nat} {f : Nat → Int32} {M : Mem} (h8 : n ≤ 8) (h0 : M 211 2 = nI n) (hl : M 214 = f) (hq : Q (tk f n) M) : wp_X10_taken Q M := by
  intro X4 h4
  have key : X4 (tk f 0) (nI 0) M := by
    refine upto (P := fun i => X4 (tk f i) (nI i) M) (n := n) ?_ ?_
    · apply h4
      unfold bd_X10_taken_4
      rw [h0]
      exact ⟨fun _ => hq, fun q => absurd ((leN (by omega) (by omega)).mpr (Nat.le_refl n)) q⟩
    · intro i hi ih
      apply h4
      unfold bd_X10_taken_4
      rw [h0, leN (by omega) (by omega), cl (by omega), nI_1, hl]
      exact ⟨fun q => absurd q (by omega), fun _ => ⟨inb (by omega) (by omega), ih⟩⟩
  rw [nI_0] at key
  exact key
/-- a corner's bit is set just when a car is there -/
theorem tk_bt {n : Nat} {f : Nat → Int32} (h : Cor n f) {j : Nat} (hj : j < 9) : bt (tk f n) j = true ↔ cnt f (nI j) n ≠ 0 := by
  have key : ∀ i, i ≤ n → (bt (tk f i) j = true ↔ cnt f (nI j) i ≠ 0) := by
    intro i
    induction i with
    | zero => intro _; rw [tk, b_0, cnt]; exact ⟨fun q => (by cases q), fun q => absurd rfl q⟩
    | succ i ih =>
      intro hi
      obtain ⟨k, k1, k2⟩ := h.2 i (by omega)
      rw [tk, b_or, Bool.or_eq_true, ih (by omega), k2, bt_one (by omega) (by omega), decide_eq_true_eq, cnt, k2, ]
      by_cases e : j = k
      · rw [if_pos (by rw [e])]
        exact ⟨fun _ => by omega, fun _ => Or.inr e⟩
      · rw [if_neg (by rw [eqN (by omega) (by omega)]; omega)]
        exact ⟨fun q => q.elim id (fun z => absurd z e), fun q => Or.inl q⟩
  exact key n (Nat.le_refl n)
/-- who follows somebody -/
def fol (f : Nat → Int32) (c : Nat) : Bool := decide (¬ f (8 + c) < 0)
theorem sp_allFollowers {Q : Int32 → Mem → Prop} {b n : Nat} {f : Nat → Int32} {M : Mem} (h : Ldr n f) (h0 : M b 0 = nI n) (hl : ∀ c, c < n → M (b + 2) c = f (8 + c)) (hq : Q (bs (fol f) n) M) : wp_X7_allFollowers Q b M := by
  have h8 := h.1
  intro X4 h4
  have key : X4 (bs (fol f) 0) (nI 0) M := by
    refine upto (P := fun i => X4 (bs (fol f) i) (nI i) M) (n := n) ?_ ?_
    · apply h4
      unfold bd_X7_allFollowers_4
      rw [h0]
      exact ⟨fun _ => hq, fun q => absurd ((leN (by omega) (by omega)).mpr (Nat.le_refl n)) q⟩
    · intro i hi ih
      apply h4
      unfold bd_X7_allFollowers_4
      have hld := neg_lead h8 (h.2 i hi)
      rw [h0, leN (by omega) (by omega), cl (by omega), nI_1, hl i hi, ← hld]
      rw [bs_succ] at ih
      refine ⟨fun q => absurd q (by omega), fun _ => ⟨inb (by omega) (by omega), fun q => ?_, fun q => ?_⟩⟩
      · rw [if_neg (by unfold fol; rw [decide_eq_true_eq]; exact fun z => z q)] at ih; exact ih
      · rw [if_pos (by unfold fol; rw [decide_eq_true_eq]; exact q)] at ih; exact ih
  rw [nI_0] at key
  exact key
theorem sp_followers {Q : Int32 → Mem → Prop} {n : Nat} {f : Nat → Int32} {M : Mem} (h8 : n ≤ 8) (h0 : M 211 2 = nI n) (hl : M 214 = f) (hq : Q (bs (fol f) n) M) : wp_X10_followers Q M := by
  intro X4 h4
  have key : X4 (bs (fol f) 0) (nI 0) M := by
    refine upto (P := fun i => X4 (bs (fol f) i) (nI i) M) (n := n) ?_ ?_
    · apply h4
      unfold bd_X10_followers_4
      rw [h0]
      exact ⟨fun _ => hq, fun q => absurd ((leN (by omega) (by omega)).mpr (Nat.le_refl n)) q⟩
    · intro i hi ih
      apply h4
      unfold bd_X10_followers_4
      rw [h0, leN (by omega) (by omega), a8, cl (by omega), nI_1, hl]
      rw [bs_succ] at ih
      refine ⟨fun q => absurd q (by omega), fun _ => ⟨inb (by omega) (by omega), ?_⟩⟩
      by_cases q : f (8 + i) < 0
      · rw [if_neg (by unfold fol; rw [decide_eq_true_eq]; exact fun z => z q)] at ih
        rw [if_pos q, or0]; exact ih
      · rw [if_pos (by unfold fol; rw [decide_eq_true_eq]; exact q)] at ih
        rw [if_neg q]; exact ih
  rw [nI_0] at key
  exact key
