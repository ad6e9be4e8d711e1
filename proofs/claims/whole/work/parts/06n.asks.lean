theorem leI (a b : Int32) : a ≤ b ↔ a.toInt ≤ b.toInt := Int32.le_iff_toInt_le
theorem ltI (a b : Int32) : a < b ↔ a.toInt < b.toInt := Int32.lt_iff_toInt_lt
theorem leL (a b : Int64) : a ≤ b ↔ a.toInt ≤ b.toInt := Int64.le_iff_toInt_le
theorem ltL (a b : Int64) : a < b ↔ a.toInt < b.toInt := Int64.lt_iff_toInt_lt
theorem eqI (a b : Int32) : a = b ↔ a.toInt = b.toInt := Int32.toInt_inj.symm
theorem eqL (a b : Int64) : a = b ↔ a.toInt = b.toInt := Int64.toInt_inj.symm
theorem wide (a : Int32) : a.toInt64.toInt = a.toInt := Int32.toInt_toInt64 a
theorem lg_neg (x y : Int64) : lg_cmp x y < 0 ↔ x < y := by
  unfold lg_cmp
  rw [ltL]
  by_cases h1 : x > y
  · rw [if_pos h1]
    have h2 : y.toInt < x.toInt := (ltL y x).mp h1
    exact ⟨fun q => absurd q (by decide), fun q => by omega⟩
  · rw [if_neg h1]
    have h2 : ¬ y.toInt < x.toInt := fun q => h1 ((ltL y x).mpr q)
    by_cases h3 : x = y
    · rw [if_pos h3, h3]
      exact ⟨fun q => absurd q (by decide), fun q => by omega⟩
    · rw [if_neg h3]
      have h4 : ¬ x.toInt = y.toInt := fun q => h3 ((eqL x y).mpr q)
      exact ⟨fun _ => by omega, fun _ => by decide⟩
theorem lg_pos (x y : Int64) : 0 < lg_cmp x y ↔ y < x := by
  unfold lg_cmp
  by_cases h1 : x > y
  · rw [if_pos h1]
    exact ⟨fun _ => h1, fun _ => by decide⟩
  · rw [if_neg h1]
    refine ⟨fun q => ?_, fun q => absurd q h1⟩
    by_cases h3 : x = y
    · rw [if_pos h3] at q; exact absurd q (by decide)
    · rw [if_neg h3] at q; exact absurd q (by decide)
theorem sp_in {Q : Int32 → Mem → Prop} {a lo hi : Int32} {l h : Int64} {M : Mem} (hl : l = lo.toInt64) (hh : h = hi.toInt64) (h1 : lo ≤ a ∧ a ≤ hi → Q 1 M) (h0 : ¬ (lo ≤ a ∧ a ≤ hi) → Q 0 M) : wp_X10_in Q a.toInt64 l h M := by
  unfold wp_X10_in bd_X10_in
  rw [lg_neg, hl, hh, ltL, wide, wide]
  rw [leI, leI] at h1 h0
  refine ⟨fun q => h0 (by omega), fun q => ?_⟩
  by_cases e : 0 < lg_cmp a.toInt64 hi.toInt64
  · rw [if_pos e]
    rw [lg_pos, ltL, wide, wide] at e
    exact ⟨Or.inl rfl, h0 (by omega)⟩
  · rw [if_neg e]
    rw [lg_pos, ltL, wide, wide] at e
    exact ⟨Or.inr rfl, h1 (by omega)⟩
theorem nI_m1_toInt {n : Nat} (hn : n < 1000000) : (nI n - 1).toInt = (n : Int) - 1 := by
  rw [l1, pk_sub_toInt (by omega) (by omega)]
  rfl
theorem in_n {a : Int32} {n : Nat} (hn : n < 1000000) : (0 ≤ a ∧ a ≤ nI n - 1) ↔ ∃ j, j < n ∧ a = nI j := by
  rw [leI, leI, nI_m1_toInt hn]
  have z : (0 : Int32).toInt = 0 := by decide
  rw [z]
  constructor
  · intro ⟨h1, h2⟩
    refine ⟨a.toInt.toNat, by omega, ?_⟩
    rw [eqI, nI_toInt (by omega)]
    omega
  · intro ⟨j, h1, h2⟩
    rw [h2, nI_toInt (by omega)]
    omega
theorem sp_isCar {Q : Int32 → Mem → Prop} {a : Int32} {n : Nat} {M : Mem} (hn : n < 1000000) (h : M 11 0 = nI n) (h1 : ∀ j, j < n → a = nI j → Q 1 M) (h0 : (∀ j, j < n → a ≠ nI j) → Q 0 M) : wp_X9_isCar Q a M := by
  unfold wp_X9_isCar bd_X9_isCar
  rw [h]
  rcases pk_ix a (n := n) (by omega) with q | q | ⟨j, j1, j2⟩
  · refine ⟨fun _ => h0 (fun j hj e => ?_), fun z => absurd q z⟩
    rw [e] at q
    exact nI_nlt0 (by omega) q
  · refine ⟨fun z => ?_, fun z => ?_⟩
    · rw [leI, nI_toInt (by omega)] at q
      rw [ltI] at z
      have e0 : (0 : Int32).toInt = 0 := by decide
      omega
    · rw [if_pos q]
      refine ⟨Or.inl rfl, h0 (fun j hj e => ?_)⟩
      rw [e, leN (by omega) (by omega)] at q
      omega
  · rw [j2, if_neg (by rw [leN (by omega) (by omega)]; omega)]
    exact ⟨fun z => absurd z (nI_nlt0 (by omega)), fun _ => ⟨Or.inr rfl, h1 j j1 j2⟩⟩
theorem sp_isCorner {Q : Int32 → Mem → Prop} {a : Int32} {n : Nat} {M : Mem} (hn : n < 1000000) (h : M 0 10 = nI n) (h1 : ∀ j, j < n → a = nI j → Q 1 M) (h0 : (∀ j, j < n → a ≠ nI j) → Q 0 M) : wp_X9_isCorner Q a M := by
  unfold wp_X9_isCorner bd_X9_isCorner
  rw [h]
  rcases pk_ix a (n := n) (by omega) with q | q | ⟨j, j1, j2⟩
  · refine ⟨fun _ => h0 (fun j hj e => ?_), fun z => absurd q z⟩
    rw [e] at q
    exact nI_nlt0 (by omega) q
  · refine ⟨fun z => ?_, fun z => ?_⟩
    · rw [leI, nI_toInt (by omega)] at q
      rw [ltI] at z
      have e0 : (0 : Int32).toInt = 0 := by decide
      omega
    · rw [if_pos q]
      refine ⟨Or.inl rfl, h0 (fun j hj e => ?_)⟩
      rw [e, leN (by omega) (by omega)] at q
      omega
  · rw [j2, if_neg (by rw [leN (by omega) (by omega)]; omega)]
    exact ⟨fun z => absurd z (nI_nlt0 (by omega)), fun _ => ⟨Or.inr rfl, h1 j j1 j2⟩⟩
theorem sp_isCarR {Q : Int32 → Mem → Prop} {a : Int32} {n : Nat} {M : Mem} (hn : n < 1000000) (h : M 211 2 = nI n) (h1 : ∀ j, j < n → a = nI j → Q 1 M) (h0 : (∀ j, j < n → a ≠ nI j) → Q 0 M) : wp_X10_isCar Q a M := by
  unfold wp_X10_isCar bd_X10_isCar
  refine sp_in (lo := 0) (hi := M 211 2 - 1) (by decide) rfl (fun q => ⟨Or.inr rfl, ?_⟩) (fun q => ⟨Or.inl rfl, h0 (fun j hj e => q ?_)⟩)
  · rw [h, in_n hn] at q
    obtain ⟨j, j1, j2⟩ := q
    exact h1 j j1 j2
  · rw [h, in_n hn]
    exact ⟨j, hj, e⟩
theorem sp_isCornerR {Q : Int32 → Mem → Prop} {a : Int32} {n : Nat} {M : Mem} (hn : n < 1000000) (h : M 211 0 = nI n) (h1 : ∀ j, j < n → a = nI j → Q 1 M) (h0 : (∀ j, j < n → a ≠ nI j) → Q 0 M) : wp_X10_isCorner Q a M := by
  unfold wp_X10_isCorner bd_X10_isCorner
  refine sp_in (lo := 0) (hi := M 211 0 - 1) (by decide) rfl (fun q => ⟨Or.inr rfl, ?_⟩) (fun q => ⟨Or.inl rfl, h0 (fun j hj e => q ?_)⟩)
  · rw [h, in_n hn] at q
    obtain ⟨j, j1, j2⟩ := q
    exact h1 j j1 j2
  · rw [h, in_n hn]
    exact ⟨j, hj, e⟩
theorem sp_areTwoCars {Q : Int32 → Mem → Prop} {a d : Int32} {n : Nat} {M : Mem} (hn : n < 1000000) (h : M 11 0 = nI n) (h1 : ∀ i j, i < n → j < n → i ≠ j → a = nI i → d = nI j → Q 1 M) (h0 : (∀ i j, i < n → j < n → i ≠ j → a = nI i → d = nI j → False) → Q 0 M) : wp_X9_areTwoCars Q a d M := by
  unfold wp_X9_areTwoCars bd_X9_areTwoCars
  refine sp_isCar hn h (fun i hi ei => ⟨fun q => absurd q (by decide), fun _ => sp_isCar hn h (fun j hj ej => ⟨fun q => absurd q (by decide), fun _ => ?_⟩) (fun q => ⟨fun _ => h0 (fun x y _ z2 _ _ z5 => q y z2 z5), fun q => absurd rfl q⟩)⟩) (fun q => ⟨fun _ => h0 (fun x y z1 _ _ z4 _ => q x z1 z4), fun q => absurd rfl q⟩)
  by_cases e : a = d
  · rw [if_pos e]
    refine ⟨Or.inl rfl, h0 (fun x y z1 z2 z3 z4 z5 => z3 ?_)⟩
    rw [z4, z5, eqN (by omega) (by omega)] at e
    exact e
  · rw [if_neg e]
    refine ⟨Or.inr rfl, h1 i j hi hj (fun z => e ?_) ei ej⟩
    rw [ei, ej, z]
theorem sp_areTwo {Q : Int32 → Mem → Prop} {a d : Int32} {n : Nat} {M : Mem} (hn : n < 1000000) (h : M 211 2 = nI n) (h1 : ∀ i j, i < n → j < n → i ≠ j → a = nI i → d = nI j → Q 1 M) (h0 : (∀ i j, i < n → j < n → i ≠ j → a = nI i → d = nI j → False) → Q 0 M) : wp_X10_areTwo Q a d M := by
  unfold wp_X10_areTwo bd_X10_areTwo
  refine sp_isCarR hn h (fun i hi ei => ⟨fun q => absurd q (by decide), fun _ => sp_isCarR hn h (fun j hj ej => ⟨fun q => absurd q (by decide), fun _ => ?_⟩) (fun q => ⟨fun _ => h0 (fun x y _ z2 _ _ z5 => q y z2 z5), fun q => absurd rfl q⟩)⟩) (fun q => ⟨fun _ => h0 (fun x y z1 _ _ z4 _ => q x z1 z4), fun q => absurd rfl q⟩)
  by_cases e : a = d
  · rw [if_pos e]
    refine ⟨Or.inl rfl, h0 (fun x y z1 z2 z3 z4 z5 => z3 ?_)⟩
    rw [z4, z5, eqN (by omega) (by omega)] at e
    exact e
  · rw [if_neg e]
    refine ⟨Or.inr rfl, h1 i j hi hj (fun z => e ?_) ei ej⟩
    rw [ei, ej, z]
/-- a number between two bounds, in the class's way and in the reference's -/
theorem rng (a : Int32) {m : Nat} (hm : m < 1000000) : a < 0 ∨ nI m < a ∨ ∃ k, k ≤ m ∧ a = nI k := by
  rcases pk_ix a (n := m + 1) (by omega) with q | q | ⟨j, j1, j2⟩
  · exact Or.inl q
  · refine Or.inr (Or.inl ?_)
    rw [leI, nI_toInt (by omega)] at q
    rw [ltI, nI_toInt (by omega)]
    omega
  · exact Or.inr (Or.inr ⟨j, by omega, j2⟩)
theorem ltI0 {m : Nat} (hm : m < 1000000) {a : Int32} (h : nI m < a) : ¬ a < 0 ∧ ¬ a ≤ nI m := by
  rw [ltI, nI_toInt (by omega)] at h
  have e0 : (0 : Int32).toInt = 0 := by decide
  rw [ltI, leI, nI_toInt (by omega)]
  omega
/-- first k below m+k for which p holds -/
def frs (p : Nat → Bool) : Nat → Nat → Int32
  | 0, _ => -1
  | m + 1, k => if p k = true then nI k else frs p m (k + 1)
theorem sp_where {Q : Int32 → Mem → Prop} {a1 a2 : Int32} {n : Nat} {R L f : Nat → Int32} {M : Mem} (hw : WF n R L f) (hr : SR n R L f M 11) (hu : (∀ j, j < n → a1 ≠ nI j) → Q (-1000000001) M) (ho : (∃ j, j < n ∧ a1 = nI j) → (∀ k, k ≤ 200 → a2 ≠ nI k) → Q (-1000000002) M) (hq : ∀ j k, j < n → k ≤ 200 → a1 = nI j → a2 = nI k → ∀ M', (∀ a, (a < 18 ∨ 24 < a) → M' a = M a) → Q (stpN n R L f k j) M') : wp_X9_where Q a1 a2 M := by
  have h8 := hw.1
  unfold wp_X9_where bd_X9_where
  refine sp_isCar (n := n) (by omega) hr.1 (fun j hj ej => ⟨fun q => absurd q (by decide), fun _ => ?_⟩) (fun q => ⟨fun _ => hu q, fun q => absurd rfl q⟩)
  rcases rng a2 (m := 200) (by omega) with q | q | ⟨k, k1, k2⟩
  · exact ⟨fun _ => ho ⟨j, hj, ej⟩ (fun k hk e => by rw [e] at q; exact nI_nlt0 (by omega) q), fun z => absurd q z⟩
  · have hz := ltI0 (by omega) q
    exact ⟨fun z => absurd z hz.1, fun _ => ⟨fun z => absurd z hz.2, fun _ => ho ⟨j, hj, ej⟩ (fun k hk e => by rw [e] at hz; exact hz.2 ((leN (by omega) (by omega)).mpr hk))⟩⟩
  · rw [k2, show (200 : Int32) = nI 200 from rfl, leN (by omega) (by omega)]
    refine ⟨fun z => absurd z (nI_nlt0 (by omega)), fun _ => ⟨fun _ => ?_, fun z => absurd k1 z⟩⟩
    refine sp_copyFrom h8 (by omega) hr (fun M2 g1 g2 => sp_moveTimes (by omega) hw g1 (fun M3 g3 g4 => ?_))
    rw [ej, cl (by omega), (g3.2.2 j hj).1]
    exact ⟨inb (by omega) (by omega), hq j k hj k1 ej k2 M3 (fun a ha => by rw [g4 a (by omega), g2 a (by omega)])⟩
theorem sp_whereR {Q : Int32 → Mem → Prop} {a1 a2 : Int32} {n : Nat} {R L f : Nat → Int32} {M : Mem} (hw : WF n R L f) (hc : M 211 2 = nI n) (hR : M 212 = R) (hL : M 213 = L) (hf : M 214 = f) (hu : (∀ j, j < n → a1 ≠ nI j) → Q (-1000000001) M) (ho : (∃ j, j < n ∧ a1 = nI j) → (∀ k, k ≤ 200 → a2 ≠ nI k) → Q (-1000000002) M) (hq : ∀ j k, j < n → k ≤ 200 → a1 = nI j → a2 = nI k → ∀ M', (∀ a, a ≠ 221 → a ≠ 223 → M' a = M a) → Q (stpN n R L f k j) M') : wp_X10_where Q a1 a2 M := by
  have h8 := hw.1
  unfold wp_X10_where bd_X10_where
  refine sp_isCarR (n := n) (by omega) hc (fun j hj ej => ⟨fun q => absurd q (by decide), fun _ => ?_⟩) (fun q => ⟨fun _ => hu q, fun q => absurd rfl q⟩)
  refine sp_in (lo := 0) (hi := 200) (by decide) (by decide) (fun q => ⟨fun q => absurd q (by decide), fun _ => ?_⟩) (fun q => ⟨fun _ => ho ⟨j, hj, ej⟩ (fun k hk e => q ?_), fun q => absurd rfl q⟩)
  · obtain ⟨k, k1, k2⟩ : ∃ k, k ≤ 200 ∧ a2 = nI k := by
      rcases rng a2 (m := 200) (by omega) with z | z | z
      · exact absurd q.1 (by rw [leI]; rw [ltI] at z; omega)
      · exact absurd q.2 (ltI0 (by omega) z).2
      · exact z
    rw [k2]
    refine sp_save (fun M2 g1 g2 => sp_stepTo (by omega) hw (by rw [g2 211 (by decide), hc]) (by rw [g2 212 (by decide), hR]) (by rw [g2 213 (by decide), hL]) (by rw [g2 214 (by decide), hf]) (fun M3 g3 g4 => ?_))
    rw [ej, cl (by omega), g3]
    refine ⟨inb (by omega) (by omega), sp_putBack (fun M6 g5 g6 => hq j k hj k1 ej k2 M6 (fun a b1 b2 => ?_))⟩
    by_cases e : a = 214
    · rw [e, g5, g3, g4 223 (by decide) (by decide), g1, hf, put_again]
    · rw [g6 a e, g4 a e b1, g2 a b2]
  · rw [e, show (0 : Int32) = nI 0 from rfl, show (200 : Int32) = nI 200 from rfl, leN (by omega) (by omega), leN (by omega) (by omega)]
    omega
def eqc (n : Nat) (R L f : Nat → Int32) (i j k : Nat) : Bool := decide (stpN n R L f k i = stpN n R L f k j)
theorem sp_sees {Q : Int32 → Mem → Prop} {a1 a2 : Int32} {n : Nat} {R L f : Nat → Int32} {M : Mem} (hw : WF n R L f) (hr : SR n R L f M 11) (hu : (∀ i j, i < n → j < n → i ≠ j → a1 = nI i → a2 = nI j → False) → Q (-1000000001) M) (hq : ∀ i j, i < n → j < n → i ≠ j → a1 = nI i → a2 = nI j → ∀ M', (∀ a, (a < 18 ∨ 24 < a) → M' a = M a) → Q (frs (eqc n R L f i j) 201 0) M') : wp_X9_sees Q a1 a2 M := by
  have h8 := hw.1
  intro X25 hx
  refine sp_areTwoCars (n := n) (by omega) hr.1 (fun i j hi hj hij ei ej => ⟨fun q => absurd q (by decide), fun _ => ?_⟩) (fun q => ⟨fun _ => hu q, fun q => absurd rfl q⟩)
  have hq := hq i j hi hj hij ei ej
  refine sp_copyFrom h8 (by omega) hr (fun M2 g1 g2 => ?_)
  have key : ∀ m k, k + m = 201 → ∀ M', SR n R L (stpN n R L f k) M' 18 → (∀ a, (a < 18 ∨ 24 < a) → M' a = M a) → (∀ M', (∀ a, (a < 18 ∨ 24 < a) → M' a = M a) → Q (frs (eqc n R L f i j) m k) M') → X25 (nI k) M' := by
    intro m
    induction m with
    | zero =>
      intro k hk M' h1 h2 hq
      apply hx
      unfold bd_X9_sees_25
      rw [show (200 : Int32) = nI 200 from rfl, ltN (by omega) (by omega)]
      exact ⟨fun _ => hq M' h2, fun z => absurd (by omega) z⟩
    | succ m ih =>
      intro k hk M' h1 h2 hq
      apply hx
      unfold bd_X9_sees_25
      rw [show (200 : Int32) = nI 200 from rfl, ltN (by omega) (by omega), ei, ej, cl (by omega), cl (by omega), (h1.2.2 i hi).1, (h1.2.2 j hj).1, nI_1]
      refine ⟨fun z => absurd z (by omega), fun _ => ⟨inb (by omega) (by omega), inb (by omega) (by omega), fun e => ?_, fun e => ?_⟩⟩
      · have h3 := hq M' h2
        rw [frs, if_pos (show eqc n R L f i j k = true from decide_eq_true e)] at h3
        exact h3
      · refine sp_move (WF_stpN hw k) h1 (fun M3 g3 g4 => ih (k + 1) (by omega) M3 g3 (fun a ha => by rw [g4 a (by omega), h2 a ha]) (fun M4 h4 => ?_))
        have h3 := hq M4 h4
        rw [frs, if_neg (by unfold eqc; rw [decide_eq_true_eq]; exact e)] at h3
        exact h3
  have h3 := key 201 0 (by omega) M2 g1 (fun a ha => g2 a (by omega)) hq
  rw [nI_0] at h3
  exact h3
theorem sp_seesR {Q : Int32 → Mem → Prop} {a1 a2 : Int32} {n : Nat} {R L f : Nat → Int32} {M : Mem} (hw : WF n R L f) (hc : M 211 2 = nI n) (hR : M 212 = R) (hL : M 213 = L) (hf : M 214 = f) (hu : (∀ i j, i < n → j < n → i ≠ j → a1 = nI i → a2 = nI j → False) → Q (-1000000001) M) (hq : ∀ i j, i < n → j < n → i ≠ j → a1 = nI i → a2 = nI j → ∀ M', (∀ a, a ≠ 221 → a ≠ 223 → M' a = M a) → Q (frs (eqc n R L f i j) 201 0) M') : wp_X10_sees Q a1 a2 M := by
  have h8 := hw.1
  intro X40 hx
  refine sp_areTwo (n := n) (by omega) hc (fun i j hi hj hij ei ej => ⟨fun q => absurd q (by decide), fun _ => ?_⟩) (fun q => ⟨fun _ => hu q, fun q => absurd rfl q⟩)
  have hq := hq i j hi hj hij ei ej
  refine sp_save (fun M2 g1 g2 => ?_)
  have pb : ∀ (r : Int32) (k : Nat) (M' : Mem), M' 214 = stpN n R L f k → M' 223 = cp41 f (M 223) → (∀ a, a ≠ 214 → a ≠ 221 → a ≠ 223 → M' a = M a) → (∀ M', (∀ a, a ≠ 221 → a ≠ 223 → M' a = M a) → Q r M') → wp_X10_putBack (fun (M1 : Mem) => Q r M1) M' := by
    intro r k M' h1 h2 h3 hq
    refine sp_putBack (fun M6 g5 g6 => hq M6 (fun a b1 b2 => ?_))
    by_cases e : a = 214
    · rw [e, g5, h1, h2, put_again, hf]
    · rw [g6 a e, h3 a e b1 b2]
  -- after k steps, first not yet found up to k - 1, x3 tells of k
  have key : ∀ m k, k + m = 200 → ∀ M', M' 214 = stpN n R L f k → M' 223 = cp41 f (M 223) → (∀ a, a ≠ 214 → a ≠ 221 → a ≠ 223 → M' a = M a) → (∀ M', (∀ a, a ≠ 221 → a ≠ 223 → M' a = M a) → Q (frs (eqc n R L f i j) (m + 1) k) M') → X40 (if stpN n R L f k i = stpN n R L f k j then nI k else -1) (nI (k + 1)) M' := by
    intro m
    induction m with
    | zero =>
      intro k hk M' h1 h2 h3 hq
      apply hx
      unfold bd_X10_sees_40
      rw [show (200 : Int32) = nI 200 from rfl, ltN (by omega) (by omega)]
      refine ⟨fun _ => ?_, fun z => absurd (by omega) z⟩
      refine pb _ k M' h1 h2 h3 (fun M4 h4 => ?_)
      have h5 := hq M4 h4
      rw [frs, frs] at h5
      unfold eqc at h5
      by_cases e : stpN n R L f k i = stpN n R L f k j
      · rw [if_pos e]; rw [if_pos (decide_eq_true e)] at h5; exact h5
      · rw [if_neg e]; rw [if_neg (by rw [decide_eq_true_eq]; exact e)] at h5; exact h5
    | succ m ih =>
      intro k hk M' h1 h2 h3 hq
      apply hx
      unfold bd_X10_sees_40
      rw [show (200 : Int32) = nI 200 from rfl, ltN (by omega) (by omega)]
      refine ⟨fun z => absurd z (by omega), fun _ => ⟨fun z => ?_, fun z => ?_⟩⟩
      · have e : stpN n R L f k i = stpN n R L f k j := by
          by_cases e : stpN n R L f k i = stpN n R L f k j
          · exact e
          · rw [if_neg e] at z; exact absurd z (by decide)
        refine pb _ k M' h1 h2 h3 (fun M4 h4 => ?_)
        have h5 := hq M4 h4
        rw [frs, if_pos (show eqc n R L f i j k = true from decide_eq_true e)] at h5
        rw [if_pos e]; exact h5
      · have e : ¬ stpN n R L f k i = stpN n R L f k j := by
          intro e
          rw [if_pos e] at z
          exact z (nI_ge0 (by omega))
        refine sp_stepAll (WF_stpN hw k) (by rw [h3 211 (by decide) (by decide) (by decide), hc]) (by rw [h3 212 (by decide) (by decide) (by decide), hR]) (by rw [h3 213 (by decide) (by decide) (by decide), hL]) h1 (fun M3 g3 g4 => ?_)
        have e3 : M3 214 = stpN n R L f (k + 1) := g3
        rw [e3, ei, ej, cl (show i < 1000000 by omega), cl (show j < 1000000 by omega), nI_1]
        refine ⟨inb (by omega) (by omega), inb (by omega) (by omega), ih (k + 1) (by omega) M3 e3 (by rw [g4 223 (by decide) (by decide), h2]) (fun a b1 b2 b3 => by rw [g4 a b1 b2, h3 a b1 b2 b3]) (fun M4 h4 => ?_)⟩
        have h5 := hq M4 h4
        rw [frs, if_neg (by unfold eqc; rw [decide_eq_true_eq]; exact e)] at h5
        exact h5
  have h3 := key 200 0 (by omega) M2 (by rw [g2 214 (by decide), hf]; rfl) (by rw [g1, hf]) (fun a b1 b2 b3 => g2 a b3) hq
  rw [ei, ej, cl (show i < 1000000 by omega), cl (show j < 1000000 by omega), g2 214 (by decide), hf]
  rw [nI_0] at h3
  exact ⟨inb (by omega) (by omega), inb (by omega) (by omega), h3⟩
