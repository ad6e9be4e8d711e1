/-- the fullest of the first i corners -/
def mxc (f : Nat → Int32) (n : Nat) : Nat → Nat
  | 0 => 0
  | i + 1 => if mxc f n i < cnt f (nI i) n then cnt f (nI i) n else mxc f n i
theorem mxc_le (f : Nat → Int32) (n : Nat) : ∀ i, mxc f n i ≤ n
  | 0 => Nat.zero_le _
  | i + 1 => by
    have h1 := mxc_le f n i
    have h2 := cnt_le f (nI i) n
    rw [mxc]
    split <;> omega
theorem sp_meets {Q : Int32 → Mem → Prop} {a1 : Int32} {n nc : Nat} {R L f : Nat → Int32} {M : Mem} (hnc : nc ≤ 9) (hco : M 0 10 = nI nc) (hw : WF n R L f) (hr : SR n R L f M 11) (ho : (∀ k, k ≤ 200 → a1 ≠ nI k) → Q (-1000000002) M) (hq : ∀ k, k ≤ 200 → a1 = nI k → ∀ M', (∀ a, (a < 18 ∨ 24 < a) → M' a = M a) → Q (nI (mxc (stpN n R L f k) n nc)) M') : wp_X9_meets Q a1 M := by
  have h8 := hw.1
  intro X37 hx
  unfold bd_X9_meets
  rcases rng a1 (m := 200) (by omega) with q | q | ⟨k, k1, k2⟩
  · exact ⟨fun _ => ho (fun k hk e => by rw [e] at q; exact nI_nlt0 (by omega) q), fun z => absurd q z⟩
  · have hz := ltI0 (by omega) q
    exact ⟨fun z => absurd z hz.1, fun _ => ⟨fun z => absurd z hz.2, fun _ => ho (fun k hk e => by rw [e] at hz; exact hz.2 ((leN (by omega) (by omega)).mpr hk))⟩⟩
  · rw [k2, l200, leN (by omega) (by omega)]
    refine ⟨fun z => absurd z (nI_nlt0 (by omega)), fun _ => ⟨fun _ => ?_, fun z => absurd k1 z⟩⟩
    refine sp_copyFrom h8 (by omega) hr (fun M2 g1 g2 => sp_moveTimes (by omega) hw g1 (fun M3 g3 g4 => ?_))
    have fr : ∀ a, (a < 18 ∨ 24 < a) → M3 a = M a := fun a ha => by rw [g4 a (by omega), g2 a (by omega)]
    have key : X37 (nI (mxc (stpN n R L f k) n 0)) (nI 0) M3 := by
      refine upto (P := fun i => X37 (nI (mxc (stpN n R L f k) n i)) (nI i) M3) (n := nc) ?_ ?_
      · apply hx
        unfold bd_X9_meets_37
        rw [fr 0 (by omega), hco]
        exact ⟨fun _ => hq k k1 k2 M3 fr, fun z => absurd ((leN (by omega) (by omega)).mpr (Nat.le_refl nc)) z⟩
      · intro i hi ih
        apply hx
        unfold bd_X9_meets_37
        rw [fr 0 (by omega), hco, leN (by omega) (by omega), nI_1]
        refine ⟨fun z => absurd z (by omega), fun _ => sp_carsAt h8 g3.1 ?_⟩
        have ec : cnt (M3 (18 + 1)) (nI i) n = cnt (stpN n R L f k) (nI i) n := cnt_cong n (fun c hc => (g3.2.2 c hc).1)
        have h1 := mxc_le (stpN n R L f k) n i
        have h2 := cnt_le (stpN n R L f k) (nI i) n
        rw [mxc] at ih
        rw [ec]
        by_cases e : mxc (stpN n R L f k) n i < cnt (stpN n R L f k) (nI i) n
        · rw [if_pos e] at ih
          rw [if_pos ((ltN (by omega) (by omega)).mpr e)]; exact ih
        · rw [if_neg e] at ih
          rw [if_neg (fun z => e ((ltN (by omega) (by omega)).mp z))]; exact ih
    rw [nI_0] at key
    exact key
theorem sp_meetsR {Q : Int32 → Mem → Prop} {a1 : Int32} {n nc : Nat} {R L f : Nat → Int32} {M : Mem} (hnc : nc ≤ 9) (hco : M 211 0 = nI nc) (hw : WF n R L f) (hc : M 211 2 = nI n) (hR : M 212 = R) (hL : M 213 = L) (hf : M 214 = f) (ho : (∀ k, k ≤ 200 → a1 ≠ nI k) → Q (-1000000002) M) (hq : ∀ k, k ≤ 200 → a1 = nI k → ∀ M', (∀ a, a ≠ 221 → a ≠ 223 → M' a = M a) → Q (nI (mxc (stpN n R L f k) n nc)) M') : wp_X10_meets Q a1 M := by
  have h8 := hw.1
  intro X28 X42 hx hy
  refine sp_in (lo := 0) (hi := 200) (by decide) (by decide) (fun q => ⟨fun q => absurd q (by decide), fun _ => ?_⟩) (fun q => ⟨fun _ => ho (fun k hk e => q ?_), fun q => absurd rfl q⟩)
  · obtain ⟨k, k1, k2⟩ : ∃ k, k ≤ 200 ∧ a1 = nI k := by
      rcases rng a1 (m := 200) (by omega) with z | z | z
      · exact absurd q.1 (by rw [leI]; rw [ltI] at z; omega)
      · exact absurd q.2 (ltI0 (by omega) z).2
      · exact z
    have hq := hq k k1 k2
    rw [k2]
    refine sp_save (fun M2 g1 g2 => sp_stepTo (by omega) hw (by rw [g2 211 (by decide), hc]) (by rw [g2 212 (by decide), hR]) (by rw [g2 213 (by decide), hL]) (by rw [g2 214 (by decide), hf]) (fun M3 g3 g4 => ?_))
    have fr : ∀ a, a ≠ 214 → a ≠ 221 → a ≠ 223 → M3 a = M a := fun a b1 b2 b3 => by rw [g4 a b1 b2, g2 a b3]
    have f11 : M3 211 = M 211 := fr 211 (by decide) (by decide) (by decide)
    have key : X28 (nI (mxc (stpN n R L f k) n 0)) (nI 0) M3 := by
      refine upto (P := fun i => X28 (nI (mxc (stpN n R L f k) n i)) (nI i) M3) (n := nc) ?_ ?_
      · apply hx
        unfold bd_X10_meets_28
        rw [f11, hco]
        refine ⟨fun _ => sp_putBack (fun M6 g5 g6 => hq M6 (fun a b1 b2 => ?_)), fun z => absurd ((leN (by omega) (by omega)).mpr (Nat.le_refl nc)) z⟩
        by_cases e : a = 214
        · rw [e, g5, g3, g4 223 (by decide) (by decide), g1, hf, put_again]
        · rw [g6 a e, g4 a e b1, g2 a b2]
      · intro i hi ih
        apply hx
        unfold bd_X10_meets_28
        rw [f11, hco, leN (by omega) (by omega)]
        refine ⟨fun z => absurd z (by omega), fun _ => ?_⟩
        have k3 : X42 (nI (mxc (stpN n R L f k) n i)) (nI i) (nI (cnt (stpN n R L f k) (nI i) 0)) (nI 0) M3 := by
          refine upto (P := fun c => X42 (nI (mxc (stpN n R L f k) n i)) (nI i) (nI (cnt (stpN n R L f k) (nI i) c)) (nI c) M3) (n := n) ?_ ?_
          · apply hy
            unfold bd_X10_meets_42
            rw [f11, hc, nI_1]
            refine ⟨fun _ => ?_, fun z => absurd ((leN (by omega) (by omega)).mpr (Nat.le_refl n)) z⟩
            have h1 := mxc_le (stpN n R L f k) n i
            have h2 := cnt_le (stpN n R L f k) (nI i) n
            rw [mxc] at ih
            by_cases e : mxc (stpN n R L f k) n i < cnt (stpN n R L f k) (nI i) n
            · rw [if_pos e] at ih
              rw [if_neg (by rw [leN (by omega) (by omega)]; omega)]; exact ih
            · rw [if_neg e] at ih
              rw [if_pos (by rw [leN (by omega) (by omega)]; omega)]; exact ih
          · intro c hc2 ih2
            apply hy
            unfold bd_X10_meets_42
            rw [f11, hc, leN (by omega) (by omega), cl (by omega), nI_1 c, g3]
            refine ⟨fun z => absurd z (by omega), fun _ => ⟨inb (by omega) (by omega), ?_⟩⟩
            rw [cnt] at ih2
            by_cases e : stpN n R L f k c = nI i
            · rw [if_pos e, nI_1]; rw [if_pos e] at ih2; exact ih2
            · rw [if_neg e, Int32.add_zero]; rw [if_neg e] at ih2; exact ih2
        rw [nI_0] at k3
        exact k3
    rw [nI_0] at key
    exact key
  · rw [e, show (0 : Int32) = nI 0 from rfl, show (200 : Int32) = nI 200 from rfl, leN (by omega) (by omega), leN (by omega) (by omega)]
    omega
def ask (o : Int32) : Nat → Int64
  | 0 => 1000000000
  | k + 1 => (ask o k * (100 - o).toInt64) / 100
theorem sp_asked {Q : Int32 → Mem → Prop} {a1 : Int32} {M : Mem} (ho : (∀ k, k ≤ 60 → a1 ≠ nI k) → Q (-1000000002) M) (hq : ∀ k, k ≤ 60 → a1 = nI k → Q (ask (M 0 11) k).toInt32 M) : wp_X9_asked Q a1 M := by
  intro X20 hx
  unfold bd_X9_asked
  rcases rng a1 (m := 60) (by omega) with q | q | ⟨k, k1, k2⟩
  · exact ⟨fun _ => ho (fun k hk e => by rw [e] at q; exact nI_nlt0 (by omega) q), fun z => absurd q z⟩
  · have hz := ltI0 (by omega) q
    exact ⟨fun z => absurd z hz.1, fun _ => ⟨fun z => absurd z hz.2, fun _ => ho (fun k hk e => by rw [e] at hz; exact hz.2 ((leN (by omega) (by omega)).mpr hk))⟩⟩
  · have key : X20 (ask (M 0 11) 0) (nI 0) M := by
      refine upto (P := fun i => X20 (ask (M 0 11) i) (nI i) M) (n := k) ?_ ?_
      · apply hx
        unfold bd_X9_asked_20
        rw [k2]
        exact ⟨fun _ => hq k k1 k2, fun z => absurd ((leN (by omega) (by omega)).mpr (Nat.le_refl k)) z⟩
      · intro i hi ih
        apply hx
        unfold bd_X9_asked_20
        rw [k2, leN (by omega) (by omega), nI_1]
        exact ⟨fun z => absurd z (by omega), fun _ => ih⟩
    rw [nI_0] at key
    rw [k2, show (60 : Int32) = nI 60 from rfl, leN (by omega) (by omega)]
    exact ⟨fun z => absurd z (nI_nlt0 (by omega)), fun _ => ⟨fun _ => key, fun z => absurd k1 z⟩⟩
theorem sp_askedR {Q : Int32 → Mem → Prop} {a1 : Int32} {M : Mem} (ho : (∀ k, k ≤ 60 → a1 ≠ nI k) → Q (-1000000002) M) (hq : ∀ k, k ≤ 60 → a1 = nI k → Q (ask (M 211 1) k).toInt32 M) : wp_X10_asked Q a1 M := by
  intro X22 hx
  refine sp_in (lo := 0) (hi := 60) (by decide) (by decide) (fun q => ⟨fun q => absurd q (by decide), fun _ => ?_⟩) (fun q => ⟨fun _ => ho (fun k hk e => q ?_), fun q => absurd rfl q⟩)
  · obtain ⟨k, k1, k2⟩ : ∃ k, k ≤ 60 ∧ a1 = nI k := by
      rcases rng a1 (m := 60) (by omega) with z | z | z
      · exact absurd q.1 (by rw [leI]; rw [ltI] at z; omega)
      · exact absurd q.2 (ltI0 (by omega) z).2
      · exact z
    have key : X22 (ask (M 211 1) 0) (nI 0) M := by
      refine upto (P := fun i => X22 (ask (M 211 1) i) (nI i) M) (n := k) ?_ ?_
      · apply hx
        unfold bd_X10_asked_22
        rw [k2]
        exact ⟨fun _ => hq k k1 k2, fun z => absurd ((leN (by omega) (by omega)).mpr (Nat.le_refl k)) z⟩
      · intro i hi ih
        apply hx
        unfold bd_X10_asked_22
        rw [k2, leN (by omega) (by omega), nI_1]
        exact ⟨fun z => absurd z (by omega), fun _ => ih⟩
    rw [nI_0] at key
    exact key
  · rw [e, show (0 : Int32) = nI 0 from rfl, show (60 : Int32) = nI 60 from rfl, leN (by omega) (by omega), leN (by omega) (by omega)]
    omega
