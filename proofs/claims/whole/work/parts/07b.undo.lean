theorem CH_c {n u : Nat} {R L : Nat → Int32} {hs : Nat → Nat → Int32} {M M' : Mem} (h : ∀ a, 25 ≤ a → a ≤ 166 → M' a = M a) (hh : CH n R L u hs M) : CH n R L u hs M' := by
  obtain ⟨hu, top, ht, h1, h2, h3⟩ := hh
  refine ⟨hu, top, ht, by rw [h 25 (by omega) (by omega)]; exact h1, by rw [h 25 (by omega) (by omega)]; exact h2, fun j hj => SR_c (fun a b1 b2 => ?_) (h3 j hj)⟩
  have : (top + 20 - u + j) % 20 < 20 := Nat.mod_lt _ (by omega)
  exact h a (by omega) (by omega)
theorem sp_pop {Q : Mem → Prop} {n u : Nat} {R L : Nat → Int32} {hs : Nat → Nat → Int32} {M : Mem} (hn : n ≤ 8) (hu1 : 1 ≤ u) (hh : CH n R L u hs M) (hq : ∀ M', CH n R L (u - 1) hs M' → SR n R L (hs (u - 1)) M' 11 → M' 25 2 = nI (u - 1) → (∀ a, (a < 11 ∨ 17 < a) → a ≠ 25 → M' a = M a) → Q M') : wp_X4_pop Q M := by
  obtain ⟨hu, top, ht, h1, h2, h3⟩ := hh
  unfold wp_X4_pop bd_X4_pop
  rw [h2, l0, leN (by omega) (by omega)]
  refine ⟨fun z => absurd z (by omega), fun _ M1 e1 => ?_⟩
  have et : M 25 1 + 20 - 1 - (M 25 1 + 20 - 1) / 20 * 20 = nI ((top + 19) % 20) := by
    rw [h1, show (20 : Int32) = nI 20 from rfl, nI_add, l1, pk_sub (by omega), pk_rem (by omega) (by omega) (by omega)]
    congr 1
  rw [et] at e1
  have e25 : M1 25 = upd (M 25) 1 (nI ((top + 19) % 20)) := by rw [e1, up_s]
  have e11 : M1 25 1 = nI ((top + 19) % 20) := by rw [e25]; rfl
  have hlt : (top + 19) % 20 < 20 := Nat.mod_lt _ (by omega)
  have fo : ∀ a, a ≠ 25 → M1 a = M a := fun a ha => by rw [e1, up_o ha]
  rw [e11, cl (by omega), ra26]
  have eslot : (top + 20 - u + (u - 1)) % 20 = (top + 19) % 20 := by omega
  have hsr : SR n R L (hs (u - 1)) M1 (27 + 7 * ((top + 19) % 20)) := by
    have h4 := h3 (u - 1) (by omega)
    rw [eslot] at h4
    exact SR_c (fun a b1 b2 => fo a (by omega)) h4
  refine ⟨inb hlt (by omega), sp_copyFrom hn (by omega) hsr (fun M3 g1 g2 M4 e4 => ?_)⟩
  have f25 : M4 25 = upd (upd (M 25) 1 (nI ((top + 19) % 20))) 2 (nI (u - 1)) := by
    rw [e4, up_s, g2 25 (by omega), e25]
    congr 1
    have z : upd (M 25) 1 (nI ((top + 19) % 20)) 2 = nI u := h2
    rw [z, l1, pk_sub (by omega)]
  have fr : ∀ a, (a < 11 ∨ 17 < a) → a ≠ 25 → M4 a = M a := fun a b1 b2 => by rw [e4, up_o b2, g2 a (by omega), fo a b2]
  refine hq M4 ⟨by omega, (top + 19) % 20, hlt, by rw [f25]; rfl, by rw [f25]; rfl, fun j hj => ?_⟩ (SR_c (fun a b1 b2 => by rw [e4, up_o (by omega)]) g1) (by rw [f25]; rfl) fr
  have e : ((top + 19) % 20 + 20 - (u - 1) + j) % 20 = (top + 20 - u + j) % 20 := by omega
  rw [e]
  have hb : (top + 20 - u + j) % 20 < 20 := Nat.mod_lt _ (by omega)
  exact SR_c (fun a b1 b2 => fr a (by omega) (by omega)) (h3 j (by omega))
/-- the reference takes row k0 .. of another row back into 214 -/
theorem cp_row {f g : Nat → Int32} {i : Nat} (hi : i < 41) {x : Int32} (hx : x = f i) : upd (fun k => if k < i then f k else g k) i x = fun k => if k < i + 1 then f k else g k := by
  rw [hx]; exact cp_step hi
theorem sp_undoR {Q : Int32 → Mem → Prop} {u : Nat} {hs : Nat → Nat → Int32} {M : Mem} (hh : RH u hs M) (h0 : u = 0 → Q (-1000000003) M) (hq : 1 ≤ u → ∀ M', RH (u - 1) hs M' → M' 214 = cp41 (hs (u - 1)) (M 214) → (∀ k, k ≠ 20 → M' 211 k = M 211 k) → (∀ a, a ≠ 211 → a ≠ 214 → M' a = M a) → Q (nI (u - 1)) M') : wp_X10_undo Q M := by
  obtain ⟨hu, h1, h2⟩ := hh
  intro X22 hx
  unfold bd_X10_undo
  rw [h1, l0, eqN (by omega) (by omega)]
  refine ⟨h0, fun z M1 e1 => ?_⟩
  have hu1 : 1 ≤ u := by omega
  have f11 : M1 211 = upd (M 211) 20 (nI (u - 1)) := by rw [e1, up_s, l1, pk_sub (by omega)]
  have key : ∀ M', M' 214 = (fun k => if k < 0 then hs (u - 1) k else M 214 k) → (∀ a, a ≠ 214 → M' a = M1 a) → X22 (nI 0) M' := by
    refine upto (P := fun i => ∀ M', M' 214 = (fun k => if k < i then hs (u - 1) k else M 214 k) → (∀ a, a ≠ 214 → M' a = M1 a) → X22 (nI i) M') (n := 41) ?_ ?_
    · intro M' b1 b2
      apply hx
      unfold bd_X10_undo_22
      have e20 : M' 211 20 = nI (u - 1) := by rw [b2 211 (by decide), f11]; rfl
      rw [l41, e20]
      refine ⟨fun _ => hq hu1 M' ⟨by omega, e20, fun j k c1 c2 => ?_⟩ b1 (fun k hk => ?_) (fun a c1 c2 => ?_), fun z => absurd ((leN (by omega) (by omega)).mpr (Nat.le_refl 41)) z⟩
      · rw [b2 222 (by decide), e1, up_o (by decide)]; exact h2 j k (by omega) c2
      · rw [b2 211 (by decide), f11]; exact if_neg hk
      · rw [b2 a c2, e1, up_o c1]
    · intro i hi ih M' b1 b2
      apply hx
      unfold bd_X10_undo_22
      have e20 : M' 211 20 = nI (u - 1) := by rw [b2 211 (by decide), f11]; rfl
      rw [e20, m41, nI_add, l41, leN (by omega) (by omega), cl (by omega), cl (by omega), nI_1]
      refine ⟨fun z => absurd z (by omega), fun _ => ⟨inb (by omega) (by omega), inb hi (by omega), fun M3 e3 => ih M3 ?_ (fun a ha => by rw [e3, up_o ha, b2 a ha])⟩⟩
      rw [e3, up_s, b1]
      refine cp_row hi ?_
      rw [b2 222 (by decide), e1, up_o (by decide)]
      exact h2 (u - 1) i (by omega) hi
  have h3 := key M1 (by funext k; rw [e1, up_o (by decide)]; simp) (fun _ _ => rfl)
  rw [nI_0] at h3
  exact h3
/-! images -/
def CI (n : Nat) (R L : Nat → Int32) (kp : Nat → Bool) (im : Nat → Nat → Int32) (sd : Nat → Int32) (M : Mem) : Prop := ∀ i, i < 2 → M 170 i = (if kp i = true then 1 else 0) ∧ (kp i = true → SR n R L (im i) M (171 + 7 * i) ∧ M 169 i = sd i)
def RI (kp : Nat → Bool) (im : Nat → Nat → Int32) (sd : Nat → Int32) (M : Mem) : Prop := ∀ i, i < 2 → M 232 i = (if kp i = true then 1 else 0) ∧ (kp i = true → (∀ k, k < 41 → M 231 (42 * i + k) = im i k) ∧ M 231 (42 * i + 41) = sd i)
theorem CI_c {n : Nat} {R L : Nat → Int32} {kp : Nat → Bool} {im : Nat → Nat → Int32} {sd : Nat → Int32} {M M' : Mem} (h : ∀ a, 167 ≤ a → a ≤ 184 → M' a = M a) (hh : CI n R L kp im sd M) : CI n R L kp im sd M' := by
  intro i hi
  obtain ⟨h1, h2⟩ := hh i hi
  refine ⟨by rw [h 170 (by omega) (by omega)]; exact h1, fun hk => ?_⟩
  obtain ⟨h3, h4⟩ := h2 hk
  exact ⟨SR_c (fun a b1 b2 => h a (by omega) (by omega)) h3, by rw [h 169 (by omega) (by omega)]; exact h4⟩
theorem z1 : vp_nar .boolean (1 : Int32) = 1 := by decide
theorem z0 : vp_nar .boolean (0 : Int32) = 0 := by decide
def upb {α : Type} (g : Nat → α) (i : Nat) (v : α) : Nat → α := fun j => if j = i then v else g j
theorem sp_put {Q : Mem → Prop} {n i : Nat} {R L f : Nat → Int32} {kp : Nat → Bool} {im : Nat → Nat → Int32} {sd : Nat → Int32} {v : Int32} {M : Mem} (hn : n ≤ 8) (hi : i < 2) (hr : SR n R L f M 11) (hh : CI n R L kp im sd M) (hq : ∀ M', CI n R L (upb kp i true) (upb im i f) (upb sd i v) M' → (∀ a, (a < 167 ∨ 184 < a) → M' a = M a) → Q M') : wp_X5_put Q (nI i) v M := by
  unfold wp_X5_put bd_X5_put
  simp only [cl (show i < 1000000 by omega)]
  have hin : vp_in (nI i) 2 := inb hi (by omega)
  rw [ra168]
  refine ⟨hin, sp_copyFrom hn (by omega) hr (fun M2 g1 g2 => ⟨hin, fun M4 e4 => ⟨hin, fun M6 e6 => ?_⟩⟩)⟩
  rw [z1] at e6
  have fo : ∀ a, a ≠ 169 → a ≠ 170 → M6 a = M2 a := fun a b1 b2 => by rw [e6, up_o b2, e4, up_o b1]
  refine hq M6 (fun j hj => ?_) (fun a ha => by rw [fo a (by omega) (by omega), g2 a (by omega)])
  have f169 : M6 169 = upd (M 169) i v := by rw [e6, up_o (by decide), e4, up_s, g2 169 (by omega)]
  have f170 : M6 170 = upd (M 170) i 1 := by rw [e6, up_s, e4, up_o (by decide), g2 170 (by omega)]
  rw [f169, f170]
  unfold upb upd
  by_cases e : j = i
  · simp only [if_pos e]
    refine ⟨rfl, fun _ => ⟨?_, trivial⟩⟩
    rw [e]
    exact SR_c (fun a b1 b2 => fo a (by omega) (by omega)) g1
  · simp only [if_neg e]
    obtain ⟨h1, h2⟩ := hh j hj
    refine ⟨h1, fun hk => ?_⟩
    obtain ⟨h3, h4⟩ := h2 hk
    exact ⟨SR_c (fun a b1 b2 => by rw [fo a (by omega) (by omega), g2 a (by omega)]) h3, h4⟩
theorem sp_forgetI {Q : Mem → Prop} {M : Mem} (hq : ∀ M', (∀ i, i < 2 → M' 170 i = 0) → (∀ a, a ≠ 170 → M' a = M a) → Q M') : wp_X5_forget Q M := by
  intro X2 hx
  have key : ∀ M', (∀ i, i < 0 → M' 170 i = 0) → (∀ a, a ≠ 170 → M' a = M a) → X2 (nI 0) M' := by
    refine upto (P := fun k => ∀ M', (∀ i, i < k → M' 170 i = 0) → (∀ a, a ≠ 170 → M' a = M a) → X2 (nI k) M') (n := 2) ?_ ?_
    · intro M' b1 b2
      apply hx
      exact ⟨fun _ => hq M' b1 b2, fun z => absurd (by decide) z⟩
    · intro k hk ih M' b1 b2
      apply hx
      unfold bd_X5_forget_2
      rw [show (2 : Int32) = nI 2 from rfl, leN (by omega) (by omega), cl (by omega), nI_1]
      refine ⟨fun z => absurd z (by omega), fun _ => ⟨inb hk (by omega), fun M2 e2 => ih M2 (fun i hi => ?_) (fun a ha => by rw [e2, up_o ha, b2 a ha])⟩⟩
      rw [z0] at e2
      by_cases e : i = k
      · rw [e2, e, up_ss]
      · rw [e2, up_sn e]; exact b1 i (by omega)
  have h3 := key M (fun i hi => by omega) (fun _ _ => rfl)
  rw [nI_0] at h3
  exact h3
theorem m42 (i : Nat) : (42 : Int32) * nI i = nI (42 * i) := by rw [show (42 : Int32) = nI 42 from rfl, pk_mul]
theorem sp_keepR {Q : Int32 → Mem → Prop} {a1 : Int32} {kp : Nat → Bool} {im : Nat → Nat → Int32} {sd : Nat → Int32} {f : Nat → Int32} {M : Mem} (hf : M 214 = f) (hh : RI kp im sd M) (hu : (∀ i, i < 2 → a1 ≠ nI i) → Q (-1000000001) M) (hq : ∀ i, i < 2 → a1 = nI i → ∀ M', RI (upb kp i true) (upb im i f) (upb sd i (M 211 6)) M' → M' 211 20 = 0 → (∀ k, k ≠ 20 → M' 211 k = M 211 k) → (∀ a, a ≠ 211 → a ≠ 231 → a ≠ 232 → M' a = M a) → Q 1 M') : wp_X10_keep Q a1 M := by
  intro X15 hx
  have hcase : (0 ≤ a1 ∧ a1 ≤ 1) ↔ ∃ i, i < 2 ∧ a1 = nI i := by
    have h := in_n (a := a1) (n := 2) (by omega)
    have e : nI 2 - 1 = 1 := by decide
    rw [e] at h
    exact h
  refine sp_in (lo := 0) (hi := 1) (by decide) (by decide) (fun q => ⟨fun q => absurd q (by decide), fun _ => ?_⟩) (fun q => ⟨fun _ => hu (fun i hi e => q (hcase.mpr ⟨i, hi, e⟩)), fun q => absurd rfl q⟩)
  obtain ⟨i, hi, ei⟩ := hcase.mp q
  have hq := hq i hi ei
  have key : ∀ M', (∀ k, k < 0 → M' 231 (42 * i + k) = f k) → (∀ x, (x < 42 * i ∨ 42 * i + 41 ≤ x) → M' 231 x = M 231 x) → (∀ a, a ≠ 231 → M' a = M a) → X15 (nI 0) M' := by
    refine upto (P := fun c => ∀ M', (∀ k, k < c → M' 231 (42 * i + k) = f k) → (∀ x, (x < 42 * i ∨ 42 * i + 41 ≤ x) → M' 231 x = M 231 x) → (∀ a, a ≠ 231 → M' a = M a) → X15 (nI c) M') (n := 41) ?_ ?_
    · intro M' b1 b2 b3
      apply hx
      unfold bd_X10_keep_15
      rw [ei, m42, l41, nI_add, cl (by omega), cl (show i < 1000000 by omega), b3 211 (by decide), z1]
      refine ⟨fun _ => ⟨inb (by omega) (by omega), fun M2 e2 => ⟨inb hi (by omega), fun M4 e4 M5 e5 => hq M5 (fun j hj => ?_) ?_ (fun k hk => ?_) (fun a c1 c2 c3 => ?_)⟩⟩, fun z => absurd ((leN (by omega) (by omega)).mpr (Nat.le_refl 41)) z⟩
      · have f231 : M5 231 = upd (M' 231) (42 * i + 41) (M 211 6) := by rw [e5, up_o (by decide), e4, up_o (by decide), e2, up_s]
        have f232 : M5 232 = upd (M 232) i 1 := by rw [e5, up_o (by decide), e4, up_s, e2, up_o (by decide), b3 232 (by decide)]
        rw [f231, f232]
        unfold upb upd
        by_cases e : j = i
        · simp only [if_pos e]
          refine ⟨rfl, fun _ => ⟨fun k hk => ?_, ?_⟩⟩
          · rw [e, if_neg (by omega)]; exact b1 k hk
          · rw [e, if_pos rfl]
        · simp only [if_neg e]
          obtain ⟨h1, h2⟩ := hh j hj
          refine ⟨h1, fun hk => ?_⟩
          obtain ⟨h3, h4⟩ := h2 hk
          refine ⟨fun k hk => ?_, ?_⟩
          · rw [if_neg (by omega), b2 _ (by omega)]; exact h3 k hk
          · rw [if_neg (by omega), b2 _ (by omega)]; exact h4
      · rw [e5, up_ss]
      · rw [e5, up_sn hk, e4, up_o (by decide), e2, up_o (by decide), b3 211 (by decide)]
      · rw [e5, up_o c1, e4, up_o c3, e2, up_o c2, b3 a c2]
    · intro c hc ih M' b1 b2 b3
      apply hx
      unfold bd_X10_keep_15
      rw [ei, m42, nI_add, l41, leN (by omega) (by omega), cl (show 42 * i + c < 1000000 by omega), cl (show c < 1000000 by omega), nI_1]
      refine ⟨fun z => absurd z (by omega), fun _ => ⟨inb hc (by omega), inb (by omega) (by omega), fun M8 e8 => ih M8 (fun k hk => ?_) (fun x hx => ?_) (fun a ha => by rw [e8, up_o ha, b3 a ha])⟩⟩
      · by_cases e : k = c
        · rw [e8, e, up_ss, b3 214 (by decide), hf]
        · rw [e8, up_sn (by omega)]; exact b1 k (by omega)
      · rw [e8, up_sn (by omega)]; exact b2 x hx
  have h3 := key M (fun k hk => by omega) (fun _ _ => rfl) (fun _ _ => rfl)
  rw [nI_0] at h3
  exact h3
theorem sp_goBackR {Q : Int32 → Mem → Prop} {a1 : Int32} {kp : Nat → Bool} {im : Nat → Nat → Int32} {sd : Nat → Int32} {M : Mem} (hh : RI kp im sd M) (hu : (∀ i, i < 2 → a1 ≠ nI i) → Q (-1000000001) M) (hno : ∀ i, i < 2 → a1 = nI i → kp i = false → Q (-1000000003) M) (hq : ∀ i, i < 2 → a1 = nI i → kp i = true → ∀ M', M' 214 = cp41 (im i) (M 214) → M' 211 6 = sd i → M' 211 20 = 0 → (∀ k, k ≠ 6 → k ≠ 20 → M' 211 k = M 211 k) → (∀ a, a ≠ 211 → a ≠ 214 → M' a = M a) → Q 1 M') : wp_X10_goBack Q a1 M := by
  intro X27 hx
  have hcase : (0 ≤ a1 ∧ a1 ≤ 1) ↔ ∃ i, i < 2 ∧ a1 = nI i := by
    have h := in_n (a := a1) (n := 2) (by omega)
    have e : nI 2 - 1 = 1 := by decide
    rw [e] at h
    exact h
  refine sp_in (lo := 0) (hi := 1) (by decide) (by decide) (fun q => ⟨fun q => absurd q (by decide), fun _ => ?_⟩) (fun q => ⟨fun _ => hu (fun i hi e => q (hcase.mpr ⟨i, hi, e⟩)), fun q => absurd rfl q⟩)
  obtain ⟨i, hi, ei⟩ := hcase.mp q
  obtain ⟨h1, h2⟩ := hh i hi
  have hin : vp_in a1 2 := by rw [ei]; exact inb hi (by omega)
  have ec : a1.toNatClampNeg = i := by rw [ei]; exact cl (by omega)
  rw [ec, h1]
  refine ⟨hin, fun z => hno i hi ei ?_, fun z => ?_⟩
  · cases e : kp i
    · rfl
    · rw [e] at z; exact absurd z (by decide)
  · have hk : kp i = true := by
      cases e : kp i
      · rw [e] at z; exact absurd rfl z
      · rfl
    have hq := hq i hi ei hk
    obtain ⟨h3, h4⟩ := h2 hk
    have key : ∀ M', M' 214 = (fun k => if k < 0 then im i k else M 214 k) → (∀ a, a ≠ 214 → M' a = M a) → X27 (nI 0) M' := by
      refine upto (P := fun c => ∀ M', M' 214 = (fun k => if k < c then im i k else M 214 k) → (∀ a, a ≠ 214 → M' a = M a) → X27 (nI c) M') (n := 41) ?_ ?_
      · intro M' b1 b2
        apply hx
        unfold bd_X10_goBack_27
        rw [ei, m42, l41, nI_add, cl (by omega), b2 231 (by decide), h4]
        refine ⟨fun _ => ⟨inb (by omega) (by omega), fun M2 e2 M3 e3 => hq M3 ?_ ?_ ?_ (fun k c1 c2 => ?_) (fun a c1 c2 => ?_)⟩, fun z => absurd ((leN (by omega) (by omega)).mpr (Nat.le_refl 41)) z⟩
        · rw [e3, up_o (by decide), e2, up_o (by decide)]; exact b1
        · rw [e3, up_sn (by decide), e2, up_ss]
        · rw [e3, up_ss]
        · rw [e3, up_sn c2, e2, up_sn c1, b2 211 (by decide)]
        · rw [e3, up_o c1, e2, up_o c1, b2 a c2]
      · intro c hc ih M' b1 b2
        apply hx
        unfold bd_X10_goBack_27
        rw [ei, m42, nI_add, l41, leN (by omega) (by omega), cl (show 42 * i + c < 1000000 by omega), cl (show c < 1000000 by omega), nI_1]
        refine ⟨fun z => absurd z (by omega), fun _ => ⟨inb (by omega) (by omega), inb hc (by omega), fun M6 e6 => ih M6 ?_ (fun a ha => by rw [e6, up_o ha, b2 a ha])⟩⟩
        rw [e6, up_s, b1]
        exact cp_row hc (by rw [b2 231 (by decide)]; exact h3 c hc)
    have h5 := key M (by funext k; simp) (fun _ _ => rfl)
    rw [nI_0] at h5
    exact h5
