/-! the reference's side of it; least ones, marks, ends -/
theorem l8 : (8 : Int32) = nI 8 := rfl
theorem sp_behindOf {Q : Int32 → Mem → Prop} {n c : Nat} {f : Nat → Int32} {M : Mem} (h : Ldr n f) (h0 : M 211 2 = nI n) (hf : M 214 = f) (hc : c < n) (hq : Q (bs (fun d => rch n f d c) n) M) : wp_X10_behindOf Q (nI c) M := by
  have h8 := h.1
  intro X4 X13 h4 h13
  -- sound, and full up to t
  have outer : ∀ s : Int32, (∀ d, d < 32 → bt s d = true → d < n ∧ rch n f d c = true) → (∀ d, d < n → (∃ k, k < 0 ∧ pth n f d (k + 1) = c) → bt s d = true) → X4 s (nI 0) M := by
    refine upto (P := fun t => ∀ s : Int32, (∀ d, d < 32 → bt s d = true → d < n ∧ rch n f d c = true) → (∀ d, d < n → (∃ k, k < t ∧ pth n f d (k + 1) = c) → bt s d = true) → X4 s (nI t) M) (n := 8) ?_ ?_
    · intro s s1 s2
      apply h4
      unfold bd_X10_behindOf_4
      have e : s = bs (fun d => rch n f d c) n := by
        apply b_ext
        intro i hi
        rw [bt_bs _ _ _ (by omega) hi, Bool.eq_iff_iff, Bool.and_eq_true, decide_eq_true_eq]
        constructor
        · exact s1 i hi
        · intro ⟨g1, g2⟩
          obtain ⟨k, k1, k2⟩ := (rci_iff n f i c n).mp g2
          exact s2 i g1 ⟨k, by omega, k2⟩
      rw [e]
      exact ⟨fun _ => hq, fun q => absurd (by rw [l8]; exact (leN (by omega) (by omega)).mpr (Nat.le_refl 8)) q⟩
    · intro t ht ih s s1 s2
      apply h4
      unfold bd_X10_behindOf_4
      refine ⟨fun q => absurd q (by rw [l8, leN (by omega) (by omega)]; omega), fun _ => ?_⟩
      have inner : ∀ s : Int32, (∀ d, d < 32 → bt s d = true → d < n ∧ rch n f d c = true) → (∀ d, d < n → (∃ k, k < t ∧ pth n f d (k + 1) = c) → bt s d = true) → (∀ d, d < 0 → (∃ k, k < t + 1 ∧ pth n f d (k + 1) = c) → bt s d = true) → X13 s (nI t) (nI 0) M := by
        refine upto (P := fun i => ∀ s : Int32, (∀ d, d < 32 → bt s d = true → d < n ∧ rch n f d c = true) → (∀ d, d < n → (∃ k, k < t ∧ pth n f d (k + 1) = c) → bt s d = true) → (∀ d, d < i → (∃ k, k < t + 1 ∧ pth n f d (k + 1) = c) → bt s d = true) → X13 s (nI t) (nI i) M) (n := n) ?_ ?_
        · intro s g1 g2 g3
          apply h13
          unfold bd_X10_behindOf_13
          rw [h0, nI_1]
          exact ⟨fun _ => ih s g1 g3, fun q => absurd ((leN (by omega) (by omega)).mpr (Nat.le_refl n)) q⟩
        · intro i hi ih2 s g1 g2 g3
          apply h13
          unfold bd_X10_behindOf_13
          have hle := ld_ec h hi
          have hl8 : ld n f i ≤ 8 := by omega
          rw [h0, leN (by omega) (by omega), a8, cl (by omega), hf, hle.1, ec_eq hl8 (by omega), ec_neg hl8, nI_1 i]
          -- adding i
          have add : rch n f i c = true → X13 (s ||| ((1 : Int32) <<< (nI i &&& 31))) (nI t) (nI (i + 1)) M := by
            intro hr
            refine ih2 _ (fun d hd hb => ?_) (fun d hd hk => ?_) (fun d hd hk => ?_)
            · rw [b_or, bt_one (by omega) hd, Bool.or_eq_true, decide_eq_true_eq] at hb
              rcases hb with hb | hb
              · exact g1 d hd hb
              · rw [hb]; exact ⟨hi, hr⟩
            · rw [b_or, g2 d hd hk, Bool.true_or]
            · rw [b_or, bt_one (by omega) (by omega), Bool.or_eq_true, decide_eq_true_eq]
              rcases Nat.lt_or_ge d i with z | z
              · exact Or.inl (g3 d z hk)
              · exact Or.inr (by omega)
          have noadd : (¬ ∃ k, k < t + 1 ∧ pth n f i (k + 1) = c) → X13 s (nI t) (nI (i + 1)) M := by
            intro hno
            refine ih2 s g1 g2 (fun d hd hk => ?_)
            rcases Nat.lt_or_ge d i with z | z
            · exact g3 d z hk
            · have e : d = i := by omega
              rw [e] at hk
              exact absurd hk hno
          refine ⟨fun q => absurd q (by omega), fun _ => ⟨inb (by omega) (by omega), fun q => ?_, fun q => ⟨fun q2 => ?_, fun q2 => ?_⟩⟩⟩
          · exact add ((rch_iff h hi hc).mpr ⟨0, q⟩)
          · rw [or0]
            refine noadd (fun ⟨k, k1, k2⟩ => ?_)
            have := pth_sink (c := i) h8 (show pth n f i 1 = 8 from q2) (show 1 ≤ k + 1 by omega)
            omega
          · have hln : ld n f i < n := by omega
            rw [ec_c q2]
            refine sp_has (by omega) ?_
            cases e : bt s (ld n f i)
            · rw [if_pos (show (if false = true then (1 : Int32) else 0) = 0 from rfl), or0]
              refine noadd (fun ⟨k, k1, k2⟩ => ?_)
              rcases Nat.eq_zero_or_pos k with z | z
              · rw [z] at k2; exact q k2
              · have e2 : k = (k - 1) + 1 := by omega
                rw [pth_1, e2] at k2
                rw [g2 _ hln ⟨k - 1, by omega, k2⟩] at e
                cases e
            · rw [if_neg (show ¬ (if true = true then (1 : Int32) else 0) = 0 by decide)]
              obtain ⟨k, k2⟩ := (rch_iff h hln hc).mp (g1 _ (by omega) e).2
              exact add ((rch_iff h hi hc).mpr ⟨k + 1, by rw [pth_1]; exact k2⟩)
      have h1 := inner s s1 s2 (fun d hd => by omega)
      rw [nI_0] at h1
      exact h1
  have h1 := outer 0 (fun d _ hb => by rw [b_0] at hb; cases hb) (fun d _ ⟨k, k1, _⟩ => by omega)
  rw [nI_0] at h1
  exact h1
theorem pth_per {n : Nat} {f : Nat → Int32} {c m : Nat} (hm : pth n f c m = c) : ∀ k, pth n f c (k + m) = pth n f c k := by
  intro k
  rw [Nat.add_comm, pth_add, hm]
theorem pth_mod {n : Nat} {f : Nat → Int32} {c m : Nat} (h1 : 1 ≤ m) (hm : pth n f c m = c) : ∀ k, ∃ j, j < m ∧ pth n f c (k + 1) = pth n f c (j + 1) := by
  intro k
  induction k with
  | zero => exact ⟨0, by omega, rfl⟩
  | succ k ih =>
    obtain ⟨j, j1, j2⟩ := ih
    have e : pth n f c (k + 1 + 1) = pth n f c (j + 1 + 1) := by
      show ld n f (pth n f c (k + 1)) = ld n f (pth n f c (j + 1))
      rw [j2]
    rcases Nat.lt_or_ge (j + 1) m with z | z
    · exact ⟨j + 1, z, e⟩
    · have ej : j + 1 + 1 = 1 + m := by omega
      refine ⟨0, by omega, ?_⟩
      rw [e, ej, pth_per hm]
theorem sp_ringOfR {Q : Int32 → Mem → Prop} {n c : Nat} {f : Nat → Int32} {M : Mem} (h : Ldr n f) (hf : M 214 = f) (hc : c < n) (hq : Q (rgs n f c) M) : wp_X10_ringOf Q (nI c) M := by
  have h8 := h.1
  intro X7 h7
  have hno : (∀ j, j < n → pth n f c (j + 1) ≠ c) → Q 0 M := by
    intro hz
    have e : ¬ rch n f c c = true := by
      intro z
      obtain ⟨k, k1, k2⟩ := (rci_iff n f c c n).mp z
      exact hz k k1 k2
    unfold rgs at hq
    rw [if_neg e] at hq
    exact hq
  have key : (∀ j, j < 0 → pth n f c (j + 1) ≠ c) → X7 (bs (rci n f c 0) 8) (ec (pth n f c 0)) (nI 0) M := by
    refine upto (P := fun i => (∀ j, j < i → pth n f c (j + 1) ≠ c) → X7 (bs (rci n f c i) 8) (ec (pth n f c i)) (nI i) M) (n := 8) ?_ ?_
    · intro hz
      apply h7
      unfold bd_X10_ringOf_7
      exact ⟨fun _ => hno (fun j hj => hz j (by omega)), fun q => absurd (by rw [l8]; exact (leN (by omega) (by omega)).mpr (Nat.le_refl 8)) q⟩
    · intro i hi ih hz
      apply h7
      unfold bd_X10_ringOf_7
      have hp := pth_le h hc i
      rw [l8, leN (by omega) (by omega), ec_neg hp, nI_1]
      refine ⟨fun q => absurd q (by omega), fun _ => ⟨fun q => ?_, fun q => ?_⟩⟩
      · refine hno (fun j hj => ?_)
        rcases Nat.lt_or_ge j i with z | z
        · exact hz j z
        · have := pth_sink h8 q (show i ≤ j + 1 by omega)
          omega
      · have hpn : pth n f c i < n := by
          rcases pth_in h (Or.inl hc) i with z | z
          · exact z
          · exact absurd z q
        have hle := ld_ec h hpn
        have hp1 : pth n f c (i + 1) = ld n f (pth n f c i) := rfl
        have hp2 := pth_le h hc (i + 1)
        rw [ec_c q, show nI 8 + nI (pth n f c i) = nI (8 + pth n f c i) from nI_add _ _, cl (by omega), hf, hle.1, ← hp1, ec_eq hp2 (by omega)]
        refine ⟨inb (by omega) (by omega), fun q2 => ?_, fun q2 => ?_⟩
        · have e0 : ¬ ec (pth n f c (i + 1)) < 0 := by rw [ec_neg hp2]; omega
          rw [if_neg e0, ec_c (by omega), rci_bit (by omega)]
          have hcc : rch n f c c = true := (rch_iff h hc hc).mpr ⟨i, q2⟩
          unfold rgs at hq
          rw [if_pos hcc] at hq
          have e : bs (rci n f c (i + 1)) 8 = bs (rch n f c) 8 := by
            apply bs_cong
            intro d hd
            unfold rch
            rw [Bool.eq_iff_iff, rci_iff, rci_iff]
            constructor
            · intro ⟨k, k1, k2⟩
              rcases pth_in h (Or.inl hc) (k + 1) with z | z
              · exact rch_any h hc (by omega) ⟨k, k2⟩
              · omega
            · intro ⟨k, k1, k2⟩
              obtain ⟨j, j1, j2⟩ := pth_mod (by omega) q2 k
              exact ⟨j, j1, by rw [← j2]; exact k2⟩
          rw [e]
          exact hq
        · have hz2 : ∀ j, j < i + 1 → pth n f c (j + 1) ≠ c := by
            intro j hj
            rcases Nat.lt_or_ge j i with z | z
            · exact hz j z
            · have e : j = i := by omega
              rw [e]; exact q2
          by_cases e8 : pth n f c (i + 1) = 8
          · have en : ec (pth n f c (i + 1)) < 0 := (ec_neg hp2).mpr e8
            have e : bs (rci n f c (i + 1)) 8 = bs (rci n f c i) 8 := by
              apply bs_cong
              intro d hd
              rw [rci, decide_eq_false (by omega), Bool.or_false]
            rw [if_pos en, or0, ← e]
            exact ih hz2
          · have en : ¬ ec (pth n f c (i + 1)) < 0 := by rw [ec_neg hp2]; exact e8
            rw [if_neg en]
            have h1 := ih hz2
            rw [← rci_bit (by omega)] at h1
            rw [ec_c e8] at h1 ⊢
            exact h1
  have h1 := key (fun j hj => by omega)
  rw [nI_0] at h1
  have e : ec (pth n f c 0) = nI c := ec_c (by show c ≠ 8; omega)
  rw [e] at h1
  exact h1
theorem sp_least {Q : Int32 → Mem → Prop} {s : Int32} {m : Nat} {M : Mem} (hm : m < 8) (h1 : bt s m = true) (h2 : ∀ j, j < m → bt s j = false) (hq : Q (nI m) M) : wp_X10_least Q s M := by
  intro X2 hx
  have key : X2 (nI 0) M := by
    refine upto (P := fun i => X2 (nI i) M) (n := m) ?_ ?_
    · apply hx
      refine sp_has (by omega) ?_
      rw [h1]
      exact ⟨fun q => absurd q (by decide), fun _ => hq⟩
    · intro i hi ih
      apply hx
      refine sp_has (by omega) ?_
      rw [h2 i hi, nI_1]
      exact ⟨fun _ => ih, fun q => absurd rfl q⟩
  rw [nI_0] at key
  exact key
theorem sp_leastOf {Q : Int32 → Mem → Prop} {s : Int32} {m : Nat} {M : Mem} (hm : m < 8) (h1 : bt s m = true) (h2 : ∀ j, j < m → bt s j = false) (hq : Q (nI m) M) : wp_X9_leastOf Q s M := by
  intro X2 hx
  have key : X2 (nI 0) M := by
    refine upto (P := fun i => X2 (nI i) M) (n := m) ?_ ?_
    · apply hx
      unfold bd_X9_leastOf_2
      rw [l8, leN (by omega) (by omega)]
      refine ⟨fun q => absurd q (by omega), fun _ => sp_isIn (by omega) ?_⟩
      rw [h1]
      exact ⟨fun q => absurd q (by decide), fun _ => hq⟩
    · intro i hi ih
      apply hx
      unfold bd_X9_leastOf_2
      rw [l8, leN (by omega) (by omega)]
      refine ⟨fun q => absurd q (by omega), fun _ => sp_isIn (by omega) ?_⟩
      rw [h2 i hi, nI_1]
      exact ⟨fun _ => ih, fun q => absurd rfl q⟩
  rw [nI_0] at key
  exact key
