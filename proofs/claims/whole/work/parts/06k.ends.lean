/-! ends -/
def isE (n : Nat) (f : Nat → Int32) (c : Nat) : Bool := decide (ld n f c = 8) || rch n f c c
theorem ends {n : Nat} {f : Nat → Int32} (h : Ldr n f) {c : Nat} (hc : c < n) : ∃ t, t < n ∧ (∀ j, j ≤ t → pth n f c j < n) ∧ isE n f (pth n f c t) = true ∧ ∀ j, j < t → isE n f (pth n f c j) = false := by
  have h8 := h.1
  have ex : ∃ t, t < n ∧ isE n f (pth n f c t) = true ∧ pth n f c t < n := by
    by_cases hx : ∃ t, t < n ∧ isE n f (pth n f c t) = true ∧ pth n f c t < n
    · exact hx
    · exfalso
      have all : ∀ j, j ≤ n → pth n f c j < n := by
        intro j
        induction j with
        | zero => intro _; exact hc
        | succ j ih =>
          intro hj
          have hp := ih (by omega)
          have hne : isE n f (pth n f c j) = false := by
            cases e : isE n f (pth n f c j)
            · rfl
            · exact absurd ⟨j, by omega, e, hp⟩ hx
          unfold isE at hne
          rw [Bool.or_eq_false_iff, decide_eq_false_iff_not] at hne
          rcases ld_in h (Or.inl hp) with z | z
          · exact z
          · exact absurd z hne.1
      have hh := fb_holes n (n + 1) (fun j => pth n f c j) (fun j hj => all j (by omega)) (by
        intro i j hij hj e
        refine hx ⟨i, by omega, ?_, all i (by omega)⟩
        have hr : rch n f (pth n f c i) (pth n f c i) = true := by
          refine (rch_iff h (all i (by omega)) (all i (by omega))).mpr ⟨j - i - 1, ?_⟩
          have e1 : j - i - 1 + 1 = j - i := by omega
          rw [e1, ← pth_add]
          have e2 : i + (j - i) = j := by omega
          rw [e2]
          exact e.symm
        unfold isE
        rw [hr, Bool.or_true])
      omega
  obtain ⟨t, t1, t2⟩ := pk_least (fun t => t < n ∧ isE n f (pth n f c t) = true ∧ pth n f c t < n) ex
  have pin : ∀ j, j ≤ t → pth n f c j < n := by
    intro j hj
    rcases pth_in h (Or.inl hc) j with z | z
    · exact z
    · have := pth_sink h8 z hj
      omega
  refine ⟨t, t1.1, pin, t1.2.1, fun j hj => ?_⟩
  cases e : isE n f (pth n f c j)
  · rfl
  · exact absurd ⟨by omega, e, pin j (by omega)⟩ (t2 j hj)
theorem sp_isAnEnd {Q : Int32 → Mem → Prop} {b n c : Nat} {f : Nat → Int32} {M : Mem} (h : Ldr n f) (h0 : M b 0 = nI n) (hl : ∀ c, c < n → M (b + 2) c = f (8 + c)) (hc : c < n) (hq : Q (if isE n f c = true then 1 else 0) M) : wp_X7_isAnEnd Q b (nI c) M := by
  have h8 := h.1
  unfold wp_X7_isAnEnd bd_X7_isAnEnd
  have hle := ld_ec h hc
  have hl8 : ld n f c ≤ 8 := by omega
  rw [cl (by omega), hl c hc, hle.1, ec_m1 hl8]
  refine ⟨inb (by omega) (by omega), fun q => ?_, fun q => sp_ringOf h h0 hl hc ?_⟩
  · have e : isE n f c = true := by unfold isE; rw [decide_eq_true q, Bool.true_or]
    rw [if_pos e] at hq; exact hq
  · have e : isE n f c = rch n f c c := by unfold isE; rw [decide_eq_false q, Bool.false_or]
    rw [e] at hq
    by_cases hr : rch n f c c = true
    · have e2 : ¬ rgs n f c = 0 := fun z => (rgs_0 (by omega)).mp z hr
      rw [if_neg e2]
      rw [if_pos hr] at hq
      exact ⟨Or.inr rfl, hq⟩
    · have e2 : rgs n f c = 0 := (rgs_0 (by omega)).mpr hr
      rw [if_pos e2]
      rw [if_neg hr] at hq
      exact ⟨Or.inl rfl, hq⟩
theorem sp_timesToEnd {Q : Int32 → Mem → Prop} {b n c t : Nat} {f : Nat → Int32} {M : Mem} (h : Ldr n f) (h0 : M b 0 = nI n) (hl : ∀ c, c < n → M (b + 2) c = f (8 + c)) (ht : t < n) (t1 : ∀ j, j ≤ t → pth n f c j < n) (t2 : isE n f (pth n f c t) = true) (t3 : ∀ j, j < t → isE n f (pth n f c j) = false) (hq : Q (nI t) M) : wp_X7_timesToEnd Q b (nI c) M := by
  have h8 := h.1
  intro X4 h4
  have key : X4 (nI 0) (nI (pth n f c 0)) M := by
    refine upto (P := fun i => X4 (nI i) (nI (pth n f c i)) M) (n := t) ?_ ?_
    · apply h4
      unfold bd_X7_timesToEnd_4
      rw [l8, leN (by omega) (by omega)]
      refine ⟨fun q => absurd q (by omega), fun _ => sp_isAnEnd h h0 hl (t1 t (Nat.le_refl t)) ?_⟩
      rw [if_pos t2]
      exact ⟨fun q => absurd q (by decide), fun _ => hq⟩
    · intro i hi ih
      apply h4
      unfold bd_X7_timesToEnd_4
      have hp := t1 i (by omega)
      rw [l8, leN (by omega) (by omega), nI_1]
      refine ⟨fun q => absurd q (by omega), fun _ => sp_isAnEnd h h0 hl hp ?_⟩
      have hz : ¬ isE n f (pth n f c i) = true := by rw [t3 i hi]; decide
      rw [if_neg hz, cl (by omega), hl _ hp, (ld_ec h hp).1]
      refine ⟨fun _ => ⟨inb (by omega) (by omega), ?_⟩, fun q => absurd rfl q⟩
      have hp1 := t1 (i + 1) (by omega)
      have e : ld n f (pth n f c i) = pth n f c (i + 1) := rfl
      rw [e, ec_c (by omega)]
      exact ih
  rw [nI_0] at key
  exact key
/-- the answer of END, what = 0: the car e where it ends -/
def eans (n : Nat) (f : Nat → Int32) (e m : Nat) : Int32 := if rch n f e e = true then nI m else nI e
theorem sp_endOf {Q : Int32 → Mem → Prop} {b n c t m : Nat} {f : Nat → Int32} {M : Mem} (h : Ldr n f) (h0 : M b 0 = nI n) (hl : ∀ c, c < n → M (b + 2) c = f (8 + c)) (hc : c < n) (ht : t < n) (t1 : ∀ j, j ≤ t → pth n f c j < n) (t2 : isE n f (pth n f c t) = true) (t3 : ∀ j, j < t → isE n f (pth n f c j) = false) (hm : rch n f (pth n f c t) (pth n f c t) = true → isl n f (pth n f c t) m) (hq : Q (eans n f (pth n f c t) m) M) : wp_X7_endOf Q b (nI c) M := by
  have h8 := h.1
  intro X8 hx
  refine sp_timesToEnd h h0 hl ht t1 t2 t3 ?_
  have hp := t1 t (Nat.le_refl t)
  have key : X8 (nI (pth n f c 0)) (nI (t - 0)) M := by
    refine upto (P := fun i => X8 (nI (pth n f c i)) (nI (t - i)) M) (n := t) ?_ ?_
    · apply hx
      unfold bd_X7_endOf_8
      rw [Nat.sub_self, nI_0]
      refine ⟨fun _ => sp_ringOf h h0 hl hp ?_, fun q => absurd (by decide) q⟩
      rw [rgs_0 (by omega)]
      unfold eans at hq
      refine ⟨fun q => ?_, fun q => ?_⟩
      · rw [if_neg q] at hq; exact hq
      · have hr : rch n f (pth n f c t) (pth n f c t) = true := by simpa using q
        rw [if_pos hr] at hq
        have hi := hm hr
        obtain ⟨m', m1, m2⟩ := isl_ex hr
        have e := isl_one hi m2
        exact sp_leastOf (m := m) (by omega) (by rw [rgs_bt hr (by omega)]; exact hi.1) (fun j hj => by rw [rgs_bt hr (by omega)]; exact hi.2 j hj) hq
    · intro i hi ih
      apply hx
      unfold bd_X7_endOf_8
      have hpi := t1 i (by omega)
      have hp1 := t1 (i + 1) (by omega)
      rw [l0, leN (by omega) (by omega), cl (by omega), hl _ hpi, (ld_ec h hpi).1]
      have e : ld n f (pth n f c i) = pth n f c (i + 1) := rfl
      have e2 : nI (t - i) + (-1) = nI (t - (i + 1)) := by
        have e3 : t - i = (t - (i + 1)) + 1 := by omega
        rw [e3, pk_m1]
      rw [e, ec_c (by omega), e2]
      exact ⟨fun q => absurd q (by omega), fun _ => ⟨inb (by omega) (by omega), ih⟩⟩
  exact key
theorem sp_endLoop {Q : Int32 → Mem → Prop} {X29 : Int32 → Int32 → Mem → Prop} {n c t m : Nat} {a1 a2 : Int32} {f : Nat → Int32} {M : Mem} (h : Ldr n f) (hf : M 214 = f) (hc : c < n) (ht : t < n) (t1 : ∀ j, j ≤ t → pth n f c j < n) (t2 : isE n f (pth n f c t) = true) (t3 : ∀ j, j < t → isE n f (pth n f c j) = false) (hm : rch n f (pth n f c t) (pth n f c t) = true → isl n f (pth n f c t) m) (hx : ∀ (x3 : Int32) (x4 : Int32) (M : Mem), bd_X10_end_29 Q X29 a1 a2 x3 x4 M → X29 x3 x4 M) (hq : Q (if a2 = 1 then nI t else eans n f (pth n f c t) m) M) : X29 (nI c) 0 M := by
  have h8 := h.1
  have key : X29 (nI (pth n f c 0)) (nI 0) M := by
    refine upto (P := fun i => X29 (nI (pth n f c i)) (nI i) M) (n := t) ?_ ?_
    · apply hx
      unfold bd_X10_end_29
      have hp := t1 t (Nat.le_refl t)
      refine sp_ringOfR h hf hp ?_
      have fin : (a2 = 1 → Q (nI t) M) ∧ (¬ a2 = 1 → wp_X10_ringOf (fun (r2 : Int32) (M2 : Mem) => (r2 = 0 → Q (nI (pth n f c t)) M2) ∧ (¬ (r2 = 0) → wp_X10_ringOf (fun (r3 : Int32) (M3 : Mem) => wp_X10_least (fun (r4 : Int32) (M4 : Mem) => Q r4 M4) r3 M3) (nI (pth n f c t)) M2)) (nI (pth n f c t)) M) := by
        refine ⟨fun q => by rw [if_pos q] at hq; exact hq, fun q => ?_⟩
        rw [if_neg q] at hq
        unfold eans at hq
        refine sp_ringOfR h hf hp ?_
        rw [rgs_0 (by omega)]
        refine ⟨fun q2 => by rw [if_neg q2] at hq; exact hq, fun q2 => ?_⟩
        have hr : rch n f (pth n f c t) (pth n f c t) = true := by simpa using q2
        rw [if_pos hr] at hq
        have hi := hm hr
        obtain ⟨m', m1, m2⟩ := isl_ex hr
        have e := isl_one hi m2
        exact sp_ringOfR h hf hp (sp_least (m := m) (by omega) (by rw [rgs_bt hr (by omega)]; exact hi.1) (fun j hj => by rw [rgs_bt hr (by omega)]; exact hi.2 j hj) hq)
      rw [rgs_0 (by omega), a8, cl (by omega), hf, (ld_ec h hp).1, ec_neg (by have := (ld_ec h hp).2; omega)]
      refine ⟨fun q => ⟨inb (by omega) (by omega), fun _ => fin, fun q2 => ?_⟩, fun _ => fin⟩
      unfold isE at t2
      rw [Bool.or_eq_true, decide_eq_true_eq] at t2
      rcases t2 with z | z
      · exact absurd z q2
      · exact absurd z q
    · intro i hi ih
      apply hx
      unfold bd_X10_end_29
      have hp := t1 i (by omega)
      have hp1 := t1 (i + 1) (by omega)
      have hz := t3 i hi
      unfold isE at hz
      rw [Bool.or_eq_false_iff, decide_eq_false_iff_not] at hz
      have hz2 : ¬ rch n f (pth n f c i) (pth n f c i) = true := by rw [hz.2]; decide
      refine sp_ringOfR h hf hp ?_
      have e : ld n f (pth n f c i) = pth n f c (i + 1) := rfl
      rw [rgs_0 (by omega), a8, cl (by omega), hf, (ld_ec h hp).1, ec_neg (by have := (ld_ec h hp).2; omega), nI_1]
      refine ⟨fun _ => ⟨inb (by omega) (by omega), fun q => absurd q hz.1, fun _ => ⟨inb (by omega) (by omega), ?_⟩⟩, fun q => absurd hz2 q⟩
      rw [e, ec_c (by omega)]
      exact ih
  rw [nI_0] at key
  exact key
