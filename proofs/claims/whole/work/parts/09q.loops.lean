/-! all clauses: code, place, and what was read -/
abbrev Pr : Type := Nat × Nat × Nat × Nat × Nat × Gc × (Nat → Int32)
def prs (t : Nat → Int32) (tl : Nat) : Nat → Nat → Nat → Nat → Nat → Gc → (Nat → Int32) → Pr
  | 0, _, nc, od, n, g, ld => (0, 0, nc, od, n, g, ld)
  | m + 1, p, nc, od, n, g, ld => if tl ≤ sk t tl p then (0, 0, nc, od, n, g, ld) else if ccd t tl nc n ld (sk t tl p) = 0 then prs t tl m (xp t tl (sk t tl p)) (xnc t tl (sk t tl p) nc) (xod t tl (sk t tl p) od) (xn t (sk t tl p) n) (xg t tl (sk t tl p) n g) (xld t tl (sk t tl p) n ld) else (ccd t tl nc n ld (sk t tl p), cpl t tl nc n ld (sk t tl p), nc, od, n, g, ld)
theorem prs_end {t : Nat → Int32} {tl p nc od n : Nat} {g : Gc} {ld : Nat → Int32} (m : Nat) (h : tl ≤ sk t tl p) : prs t tl m p nc od n g ld = (0, 0, nc, od, n, g, ld) := by
  cases m with
  | zero => rfl
  | succ m => exact if_pos h
theorem prs_bad {t : Nat → Int32} {tl p nc od n : Nat} {g : Gc} {ld : Nat → Int32} (m : Nat) (h : ¬ tl ≤ sk t tl p) (h2 : ccd t tl nc n ld (sk t tl p) ≠ 0) : prs t tl (m + 1) p nc od n g ld = (ccd t tl nc n ld (sk t tl p), cpl t tl nc n ld (sk t tl p), nc, od, n, g, ld) :=
  (if_neg h).trans (if_neg h2)
theorem prs_next {t : Nat → Int32} {tl p nc od n : Nat} {g : Gc} {ld : Nat → Int32} (m : Nat) (h : ¬ tl ≤ sk t tl p) (h2 : ccd t tl nc n ld (sk t tl p) = 0) : prs t tl (m + 1) p nc od n g ld = prs t tl m (xp t tl (sk t tl p)) (xnc t tl (sk t tl p) nc) (xod t tl (sk t tl p) od) (xn t (sk t tl p) n) (xg t tl (sk t tl p) n g) (xld t tl (sk t tl p) n ld) :=
  (if_neg h).trans (if_pos h2)
theorem twc_le {t : Nat → Int32} {tl q : Nat} : twc t tl q ≤ 4 := by
  unfold twc
  have a1 := pnc_le (t := t) (tl := tl) (p := q) (a1 := 1) (a2 := 9)
  have a2 := pnc_le (t := t) (tl := tl) (p := ne t tl q) (a1 := 0) (a2 := 100)
  split <;> omega
theorem crc_le {t : Nat → Int32} {tl nc q : Nat} : crc t tl nc q ≤ 4 := by
  unfold crc crd
  have a1 := pnc_le (t := t) (tl := tl) (p := q) (a1 := 0) (a2 := nI nc - 1)
  have a2 := pnc_le (t := t) (tl := tl) (p := ne t tl q) (a1 := 0) (a2 := 999999)
  split
  · split
    · split <;> omega
    · omega
  · omega
theorem flc_le {t : Nat → Int32} {tl n q : Nat} {ld : Nat → Int32} : flc t tl n ld q ≤ 4 := by
  unfold flc
  have a1 := pnc_le (t := t) (tl := tl) (p := q) (a1 := 0) (a2 := nI n - 1)
  have a2 := pnc_le (t := t) (tl := tl) (p := ne t tl q) (a1 := 0) (a2 := nI n - 1)
  split
  · split
    · split
      · split <;> omega
      · omega
    · omega
  · omega
theorem bdc_le {t : Nat → Int32} {tl q x : Nat} (h : x ≤ 4) : bdc t tl q x ≤ 4 := by
  unfold bdc
  split
  · split <;> omega
  · exact h
theorem ccd_le {t : Nat → Int32} {tl nc n q : Nat} {ld : Nat → Int32} : ccd t tl nc n ld q ≤ 4 := by
  unfold ccd
  have a1 := bdc_le (t := t) (tl := tl) (q := q) (twc_le (t := t) (tl := tl) (q := q + 1))
  have a2 := bdc_le (t := t) (tl := tl) (q := q) (crc_le (t := t) (tl := tl) (nc := nc) (q := q + 1))
  have a3 := bdc_le (t := t) (tl := tl) (q := q) (flc_le (t := t) (tl := tl) (n := n) (ld := ld) (q := q + 1))
  split
  · split
    · exact a1
    · omega
  · split
    · split
      · omega
      · split
        · omega
        · exact a2
    · split
      · split
        · omega
        · exact a3
      · omega
theorem ccd_nz {t : Nat → Int32} {tl nc n q : Nat} {ld : Nat → Int32} (h : ccd t tl nc n ld q ≠ 0) : ¬ nI (ccd t tl nc n ld q) = 0 := by
  have := ccd_le (t := t) (tl := tl) (nc := nc) (n := n) (ld := ld) (q := q)
  rw [l0, eqN (by omega) (by decide)]
  exact h
theorem sk_sk {t : Nat → Int32} {tl : Nat} : ∀ m p, tl - p = m → sk t tl (sk t tl p) = sk t tl p := by
  intro m
  induction m with
  | zero =>
    intro p em
    rw [sk_end (show tl ≤ p by omega)]
    exact sk_end (by omega)
  | succ m ih =>
    intro p em
    by_cases h : p < tl ∧ t p = 32
    · rw [sk_yes h.1 h.2]
      exact ih (p + 1) (by omega)
    · rw [sk_no h]
      exact sk_no h
/-- the class reads all clauses -/
theorem rd_loop {Q : Mem → Prop} {X38 : Int32 → Mem → Prop} (hx : ∀ (x1 : Int32) (M : Mem), bd_X6_readAll_38 Q X38 x1 M → X38 x1 M) {t : Nat → Int32} {tl : Nat} (htl : tl ≤ 240) : ∀ m p nc od n g ld i M, PW t nc n g ld → p ≤ tl → tl ≤ p + m → i ≤ p → M 1 1 = nI tl → (∀ i, i < tl → M 2 i = t i) → M 3 6 = nI (sk t tl p) → CR t nc od n g ld M →
    ((prs t tl m p nc od n g ld).1 ≠ 0 → ∀ M', M' 3 3 = nI (prs t tl m p nc od n g ld).1 → M' 3 4 = nI (prs t tl m p nc od n g ld).2.1 → (∀ a, a < 3 ∨ 9 < a → M' a = M a) → Q M') →
    ((prs t tl m p nc od n g ld).1 = 0 → ∀ M', CR t (prs t tl m p nc od n g ld).2.2.1 (prs t tl m p nc od n g ld).2.2.2.1 (prs t tl m p nc od n g ld).2.2.2.2.1 (prs t tl m p nc od n g ld).2.2.2.2.2.1 (prs t tl m p nc od n g ld).2.2.2.2.2.2 M' → (∀ a, a < 3 ∨ 9 < a → M' a = M a) → Q M') → X38 (nI i) M := by
  intro m
  induction m with
  | zero =>
    intro p nc od n g ld i M hw hp hm hi h1 h3 h2 hr he hq
    have en : tl ≤ sk t tl p := Nat.le_trans hm sk_ge
    rw [prs_end _ en] at hq
    have hsk := sk_le (t := t) hp
    apply hx
    unfold bd_X6_readAll_38
    refine ⟨fun z => absurd ((ltN (a := 240) (b := i) (by decide) (by omega)).mp z) (by omega), fun _ => ⟨fun _ => ⟨fun _ => hq rfl M hr (fun _ _ => rfl), fun z => ?_⟩, fun z => absurd hr.2.2.1 z⟩⟩
    rw [h1, h2] at z
    exact absurd ((leN (by omega) (by omega)).mpr en) z
  | succ m ih =>
    intro p nc od n g ld i M hw hp hm hi h1 h3 h2 hr he hq
    have hsk := sk_le (t := t) hp
    have hge := sk_ge (t := t) (tl := tl) (p := p)
    apply hx
    unfold bd_X6_readAll_38
    refine ⟨fun z => absurd ((ltN (a := 240) (b := i) (by decide) (by omega)).mp z) (by omega), fun _ => ⟨fun _ => ?_, fun z => absurd hr.2.2.1 z⟩⟩
    have le : M 1 1 ≤ M 3 6 ↔ tl ≤ sk t tl p := by
      rw [h1, h2]
      exact leN (by omega) (by omega)
    refine ⟨fun z => ?_, fun z => ?_⟩
    · rw [prs_end _ (le.mp z)] at hq
      exact hq rfl M hr (fun _ _ => rfl)
    · have z' : ¬ tl ≤ sk t tl p := fun y => z (le.mpr y)
      refine sp_readClause (t := t) (q := sk t tl p) (n := n) (nc := nc) (od := od) (g := g) (ld := ld) hw.1 hw.2.1 (by omega) htl h1 h2 h3 hr (fun b M1 g1 g2 g3 => ?_) (fun b M1 g1 g2 g3 => ?_)
      · rw [prs_bad _ z' b] at he
        refine sp_skipAny htl ((congrFun (g3 1 (by decide)) 1).trans h1) (fun M2 k1 k2 => ?_)
        have fin : Q M2 := he b M2 (by rw [k1 3 (by decide), g1]) (by rw [k1 4 (by decide), g2]) (fun a ha => by rw [k2 a (by omega), g3 a ha])
        apply hx
        unfold bd_X6_readAll_38
        refine ⟨fun _ => fin, fun _ => ⟨fun y => absurd y ?_, fun _ => fin⟩⟩
        rw [k1 3 (by decide), g1]
        exact ccd_nz b
      · obtain ⟨w1, w2, w3⟩ := PW_next hw (show sk t tl p < tl by omega) htl b
        rw [prs_next _ z' b] at he hq
        refine sp_skipBlanks (t := t) (p := xp t tl (sk t tl p)) (by omega) htl ((congrFun (g3 1 (by decide)) 1).trans h1) g2 (fun i hi => by rw [g3 2 (by decide)]; exact h3 i hi) (fun M2 k1 k2 k3 => ?_)
        rw [nI_1]
        refine ih _ _ _ _ _ _ (i + 1) M2 w1 w3 (by omega) (by omega) ?_ (fun i hi => ?_) k1 (CR_c k2 k3 g1) (fun c M3 q1 q2 q3 => ?_) (fun c M3 q1 q3 => ?_)
        · rw [k3 1 (by decide), g3 1 (by decide), h1]
        · rw [k3 2 (by decide), g3 2 (by decide)]
          exact h3 i hi
        · exact he c M3 q1 q2 (fun a ha => by rw [q3 a ha, k3 a (by omega), g3 a ha])
        · exact hq c M3 q1 (fun a ha => by rw [q3 a ha, k3 a (by omega), g3 a ha])
/-- the state ahead of the first clause -/
def g00 : Gc := fun _ => (0, 0, 0)
def ld00 : Nat → Int32 := fun _ => 0
theorem PW_00 (t : Nat → Int32) : PW t 0 0 g00 ld00 := ⟨by decide, by decide, fun c hc => absurd hc (by omega)⟩
theorem PW_prs {t : Nat → Int32} {tl : Nat} (htl : tl ≤ 240) : ∀ m p nc od n g ld, PW t nc n g ld → p ≤ tl → PW t (prs t tl m p nc od n g ld).2.2.1 (prs t tl m p nc od n g ld).2.2.2.2.1 (prs t tl m p nc od n g ld).2.2.2.2.2.1 (prs t tl m p nc od n g ld).2.2.2.2.2.2 := by
  intro m
  induction m with
  | zero => intro p nc od n g ld hw _; exact hw
  | succ m ih =>
    intro p nc od n g ld hw hp
    by_cases z : tl ≤ sk t tl p
    · rw [prs_end _ z]
      exact hw
    · by_cases b : ccd t tl nc n ld (sk t tl p) = 0
      · obtain ⟨w1, w2, w3⟩ := PW_next hw (show sk t tl p < tl by omega) htl b
        rw [prs_next _ z b]
        exact ih _ _ _ _ _ _ w1 w3
      · rw [prs_bad _ z b]
        exact hw
theorem prs_le {t : Nat → Int32} {tl : Nat} : ∀ m p nc od n g ld, (prs t tl m p nc od n g ld).1 ≤ 4 := by
  intro m
  induction m with
  | zero => intro p nc od n g ld; exact Nat.zero_le _
  | succ m ih =>
    intro p nc od n g ld
    by_cases z : tl ≤ sk t tl p
    · rw [prs_end _ z]
      exact Nat.zero_le _
    · by_cases b : ccd t tl nc n ld (sk t tl p) = 0
      · rw [prs_next _ z b]
        exact ih _ _ _ _ _ _
      · rw [prs_bad _ z b]
        exact ccd_le
theorem sp_readAll {Q : Mem → Prop} {t : Nat → Int32} {tl : Nat} {M : Mem} (htl : tl ≤ 240) (h1 : M 1 1 = nI tl) (h3 : ∀ i, i < tl → M 2 i = t i)
    (he : (prs t tl tl 0 0 0 0 g00 ld00).1 ≠ 0 → ∀ M', M' 3 3 = nI (prs t tl tl 0 0 0 0 g00 ld00).1 → M' 3 4 = nI (prs t tl tl 0 0 0 0 g00 ld00).2.1 → (∀ a, a < 3 ∨ 9 < a → M' a = M a) → Q M')
    (hq : (prs t tl tl 0 0 0 0 g00 ld00).1 = 0 → ∀ M', CR t (prs t tl tl 0 0 0 0 g00 ld00).2.2.1 (prs t tl tl 0 0 0 0 g00 ld00).2.2.2.1 (prs t tl tl 0 0 0 0 g00 ld00).2.2.2.2.1 (prs t tl tl 0 0 0 0 g00 ld00).2.2.2.2.2.1 (prs t tl tl 0 0 0 0 g00 ld00).2.2.2.2.2.2 M' → (∀ a, a < 3 ∨ 9 < a → M' a = M a) → Q M') : wp_X6_readAll Q M := by
  intro X38 hx
  unfold bd_X6_readAll wp_X7_clear bd_X7_clear
  intro Ma ea Mb eb Mc ec Md ed Me ee Mf ef Mg eg
  have f4 : ∀ a, a ≠ 3 → a ≠ 4 → Mg a = M a := fun a a1 a2 => by rw [eg, up_o a1, ef, up_o a1, ee, up_o a1, ed, up_o a1, ec, up_o a1, eb, up_o a2, ea, up_o a2]
  refine sp_skipBlanks (t := t) (p := 0) (by decide) htl (by rw [f4 1 (by decide) (by decide), h1]) (by rw [eg, up_ss]; rfl) (fun i hi => by rw [f4 2 (by decide) (by decide)]; exact h3 i hi) (fun M2 k1 k2 k3 => ?_)
  refine rd_loop hx htl tl 0 0 0 0 g00 ld00 0 M2 (PW_00 t) (Nat.zero_le _) (by omega) (Nat.le_refl _) ?_ (fun i hi => ?_) k1 ⟨?_, ?_, ?_, ?_, ?_, ?_, fun c hc => absurd hc (by omega)⟩ (fun c M3 q1 q2 q3 => ?_) (fun c M3 q1 q3 => ?_)
  · rw [k3 1 (by decide), f4 1 (by decide) (by decide), h1]
  · rw [k3 2 (by decide), f4 2 (by decide) (by decide)]
    exact h3 i hi
  · rw [k2 1 (by decide), eg, up_sn (by decide), ef, up_sn (by decide), ee, up_sn (by decide), ed, up_sn (by decide), ec, up_ss]
    rfl
  · rw [k2 2 (by decide), eg, up_sn (by decide), ef, up_sn (by decide), ee, up_sn (by decide), ed, up_ss]
    rfl
  · rw [k2 3 (by decide), eg, up_sn (by decide), ef, up_sn (by decide), ee, up_ss]
  · rw [k2 4 (by decide), eg, up_sn (by decide), ef, up_ss]
  · rw [k3 4 (by decide), eg, up_o (by decide), ef, up_o (by decide), ee, up_o (by decide), ed, up_o (by decide), ec, up_o (by decide), eb, up_sn (by decide), ea, up_ss]
    rfl
  · rw [k3 4 (by decide), eg, up_o (by decide), ef, up_o (by decide), ee, up_o (by decide), ed, up_o (by decide), ec, up_o (by decide), eb, up_ss]
  · exact he c M3 q1 q2 (fun a ha => by rw [q3 a ha, k3 a (by omega), f4 a (by omega) (by omega)])
  · exact hq c M3 q1 (fun a ha => by rw [q3 a ha, k3 a (by omega), f4 a (by omega) (by omega)])
