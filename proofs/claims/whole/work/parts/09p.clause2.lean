/-! the same clause, by the reference -/
def RP (t : Nat → Int32) (nc od n : Nat) (g : Gc) (ld : Nat → Int32) (M : Mem) : Prop := M 216 0 = nI nc ∧ M 216 1 = nI od ∧ M 211 9 = -1 ∧ M 211 14 = nI n ∧ ∀ c, c < n → M 217 c = nI (g c).1 ∧ M 220 c = ld c ∧ M 219 c = nI (g c).2.2 ∧ ∀ k, k < (g c).2.2 → M 218 (6 * c + k) = t ((g c).2.1 + k) - 49
theorem RP_c {t : Nat → Int32} {nc od n : Nat} {g : Gc} {ld : Nat → Int32} {M M' : Mem} (h : ∀ k, k ≠ 10 → M' 211 k = M 211 k) (h2 : ∀ a, a ≠ 211 → M' a = M a) (q : RP t nc od n g ld M) : RP t nc od n g ld M' := by
  unfold RP
  rw [h 9 (by decide), h 14 (by decide), h2 216 (by decide), h2 217 (by decide), h2 218 (by decide), h2 219 (by decide), h2 220 (by decide)]
  exact q
def PW (t : Nat → Int32) (nc n : Nat) (g : Gc) (ld : Nat → Int32) : Prop := n ≤ 8 ∧ nc ≤ 9 ∧ ∀ c, c < n → (g c).1 < 9 ∧ 1 ≤ (g c).2.2 ∧ (g c).2.2 ≤ 6 ∧ (∀ k, k < (g c).2.2 → ∃ d, 1 ≤ d ∧ d ≤ 9 ∧ t ((g c).2.1 + k) = nI (48 + d)) ∧ (ld c = -1 ∨ ∃ d, d < n ∧ d ≠ c ∧ ld c = nI d)
theorem ch7 : ¬ (1 : Int32) < 0 := by decide
theorem ch8 : ¬ (2 : Int32) < 0 := by decide
theorem ch9 : ¬ (1 : Int32) ≤ 0 := by decide
theorem ch10 : ¬ (2 : Int32) ≤ 0 := by decide
theorem ch11 : ¬ (1 : Int32) = 0 := by decide
theorem ch12 : ¬ (2 : Int32) = 0 := by decide
theorem ch13 : ¬ (2 : Int32) = 1 := by decide
theorem ch14 : ¬ (0 : Int32) < 0 := by decide
theorem ch15 : (0 : Int32) ≤ 0 := by decide
set_option maxHeartbeats 4000000 in
theorem sp_takeClause {Q : Int32 → Mem → Prop} {q tl nc od n : Nat} {g : Gc} {ld t : Nat → Int32} {M : Mem} (hw : PW t nc n g ld) (hl : q < tl) (hsk : sk t tl q = q) (htl : tl ≤ 240) (h1 : M 211 8 = nI tl) (h2 : M 211 10 = nI q) (h3 : ∀ i, i < tl → M 215 i = t i) (hr : RP t nc od n g ld M)
    (he : ccd t tl nc n ld q ≠ 0 → ∀ M', M' 211 9 = nI (cpl t tl nc n ld q) → (∀ k, k < 9 ∨ 14 < k → M' 211 k = M 211 k) → (∀ a, a ≠ 211 → (a < 216 ∨ 220 < a) → M' a = M a) → Q (nI (ccd t tl nc n ld q)) M')
    (hq : ccd t tl nc n ld q = 0 → ∀ M', RP t (xnc t tl q nc) (xod t tl q od) (xn t q n) (xg t tl q n g) (xld t tl q n ld) M' → M' 211 10 = nI (xp t tl q) → (∀ k, k < 9 ∨ 14 < k → M' 211 k = M 211 k) → (∀ a, a ≠ 211 → (a < 216 ∨ 220 < a) → M' a = M a) → Q 0 M') : wp_X10_takeClause Q M := by
  intro X36 X64 X104 X119 X156 hx36 hx64 hx104 hx119 hx156
  obtain ⟨hn, hnc, hw⟩ := hw
  obtain ⟨r1, r2, r3, r4, r5⟩ := hr
  unfold bd_X10_takeClause
  refine sp_hereR (t := t) (p := q) (by omega) htl h1 h2 h3 (fun M0 m1 m2 m3 => ?_)
  rw [hsk] at m1 ⊢
  rw [show lt t tl q = t q from if_pos hl]
  have v0 : vp_in (0 : Int32) 2 := inb (i := 0) (by decide) (by decide)
  have a216 : M0 216 (0 : Int32).toNatClampNeg = nI nc := by
    rw [m3 216 (by decide)]
    exact r1
  have a14 : M0 211 14 = nI n := by rw [m2 14 (by decide), r4]
  have bl : ∀ k : Nat, k ≠ 0 → ccd t tl nc n ld q = k → cpl t tl nc n ld q = q → wp_X10_fails (fun r M2 => Q r M2) (nI k) (M0 211 10) M0 := by
    intro k hk ec ep
    rw [ec, ep] at he
    rw [m1]
    exact sp_fails (fun M4 c1 c3 c4 => he hk M4 c1 (fun k hk => by rw [c3 k (by omega), m2 k (by omega)]) (fun a a1 _ => by rw [c4 a a1, m3 a a1]))
  have pn : ne t tl (ne t tl (q + 1)) ≤ tl := ne_le (ne_le (by omega))
  have bad : ∀ M', ccd t tl nc n ld q ≠ 0 → ¬ nI (ccd t tl nc n ld q) = 0 → M' 211 9 = nI (cpl t tl nc n ld q) → (∀ k, k < 9 ∨ 14 < k → M' 211 k = M 211 k) → (∀ a, a ≠ 211 → (a < 216 ∨ 220 < a) → M' a = M a) → X156 (nI (ccd t tl nc n ld q)) M' := by
    intro M' c0 cz c1 c2 c3
    apply hx156
    unfold bd_X10_takeClause_156
    refine ⟨fun z => absurd z cz, fun _ M2 e2 => ?_⟩
    exact he c0 M2 (by rw [e2, up_sn (by decide), c1]) (fun k hk => by rw [e2, up_sn (by omega), c2 k hk]) (fun a a1 a2 => by rw [e2, up_o a1, c3 a a1 a2])
  have ok : ∀ M', ccd t tl nc n ld q = bdc t tl q 0 → cpl t tl nc n ld q = sk t tl (ne t tl (ne t tl (q + 1))) → RP t (xnc t tl q nc) (xod t tl q od) (xn t q n) (xg t tl q n g) (xld t tl q n ld) M' → M' 211 10 = nI (ne t tl (ne t tl (q + 1))) → (∀ k, k < 9 ∨ 14 < k → M' 211 k = M 211 k) → (∀ a, a ≠ 211 → (a < 216 ∨ 220 < a) → M' a = M a) → X156 0 M' := by
    intro M' c1 c2 c3 c4 c5 c6
    rw [bdc_0] at c1
    apply hx156
    unfold bd_X10_takeClause_156
    refine ⟨fun _ => ?_, fun z => absurd rfl z⟩
    refine sp_hereR (t := t) (p := ne t tl (ne t tl (q + 1))) (by omega) htl ((c5 8 (by omega)).trans h1) c4 (fun i hi => by rw [c6 215 (by decide) (by decide)]; exact h3 i hi) (fun M2 a1 a2 a3 => ⟨fun z M3 e3 => ?_, fun z => ?_⟩)
    · rw [if_pos z] at c1
      rw [a1, nI_1] at e3
      refine hq c1 M3 (RP_c (fun k hk => ?_) (fun a ha => ?_) c3) (by rw [e3, up_ss]; rfl) (fun k hk => ?_) (fun a b1 b2 => ?_)
      · rw [e3, up_sn hk, a2 k hk]
      · rw [e3, up_o ha, a3 a ha]
      · rw [e3, up_sn (by omega), a2 k (by omega), c5 k hk]
      · rw [e3, up_o b1, a3 a b1, c6 a b1 b2]
    · rw [if_neg z] at c1
      rw [c1, c2] at he
      rw [a1]
      refine sp_fails (fun M4 k1 k3 k4 => he (by decide) M4 k1 (fun k hk => ?_) (fun a b1 b2 => ?_))
      · rw [k3 k (by omega), a2 k (by omega), c5 k hk]
      · rw [k4 a b1, a3 a b1, c6 a b1 b2]
  have nz : ∀ k : Nat, k ≤ 4 → k ≠ 0 → ¬ nI k = 0 := fun k k1 k2 => by
    rw [l0, eqN (by omega) (by decide)]
    exact k2
  by_cases e1 : t q = 116
  · unfold ccd at he hq bl bad ok
    unfold cpl at he bl bad ok
    rw [if_pos e1] at he hq bl bad ok
    rw [if_pos e1] at he bl bad ok
    rw [e1]
    refine ⟨fun _ => ?_, fun z => absurd rfl z⟩
    apply hx36
    refine ⟨fun z => absurd z ch14, fun _ => ⟨fun _ => ?_, fun z => absurd ch15 z⟩⟩
    apply hx64
    refine ⟨fun _ => ?_, fun z => absurd rfl z⟩
    rw [a216]
    have le0 : nI nc ≤ 0 ↔ nc ≤ 0 := leN (b := 0) (by omega) (by decide)
    refine ⟨v0, fun z => ?_, fun z => ?_⟩
    · have w : nc = 0 := Nat.le_zero.mp (le0.mp z)
      rw [if_pos w] at he hq bl bad ok
      rw [if_pos w] at he bl bad ok
      apply hx104
      refine ⟨fun _ => ?_, fun z => absurd rfl z⟩
      apply hx119
      intro M1 e5
      rw [m1, nI_1] at e5
      refine ⟨fun _ => ?_, fun z => absurd rfl z⟩
      have f1 : ∀ k, k ≠ 10 → M1 211 k = M 211 k := fun k hk => by rw [e5, up_sn hk, m2 k hk]
      have f2 : ∀ a, a ≠ 211 → M1 a = M a := fun a ha => by rw [e5, up_o ha, m3 a ha]
      refine sp_takeTown (t := t) (p := q + 1) (by omega) htl ((f1 8 (by decide)).trans h1) (by rw [e5, up_ss]) (fun i hi => by rw [f2 215 (by decide)]; exact h3 i hi) (fun b M2 g1 g2 g3 => ?_) (fun b M2 g1 g2 g3 g4 g5 g6 => ?_)
      · rw [bdc_n b, bdp_n b] at bad
        have le : twc t tl (q + 1) ≤ 4 := by
          unfold twc
          have a1 := pnc_le (t := t) (tl := tl) (p := q + 1) (a1 := 1) (a2 := 9)
          have a2 := pnc_le (t := t) (tl := tl) (p := ne t tl (q + 1)) (a1 := 0) (a2 := 100)
          split <;> omega
        exact bad M2 b (nz _ le b) g1 (fun k hk => by rw [g2 k (by omega), f1 k (by omega)]) (fun a b1 b2 => by rw [g3 a b1 (by omega), f2 a b1])
      · rw [b, bdp_0] at ok
        have hv : xn t q n = n := if_neg (by rw [e1]; exact ch4)
        refine ok M2 rfl rfl ⟨?_, ?_, ?_, ?_, fun c hc => ?_⟩ g2 (fun k hk => by rw [g5 k (by omega), f1 k (by omega)]) (fun a b1 b2 => by rw [g6 a b1 (by omega), f2 a b1])
        · rw [g3]
          unfold xnc
          rw [if_pos e1]
        · rw [g4]
          unfold xod
          rw [if_pos e1]
        · rw [g1, f1 9 (by decide), r3]
        · rw [hv, g5 14 (by omega), f1 14 (by decide), r4]
        · rw [hv] at hc
          have q1 : xg t tl q n g c = g c := if_neg (fun z => absurd z.1 (by rw [e1]; exact ch4))
          have q2 : xld t tl q n ld = ld := by
            unfold xld
            rw [if_neg (by rw [e1]; exact ch4), if_neg (by rw [e1]; exact ch5)]
          rw [q1, q2, g6 217 (by decide) (by decide), g6 218 (by decide) (by decide), g6 219 (by decide) (by decide), g6 220 (by decide) (by decide), f2 217 (by decide), f2 218 (by decide), f2 219 (by decide), f2 220 (by decide)]
          exact r5 c hc
    · have w : ¬ nc = 0 := fun y => z (by rw [y]; exact ch15)
      rw [if_neg w] at bl
      rw [if_neg w] at bl
      apply hx104
      exact ⟨fun z => absurd z ch11, fun _ => bl 3 (by decide) rfl rfl⟩
  · refine ⟨fun z => absurd z e1, fun _ => ?_⟩
    unfold ccd at he hq bl bad ok
    unfold cpl at he bl bad ok
    rw [if_neg e1] at he hq bl bad ok
    rw [if_neg e1] at he bl bad ok
    have eq0 : nI nc = 0 ↔ nc = 0 := eqN (b := 0) (by omega) (by decide)
    by_cases e2 : t q = 99
    · rw [if_pos e2] at he hq bl bad ok
      rw [if_pos e2] at he bl bad ok
      rw [e2]
      refine ⟨fun _ => ?_, fun z => absurd rfl z⟩
      apply hx36
      refine ⟨fun z => absurd z ch7, fun _ => ⟨fun z => absurd z ch9, fun _ => ⟨v0, ?_⟩⟩⟩
      rw [a216]
      refine ⟨fun z => ?_, fun z => ?_⟩
      · have w := eq0.mp z
        rw [if_pos w] at bl
        rw [if_pos w] at bl
        exact bl 1 (by decide) rfl rfl
      · have w : ¬ nc = 0 := fun y => z (eq0.mpr y)
        rw [if_neg w] at he hq bl bad ok
        rw [if_neg w] at he bl bad ok
        apply hx64
        refine ⟨fun z => absurd z ch11, fun _ => ⟨fun _ => ?_, fun z => absurd rfl z⟩⟩
        rw [a14]
        have eq8 : nI n = 8 ↔ n = 8 := eqN (b := 8) (by omega) (by decide)
        refine ⟨fun y => ?_, fun y => ?_⟩
        · have v := eq8.mp y
          rw [if_pos v] at bl
          rw [if_pos v] at bl
          apply hx104
          exact ⟨fun z => absurd z ch11, fun _ => bl 3 (by decide) rfl rfl⟩
        · have v : ¬ n = 8 := fun w => y (eq8.mpr w)
          rw [if_neg v] at he hq bl bad ok
          rw [if_neg v] at he bl bad ok
          apply hx104
          refine ⟨fun _ => ?_, fun z => absurd rfl z⟩
          apply hx119
          intro M1 e5
          rw [m1, nI_1] at e5
          refine ⟨fun z => absurd z ch11, fun _ => ⟨fun _ => ?_, fun z => absurd rfl z⟩⟩
          have f1 : ∀ k, k ≠ 10 → M1 211 k = M 211 k := fun k hk => by rw [e5, up_sn hk, m2 k hk]
          have f2 : ∀ a, a ≠ 211 → M1 a = M a := fun a ha => by rw [e5, up_o ha, m3 a ha]
          refine sp_takeCar (t := t) (p := q + 1) (n := n) (nc := nc) (by omega) hnc (by omega) htl ((f1 8 (by decide)).trans h1) (by rw [e5, up_ss]) (fun i hi => by rw [f2 215 (by decide)]; exact h3 i hi) ((f1 14 (by decide)).trans r4) (by rw [f2 216 (by decide), r1]) (fun b M2 g1 g2 g3 => ?_) (fun b M2 g1 g2 g3 g4 g5 g6 g7 g8 g9 g10 => ?_)
          · rw [bdc_n b, bdp_n b] at bad
            have le : crc t tl nc (q + 1) ≤ 4 := by
              unfold crc crd
              have a1 := pnc_le (t := t) (tl := tl) (p := q + 1) (a1 := 0) (a2 := nI nc - 1)
              have a2 := pnc_le (t := t) (tl := tl) (p := ne t tl (q + 1)) (a1 := 0) (a2 := 999999)
              split
              · split
                · split <;> omega
                · omega
              · omega
            exact bad M2 b (nz _ le b) g1 (fun k hk => by rw [g2 k (by omega), f1 k (by omega)]) (fun a b1 b2 => by rw [g3 a b1 (by omega), f2 a b1])
          · rw [b, bdp_0] at ok
            have hv : xn t q n = n + 1 := if_pos e2
            refine ok M2 rfl rfl ⟨?_, ?_, ?_, ?_, fun c hc => ?_⟩ g2 (fun k hk => by rw [g9 k (by omega), f1 k (by omega)]) (fun a b1 b2 => by rw [g10 a b1 (by omega), f2 a b1])
            · rw [g10 216 (by decide) (by decide), f2 216 (by decide), r1]
              unfold xnc
              rw [if_neg e1]
            · rw [g10 216 (by decide) (by decide), f2 216 (by decide), r2]
              unfold xod
              rw [if_neg e1]
            · rw [g1, f1 9 (by decide), r3]
            · rw [hv, g3]
            · rw [hv] at hc
              have q2 : xld t tl q n ld = upd ld n (-1) := by
                unfold xld
                rw [if_pos e2]
              rw [q2, g4, g5, g6]
              by_cases x : c = n
              · have q1 : xg t tl q n g c = (nv t tl (q + 1), sk t tl (ne t tl (q + 1)), ne t tl (ne t tl (q + 1)) - sk t tl (ne t tl (q + 1))) := if_pos ⟨e2, x⟩
                rw [q1, x, upd_s, upd_s, upd_s, upd_s]
                exact ⟨rfl, rfl, rfl, g7⟩
              · have q1 : xg t tl q n g c = g c := if_neg (fun z => x z.2)
                obtain ⟨s1, s2, s3, s4⟩ := r5 c (by omega)
                have s6 := (hw c (by omega)).2.2.1
                rw [q1, upd_n x, upd_n x, upd_n x, upd_n x, f2 217 (by decide), f2 219 (by decide), f2 220 (by decide)]
                refine ⟨s1, s2, s3, fun k hk => ?_⟩
                rw [g8 _ (by omega), f2 218 (by decide)]
                exact s4 k hk
    · rw [if_neg e2] at he hq bl bad ok
      rw [if_neg e2] at he bl bad ok
      refine ⟨fun z => absurd z e2, fun _ => ?_⟩
      by_cases e3 : t q = 102
      · rw [if_pos e3] at he hq bl bad ok
        rw [if_pos e3] at he bl bad ok
        rw [e3]
        refine ⟨fun _ => ?_, fun z => absurd rfl z⟩
        apply hx36
        refine ⟨fun z => absurd z ch8, fun _ => ⟨fun z => absurd z ch10, fun _ => ⟨v0, ?_⟩⟩⟩
        rw [a216]
        refine ⟨fun z => ?_, fun z => ?_⟩
        · have w := eq0.mp z
          rw [if_pos w] at bl
          rw [if_pos w] at bl
          exact bl 1 (by decide) rfl rfl
        · have w : ¬ nc = 0 := fun y => z (eq0.mpr y)
          rw [if_neg w] at he hq bl bad ok
          rw [if_neg w] at he bl bad ok
          apply hx64
          refine ⟨fun z => absurd z ch12, fun _ => ⟨fun z => absurd z ch13, fun _ => ?_⟩⟩
          apply hx104
          refine ⟨fun _ => ?_, fun z => absurd rfl z⟩
          apply hx119
          intro M1 e5
          rw [m1, nI_1] at e5
          refine ⟨fun z => absurd z ch12, fun _ => ⟨fun z => absurd z ch13, fun _ => ?_⟩⟩
          have f1 : ∀ k, k ≠ 10 → M1 211 k = M 211 k := fun k hk => by rw [e5, up_sn hk, m2 k hk]
          have f2 : ∀ a, a ≠ 211 → M1 a = M a := fun a ha => by rw [e5, up_o ha, m3 a ha]
          refine sp_takeFollows (t := t) (p := q + 1) (n := n) (ld := ld) hn (by omega) htl ((f1 8 (by decide)).trans h1) (by rw [e5, up_ss]) (fun i hi => by rw [f2 215 (by decide)]; exact h3 i hi) ((f1 14 (by decide)).trans r4) (fun c hc => by rw [f2 220 (by decide)]; exact (r5 c hc).2.1) (fun c hc => ?_) (fun b M2 g1 g2 g3 => ?_) (fun b M2 g1 g2 g3 g4 g5 => ?_)
          · rcases (hw c hc).2.2.2.2 with z | ⟨d, d1, d2, d3⟩
            · exact Or.inl z
            · refine Or.inr ?_
              rw [d3]
              exact nI_nlt0 (by omega)
          · rw [bdc_n b, bdp_n b] at bad
            have le : flc t tl n ld (q + 1) ≤ 4 := by
              unfold flc
              have a1 := pnc_le (t := t) (tl := tl) (p := q + 1) (a1 := 0) (a2 := nI n - 1)
              have a2 := pnc_le (t := t) (tl := tl) (p := ne t tl (q + 1)) (a1 := 0) (a2 := nI n - 1)
              split
              · split
                · split
                  · split <;> omega
                  · omega
                · omega
              · omega
            exact bad M2 b (nz _ le b) g1 (fun k hk => by rw [g2 k (by omega), f1 k (by omega)]) (fun a b1 b2 => by rw [g3 a b1, f2 a b1])
          · rw [b, bdp_0] at ok
            have hv : xn t q n = n := if_neg e2
            refine ok M2 rfl rfl ⟨?_, ?_, ?_, ?_, fun c hc => ?_⟩ g2 (fun k hk => by rw [g4 k (by omega), f1 k (by omega)]) (fun a b1 b2 => by rw [g5 a b1 (by omega), f2 a b1])
            · rw [g5 216 (by decide) (by decide), f2 216 (by decide), r1]
              unfold xnc
              rw [if_neg e1]
            · rw [g5 216 (by decide) (by decide), f2 216 (by decide), r2]
              unfold xod
              rw [if_neg e1]
            · rw [g1, f1 9 (by decide), r3]
            · rw [hv, g4 14 (by omega), f1 14 (by decide), r4]
            · rw [hv] at hc
              have q1 : xg t tl q n g c = g c := if_neg (fun z => e2 z.1)
              have q2 : xld t tl q n ld = upd ld (nv t tl (q + 1)) (nI (nv t tl (ne t tl (q + 1)))) := by
                unfold xld
                rw [if_neg e2, if_pos e3]
              obtain ⟨s1, s2, s3, s4⟩ := r5 c hc
              rw [q1, q2, g3, g5 217 (by decide) (by decide), g5 218 (by decide) (by decide), g5 219 (by decide) (by decide), f2 217 (by decide), f2 218 (by decide), f2 219 (by decide), f2 220 (by decide)]
              refine ⟨s1, ?_, s3, s4⟩
              by_cases x : c = nv t tl (q + 1)
              · rw [x, upd_s, upd_s]
              · rw [upd_n x, upd_n x]
                exact s2
      · refine ⟨fun z => absurd z e3, fun _ => ?_⟩
        rw [if_neg e3] at bl
        rw [if_neg e3] at bl
        apply hx36
        exact ⟨fun _ => bl 1 (by decide) rfl rfl, fun z => absurd m1_lt z⟩
/-- what a good clause leaves -/
theorem PW_next {t : Nat → Int32} {tl nc n q : Nat} {g : Gc} {ld : Nat → Int32} (hw : PW t nc n g ld) (hl : q < tl) (htl : tl ≤ 240) (h : ccd t tl nc n ld q = 0) : PW t (xnc t tl q nc) (xn t q n) (xg t tl q n g) (xld t tl q n ld) ∧ q < xp t tl q ∧ xp t tl q ≤ tl := by
  obtain ⟨hn, hnc, hw⟩ := hw
  have pn : ne t tl (ne t tl (q + 1)) ≤ tl := ne_le (ne_le (by omega))
  have ple : q < xp t tl q := by
    have a1 := sk_ge (t := t) (tl := tl) (p := ne t tl (ne t tl (q + 1)))
    have a2 : ne t tl (q + 1) ≤ ne t tl (ne t tl (q + 1)) := Nat.le_trans (sk_ge (t := t) (tl := tl)) fe_ge
    have a3 : q + 1 ≤ ne t tl (q + 1) := Nat.le_trans (sk_ge (t := t) (tl := tl)) fe_ge
    unfold xp
    omega
  have semi : ∀ x, bdc t tl q x = 0 → x = 0 ∧ xp t tl q ≤ tl := by
    intro x hx
    by_cases y : x = 0
    · refine ⟨y, ?_⟩
      rw [y, bdc_0] at hx
      by_cases z : lt t tl (sk t tl (ne t tl (ne t tl (q + 1)))) = 59
      · unfold lt at z
        by_cases w : sk t tl (ne t tl (ne t tl (q + 1))) < tl
        · unfold xp
          omega
        · rw [if_neg w] at z
          exact absurd z (by decide)
      · rw [if_neg z] at hx
        exact absurd hx (by decide)
    · rw [bdc_n y] at hx
      exact absurd hx y
  unfold ccd at h
  by_cases e1 : t q = 116
  · rw [if_pos e1] at h
    have hv : xn t q n = n := if_neg (by rw [e1]; exact ch4)
    have q2 : xld t tl q n ld = ld := by
      unfold xld
      rw [if_neg (by rw [e1]; exact ch4), if_neg (by rw [e1]; exact ch5)]
    by_cases w : nc = 0
    · rw [if_pos w] at h
      obtain ⟨h1, h2⟩ := semi _ h
      refine ⟨⟨by rw [hv]; exact hn, ?_, fun c hc => ?_⟩, ple, h2⟩
      · have q3 : xnc t tl q nc = nv t tl (q + 1) := if_pos e1
        rw [q3]
        unfold twc at h1
        by_cases y : pnc t tl 1 9 (q + 1) = 0
        · obtain ⟨b1, b2, _, _⟩ := pnc_v y
          exact (leN (b := 9) b2 (by decide)).mp b1.2
        · rw [if_neg y] at h1
          exact absurd h1 y
      · have q1 : xg t tl q n g c = g c := if_neg (fun z => absurd z.1 (by rw [e1]; exact ch4))
        rw [hv] at hc ⊢
        rw [q1, q2]
        exact hw c hc
    · rw [if_neg w] at h
      cases h
  · rw [if_neg e1] at h
    have q3 : xnc t tl q nc = nc := if_neg e1
    by_cases e2 : t q = 99
    · rw [if_pos e2] at h
      have hv : xn t q n = n + 1 := if_pos e2
      have q2 : xld t tl q n ld = upd ld n (-1) := by
        unfold xld
        rw [if_pos e2]
      by_cases w : nc = 0
      · rw [if_pos w] at h
        cases h
      · rw [if_neg w] at h
        by_cases v : n = 8
        · rw [if_pos v] at h
          cases h
        · rw [if_neg v] at h
          obtain ⟨h1, h2⟩ := semi _ h
          unfold crc at h1
          by_cases y : pnc t tl 0 (nI nc - 1) (q + 1) = 0
          · rw [if_pos y] at h1
            unfold crd at h1
            by_cases x : pnc t tl 0 999999 (ne t tl (q + 1)) = 0
            · rw [if_pos x] at h1
              obtain ⟨b1, b6, bf⟩ := pnc_fig x
              by_cases u : fgb t nc (sk t tl (ne t tl (q + 1))) (ne t tl (ne t tl (q + 1)) - sk t tl (ne t tl (q + 1))) = true
              · refine ⟨⟨by rw [hv]; omega, by rw [q3]; exact hnc, fun c hc => ?_⟩, ple, h2⟩
                rw [hv] at hc ⊢
                rw [q2]
                by_cases z : c = n
                · have q1 : xg t tl q n g c = (nv t tl (q + 1), sk t tl (ne t tl (q + 1)), ne t tl (ne t tl (q + 1)) - sk t tl (ne t tl (q + 1))) := if_pos ⟨e2, z⟩
                  rw [q1]
                  refine ⟨?_, b1, b6, fun k hk => ?_, Or.inl (by rw [z, upd_s])⟩
                  · show nv t tl (q + 1) < 9
                    have := pnc_n (by omega) y
                    omega
                  · obtain ⟨d, d1, d2, d3⟩ := fgl_val (bf k hk)
                    have u1 := fgb_of u hk
                    have d3' : t (sk t tl (ne t tl (q + 1)) + k) = nI d := d3
                    rw [d3', cl (by omega)] at u1
                    refine ⟨d - 48, by omega, by omega, ?_⟩
                    show t (sk t tl (ne t tl (q + 1)) + k) = _
                    rw [d3', show 48 + (d - 48) = d by omega]
                · have q1 : xg t tl q n g c = g c := if_neg (fun y => z y.2)
                  obtain ⟨s1, s2, s3, s4, s5⟩ := hw c (by omega)
                  rw [q1, upd_n z]
                  refine ⟨s1, s2, s3, s4, ?_⟩
                  rcases s5 with s5 | ⟨d, d1, d2, d3⟩
                  · exact Or.inl s5
                  · exact Or.inr ⟨d, by omega, d2, d3⟩
              · rw [if_neg u] at h1
                cases h1
            · rw [if_neg x] at h1
              exact absurd h1 x
          · rw [if_neg y] at h1
            exact absurd h1 y
    · rw [if_neg e2] at h
      have hv : xn t q n = n := if_neg e2
      by_cases e3 : t q = 102
      · rw [if_pos e3] at h
        by_cases w : nc = 0
        · rw [if_pos w] at h
          cases h
        · rw [if_neg w] at h
          obtain ⟨h1, h2⟩ := semi _ h
          unfold flc at h1
          have q2 : xld t tl q n ld = upd ld (nv t tl (q + 1)) (nI (nv t tl (ne t tl (q + 1)))) := by
            unfold xld
            rw [if_neg e2, if_pos e3]
          by_cases y : pnc t tl 0 (nI n - 1) (q + 1) = 0
          · rw [if_pos y] at h1
            by_cases x : ld (nv t tl (q + 1)) = -1
            · rw [if_pos x] at h1
              by_cases u : pnc t tl 0 (nI n - 1) (ne t tl (q + 1)) = 0
              · rw [if_pos u] at h1
                by_cases z : nv t tl (q + 1) = nv t tl (ne t tl (q + 1))
                · rw [if_pos z] at h1
                  cases h1
                · refine ⟨⟨by rw [hv]; exact hn, by rw [q3]; exact hnc, fun c hc => ?_⟩, ple, h2⟩
                  have q1 : xg t tl q n g c = g c := if_neg (fun z => e2 z.1)
                  rw [hv] at hc ⊢
                  rw [q1, q2]
                  obtain ⟨s1, s2, s3, s4, s5⟩ := hw c hc
                  refine ⟨s1, s2, s3, s4, ?_⟩
                  by_cases v : c = nv t tl (q + 1)
                  · rw [v, upd_s]
                    exact Or.inr ⟨_, pnc_n (by omega) u, fun e => z e.symm, rfl⟩
                  · rw [upd_n v]
                    exact s5
              · rw [if_neg u] at h1
                exact absurd h1 u
            · rw [if_neg x] at h1
              cases h1
          · rw [if_neg y] at h1
            exact absurd h1 y
      · rw [if_neg e3] at h
        cases h
