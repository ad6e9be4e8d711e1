/-! a clause: its code, the place of its fault, the state behind it. State: nc corners, od odds, n cars, g car -> (corner, start of its round in the text, its length), ld leaders -/
abbrev Gc : Type := Nat → Nat × Nat × Nat
def xp (t : Nat → Int32) (tl q : Nat) : Nat := sk t tl (ne t tl (ne t tl (q + 1))) + 1
def bdc (t : Nat → Int32) (tl q x : Nat) : Nat := if x = 0 then (if lt t tl (sk t tl (ne t tl (ne t tl (q + 1)))) = 59 then 0 else 1) else x
def bdp (t : Nat → Int32) (tl q x pl : Nat) : Nat := if x = 0 then sk t tl (ne t tl (ne t tl (q + 1))) else pl
def ccd (t : Nat → Int32) (tl nc n : Nat) (ld : Nat → Int32) (q : Nat) : Nat := if t q = 116 then (if nc = 0 then bdc t tl q (twc t tl (q + 1)) else 3) else if t q = 99 then (if nc = 0 then 1 else if n = 8 then 3 else bdc t tl q (crc t tl nc (q + 1))) else if t q = 102 then (if nc = 0 then 1 else bdc t tl q (flc t tl n ld (q + 1))) else 1
def cpl (t : Nat → Int32) (tl nc n : Nat) (ld : Nat → Int32) (q : Nat) : Nat := if t q = 116 then (if nc = 0 then bdp t tl q (twc t tl (q + 1)) (twp t tl (q + 1)) else q) else if t q = 99 then (if nc = 0 then q else if n = 8 then q else bdp t tl q (crc t tl nc (q + 1)) (crp t tl nc (q + 1))) else if t q = 102 then (if nc = 0 then q else bdp t tl q (flc t tl n ld (q + 1)) (flp t tl n ld (q + 1))) else q
def xnc (t : Nat → Int32) (tl q nc : Nat) : Nat := if t q = 116 then nv t tl (q + 1) else nc
def xod (t : Nat → Int32) (tl q od : Nat) : Nat := if t q = 116 then nv t tl (ne t tl (q + 1)) else od
def xn (t : Nat → Int32) (q n : Nat) : Nat := if t q = 99 then n + 1 else n
def xg (t : Nat → Int32) (tl q n : Nat) (g : Gc) : Gc := fun c => if t q = 99 ∧ c = n then (nv t tl (q + 1), sk t tl (ne t tl (q + 1)), ne t tl (ne t tl (q + 1)) - sk t tl (ne t tl (q + 1))) else g c
def xld (t : Nat → Int32) (tl q n : Nat) (ld : Nat → Int32) : Nat → Int32 := if t q = 99 then upd ld n (-1) else if t q = 102 then upd ld (nv t tl (q + 1)) (nI (nv t tl (ne t tl (q + 1)))) else ld
def CR (t : Nat → Int32) (nc od n : Nat) (g : Gc) (ld : Nat → Int32) (M : Mem) : Prop := M 3 1 = nI nc ∧ M 3 2 = nI od ∧ M 3 3 = 0 ∧ M 3 4 = -1 ∧ M 4 0 = nI n ∧ M 4 1 = 0 ∧ ∀ c, c < n → M 5 c = nI (g c).1 ∧ M 6 c = ld c ∧ M 7 c = nI (vlf t (g c).2.1 (g c).2.2) ∧ M 8 c = 0 ∧ M 9 c = 0
theorem CR_c {t : Nat → Int32} {nc od n : Nat} {g : Gc} {ld : Nat → Int32} {M M' : Mem} (h : ∀ k, k ≠ 6 → M' 3 k = M 3 k) (h2 : ∀ a, a ≠ 3 → M' a = M a) (q : CR t nc od n g ld M) : CR t nc od n g ld M' := by
  unfold CR
  rw [h 1 (by decide), h 2 (by decide), h 3 (by decide), h 4 (by decide), h2 4 (by decide), h2 5 (by decide), h2 6 (by decide), h2 7 (by decide), h2 8 (by decide), h2 9 (by decide)]
  exact q
theorem upd_s (f : Nat → Int32) (i : Nat) (v : Int32) : upd f i v i = v := if_pos rfl
theorem upd_n {f : Nat → Int32} {i j : Nat} {v : Int32} (h : j ≠ i) : upd f i v j = f j := if_neg h
theorem bdc_0 {t : Nat → Int32} {tl q : Nat} : bdc t tl q 0 = if lt t tl (sk t tl (ne t tl (ne t tl (q + 1)))) = 59 then 0 else 1 := if_pos rfl
theorem bdc_n {t : Nat → Int32} {tl q x : Nat} (h : x ≠ 0) : bdc t tl q x = x := if_neg h
theorem bdp_0 {t : Nat → Int32} {tl q pl : Nat} : bdp t tl q 0 pl = sk t tl (ne t tl (ne t tl (q + 1))) := if_pos rfl
theorem bdp_n {t : Nat → Int32} {tl q x pl : Nat} (h : x ≠ 0) : bdp t tl q x pl = pl := if_neg h
theorem ch1 : ¬ (99 : Int32) = 116 := by decide
theorem ch2 : ¬ (102 : Int32) = 116 := by decide
theorem ch3 : ¬ (102 : Int32) = 99 := by decide
theorem ch4 : ¬ (116 : Int32) = 99 := by decide
theorem ch5 : ¬ (116 : Int32) = 102 := by decide
theorem ch6 : ¬ (99 : Int32) = 102 := by decide
set_option maxHeartbeats 4000000 in
theorem sp_readClause {Q : Mem → Prop} {q tl nc od n : Nat} {g : Gc} {ld t : Nat → Int32} {M : Mem} (hn : n ≤ 8) (hnc : nc ≤ 9) (hl : q < tl) (htl : tl ≤ 240) (h1 : M 1 1 = nI tl) (h2 : M 3 6 = nI q) (h3 : ∀ i, i < tl → M 2 i = t i) (hr : CR t nc od n g ld M)
    (he : ccd t tl nc n ld q ≠ 0 → ∀ M', M' 3 3 = nI (ccd t tl nc n ld q) → M' 3 4 = nI (cpl t tl nc n ld q) → (∀ a, a < 3 ∨ 9 < a → M' a = M a) → Q M')
    (hq : ccd t tl nc n ld q = 0 → ∀ M', CR t (xnc t tl q nc) (xod t tl q od) (xn t q n) (xg t tl q n g) (xld t tl q n ld) M' → M' 3 6 = nI (xp t tl q) → (∀ a, a < 3 ∨ 9 < a → M' a = M a) → Q M') : wp_X6_readClause Q M := by
  intro X40 X81 X121 hx40 hx81 hx121
  obtain ⟨r1, r2, r3, r4, r5, r6, r7⟩ := hr
  unfold bd_X6_readClause
  refine sp_letter (t := t) (p := q) (by omega) htl h1 h2 h3 ?_
  rw [show lt t tl q = t q from if_pos hl]
  have z31 : M 3 1 = 0 ↔ nc = 0 := by
    rw [r1, l0]
    exact eqN (by omega) (by decide)
  have z40 : M 4 0 < 8 ↔ n < 8 := by
    rw [r5]
    exact ltN (b := 8) (by omega) (by decide)
  have bl : ∀ k : Nat, k ≠ 0 → ccd t tl nc n ld q = k → cpl t tl nc n ld q = q → wp_X6_blame (fun M2 => Q M2) (nI k) (M 3 6) M := by
    intro k hk ec ep
    rw [h2]
    exact sp_blame r3 (fun M4 c1 c2 c3 c4 => he (by rw [ec]; exact hk) M4 (by rw [c1, ec]) (by rw [c2, ep]) (fun a ha => c4 a (by omega)))
  have pn : ne t tl (ne t tl (q + 1)) ≤ tl := ne_le (ne_le (by omega))
  have bad : ∀ M', ccd t tl nc n ld q ≠ 0 → ¬ nI (ccd t tl nc n ld q) = 0 → M' 3 3 = nI (ccd t tl nc n ld q) → M' 3 4 = nI (cpl t tl nc n ld q) → (∀ a, a < 3 ∨ 9 < a → M' a = M a) → X121 M' := by
    intro M' c0 cz c1 c2 c3
    apply hx121
    unfold bd_X6_readClause_121
    refine sp_readSemicolonE htl ((congrFun (c3 1 (by decide)) 1).trans h1) (by rw [c1]; exact cz) (fun M2 k1 k2 => ?_)
    exact he c0 M2 (by rw [k1 3 (by decide), c1]) (by rw [k1 4 (by decide), c2]) (fun a ha => by rw [k2 a (by omega), c3 a ha])
  have ok : ∀ M', ccd t tl nc n ld q = bdc t tl q 0 → cpl t tl nc n ld q = sk t tl (ne t tl (ne t tl (q + 1))) → CR t (xnc t tl q nc) (xod t tl q od) (xn t q n) (xg t tl q n g) (xld t tl q n ld) M' → M' 3 6 = nI (ne t tl (ne t tl (q + 1))) → (∀ a, a < 3 ∨ 9 < a → M' a = M a) → X121 M' := by
    intro M' c1 c2 c3 c4 c5
    rw [bdc_0] at c1
    apply hx121
    unfold bd_X6_readClause_121
    refine sp_readSemicolon (t := t) pn htl ((congrFun (c5 1 (by decide)) 1).trans h1) c4 (fun i hi => by rw [c5 2 (by decide)]; exact h3 i hi) c3.2.2.1 (fun z M2 a1 a2 a3 => ?_) (fun z M2 a1 a2 a3 => ?_)
    · rw [if_neg z] at c1
      rw [c1, c2] at he
      exact he (by decide) M2 a1 a2 (fun a ha => by rw [a3 a (by omega), c5 a ha])
    · rw [if_pos z] at c1
      exact hq c1 M2 (CR_c a2 a3 c3) a1 (fun a ha => by rw [a3 a (by omega), c5 a ha])
  have nz : ∀ k : Nat, k ≤ 4 → k ≠ 0 → ¬ nI k = 0 := fun k k1 k2 => by
    rw [l0, eqN (by omega) (by decide)]
    exact k2
  by_cases e1 : t q = 116
  · rw [e1]
    refine ⟨fun _ => ?_, fun z => absurd rfl z⟩
    unfold ccd at he hq bl bad ok
    unfold cpl at he bl bad ok
    rw [if_pos e1] at he hq bl bad ok
    rw [if_pos e1] at he bl bad ok
    apply hx40
    unfold bd_X6_readClause_40
    refine ⟨fun _ => ⟨fun z => ⟨fun y => absurd y ch4, fun _ => ?_⟩, fun z => ?_⟩, fun z => absurd rfl z⟩
    · have w := z31.mp z
      rw [if_pos w] at he hq bl bad ok
      rw [if_pos w] at he bl bad ok
      apply hx81
      unfold bd_X6_readClause_81
      intro M1 m1
      rw [h2, nI_1] at m1
      refine ⟨fun _ => ?_, fun z => absurd rfl z⟩
      refine sp_readTown (t := t) (p := q + 1) (by omega) htl ?_ ?_ (fun i hi => ?_) ?_ (fun b M2 g1 g2 g3 => ?_) (fun b M2 g1 g2 g3 g4 g5 g6 => ?_)
      · rw [m1, up_o (by decide), h1]
      · rw [m1, up_ss]
      · rw [m1, up_o (by decide)]
        exact h3 i hi
      · rw [m1, up_sn (by decide), r3]
      · rw [bdc_n b, bdp_n b] at bad
        have le : twc t tl (q + 1) ≤ 4 := by
          unfold twc
          have a1 := pnc_le (t := t) (tl := tl) (p := q + 1) (a1 := 1) (a2 := 9)
          have a2 := pnc_le (t := t) (tl := tl) (p := ne t tl (q + 1)) (a1 := 0) (a2 := 100)
          split <;> omega
        exact bad M2 b (nz _ le b) g1 g2 (fun a ha => by rw [g3 a (by omega), m1, up_o (by omega)])
      · rw [b, bdp_0] at ok
        refine ok M2 rfl rfl ⟨?_, ?_, g1, ?_, ?_, ?_, fun c hc => ?_⟩ g3 (fun a ha => by rw [g6 a (by omega), m1, up_o (by omega)])
        · rw [g4]
          unfold xnc
          rw [if_pos e1]
        · rw [g5]
          unfold xod
          rw [if_pos e1]
        · rw [g2, m1, up_sn (by decide), r4]
        · rw [g6 4 (by decide), m1, up_o (by decide), r5]
          unfold xn
          rw [if_neg (by rw [e1]; exact ch4)]
        · rw [g6 4 (by decide), m1, up_o (by decide), r6]
        · unfold xn at hc
          rw [if_neg (by rw [e1]; exact ch4)] at hc
          have q1 : xg t tl q n g c = g c := if_neg (fun z => absurd z.1 (by rw [e1]; exact ch4))
          have q2 : xld t tl q n ld = ld := by
            unfold xld
            rw [if_neg (by rw [e1]; exact ch4), if_neg (by rw [e1]; exact ch5)]
          rw [q1, q2, g6 5 (by decide), g6 6 (by decide), g6 7 (by decide), g6 8 (by decide), g6 9 (by decide), m1, up_o (by decide), up_o (by decide), up_o (by decide), up_o (by decide), up_o (by decide)]
          exact r7 c hc
    · have w : ¬ nc = 0 := fun y => z (z31.mpr y)
      rw [if_neg w] at bl
      rw [if_neg w] at bl
      exact bl 3 (by decide) rfl rfl
  · refine ⟨fun z => absurd z e1, fun _ => ?_⟩
    unfold ccd at he hq bl bad ok
    unfold cpl at he bl bad ok
    rw [if_neg e1] at he hq bl bad ok
    rw [if_neg e1] at he bl bad ok
    by_cases e2 : t q = 99
    · rw [if_pos e2] at he hq bl bad ok
      rw [if_pos e2] at he bl bad ok
      rw [e2]
      refine ⟨fun _ => ⟨fun z => ?_, fun z => ?_⟩, fun z => absurd rfl z⟩
      · have w := z31.mp z
        rw [if_pos w] at bl
        rw [if_pos w] at bl
        exact bl 1 (by decide) rfl rfl
      · have w : ¬ nc = 0 := fun y => z (z31.mpr y)
        rw [if_neg w] at he hq bl bad ok
        rw [if_neg w] at he bl bad ok
        apply hx40
        unfold bd_X6_readClause_40
        refine ⟨fun y => absurd y ch1, fun _ => ⟨fun _ => ⟨fun y => ?_, fun y => ?_⟩, fun y => absurd rfl y⟩⟩
        · have v := z40.mp y
          rw [if_neg (show ¬ n = 8 by omega)] at he hq bl bad ok
          rw [if_neg (show ¬ n = 8 by omega)] at he bl bad ok
          apply hx81
          unfold bd_X6_readClause_81
          intro M1 m1
          rw [h2, nI_1] at m1
          refine ⟨fun y => absurd y ch1, fun _ => ⟨fun _ => ?_, fun z => absurd rfl z⟩⟩
          refine sp_readCar (t := t) (p := q + 1) (nc := nc) (n := n) v hnc (by omega) htl ?_ ?_ (fun i hi => ?_) ?_ ?_ ?_ (fun b M2 g1 g2 g3 => ?_) (fun b M2 g1 g2 g3 g4 g5 g6 g7 g8 g9 g10 g11 g12 => ?_)
          · rw [m1, up_o (by decide), h1]
          · rw [m1, up_ss]
          · rw [m1, up_o (by decide)]
            exact h3 i hi
          · rw [m1, up_sn (by decide), r3]
          · rw [m1, up_sn (by decide), r1]
          · rw [m1, up_o (by decide), r5]
          · rw [bdc_n b, bdp_n b] at bad
            have le : crc t tl nc (q + 1) ≤ 4 := by
              unfold crc crd
              have a1 := pnc_le (t := t) (tl := tl) (p := q + 1) (a1 := 0) (a2 := nI nc - 1)
              have a2 := pnc_le (t := t) (tl := tl) (p := ne t tl (q + 1)) (a1 := 0) (a2 := 999999)
              split
              · split
                · split <;> omega
                · omega
              · omega
            exact bad M2 b (nz _ le b) g1 g2 (fun a ha => by rw [g3 a (by omega), m1, up_o (by omega)])
          · rw [b, bdp_0] at ok
            refine ok M2 rfl rfl ⟨?_, ?_, g1, ?_, ?_, ?_, fun c hc => ?_⟩ g3 (fun a ha => by rw [g12 a (by omega), m1, up_o (by omega)])
            · rw [g4 1 (by decide), m1, up_sn (by decide), r1]
              unfold xnc
              rw [if_neg e1]
            · rw [g4 2 (by decide), m1, up_sn (by decide), r2]
              unfold xod
              rw [if_neg e1]
            · rw [g2, m1, up_sn (by decide), r4]
            · rw [g5]
              unfold xn
              rw [if_pos e2]
            · rw [g6, m1, up_o (by decide), r6]
            · unfold xn at hc
              rw [if_pos e2] at hc
              have q2 : xld t tl q n ld = upd ld n (-1) := by
                unfold xld
                rw [if_pos e2]
              rw [q2, g7, g8, g9, g10, g11]
              by_cases x : c = n
              · have q1 : xg t tl q n g c = (nv t tl (q + 1), sk t tl (ne t tl (q + 1)), ne t tl (ne t tl (q + 1)) - sk t tl (ne t tl (q + 1))) := if_pos ⟨e2, x⟩
                rw [q1, x, upd_s, upd_s, upd_s, upd_s, upd_s, upd_s]
                exact ⟨rfl, rfl, rfl, rfl, rfl⟩
              · have q1 : xg t tl q n g c = g c := if_neg (fun z => x z.2)
                rw [q1, upd_n x, upd_n x, upd_n x, upd_n x, upd_n x, upd_n x, m1, up_o (by decide), up_o (by decide), up_o (by decide), up_o (by decide), up_o (by decide)]
                exact r7 c (by omega)
        · have v : n = 8 := by
            have : ¬ n < 8 := fun w => y (z40.mpr w)
            omega
          rw [if_pos v] at bl
          rw [if_pos v] at bl
          exact bl 3 (by decide) rfl rfl
    · rw [if_neg e2] at he hq bl bad ok
      rw [if_neg e2] at he bl bad ok
      refine ⟨fun z => absurd z e2, fun _ => ?_⟩
      by_cases e3 : t q = 102
      · rw [if_pos e3] at he hq bl bad ok
        rw [if_pos e3] at he bl bad ok
        rw [e3]
        refine ⟨fun _ => ⟨fun z => ?_, fun z => ?_⟩, fun z => absurd rfl z⟩
        · have w := z31.mp z
          rw [if_pos w] at bl
          rw [if_pos w] at bl
          exact bl 1 (by decide) rfl rfl
        · have w : ¬ nc = 0 := fun y => z (z31.mpr y)
          rw [if_neg w] at he hq bl bad ok
          rw [if_neg w] at he bl bad ok
          apply hx40
          unfold bd_X6_readClause_40
          refine ⟨fun y => absurd y ch2, fun _ => ⟨fun y => absurd y ch3, fun _ => ?_⟩⟩
          apply hx81
          unfold bd_X6_readClause_81
          intro M1 m1
          rw [h2, nI_1] at m1
          refine ⟨fun y => absurd y ch2, fun _ => ⟨fun y => absurd y ch3, fun _ => ?_⟩⟩
          refine sp_readFollowing (t := t) (p := q + 1) (n := n) (ld := ld) hn (by omega) htl ?_ ?_ (fun i hi => ?_) ?_ ?_ (fun c hc => ?_) (fun b M2 g1 g2 g3 => ?_) (fun b M2 g1 g2 g3 g4 g5 g6 => ?_)
          · rw [m1, up_o (by decide), h1]
          · rw [m1, up_ss]
          · rw [m1, up_o (by decide)]
            exact h3 i hi
          · rw [m1, up_sn (by decide), r3]
          · rw [m1, up_o (by decide), r5]
          · rw [m1, up_o (by decide)]
            exact (r7 c hc).2.1
          · rw [bdc_n b, bdp_n b] at bad
            have le : flc t tl n ld (q + 1) ≤ 4 := by
              unfold flc
              have a1 := pnc_le (t := t) (tl := tl) (p := q + 1) (a1 := 0) (a2 := nI n - 1)
              have a2 := pnc_le (t := t) (tl := tl) (p := ne t tl (q + 1)) (a1 := 0) (a2 := nI n - 1)
              split
              · split
                · split
                  · split <;> omega
                  · omega
                · omega
              · omega
            exact bad M2 b (nz _ le b) g1 g2 (fun a ha => by rw [g3 a (by omega), m1, up_o (by omega)])
          · rw [b, bdp_0] at ok
            have hv : xn t q n = n := if_neg e2
            refine ok M2 rfl rfl ⟨?_, ?_, g1, ?_, ?_, ?_, fun c hc => ?_⟩ g3 (fun a ha => by rw [g6 a (by omega) (by omega), m1, up_o (by omega)])
            · rw [g4 1 (by decide), m1, up_sn (by decide), r1]
              unfold xnc
              rw [if_neg e1]
            · rw [g4 2 (by decide), m1, up_sn (by decide), r2]
              unfold xod
              rw [if_neg e1]
            · rw [g2, m1, up_sn (by decide), r4]
            · rw [hv, g6 4 (by decide) (by decide), m1, up_o (by decide), r5]
            · rw [g6 4 (by decide) (by decide), m1, up_o (by decide), r6]
            · rw [hv] at hc
              have q1 : xg t tl q n g c = g c := if_neg (fun z => e2 z.1)
              have q2 : xld t tl q n ld = upd ld (nv t tl (q + 1)) (nI (nv t tl (ne t tl (q + 1)))) := by
                unfold xld
                rw [if_neg e2, if_pos e3]
              obtain ⟨s1, s2, s3, s4, s5⟩ := r7 c hc
              rw [q1, q2, g6 5 (by decide) (by decide), g6 7 (by decide) (by decide), g6 8 (by decide) (by decide), g6 9 (by decide) (by decide), g5, m1, up_o (by decide), up_o (by decide), up_o (by decide), up_o (by decide), up_o (by decide)]
              refine ⟨s1, ?_, s3, s4, s5⟩
              by_cases x : c = nv t tl (q + 1)
              · rw [x, upd_s, upd_s]
              · rw [upd_n x, upd_n x]
                exact s2
      · refine ⟨fun z => absurd z e3, fun _ => ?_⟩
        rw [if_neg e3] at bl
        rw [if_neg e3] at bl
        exact bl 1 (by decide) rfl rfl
