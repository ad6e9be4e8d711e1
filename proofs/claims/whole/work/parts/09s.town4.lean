theorem sp_copyRaw {Q : Mem → Prop} {b d : Nat} {M : Mem} (hdis : b + 6 < d ∨ d + 6 < b) (hq : ∀ M', M' b 0 = M d 0 → M' b 1 = M d 1 → (∀ c, c < 8 → M' (b + 1) c = M (d + 1) c ∧ M' (b + 2) c = M (d + 2) c ∧ M' (b + 3) c = M (d + 3) c ∧ M' (b + 4) c = M (d + 4) c ∧ M' (b + 5) c = M (d + 5) c) → (∀ a, (a < b ∨ b + 6 < a) → M' a = M a) → Q M') : wp_X7_copyFrom Q b d M := by
  intro M1 e1 M2 e2 M3 e3 M4 e4 M5 e5 M6 e6 M7 e7
  have f1 : ∀ a, a ≠ b → M2 a = M a := fun a ha => by rw [e2, up_o ha, e1, up_o ha]
  have f3 : ∀ a, a ≠ b → a ≠ b + 1 → M3 a = M a := fun a h1 h2 => by rw [e3, upr_o h2, f1 a h1]
  have f4 : ∀ a, a ≠ b → a ≠ b + 1 → a ≠ b + 2 → M4 a = M a := fun a h1 h2 h3 => by rw [e4, upr_o h3, f3 a h1 h2]
  have f5 : ∀ a, a ≠ b → a ≠ b + 1 → a ≠ b + 2 → a ≠ b + 3 → M5 a = M a := fun a h1 h2 h3 h4 => by rw [e5, upr_o h4, f4 a h1 h2 h3]
  have f6 : ∀ a, a ≠ b → a ≠ b + 1 → a ≠ b + 2 → a ≠ b + 3 → a ≠ b + 4 → M6 a = M a := fun a h1 h2 h3 h4 h5 => by rw [e6, upr_o h5, f5 a h1 h2 h3 h4]
  have f7 : ∀ a, a ≠ b → a ≠ b + 1 → a ≠ b + 2 → a ≠ b + 3 → a ≠ b + 4 → a ≠ b + 5 → M7 a = M a := fun a h1 h2 h3 h4 h5 h6 => by rw [e7, upr_o h6, f6 a h1 h2 h3 h4 h5]
  have gb : M7 b = upd (upd (M b) 0 (M d 0)) 1 (M d 1) := by
    rw [e7, upr_o (by omega), e6, upr_o (by omega), e5, upr_o (by omega), e4, upr_o (by omega), e3, upr_o (by omega), e2, up_s, e1, up_s, up_o (by omega)]
  refine hq M7 ?_ ?_ (fun c h8 => ?_) (fun a ha => f7 a (by omega) (by omega) (by omega) (by omega) (by omega) (by omega))
  · rw [gb]; rfl
  · rw [gb]; rfl
  · refine ⟨?_, ?_, ?_, ?_, ?_⟩
    · rw [e7, upr_o (by omega), e6, upr_o (by omega), e5, upr_o (by omega), e4, upr_o (by omega), e3, upr_s, f1 (d + 1) (by omega)]
      exact if_pos h8
    · rw [e7, upr_o (by omega), e6, upr_o (by omega), e5, upr_o (by omega), e4, upr_s, f3 (d + 2) (by omega) (by omega)]
      exact if_pos h8
    · rw [e7, upr_o (by omega), e6, upr_o (by omega), e5, upr_s, f4 (d + 3) (by omega) (by omega) (by omega)]
      exact if_pos h8
    · rw [e7, upr_o (by omega), e6, upr_s, f5 (d + 4) (by omega) (by omega) (by omega) (by omega)]
      exact if_pos h8
    · rw [e7, upr_s, f6 (d + 5) (by omega) (by omega) (by omega) (by omega) (by omega)]
      exact if_pos h8
def Fr (t : Nat → Int32) (n : Nat) (g : Gc) (ld R L f : Nat → Int32) : Prop := ∀ c, c < n → f c = nI (g c).1 ∧ f (8 + c) = ld c ∧ f (16 + c) = 0 ∧ f (24 + c) = 0 ∧ f (32 + c) = 0 ∧ L c = nI (g c).2.2 ∧ ∀ k, k < (g c).2.2 → R (6 * c + k) = t ((g c).2.1 + k) - 49
theorem rd_val {d : Nat} (h1 : 1 ≤ d) : nI (48 + d) - 49 = nI (d - 1) := by
  rw [show (49 : Int32) = nI 49 from rfl, pk_sub (by omega), show 48 + d - 49 = d - 1 by omega]
theorem WF_of {t : Nat → Int32} {nc n : Nat} {g : Gc} {ld R L f : Nat → Int32} (hw : PW t nc n g ld) (hf : Fr t n g ld R L f) : WF n R L f := by
  obtain ⟨hn, _, hw⟩ := hw
  refine ⟨hn, fun c hc => ?_, fun c hc => ?_, fun c hc => ?_, fun c hc => ?_⟩
  · exact ⟨_, (hw c hc).1, (hf c hc).1⟩
  · rw [(hf c hc).2.1]
    exact (hw c hc).2.2.2.2
  · obtain ⟨s1, s2, s3, s4, s5⟩ := hw c hc
    obtain ⟨f1, f2, f3, f4, f5, f6, f7⟩ := hf c hc
    refine ⟨(g c).2.2, 0, s2, s3, by omega, f6, f3, fun k hk => ?_⟩
    obtain ⟨d, d1, d2, d3⟩ := s4 k hk
    exact ⟨d - 1, by omega, by rw [f7 k hk, d3, rd_val d1]⟩
  · exact Or.inl (hf c hc).2.2.2.2.1
theorem SR_of {t : Nat → Int32} {nc n b : Nat} {g : Gc} {ld R L f : Nat → Int32} {M : Mem} (hw : PW t nc n g ld) (hf : Fr t n g ld R L f) (h40 : f 40 = 0) (m0 : M b 0 = nI n) (m1 : M b 1 = 0) (hm : ∀ c, c < n → M (b + 1) c = nI (g c).1 ∧ M (b + 2) c = ld c ∧ M (b + 3) c = nI (vlf t (g c).2.1 (g c).2.2) ∧ M (b + 4) c = 0 ∧ M (b + 5) c = 0) : SR n R L f M b := by
  obtain ⟨hn, _, hw⟩ := hw
  refine ⟨m0, m1.trans h40.symm, fun c hc => ?_⟩
  obtain ⟨s1, s2, s3, s4, s5⟩ := hw c hc
  obtain ⟨f1, f2, f3, f4, f5, f6, f7⟩ := hf c hc
  obtain ⟨a1, a2, a3, a4, a5⟩ := hm c hc
  refine ⟨a1.trans f1.symm, a2.trans f2.symm, ?_, a4.trans f3.symm, a5.trans f4.symm⟩
  rw [a3, f6, cl (by omega), vlf_rnum]
  refine congrArg nI (rnum_cong _ (fun k hk => ?_))
  obtain ⟨d, d1, d2, d3⟩ := s4 k hk
  unfold dg crn
  rw [f5, if_neg (show ¬ (0 : Int32) = 1 by decide), f7 k hk, d3, rd_val d1, cl (by omega), cl (by omega)]
  omega
set_option maxHeartbeats 4000000 in
theorem cl_town {P : Int32 → Int32 → Mem → Prop} {M : Mem} (hi : Inv M) (hp : ∀ r M', Inv M' → P r r M') : wp_X9_town (fun r M1 => wp_X10_town (fun q M2 => P r q M2) M1) M := by
  obtain ⟨n0, R0, L0, f0, q1, q2, q3, q4, q5, q6, q7, q8, q9⟩ := hi
  obtain ⟨tl, t1, t2, t3, t4⟩ := q7
  unfold wp_X9_town bd_X9_town
  have ht : ∀ i, i < tl → ¬ M 2 i < 0 := fun i hi => by
    obtain ⟨⟨b, b1, b2⟩, _⟩ := t4 i hi
    rw [b2]
    exact nI_nlt0 (by omega)
  have nz := prs_le (t := M 2) (tl := tl) tl 0 0 0 0 g00 ld00
  have hw := PW_prs (t := M 2) (tl := tl) t1 tl 0 0 0 0 g00 ld00 (PW_00 (M 2)) (Nat.zero_le _)
  refine sp_readAll (t := M 2) t1 t2 (fun i hi => rfl) (fun b M1 g1 g2 g3 M2 e2 M3 e3 => ?_) (fun b M1 g1 g2 M2 e2 M3 e3 => ?_)
  · have x33 : M3 3 3 = nI (prs (M 2) tl tl 0 0 0 0 g00 ld00).1 := by rw [e3, up_o (by decide), e2, up_o (by decide), g1]
    have x34 : M2 3 4 = nI (prs (M 2) tl tl 0 0 0 0 g00 ld00).2.1 := by rw [e2, up_o (by decide), g2]
    rw [x34] at e3
    have f3 : ∀ a, a ≠ 0 → a ≠ 1 → (a < 3 ∨ 9 < a) → M3 a = M a := fun a a1 a2 a3 => by rw [e3, up_o a1, e2, up_o a2, g3 a a3]
    refine ⟨fun z => ?_, fun _ => ?_⟩
    · rw [x33] at z
      exact absurd ((eqN (b := 0) (by omega) (by decide)).mp z) b
    · rw [x33]
      intro X31 hx
      unfold bd_X10_town
      have v0 : vp_in (0 : Int32) 2 := inb (i := 0) (by decide) (by decide)
      have v1 : vp_in (1 : Int32) 2 := inb (i := 1) (by decide) (by decide)
      intro Ma ea Mb eb
      refine ⟨v0, fun Mc ec => ⟨v1, fun Md ed Me ee => ?_⟩⟩
      have fo : ∀ a, a ≠ 211 → a ≠ 216 → Me a = M3 a := fun a a1 a2 => by rw [ee, up_o a1, ed, up_o a2, ec, up_o a2, eb, up_o a1, ea, up_o a1]
      have fk : ∀ k, k ≠ 9 → k ≠ 10 → k ≠ 14 → Me 211 k = M3 211 k := fun k k1 k2 k3 => by rw [ee, up_sn k3, ed, up_o (by decide), ec, up_o (by decide), eb, up_sn k2, ea, up_sn k1]
      refine rt_loop hx (t := M 2) (tl := tl) t1 ht tl 0 0 0 0 g00 ld00 Me (PW_00 _) (Nat.zero_le _) (by omega) ?_ (fun i hi => ?_) ?_ ⟨?_, ?_, ?_, ?_, fun c hc => absurd hc (by omega)⟩ (fun b M9 k1 k2 k3 k4 => ?_) (fun b2 => absurd b2 b)
      · rw [fk 8 (by decide) (by decide) (by decide), f3 211 (by decide) (by decide) (by decide), t3]
      · rw [fo 215 (by decide) (by decide), f3 215 (by decide) (by decide) (by decide)]
        exact (t4 i hi).2
      · rw [ee, up_sn (by decide), ed, up_o (by decide), ec, up_o (by decide), eb, up_ss]
        rfl
      · rw [ee, up_o (by decide), ed]
        show up Mc 216 1 0 216 0 = _
        rw [up_sn (by decide), ec]
        show up Mb 216 0 0 216 0 = _
        rw [up_ss]
        rfl
      · rw [ee, up_o (by decide), ed]
        show up Mc 216 1 0 216 1 = _
        rw [up_ss]
        rfl
      · rw [ee, up_sn (by decide), ed, up_o (by decide), ec, up_o (by decide), eb, up_sn (by decide), ea, up_ss]
      · rw [ee, up_ss]
        rfl
      · have k5 : ∀ k, k < 8 ∨ 14 < k → M9 211 k = M 211 k := fun k hk => by rw [k3 k hk, fk k (by omega) (by omega) (by omega), f3 211 (by decide) (by decide) (by decide)]
        have k6 : ∀ a, a ≠ 0 → a ≠ 1 → (a < 3 ∨ 9 < a) → a ≠ 211 → (a < 216 ∨ 220 < a) → M9 a = M a := fun a a1 a2 a3 a4 a5 => by rw [k4 a a4 a5, fo a a4 (by omega), f3 a a1 a2 a3]
        have k0 : ∀ k, k ≠ 12 → M9 0 k = M 0 k := fun k hk => by rw [k4 0 (by decide) (by decide), fo 0 (by decide) (by decide), e3, up_sn hk, e2, up_o (by decide), g3 0 (by decide)]
        apply hp
        refine ⟨n0, R0, L0, f0, Nw_c (fun a b1 b2 => k6 a (by omega) (by omega) (by omega) (by omega) (by omega)) (k5 2 (by decide)) (fun a b1 b2 => k6 a (by omega) (by omega) (by omega) (by omega) (by omega)) q1,
          Hi_c (fun a b1 b2 => k6 a (by omega) (by omega) (by omega) (by omega) (by omega)) (k5 20 (by decide)) (k6 222 (by decide) (by decide) (by decide) (by decide) (by decide)) q2,
          Im_c (fun a b1 b2 => k6 a (by omega) (by omega) (by omega) (by omega) (by omega)) (fun a b1 b2 => k6 a (by omega) (by omega) (by omega) (by omega) (by omega)) q3,
          Si_c (fun a b1 b2 => k6 a (by omega) (by omega) (by omega) (by omega) (by omega)) (k5 23 (by decide)) (fun a b1 b2 => k6 a (by omega) (by omega) (by omega) (by omega) (by omega)) q4,
          Bk_c (fun a b1 b2 => k6 a (by omega) (by omega) (by omega) (by omega) (by omega)) (k5 29 (by decide)) (fun a b1 b2 => k6 a (by omega) (by omega) (by omega) (by omega) (by omega)) q5,
          Dw_c (k6 210 (by decide) (by decide) (by decide) (by decide) (by decide)) (k5 6 (by decide)) q6,
          ⟨0, by decide, ?_, k2, fun i hi => absurd hi (by omega)⟩,
          Tn_c (k0 10 (by decide)) (k0 11 (by decide)) (k5 0 (by decide)) (k5 1 (by decide)) q8, ?_⟩
        · rw [k4 1 (by decide) (by decide), fo 1 (by decide) (by decide), e3, up_o (by decide), e2, up_ss]
          rfl
        · show M9 0 12 = M9 211 9
          rw [k1, k4 0 (by decide) (by decide), fo 0 (by decide) (by decide), e3, up_ss]
  · rcases hr : prs (M 2) tl tl 0 0 0 0 g00 ld00 with ⟨cd, pl, nc, od, n, g, ld⟩
    rw [hr] at hw g1
    replace hw : PW (M 2) nc n g ld := hw
    replace g1 : CR (M 2) nc od n g ld M1 := g1
    obtain ⟨r1, r2, r3, r4, r5, r6, r7⟩ := g1
    have x33 : M3 3 3 = 0 := by rw [e3, up_o (by decide), e2, up_o (by decide), r3]
    refine ⟨fun _ M4 e4 M5 e5 => ?_, fun z => absurd x33 z⟩
    have h0 : ∀ a, a ≠ 0 → a ≠ 1 → M5 a = M1 a := fun a a1 a2 => by rw [e5, up_o a1, e4, up_o a1, e3, up_o a1, e2, up_o a2]
    refine sp_copyRaw (Or.inr (by decide)) (fun M6 c0 c1 c2 c3 M7 e7 M8 e8 => ?_)
    refine sp_forgetI (fun M9 d1 d2 => ?_)
    unfold wp_X4_forget bd_X4_forget
    intro N eN
    have n8 := hw.1
    have u1 : ∀ a, (a < 11 ∨ 17 < a) → a ≠ 25 → a ≠ 170 → a ≠ 185 → a ≠ 189 → N a = M5 a := fun a b1 b2 b3 b4 b5 => by rw [eN, up_o b2, d2 a b3, e8, up_o b5, e7, up_o b4, c3 a (by omega)]
    have u2 : ∀ a, 11 ≤ a → a ≤ 17 → N a = M6 a := fun a b1 b2 => by rw [eN, up_o (by omega), d2 a (by omega), e8, up_o (by omega), e7, up_o (by omega)]
    have u3 : ∀ a, 9 < a → (a < 11 ∨ 17 < a) → a ≠ 25 → a ≠ 170 → a ≠ 185 → a ≠ 189 → N a = M a := fun a b0 b1 b2 b3 b4 b5 => by rw [u1 a b1 b2 b3 b4 b5, h0 a (by omega) (by omega), g2 a (Or.inr b0)]
    have u11 : N 11 0 = nI n := by rw [u2 11 (by decide) (by decide), c0, h0 4 (by decide) (by decide), r5]
    have u12 : N 11 1 = 0 := by rw [u2 11 (by decide) (by decide), c1, h0 4 (by decide) (by decide), r6]
    have u13 : ∀ c, c < n → N 12 c = nI (g c).1 ∧ N 13 c = ld c ∧ N 14 c = nI (vlf (M 2) (g c).2.1 (g c).2.2) ∧ N 15 c = 0 ∧ N 16 c = 0 := fun c hc => by
      obtain ⟨s1, s2, s3, s4, s5⟩ := c2 c (by omega)
      rw [u2 12 (by decide) (by decide), u2 13 (by decide) (by decide), u2 14 (by decide) (by decide), u2 15 (by decide) (by decide), u2 16 (by decide) (by decide)]
      rw [show M6 12 c = M5 5 c from s1, show M6 13 c = M5 6 c from s2, show M6 14 c = M5 7 c from s3, show M6 15 c = M5 8 c from s4, show M6 16 c = M5 9 c from s5, h0 5 (by decide) (by decide), h0 6 (by decide) (by decide), h0 7 (by decide) (by decide), h0 8 (by decide) (by decide), h0 9 (by decide) (by decide)]
      exact r7 c hc
    have u0 : N 0 = M5 0 := u1 0 (by decide) (by decide) (by decide) (by decide) (by decide)
    have u010 : N 0 10 = nI nc := by rw [u0, e5, up_sn (by decide), e4, up_ss, e3, up_o (by decide), e2, up_o (by decide), r1]
    have u011 : N 0 11 = nI od := by rw [u0, e5, up_ss, e4, up_o (by decide), e3, up_o (by decide), e2, up_o (by decide), r2]
    have u012 : N 0 12 = -1 := by rw [u0, e5, up_sn (by decide), e4, up_sn (by decide), e3, up_ss, e2, up_o (by decide), r4]
    have u101 : N 1 1 = 0 := by rw [u1 1 (by decide) (by decide) (by decide) (by decide) (by decide), e5, up_o (by decide), e4, up_o (by decide), e3, up_o (by decide), e2, up_ss]
    have u25a : N 25 1 = M 25 1 := by rw [eN, up_sn (by decide), d2 25 (by decide), e8, up_o (by decide), e7, up_o (by decide), c3 25 (by decide), h0 25 (by decide) (by decide), g2 25 (by decide)]
    have u25b : N 25 2 = 0 := by rw [eN, up_ss]
    have u170 : ∀ i, i < 2 → N 170 i = 0 := fun i hi => by rw [eN, up_o (by decide), d1 i hi]
    have u185a : N 185 0 = M 185 0 := by rw [eN, up_o (by decide), d2 185 (by decide), e8, up_o (by decide), e7, up_sn (by decide), c3 185 (by decide), h0 185 (by decide) (by decide), g2 185 (by decide)]
    have u185b : N 185 4 = 0 := by rw [eN, up_o (by decide), d2 185 (by decide), e8, up_o (by decide), e7, up_ss]
    have u189a : N 189 0 = M 189 0 := by rw [eN, up_o (by decide), d2 189 (by decide), e8, up_sn (by decide), e7, up_o (by decide), c3 189 (by decide), h0 189 (by decide) (by decide), g2 189 (by decide)]
    have u189b : N 189 4 = 0 := by rw [eN, up_o (by decide), d2 189 (by decide), e8, up_ss]
    have uh : ∀ a, 193 ≤ a → N a = M a := fun a ha => u3 a (by omega) (by omega) (by omega) (by omega) (by omega) (by omega)
    intro X31 hx
    unfold bd_X10_town
    have v0 : vp_in (0 : Int32) 2 := inb (i := 0) (by decide) (by decide)
    have v1 : vp_in (1 : Int32) 2 := inb (i := 1) (by decide) (by decide)
    intro Ma ea Mb eb
    refine ⟨v0, fun Mc ec => ⟨v1, fun Md ed Me ee => ?_⟩⟩
    have fo : ∀ a, a ≠ 211 → a ≠ 216 → Me a = N a := fun a a1 a2 => by rw [ee, up_o a1, ed, up_o a2, ec, up_o a2, eb, up_o a1, ea, up_o a1]
    have fk : ∀ k, k ≠ 9 → k ≠ 10 → k ≠ 14 → Me 211 k = N 211 k := fun k k1 k2 k3 => by rw [ee, up_sn k3, ed, up_o (by decide), ec, up_o (by decide), eb, up_sn k2, ea, up_sn k1]
    refine rt_loop hx (t := M 2) (tl := tl) t1 ht tl 0 0 0 0 g00 ld00 Me (PW_00 _) (Nat.zero_le _) (by omega) ?_ (fun i hi => ?_) ?_ ⟨?_, ?_, ?_, ?_, fun c hc => absurd hc (by omega)⟩ (fun b2 => absurd b b2) (fun b2 Mz k1 k2 k3 k4 => ?_)
    · rw [fk 8 (by decide) (by decide) (by decide), uh 211 (by decide), t3]
    · rw [fo 215 (by decide) (by decide), uh 215 (by decide)]
      exact (t4 i hi).2
    · rw [ee, up_sn (by decide), ed, up_o (by decide), ec, up_o (by decide), eb, up_ss]
      rfl
    · rw [ee, up_o (by decide), ed]
      show up Mc 216 1 0 216 0 = _
      rw [up_sn (by decide), ec]
      show up Mb 216 0 0 216 0 = _
      rw [up_ss]
      rfl
    · rw [ee, up_o (by decide), ed]
      show up Mc 216 1 0 216 1 = _
      rw [up_ss]
      rfl
    · rw [ee, up_sn (by decide), ed, up_o (by decide), ec, up_o (by decide), eb, up_sn (by decide), ea, up_ss]
    · rw [ee, up_ss]
      rfl
    · rw [hr] at k1
      replace k1 : RP (M 2) nc od n g ld Mz := k1
      obtain ⟨p1, p2, p3, p4, p5⟩ := k1
      refine sp_takeRead n8 p4 (fun Mr w0 w1 w2 w3 w4 w5 w6 w7 w8 w9 M13 e13 M14 e14 M15 e15 => ⟨v0, fun M17 e17 => ⟨v1, fun Mf ef => ?_⟩⟩)
      rw [z0] at e17 ef
      have y1 : ∀ a, a ≠ 211 → a ≠ 232 → Mf a = Mr a := fun a a1 a2 => by rw [ef, up_o a2, e17, up_o a2, e15, up_o a1, e14, up_o a1, e13, up_o a1]
      have y2 : ∀ k, k ≠ 20 → k ≠ 23 → k ≠ 29 → Mf 211 k = Mr 211 k := fun k a1 a2 a3 => by rw [ef, up_o (by decide), e17, up_o (by decide), e15, up_sn a1, e14, up_sn a3, e13, up_sn a2]
      have y3 : ∀ a, a < 211 → Mf a = N a := fun a ha => by rw [y1 a (by omega) (by omega), w9 a (Or.inl ha), k4 a (by omega) (Or.inl (by omega)), fo a (by omega) (by omega)]
      have y232 : ∀ i, i < 2 → Mf 232 i = 0 := fun i hi => by
        by_cases z : i = 1
        · rw [ef, z]
          exact up_ss _ _ _ _
        · have z2 : i = 0 := by omega
          rw [ef, z2]
          show up M17 232 1 0 232 0 = 0
          rw [up_sn (by decide), e17]
          exact up_ss _ _ _ _
      have yR : ∀ k, 14 < k → k ≠ 20 → k ≠ 23 → k ≠ 29 → Mf 211 k = M 211 k := fun k a0 a1 a2 a3 => by rw [y2 k a1 a2 a3, w8 k (by omega), k3 k (Or.inr a0), fk k (by omega) (by omega) (by omega), uh 211 (by decide)]
      have y6 : Mf 211 6 = M 211 6 := by rw [y2 6 (by decide) (by decide) (by decide), w8 6 (by decide), k3 6 (by decide), fk 6 (by decide) (by decide) (by decide), uh 211 (by decide)]
      have hf : Fr (M 2) n g ld (Mf 212) (Mf 213) (Mf 214) := by
        intro c hc
        obtain ⟨s1, s2, s3, s4⟩ := p5 c hc
        have l6 := (hw.2.2 c hc).2.2.1
        rw [y1 212 (by decide) (by decide), y1 213 (by decide) (by decide), y1 214 (by decide) (by decide)]
        refine ⟨?_, ?_, w5 _ (by omega) (by omega), w5 _ (by omega) (by omega), w5 _ (by omega) (by omega), ?_, fun k hk => ?_⟩
        · rw [w3 c (by omega), if_pos hc, s1]
        · rw [w4 c (by omega), if_pos hc, s2]
        · rw [w6 c (by omega), s3]
        · rw [w7 _ (by omega), s4 k hk]
      have y40 : Mf 214 40 = 0 := by rw [y1 214 (by decide) (by decide), w5 40 (by decide) (by decide)]
      have ans : Mf 211 2 = nI n := by rw [y2 2 (by decide) (by decide) (by decide), w2]
      rw [ans, u11]
      apply hp
      refine ⟨n, Mf 212, Mf 213, Mf 214, ⟨WF_of hw hf, SR_of hw hf y40 ?_ ?_ (fun c hc => ?_), ans, rfl, rfl, rfl⟩, ⟨0, fun _ _ => 0, ?_, ?_, fun j hj => absurd hj (by omega)⟩, ⟨fun _ => false, fun _ _ => 0, fun _ => 0, fun i hi => ⟨?_, fun z => nomatch (show false = true from z)⟩, fun i hi => ⟨?_, fun z => nomatch (show false = true from z)⟩, fun i hi z => nomatch (show false = true from z)⟩, ⟨0, fun _ => 0, fun _ => 0, fun _ => 0, ⟨by decide, fun i hi => absurd hi (by omega)⟩, ⟨?_, ?_, fun i hi => absurd hi (by omega)⟩, ⟨?_, fun i hi => absurd hi (by omega)⟩⟩, ⟨0, by decide, ?_, ?_, ?_, fun i hi => absurd hi (by omega)⟩, Dw_c (by rw [y3 210 (by decide), uh 210 (by decide)]) y6 q6, ⟨0, by decide, ?_, ?_, fun i hi => absurd hi (by omega)⟩, ⟨nc, hw.2.1, ?_, ?_, ?_⟩, ?_⟩
      · rw [y3 11 (by decide), u11]
      · rw [y3 11 (by decide), u12]
      · show Mf 12 c = _ ∧ Mf 13 c = _ ∧ Mf 14 c = _ ∧ Mf 15 c = _ ∧ Mf 16 c = _
        rw [y3 12 (by decide), y3 13 (by decide), y3 14 (by decide), y3 15 (by decide), y3 16 (by decide)]
        exact u13 c hc
      · obtain ⟨u, hs, ⟨_, top, b1, b2, b3, b4⟩, _, _⟩ := q2
        refine ⟨by decide, top, b1, ?_, ?_, fun j hj => absurd hj (by omega)⟩
        · rw [y3 25 (by decide), u25a, b2]
        · rw [y3 25 (by decide), u25b]
          rfl
      · refine ⟨by decide, ?_, fun j k hj => absurd hj (by omega)⟩
        rw [ef, up_o (by decide), e17, up_o (by decide), e15, up_ss]
        rfl
      · rw [y3 170 (by decide), u170 i hi]
        rfl
      · rw [y232 i hi]
        rfl
      · obtain ⟨sn, s1, s2, s3, _, b1, _⟩ := q4
        rw [y3 185 (by decide), u185a, b1.1]
      · rw [y3 185 (by decide), u185b]
        rfl
      · rw [ef, up_o (by decide), e17, up_o (by decide), e15, up_sn (by decide), e14, up_sn (by decide), e13, up_ss]
        rfl
      · obtain ⟨bn, b1, b2, _⟩ := q5
        rw [y3 189 (by decide), u189a, b2]
      · rw [y3 189 (by decide), u189b]
        rfl
      · rw [ef, up_o (by decide), e17, up_o (by decide), e15, up_sn (by decide), e14, up_ss]
        rfl
      · rw [y3 1 (by decide), u101]
        rfl
      · rw [y2 8 (by decide) (by decide) (by decide), w8 8 (by decide), k2]
        rfl
      · rw [y3 0 (by decide), u010]
      · rw [y2 0 (by decide) (by decide) (by decide), w0, p1]
      · rw [y3 0 (by decide), u011, y2 1 (by decide) (by decide) (by decide), w1, p2]
      · show Mf 0 12 = Mf 211 9
        rw [y3 0 (by decide), u012, y2 9 (by decide) (by decide) (by decide), w8 9 (by decide), p3]
