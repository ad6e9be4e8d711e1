theorem rg1 (a : Int32) {l m : Nat} (hl : l < 1000000) (hm : m < 1000000) : (∃ k, l ≤ k ∧ k ≤ m ∧ a = nI k) ∨ ¬ (nI l ≤ a ∧ a ≤ nI m) := by
  rcases rng a hm with w | w | ⟨k, k1, k2⟩
  · refine Or.inr (fun z => ?_)
    have z1 := z.1
    rw [leI, nI_toInt (by omega)] at z1
    rw [ltI, show (0 : Int32).toInt = 0 from by decide] at w
    omega
  · exact Or.inr (fun z => absurd z.2 (ltI0 hm w).2)
  · by_cases y : l ≤ k
    · exact Or.inl ⟨k, y, k1, k2⟩
    · refine Or.inr (fun z => ?_)
      rw [k2] at z
      exact absurd ((leN hl (by omega)).mp z.1) y
theorem nlt {a : Int32} {b : Int32} : ¬ a < b ↔ b ≤ a := by
  rw [ltI, leI]
  omega
theorem cl_see {P : Int32 → Int32 → Mem → Prop} {a : Int32} {d : Int32} {e : Int32} {M : Mem} (hi : Inv M) (hp : ∀ r M', Inv M' → P r r M') : wp_X9_see (fun r M1 => wp_X10_see (fun q M2 => P r q M2) a d e M1) a d e M := by
  have hi' := hi
  obtain ⟨n, R, L, f, q1, q2, q3, q4, q5, q6, q7, q8, q9⟩ := hi'
  have q1' := q1
  have q8' := q8
  obtain ⟨hw, hs, hn, hR, hL, hf⟩ := q1'
  obtain ⟨nc, c1, c2, c3, c4⟩ := q8'
  obtain ⟨sn, s1, s2, s3, r1, r2, r3⟩ := q4
  obtain ⟨r20, r21, r22⟩ := r2
  obtain ⟨r31, r32⟩ := r3
  obtain ⟨r11, r12⟩ := r1
  have h8 := hw.1
  unfold wp_X9_see bd_X9_see
  refine sp_isCar (n := n) (by omega) hs.1 (fun c hc ec => ⟨fun z => absurd z (by decide), fun _ => ?_⟩) (fun o => ⟨fun _ => ?_, fun z => absurd rfl z⟩)
  · rw [ec]
    refine sp_isCorner (n := nc) (by omega) c2 (fun k hk ek => ⟨fun z => absurd z (by decide), fun _ => ?_⟩) (fun o => ⟨fun _ => ?_, fun z => absurd rfl z⟩)
    · rw [ek]
      have bad : ¬ (nI 1 ≤ d ∧ d ≤ nI 30) → wp_X10_see (fun q M2 => P (-1000000002) q M2) (nI c) d (nI k) M := by
        intro y
        unfold wp_X10_see bd_X10_see
        refine isc2 (n := n) (by omega) hn hc ⟨fun z => absurd z (by decide), fun _ => ?_⟩
        refine isk2 (n := nc) (by omega) c3 hk ⟨fun z => absurd z (by decide), fun _ => ?_⟩
        exact sp_in (lo := nI 1) (hi := nI 30) rfl rfl (fun z => absurd z y) (fun _ => ⟨fun _ => hp _ M hi, fun z => absurd rfl z⟩)
      refine ⟨fun y => bad (fun z => absurd y (nlt.mpr z.1)), fun y => ⟨fun y2 => ?_, fun y2 => bad (fun z => absurd z.2 y2)⟩⟩
      rcases rg1 d (l := 1) (m := 30) (by decide) (by decide) with ⟨t, t1, t2, t3⟩ | w
      · rw [t3]
        unfold wp_X1_add bd_X1_add
        rw [r20, r21, show (6 : Int32) = nI 6 from rfl, ltN (by omega) (by omega)]
        have refin : ∀ (Q : Int32 → Mem → Prop) (M4 : Mem), M4 211 = M 211 → ((M4 211 23 = nI 6 → Q (-1000000004) M4) ∧ (¬ M4 211 23 = nI 6 → vp_in (M4 211 23) 6 ∧ ∀ M5 : Mem, M5 = up M4 224 (M4 211 23).toNatClampNeg (nI c) → vp_in (M5 211 23) 6 ∧ ∀ M7 : Mem, M7 = up M5 225 (M5 211 23).toNatClampNeg (nI t) → vp_in (M7 211 23) 6 ∧ ∀ M9 : Mem, M9 = up M7 226 (M7 211 23).toNatClampNeg (nI k) → ∀ M10 : Mem, M10 = up M9 211 23 (M9 211 23 + 1) → Q (M10 211 23) M10)) → wp_X10_see Q (nI c) (nI t) (nI k) M4 := by
          intro Q M4 e4 q
          unfold wp_X10_see bd_X10_see
          refine isc2 (n := n) (by omega) ((congrFun e4 2).trans hn) hc ⟨fun z => absurd z (by decide), fun _ => ?_⟩
          refine isk2 (n := nc) (by omega) ((congrFun e4 0).trans c3) hk ⟨fun z => absurd z (by decide), fun _ => ?_⟩
          exact sp_in (lo := nI 1) (hi := nI 30) rfl rfl (fun _ => ⟨fun z => absurd z (by decide), fun _ => q⟩) (fun z => absurd ⟨(leN (by decide) (by omega)).mpr t1, (leN (by omega) (by decide)).mpr t2⟩ z)
        refine ⟨fun y => ⟨inb y (by decide), fun M1 e1 => ⟨?_, fun M2 e2 => ⟨?_, fun M3 e3 M4 e4 => ?_⟩⟩⟩, fun y => ?_⟩
        · rw [e1, up_o (by decide), r21]
          exact inb y (by decide)
        · rw [e2, up_o (by decide), e1, up_o (by decide), r21]
          exact inb y (by decide)
        · rw [cl (show sn < 1000000 by omega)] at e1
          have m1 : M1 185 4 = nI sn := by rw [e1, up_o (by decide), r21]
          rw [m1, cl (show sn < 1000000 by omega)] at e2
          have m2 : M2 185 4 = nI sn := by rw [e2, up_o (by decide), m1]
          rw [m2, cl (show sn < 1000000 by omega)] at e3
          have m3 : M3 185 4 = nI sn := by rw [e3, up_o (by decide), m2]
          rw [m3, nI_1] at e4
          have m4 : M4 185 4 = nI (sn + 1) := by rw [e4, up_ss]
          have oC : ∀ a, (a < 185 ∨ 188 < a) → M4 a = M a := fun a z => by rw [e4, up_o (by omega), e3, up_o (by omega), e2, up_o (by omega), e1, up_o (by omega)]
          rw [m4]
          refine refin _ M4 (oC 211 (by omega)) ?_
          have m5 : M4 211 23 = nI sn := by rw [oC 211 (by omega), r31]
          rw [m5, eqN (by omega) (by omega), cl (show sn < 1000000 by omega)]
          refine ⟨fun z => absurd z (by omega), fun _ => ⟨inb y (by decide), fun M5 e5 => ⟨?_, fun M6 e6 => ⟨?_, fun M7 e7 M8 e8 => ?_⟩⟩⟩⟩
          · rw [e5, up_o (by decide), m5]
            exact inb y (by decide)
          · rw [e6, up_o (by decide), e5, up_o (by decide), m5]
            exact inb y (by decide)
          · have m6 : M5 211 23 = nI sn := by rw [e5, up_o (by decide), m5]
            rw [m6, cl (show sn < 1000000 by omega)] at e6
            have m7 : M6 211 23 = nI sn := by rw [e6, up_o (by decide), m6]
            rw [m7, cl (show sn < 1000000 by omega)] at e7
            have m8 : M7 211 23 = nI sn := by rw [e7, up_o (by decide), m7]
            rw [m8, nI_1] at e8
            have m9 : M8 211 23 = nI (sn + 1) := by rw [e8, up_ss]
            rw [m9]
            have h1 : ∀ k, k ≠ 23 → M8 211 k = M 211 k := fun k hk => by rw [e8, up_sn hk, e7, up_o (by decide), e6, up_o (by decide), e5, up_o (by decide), oC 211 (by omega)]
            have ho : ∀ a, (a < 185 ∨ 188 < a) → a ≠ 211 → a ≠ 224 → a ≠ 225 → a ≠ 226 → a ≠ a + 1 → M8 a = M a := fun a z1 z2 z3 z4 z5 _ => by rw [e8, up_o z2, e7, up_o z5, e6, up_o z4, e5, up_o z3, oC a z1]
            refine hp _ M8 ⟨n, R, L, f, Nw_c (fun a b1 b2 => ho a (by omega) (by omega) (by omega) (by omega) (by omega) (by omega)) (h1 _ (by omega)) (fun a b1 b2 => ho a (by omega) (by omega) (by omega) (by omega) (by omega) (by omega)) q1,
            Hi_c (fun a b1 b2 => ho a (by omega) (by omega) (by omega) (by omega) (by omega) (by omega)) (h1 _ (by omega)) (ho 222 (by omega) (by omega) (by omega) (by omega) (by omega) (by omega)) q2,
            Im_c (fun a b1 b2 => ho a (by omega) (by omega) (by omega) (by omega) (by omega) (by omega)) (fun a b1 b2 => ho a (by omega) (by omega) (by omega) (by omega) (by omega) (by omega)) q3,
            ?_,
            Bk_c (fun a b1 b2 => ho a (by omega) (by omega) (by omega) (by omega) (by omega) (by omega)) (h1 _ (by omega)) (fun a b1 b2 => ho a (by omega) (by omega) (by omega) (by omega) (by omega) (by omega)) q5,
            Dw_c (ho 210 (by omega) (by omega) (by omega) (by omega) (by omega) (by omega)) (h1 _ (by omega)) q6,
            Tx_c (fun a b1 b2 => ho a (by omega) (by omega) (by omega) (by omega) (by omega) (by omega)) (h1 _ (by omega)) (ho 215 (by omega) (by omega) (by omega) (by omega) (by omega) (by omega)) q7,
            Tn_c (congrFun (ho 0 (by omega) (by omega) (by omega) (by omega) (by omega) (by omega)) _) (congrFun (ho 0 (by omega) (by omega) (by omega) (by omega) (by omega) (by omega)) _) (h1 _ (by omega)) (h1 _ (by omega)) q8,
            Fl_c (congrFun (ho 0 (by omega) (by omega) (by omega) (by omega) (by omega) (by omega)) _) (h1 _ (by omega)) q9⟩
            have o8 : ∀ a, 185 ≤ a → a ≤ 188 → M8 a = M4 a := fun a z1 z2 => by rw [e8, up_o (by omega), e7, up_o (by omega), e6, up_o (by omega), e5, up_o (by omega)]
            have w186 : M8 186 = upd (M 186) sn (nI c) := by rw [o8 186 (by decide) (by decide), e4, up_o (by decide), e3, up_o (by decide), e2, up_o (by decide), e1, up_s]
            have w187 : M8 187 = upd (M 187) sn (nI t) := by rw [o8 187 (by decide) (by decide), e4, up_o (by decide), e3, up_o (by decide), e2, up_s, e1, up_o (by decide)]
            have w188 : M8 188 = upd (M 188) sn (nI k) := by rw [o8 188 (by decide) (by decide), e4, up_o (by decide), e3, up_s, e2, up_o (by decide), e1, up_o (by decide)]
            have w224 : M8 224 = upd (M 224) sn (nI c) := by rw [e8, up_o (by decide), e7, up_o (by decide), e6, up_o (by decide), e5, up_s, oC 224 (by omega)]
            have w225 : M8 225 = upd (M 225) sn (nI t) := by rw [e8, up_o (by decide), e7, up_o (by decide), e6, up_s, e5, up_o (by decide), oC 225 (by omega)]
            have w226 : M8 226 = upd (M 226) sn (nI k) := by rw [e8, up_o (by decide), e7, up_s, e6, up_o (by decide), e5, up_o (by decide), oC 226 (by omega)]
            refine ⟨sn + 1, upd s1 sn (nI c), upd s2 sn (nI t), upd s3 sn (nI k), ⟨by omega, fun i hi => ?_⟩, ⟨?_, ?_, fun i hi => ?_⟩, ⟨m9, fun i hi => ?_⟩⟩
            · unfold upd
              by_cases z : i = sn
              · rw [if_pos z, if_pos z]
                exact ⟨⟨c, hc, rfl⟩, t, t1, t2, rfl⟩
              · rw [if_neg z, if_neg z]
                exact r12 i (by omega)
            · rw [o8 185 (by decide) (by decide), e4, up_sn (by decide), e3, up_o (by decide), e2, up_o (by decide), e1, up_o (by decide)]
              exact r20
            · rw [o8 185 (by decide) (by decide), m4]
            · rw [w186, w187, w188]
              unfold upd
              by_cases z : i = sn
              · rw [if_pos z, if_pos z, if_pos z, if_pos z, if_pos z, if_pos z]
                exact ⟨rfl, rfl, rfl⟩
              · rw [if_neg z, if_neg z, if_neg z, if_neg z, if_neg z, if_neg z]
                exact r22 i (by omega)
            · rw [w224, w225, w226]
              unfold upd
              by_cases z : i = sn
              · rw [if_pos z, if_pos z, if_pos z, if_pos z, if_pos z, if_pos z]
                exact ⟨rfl, rfl, rfl⟩
              · rw [if_neg z, if_neg z, if_neg z, if_neg z, if_neg z, if_neg z]
                exact r32 i (by omega)
        · refine refin _ M rfl ?_
          rw [r31]
          exact ⟨fun _ => hp _ M hi, fun z => absurd (show nI sn = nI 6 from by rw [show sn = 6 by omega]) z⟩
      · exact absurd ⟨nlt.mp y, y2⟩ w
    · unfold wp_X10_see bd_X10_see
      exact isc2 (n := n) (by omega) hn hc ⟨fun z => absurd z (by decide), fun _ => isk0 (n := nc) (by omega) c3 o ⟨fun _ => hp _ M hi, fun z => absurd rfl z⟩⟩
  · unfold wp_X10_see bd_X10_see
    exact isc0 (n := n) (by omega) hn o ⟨fun _ => hp _ M hi, fun z => absurd rfl z⟩
theorem cl_feed {P : Int32 → Int32 → Mem → Prop} {a : Int32} {M : Mem} (hi : Inv M) (hp : ∀ r M', Inv M' → P r r M') : wp_X9_feed (fun r M1 => wp_X10_feed (fun q M2 => P r q M2) a M1) a M := by
  have hi' := hi
  obtain ⟨n, R, L, f, q1, q2, q3, q4, q5, q6, q7, q8, q9⟩ := hi'
  obtain ⟨tl, t1, t2, t3, t4⟩ := q7
  have bad : ¬ (nI 0 ≤ a ∧ a ≤ nI 255) → wp_X10_feed (fun q M2 => P (-1000000002) q M2) a M := by
    intro y
    unfold wp_X10_feed bd_X10_feed
    exact sp_in (lo := nI 0) (hi := nI 255) rfl rfl (fun z => absurd z y) (fun _ => ⟨fun _ => hp _ M hi, fun z => absurd rfl z⟩)
  unfold wp_X9_feed bd_X9_feed
  refine ⟨fun y => bad (fun z => absurd y (nlt.mpr z.1)), fun y => ⟨fun y2 => ?_, fun y2 => bad (fun z => absurd z.2 y2)⟩⟩
  rcases rg1 a (l := 0) (m := 255) (by decide) (by decide) with ⟨b, _, hb, eb⟩ | w
  · have good : nI 0 ≤ a ∧ a ≤ nI 255 := ⟨nlt.mp y, y2⟩
    rw [t2, show (240 : Int32) = nI 240 from rfl, ltN (by omega) (by omega)]
    refine ⟨fun z => ?_, fun z => ?_⟩
    · unfold wp_X8_add bd_X8_add
      rw [t2, show (240 : Int32) = nI 240 from rfl, leN (by omega) (by omega), cl (show tl < 1000000 by omega)]
      refine ⟨fun w => absurd w (by omega), fun _ => ⟨inb z (by decide), fun M1 e1 M2 e2 => ?_⟩⟩
      have m1 : M1 1 1 = nI tl := by rw [e1, up_o (by decide), t2]
      rw [m1, nI_1] at e2
      have m2 : M2 1 1 = nI (tl + 1) := by rw [e2, up_ss]
      have oC : ∀ a, a ≠ 1 → a ≠ 2 → M2 a = M a := fun a z1 z2 => by rw [e2, up_o z1, e1, up_o z2]
      show wp_X10_feed (fun q M3 => P (M2 1 1) q M3) a M2
      rw [m2]
      unfold wp_X10_feed bd_X10_feed
      refine sp_in (lo := nI 0) (hi := nI 255) rfl rfl (fun _ => ⟨fun z => absurd z (by decide), fun _ => ?_⟩) (fun z => absurd good z)
      have m3 : M2 211 8 = nI tl := by rw [oC 211 (by decide) (by decide), t3]
      rw [m3, show (240 : Int32) = nI 240 from rfl, eqN (by omega) (by omega), cl (show tl < 1000000 by omega)]
      refine ⟨fun z => absurd z (by omega), fun _ => ⟨inb z (by decide), fun M3 e3 M4 e4 => ?_⟩⟩
      have m4 : M3 211 8 = nI tl := by rw [e3, up_o (by decide), m3]
      rw [m4, nI_1] at e4
      have m5 : M4 211 8 = nI (tl + 1) := by rw [e4, up_ss]
      rw [m5]
      have h1 : ∀ k, k ≠ 8 → M4 211 k = M 211 k := fun k hk => by rw [e4, up_sn hk, e3, up_o (by decide), oC 211 (by decide) (by decide)]
      have ho : ∀ a, a ≠ 1 → a ≠ 2 → a ≠ 211 → a ≠ 215 → a ≠ a + 1 → M4 a = M a := fun a z1 z2 z3 z4 _ => by rw [e4, up_o z3, e3, up_o z4, oC a z1 z2]
      refine hp _ M4 ⟨n, R, L, f, Nw_c (fun a b1 b2 => ho a (by omega) (by omega) (by omega) (by omega) (by omega)) (h1 _ (by omega)) (fun a b1 b2 => ho a (by omega) (by omega) (by omega) (by omega) (by omega)) q1,
          Hi_c (fun a b1 b2 => ho a (by omega) (by omega) (by omega) (by omega) (by omega)) (h1 _ (by omega)) (ho 222 (by omega) (by omega) (by omega) (by omega) (by omega)) q2,
          Im_c (fun a b1 b2 => ho a (by omega) (by omega) (by omega) (by omega) (by omega)) (fun a b1 b2 => ho a (by omega) (by omega) (by omega) (by omega) (by omega)) q3,
          Si_c (fun a b1 b2 => ho a (by omega) (by omega) (by omega) (by omega) (by omega)) (h1 _ (by omega)) (fun a b1 b2 => ho a (by omega) (by omega) (by omega) (by omega) (by omega)) q4,
          Bk_c (fun a b1 b2 => ho a (by omega) (by omega) (by omega) (by omega) (by omega)) (h1 _ (by omega)) (fun a b1 b2 => ho a (by omega) (by omega) (by omega) (by omega) (by omega)) q5,
          Dw_c (ho 210 (by omega) (by omega) (by omega) (by omega) (by omega)) (h1 _ (by omega)) q6,
          ?_,
          Tn_c (congrFun (ho 0 (by omega) (by omega) (by omega) (by omega) (by omega)) _) (congrFun (ho 0 (by omega) (by omega) (by omega) (by omega) (by omega)) _) (h1 _ (by omega)) (h1 _ (by omega)) q8,
          Fl_c (congrFun (ho 0 (by omega) (by omega) (by omega) (by omega) (by omega)) _) (h1 _ (by omega)) q9⟩
      have w2 : M4 2 = upd (M 2) tl a := by rw [e4, up_o (by decide), e3, up_o (by decide), e2, up_o (by decide), e1, up_s]
      have w215 : M4 215 = upd (M 215) tl a := by rw [e4, up_o (by decide), e3, up_s, oC 215 (by decide) (by decide)]
      refine ⟨tl + 1, by omega, ?_, m5, fun i hi => ?_⟩
      · rw [e4, up_o (by decide), e3, up_o (by decide), m2]
      · rw [w2, w215]
        unfold upd
        by_cases z : i = tl
        · rw [if_pos z, if_pos z]
          exact ⟨⟨b, by omega, eb⟩, rfl⟩
        · rw [if_neg z, if_neg z]
          exact t4 i (by omega)
    · unfold wp_X10_feed bd_X10_feed
      refine sp_in (lo := nI 0) (hi := nI 255) rfl rfl (fun _ => ⟨fun z => absurd z (by decide), fun _ => ?_⟩) (fun z => absurd good z)
      rw [t3]
      exact ⟨fun _ => hp _ M hi, fun w => absurd (show nI tl = nI 240 from by rw [show tl = 240 by omega]) w⟩
  · exact absurd ⟨nlt.mp y, y2⟩ w
