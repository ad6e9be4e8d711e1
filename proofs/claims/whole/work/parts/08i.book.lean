theorem isc2 {Q : Int32 → Mem → Prop} {n c : Nat} {M : Mem} (hn : n < 1000000) (h : M 211 2 = nI n) (hc : c < n) (q : Q 1 M) : wp_X10_isCar Q (nI c) M :=
  sp_isCarR hn h (fun _ _ _ => q) (fun o => absurd rfl (o c hc))
theorem isc0 {Q : Int32 → Mem → Prop} {n : Nat} {a : Int32} {M : Mem} (hn : n < 1000000) (h : M 211 2 = nI n) (o : ∀ j, j < n → a ≠ nI j) (q : Q 0 M) : wp_X10_isCar Q a M :=
  sp_isCarR hn h (fun d hd ed => absurd ed (o d hd)) (fun _ => q)
theorem isk2 {Q : Int32 → Mem → Prop} {n c : Nat} {M : Mem} (hn : n < 1000000) (h : M 211 0 = nI n) (hc : c < n) (q : Q 1 M) : wp_X10_isCorner Q (nI c) M :=
  sp_isCornerR hn h (fun _ _ _ => q) (fun o => absurd rfl (o c hc))
theorem isk0 {Q : Int32 → Mem → Prop} {n : Nat} {a : Int32} {M : Mem} (hn : n < 1000000) (h : M 211 0 = nI n) (o : ∀ j, j < n → a ≠ nI j) (q : Q 0 M) : wp_X10_isCorner Q a M :=
  sp_isCornerR hn h (fun d hd ed => absurd ed (o d hd)) (fun _ => q)
theorem cl_car {P : Int32 → Int32 → Mem → Prop} {a : Int32} {d : Int32} {M : Mem} (hi : Inv M) (hp : ∀ r M', Inv M' → P r r M') : wp_X9_car (fun r M1 => wp_X10_car (fun q M2 => P r q M2) a d M1) a d M := by
  have hi' := hi
  obtain ⟨n, R, L, f, ⟨hw, hs, hn, hR, hL, hf⟩, q2, q3, q4, q5, q6, q7, q8, q9⟩ := hi'
  have h8 := hw.1
  unfold wp_X9_car bd_X9_car
  refine sp_isCar (n := n) (by omega) hs.1 (fun c hc ec => ⟨fun z => absurd z (by decide), fun _ => ?_⟩) (fun o => ⟨fun _ => ?_, fun z => absurd rfl z⟩)
  · rw [ec]
    obtain ⟨g1, g2, g3, g4, g5⟩ := hs.2.2 c hc
    have key : ∀ (r : Int32), (d = 0 → r = f c) → (d = 1 → r = f (8 + c)) → (d = 2 → r = nI (rnum (dg R L f c) (L c).toNatClampNeg)) → (d = 3 → r = f (16 + c)) → (d = 4 → r = f (24 + c)) → (¬ d = 0 ∧ ¬ d = 1 ∧ ¬ d = 2 ∧ ¬ d = 3 ∧ ¬ d = 4 → r = -1000000002) → wp_X10_car (fun q M2 => P r q M2) (nI c) d M := by
      intro r k0 k1 k2 k3 k4 k5
      unfold wp_X10_car bd_X10_car
      refine isc2 (n := n) (by omega) hn hc ⟨fun z => absurd z (by decide), fun _ => ?_⟩
      rw [a8, b16, b24, cl (show c < 1000000 by omega), cl (show 8 + c < 1000000 by omega), cl (show 16 + c < 1000000 by omega), cl (show 24 + c < 1000000 by omega), hf]
      refine ⟨fun e => ⟨inb (by omega) (by omega), ?_⟩, fun e => ⟨inb (by omega) (by omega), ?_⟩, fun e => sp_roundOf hw hc hR hL hf ?_, fun e => ⟨inb (by omega) (by omega), ?_⟩, fun e => ⟨inb (by omega) (by omega), ?_⟩, fun e => ?_⟩
      · rw [k0 e]
        exact hp _ M hi
      · rw [k1 e]
        exact hp _ M hi
      · rw [k2 e]
        exact hp _ M hi
      · rw [k3 e]
        exact hp _ M hi
      · rw [k4 e]
        exact hp _ M hi
      · rw [k5 e]
        exact hp _ M hi
    rw [cl (show c < 1000000 by omega)]
    exact ⟨fun e => ⟨inb (by omega) (by omega), key _ (fun _ => g1) (fun z => absurd (e.symm.trans z) (by decide)) (fun z => absurd (e.symm.trans z) (by decide)) (fun z => absurd (e.symm.trans z) (by decide)) (fun z => absurd (e.symm.trans z) (by decide)) (fun z => absurd e z.1)⟩,
      fun e => ⟨inb (by omega) (by omega), key _ (fun z => absurd (e.symm.trans z) (by decide)) (fun _ => g2) (fun z => absurd (e.symm.trans z) (by decide)) (fun z => absurd (e.symm.trans z) (by decide)) (fun z => absurd (e.symm.trans z) (by decide)) (fun z => absurd e z.2.1)⟩,
      fun e => ⟨inb (by omega) (by omega), key _ (fun z => absurd (e.symm.trans z) (by decide)) (fun z => absurd (e.symm.trans z) (by decide)) (fun _ => g3) (fun z => absurd (e.symm.trans z) (by decide)) (fun z => absurd (e.symm.trans z) (by decide)) (fun z => absurd e z.2.2.1)⟩,
      fun e => ⟨inb (by omega) (by omega), key _ (fun z => absurd (e.symm.trans z) (by decide)) (fun z => absurd (e.symm.trans z) (by decide)) (fun z => absurd (e.symm.trans z) (by decide)) (fun _ => g4) (fun z => absurd (e.symm.trans z) (by decide)) (fun z => absurd e z.2.2.2.1)⟩,
      fun e => ⟨inb (by omega) (by omega), key _ (fun z => absurd (e.symm.trans z) (by decide)) (fun z => absurd (e.symm.trans z) (by decide)) (fun z => absurd (e.symm.trans z) (by decide)) (fun z => absurd (e.symm.trans z) (by decide)) (fun _ => g5) (fun z => absurd e z.2.2.2.2)⟩,
      fun e => key _ (fun z => absurd z e.1) (fun z => absurd z e.2.1) (fun z => absurd z e.2.2.1) (fun z => absurd z e.2.2.2.1) (fun z => absurd z e.2.2.2.2) (fun _ => rfl)⟩
  · unfold wp_X10_car bd_X10_car
    exact isc0 (n := n) (by omega) hn o ⟨fun _ => hp _ M hi, fun z => absurd rfl z⟩
theorem cl_write {P : Int32 → Int32 → Mem → Prop} {a : Int32} {d : Int32} {M : Mem} (hi : Inv M) (hp : ∀ r M', Inv M' → P r r M') : wp_X9_write (fun r M1 => wp_X10_write (fun q M2 => P r q M2) a d M1) a d M := by
  have hi' := hi
  obtain ⟨n, R, L, f, q1, q2, q3, q4, q5, q6, q7, q8, q9⟩ := hi'
  have q1' := q1
  have q8' := q8
  obtain ⟨hw, hs, hn, hR, hL, hf⟩ := q1'
  obtain ⟨nc, c1, c2, c3, c4⟩ := q8'
  obtain ⟨bn, b1, b2, b3, b4, b5⟩ := q5
  have h8 := hw.1
  unfold wp_X9_write bd_X9_write
  refine sp_isCar (n := n) (by omega) hs.1 (fun c hc ec => ⟨fun z => absurd z (by decide), fun _ => ?_⟩) (fun o => ⟨fun _ => ?_, fun z => absurd rfl z⟩)
  · rw [ec]
    refine sp_isCorner (n := nc) (by omega) c2 (fun k hk ek => ⟨fun z => absurd z (by decide), fun _ => ?_⟩) (fun o => ⟨fun _ => ?_, fun z => absurd rfl z⟩)
    · rw [ek]
      unfold wp_X1_add bd_X1_add
      rw [b2, b3, show (15 : Int32) = nI 15 from rfl, ltN (by omega) (by omega)]
      refine ⟨fun y => ⟨inb y (by decide), fun M1 e1 => ⟨?_, fun M2 e2 => ⟨?_, fun M3 e3 M4 e4 => ?_⟩⟩⟩, fun y => ?_⟩
      · rw [e1, up_o (by decide), b3]
        exact inb y (by decide)
      · rw [e2, up_o (by decide), e1, up_o (by decide), b3]
        exact inb y (by decide)
      · rw [cl (show bn < 1000000 by omega)] at e1
        have m1 : M1 189 4 = nI bn := by rw [e1, up_o (by decide), b3]
        rw [m1, cl (show bn < 1000000 by omega)] at e2
        have m2 : M2 189 4 = nI bn := by rw [e2, up_o (by decide), m1]
        rw [m2, cl (show bn < 1000000 by omega)] at e3
        have m3 : M3 189 4 = nI bn := by rw [e3, up_o (by decide), m2]
        rw [m3, nI_1] at e4
        have m4 : M4 189 4 = nI (bn + 1) := by rw [e4, up_ss]
        have oC : ∀ a, (a < 189 ∨ 192 < a) → M4 a = M a := fun a z => by rw [e4, up_o (by omega), e3, up_o (by omega), e2, up_o (by omega), e1, up_o (by omega)]
        rw [m4]
        unfold wp_X10_write bd_X10_write
        refine isc2 (n := n) (by omega) ((congrFun (oC 211 (by omega)) 2).trans hn) hc ⟨fun z => absurd z (by decide), fun _ => ?_⟩
        refine isk2 (n := nc) (by omega) ((congrFun (oC 211 (by omega)) 0).trans c3) hk ⟨fun z => absurd z (by decide), fun _ => ?_⟩
        have m5 : M4 211 29 = nI bn := by rw [oC 211 (by omega), b4]
        rw [m5, show (15 : Int32) = nI 15 from rfl, eqN (by omega) (by omega), cl (show bn < 1000000 by omega)]
        refine ⟨fun z => absurd z (by omega), fun _ => ⟨inb y (by decide), fun M5 e5 => ⟨?_, fun M6 e6 M7 e7 => ?_⟩⟩⟩
        · rw [e5, up_o (by decide), m5]
          exact inb y (by decide)
        · have m6 : M5 211 29 = nI bn := by rw [e5, up_o (by decide), m5]
          rw [m6, cl (show bn < 1000000 by omega)] at e6
          have m7 : M6 211 29 = nI bn := by rw [e6, up_o (by decide), m6]
          rw [m7, nI_1] at e7
          have m8 : M7 211 29 = nI (bn + 1) := by rw [e7, up_ss]
          rw [m8]
          have h1 : ∀ k, k ≠ 29 → M7 211 k = M 211 k := fun k hk => by rw [e7, up_sn hk, e6, up_o (by decide), e5, up_o (by decide), oC 211 (by omega)]
          have ho : ∀ a, (a < 189 ∨ 192 < a) → a ≠ 211 → a ≠ 229 → a ≠ 230 → a ≠ a + 1 → M7 a = M a := fun a z1 z2 z3 z4 _ => by rw [e7, up_o z2, e6, up_o z4, e5, up_o z3, oC a z1]
          refine hp _ M7 ⟨n, R, L, f, Nw_c (fun a b1 b2 => ho a (by omega) (by omega) (by omega) (by omega) (by omega)) (h1 _ (by omega)) (fun a b1 b2 => ho a (by omega) (by omega) (by omega) (by omega) (by omega)) q1,
            Hi_c (fun a b1 b2 => ho a (by omega) (by omega) (by omega) (by omega) (by omega)) (h1 _ (by omega)) (ho 222 (by omega) (by omega) (by omega) (by omega) (by omega)) q2,
            Im_c (fun a b1 b2 => ho a (by omega) (by omega) (by omega) (by omega) (by omega)) (fun a b1 b2 => ho a (by omega) (by omega) (by omega) (by omega) (by omega)) q3,
            Si_c (fun a b1 b2 => ho a (by omega) (by omega) (by omega) (by omega) (by omega)) (h1 _ (by omega)) (fun a b1 b2 => ho a (by omega) (by omega) (by omega) (by omega) (by omega)) q4,
            ?_,
            Dw_c (ho 210 (by omega) (by omega) (by omega) (by omega) (by omega)) (h1 _ (by omega)) q6,
            Tx_c (fun a b1 b2 => ho a (by omega) (by omega) (by omega) (by omega) (by omega)) (h1 _ (by omega)) (ho 215 (by omega) (by omega) (by omega) (by omega) (by omega)) q7,
            Tn_c (congrFun (ho 0 (by omega) (by omega) (by omega) (by omega) (by omega)) _) (congrFun (ho 0 (by omega) (by omega) (by omega) (by omega) (by omega)) _) (h1 _ (by omega)) (h1 _ (by omega)) q8,
            Fl_c (congrFun (ho 0 (by omega) (by omega) (by omega) (by omega) (by omega)) _) (h1 _ (by omega)) q9⟩
          have o7 : ∀ a, 189 ≤ a → a ≤ 192 → M7 a = M4 a := fun a z1 z2 => by rw [e7, up_o (by omega), e6, up_o (by omega), e5, up_o (by omega)]
          have r190 : M7 190 = upd (M 190) bn (nI c) := by rw [o7 190 (by decide) (by decide), e4, up_o (by decide), e3, up_o (by decide), e2, up_o (by decide), e1, up_s]
          have r192 : M7 192 = upd (M 192) bn (nI k) := by rw [o7 192 (by decide) (by decide), e4, up_o (by decide), e3, up_s, e2, up_o (by decide), e1, up_o (by decide)]
          have r229 : M7 229 = upd (M 229) bn (nI c) := by rw [e7, up_o (by decide), e6, up_o (by decide), e5, up_s, oC 229 (by omega)]
          have r230 : M7 230 = upd (M 230) bn (nI k) := by rw [e7, up_o (by decide), e6, up_s, e5, up_o (by decide), oC 230 (by omega)]
          refine ⟨bn + 1, by omega, ?_, ?_, m8, fun i hi => ?_⟩
          · rw [o7 189 (by decide) (by decide), e4, up_sn (by decide), e3, up_o (by decide), e2, up_o (by decide), e1, up_o (by decide)]
            exact b2
          · rw [o7 189 (by decide) (by decide), m4]
          · rw [r190, r192, r229, r230]
            unfold upd
            by_cases z : i = bn
            · rw [if_pos z, if_pos z, if_pos z, if_pos z]
              exact ⟨⟨c, hc, rfl⟩, rfl, rfl⟩
            · rw [if_neg z, if_neg z, if_neg z, if_neg z]
              exact b5 i (by omega)
      · unfold wp_X10_write bd_X10_write
        refine isc2 (n := n) (by omega) hn hc ⟨fun z => absurd z (by decide), fun _ => ?_⟩
        refine isk2 (n := nc) (by omega) c3 hk ⟨fun z => absurd z (by decide), fun _ => ?_⟩
        rw [b4]
        exact ⟨fun _ => hp _ M hi, fun z => absurd (show nI bn = nI 15 from by rw [show bn = 15 by omega]) z⟩
    · unfold wp_X10_write bd_X10_write
      exact isc2 (n := n) (by omega) hn hc ⟨fun z => absurd z (by decide), fun _ => isk0 (n := nc) (by omega) c3 o ⟨fun _ => hp _ M hi, fun z => absurd rfl z⟩⟩
  · unfold wp_X10_write bd_X10_write
    exact isc0 (n := n) (by omega) hn o ⟨fun _ => hp _ M hi, fun z => absurd rfl z⟩
