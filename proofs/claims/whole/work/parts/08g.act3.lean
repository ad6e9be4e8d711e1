theorem b16 (c : Nat) : (16 : Int32) + nI c = nI (16 + c) := by rw [show (16 : Int32) = nI 16 from rfl, nI_add]
theorem b24 (c : Nat) : (24 : Int32) + nI c = nI (24 + c) := by rw [show (24 : Int32) = nI 24 from rfl, nI_add]
theorem b32 (c : Nat) : (32 : Int32) + nI c = nI (32 + c) := by rw [show (32 : Int32) = nI 32 from rfl, nI_add]
theorem cl_turn {P : Int32 → Int32 → Mem → Prop} {a : Int32} {M : Mem} (hi : Inv M) (hp : ∀ r M', Inv M' → P r r M') : wp_X9_turn (fun r M1 => wp_X10_turn (fun q M2 => P r q M2) a M1) a M := by
  have hi' := hi
  obtain ⟨n, R, L, f, ⟨hw, hs, hn, hR, hL, hf⟩, ⟨u, ht, hc1, hc2, hc3⟩, q3, q4, q5, q6, q7, q8, q9⟩ := hi'
  have h8 := hw.1
  unfold wp_X9_turn bd_X9_turn
  refine sp_isCar (n := n) (by omega) hs.1 (fun c hc ec => ⟨fun z => absurd z (by decide), fun _ => ?_⟩) (fun o => ⟨fun _ => ?_, fun z => absurd rfl z⟩)
  · rw [ec]
    refine sp_push h8 hs hc1 (fun M1 g1 g2 => ?_)
    refine sp_reverseRound hw hc (SR_c (fun a b1 b2 => g2 a (by omega)) hs) (fun M2 m1 m3 m2 => ⟨inb (by omega) (by omega), ?_⟩)
    rw [cl (by omega), m3]
    have o2 : ∀ a, a ≠ 14 → a ≠ 15 → (a < 25 ∨ 166 < a) → M2 a = M a := fun a b1 b2 b3 => by rw [m2 a b1 b2, g2 a b3]
    unfold wp_X10_turn bd_X10_turn
    refine sp_isCarR (n := n) (by omega) ((congrFun (o2 211 (by omega) (by omega) (by omega)) 2).trans hn) (fun d hd ed => ⟨fun z => absurd z (by decide), fun _ => ?_⟩) (fun o => absurd rfl (o c hc))
    refine sp_remember (RH_c (congrFun (o2 211 (by omega) (by omega) (by omega)) 20) (o2 222 (by omega) (by omega) (by omega)) hc2) ((o2 214 (by omega) (by omega) (by omega)).trans hf) (fun M3 p1 p2 p3 => ?_)
    rw [b32, b16, cl (show 32 + c < 1000000 by omega), cl (show 16 + c < 1000000 by omega)]
    refine ⟨inb (by omega) (by omega), inb (by omega) (by omega), fun M5 e5 => ⟨inb (by omega) (by omega), fun M7 e7 => ?_⟩⟩
    have f3 : M3 214 = f := by rw [p3 214 (by decide) (by decide), o2 214 (by omega) (by omega) (by omega), hf]
    have f7 : M7 214 = trn f c := by
      rw [e7, up_s, e5, up_s, f3]
      rfl
    have o7 : ∀ a, a ≠ 214 → M7 a = M3 a := fun a b => by rw [e7, up_o b, e5, up_o b]
    have h1 : ∀ k, k ≠ 20 → M7 211 k = M 211 k := fun k hk => by rw [o7 211 (by decide), p2 k hk, o2 211 (by omega) (by omega) (by omega)]
    have hR7 : M7 212 = R := by rw [o7 212 (by decide), p3 212 (by decide) (by decide), o2 212 (by omega) (by omega) (by omega), hR]
    have hL7 : M7 213 = L := by rw [o7 213 (by decide), p3 213 (by decide) (by decide), o2 213 (by omega) (by omega) (by omega), hL]
    refine sp_roundOf (WF_trn hw hc) hc hR7 hL7 f7 ?_
    refine hp _ M7 (Inv_act (f' := trn f c) q3 q4 q5 (Dw_c ?_ (h1 _ (by decide)) q6) q7 q8 q9 hw hc3 (CH_c ?_ g1) (RH_c ?_ ?_ p1) ⟨WF_trn hw hc, SR_c ?_ m1, (h1 _ (by decide)).trans hn, hR7, hL7, f7⟩ (fun a b1 b2 _ b3 b4 b5 b6 => ?_) (fun k _ hk => h1 k hk))
    · rw [o7 210 (by decide), p3 210 (by decide) (by decide), o2 210 (by omega) (by omega) (by omega)]
    · intro a b1 b2
      rw [o7 a (by omega), p3 a (by omega) (by omega), m2 a (by omega) (by omega)]
    · rw [o7 211 (by decide)]
    · rw [o7 222 (by decide)]
    · intro a b1 b2
      rw [o7 a (by omega), p3 a (by omega) (by omega)]
    · rw [o7 a b4, p3 a b3 b6, o2 a (by omega) (by omega) b2]
  · unfold wp_X10_turn bd_X10_turn
    exact sp_isCarR (n := n) (by omega) hn (fun d hd ed => absurd ed (o d hd)) (fun _ => ⟨fun _ => hp _ M hi, fun z => absurd rfl z⟩)
theorem cl_undo {P : Int32 → Int32 → Mem → Prop} {M : Mem} (hi : Inv M) (hp : ∀ r M', Inv M' → P r r M') : wp_X9_undo (fun r M1 => wp_X10_undo (fun q M2 => P r q M2) M1) M := by
  have hi' := hi
  obtain ⟨n, R, L, f, ⟨hw, hs, hn, hR, hL, hf⟩, ⟨u, ht, hc1, hc2, hc3⟩, q3, q4, q5, q6, q7, q8, q9⟩ := hi'
  have h8 := hw.1
  have hu : M 25 2 = nI u := by
    obtain ⟨_, top, _, _, z, _⟩ := hc1
    exact z
  have hu20 := hc1.1
  unfold wp_X9_undo bd_X9_undo
  rw [hu, l0, eqN (by omega) (by omega)]
  refine ⟨fun z => ?_, fun z => ?_⟩
  · exact sp_undoR hc2 (fun _ => hp _ M hi) (fun z1 => absurd z (by omega))
  · refine sp_pop h8 (by omega) hc1 (fun M1 g1 m1 g3 g2 => ?_)
    rw [g3]
    refine sp_undoR (RH_c (congrFun (g2 211 (by omega) (by omega)) 20) (g2 222 (by omega) (by omega)) hc2) (fun z1 => absurd z1 z) (fun _ M2 p1 p4 p2 p3 => ?_)
    rw [g2 214 (by omega) (by omega), hf] at p4
    have h1 : ∀ k, k ≠ 20 → M2 211 k = M 211 k := fun k hk => by rw [p2 k hk, g2 211 (by omega) (by omega)]
    have ho : ∀ a, (a < 11 ∨ 17 < a) → a ≠ 25 → a ≠ 211 → a ≠ 214 → M2 a = M a := fun a b1 b2 b3 b4 => by rw [p3 a b3 b4, g2 a b1 b2]
    have hv : ∀ k, k < 41 → cp41 (ht (u - 1)) f k = ht (u - 1) k := fun k hk => if_pos hk
    refine hp _ M2 ⟨n, R, L, cp41 (ht (u - 1)) f, ⟨WF_v hv (hc3 _ (by omega)), SR_v h8 hv (SR_c (fun a b1 b2 => p3 a (by omega) (by omega)) m1), (h1 _ (by decide)).trans hn, (ho 212 (by omega) (by omega) (by omega) (by omega)).trans hR, (ho 213 (by omega) (by omega) (by omega) (by omega)).trans hL, p4⟩,
      ⟨u - 1, ht, CH_c (fun a b1 b2 => p3 a (by omega) (by omega)) g1, p1, fun j hj => hc3 j (by omega)⟩,
      Im_c (fun a b1 b2 => ho a (by omega) (by omega) (by omega) (by omega)) (fun a b1 b2 => ho a (by omega) (by omega) (by omega) (by omega)) q3,
      Si_c (fun a b1 b2 => ho a (by omega) (by omega) (by omega) (by omega)) (h1 _ (by omega)) (fun a b1 b2 => ho a (by omega) (by omega) (by omega) (by omega)) q4,
      Bk_c (fun a b1 b2 => ho a (by omega) (by omega) (by omega) (by omega)) (h1 _ (by omega)) (fun a b1 b2 => ho a (by omega) (by omega) (by omega) (by omega)) q5,
      Dw_c (ho 210 (by omega) (by omega) (by omega) (by omega)) (h1 _ (by omega)) q6,
      Tx_c (fun a b1 b2 => ho a (by omega) (by omega) (by omega) (by omega)) (h1 _ (by omega)) (ho 215 (by omega) (by omega) (by omega) (by omega)) q7,
      Tn_c (congrFun (ho 0 (by omega) (by omega) (by omega) (by omega)) _) (congrFun (ho 0 (by omega) (by omega) (by omega) (by omega)) _) (h1 _ (by omega)) (h1 _ (by omega)) q8,
      Fl_c (congrFun (ho 0 (by omega) (by omega) (by omega) (by omega)) _) (h1 _ (by omega)) q9⟩
theorem CH_0 {n u : Nat} {R L : Nat → Int32} {hs : Nat → Nat → Int32} {M M' : Mem} (hh : CH n R L u hs M) (e1 : M' 25 1 = M 25 1) (e2 : M' 25 2 = 0) : CH n R L 0 hs M' := by
  obtain ⟨_, top, t1, t2, _, _⟩ := hh
  exact ⟨by decide, top, t1, e1.trans t2, e2, fun j hj => absurd hj (by omega)⟩
theorem RH_0 {hs : Nat → Nat → Int32} {M' : Mem} (e2 : M' 211 20 = 0) : RH 0 hs M' :=
  ⟨by decide, e2, fun j k hj => absurd hj (by omega)⟩
theorem sp_isImage {Q : Int32 → Mem → Prop} {a : Int32} {M : Mem} (h1 : ∀ i, i < 2 → a = nI i → Q 1 M) (h0 : (∀ i, i < 2 → a ≠ nI i) → Q 0 M) : wp_X9_isImage Q a M := by
  unfold wp_X9_isImage bd_X9_isImage
  rcases rng a (m := 1) (by decide) with z | z | ⟨k, k1, k2⟩
  · refine ⟨fun _ => h0 (fun i hi e => ?_), fun y => absurd z y⟩
    rw [e] at z
    exact absurd (nI_ge0 (a := i) (by omega)) (fun w => by rw [leI] at w; rw [ltI] at z; omega)
  · have z2 : (2 : Int32) ≤ a := by
      rw [ltI, nI_toInt (by decide)] at z
      rw [leI, show (2 : Int32) = nI 2 from rfl, nI_toInt (by decide)]
      omega
    refine ⟨fun y => absurd y (ltI0 (by decide) z).1, fun _ => ?_⟩
    rw [if_pos z2]
    refine ⟨Or.inl rfl, h0 (fun i hi e => ?_)⟩
    rw [e] at z
    exact absurd ((ltN (by decide) (by omega)).mp z) (by omega)
  · have z2 : ¬ (2 : Int32) ≤ a := by
      rw [k2, show (2 : Int32) = nI 2 from rfl, leN (by decide) (by omega)]
      omega
    have z3 : ¬ a < 0 := by
      rw [k2, l0, ltN (by omega) (by decide)]
      omega
    refine ⟨fun y => absurd y z3, fun _ => ?_⟩
    rw [if_neg z2]
    exact ⟨Or.inr rfl, h1 k (by omega) k2⟩
