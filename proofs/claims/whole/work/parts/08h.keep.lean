theorem cl_keep {P : Int32 → Int32 → Mem → Prop} {a : Int32} {M : Mem} (hi : Inv M) (hp : ∀ r M', Inv M' → P r r M') : wp_X9_keep (fun r M1 => wp_X10_keep (fun q M2 => P r q M2) a M1) a M := by
  have hi' := hi
  obtain ⟨n, R, L, f, ⟨hw, hs, hn, hR, hL, hf⟩, ⟨u, ht, hc1, hc2, hc3⟩, ⟨kp, im, sd, k1, k2, k3⟩, q4, q5, q6, q7, q8, q9⟩ := hi'
  obtain ⟨v, v1, v2, v3⟩ := q6
  have h8 := hw.1
  unfold wp_X9_keep bd_X9_keep
  refine sp_isImage (fun i i1 ei => ⟨fun z => absurd z (by decide), fun _ => ?_⟩) (fun o => ⟨fun _ => ?_, fun z => absurd rfl z⟩)
  · rw [ei, v2]
    refine sp_put h8 i1 hs k1 (fun M1 g1 g2 => ?_)
    intro M2 e2
    have o2 : ∀ a, (a < 167 ∨ 184 < a) → a ≠ 25 → M2 a = M a := fun a b1 b2 => by rw [e2, up_o b2, g2 a b1]
    refine sp_keepR ((o2 214 (by omega) (by omega)).trans hf) (RI_c (fun a b1 b2 => o2 a (by omega) (by omega)) k2) (fun o => absurd rfl (o i i1)) (fun j j1 ej M3 p1 p4 p2 p3 => ?_)
    have eij : j = i := (eqN (by omega) (by omega)).mp ej.symm
    rw [eij, o2 211 (by omega) (by omega), v3] at p1
    have h1 : ∀ k, k ≠ 20 → M3 211 k = M 211 k := fun k hk => by rw [p2 k hk, o2 211 (by omega) (by omega)]
    have ho : ∀ a, (a < 167 ∨ 184 < a) → a ≠ 25 → a ≠ 211 → a ≠ 231 → a ≠ 232 → M3 a = M a := fun a b1 b2 b3 b4 b5 => by rw [p3 a b3 b4 b5, o2 a b1 b2]
    refine hp _ M3 ⟨n, R, L, f, Nw_c (fun a b1 b2 => ho a (by omega) (by omega) (by omega) (by omega) (by omega)) (h1 _ (by decide)) (fun a b1 b2 => ho a (by omega) (by omega) (by omega) (by omega) (by omega)) ⟨hw, hs, hn, hR, hL, hf⟩,
      ⟨0, ht, CH_0 hc1 ?_ ?_, RH_0 p4, fun j hj => absurd hj (by omega)⟩,
      ⟨upb kp i true, upb im i f, upb sd i (nI v), CI_c (fun a b1 b2 => ?_) g1, p1, fun j j1 hk => ?_⟩,
      Si_c (fun a b1 b2 => ho a (by omega) (by omega) (by omega) (by omega) (by omega)) (h1 _ (by omega)) (fun a b1 b2 => ho a (by omega) (by omega) (by omega) (by omega) (by omega)) q4,
      Bk_c (fun a b1 b2 => ho a (by omega) (by omega) (by omega) (by omega) (by omega)) (h1 _ (by omega)) (fun a b1 b2 => ho a (by omega) (by omega) (by omega) (by omega) (by omega)) q5,
      Dw_c (ho 210 (by omega) (by omega) (by omega) (by omega) (by omega)) (h1 _ (by omega)) ⟨v, v1, v2, v3⟩,
      Tx_c (fun a b1 b2 => ho a (by omega) (by omega) (by omega) (by omega) (by omega)) (h1 _ (by omega)) (ho 215 (by omega) (by omega) (by omega) (by omega) (by omega)) q7,
      Tn_c (congrFun (ho 0 (by omega) (by omega) (by omega) (by omega) (by omega)) _) (congrFun (ho 0 (by omega) (by omega) (by omega) (by omega) (by omega)) _) (h1 _ (by omega)) (h1 _ (by omega)) q8,
      Fl_c (congrFun (ho 0 (by omega) (by omega) (by omega) (by omega) (by omega)) _) (h1 _ (by omega)) q9⟩
    · rw [p3 25 (by decide) (by decide) (by decide), e2, up_sn (by decide), g2 25 (by omega)]
    · rw [p3 25 (by decide) (by decide) (by decide), e2, up_ss]
    · rw [p3 a (by omega) (by omega) (by omega), e2, up_o (by omega)]
    · unfold upb at hk ⊢
      by_cases y : j = i
      · rw [if_pos y, if_pos y]
        exact ⟨hw, v, v1, rfl⟩
      · rw [if_neg y] at hk
        rw [if_neg y, if_neg y]
        exact k3 j j1 hk
  · exact sp_keepR hf k2 (fun _ => hp _ M hi) (fun i i1 ei => absurd ei (o i i1))
theorem cl_goBack {P : Int32 → Int32 → Mem → Prop} {a : Int32} {M : Mem} (hi : Inv M) (hp : ∀ r M', Inv M' → P r r M') : wp_X9_goBack (fun r M1 => wp_X10_goBack (fun q M2 => P r q M2) a M1) a M := by
  have hi' := hi
  obtain ⟨n, R, L, f, ⟨hw, hs, hn, hR, hL, hf⟩, ⟨u, ht, hc1, hc2, hc3⟩, ⟨kp, im, sd, k1, k2, k3⟩, q4, q5, q6, q7, q8, q9⟩ := hi'
  have h8 := hw.1
  unfold wp_X9_goBack bd_X9_goBack
  refine sp_isImage (fun i i1 ei => ⟨fun z => absurd z (by decide), fun _ => ?_⟩) (fun o => ⟨fun _ => ?_, fun z => absurd rfl z⟩)
  · rw [ei, cl (by omega), (k1 i i1).1]
    cases y : kp i
    · refine ⟨inb i1 (by decide), fun _ => ?_, fun z => absurd (if_neg (by decide)) z⟩
      exact sp_goBackR k2 (fun o => absurd rfl (o i i1)) (fun _ _ _ _ => hp _ M hi) (fun j j1 ej hk => by
        have eij : j = i := (eqN (by omega) (by omega)).mp ej.symm
        rw [eij, y] at hk
        cases hk)
    · obtain ⟨w1, w2⟩ := (k1 i i1).2 y
      obtain ⟨x1, v, v1, v2⟩ := k3 i i1 y
      refine ⟨inb i1 (by decide), fun z => absurd z (by rw [if_pos rfl]; decide), fun _ => ⟨inb i1 (by decide), ?_⟩⟩
      refine sp_copyFrom (b := 11) (d := 171 + 7 * i) h8 (by omega) w1 (fun M1 m1 g2 => ⟨inb i1 (by decide), fun M2 e2 => ?_⟩)
      intro M3 e3
      have o3 : ∀ a, (a < 11 ∨ 17 < a) → a ≠ 25 → a ≠ 210 → M3 a = M a := fun a b1 b2 b3 => by rw [e3, up_o b2, e2, up_o b3, g2 a (by omega)]
      refine sp_goBackR (RI_c (fun a b1 b2 => o3 a (by omega) (by omega) (by omega)) k2) (fun o => absurd rfl (o i i1)) (fun j j1 ej hk => ?_) (fun j j1 ej hk M4 p4 p6 p20 p2 p3 => ?_)
      · have eij : j = i := (eqN (by omega) (by omega)).mp ej.symm
        rw [eij, y] at hk
        cases hk
      · have eij : j = i := (eqN (by omega) (by omega)).mp ej.symm
        rw [eij, o3 214 (by omega) (by omega) (by omega), hf] at p4
        rw [eij] at p6
        have h1 : ∀ k, k ≠ 6 → k ≠ 20 → M4 211 k = M 211 k := fun k hk hl => by rw [p2 k hk hl, o3 211 (by omega) (by omega) (by omega)]
        have ho : ∀ a, (a < 11 ∨ 17 < a) → a ≠ 25 → a ≠ 210 → a ≠ 211 → a ≠ 214 → M4 a = M a := fun a b1 b2 b3 b4 b5 => by rw [p3 a b4 b5, o3 a b1 b2 b3]
        have hv : ∀ k, k < 41 → cp41 (im i) f k = im i k := fun k hk => if_pos hk
        refine hp _ M4 ⟨n, R, L, cp41 (im i) f, ⟨WF_v hv x1, SR_v h8 hv (SR_c (fun a b1 b2 => ?_) m1), (h1 _ (by decide) (by decide)).trans hn, (ho 212 (by omega) (by omega) (by omega) (by omega) (by omega)).trans hR, (ho 213 (by omega) (by omega) (by omega) (by omega) (by omega)).trans hL, p4⟩,
          ⟨0, ht, CH_0 hc1 ?_ ?_, RH_0 p20, fun j hj => absurd hj (by omega)⟩,
          Im_c (fun a b1 b2 => ho a (by omega) (by omega) (by omega) (by omega) (by omega)) (fun a b1 b2 => ho a (by omega) (by omega) (by omega) (by omega) (by omega)) ⟨kp, im, sd, k1, k2, k3⟩,
          Si_c (fun a b1 b2 => ho a (by omega) (by omega) (by omega) (by omega) (by omega)) (h1 _ (by omega) (by omega)) (fun a b1 b2 => ho a (by omega) (by omega) (by omega) (by omega) (by omega)) q4,
          Bk_c (fun a b1 b2 => ho a (by omega) (by omega) (by omega) (by omega) (by omega)) (h1 _ (by omega) (by omega)) (fun a b1 b2 => ho a (by omega) (by omega) (by omega) (by omega) (by omega)) q5,
          ⟨v, v1, ?_, p6.trans v2⟩,
          Tx_c (fun a b1 b2 => ho a (by omega) (by omega) (by omega) (by omega) (by omega)) (h1 _ (by omega) (by omega)) (ho 215 (by omega) (by omega) (by omega) (by omega) (by omega)) q7,
          Tn_c (congrFun (ho 0 (by omega) (by omega) (by omega) (by omega) (by omega)) _) (congrFun (ho 0 (by omega) (by omega) (by omega) (by omega) (by omega)) _) (h1 _ (by omega) (by omega)) (h1 _ (by omega) (by omega)) q8,
          Fl_c (congrFun (ho 0 (by omega) (by omega) (by omega) (by omega) (by omega)) _) (h1 _ (by omega) (by omega)) q9⟩
        · rw [p3 a (by omega) (by omega), e3, up_o (by omega), e2, up_o (by omega)]
        · rw [p3 25 (by decide) (by decide), e3, up_sn (by decide), e2, up_o (by decide), g2 25 (by omega)]
        · rw [p3 25 (by decide) (by decide), e3, up_ss]
        · rw [p3 210 (by decide) (by decide), e3, up_o (by decide), e2, up_ss, g2 169 (by omega), w2, v2]
  · exact sp_goBackR k2 (fun _ => hp _ M hi) (fun i i1 ei => absurd ei (o i i1)) (fun i i1 ei => absurd ei (o i i1))
