theorem cl_drift {P : Int32 → Int32 → Mem → Prop} {a : Int32} {M : Mem} (hi : Inv M) (hp : ∀ r M', Inv M' → P r r M') : wp_X9_drift (fun r M1 => wp_X10_drift (fun q M2 => P r q M2) a M1) a M := by
  have hi' := hi
  obtain ⟨n, R, L, f, ⟨hw, hs, hn, hR, hL, hf⟩, ⟨u, ht, hc1, hc2, hc3⟩, q3, q4, q5, ⟨v, v1, v2, v3⟩, q7, q8, q9⟩ := hi'
  obtain ⟨nc, c1, c2, c3, c4⟩ := q8
  have hst : M 214 40 = f 40 := by rw [hf]
  intro X25 hy
  unfold bd_X9_drift
  refine sp_refusal c1 c2 hs.2.1 (fun o => ⟨fun z => absurd z (by decide), fun _ => ?_⟩) (fun e z => ⟨fun z => absurd z (by decide), fun _ => ?_⟩) (fun e z s => ⟨fun z => absurd z (by decide), fun _ => ?_⟩) (fun k k1 k2 k3 z s => ⟨fun _ => ?_, fun z => absurd rfl z⟩)
  · intro X18 hx
    exact rfA c1 c3 hst o ⟨fun z => absurd z (by decide), fun _ => hp _ M hi⟩
  · intro X18 hx
    exact rfB c1 c3 hst e z ⟨fun z => absurd z (by decide), fun _ => hp _ M hi⟩
  · intro X18 hx
    exact rfC c1 c3 hst e z s ⟨fun z => absurd z (by decide), fun _ => hp _ M hi⟩
  · refine sp_push hw.1 hs hc1 (fun M1 g1 g2 => ?_)
    refine sp_driftLoop (od := M 0 11) (v := v) hw k2 (SR_c (fun a b1 b2 => g2 a (by omega)) hs) ((congrFun (g2 210 (by omega)) 0).trans v2) (congrFun (g2 0 (by omega)) 11) k3 hy (fun M2 m1 m0 m2 => ?_)
    have o2 : ∀ a, (a < 11 ∨ 17 < a) → (a < 25 ∨ 166 < a) → a ≠ 210 → M2 a = M a := fun a b1 b2 b3 => by rw [m2 a (by omega) b3, g2 a b2]
    intro X18 hx
    refine rfD c1 ((congrFun (o2 211 (by omega) (by omega) (by omega)) 0).trans c3) ((congrFun (o2 214 (by omega) (by omega) (by omega)) 40).trans hst) k1 k2 k3 z s ⟨fun _ => ?_, fun z => absurd rfl z⟩
    refine sp_remember (RH_c (congrFun (o2 211 (by omega) (by omega) (by omega)) 20) (o2 222 (by omega) (by omega) (by omega)) hc2) ((o2 214 (by omega) (by omega) (by omega)).trans hf) (fun M3 p1 p2 p3 => ?_)
    have o3 : ∀ a, (a < 11 ∨ 17 < a) → (a < 25 ∨ 166 < a) → a ≠ 210 → a ≠ 211 → a ≠ 222 → M3 a = M a := fun a b1 b2 b3 b4 b5 => by rw [p3 a b4 b5, o2 a b1 b2 b3]
    have h3 : ∀ k, k ≠ 20 → M3 211 k = M 211 k := fun k hk => by rw [p2 k hk, o2 211 (by omega) (by omega) (by omega)]
    refine sp_driftLoopR (od := M 0 11) (v := v) hw v1 k2 ((h3 _ (by decide)).trans hn) ((o3 212 (by omega) (by omega) (by omega) (by omega) (by omega)).trans hR) ((o3 213 (by omega) (by omega) (by omega) (by omega) (by omega)).trans hL) ((o3 214 (by omega) (by omega) (by omega) (by omega) (by omega)).trans hf) ((h3 _ (by decide)).trans v3) ((h3 _ (by decide)).trans c4.symm) k3 hx (fun M4 e1 e6 e7 e2 => ?_)
    have h1 : ∀ k, k ≠ 6 → k ≠ 20 → M4 211 k = M 211 k := fun k hk hl => by rw [e7 k hk, h3 k hl]
    have o4 : ∀ a, (a < 11 ∨ 17 < a) → (a < 25 ∨ 166 < a) → a ≠ 210 → a ≠ 211 → a ≠ 214 → a ≠ 221 → a ≠ 222 → M4 a = M a := fun a b1 b2 b7 b3 b4 b5 b6 => by rw [e2 a b3 b4 b5, o3 a b1 b2 b7 b3 b6]
    refine hp _ M4 (Inv_act (f' := (dr n R L (M 0 11) v f k).2) q3 q4 q5 ⟨(dr n R L (M 0 11) v f k).1, dr_lt v1 k, ?_, e6⟩ q7 ⟨nc, c1, c2, c3, c4⟩ q9 hw hc3 (CH_c ?_ g1) (RH_c ?_ ?_ p1) ⟨dr_WF hw k, SR_c ?_ m1, (h1 _ (by decide) (by decide)).trans hn, ?_, ?_, e1⟩ o4 h1)
    · rw [e2 210 (by decide) (by decide) (by decide), p3 210 (by decide) (by decide), m0]
    · intro a b1 b2
      rw [e2 a (by omega) (by omega) (by omega), p3 a (by omega) (by omega), m2 a (by omega) (by omega)]
    · exact e7 20 (by decide)
    · rw [e2 222 (by decide) (by decide) (by decide)]
    · intro a b1 b2
      rw [e2 a (by omega) (by omega) (by omega), p3 a (by omega) (by omega)]
    · rw [e2 212 (by decide) (by decide) (by decide), o3 212 (by omega) (by omega) (by omega) (by omega) (by omega), hR]
    · rw [e2 213 (by decide) (by decide) (by decide), o3 213 (by omega) (by omega) (by omega) (by omega) (by omega), hL]
/-- a new leader for c, on both sides -/
theorem lead2 {P : Int32 → Int32 → Mem → Prop} {n u c : Nat} {x : Int32} {R L f : Nat → Int32} {ht : Nat → Nat → Int32} {M : Mem} (hw : WF n R L f) (hs : SR n R L f M 11) (hn : M 211 2 = nI n) (hR : M 212 = R) (hL : M 213 = L) (hf : M 214 = f) (hc1 : CH n R L u ht M) (hc2 : RH u ht M) (hc3 : ∀ j, j < u → WF n R L (ht j)) (q3 : Im n R L M) (q4 : Si n M) (q5 : Bk n M) (q6 : Dw M) (q7 : Tx M) (q8 : Tn M) (q9 : Fl M) (hp : ∀ r M', Inv M' → P r r M') (hc : c < n) (hx : x = -1 ∨ ∃ d, d < n ∧ d ≠ c ∧ x = nI d) {M1 M2 M3 M4 : Mem} (g1 : CH n R L (pU u) (pH u ht f) M1) (g2 : ∀ a, (a < 25 ∨ 166 < a) → M1 a = M a) (e2 : M2 = up M1 13 c x) (p1 : RH (pU u) (pH u ht f) M3) (p2 : ∀ k, k ≠ 20 → M3 211 k = M2 211 k) (p3 : ∀ a, a ≠ 211 → a ≠ 222 → M3 a = M2 a) (e4 : M4 = up M3 214 (8 + c) x) : P (f (8 + c)) (f (8 + c)) M4 := by
  have h8 := hw.1
  have o4 : ∀ a, (a < 11 ∨ 17 < a) → (a < 25 ∨ 166 < a) → a ≠ 210 → a ≠ 211 → a ≠ 214 → a ≠ 221 → a ≠ 222 → M4 a = M a := fun a b1 b2 _ b3 b4 b5 b6 => by rw [e4, up_o b4, p3 a b3 b6, e2, up_o (by omega), g2 a b2]
  have h1 : ∀ k, k ≠ 20 → M4 211 k = M 211 k := fun k hk => by rw [e4, up_o (by decide), p2 k hk, e2, up_o (by decide), g2 211 (by omega)]
  refine hp _ M4 (Inv_act (f' := upd f (8 + c) x) q3 q4 q5 (Dw_c ?_ (h1 _ (by decide)) q6) q7 q8 q9 hw hc3 (CH_c ?_ g1) (RH_c ?_ ?_ p1) ⟨WF_lead hw hc hx, SR_lead (M := M) h8 hc hs ?_ ?_, (h1 _ (by decide)).trans hn, ?_, ?_, ?_⟩ o4 (fun k _ hk => h1 k hk))
  · rw [e4, up_o (by decide), p3 210 (by decide) (by decide), e2, up_o (by decide), g2 210 (by omega)]
  · intro a b1 b2
    rw [e4, up_o (by omega), p3 a (by omega) (by omega), e2, up_o (by omega)]
  · rw [e4, up_o (by decide)]
  · rw [e4, up_o (by decide)]
  · show M4 13 = upd (M 13) c x
    rw [e4, up_o (by decide), p3 13 (by decide) (by decide), e2, up_s, g2 13 (by omega)]
  · intro a b1 b2 b3
    rw [e4, up_o (by omega), p3 a (by omega) (by omega), e2, up_o (by omega), g2 a (by omega)]
  · rw [e4, up_o (by decide), p3 212 (by decide) (by decide), e2, up_o (by decide), g2 212 (by omega), hR]
  · rw [e4, up_o (by decide), p3 213 (by decide) (by decide), e2, up_o (by decide), g2 213 (by omega), hL]
  · rw [e4, up_s, p3 214 (by decide) (by decide), e2, up_o (by decide), g2 214 (by omega), hf]
theorem cl_follow {P : Int32 → Int32 → Mem → Prop} {a d : Int32} {M : Mem} (hi : Inv M) (hp : ∀ r M', Inv M' → P r r M') : wp_X9_follow (fun r M1 => wp_X10_follow (fun q M2 => P r q M2) a d M1) a d M := by
  have hi' := hi
  obtain ⟨n, R, L, f, ⟨hw, hs, hn, hR, hL, hf⟩, ⟨u, ht, hc1, hc2, hc3⟩, q3, q4, q5, q6, q7, q8, q9⟩ := hi'
  have h8 := hw.1
  unfold wp_X9_follow bd_X9_follow
  refine sp_areTwoCars (n := n) (by omega) hs.1 (fun i j i1 j1 hij ei ej => ⟨fun z => absurd z (by decide), fun _ => ?_⟩) (fun o => ⟨fun _ => ?_, fun z => absurd rfl z⟩)
  · rw [ei, ej]
    refine sp_push h8 hs hc1 (fun M1 g1 g2 => ⟨inb (by omega) (by omega), inb (by omega) (by omega), fun M2 e2 => ?_⟩)
    rw [cl (by omega)] at e2
    rw [cl (by omega), show M1 (11 + 2) i = f (8 + i) from by rw [g2 (11 + 2) (by omega)]; exact (hs.2.2 i i1).2.1]
    have o2 : ∀ a, a ≠ 13 → (a < 25 ∨ 166 < a) → M2 a = M a := fun a b1 b2 => by rw [e2, up_o b1, g2 a b2]
    unfold wp_X10_follow bd_X10_follow
    refine sp_areTwo (n := n) (by omega) ((congrFun (o2 211 (by omega) (by omega)) 2).trans hn) (fun i' j' i1' j1' hij' ei' ej' => ⟨fun z => absurd z (by decide), fun _ => ?_⟩) (fun o => (o i j i1 j1 hij rfl rfl).elim)
    refine sp_remember (RH_c (congrFun (o2 211 (by omega) (by omega)) 20) (o2 222 (by omega) (by omega)) hc2) ((o2 214 (by omega) (by omega)).trans hf) (fun M3 p1 p2 p3 => ?_)
    rw [a8, cl (by omega)]
    refine ⟨inb (by omega) (by omega), inb (by omega) (by omega), fun M4 e4 => ?_⟩
    rw [show M3 214 (8 + i) = f (8 + i) from by rw [p3 214 (by decide) (by decide), o2 214 (by omega) (by omega), hf]]
    exact lead2 hw hs hn hR hL hf hc1 hc2 hc3 q3 q4 q5 q6 q7 q8 q9 hp i1 (Or.inr ⟨j, j1, fun z => hij z.symm, rfl⟩) g1 g2 e2 p1 p2 p3 e4
  · unfold wp_X10_follow bd_X10_follow
    exact sp_areTwo (n := n) (by omega) hn (fun i j i1 j1 hij ei ej => (o i j i1 j1 hij ei ej).elim) (fun _ => ⟨fun _ => hp _ M hi, fun z => absurd rfl z⟩)
theorem cl_letOff {P : Int32 → Int32 → Mem → Prop} {a : Int32} {M : Mem} (hi : Inv M) (hp : ∀ r M', Inv M' → P r r M') : wp_X9_letOff (fun r M1 => wp_X10_letOff (fun q M2 => P r q M2) a M1) a M := by
  have hi' := hi
  obtain ⟨n, R, L, f, ⟨hw, hs, hn, hR, hL, hf⟩, ⟨u, ht, hc1, hc2, hc3⟩, q3, q4, q5, q6, q7, q8, q9⟩ := hi'
  have h8 := hw.1
  unfold wp_X9_letOff bd_X9_letOff
  refine sp_isCar (n := n) (by omega) hs.1 (fun c hc ec => ⟨fun z => absurd z (by decide), fun _ => ?_⟩) (fun o => ⟨fun _ => ?_, fun z => absurd rfl z⟩)
  · rw [ec, cl (by omega), show M (11 + 2) c = f (8 + c) from (hs.2.2 c hc).2.1]
    refine ⟨inb (by omega) (by omega), fun y => ?_, fun y => ?_⟩
    · unfold wp_X10_letOff bd_X10_letOff
      refine sp_isCarR (n := n) (by omega) hn (fun d hd ed => ⟨fun z => absurd z (by decide), fun _ => ?_⟩) (fun o => absurd rfl (o c hc))
      rw [a8, cl (by omega), hf, y]
      exact ⟨inb (by omega) (by omega), fun z => absurd z (by decide), fun _ => hp _ M hi⟩
    · refine sp_push h8 hs hc1 (fun M1 g1 g2 => ⟨inb (by omega) (by omega), fun M2 e2 => ?_⟩)
      have o2 : ∀ a, a ≠ 13 → (a < 25 ∨ 166 < a) → M2 a = M a := fun a b1 b2 => by rw [e2, up_o b1, g2 a b2]
      unfold wp_X10_letOff bd_X10_letOff
      refine sp_isCarR (n := n) (by omega) ((congrFun (o2 211 (by omega) (by omega)) 2).trans hn) (fun d hd ed => ⟨fun z => absurd z (by decide), fun _ => ?_⟩) (fun o => absurd rfl (o c hc))
      rw [a8, cl (by omega), o2 214 (by omega) (by omega), hf]
      refine ⟨inb (by omega) (by omega), fun _ => ?_, fun z => ?_⟩
      · refine sp_remember (RH_c (congrFun (o2 211 (by omega) (by omega)) 20) (o2 222 (by omega) (by omega)) hc2) ((o2 214 (by omega) (by omega)).trans hf) (fun M3 p1 p2 p3 => ?_)
        refine ⟨inb (by omega) (by omega), inb (by omega) (by omega), fun M4 e4 => ?_⟩
        rw [show M3 214 (8 + c) = f (8 + c) from by rw [p3 214 (by decide) (by decide), o2 214 (by omega) (by omega), hf]]
        exact lead2 hw hs hn hR hL hf hc1 hc2 hc3 q3 q4 q5 q6 q7 q8 q9 hp hc (Or.inl rfl) g1 g2 e2 p1 p2 p3 e4
      · rcases hw.2.2.1 c hc with w | ⟨d, d1, _, d2⟩
        · exact absurd w y
        · rw [d2] at z
          exact absurd (nI_ge0 (by omega)) z
  · unfold wp_X10_letOff bd_X10_letOff
    exact sp_isCarR (n := n) (by omega) hn (fun d hd ed => absurd ed (o d hd)) (fun _ => ⟨fun _ => hp _ M hi, fun z => absurd rfl z⟩)
