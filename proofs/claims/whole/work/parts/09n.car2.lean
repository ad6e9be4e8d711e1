theorem sp_readCar {Q : Mem → Prop} {p tl n nc : Nat} {t : Nat → Int32} {M : Mem} (hn : n < 8) (hnc : nc ≤ 9) (hp : p ≤ tl) (htl : tl ≤ 240) (h1 : M 1 1 = nI tl) (h2 : M 3 6 = nI p) (h3 : ∀ i, i < tl → M 2 i = t i) (h0 : M 3 3 = 0) (hc : M 3 1 = nI nc) (h4 : M 4 0 = nI n)
    (he : crc t tl nc p ≠ 0 → ∀ M', M' 3 3 = nI (crc t tl nc p) → M' 3 4 = nI (crp t tl nc p) → (∀ a, a ≠ 3 → M' a = M a) → Q M')
    (hq : crc t tl nc p = 0 → ∀ M', M' 3 3 = 0 → M' 3 4 = M 3 4 → M' 3 6 = nI (ne t tl (ne t tl p)) → (∀ k, k < 3 → M' 3 k = M 3 k) → M' 4 0 = nI (n + 1) → M' 4 1 = M 4 1 → M' 5 = upd (M 5) n (nI (nv t tl p)) → M' 6 = upd (M 6) n (-1) → M' 7 = upd (M 7) n (nI (nv t tl (ne t tl p))) → M' 8 = upd (M 8) n 0 → M' 9 = upd (M 9) n 0 → (∀ a, a < 3 ∨ 9 < a → M' a = M a) → Q M') : wp_X6_readCar Q M := by
  unfold wp_X6_readCar bd_X6_readCar
  unfold crc crp at he
  unfold crc at hq
  rw [hc]
  refine sp_readNumber (t := t) hp htl h1 h2 h3 h0 (fun e M1 g1 g2 g3 g4 => ?_) (fun e M1 g1 g2 g3 g7 g5 g6 => ?_)
  · rw [if_neg e, if_neg e] at he
    have nz : ¬ M1 3 3 = 0 := by
      rw [g1]
      exact pnc_nz e
    exact sp_readNumberE nz ⟨fun z => absurd z nz, fun _ => ⟨fun z => absurd z nz, fun _ => he e M1 g1 g2 g4⟩⟩
  · rw [if_pos e, if_pos e] at he
    rw [if_pos e] at hq
    refine sp_readNumber (t := t) (p := ne t tl p) (ne_le hp) htl ((congrFun (g6 1 (by decide)) 1).trans h1) g3 (fun i hi => by rw [g6 2 (by decide)]; exact h3 i hi) g1 (fun e2 M2 k1 k2 k3 k4 => ?_) (fun e2 M2 k1 k2 k3 k7 k5 k6 => ?_)
    · have nz : ¬ M2 3 3 = 0 := by
        rw [k1]
        exact pnc_nz e2
      rw [crd_1 e2] at he
      exact ⟨fun z => absurd z nz, fun _ => ⟨fun z => absurd z nz, fun _ => he e2 M2 k1 k2 (fun a ha => by rw [k4 a ha, g6 a ha])⟩⟩
    · rw [crd_2 e2] at he hq
      obtain ⟨b1, b6, bf⟩ := pnc_fig e2
      refine ⟨fun _ => ?_, fun z => absurd k1 z⟩
      refine sp_isRound (t := t) (tl := tl) (nc := nc) htl ?_ (fun i hi => ?_) k7 ?_ hnc b1 b6 bf (fun y => ⟨fun z => absurd z (by decide), fun _ => ⟨fun _ => ?_, fun z => absurd k1 z⟩⟩) (fun y => ⟨fun _ => ?_, fun z => absurd rfl z⟩)
      · rw [k6 1 (by decide), g6 1 (by decide), h1]
      · rw [k6 2 (by decide), g6 2 (by decide)]
        exact h3 i hi
      · rw [k5 1 (by decide), g5 1 (by decide), hc]
      · have y' : fgb t nc (sk t tl (ne t tl p)) (ne t tl (ne t tl p) - sk t tl (ne t tl p)) = true := y
        rw [if_pos y'] at hq
        refine sp_addCar hn (by rw [k6 4 (by decide), g6 4 (by decide), h4]) (fun M9 c1 c2 c3 c4 c5 c6 c7 c8 => ?_)
        refine hq rfl M9 ?_ ?_ ?_ (fun k hk => ?_) c1 ?_ ?_ ?_ ?_ ?_ ?_ (fun a ha => ?_)
        · rw [c8 3 (by decide), k1]
        · rw [c8 3 (by decide), k2, g2]
        · rw [c8 3 (by decide), k3]
          rfl
        · rw [c8 3 (by decide), k5 k (by omega), g5 k (by omega)]
        · rw [c2, k6 4 (by decide), g6 4 (by decide)]
        · rw [c3, k6 5 (by decide), g6 5 (by decide)]
          rfl
        · rw [c4, k6 6 (by decide), g6 6 (by decide)]
        · rw [c5, k6 7 (by decide), g6 7 (by decide)]
          rfl
        · rw [c6, k6 8 (by decide), g6 8 (by decide)]
        · rw [c7, k6 9 (by decide), g6 9 (by decide)]
        · rw [c8 a (by omega), k6 a (by omega), g6 a (by omega)]
      · have y' : fgb t nc (sk t tl (ne t tl p)) (ne t tl (ne t tl p) - sk t tl (ne t tl p)) = false := y
        rw [if_neg (by rw [y']; decide)] at he
        rw [k7]
        refine sp_blame k1 (fun M4 c1 c2 c3 c4 => ?_)
        have nz : ¬ M4 3 3 = 0 := by
          rw [c1]
          decide
        exact ⟨fun z => absurd z nz, fun _ => he (by decide) M4 c1 c2 (fun a ha => by rw [c4 a ha, k6 a ha, g6 a ha])⟩
theorem sp_takeCar {Q : Int32 → Mem → Prop} {p tl n nc : Nat} {t : Nat → Int32} {M : Mem} (hn : n < 8) (hnc : nc ≤ 9) (hp : p ≤ tl) (htl : tl ≤ 240) (h1 : M 211 8 = nI tl) (h2 : M 211 10 = nI p) (h3 : ∀ i, i < tl → M 215 i = t i) (h4 : M 211 14 = nI n) (hc : M 216 0 = nI nc)
    (he : crc t tl nc p ≠ 0 → ∀ M', M' 211 9 = nI (crp t tl nc p) → (∀ k, k < 9 ∨ 14 < k → M' 211 k = M 211 k) → (∀ a, a ≠ 211 → (a < 217 ∨ 220 < a) → M' a = M a) → Q (nI (crc t tl nc p)) M')
    (hq : crc t tl nc p = 0 → ∀ M', M' 211 9 = M 211 9 → M' 211 10 = nI (ne t tl (ne t tl p)) → M' 211 14 = nI (n + 1) → M' 217 = upd (M 217) n (nI (nv t tl p)) → M' 219 = upd (M 219) n (nI (ne t tl (ne t tl p) - sk t tl (ne t tl p))) → M' 220 = upd (M 220) n (-1) → (∀ k, k < ne t tl (ne t tl p) - sk t tl (ne t tl p) → M' 218 (6 * n + k) = t (sk t tl (ne t tl p) + k) - 49) → (∀ j, j < 6 * n → M' 218 j = M 218 j) → (∀ k, k < 9 ∨ 14 < k → M' 211 k = M 211 k) → (∀ a, a ≠ 211 → (a < 217 ∨ 220 < a) → M' a = M a) → Q 0 M') : wp_X10_takeCar Q M := by
  intro X80 hx
  unfold bd_X10_takeCar
  unfold crc crp at he
  unfold crc at hq
  have v : vp_in (nI n) 8 := inb hn (by decide)
  have v0 : vp_in (0 : Int32) 2 := inb (i := 0) (by decide) (by decide)
  rw [h4, nI_1, cl (show n < 1000000 by omega)]
  intro Ma ea
  refine ⟨v, fun Mb eb => ⟨v0, ?_⟩⟩
  have b16 : Mb 216 (0 : Int32).toNatClampNeg = nI nc := by
    rw [eb, up_o (by decide), ea, up_o (by decide)]
    exact hc
  rw [b16]
  unfold wp_X10_into bd_X10_into
  rw [cl (show n < 1000000 by omega)]
  have l217 : vp_in (nI n) (ln 217) := v
  have fb : ∀ k, k ≠ 14 → Mb 211 k = M 211 k := fun k hk => by rw [eb, up_o (by decide), ea, up_sn hk]
  have fb14 : Mb 211 14 = nI (n + 1) := by rw [eb, up_o (by decide), ea, up_ss]
  have fb220 : Mb 220 = upd (M 220) n (-1) := by rw [eb, up_s, ea, up_o (by decide)]
  have fbo : ∀ a, a ≠ 211 → a ≠ 220 → Mb a = M a := fun a a1 a2 => by rw [eb, up_o a2, ea, up_o a1]
  refine sp_takeNumber (t := t) hp htl ((fb 8 (by decide)).trans h1) ((fb 10 (by decide)).trans h2) (fun i hi => by rw [fbo 215 (by decide) (by decide)]; exact h3 i hi) (fun e M1 g2 g3 g4 => ⟨l217, fun M2 e2 => ?_⟩) (fun e M1 g1 g2 g5 g6 g3 g4 => ⟨l217, fun M2 e2 => ?_⟩)
  · rw [if_neg e, if_neg e] at he
    have nz := pnc_nl e
    refine ⟨fun z => absurd z nz, fun _ => ⟨fun z => absurd z nz, fun _ => he e M2 ?_ (fun k hk => ?_) (fun a a1 a2 => ?_)⟩⟩
    · rw [e2, up_o (by decide), g2]
    · rw [e2, up_o (by decide), g3 k (by omega), fb k (by omega)]
    · rw [e2, up_o (by omega), g4 a a1, fbo a a1 (by omega)]
  · rw [if_pos e, if_pos e] at he
    rw [if_pos e] at hq
    have g5' : M1 211 11 = nI (nv t tl p) := g5
    rw [g5'] at e2
    refine ⟨fun _ => ?_, fun z => absurd (by decide) z⟩
    have f2 : ∀ k, M2 211 k = M1 211 k := fun k => by rw [e2, up_o (by decide)]
    have f2o : ∀ a, a ≠ 211 → a ≠ 217 → M2 a = Mb a := fun a a1 a2 => by rw [e2, up_o a2, g4 a a1]
    refine sp_takeNumber (t := t) (p := ne t tl p) (ne_le hp) htl ?_ ?_ (fun i hi => ?_) (fun e3 M3 k2 k3 k4 => ?_) (fun e3 M3 k1 k2 k5 k6 k3 k4 => ?_)
    · rw [f2, g3 8 (by omega), fb 8 (by decide), h1]
    · rw [f2, g2]
      rfl
    · rw [f2o 215 (by decide) (by decide), fbo 215 (by decide) (by decide)]
      exact h3 i hi
    · unfold crd at he
      rw [if_neg e3] at he
      refine ⟨fun z => absurd z (pnc_nl e3), fun _ => he e3 M3 k2 (fun k hk => ?_) (fun a a1 a2 => ?_)⟩
      · rw [k3 k (by omega), f2, g3 k (by omega), fb k (by omega)]
      · rw [k4 a a1, f2o a a1 (by omega), fbo a a1 (by omega)]
    · unfold crd at he hq
      rw [if_pos e3] at he hq
      obtain ⟨b1, b6, bf⟩ := pnc_fig e3
      have hs := fgl_lt (bf 0 (by omega))
      have hsl : ∀ j, j < ne t tl (ne t tl p) - sk t tl (ne t tl p) → sk t tl (ne t tl p) + j < tl := fun j hj => fgl_lt (bf j hj)
      refine ⟨fun _ => ⟨v, fun M8 e8 => ?_⟩, fun z => absurd (by decide) z⟩
      have k2' : M3 211 10 = nI (ne t tl (ne t tl p)) := k2
      rw [k2', k6, pk_sub (by omega)] at e8
      generalize hlen : ne t tl (ne t tl p) - sk t tl (ne t tl p) = len at *
      generalize hsk : sk t tl (ne t tl p) = s at *
      have key : ∀ m x M', x + m = len → (∀ j, j < x → 1 ≤ (t (s + j)).toNatClampNeg - 48 ∧ (t (s + j)).toNatClampNeg - 48 ≤ nc) → (∀ k, k < x → M' 218 (6 * n + k) = t (s + k) - 49) → (∀ j, j < 6 * n → M' 218 j = M 218 j) → (∀ a, a ≠ 218 → M' a = M8 a) → X80 (nI n) (nI x) M' := by
        intro m
        induction m with
        | zero =>
          intro x M' hx1 c1 c2 c3 c4
          have hxl : x = len := by omega
          subst hxl
          apply hx
          unfold bd_X10_takeCar_80
          have l219 : M' 219 (nI n).toNatClampNeg = nI x := by rw [cl (by omega), c4 219 (by decide), e8, up_ss]
          refine ⟨v, fun _ => ?_, fun z => absurd (by rw [l219, leN (by omega) (by omega)]; exact Nat.le_refl _) z⟩
          rw [if_pos (show fgb t nc s x = true from decide_eq_true c1)] at hq
          refine hq rfl M' ?_ ?_ ?_ ?_ ?_ ?_ c2 c3 (fun k hk => ?_) (fun a a1 a2 => ?_)
          · rw [c4 211 (by decide), e8, up_o (by decide), k1, f2, g1, fb 9 (by decide)]
          · rw [c4 211 (by decide), e8, up_o (by decide), k2']
          · rw [c4 211 (by decide), e8, up_o (by decide), k3 14 (by omega), f2, g3 14 (by omega), fb14]
          · rw [c4 217 (by decide), e8, up_o (by decide), k4 217 (by decide), e2, up_s, g4 217 (by decide), fbo 217 (by decide) (by decide)]
          · rw [c4 219 (by decide), e8, up_s, k4 219 (by decide), f2o 219 (by decide) (by decide), fbo 219 (by decide) (by decide)]
          · rw [c4 220 (by decide), e8, up_o (by decide), k4 220 (by decide), f2o 220 (by decide) (by decide), fb220]
          · rw [c4 211 (by decide), e8, up_o (by decide), k3 k (by omega), f2, g3 k (by omega), fb k (by omega)]
          · rw [c4 a (by omega), e8, up_o (by omega), k4 a a1, f2o a a1 (by omega), fbo a a1 (by omega)]
        | succ m ih =>
          intro x M' hx1 c1 c2 c3 c4
          apply hx
          unfold bd_X10_takeCar_80
          have l219 : M' 219 (nI n).toNatClampNeg = nI len := by rw [cl (by omega), c4 219 (by decide), e8, up_ss]
          have l12 : M' 211 12 = nI s := by rw [c4 211 (by decide), e8, up_o (by decide), k6]
          have l216 : M' 216 (0 : Int32).toNatClampNeg = nI nc := by
            rw [c4 216 (by decide), e8, up_o (by decide), k4 216 (by decide), f2o 216 (by decide) (by decide), fbo 216 (by decide) (by decide)]
            exact hc
          have hsx := hsl x (by omega)
          obtain ⟨d, d1, d2, d3⟩ := fgl_val (bf x (by omega))
          have l215 : M' 215 (s + x) = nI d := by
            rw [c4 215 (by decide), e8, up_o (by decide), k4 215 (by decide), f2o 215 (by decide) (by decide), fbo 215 (by decide) (by decide), h3 _ hsx, d3]
          rw [l219, l12, l216, nI_add, cl (show s + x < 1000000 by omega), l215]
          refine ⟨v, fun z => absurd ((leN (by omega) (by omega)).mp z) (by omega), fun _ => ⟨inb (by omega) (by decide), v0, ?_⟩⟩
          refine sp_in (lo := 0) (hi := nI nc - 1) rfl rfl (fun y => ⟨fun z => absurd z (by decide), fun _ => ?_⟩) (fun y => ⟨fun _ => ?_, fun z => absurd rfl z⟩)
          · obtain ⟨j, j1, j2⟩ := (in_n (show nc < 1000000 by omega)).mp y
            have dj : d = j + 49 := by
              have q : nI d = nI (j + 49) := by
                rw [← nI_add, ← j2, show nI 49 = (49 : Int32) from rfl, Int32.sub_add_cancel]
              exact (eqN (by omega) (by omega)).mp q
            rw [show (6 : Int32) = nI 6 from rfl, pk_mul, nI_add, cl (show 6 * n + x < 1000000 by omega)]
            refine ⟨inb (by omega) (by decide), fun M6 e6 => ?_⟩
            rw [nI_1]
            refine ih (x + 1) M6 (by omega) (fun i hi => ?_) (fun k hk => ?_) (fun i hi => ?_) (fun a ha => ?_)
            · by_cases w : i = x
              · rw [w, d3, cl (by omega)]
                omega
              · exact c1 i (by omega)
            · by_cases w : k = x
              · rw [e6, w, up_ss, d3]
              · rw [e6, up_sn (by omega)]
                exact c2 k (by omega)
            · rw [e6, up_sn (by omega)]
              exact c3 i hi
            · rw [e6, up_o ha, c4 a ha]
          · have fz : fgb t nc s len = false := by
              refine decide_eq_false (fun w => y ?_)
              have w1 := w x (by omega)
              rw [d3, cl (by omega)] at w1
              refine (in_n (show nc < 1000000 by omega)).mpr ⟨d - 49, by omega, ?_⟩
              rw [show (49 : Int32) = nI 49 from rfl, pk_sub (by omega)]
            rw [if_neg (by rw [fz]; decide)] at he
            rw [l12]
            refine sp_fails (fun M9 q1 q3 q4 => he (by decide) M9 q1 (fun k hk => ?_) (fun a a1 a2 => ?_))
            · rw [q3 k (by omega), c4 211 (by decide), e8, up_o (by decide), k3 k (by omega), f2, g3 k (by omega), fb k (by omega)]
            · rw [q4 a a1, c4 a (by omega), e8, up_o (by omega), k4 a a1, f2o a a1 (by omega), fbo a a1 (by omega)]
      refine key len 0 M8 (by omega) (fun j hj => absurd hj (by omega)) (fun k hk => absurd hk (by omega)) (fun j hj => ?_) (fun a ha => rfl)
      rw [e8, up_o (by decide), k4 218 (by decide), f2o 218 (by decide) (by decide), fbo 218 (by decide) (by decide)]
