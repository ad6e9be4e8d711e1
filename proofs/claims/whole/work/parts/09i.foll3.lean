theorem pnc_nl {t : Nat → Int32} {tl p : Nat} {a1 a2 : Int32} (h : pnc t tl a1 a2 p ≠ 0) : ¬ nI (pnc t tl a1 a2 p) ≤ 0 := by
  have := pnc_le (t := t) (tl := tl) (p := p) (a1 := a1) (a2 := a2)
  rw [l0, leN (by omega) (by decide)]
  omega
theorem sp_takeFollows {Q : Int32 → Mem → Prop} {p tl n : Nat} {ld t : Nat → Int32} {M : Mem} (hn : n ≤ 8) (hp : p ≤ tl) (htl : tl ≤ 240) (h1 : M 211 8 = nI tl) (h2 : M 211 10 = nI p) (h3 : ∀ i, i < tl → M 215 i = t i) (h4 : M 211 14 = nI n) (h5 : ∀ c, c < n → M 220 c = ld c) (h6 : ∀ c, c < n → ld c = -1 ∨ ¬ ld c < 0)
    (he : flc t tl n ld p ≠ 0 → ∀ M', M' 211 9 = nI (flp t tl n ld p) → (∀ k, k < 9 ∨ 12 < k → M' 211 k = M 211 k) → (∀ a, a ≠ 211 → M' a = M a) → Q (nI (flc t tl n ld p)) M')
    (hq : flc t tl n ld p = 0 → ∀ M', M' 211 9 = M 211 9 → M' 211 10 = nI (ne t tl (ne t tl p)) → M' 220 = upd (M 220) (nv t tl p) (nI (nv t tl (ne t tl p))) → (∀ k, k < 9 ∨ 12 < k → M' 211 k = M 211 k) → (∀ a, a ≠ 211 → a ≠ 220 → M' a = M a) → Q 0 M') : wp_X10_takeFollows Q M := by
  unfold wp_X10_takeFollows bd_X10_takeFollows
  unfold flc flp at he
  unfold flc at hq
  rw [h4]
  refine sp_takeNumber (t := t) hp htl h1 h2 h3 (fun e M1 g2 g3 g4 => ?_) (fun e M1 g1 g2 g5 g6 g3 g4 => ?_)
  · rw [if_neg e, if_neg e] at he
    exact ⟨fun z => absurd z (pnc_nl e), fun _ => he e M1 g2 g3 g4⟩
  · rw [if_pos e, if_pos e] at he
    rw [if_pos e] at hq
    have hv := pnc_n (by omega) e
    have g5' : M1 211 11 = nI (nv t tl p) := g5
    refine ⟨fun _ => ?_, fun z => absurd (by decide) z⟩
    rw [g5', cl (by omega), g4 220 (by decide), h5 _ hv, g6, g3 14 (by omega), h4]
    refine ⟨inb (by omega) (by omega), fun y => ?_, fun y => ?_⟩
    · have y1 : ld (nv t tl p) = -1 := (h6 _ hv).elim id (fun z => absurd y z)
      rw [if_pos y1, if_pos y1] at he
      rw [if_pos y1] at hq
      refine sp_takeNumber (t := t) (p := ne t tl p) (ne_le hp) htl ((g3 8 (by omega)).trans h1) g2 (fun i hi => by rw [g4 215 (by decide)]; exact h3 i hi) (fun e2 M2 k2 k3 k4 => ?_) (fun e2 M2 k1 k2 k5 k6 k3 k4 => ?_)
      · rw [if_neg e2] at he
        have nz := pnc_nz e2
        exact ⟨fun z => absurd z nz, fun _ => ⟨fun z => absurd z nz, fun _ => he e2 M2 k2 (fun k hk => by rw [k3 k hk, g3 k hk]) (fun a ha => by rw [k4 a ha, g4 a ha])⟩⟩
      · rw [if_pos e2] at he hq
        have hw := pnc_n (by omega) e2
        have k5' : M2 211 11 = nI (nv t tl (ne t tl p)) := k5
        refine ⟨fun _ => ?_, fun z => absurd rfl z⟩
        rw [k5', eqN (by omega) (by omega), k6]
        refine ⟨fun x => ?_, fun x => ⟨fun _ => ⟨inb (by omega) (by omega), fun M4 e4 => ?_⟩, fun z => absurd rfl z⟩⟩
        · rw [if_pos x.symm] at he
          exact sp_fails (fun M4 c1 c3 c4 => he (by decide) M4 c1 (fun k hk => by rw [c3 k (by omega), k3 k hk, g3 k hk]) (fun a ha => by rw [c4 a ha, k4 a ha, g4 a ha]))
        · rw [if_neg (fun z => x z.symm)] at hq
          refine hq rfl M4 ?_ ?_ ?_ (fun k hk => ?_) (fun a ha hb => ?_)
          · rw [e4, up_o (by decide), k1, g1]
          · rw [e4, up_o (by decide), k2]
            rfl
          · rw [e4, up_s, k4 220 (by decide), g4 220 (by decide)]
          · rw [e4, up_o (by decide), k3 k hk, g3 k hk]
          · rw [e4, up_o hb, k4 a ha, g4 a ha]
    · have y1 : ¬ ld (nv t tl p) = -1 := fun z => y (by rw [z]; decide)
      rw [if_neg y1, if_neg y1] at he
      exact sp_fails (fun M4 c1 c3 c4 => he (by decide) M4 c1 (fun k hk => by rw [c3 k (by omega), g3 k hk]) (fun a ha => by rw [c4 a ha, g4 a ha]))
