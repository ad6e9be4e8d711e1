/-- a clause of following: code, place -/
def flc (t : Nat → Int32) (tl n : Nat) (ld : Nat → Int32) (p : Nat) : Nat := if pnc t tl 0 (nI n - 1) p = 0 then (if ld (nv t tl p) = -1 then (if pnc t tl 0 (nI n - 1) (ne t tl p) = 0 then (if nv t tl p = nv t tl (ne t tl p) then 4 else 0) else pnc t tl 0 (nI n - 1) (ne t tl p)) else 4) else pnc t tl 0 (nI n - 1) p
def flp (t : Nat → Int32) (tl n : Nat) (ld : Nat → Int32) (p : Nat) : Nat := if pnc t tl 0 (nI n - 1) p = 0 then (if ld (nv t tl p) = -1 then sk t tl (ne t tl p) else sk t tl p) else sk t tl p
theorem sp_readFollowing {Q : Mem → Prop} {p tl n : Nat} {ld t : Nat → Int32} {M : Mem} (hn : n ≤ 8) (hp : p ≤ tl) (htl : tl ≤ 240) (h1 : M 1 1 = nI tl) (h2 : M 3 6 = nI p) (h3 : ∀ i, i < tl → M 2 i = t i) (h0 : M 3 3 = 0) (h4 : M 4 0 = nI n) (h5 : ∀ c, c < n → M 6 c = ld c)
    (he : flc t tl n ld p ≠ 0 → ∀ M', M' 3 3 = nI (flc t tl n ld p) → M' 3 4 = nI (flp t tl n ld p) → (∀ a, a ≠ 3 → M' a = M a) → Q M')
    (hq : flc t tl n ld p = 0 → ∀ M', M' 3 3 = 0 → M' 3 4 = M 3 4 → M' 3 6 = nI (ne t tl (ne t tl p)) → (∀ k, k < 3 → M' 3 k = M 3 k) → M' 6 = upd (M 6) (nv t tl p) (nI (nv t tl (ne t tl p))) → (∀ a, a ≠ 3 → a ≠ 6 → M' a = M a) → Q M') : wp_X6_readFollowing Q M := by
  intro X44 X80 hx hy
  unfold bd_X6_readFollowing
  unfold flc flp at he
  unfold flc at hq
  have bad : ∀ x1 M', ¬ M' 3 3 = 0 → Q M' → X44 x1 M' := by
    intro x1 M' nz q
    apply hx
    unfold bd_X6_readFollowing_44
    refine sp_readNumberE nz ⟨fun z => absurd z nz, fun _ => ?_⟩
    apply hy
    exact ⟨fun z => absurd z nz, fun _ => q⟩
  rw [h4]
  refine sp_readNumber (t := t) hp htl h1 h2 h3 h0 (fun e M1 g1 g2 g3 g4 => ?_) (fun e M1 g1 g2 g3 g7 g5 g6 => ?_)
  · rw [if_neg e, if_neg e] at he
    have nz : ¬ M1 3 3 = 0 := by
      rw [g1]
      exact pnc_nz e
    exact ⟨fun z => absurd z nz, fun _ => bad _ M1 nz (he e M1 g1 g2 g4)⟩
  · rw [if_pos e, if_pos e] at he
    rw [if_pos e] at hq
    have hv := pnc_n (by omega) e
    refine ⟨fun _ => ?_, fun z => absurd g1 z⟩
    show vp_in (nI (nv t tl p)) 8 ∧ _
    refine ⟨inb (by omega) (by omega), ?_⟩
    show (M1 6 (nI (nv t tl p)).toNatClampNeg = -1 → X44 (nI (nv t tl p)) M1) ∧ (¬ M1 6 (nI (nv t tl p)).toNatClampNeg = -1 → wp_X6_blame (fun M3 => X44 (nI (nv t tl p)) M3) 4 (M1 3 7) M1)
    rw [cl (by omega), g6 6 (by decide), h5 _ hv, g7]
    refine ⟨fun y => ?_, fun y => ?_⟩
    · rw [if_pos y, if_pos y] at he
      rw [if_pos y] at hq
      apply hx
      unfold bd_X6_readFollowing_44
      rw [g6 4 (by decide), h4]
      refine sp_readNumber (t := t) (p := ne t tl p) (ne_le hp) htl ((congrFun (g6 1 (by decide)) 1).trans h1) g3 (fun i hi => by rw [g6 2 (by decide)]; exact h3 i hi) g1 (fun e2 M2 k1 k2 k3 k4 => ?_) (fun e2 M2 k1 k2 k3 k7 k5 k6 => ?_)
      · rw [if_neg e2] at he
        have nz : ¬ M2 3 3 = 0 := by
          rw [k1]
          exact pnc_nz e2
        refine ⟨fun z => absurd z nz, fun _ => ?_⟩
        apply hy
        exact ⟨fun z => absurd z nz, fun _ => he e2 M2 k1 k2 (fun a ha => by rw [k4 a ha, g6 a ha])⟩
      · rw [if_pos e2] at he hq
        have hw := pnc_n (by omega) e2
        refine ⟨fun _ => ?_, fun z => absurd k1 z⟩
        show (nI (nv t tl p) = nI (nv t tl (ne t tl p)) → wp_X6_blame (fun M2 => X80 (nI (nv t tl p)) (nI (nv t tl (ne t tl p))) M2) 4 (M2 3 7) M2) ∧ (¬ nI (nv t tl p) = nI (nv t tl (ne t tl p)) → X80 (nI (nv t tl p)) (nI (nv t tl (ne t tl p))) M2)
        rw [eqN (by omega) (by omega), k7]
        refine ⟨fun x => ?_, fun x => ?_⟩
        · rw [if_pos x] at he
          refine sp_blame k1 (fun M4 c1 c2 c3 c4 => ?_)
          have nz : ¬ M4 3 3 = 0 := by
            rw [c1]
            decide
          apply hy
          exact ⟨fun z => absurd z nz, fun _ => he (by decide) M4 c1 c2 (fun a ha => by rw [c4 a ha, k6 a ha, g6 a ha])⟩
        · rw [if_neg x] at hq
          apply hy
          unfold bd_X6_readFollowing_80
          refine ⟨fun _ => ⟨inb (by omega) (by omega), fun M4 e4 => ?_⟩, fun z => absurd k1 z⟩
          rw [cl (by omega)] at e4
          refine hq rfl M4 ?_ ?_ ?_ (fun k hk => ?_) ?_ (fun a ha hb => ?_)
          · rw [e4, up_o (by decide), k1]
          · rw [e4, up_o (by decide), k2, g2]
          · rw [e4, up_o (by decide), k3]
            rfl
          · rw [e4, up_o (by decide), k5 k (by omega), g5 k (by omega)]
          · rw [e4]
            show up M2 6 _ _ 6 = _
            rw [up_s, k6 6 (by decide), g6 6 (by decide)]
          · rw [e4, up_o hb, k6 a ha, g6 a ha]
    · rw [if_neg y, if_neg y] at he
      refine sp_blame g1 (fun M4 c1 c2 c3 c4 => ?_)
      have nz : ¬ M4 3 3 = 0 := by
        rw [c1]
        decide
      exact bad _ M4 nz (he (by decide) M4 c1 c2 (fun a ha => by rw [c4 a ha, g6 a ha]))
