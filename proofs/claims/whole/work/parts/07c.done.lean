/-! whom one follows is changed -/
theorem crn_lead {R L f : Nat → Int32} {c d k : Nat} {x : Int32} (hd : d < 8) : crn R L (upd f (8 + d) x) c k = crn R L f c k := by
  unfold crn upd
  rw [if_neg (show ¬ 32 + c = 8 + d by omega)]
theorem WF_lead {n : Nat} {R L f : Nat → Int32} {c : Nat} {x : Int32} (hw : WF n R L f) (hc : c < n) (hx : x = -1 ∨ ∃ d, d < n ∧ d ≠ c ∧ x = nI d) : WF n R L (upd f (8 + c) x) := by
  obtain ⟨hn, w1, w2, w3, w4⟩ := hw
  refine ⟨hn, fun e he => ?_, fun e he => ?_, fun e he => ?_, fun e he => ?_⟩
  · unfold upd; rw [if_neg (by omega)]; exact w1 e he
  · unfold upd
    by_cases q : e = c
    · rw [if_pos (by rw [q]), q]; exact hx
    · rw [if_neg (by omega)]; exact w2 e he
  · unfold upd; rw [if_neg (by omega)]; exact w3 e he
  · unfold upd; rw [if_neg (by omega)]; exact w4 e he
theorem SR_lead {n : Nat} {R L f : Nat → Int32} {M M' : Mem} {b c : Nat} {x : Int32} (hn : n ≤ 8) (hc : c < n) (hr : SR n R L f M b) (e2 : M' (b + 2) = upd (M (b + 2)) c x) (eo : ∀ a, b ≤ a → a ≤ b + 5 → a ≠ b + 2 → M' a = M a) : SR n R L (upd f (8 + c) x) M' b := by
  obtain ⟨h0, h1, h2⟩ := hr
  refine ⟨by rw [eo b (by omega) (by omega) (by omega)]; exact h0, by rw [eo b (by omega) (by omega) (by omega)]; unfold upd; rw [if_neg (by omega)]; exact h1, fun e he => ?_⟩
  obtain ⟨g1, g2, g3, g4, g5⟩ := h2 e he
  rw [eo (b + 1) (by omega) (by omega) (by omega), eo (b + 3) (by omega) (by omega) (by omega), eo (b + 4) (by omega) (by omega) (by omega), eo (b + 5) (by omega) (by omega) (by omega), e2]
  have er : rnum (dg R L (upd f (8 + c) x) e) (L e).toNatClampNeg = rnum (dg R L f e) (L e).toNatClampNeg := rnum_cong _ (fun k _ => by unfold dg; rw [crn_lead (by omega)])
  rw [er]
  unfold upd
  rw [if_neg (show ¬ e = 8 + c by omega), if_neg (show ¬ 16 + e = 8 + c by omega), if_neg (show ¬ 24 + e = 8 + c by omega)]
  refine ⟨g1, ?_, g3, g4, g5⟩
  by_cases q : e = c
  · rw [if_pos q, if_pos (by rw [q])]
  · rw [if_neg q, if_neg (by omega)]; exact g2
/-! a ROUND is turned -/
def trn (f : Nat → Int32) (c : Nat) : Nat → Int32 := upd (upd f (32 + c) (1 - f (32 + c))) (16 + c) 0
theorem trn_32 {f : Nat → Int32} {c e : Nat} (hc : c < 8) : trn f c (32 + e) = if e = c then 1 - f (32 + c) else f (32 + e) := by
  unfold trn upd
  rw [if_neg (by omega)]
  by_cases q : e = c
  · rw [if_pos (by rw [q]), if_pos q]
  · rw [if_neg (by omega), if_neg q]
theorem trn_16 {f : Nat → Int32} {c e : Nat} (hc : c < 8) (he : e < 8) : trn f c (16 + e) = if e = c then 0 else f (16 + e) := by
  unfold trn upd
  by_cases q : e = c
  · rw [if_pos (by rw [q]), if_pos q]
  · rw [if_neg (by omega), if_neg (by omega), if_neg q]
theorem trn_o {f : Nat → Int32} {c j : Nat} (h1 : j ≠ 32 + c) (h2 : j ≠ 16 + c) : trn f c j = f j := by
  unfold trn upd
  rw [if_neg h2, if_neg h1]
theorem WF_trn {n : Nat} {R L f : Nat → Int32} {c : Nat} (hw : WF n R L f) (hc : c < n) : WF n R L (trn f c) := by
  obtain ⟨hn, w1, w2, w3, w4⟩ := hw
  refine ⟨hn, fun e he => ?_, fun e he => ?_, fun e he => ?_, fun e he => ?_⟩
  · rw [trn_o (by omega) (by omega)]; exact w1 e he
  · rw [trn_o (by omega) (by omega)]; exact w2 e he
  · obtain ⟨len, nx, h1, h6, hx, hL, hf, hR⟩ := w3 e he
    rw [trn_16 (by omega) (by omega)]
    by_cases q : e = c
    · exact ⟨len, 0, h1, h6, by omega, hL, by rw [if_pos q]; rfl, hR⟩
    · exact ⟨len, nx, h1, h6, hx, hL, by rw [if_neg q]; exact hf, hR⟩
  · rw [trn_32 (by omega)]
    by_cases q : e = c
    · rw [if_pos q]
      rcases w4 c hc with z | z
      · rw [z]; exact Or.inr (by decide)
      · rw [z]; exact Or.inl (by decide)
    · rw [if_neg q]; exact w4 e he
theorem dg_trn {n : Nat} {R L f : Nat → Int32} {c k len : Nat} (hw : WF n R L f) (hc : c < n) (hL : L c = nI len) (h6 : len ≤ 6) (hk : k < len) : dg R L (trn f c) c k = dg R L f c (len - 1 - k) := by
  have h8 := hw.1
  unfold dg crn
  rw [trn_32 (by omega), if_pos rfl, hL, cl (by omega)]
  rcases hw.2.2.2.2 c hc with z | z
  · rw [z, if_pos (by decide), if_neg (by decide)]
  · rw [z, if_neg (by decide), if_pos rfl]
    have e : len - 1 - (len - 1 - k) = k := by omega
    rw [e]
theorem crn_trn_o {R L f : Nat → Int32} {c e k : Nat} (hc : c < 8) (he : e < 8) (hne : e ≠ c) : crn R L (trn f c) e k = crn R L f e k := by
  unfold crn
  rw [trn_32 hc, if_neg hne]
theorem sp_reverseRound {Q : Mem → Prop} {b n c : Nat} {R L f : Nat → Int32} {M : Mem} (hw : WF n R L f) (hc : c < n) (hr : SR n R L f M b) (hq : ∀ M', SR n R L (trn f c) M' b → M' (b + 3) c = nI (rnum (dg R L (trn f c) c) (L c).toNatClampNeg) → (∀ a, a ≠ b + 3 → a ≠ b + 4 → M' a = M a) → Q M') : wp_X7_reverseRound Q b (nI c) M := by
  have h8 := hw.1
  obtain ⟨len, nx, h1, h6, hx, hL, hf, hR⟩ := hw.2.2.2.1 c hc
  have hd : ∀ k, k < len → 1 ≤ dg R L f c k ∧ dg R L f c k ≤ 9 := fun k hk => dg_in hR hL h6 hk
  have hin : vp_in (nI c) 8 := inb (by omega) (by omega)
  obtain ⟨r0, r1, r2⟩ := hr
  have g3 := (r2 c hc).2.2.1
  rw [hL, cl (by omega)] at g3
  unfold wp_X7_reverseRound bd_X7_reverseRound
  simp only [cl (show c < 1000000 by omega)]
  rw [g3]
  have hlt := rnum_1e6 (d := dg R L f c) h6 (fun k hk => (hd k hk).2)
  have en := ndg_rnum (d := dg R L f c) h1 h6 (hd 0 (by omega)).1 (fun k hk => (hd k hk).2)
  refine ⟨hin, sp_reversed hlt ⟨hin, fun M4 e4 => ⟨hin, fun M6 e6 => ?_⟩⟩⟩
  have ev : rnum (fun j => dgt (rnum (dg R L f c) len) (ndg (rnum (dg R L f c) len) - 1 - j)) (ndg (rnum (dg R L f c) len)) = rnum (dg R L (trn f c) c) len := by
    rw [en]
    refine rnum_cong len (fun k hk => ?_)
    rw [dgt_rnum h1 h6 (hd 0 (by omega)).1 (fun k hk => (hd k hk).2) (by omega), dg_trn hw hc hL h6 hk]
  rw [ev] at e4
  have f3 : M6 (b + 3) = upd (M (b + 3)) c (nI (rnum (dg R L (trn f c) c) len)) := by rw [e6, up_o (by omega), e4, up_s]
  have f4 : M6 (b + 4) = upd (M (b + 4)) c 0 := by rw [e6, up_s, e4, up_o (by omega)]
  have fo : ∀ a, a ≠ b + 3 → a ≠ b + 4 → M6 a = M a := fun a a1 a2 => by rw [e6, up_o a2, e4, up_o a1]
  refine hq M6 ⟨by rw [fo b (by omega) (by omega)]; exact r0, by rw [fo b (by omega) (by omega), trn_o (by omega) (by omega)]; exact r1, fun e he => ?_⟩ ?_ fo
  · obtain ⟨q1, q2, q3, q4, q5⟩ := r2 e he
    rw [fo (b + 1) (by omega) (by omega), fo (b + 2) (by omega) (by omega), fo (b + 5) (by omega) (by omega), f3, f4, trn_o (show e ≠ 32 + c by omega) (by omega), trn_o (show 8 + e ≠ 32 + c by omega) (by omega), trn_o (show 24 + e ≠ 32 + c by omega) (by omega), trn_16 (by omega) (by omega)]
    unfold upd
    by_cases z : e = c
    · rw [if_pos z, if_pos z, if_pos z, z, hL, cl (by omega)]
      rw [z] at q1 q2 q5
      exact ⟨q1, q2, rfl, rfl, q5⟩
    · rw [if_neg z, if_neg z, if_neg z, rnum_cong _ (fun k _ => by unfold dg; rw [crn_trn_o (by omega) (by omega) z])]
      exact ⟨q1, q2, q3, q4, q5⟩
  · rw [f3, hL, cl (by omega)]; exact if_pos rfl
theorem sp_roundOf {Q : Int32 → Mem → Prop} {n c : Nat} {R L f : Nat → Int32} {M : Mem} (hw : WF n R L f) (hc : c < n) (hR0 : M 212 = R) (hL0 : M 213 = L) (hf0 : M 214 = f) (hq : Q (nI (rnum (dg R L f c) (L c).toNatClampNeg)) M) : wp_X10_roundOf Q (nI c) M := by
  have h8 := hw.1
  obtain ⟨len, nx, h1, h6, hx, hL, hf, hR⟩ := hw.2.2.2.1 c hc
  rw [hL, cl (by omega)] at hq
  intro X4 hx4
  have hd : ∀ k, k < len → 1 ≤ dg R L f c k ∧ dg R L f c k ≤ 9 := fun k hk => dg_in hR hL h6 hk
  have key : X4 (nI (rnum (dg R L f c) 0)) (nI 0) M := by
    refine upto (P := fun i => X4 (nI (rnum (dg R L f c) i)) (nI i) M) (n := len) ?_ ?_
    · apply hx4
      unfold bd_X10_roundOf_4
      rw [cl (by omega), hL0, hL]
      exact ⟨inb (by omega) (by omega), fun _ => hq, fun z => absurd ((leN (by omega) (by omega)).mpr (Nat.le_refl len)) z⟩
    · intro i hi ih
      apply hx4
      unfold bd_X10_roundOf_4
      rw [cl (by omega), hL0, hL, leN (by omega) (by omega), nI_1 i]
      refine ⟨inb (by omega) (by omega), fun z => absurd z (by omega), fun _ => sp_cornerOf (by omega) h6 hi (by rw [hL0]; exact hL) ?_⟩
      obtain ⟨r, q1, q2⟩ := crn_ok (n := 0) (f := f) hR hL h6 hi
      have ed : dg R L f c i = r + 1 := by unfold dg; rw [q2, cl (by omega)]
      rw [hR0, hL0, hf0, q2, l10, pk_mul, nI_add, nI_1]
      rw [rnum, ed] at ih
      exact ih
  have h3 := key
  rw [nI_0] at h3
  exact h3
/-! refusals of steps -/
theorem sp_refusal {Q : Int32 → Mem → Prop} {a1 st : Int32} {nc : Nat} {M : Mem} (hnc : nc ≤ 9) (hco : M 0 10 = nI nc) (hst : M 11 1 = st) (ho : (∀ k, 1 ≤ k → k ≤ 60 → a1 ≠ nI k) → Q (-1000000002) M) (hn : (∃ k, 1 ≤ k ∧ k ≤ 60 ∧ a1 = nI k) → nc = 0 → Q (-1000000003) M) (hf : (∃ k, 1 ≤ k ∧ k ≤ 60 ∧ a1 = nI k) → nc ≠ 0 → ¬ st ≤ 9000 → Q (-1000000004) M) (hq : ∀ k, 1 ≤ k → k ≤ 60 → a1 = nI k → nc ≠ 0 → st ≤ 9000 → Q 0 M) : wp_X9_refusalOfSteps Q a1 M := by
  unfold wp_X9_refusalOfSteps bd_X9_refusalOfSteps
  rw [hco, hst]
  rcases rng a1 (m := 60) (by omega) with q | q | ⟨k, k1, k2⟩
  · refine ⟨fun _ => ho (fun k _ hk e => by rw [e] at q; exact nI_nlt0 (by omega) q), fun z => absurd ?_ z⟩
    rw [ltI] at q ⊢
    have e0 : (0 : Int32).toInt = 0 := by decide
    have e1 : (1 : Int32).toInt = 1 := by decide
    omega
  · have hz := ltI0 (by omega) q
    refine ⟨fun z => ?_, fun _ => ⟨fun z => absurd z hz.2, fun _ => ho (fun k _ hk e => by rw [e] at hz; exact hz.2 ((leN (by omega) (by omega)).mpr hk))⟩⟩
    rw [ltI] at z
    rw [ltI, nI_toInt (by omega)] at q
    have e1 : (1 : Int32).toInt = 1 := by decide
    omega
  · rw [k2, show (1 : Int32) = nI 1 from rfl, ltN (by omega) (by omega), show (60 : Int32) = nI 60 from rfl, leN (by omega) (by omega), show (0 : Int32) = nI 0 from rfl, eqN (by omega) (by omega)]
    refine ⟨fun z => ho (fun k' k3 k4 e => ?_), fun z => ⟨fun _ => ⟨fun q => hn ⟨k, by omega, k1, k2⟩ q, fun q => ?_⟩, fun z => absurd k1 z⟩⟩
    · rw [k2, eqN (by omega) (by omega)] at e; omega
    · by_cases e : st ≤ 9000
      · rw [if_pos e]; exact hq k (by omega) k1 k2 q e
      · rw [if_neg e]; exact hf ⟨k, by omega, k1, k2⟩ q e
theorem sp_refusalR {Q : Int32 → Mem → Prop} {a1 st : Int32} {nc : Nat} {M : Mem} (hnc : nc ≤ 9) (hco : M 211 0 = nI nc) (hst : M 214 40 = st) (ho : (∀ k, 1 ≤ k → k ≤ 60 → a1 ≠ nI k) → Q (-1000000002) M) (hn : (∃ k, 1 ≤ k ∧ k ≤ 60 ∧ a1 = nI k) → nc = 0 → Q (-1000000003) M) (hf : (∃ k, 1 ≤ k ∧ k ≤ 60 ∧ a1 = nI k) → nc ≠ 0 → ¬ st ≤ 9000 → Q (-1000000004) M) (hq : ∀ k, 1 ≤ k → k ≤ 60 → a1 = nI k → nc ≠ 0 → st ≤ 9000 → Q 0 M) : wp_X10_stepsRefused Q a1 M := by
  unfold wp_X10_stepsRefused bd_X10_stepsRefused
  have e40 : (40 : Int32).toNatClampNeg = 40 := by decide
  refine sp_in (lo := 1) (hi := 60) (by decide) (by decide) (fun q => ⟨fun q => absurd q (by decide), fun _ => ?_⟩) (fun q => ⟨fun _ => ho (fun k k1 k2 e => q ?_), fun q => absurd rfl q⟩)
  · obtain ⟨k, k1, k2, k3⟩ : ∃ w, w ≤ 60 ∧ a1 = nI w ∧ 1 ≤ w := by
      rcases rng a1 (m := 60) (by omega) with z | z | ⟨w, z1, z2⟩
      · refine absurd q.1 ?_
        rw [leI]; rw [ltI] at z
        have e0 : (0 : Int32).toInt = 0 := by decide
        have e1 : (1 : Int32).toInt = 1 := by decide
        omega
      · exact absurd q.2 (ltI0 (by omega) z).2
      · refine ⟨w, z1, z2, ?_⟩
        have q1 := q.1
        rw [z2, l1, leN (by omega) (by omega)] at q1
        exact q1
    rw [hco, e40, hst, show (0 : Int32) = nI 0 from rfl, eqN (by omega) (by omega)]
    exact ⟨fun q => hn ⟨k, k3, k1, k2⟩ q, fun q => ⟨by rw [show (40 : Int32) = nI 40 from rfl]; exact inb (by omega) (by omega), fun e => hq k k3 k1 k2 q e, fun e => hf ⟨k, k3, k1, k2⟩ q e⟩⟩
  · rw [e, show (1 : Int32) = nI 1 from rfl, show (60 : Int32) = nI 60 from rfl, leN (by omega) (by omega), leN (by omega) (by omega)]
    omega
