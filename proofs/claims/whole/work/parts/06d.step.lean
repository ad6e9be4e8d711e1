/-! one STEP of a vector f of 41 ints (corner c, follows 8+c, next 16+c, went 24+c, way 32+c, steps 40), n cars, rounds R, lengths L -/
def crn (R L f : Nat → Int32) (c k : Nat) : Int32 := R (6 * c + (if f (32 + c) = 1 then (L c).toNatClampNeg - 1 - k else k))
def ncor (R L f : Nat → Int32) (c : Nat) : Int32 := if f (8 + c) < 0 then crn R L f c (f (16 + c)).toNatClampNeg else f (f (8 + c)).toNatClampNeg
def nnxt (L f : Nat → Int32) (c : Nat) : Int32 := nI (((f (16 + c)).toNatClampNeg + 1) % (L c).toNatClampNeg)
def dg (R L f : Nat → Int32) (c k : Nat) : Nat := (crn R L f c k).toNatClampNeg + 1
def WF (n : Nat) (R L f : Nat → Int32) : Prop := n ≤ 8 ∧ (∀ c, c < n → ∃ k, k < 9 ∧ f c = nI k) ∧ (∀ c, c < n → f (8 + c) = -1 ∨ ∃ d, d < n ∧ d ≠ c ∧ f (8 + c) = nI d) ∧ (∀ c, c < n → ∃ len nx, 1 ≤ len ∧ len ≤ 6 ∧ nx < len ∧ L c = nI len ∧ f (16 + c) = nI nx ∧ ∀ k, k < len → ∃ r, r < 9 ∧ R (6 * c + k) = nI r) ∧ (∀ c, c < n → f (32 + c) = 0 ∨ f (32 + c) = 1)
def pst (R L f : Nat → Int32) (i : Nat) : Nat → Int32 := fun j =>
  if j < 8 then (if j < i then ncor R L f j else f j)
  else if j < 16 then f j
  else if j < 24 then (if j - 16 < i ∧ f (8 + (j - 16)) < 0 then nnxt L f (j - 16) else f j)
  else if j < 32 then (if j - 24 < i then f j + (if ncor R L f (j - 24) = f (j - 24) then 0 else 1) else f j)
  else f j
def stp (n : Nat) (R L f : Nat → Int32) : Nat → Int32 := upd (pst R L f n) 40 (f 40 + 1)
theorem pst_0 (R L f : Nat → Int32) : pst R L f 0 = f := by
  funext j
  unfold pst
  simp
theorem pst_c {R L f : Nat → Int32} {i c : Nat} (h : c < 8) : pst R L f i c = if c < i then ncor R L f c else f c := by unfold pst; rw [if_pos h]
theorem pst_8 {R L f : Nat → Int32} {i c : Nat} (h : c < 8) : pst R L f i (8 + c) = f (8 + c) := by unfold pst; rw [if_neg (by omega), if_pos (by omega)]
theorem pst_16 {R L f : Nat → Int32} {i c : Nat} (h : c < 8) : pst R L f i (16 + c) = if c < i ∧ f (8 + c) < 0 then nnxt L f c else f (16 + c) := by
  unfold pst
  rw [if_neg (by omega), if_neg (by omega), if_pos (by omega), Nat.add_sub_cancel_left]
theorem pst_24 {R L f : Nat → Int32} {i c : Nat} (h : c < 8) : pst R L f i (24 + c) = if c < i then f (24 + c) + (if ncor R L f c = f c then 0 else 1) else f (24 + c) := by
  unfold pst
  rw [if_neg (by omega), if_neg (by omega), if_neg (by omega), if_pos (by omega), Nat.add_sub_cancel_left]
theorem pst_32 {R L f : Nat → Int32} {i j : Nat} (h : 32 ≤ j) : pst R L f i j = f j := by
  unfold pst
  rw [if_neg (by omega), if_neg (by omega), if_neg (by omega), if_neg (by omega)]
theorem stp_o {n : Nat} {R L f : Nat → Int32} {j : Nat} (h : j ≠ 40) : stp n R L f j = pst R L f n j := if_neg h
theorem stp_40 (n : Nat) (R L f : Nat → Int32) : stp n R L f 40 = f 40 + 1 := by unfold stp upd; exact if_pos rfl
/-- one car more, that goes its round -/
theorem pst_goes {R L f : Nat → Int32} {i : Nat} (hi : i < 8) (h : f (8 + i) < 0) : upd (upd (upd (pst R L f i) i (ncor R L f i)) (16 + i) (nnxt L f i)) (24 + i) (f (24 + i) + (if ncor R L f i = f i then 0 else 1)) = pst R L f (i + 1) := by
  funext j
  unfold upd
  by_cases e1 : j = 24 + i
  · subst e1
    rw [if_pos rfl, pst_24 hi, if_pos (show i < i + 1 by omega)]
  · rw [if_neg e1]
    by_cases e2 : j = 16 + i
    · subst e2
      rw [if_pos rfl, pst_16 hi, if_pos ⟨by omega, h⟩]
    · rw [if_neg e2]
      by_cases e3 : j = i
      · subst e3
        rw [if_pos rfl, pst_c hi, if_pos (show j < j + 1 by omega)]
      · rw [if_neg e3]
        unfold pst
        have a1 : (j < i + 1) = (j < i) := by apply propext; omega
        by_cases g1 : j < 8
        · rw [if_pos g1, if_pos g1]; simp only [a1]
        · rw [if_neg g1, if_neg g1]
          by_cases g2 : j < 16
          · rw [if_pos g2, if_pos g2]
          · rw [if_neg g2, if_neg g2]
            by_cases g3 : j < 24
            · have a2 : (j - 16 < i + 1) = (j - 16 < i) := by apply propext; omega
              rw [if_pos g3, if_pos g3]; simp only [a2]
            · rw [if_neg g3, if_neg g3]
              by_cases g4 : j < 32
              · have a3 : (j - 24 < i + 1) = (j - 24 < i) := by apply propext; omega
                rw [if_pos g4, if_pos g4]; simp only [a3]
              · rw [if_neg g4, if_neg g4]
/-- one car more, that follows -/
theorem pst_follows {R L f : Nat → Int32} {i : Nat} (hi : i < 8) (h : ¬ f (8 + i) < 0) : upd (upd (pst R L f i) i (ncor R L f i)) (24 + i) (f (24 + i) + (if ncor R L f i = f i then 0 else 1)) = pst R L f (i + 1) := by
  funext j
  unfold upd
  by_cases e1 : j = 24 + i
  · subst e1
    rw [if_pos rfl, pst_24 hi, if_pos (show i < i + 1 by omega)]
  · rw [if_neg e1]
    by_cases e3 : j = i
    · subst e3
      rw [if_pos rfl, pst_c hi, if_pos (show j < j + 1 by omega)]
    · rw [if_neg e3]
      by_cases e2 : j = 16 + i
      · subst e2
        rw [pst_16 hi, pst_16 hi, if_neg (fun q => h q.2), if_neg (fun q => h q.2)]
      · unfold pst
        have a1 : (j < i + 1) = (j < i) := by apply propext; omega
        by_cases g1 : j < 8
        · rw [if_pos g1, if_pos g1]; simp only [a1]
        · rw [if_neg g1, if_neg g1]
          by_cases g2 : j < 16
          · rw [if_pos g2, if_pos g2]
          · rw [if_neg g2, if_neg g2]
            by_cases g3 : j < 24
            · have a2 : (j - 16 < i + 1) = (j - 16 < i) := by apply propext; omega
              rw [if_pos g3, if_pos g3]; simp only [a2]
            · rw [if_neg g3, if_neg g3]
              by_cases g4 : j < 32
              · have a3 : (j - 24 < i + 1) = (j - 24 < i) := by apply propext; omega
                rw [if_pos g4, if_pos g4]; simp only [a3]
              · rw [if_neg g4, if_neg g4]
theorem crn_ok {n : Nat} {R L f : Nat → Int32} {c k len : Nat} (h : ∀ k, k < len → ∃ r, r < 9 ∧ R (6 * c + k) = nI r) (hL : L c = nI len) (h6 : len ≤ 6) (hk : k < len) : ∃ r, r < 9 ∧ crn R L f c k = nI r := by
  unfold crn
  rw [hL, cl (by omega)]
  split
  · exact h (len - 1 - k) (by omega)
  · exact h k hk
theorem crn_stp {n : Nat} {R L f : Nat → Int32} {c k : Nat} (hc : c < 8) : crn R L (stp n R L f) c k = crn R L f c k := by
  unfold crn
  rw [stp_o (by omega), pst_32 (by omega)]
theorem dg_stp {n : Nat} {R L f : Nat → Int32} {c k : Nat} (hc : c < 8) : dg R L (stp n R L f) c k = dg R L f c k := by
  unfold dg
  rw [crn_stp hc]
theorem neg_lead {x : Int32} {n : Nat} {c : Nat} (hn : n ≤ 8) (h : x = -1 ∨ ∃ d, d < n ∧ d ≠ c ∧ x = nI d) : (x < 0 ↔ x = -1) := by
  rcases h with rfl | ⟨d, h1, h3, rfl⟩
  · exact ⟨fun _ => rfl, fun _ => m1_lt⟩
  · exact ⟨fun q => absurd q (nI_nlt0 (by omega)), fun q => absurd q (nI_m1 (by omega))⟩
theorem ncor_ok {n : Nat} {R L f : Nat → Int32} (hw : WF n R L f) {c : Nat} (hc : c < n) : ∃ k, k < 9 ∧ ncor R L f c = nI k := by
  obtain ⟨hn, w1, w2, w3, w4⟩ := hw
  obtain ⟨len, nx, h1, h6, hx, hL, hf, hR⟩ := w3 c hc
  unfold ncor
  by_cases h : f (8 + c) < 0
  · rw [if_pos h, hf, cl (by omega)]
    exact crn_ok (n := n) hR hL h6 hx
  · rw [if_neg h]
    rcases w2 c hc with q | ⟨d, q1, q2, q3⟩
    · exact absurd (by rw [q]; exact m1_lt) h
    · rw [q3, cl (by omega)]
      exact w1 d q1
theorem WF_stp {n : Nat} {R L f : Nat → Int32} (hw : WF n R L f) : WF n R L (stp n R L f) := by
  have hw0 := hw
  obtain ⟨hn, w1, w2, w3, w4⟩ := hw
  refine ⟨hn, fun c hc => ?_, fun c hc => ?_, fun c hc => ?_, fun c hc => ?_⟩
  · rw [stp_o (by omega), pst_c (by omega), if_pos hc]
    exact ncor_ok hw0 hc
  · rw [stp_o (by omega), pst_8 (by omega)]
    exact w2 c hc
  · obtain ⟨len, nx, h1, h6, hx, hL, hf, hR⟩ := w3 c hc
    rw [stp_o (by omega), pst_16 (by omega)]
    by_cases h : c < n ∧ f (8 + c) < 0
    · refine ⟨len, (nx + 1) % len, h1, h6, Nat.mod_lt _ (by omega), hL, ?_, hR⟩
      rw [if_pos h]
      unfold nnxt
      rw [hf, hL, cl (by omega), cl (by omega)]
    · exact ⟨len, nx, h1, h6, hx, hL, by rw [if_neg h]; exact hf, hR⟩
  · rw [stp_o (by omega), pst_32 (by omega)]
    exact w4 c hc
/-! the class's scene at b against a vector -/
def SR (n : Nat) (R L f : Nat → Int32) (M : Mem) (b : Nat) : Prop := M b 0 = nI n ∧ M b 1 = f 40 ∧ ∀ c, c < n → M (b + 1) c = f c ∧ M (b + 2) c = f (8 + c) ∧ M (b + 3) c = nI (rnum (dg R L f c) (L c).toNatClampNeg) ∧ M (b + 4) c = f (16 + c) ∧ M (b + 5) c = f (24 + c)
theorem dg_in {R L f : Nat → Int32} {c k len : Nat} (h : ∀ k, k < len → ∃ r, r < 9 ∧ R (6 * c + k) = nI r) (hL : L c = nI len) (h6 : len ≤ 6) (hk : k < len) : 1 ≤ dg R L f c k ∧ dg R L f c k ≤ 9 := by
  obtain ⟨r, h1, h2⟩ := crn_ok (n := 0) (f := f) h hL h6 hk
  unfold dg
  rw [h2, cl (by omega)]
  omega
theorem sp_goRound {Q : Int32 → Mem → Prop} {b n c : Nat} {R L f : Nat → Int32} {M : Mem} (hw : WF n R L f) (hc : c < n) (h3 : M (b + 3) c = nI (rnum (dg R L f c) (L c).toNatClampNeg)) (h4 : M (b + 4) c = f (16 + c)) (hq : ∀ M', M' = up M (b + 4) c (nnxt L f c) → Q (crn R L f c (f (16 + c)).toNatClampNeg) M') : wp_X7_goRound Q b (nI c) M := by
  obtain ⟨hn, w1, w2, w3, w4⟩ := hw
  obtain ⟨len, nx, h1, h6, hx, hL, hf, hR⟩ := w3 c hc
  have hd : ∀ k, k < len → 1 ≤ dg R L f c k ∧ dg R L f c k ≤ 9 := fun k hk => dg_in hR hL h6 hk
  have hin : vp_in (nI c) 8 := inb (by omega) (by omega)
  unfold wp_X7_goRound bd_X7_goRound
  rw [hL, cl (by omega)] at h3
  simp only [cl (show c < 1000000 by omega)]
  rw [h3]
  have hlt := rnum_1e6 (d := dg R L f c) h6 (fun k hk => (hd k hk).2)
  have en := ndg_rnum (d := dg R L f c) h1 h6 (hd 0 (by omega)).1 (fun k hk => (hd k hk).2)
  refine ⟨hin, sp_count hlt ?_⟩
  rw [en]
  refine ⟨hin, hin, ?_⟩
  rw [h3, h4, hf]
  refine sp_at hlt (by rw [en]; exact hx) ?_
  rw [dgt_rnum h1 h6 (hd 0 (by omega)).1 (fun k hk => (hd k hk).2) hx, h4, hf]
  refine ⟨hin, fun _ => trivial, fun _ => ⟨hin, trivial⟩, hin, ?_⟩
  intro M9 e9
  have e1 : nI (dg R L f c nx) - 1 = crn R L f c nx := by
    obtain ⟨r, r1, r2⟩ := crn_ok (n := 0) (f := f) hR hL h6 hx
    unfold dg
    rw [r2, cl (by omega), nI_pred]
  rw [e1]
  have e2 : (if nI len ≤ nI nx + 1 then (0 : Int32) else nI nx + 1) = nnxt L f c := by
    unfold nnxt
    rw [hf, hL, cl (by omega), cl (by omega), nI_1]
    by_cases h : len ≤ nx + 1
    · have e : nx + 1 = len := by omega
      rw [if_pos ((leN (by omega) (by omega)).mpr h), e, Nat.mod_self]; rfl
    · rw [if_neg (fun q => h ((leN (by omega) (by omega)).mp q)), Nat.mod_eq_of_lt (by omega)]
  rw [e2] at e9
  have h := hq M9 e9
  rw [hf, cl (by omega)] at h
  exact h
