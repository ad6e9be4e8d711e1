/-! the clause of a car: its code, its place; the class -/
def fgb (t : Nat → Int32) (nc s k : Nat) : Bool := decide (∀ j, j < k → 1 ≤ (t (s + j)).toNatClampNeg - 48 ∧ (t (s + j)).toNatClampNeg - 48 ≤ nc)
def crd (t : Nat → Int32) (tl nc q : Nat) : Nat := if pnc t tl 0 999999 q = 0 then (if fgb t nc (sk t tl q) (ne t tl q - sk t tl q) = true then 0 else 2) else pnc t tl 0 999999 q
def crc (t : Nat → Int32) (tl nc p : Nat) : Nat := if pnc t tl 0 (nI nc - 1) p = 0 then crd t tl nc (ne t tl p) else pnc t tl 0 (nI nc - 1) p
def crp (t : Nat → Int32) (tl nc p : Nat) : Nat := if pnc t tl 0 (nI nc - 1) p = 0 then sk t tl (ne t tl p) else sk t tl p
theorem pnc_fig {t : Nat → Int32} {tl p : Nat} {a1 a2 : Int32} (h : pnc t tl a1 a2 p = 0) : 1 ≤ ne t tl p - sk t tl p ∧ ne t tl p - sk t tl p ≤ 6 ∧ ∀ j, j < ne t tl p - sk t tl p → fgl t tl (sk t tl p + j) = true := by
  obtain ⟨_, _, h3, h4⟩ := pnc_v h
  have g := fe_ge (t := t) (tl := tl) (p := sk t tl p + 1)
  rw [← fe_yes h3] at g
  unfold ne at h4 ⊢
  refine ⟨by omega, h4, fun j hj => ?_⟩
  exact fe_all (s := sk t tl p) (tl - sk t tl p) (sk t tl p) rfl (fun i i1 i2 => absurd i2 (by omega)) _ (by omega) (by omega)
theorem pnc10 {t : Nat → Int32} {tl p : Nat} : pnc t tl 1 999999 p = if pnc t tl 0 999999 p = 0 then (if nv t tl p = 0 then 2 else 0) else pnc t tl 0 999999 p := by
  unfold pnc nv
  cases w : fgl t tl (sk t tl p)
  · rw [if_neg (show ¬ (false = true) from by decide), if_neg (show ¬ (false = true) from by decide), if_neg (by decide)]
  · rw [if_pos (show true = true from rfl), if_pos (show true = true from rfl)]
    by_cases y : 6 < fe t tl (sk t tl p) - sk t tl p
    · rw [if_pos y, if_pos y, if_neg (by decide)]
    · rw [if_neg y, if_neg y]
      have v6 : vlf t (sk t tl p) (fe t tl (sk t tl p) - sk t tl p) < 1000000 := by
        refine vlf_6 (tl := tl) (by omega) (fun j hj => ?_)
        exact fe_all (s := sk t tl p) (tl - sk t tl p) (sk t tl p) rfl (fun i i1 i2 => absurd i2 (by omega)) _ (by omega) (by omega)
      generalize vlf t (sk t tl p) (fe t tl (sk t tl p) - sk t tl p) = v at v6
      have m : nI v ≤ (999999 : Int32) := by
        rw [leI, show (999999 : Int32).toInt = 999999 from by decide, nI_toInt (by omega)]
        omega
      rw [if_pos (show (0 : Int32) ≤ nI v ∧ nI v ≤ 999999 from ⟨nI_ge0 v6, m⟩), if_pos rfl]
      by_cases x : v = 0
      · rw [if_pos x, if_neg]
        intro z
        rw [x] at z
        exact absurd z.1 (by decide)
      · rw [if_neg x, if_pos]
        refine ⟨?_, m⟩
        rw [l1, leN (by decide) v6]
        omega
theorem fgb_of {t : Nat → Int32} {nc s k : Nat} (h : fgb t nc s k = true) {j : Nat} (hj : j < k) : 1 ≤ (t (s + j)).toNatClampNeg - 48 ∧ (t (s + j)).toNatClampNeg - 48 ≤ nc := of_decide_eq_true h j hj
theorem fgb_pos {t : Nat → Int32} {nc s k : Nat} (h : fgb t nc s k = true) (hk : 1 ≤ k) : 1 ≤ vlf t s k := by
  obtain ⟨m, rfl⟩ : ∃ m, k = m + 1 := ⟨k - 1, by omega⟩
  rw [vlf_rnum]
  have h0 := rnum_ge (d := fun j => (t (s + j)).toNatClampNeg - 48) (fgb_of h (j := 0) (by omega)).1 m
  have h1 : 1 ≤ 10 ^ m := Nat.pow_pos (by decide)
  omega
theorem crd_1 {t : Nat → Int32} {tl nc q : Nat} (h : pnc t tl 1 999999 q ≠ 0) : crd t tl nc q = pnc t tl 1 999999 q := by
  rw [pnc10] at h
  unfold crd
  rw [pnc10]
  by_cases y : pnc t tl 0 999999 q = 0
  · rw [if_pos y] at h ⊢
    rw [if_pos y]
    by_cases x : nv t tl q = 0
    · rw [if_pos x, if_neg]
      intro z
      have := fgb_pos z (pnc_fig y).1
      have e : vlf t (sk t tl q) (ne t tl q - sk t tl q) = nv t tl q := rfl
      omega
    · rw [if_neg x] at h
      exact absurd rfl h
  · rw [if_neg y, if_neg y]
theorem crd_2 {t : Nat → Int32} {tl nc q : Nat} (h : pnc t tl 1 999999 q = 0) : crd t tl nc q = if fgb t nc (sk t tl q) (ne t tl q - sk t tl q) = true then 0 else 2 := by
  rw [pnc10] at h
  unfold crd
  by_cases y : pnc t tl 0 999999 q = 0
  · rw [if_pos y]
  · rw [if_neg y] at h
    exact absurd h y
theorem sp_isRound {Q : Int32 → Mem → Prop} {s k tl nc : Nat} {t : Nat → Int32} {M : Mem} (htl : tl ≤ 240) (h1 : M 1 1 = nI tl) (h3 : ∀ i, i < tl → M 2 i = t i) (h7 : M 3 7 = nI s) (hc : M 3 1 = nI nc) (hnc : nc ≤ 9) (hk : 1 ≤ k) (hk6 : k ≤ 6) (hf : ∀ j, j < k → fgl t tl (s + j) = true) (hy : fgb t nc s k = true → Q 1 M) (hn : fgb t nc s k = false → Q 0 M) : wp_X6_isRound Q (nI (vlf t s k)) M := by
  have hs : s < tl := fgl_lt (hf 0 (by omega))
  have hd : ∀ j, j < k → (t (s + j)).toNatClampNeg - 48 ≤ 9 := fun j hj => by
    obtain ⟨d, d1, d2, d3⟩ := fgl_val (hf j hj)
    rw [d3, cl (by omega)]
    omega
  unfold wp_X6_isRound bd_X6_isRound wp_X8_at bd_X8_at
  rw [h1, h7, cl (show s < 1000000 by omega)]
  refine ⟨fun z => absurd z (nI_nlt0 (by omega)), fun _ => ⟨fun _ => trivial, fun _ => ⟨inb (by omega) (by decide), trivial⟩, ?_⟩⟩
  rw [if_neg (fun z => absurd ((leN (by omega) (by omega)).mp z) (by omega)), h3 s hs]
  refine ⟨fun z => hn (decide_eq_false (fun w => ?_)), fun z => ?_⟩
  · have w0 := w 0 hk
    rw [show s + 0 = s from rfl, z] at w0
    exact absurd w0.1 (by decide)
  · have d0 : 1 ≤ (t (s + 0)).toNatClampNeg - 48 := by
      obtain ⟨d, d1, d2, d3⟩ := fgl_val (hf 0 (by omega))
      have e : t s = nI d := d3
      rw [e] at z
      rw [d3, cl (by omega)]
      have : d ≠ 48 := fun y => z (by rw [y]; rfl)
      omega
    have e1 : ndg (vlf t s k) = k := by
      rw [vlf_rnum]
      exact ndg_rnum hk hk6 d0 hd
    have e2 : ∀ j, j < k → dgt (vlf t s k) j = (t (s + j)).toNatClampNeg - 48 := fun j hj => by
      rw [vlf_rnum]
      exact dgt_rnum hk hk6 d0 hd hj
    rw [hc]
    refine sp_areAllUpTo (vlf_6 hk6 hf) hnc (fun w => ?_) (fun w => ?_)
    · rw [if_neg (by decide)]
      refine ⟨Or.inr rfl, hy (decide_eq_true (fun j hj => ?_))⟩
      have w1 := w j (by rw [e1]; exact hj)
      rw [e2 j hj] at w1
      exact w1
    · rw [if_pos rfl]
      refine ⟨Or.inl rfl, hn (decide_eq_false (fun y => w (fun j hj => ?_)))⟩
      rw [e1] at hj
      rw [e2 j hj]
      exact y j hj
theorem sp_addCar {Q : Mem → Prop} {n : Nat} {a1 a2 : Int32} {M : Mem} (hn : n < 8) (h0 : M 4 0 = nI n) (hq : ∀ M', M' 4 0 = nI (n + 1) → M' 4 1 = M 4 1 → M' 5 = upd (M 5) n a1 → M' 6 = upd (M 6) n (-1) → M' 7 = upd (M 7) n a2 → M' 8 = upd (M 8) n 0 → M' 9 = upd (M 9) n 0 → (∀ a, a < 4 ∨ 9 < a → M' a = M a) → Q M') : wp_X7_addCar Q 4 a1 a2 M := by
  unfold wp_X7_addCar bd_X7_addCar
  have v : vp_in (nI n) 8 := inb hn (by decide)
  rw [h0, show (8 : Int32) = nI 8 from rfl, leN (by decide) (by omega), cl (show n < 1000000 by omega)]
  refine ⟨fun z => absurd z (by omega), fun _ => ⟨v, fun M2 e2 => ?_⟩⟩
  have f2 : M2 4 0 = nI n := by rw [e2, up_o (by decide), h0]
  rw [f2, cl (show n < 1000000 by omega)]
  refine ⟨v, fun M4 e4 => ?_⟩
  have f4 : M4 4 0 = nI n := by rw [e4, up_o (by decide), f2]
  rw [f4, cl (show n < 1000000 by omega)]
  refine ⟨v, fun M6 e6 => ?_⟩
  have f6 : M6 4 0 = nI n := by rw [e6, up_o (by decide), f4]
  rw [f6, cl (show n < 1000000 by omega)]
  refine ⟨v, fun M8 e8 => ?_⟩
  have f8 : M8 4 0 = nI n := by rw [e8, up_o (by decide), f6]
  rw [f8, cl (show n < 1000000 by omega)]
  refine ⟨v, fun M10 e10 M11 e11 => ?_⟩
  have f10 : M10 4 0 = nI n := by rw [e10, up_o (by decide), f8]
  rw [f10, nI_1] at e11
  refine hq M11 ?_ ?_ ?_ ?_ ?_ ?_ ?_ (fun a ha => ?_)
  · rw [e11, up_ss]
  · rw [e11, up_sn (by decide), e10, up_o (by decide), e8, up_o (by decide), e6, up_o (by decide), e4, up_o (by decide), e2, up_o (by decide)]
  · rw [e11, up_o (by decide), e10, up_o (by decide), e8, up_o (by decide), e6, up_o (by decide), e4, up_o (by decide), e2]
    exact up_s M 5 n a1
  · rw [e11, up_o (by decide), e10, up_o (by decide), e8, up_o (by decide), e6, up_o (by decide), e4]
    show up M2 6 n (-1) 6 = _
    rw [up_s, e2, up_o (by decide)]
  · rw [e11, up_o (by decide), e10, up_o (by decide), e8, up_o (by decide), e6]
    show up M4 7 n a2 7 = _
    rw [up_s, e4, up_o (by decide), e2, up_o (by decide)]
  · rw [e11, up_o (by decide), e10, up_o (by decide), e8]
    show up M6 8 n 0 8 = _
    rw [up_s, e6, up_o (by decide), e4, up_o (by decide), e2, up_o (by decide)]
  · rw [e11, up_o (by decide), e10]
    show up M8 9 n 0 9 = _
    rw [up_s, e8, up_o (by decide), e6, up_o (by decide), e4, up_o (by decide), e2, up_o (by decide)]
  · rw [e11, up_o (by omega), e10, up_o (by omega), e8, up_o (by omega), e6, up_o (by omega), e4, up_o (by omega), e2, up_o (by omega)]
