/-- a figure stands at p; the place behind the figures from p on; the value of k figures from s on -/
def fgl (t : Nat → Int32) (tl p : Nat) : Bool := decide (p < tl ∧ nI 48 ≤ t p ∧ t p ≤ nI 57)
def feb (t : Nat → Int32) (tl : Nat) : Nat → Nat → Nat
  | 0, p => p
  | m + 1, p => if fgl t tl p = true then feb t tl m (p + 1) else p
def fe (t : Nat → Int32) (tl p : Nat) : Nat := feb t tl (tl - p) p
def vlf (t : Nat → Int32) (s : Nat) : Nat → Nat
  | 0 => 0
  | k + 1 => vlf t s k * 10 + ((t (s + k)).toNatClampNeg - 48)
theorem fgl_lt {t : Nat → Int32} {tl p : Nat} (h : fgl t tl p = true) : p < tl := (of_decide_eq_true h).1
theorem fe_yes {t : Nat → Int32} {tl p : Nat} (e : fgl t tl p = true) : fe t tl p = fe t tl (p + 1) := by
  have h := fgl_lt e
  unfold fe
  rw [show tl - p = (tl - (p + 1)) + 1 by omega]
  show (if fgl t tl p = true then feb t tl (tl - (p + 1)) (p + 1) else p) = _
  rw [if_pos e]
theorem fe_no {t : Nat → Int32} {tl p : Nat} (e : fgl t tl p = false) : fe t tl p = p := by
  unfold fe
  cases em : tl - p with
  | zero => rfl
  | succ m =>
    show (if fgl t tl p = true then feb t tl m (p + 1) else p) = _
    rw [e, if_neg (by decide)]
theorem fgl_val {t : Nat → Int32} {tl p : Nat} (e : fgl t tl p = true) : ∃ d, 48 ≤ d ∧ d ≤ 57 ∧ t p = nI d := by
  obtain ⟨_, h1, h2⟩ := of_decide_eq_true e
  rcases rg1 (t p) (l := 48) (m := 57) (by decide) (by decide) with w | w
  · exact w
  · exact absurd ⟨h1, h2⟩ w
theorem vlf_lt {t : Nat → Int32} {tl s : Nat} : ∀ k, (∀ j, j < k → fgl t tl (s + j) = true) → vlf t s k < 10 ^ k
  | 0, _ => Nat.zero_lt_one
  | k + 1, h => by
    have h1 := vlf_lt k (fun j hj => h j (by omega))
    obtain ⟨d, d1, d2, d3⟩ := fgl_val (h k (by omega))
    show vlf t s k * 10 + ((t (s + k)).toNatClampNeg - 48) < 10 ^ (k + 1)
    rw [d3, cl (by omega), Nat.pow_succ]
    omega
theorem sp_isFigure {Q : Int32 → Mem → Prop} {p tl : Nat} {t : Nat → Int32} {M : Mem} (hp : p < 1000) (htl : tl ≤ 240) (h1 : M 1 1 = nI tl) (h2 : M 3 6 = nI p) (h3 : ∀ i, i < tl → M 2 i = t i) (hy : fgl t tl p = true → Q 1 M) (hn : fgl t tl p = false → Q 0 M) : wp_X6_isFigure Q M := by
  unfold wp_X6_isFigure bd_X6_isFigure
  refine sp_letter (t := t) hp htl h1 h2 h3 ?_
  unfold lt
  by_cases y : p < tl
  · rw [if_pos y]
    refine ⟨fun z => hn (decide_eq_false (fun w => absurd z (nlt.mpr w.2.1))), fun z => ?_⟩
    by_cases x : (57 : Int32) < t p
    · rw [if_pos x]
      exact ⟨Or.inl rfl, hn (decide_eq_false (fun w => absurd x (nlt.mpr w.2.2)))⟩
    · rw [if_neg x]
      exact ⟨Or.inr rfl, hy (decide_eq_true ⟨y, nlt.mp z, nlt.mp x⟩)⟩
  · rw [if_neg y]
    exact ⟨fun _ => hn (decide_eq_false (fun w => y w.1)), fun z => absurd (by decide) z⟩
def pnc (t : Nat → Int32) (tl : Nat) (a1 a2 : Int32) (p : Nat) : Nat := if fgl t tl (sk t tl p) = true then (if 6 < fe t tl (sk t tl p) - sk t tl p then 2 else if a1 ≤ nI (vlf t (sk t tl p) (fe t tl (sk t tl p) - sk t tl p)) ∧ nI (vlf t (sk t tl p) (fe t tl (sk t tl p) - sk t tl p)) ≤ a2 then 0 else 2) else 1
theorem sp_blame {Q : Mem → Prop} {a1 a2 : Int32} {M : Mem} (h0 : M 3 3 = 0) (hq : ∀ M', M' 3 3 = a1 → M' 3 4 = a2 → (∀ k, k ≠ 3 → k ≠ 4 → M' 3 k = M 3 k) → (∀ a, a ≠ 3 → M' a = M a) → Q M') : wp_X6_blame Q a1 a2 M := by
  unfold wp_X6_blame bd_X6_blame
  refine ⟨fun _ M1 e1 M2 e2 => ?_, fun z => absurd h0 z⟩
  refine hq M2 ?_ ?_ (fun k k1 k2 => ?_) (fun a ha => ?_)
  · rw [e2, up_sn (by decide), e1, up_ss]
  · rw [e2, up_ss]
  · rw [e2, up_sn k2, e1, up_sn k1]
  · rw [e2, up_o ha, e1, up_o ha]
