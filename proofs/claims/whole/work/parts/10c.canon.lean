/-! the memory with which both begin; what a constructor's cells are while it runs -/
def M0 : Mem := fun a i => if a = 0 then (if i = 12 then -1 else 0) else if a = 3 then (if i = 4 then -1 else 0) else if a = 185 then (if i = 0 then 6 else 0) else if a = 189 then (if i = 0 then 15 else 0) else if a = 211 then (if i = 9 then -1 else 0) else 0
theorem m0z {a : Nat} (h0 : a ≠ 0) (h1 : a ≠ 3) (h2 : a ≠ 185) (h3 : a ≠ 189) (h4 : a ≠ 211) : M0 a = fun _ => 0 := by
  funext i
  unfold M0
  rw [if_neg h0, if_neg h1, if_neg h2, if_neg h3, if_neg h4]
def FE (w : Wx) (j : Nat) : va_E := en w M0 j
theorem fe_i {w : Wx} {j n : Nat} (hk : kd j = 10) (hl : ln j = n) (hz : M0 j = fun _ => 0) : FE w j = .inl (w.2.2.1, n, .inl (fun _ => 0)) := by
  unfold FE
  rw [en_k hk, hz, ← hl]
  rfl
theorem fe_z {w : Wx} {j n : Nat} (hk : kd j = 11) (hl : ln j = n) (hz : M0 j = fun _ => 0) : FE w j = .inl (w.2.2.2.1, n, .inl (fun _ => 0)) := by
  unfold FE
  rw [en_k hk, hz, ← hl]
  rfl
theorem fe_s {w : Wx} {j : Nat} (hk : kd j = 6) (hz : M0 j = fun _ => 0) : FE w j = .inr (6, [.int 0, .int 0, .ref (w.2.1 (j + 1)), .ref (w.2.1 (j + 2)), .ref (w.2.1 (j + 3)), .ref (w.2.1 (j + 4)), .ref (w.2.1 (j + 5)), .ref (w.2.1 (j + 6))]) := by
  unfold FE
  rw [en_k hk, hz]
  rfl
def cE (w : Wx) (b ci : Nat) (fs : List Value) (E0 : Nat → va_E) : Nat → va_E := fun j => if j = b then .inr (ci, fs) else if b < j then FE w j else E0 j
def mix (w : Wx) (b : Nat) (E0 : Nat → va_E) : Nat → va_E := fun j => if b ≤ j then FE w j else E0 j
section
variable {w : Wx} {b ci : Nat} {fs fs' : List Value} {E0 : Nat → va_E} {N : Nat} {e e0 : va_E}
theorem cE_b : cE w b ci fs E0 b = .inr (ci, fs) := if_pos rfl
theorem cE_gt {j : Nat} (h : b < j) : cE w b ci fs E0 j = FE w j := (if_neg (by omega)).trans (if_pos h)
theorem cE_lt {j : Nat} (h : j < b) : cE w b ci fs E0 j = E0 j := (if_neg (by omega)).trans (if_neg (by omega))
theorem cE_start (h : E0 b = .inr (ci, fs)) {j : Nat} (hj : j < b + 1) : cE w b ci fs E0 j = E0 j := by
  by_cases e : j = b
  · rw [e, h, cE_b]
  · exact cE_lt (by omega)
theorem cE_end (h : FE w b = .inr (ci, fs)) (j : Nat) : cE w b ci fs E0 j = mix w b E0 j := by
  unfold mix
  by_cases e : j = b
  · rw [e, cE_b, if_pos (Nat.le_refl _), h]
  · by_cases g : b < j
    · rw [cE_gt g, if_pos (by omega)]
    · rw [cE_lt (by omega), if_neg (by omega)]
theorem cE_put : upE (cE w b ci fs E0) b (.inr (ci, fs')) = cE w b ci fs' E0 := by
  funext j
  by_cases e : j = b
  · rw [e, upE_s, cE_b]
  · rw [upE_n e]
    by_cases g : b < j
    · rw [cE_gt g, cE_gt g]
    · rw [cE_lt (by omega), cE_lt (by omega)]
theorem cE_new (h : FE w N = e) (hb : b < N) : upE (cE w b ci fs E0) N e = cE w b ci fs E0 := by
  funext j
  by_cases g : j = N
  · rw [g, upE_s, cE_gt hb, h]
  · rw [upE_n g]
theorem cE_mix (hb : b < N) : mix w N (upE (cE w b ci fs E0) N e0) = cE w b ci fs E0 := by
  funext j
  unfold mix
  by_cases g : N ≤ j
  · rw [if_pos g, cE_gt (by omega)]
  · rw [if_neg g, upE_n (by omega)]
/-- with an array of scenes at a, i of its places filled -/
def qa (w : Wx) (a n i : Nat) : va_E := .inl (w.2.2.2.2.1, n, .inr (.inr (.inr (.inr (fun x => if x < i then some (w.2.1 (ra a x)) else none)))))
theorem qa_0 (a n : Nat) : qa w a n 0 = .inl (w.2.2.2.2.1, n, .inr (.inr (.inr (.inr (fun _ => none))))) := by
  unfold qa
  congr 5
theorem qa_s (a n i : Nat) : (.inl (w.2.2.2.2.1, n, .inr (.inr (.inr (.inr (va_up (fun x => if x < i then some (w.2.1 (ra a x)) else none) i (some (w.2.1 (ra a i)))))))) : va_E) = qa w a n (i + 1) := by
  unfold qa
  refine congrArg (fun z => (Sum.inl (w.2.2.2.2.1, n, Sum.inr (Sum.inr (Sum.inr (Sum.inr z)))) : va_E)) ?_
  funext x
  unfold va_up
  by_cases g : x = i
  · rw [if_pos g, if_pos (by omega), g]
  · rw [if_neg g]
    show (if x < i then some (w.2.1 (ra a x)) else none) = _
    by_cases h : x < i
    · rw [if_pos h, if_pos (by omega)]
    · rw [if_neg h, if_neg (by omega)]
def qE (w : Wx) (b ci : Nat) (fs : List Value) (a n i : Nat) (E0 : Nat → va_E) : Nat → va_E := upE (cE w b ci fs E0) a (qa w a n i)
theorem qE_b {a n i : Nat} (h : b ≠ a) : qE w b ci fs a n i E0 b = .inr (ci, fs) := (upE_n h).trans cE_b
theorem qE_a {a n i : Nat} : qE w b ci fs a n i E0 a = qa w a n i := upE_s _ _ _
theorem qE_put {a n i : Nat} (h : b ≠ a) : upE (qE w b ci fs a n i E0) b (.inr (ci, fs')) = qE w b ci fs' a n i E0 := by
  funext j
  unfold qE
  by_cases e : j = b
  · rw [e, upE_s, upE_n h, cE_b]
  · rw [upE_n e]
    by_cases g : j = a
    · rw [g, upE_s, upE_s]
    · rw [upE_n g, upE_n g, ← cE_put (fs' := fs'), upE_n e]
theorem qE_new {a n i : Nat} (h : FE w N = e) (hb : b < N) (ha : N ≠ a) : upE (qE w b ci fs a n i E0) N e = qE w b ci fs a n i E0 := by
  funext j
  by_cases g : j = N
  · rw [g, upE_s, ← h]
    unfold qE
    rw [upE_n ha, cE_gt hb]
  · rw [upE_n g]
theorem qE_mix {a n i : Nat} (hb : b < N) (ha : a < N) : mix w N (upE (qE w b ci fs a n i E0) N e0) = qE w b ci fs a n i E0 := by
  funext j
  unfold mix
  by_cases g : N ≤ j
  · rw [if_pos g]
    unfold qE
    rw [upE_n (by omega), cE_gt (by omega)]
  · rw [if_neg g, upE_n (by omega)]
theorem qE_st {a n i : Nat} {x : va_E} (h : x = qa w a n (i + 1)) : upE (qE w b ci fs a n i E0) a x = qE w b ci fs a n (i + 1) E0 := by
  funext j
  unfold qE
  by_cases g : j = a
  · rw [g, upE_s, upE_s, h]
  · rw [upE_n g, upE_n g, upE_n g]
theorem arrV_cong {c : ClassId} {n : Nat} {f g : Nat → Value} (h : ∀ j, j < n → f j = g j) : arrV c n f = arrV c n g := by
  unfold arrV
  congr 2
  funext j
  exact h j.val j.isLt
theorem qE_full {a n : Nat} {H : Heap} (hk : kd a = 12) (hl : ln a = n) (ha : a < N) (hab : b < a) (hP : va_P w.1 vwCl (glw w (qE w b ci fs a n n E0) N) H) : va_P w.1 vwCl (glw w (cE w b ci fs E0) N) H := by
  intro k q hq
  obtain ⟨h1, rfl⟩ := glw_of hq
  have h2 := hP k _ (glw_get w _ h1)
  by_cases g : k = a
  · rw [g, cE_gt hab]
    rw [g, qE_a] at h2
    unfold FE
    rw [en_k hk]
    have h3 : H[w.2.1 a]? = some (arrV w.2.2.2.2.1 n (fun x => va_rf (if x < n then some (w.2.1 (ra a x)) else none))) := h2
    show H[w.2.1 a]? = some (arrV w.2.2.2.2.1 (ln a) (fun x => va_rf (some (w.2.1 (ra a x)))))
    rw [h3, hl]
    congr 1
    exact arrV_cong (fun j hj => by rw [if_pos hj])
  · have h3 : qE w b ci fs a n n E0 k = cE w b ci fs E0 k := upE_n g
    rw [h3] at h2
    exact h2
end
section
variable {w : Wx} {ba : Nat} {G : Gx} {cc : ByteArray} {own : String} {fr lo nl rc rs pc : Nat} {lv : List (Nat × Value)} {st : List Value} {E : Nat → va_E} {N cs sl : Nat}
theorem VG.imp {E' : Nat → va_E} (h : ∀ H, va_P w.1 vwCl (glw w E N) H → va_P w.1 vwCl (glw w E' N) H) (k : VG w ba G pc lv st E' N cs sl) : VG w ba G pc lv st E N cs sl := by
  obtain ⟨p, l, e, R, s, m, args, below, meth, c, Q, nL, cells, slots⟩ := G
  intro H locs ls hz hP hS hl
  exact k H locs ls hz (h H hP) hS hl
end
