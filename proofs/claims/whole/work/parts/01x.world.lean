abbrev Mem : Type := Nat → Nat → Int32
def up (M : Mem) (k i : Nat) (v : Int32) : Mem := fun a => if a = k then upd (M k) i v else M a
theorem up_s (M : Mem) (k i : Nat) (v : Int32) : up M k i v k = upd (M k) i v := if_pos rfl
theorem up_o {M : Mem} {k i a : Nat} {v : Int32} (h : a ≠ k) : up M k i v a = M a := if_neg h
/-- one row of the memory put anew -/
def upr (M : Mem) (k : Nat) (f : Nat → Int32) : Mem := fun a => if a = k then f else M a
theorem upr_s (M : Mem) (k : Nat) (f : Nat → Int32) : upr M k f k = f := if_pos rfl
theorem upr_o {M : Mem} {k a : Nat} {f : Nat → Int32} (h : a ≠ k) : upr M k f a = M a := if_neg h
/-- the classes, the addresses of the 233 cells, the classes of arrays, the table -/
abbrev Wx : Type := va_G × (Nat → Nat) × ClassId × ClassId × ClassId × ClassId × Nat
def ty4 (w : Wx) : List (ClassId × FieldType) := [(w.2.2.1, .int), (w.2.2.2.1, .boolean), (w.2.2.2.2.1, .object "FollowCab$Scene"), (w.2.2.2.2.2.1, .array .int)]
def kdL : List Nat := [8, 7, 10, 5, 6, 10, 10, 10, 10, 10, 10, 6, 10, 10, 10, 10, 10, 10, 6, 10, 10, 10, 10, 10, 10, 3, 12, 6, 10, 10, 10, 10, 10, 10, 6, 10, 10, 10, 10, 10, 10, 6, 10, 10, 10, 10, 10, 10, 6, 10, 10, 10, 10, 10, 10, 6, 10, 10, 10, 10, 10, 10, 6, 10, 10, 10, 10, 10, 10, 6, 10, 10, 10, 10, 10, 10, 6, 10, 10, 10, 10, 10, 10, 6, 10, 10, 10, 10, 10, 10, 6, 10, 10, 10, 10, 10, 10, 6, 10, 10, 10, 10, 10, 10, 6, 10, 10, 10, 10, 10, 10, 6, 10, 10, 10, 10, 10, 10, 6, 10, 10, 10, 10, 10, 10, 6, 10, 10, 10, 10, 10, 10, 6, 10, 10, 10, 10, 10, 10, 6, 10, 10, 10, 10, 10, 10, 6, 10, 10, 10, 10, 10, 10, 6, 10, 10, 10, 10, 10, 10, 6, 10, 10, 10, 10, 10, 10, 4, 12, 10, 11, 6, 10, 10, 10, 10, 10, 10, 6, 10, 10, 10, 10, 10, 10, 1, 10, 10, 10, 1, 10, 10, 10, 2, 13, 10, 10, 10, 10, 10, 10, 10, 10, 6, 10, 10, 10, 10, 10, 10, 0, 9, 10, 10, 10, 10, 10, 10, 10, 10, 10, 10, 10, 10, 10, 10, 10, 10, 10, 10, 10, 10, 11]
def lnL : List Nat := [0, 0, 240, 0, 0, 8, 8, 8, 8, 8, 8, 0, 8, 8, 8, 8, 8, 8, 0, 8, 8, 8, 8, 8, 8, 0, 20, 0, 8, 8, 8, 8, 8, 8, 0, 8, 8, 8, 8, 8, 8, 0, 8, 8, 8, 8, 8, 8, 0, 8, 8, 8, 8, 8, 8, 0, 8, 8, 8, 8, 8, 8, 0, 8, 8, 8, 8, 8, 8, 0, 8, 8, 8, 8, 8, 8, 0, 8, 8, 8, 8, 8, 8, 0, 8, 8, 8, 8, 8, 8, 0, 8, 8, 8, 8, 8, 8, 0, 8, 8, 8, 8, 8, 8, 0, 8, 8, 8, 8, 8, 8, 0, 8, 8, 8, 8, 8, 8, 0, 8, 8, 8, 8, 8, 8, 0, 8, 8, 8, 8, 8, 8, 0, 8, 8, 8, 8, 8, 8, 0, 8, 8, 8, 8, 8, 8, 0, 8, 8, 8, 8, 8, 8, 0, 8, 8, 8, 8, 8, 8, 0, 8, 8, 8, 8, 8, 8, 0, 2, 2, 2, 0, 8, 8, 8, 8, 8, 8, 0, 8, 8, 8, 8, 8, 8, 0, 6, 6, 6, 0, 15, 15, 15, 0, 8, 31, 31, 31, 31, 31, 31, 31, 31, 0, 8, 8, 8, 8, 8, 8, 0, 0, 48, 8, 41, 240, 2, 8, 48, 8, 8, 8, 820, 41, 6, 6, 6, 31, 279, 15, 15, 84, 2]
def kd (k : Nat) : Nat := kdL.getD k 99
def ln (k : Nat) : Nat := lnL.getD k 0
/-- what a place of an array of references names -/
def ra (k i : Nat) : Nat := if k = 26 then 27 + 7 * i else if k = 168 then 171 + 7 * i else 195 + i
def enr (w : Wx) (d k : Nat) (f : Nat → Int32) : va_E := match d with
  | 0 => .inr (0, [.int (f 0)])
  | 1 => .inr (1, [.int (f 0), .ref (w.2.1 (k+1)), .ref (w.2.1 (k+2)), .ref (w.2.1 (k+3)), .int (f 4)])
  | 2 => .inr (2, [.ref (w.2.1 194), .ref (w.2.1 203), .int (f 2)])
  | 3 => .inr (3, [.ref (w.2.1 26), .int (f 1), .int (f 2)])
  | 4 => .inr (4, [.ref (w.2.1 168), .ref (w.2.1 169), .ref (w.2.1 170)])
  | 5 => .inr (5, [.ref (w.2.1 4), .int (f 1), .int (f 2), .int (f 3), .int (f 4), .ref (w.2.1 1), .int (f 6), .int (f 7)])
  | 6 => .inr (6, [.int (f 0), .int (f 1), .ref (w.2.1 (k+1)), .ref (w.2.1 (k+2)), .ref (w.2.1 (k+3)), .ref (w.2.1 (k+4)), .ref (w.2.1 (k+5)), .ref (w.2.1 (k+6))])
  | 7 => .inr (7, [.ref (w.2.1 2), .int (f 1)])
  | 8 => .inr (8, [.ref (w.2.1 1), .ref (w.2.1 3), .ref (w.2.1 11), .ref (w.2.1 18), .ref (w.2.1 25), .ref (w.2.1 167), .ref (w.2.1 185), .ref (w.2.1 189), .ref (w.2.1 193), .ref (w.2.1 210), .int (f 10), .int (f 11), .int (f 12)])
  | 9 => .inr (9, [.int (f 0), .int (f 1), .int (f 2), .ref (w.2.1 212), .ref (w.2.1 213), .ref (w.2.1 214), .int (f 6), .ref (w.2.1 215), .int (f 8), .int (f 9), .int (f 10), .int (f 11), .int (f 12), .ref (w.2.1 216), .int (f 14), .ref (w.2.1 217), .ref (w.2.1 218), .ref (w.2.1 219), .ref (w.2.1 220), .ref (w.2.1 221), .int (f 20), .ref (w.2.1 222), .ref (w.2.1 223), .int (f 23), .ref (w.2.1 224), .ref (w.2.1 225), .ref (w.2.1 226), .ref (w.2.1 227), .ref (w.2.1 228), .int (f 29), .ref (w.2.1 229), .ref (w.2.1 230), .ref (w.2.1 231), .ref (w.2.1 232)])
  | 10 => .inl (w.2.2.1, ln k, .inl f)
  | 11 => .inl (w.2.2.2.1, ln k, .inl f)
  | 12 => .inl (w.2.2.2.2.1, ln k, .inr (.inr (.inr (.inr (fun i => some (w.2.1 (ra k i)))))))
  | _ => .inl (w.2.2.2.2.2.1, ln k, .inr (.inr (.inr (.inr (fun i => some (w.2.1 (ra k i)))))))
def en (w : Wx) (M : Mem) (k : Nat) : va_E := enr w (kd k) k (M k)
theorem en_c {w : Wx} {M M' : Mem} {k : Nat} (h : M' k = M k) : en w M' k = en w M k := by unfold en; rw [h]
theorem en_k {w : Wx} {M : Mem} {k d : Nat} (h : kd k = d) : en w M k = enr w d k (M k) := by unfold en; rw [h]
def wl (w : Wx) (M : Mem) : va_W := (List.range 233).map (fun k => (w.2.1 k, en w M k))
theorem wl_get (w : Wx) (M : Mem) {k : Nat} (h : k < 233) : (wl w M)[k]? = some (w.2.1 k, en w M k) := by
  unfold wl
  rw [List.getElem?_map, List.getElem?_range h]
  rfl
theorem wl_of (w : Wx) (M : Mem) {k : Nat} {q : Nat × va_E} (h : (wl w M)[k]? = some q) : k < 233 ∧ q = (w.2.1 k, en w M k) := by
  have hl : k < 233 := by
    have h1 := (List.getElem?_eq_some_iff.mp h).1
    unfold wl at h1
    rwa [List.length_map, List.length_range] at h1
  rw [wl_get w M hl] at h
  exact ⟨hl, (Option.some.inj h).symm⟩
theorem wl_at {w : Wx} {M : Mem} {k d : Nat} {e : va_E} (h : k < 233) (hd : kd k = d) (he : enr w d k (M k) = e) : (wl w M)[k]? = some (w.2.1 k, e) := by rw [wl_get w M h, en_k hd, he]
theorem wl_set {w : Wx} {M M' : Mem} {k : Nat} {e : va_E} (h : k < 233) (he : en w M' k = e) (ho : ∀ j, j ≠ k → M' j = M j) : (wl w M).set k (w.2.1 k, e) = wl w M' := by
  apply List.ext_getElem?
  intro j
  rw [List.getElem?_set]
  by_cases hj : k = j
  · subst hj
    rw [if_pos rfl, wl_get w M' h, he, if_pos]
    unfold wl
    rw [List.length_map, List.length_range]
    exact h
  · rw [if_neg hj]
    by_cases hl : j < 233
    · rw [wl_get w M hl, wl_get w M' hl, en_c (ho j (fun e => hj e.symm))]
    · rw [List.getElem?_eq_none, List.getElem?_eq_none] <;> (unfold wl; rw [List.length_map, List.length_range]; omega)
def AA (w : Wx) : Nat → Prop := fun q => ∃ k, k < 233 ∧ q = w.2.1 k
/-- the table TENS -/
def tens (j : Nat) : Int32 := if j = 0 then 1 else if j = 1 then 10 else if j = 2 then 100 else if j = 3 then 1000 else if j = 4 then 10000 else 100000
/-- what is known of a state beside the cells -/
def Cy (w : Wx) (U : State) (H : Heap) : Prop := va_K w.1 vwCl (ty4 w) U ∧ (∀ i j, i < 233 → j < 233 → w.2.1 i = w.2.1 j → i = j) ∧ va_Z "FollowCab" "TENS" "[I" (.ref w.2.2.2.2.2.2) (AA w) U H ∧ va_T .int w.2.2.2.2.2.2 6 (fun j => .int (tens j)) (AA w) U H ∧ ∀ x ∈ nws, va_Nw x U
theorem Cy.D {w : Wx} {U : State} {H : Heap} (h : Cy w U H) (M : Mem) : va_D (AA w) (wl w M) := by
  refine ⟨fun i j p q hp hq e => ?_, fun k q hq => ?_⟩
  · obtain ⟨h1, rfl⟩ := wl_of w M hp
    obtain ⟨h2, rfl⟩ := wl_of w M hq
    exact h.2.1 i j h1 h2 e
  · obtain ⟨h1, rfl⟩ := wl_of w M hq
    exact ⟨k, h1, rfl⟩
theorem nws_kind : ∀ x ∈ nws, (∃ a i y h, x = Cond.methodLinkNest a i y h) ∨ ∃ a i b n d h, x = Cond.fieldLinkNest a i b n d h := by
  intro x hx
  have h := (List.mem_filter.mp hx).2
  split at h
  · exact Or.inl ⟨_, _, _, _, rfl⟩
  · exact Or.inr ⟨_, _, _, _, _, _, rfl⟩
  · cases h
theorem Cy.to {w : Wx} {s U : State} {H H1 : Heap} (h : Cy w s H) (hW : s.WarmedH U.vm) (hq : ∀ a : Nat, a < H.size → ¬ AA w a → H1[a]? = H[a]?) : Cy w U H1 := by
  obtain ⟨h1, h2, h3, h4, h5⟩ := h
  refine ⟨va_K.moved hW.alike h1, h2, (va_Z.moved hW.alike h3).kept hq, (va_T.moved hW.alike h4).kept hq, fun x hx => ?_⟩
  rcases nws_kind x hx with ⟨a, i, y, b, rfl⟩ | ⟨a, i, b, n, d, c, rfl⟩
  · exact va_Nw.warmM hW (h5 _ hx)
  · exact va_Nw.warmF hW (h5 _ hx)
def PB (w : Wx) (M : Mem) (U : State) : Prop := va_P w.1 vwCl (wl w M) U.heap ∧ Cy w U U.heap
theorem PB_blind {w : Wx} {M : Mem} {av : List Value} : FrameBlind (va_Pc av (PB w M)) := by
  intro a U g mk q
  obtain ⟨q0, qP, q1, q2, q3, q4, q5⟩ := q
  refine ⟨q0, qP, va_K.moved (u := U) (U := U.calling g mk a) (Vm.Alike.refl U.vm) q1, q2, va_Z.moved (u := U) (U := U.calling g mk a) (Vm.Alike.refl U.vm) q3, va_T.moved (u := U) (U := U.calling g mk a) (Vm.Alike.refl U.vm) q4, fun x hx => ?_⟩
  have h5 := q5 x hx
  rcases nws_kind x hx with ⟨a1, i, y, b, rfl⟩ | ⟨a1, i, b, n, d, c, rfl⟩
  · exact va_Nw.same rfl (u := U) (U := U.calling g mk a) rfl h5
  · exact va_Nw.same rfl (u := U) (U := U.calling g mk a) rfl h5
def CtI (w : Wx) (l : Launch) (y : MethodName) (cc : ByteArray) (mL : Nat) (ret : Option FieldType) (fr lo : Nat) (av : List Value) (M : Mem) (Q : Int32 → Mem → Prop) : Prop := Met l y (Cond.code y cc mL ret :: lwg) ({ frames := fr, cells := 0, slots := 0, locals := lo } : Room) (va_Pc av (PB w M)) (va_Qi Q (fun u t => va_P w.1 vwCl (wl w u) t.heap) (AA w)) 0 0 (AA w)
def CtV (w : Wx) (l : Launch) (y : MethodName) (cc : ByteArray) (mL : Nat) (ret : Option FieldType) (fr lo : Nat) (av : List Value) (M : Mem) (Q : Mem → Prop) : Prop := Met l y (Cond.code y cc mL ret :: lwg) ({ frames := fr, cells := 0, slots := 0, locals := lo } : Room) (va_Pc av (PB w M)) (va_Qv Q (fun u t => va_P w.1 vwCl (wl w u) t.heap) (AA w)) 0 0 (AA w)
/-- where a method's body runs: program, launch, env, room, start, method, arguments, frames below, method, code, end, locals, cells, slots -/
abbrev Gx : Type := Program × Launch × Env × Room × State × MethodId × Array Value × List Frame × Method × Code × (State → Prop) × Nat × Nat × Nat
def V (w : Wx) (G : Gx) (pc : Nat) (lv : List (Nat × Value)) (st : List Value) (M : Mem) : Prop := match G with
  | (p, l, e, R, s, m, args, below, meth, c, Q, nL, cells, slots) => ∀ (H : Heap) (locs : List Loc) (ls : Array Slot), va_P w.1 vwCl (wl w M) H → va_S (AA w) s.heap H locs → lv_has ls nL lv → W p l e R s m args below meth c H locs cells slots Q (F0 m pc ls st)
def Cx (w : Wx) (G : Gx) (cc : ByteArray) (own : String) (fr lo nl : Nat) : Prop := match G with
  | (p, l, e, R, s, m, args, below, meth, c, Q, nL, cells, slots) => p.tables.exec = Jvm.exec ∧ c.code = cc ∧ c.maxLocals = nL ∧ s.vm.findClass own = some m.cls ∧ (∀ x ∈ lwg, x.before args s = true) ∧ Cy w s s.heap ∧ R.frames = fr ∧ R.locals = lo ∧ cells ≤ R.cells ∧ slots ≤ R.slots ∧ nL = nl
