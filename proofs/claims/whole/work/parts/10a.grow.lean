/-! the world that grows: N cells, the k-th at ba + k, with the entries E -/
def upE (E : Nat → va_E) (k : Nat) (e : va_E) : Nat → va_E := fun j => if j = k then e else E j
theorem upE_s (E : Nat → va_E) (k : Nat) (e : va_E) : upE E k e k = e := if_pos rfl
theorem upE_n {E : Nat → va_E} {k j : Nat} {e : va_E} (h : j ≠ k) : upE E k e j = E j := if_neg h
def glw (w : Wx) (E : Nat → va_E) (N : Nat) : va_W := (List.range N).map (fun k => (w.2.1 k, E k))
theorem glw_get (w : Wx) (E : Nat → va_E) {N k : Nat} (h : k < N) : (glw w E N)[k]? = some (w.2.1 k, E k) := by
  unfold glw
  rw [List.getElem?_map, List.getElem?_range h]
  rfl
theorem glw_len (w : Wx) (E : Nat → va_E) (N : Nat) : (glw w E N).length = N := by
  unfold glw
  rw [List.length_map, List.length_range]
theorem glw_of {w : Wx} {E : Nat → va_E} {N k : Nat} {q : Nat × va_E} (h : (glw w E N)[k]? = some q) : k < N ∧ q = (w.2.1 k, E k) := by
  have hl : k < N := by
    have h1 := (List.getElem?_eq_some_iff.mp h).1
    rwa [glw_len] at h1
  rw [glw_get w E hl] at h
  exact ⟨hl, (Option.some.inj h).symm⟩
theorem glw_set (w : Wx) (E : Nat → va_E) {N k : Nat} (e : va_E) (h : k < N) : (glw w E N).set k (w.2.1 k, e) = glw w (upE E k e) N := by
  apply List.ext_getElem?
  intro j
  rw [List.getElem?_set]
  by_cases hj : k = j
  · subst hj
    rw [if_pos rfl, glw_get w (upE E k e) h, upE_s, glw_len, if_pos h]
  · rw [if_neg hj]
    by_cases hl : j < N
    · rw [glw_get w E hl, glw_get w (upE E k e) hl, upE_n (fun z => hj z.symm)]
    · rw [List.getElem?_eq_none, List.getElem?_eq_none] <;> (rw [glw_len]; omega)
def A0 (ba : Nat) : Nat → Prop := fun q => ba ≤ q
def KG (w : Wx) (ba : Nat) (U : State) : Prop := w.2.1 = (fun k => ba + k) ∧ va_K w.1 vwCl (ty4 w) U ∧ (∀ x ∈ nws, va_Nw x U) ∧ va_AO RX7 U ∧ (Cond.arrayOver (.array .int)).before #[] U = true
theorem KG.D {w : Wx} {ba : Nat} {U : State} (h : KG w ba U) (E : Nat → va_E) (N : Nat) : va_D (A0 ba) (glw w E N) := by
  refine ⟨fun i j p q hp hq e => ?_, fun k q hq => ?_⟩
  · obtain ⟨h1, rfl⟩ := glw_of hp
    obtain ⟨h2, rfl⟩ := glw_of hq
    rw [h.1] at e
    exact Nat.add_left_cancel e
  · obtain ⟨h1, rfl⟩ := glw_of hq
    rw [h.1]
    exact Nat.le_add_right _ _
theorem glw_push {w : Wx} {E : Nat → va_E} {N : Nat} {H H1 : Heap} {e : va_E} (hP : va_P w.1 vwCl (glw w E N) H) (ho : ∀ q : Nat, q < H.size → H1[q]? = H[q]?) (he : va_at w.1 vwCl (w.2.1 N, e) H1) : va_P w.1 vwCl (glw w (upE E N e) (N + 1)) H1 := by
  intro k q hq
  obtain ⟨h1, rfl⟩ := glw_of hq
  by_cases hk : k = N
  · subst hk
    rw [upE_s]
    exact he
  · rw [upE_n hk]
    have h2 := hP k _ (glw_get w E (show k < N by omega))
    exact h2.kept (ho _ h2.lt)
theorem glw_cong {w : Wx} {E E' : Nat → va_E} {N : Nat} (h : ∀ j, j < N → E' j = E j) : glw w E' N = glw w E N := by
  unfold glw
  apply List.map_congr_left
  intro k hk
  rw [h k (List.mem_range.mp hk)]
def PG (w : Wx) (ba : Nat) (E : Nat → va_E) (N : Nat) (U : State) : Prop := ba + N = U.heap.size ∧ va_P w.1 vwCl (glw w E N) U.heap ∧ KG w ba U
theorem KG.calling {w : Wx} {ba : Nat} {U : State} (g : JFrame) (mk : MethodId) (a : Array Value) (q : KG w ba U) : KG w ba (U.calling g mk a) := by
  obtain ⟨q1, q2, q3, q4, q5⟩ := q
  refine ⟨q1, va_K.moved (u := U) (U := U.calling g mk a) (Vm.Alike.refl U.vm) q2, fun x hx => ?_, va_AO.moved (u := U) (U := U.calling g mk a) (Vm.Alike.refl U.vm) q4, q5⟩
  have h5 := q3 x hx
  rcases nws_kind x hx with ⟨a1, i, y, b, rfl⟩ | ⟨a1, i, b, n, d, c, rfl⟩
  · exact va_Nw.same rfl (u := U) (U := U.calling g mk a) rfl h5
  · exact va_Nw.same rfl (u := U) (U := U.calling g mk a) rfl h5
theorem aoa_moved {u U : State} (hvm : u.vm.Alike U.vm) (h : (Cond.arrayOver (.array .int)).before #[] u = true) : (Cond.arrayOver (.array .int)).before #[] U = true := by
  obtain ⟨comp, c, k, h1, h2, h3, h4, h5⟩ := arrayOverA_spec h
  obtain ⟨k', hk', he⟩ := hvm.2.2 _ _ h3
  have h1' : U.vm.findClass (FieldType.array FieldType.int).toString = some comp := by rw [hvm.findClass]; exact h1
  have h2' : (U.vm.classes.findIdx? fun x => match x.kind with | .array component _ => component == comp | _ => false) = some c := by
    rw [hvm.findIdx?_eq _ (fun _ => rfl)]; exact h2
  have h5' : U.vm.findClass ("[" ++ (FieldType.array FieldType.int).toString) = some c := by rw [hvm.findClass]; exact h5
  have hkind : k'.kind = .array comp (.array .int) := by rw [he]; exact h4
  simp only [Cond.before, Cond.holds, Cond.value, beq_iff_eq, h1', Option.bind_some, h2', hk', Option.map_some, hkind, h5', Option.bind_eq_some_iff]
  simp
  exact ⟨c, h2', k', hk', by rw [hkind]; simp⟩
theorem KG.to {w : Wx} {ba : Nat} {s U : State} (h : KG w ba s) (hW : s.WarmedH U.vm) : KG w ba U := by
  obtain ⟨h1, h2, h3, h4, h5⟩ := h
  refine ⟨h1, va_K.moved hW.alike h2, fun x hx => ?_, va_AO.moved hW.alike h4, aoa_moved hW.alike h5⟩
  rcases nws_kind x hx with ⟨a, i, y, b, rfl⟩ | ⟨a, i, b, n, d, c, rfl⟩
  · exact va_Nw.warmM hW (h3 _ hx)
  · exact va_Nw.warmF hW (h3 _ hx)
theorem PG_blind {w : Wx} {ba N : Nat} {E : Nat → va_E} {av : List Value} : FrameBlind (va_Pc av (PG w ba E N)) := by
  intro a U g mk q
  obtain ⟨q0, q1, qP, q2⟩ := q
  exact ⟨q0, q1, qP, q2.calling g mk a⟩
def VG (w : Wx) (ba : Nat) (G : Gx) (pc : Nat) (lv : List (Nat × Value)) (st : List Value) (E : Nat → va_E) (N cs sl : Nat) : Prop := match G with
  | (p, l, e, R, s, m, args, below, meth, c, Q, nL, cells, slots) => ∀ (H : Heap) (locs : List Loc) (ls : Array Slot), (s.heap.size + cs = ba + N ∧ ba + N = H.size) → va_P w.1 vwCl (glw w E N) H → va_S (A0 ba) s.heap H locs → lv_has ls nL lv → W p l e R s m args below meth c H locs cs sl Q (F0 m pc ls st)
def CG (w : Wx) (ba : Nat) (G : Gx) (cc : ByteArray) (own : String) (fr lo nl rc rs : Nat) : Prop := match G with
  | (p, l, e, R, s, m, args, below, meth, c, Q, nL, cells, slots) => p.tables.exec = Jvm.exec ∧ c.code = cc ∧ c.maxLocals = nL ∧ s.vm.findClass own = some m.cls ∧ (∀ x ∈ lwg, x.before args s = true) ∧ KG w ba s ∧ ba ≤ s.heap.size ∧ R.frames = fr ∧ R.locals = lo ∧ R.cells = rc ∧ R.slots = rs ∧ nL = nl
def InI (G : Gx) : Prop := match G with
  | (p, l, e, R, s, m, args, below, meth, c, Q, nL, cells, slots) => meth.name = "<init>"
def CtN (w : Wx) (ba : Nat) (l : Launch) (y : MethodName) (cc : ByteArray) (mL fr lo mc ms : Nat) (av : List Value) (E E' : Nat → va_E) (N N' : Nat) : Prop := Met l y (Cond.code y cc mL none :: lwg) ({ frames := fr, cells := mc, slots := ms, locals := lo } : Room) (va_Pc av (PG w ba E N)) (va_Qv (fun _ : Unit => True) (fun _ t => ba + N' = t.heap.size ∧ va_P w.1 vwCl (glw w E' N') t.heap) (A0 ba)) mc ms (A0 ba)
section
variable {w : Wx} {ba : Nat} {G : Gx} {cc : ByteArray} {own : String} {fr lo nl rc rs pc : Nat} {lv : List (Nat × Value)} {st : List Value} {E : Nat → va_E} {N cs sl : Nat}
theorem VG.cong {E' : Nat → va_E} (h : ∀ j, j < N → E' j = E j) (k : VG w ba G pc lv st E' N cs sl) : VG w ba G pc lv st E N cs sl := by
  obtain ⟨p, l, e, R, s, m, args, below, meth, c, Q, nL, cells, slots⟩ := G
  intro H locs ls hz hP hS hl
  rw [← glw_cong h] at hP
  exact k H locs ls hz hP hS hl
theorem W.bnd {p : Program} {l : Launch} {e : Env} {R : Room} {s : State} {m : MethodId} {args : Array Value} {below : List Frame} {meth : Method} {c : Code} {H : Heap} {locs : List Loc} {cells slots : Nat} {Q : State → Prop} {g : JFrame} (k : H.size ≤ s.heap.size + cells → W p l e R s m args below meth c H locs cells slots Q g) : W p l e R s m args below meth c H locs cells slots Q g := fun T hT X => k (by have h := X.heapSize; rw [hT] at h; exact h) T hT X
theorem g_end {w : Wx} {ba : Nat} {s : State} {H1 : Heap} {E1 : Nat → va_E} {N cs k : Nat} (hk : k < N) (hw : w.2.1 = (fun k => ba + k)) (hz : s.heap.size + cs = ba + N) (hP : va_P w.1 vwCl (glw w E1 N) H1) (hb : H1.size ≤ s.heap.size + cs) : s.heap.size + cs = ba + N ∧ ba + N = H1.size := by
  have h1 := (hP (N - 1) _ (glw_get w E1 (show N - 1 < N by omega))).lt
  rw [hw] at h1
  have h2 : ba + (N - 1) < H1.size := h1
  omega
theorem g_kc (C : CG w ba G cc own fr lo nl rc rs) {n : Int} (v : Int32) (hv : Int32.ofInt n = v) (hd : decode cc pc = .ok (.iconst n, 1)) (k : VG w ba G (pc + 1) lv (.int v :: st) E N cs sl) : VG w ba G pc lv st E N cs sl := by
  obtain ⟨p, l, e, R, s, m, args, below, meth, c, Q, nL, cells, slots⟩ := G
  obtain ⟨hx, hb, hml, hown, hts, hy, hsz, hRf, hRl, hRc, hRs, hnl⟩ := C
  intro H locs ls hz hP hS hl
  exact lv_iconst hx hb hd hv (k H locs ls hz hP hS hl)
theorem g_kb (C : CG w ba G cc own fr lo nl rc rs) {n : Int} (v : Int32) (hv : (Int8.ofInt n).toInt32 = v) (hd : decode cc pc = .ok (.bipush n, 2)) (k : VG w ba G (pc + 2) lv (.int v :: st) E N cs sl) : VG w ba G pc lv st E N cs sl := by
  obtain ⟨p, l, e, R, s, m, args, below, meth, c, Q, nL, cells, slots⟩ := G
  obtain ⟨hx, hb, hml, hown, hts, hy, hsz, hRf, hRl, hRc, hRs, hnl⟩ := C
  intro H locs ls hz hP hS hl
  exact lv_bipush hx hb hd hv (k H locs ls hz hP hS hl)
theorem g_ks (C : CG w ba G cc own fr lo nl rc rs) {n : Int} (v : Int32) (hv : (Int16.ofInt n).toInt32 = v) (hd : decode cc pc = .ok (.sipush n, 3)) (k : VG w ba G (pc + 3) lv (.int v :: st) E N cs sl) : VG w ba G pc lv st E N cs sl := by
  obtain ⟨p, l, e, R, s, m, args, below, meth, c, Q, nL, cells, slots⟩ := G
  obtain ⟨hx, hb, hml, hown, hts, hy, hsz, hRf, hRl, hRc, hRs, hnl⟩ := C
  intro H locs ls hz hP hS hl
  exact lv_sipush hx hb hd hv (k H locs ls hz hP hS hl)
theorem g_iload_n (C : CG w ba G cc own fr lo nl rc rs) {n : Fin 4} (j : Nat) {x : Int32} (hj : lv[j]? = some ((n : Nat), .int x)) (hd : decode cc pc = .ok (.iload_n n, 1)) (k : VG w ba G (pc + 1) lv (.int x :: st) E N cs sl) : VG w ba G pc lv st E N cs sl := by
  obtain ⟨p, l, e, R, s, m, args, below, meth, c, Q, nL, cells, slots⟩ := G
  obtain ⟨hx, hb, hml, hown, hts, hy, hsz, hRf, hRl, hRc, hRs, hnl⟩ := C
  intro H locs ls hz hP hS hl
  exact lv_iload_n hx hb hd rfl (lv_at hl j hj) (k H locs ls hz hP hS hl)
theorem g_aload_n (C : CG w ba G cc own fr lo nl rc rs) {n : Fin 4} (j : Nat) {x : Nat} (hj : lv[j]? = some ((n : Nat), .ref x)) (hd : decode cc pc = .ok (.aload_n n, 1)) (k : VG w ba G (pc + 1) lv (.ref x :: st) E N cs sl) : VG w ba G pc lv st E N cs sl := by
  obtain ⟨p, l, e, R, s, m, args, below, meth, c, Q, nL, cells, slots⟩ := G
  obtain ⟨hx, hb, hml, hown, hts, hy, hsz, hRf, hRl, hRc, hRs, hnl⟩ := C
  intro H locs ls hz hP hS hl
  exact lv_aload_n hx hb hd rfl (lv_at hl j hj) (k H locs ls hz hP hS hl)
theorem g_istore_n (C : CG w ba G cc own fr lo nl rc rs) {n : Fin 4} {x : Int32} (lv' : List (Nat × Value)) (hl : ((n : Nat), Value.int x) :: lv.filter (fun q => !(q.1 == (n : Nat)) && !(q.1 + 1 == (n : Nat) && q.2.category == 2)) = lv') (hn : (n : Nat) < nl) (hd : decode cc pc = .ok (.istore_n n, 1)) (k : VG w ba G (pc + 1) lv' st E N cs sl) : VG w ba G pc lv (.int x :: st) E N cs sl := by
  obtain ⟨p, l, e, R, s, m, args, below, meth, c, Q, nL, cells, slots⟩ := G
  obtain ⟨hx, hb, hml, hown, hts, hy, hsz, hRf, hRl, hRc, hRs, hnl⟩ := C
  intro H locs ls hz hP hS hls
  exact lv_istore_n hx hb hd rfl hls (by rw [hnl]; exact hn) hl (fun ls hl => k H locs ls hz hP hS hl)
theorem g_astore_n (C : CG w ba G cc own fr lo nl rc rs) {n : Fin 4} {x : Nat} (lv' : List (Nat × Value)) (hl : ((n : Nat), Value.ref x) :: lv.filter (fun q => !(q.1 == (n : Nat)) && !(q.1 + 1 == (n : Nat) && q.2.category == 2)) = lv') (hn : (n : Nat) < nl) (hd : decode cc pc = .ok (.astore_n n, 1)) (k : VG w ba G (pc + 1) lv' st E N cs sl) : VG w ba G pc lv (.ref x :: st) E N cs sl := by
  obtain ⟨p, l, e, R, s, m, args, below, meth, c, Q, nL, cells, slots⟩ := G
  obtain ⟨hx, hb, hml, hown, hts, hy, hsz, hRf, hRl, hRc, hRs, hnl⟩ := C
  intro H locs ls hz hP hS hls
  exact lv_astore_n hx hb hd rfl hls (by rw [hnl]; exact hn) hl (fun ls hl => k H locs ls hz hP hS hl)
theorem g_iinc (C : CG w ba G cc own fr lo nl rc rs) {n j : Nat} {d : Int} {x : Int32} (lv' : List (Nat × Value)) (hj : lv[j]? = some (n, .int x)) (v : Int32) (hv : x + Int32.ofInt d = v) (hl : (n, Value.int v) :: lv.filter (fun q => !(q.1 == n) && !(q.1 + 1 == n && q.2.category == 2)) = lv') (hn : n < nl) (hd : decode cc pc = .ok (.iinc n d, 3)) (k : VG w ba G (pc + 3) lv' st E N cs sl) : VG w ba G pc lv st E N cs sl := by
  obtain ⟨p, l, e, R, s, m, args, below, meth, c, Q, nL, cells, slots⟩ := G
  obtain ⟨hx, hb, hml, hown, hts, hy, hsz, hRf, hRl, hRc, hRs, hnl⟩ := C
  intro H locs ls hz hP hS hls
  exact lv_iinc hx hb hd hls hj hv (by rw [hnl]; exact hn) hl (fun ls hl => k H locs ls hz hP hS hl)
theorem g_dup (C : CG w ba G cc own fr lo nl rc rs) {a : Value} (ha : a.category = 1) (hd : decode cc pc = .ok (.dup, 1)) (k : VG w ba G (pc + 1) lv (a :: a :: st) E N cs sl) : VG w ba G pc lv (a :: st) E N cs sl := by
  obtain ⟨p, l, e, R, s, m, args, below, meth, c, Q, nL, cells, slots⟩ := G
  obtain ⟨hx, hb, hml, hown, hts, hy, hsz, hRf, hRl, hRc, hRs, hnl⟩ := C
  intro H locs ls hz hP hS hl
  exact lv_dup hx hb hd ha (k H locs ls hz hP hS hl)
theorem g_icmp_ge (C : CG w ba G cc own fr lo nl rc rs) {x y : Int32} {off : Int} (tgt : Nat) (ht : (pc : Int) + off = (tgt : Int)) (hd : decode cc pc = .ok (.if_icmp .ge off, 3)) (kt : y ≤ x → VG w ba G tgt lv st E N cs sl) (kf : ¬ y ≤ x → VG w ba G (pc + 3) lv st E N cs sl) : VG w ba G pc lv (.int y :: .int x :: st) E N cs sl := by
  obtain ⟨p, l, e, R, s, m, args, below, meth, c, Q, nL, cells, slots⟩ := G
  obtain ⟨hx, hb, hml, hown, hts, hy, hsz, hRf, hRl, hRc, hRs, hnl⟩ := C
  intro H locs ls hz hP hS hl
  exact lv_icmp_ge hx hb hd ht (fun h => kt h H locs ls hz hP hS hl) (fun h => kf h H locs ls hz hP hS hl)
theorem g_goto (C : CG w ba G cc own fr lo nl rc rs) {off : Int} (tgt : Nat) (ht : (pc : Int) + off = (tgt : Int)) (hd : decode cc pc = .ok (.goto off, 3)) (k : VG w ba G tgt lv st E N cs sl) : VG w ba G pc lv st E N cs sl := by
  obtain ⟨p, l, e, R, s, m, args, below, meth, c, Q, nL, cells, slots⟩ := G
  obtain ⟨hx, hb, hml, hown, hts, hy, hsz, hRf, hRl, hRc, hRs, hnl⟩ := C
  intro H locs ls hz hP hS hl
  exact lv_goto hx hb hd ht (k H locs ls hz hP hS hl)
theorem g_mmax (C : CG w ba G cc own fr lo nl rc rs) {i : Nat} {x y : Int32} (h1 : Cond.methodLink own i Lib.Math.max.name ∈ lwg) (h4 : Cond.code Lib.Math.max.name Lib.Math.max.code 2 (some .int) ∈ lwg) (hf : 1 ≤ fr) (hlo : (st.map fun v => v.category).sum + 13 ≤ lo) (hc : cs ≤ rc) (hs : sl ≤ rs) (hd : decode cc pc = .ok (.invokestatic i, 3)) (kk : VG w ba G (pc + 3) lv (.int (if x < y then y else x) :: st) E N cs sl) : VG w ba G pc lv (.int y :: .int x :: st) E N cs sl := by
  obtain ⟨p, l, e, R, s, m, args, below, meth, c, Q, nL, cells, slots⟩ := G
  obtain ⟨hx, hb, hml, hown, hts, hy, hsz, hRf, hRl, hRc, hRs, hnl⟩ := C
  intro H locs ls hz hP hS hl
  exact va_mmax hx hb (by rw [hml]; exact hl.1.symm) hown (hts _ h1) (hts _ ms_max) (hts _ m_mathi) (hts _ h4) (by rw [hRf]; exact hf) (by rw [hRl]; exact hlo) (by rw [hRc]; exact hc) (by rw [hRs]; exact hs) hd (kk H locs ls hz hP hS hl)
theorem g_oi (C : CG w ba G cc own fr lo nl rc rs) {i a : Nat} (h1 : Cond.methodLink own i objectInit ∈ lwg) (hf : 1 ≤ fr) (hlo : 12 ≤ lo) (hd : decode cc pc = .ok (.invokespecial i, 3)) (kk : VG w ba G (pc + 3) lv [] E N cs sl) : VG w ba G pc lv [.ref a] E N cs sl := by
  obtain ⟨p, l, e, R, s, m, args, below, meth, c, Q, nL, cells, slots⟩ := G
  obtain ⟨hx, hb, hml, hown, hts, hy, hsz, hRf, hRl, hRc, hRs, hnl⟩ := C
  intro H locs ls hz hP hS hl
  refine W.objInit hx hb hown (hts _ h1) (hts _ oi_inst) (hts _ oi_code) rfl (by rw [hml]; exact hl.1) rfl hd (by rw [hRf]; exact hf) (by rw [hRl]; exact hlo) ?_
  exact W.eq (g2 := F0 m (pc + 3) ls []) rfl (kk H locs ls hz hP hS hl)
theorem gS_new {w : Wx} {s : State} {H H1 : Heap} {locs : List Loc} (hS : va_S (A0 ba) s.heap H locs) (z : H.size ≤ H1.size) (o1 : ∀ q : Nat, q < H.size → H1[q]? = H[q]?) : va_S (A0 ba) s.heap H1 locs := ⟨Nat.le_trans hS.1 z, fun q h1 h2 => (o1 q (Nat.lt_of_lt_of_le h1 hS.1)).trans (hS.2.1 q h1 h2), hS.2.2⟩
theorem g_newi (C : CG w ba G cc own fr lo nl rc rs) {n : Int32} {k : Nat} (h0 : ¬ n < 0) (h1 : n.toNatClampNeg = k) (hk : k ≤ 1000) (hc : cs + 1 ≤ rc) (hs : sl + k ≤ rs) (hd : decode cc pc = .ok (.newarray .int, 2)) (kk : VG w ba G (pc + 2) lv (.ref (w.2.1 N) :: st) (upE E N (.inl (w.2.2.1, k, .inl (fun _ => 0)))) (N + 1) (cs + 1) (sl + k)) : VG w ba G pc lv (.int n :: st) E N cs sl := by
  obtain ⟨p, l, e, R, s, m, args, below, meth, c, Q, nL, cells, slots⟩ := G
  obtain ⟨hx, hb, hml, hown, hts, hy, hsz, hRf, hRl, hRc, hRs, hnl⟩ := C
  intro H locs ls hz hP hS hl
  have hN : H.size = w.2.1 N := by rw [hy.1]; exact hz.2.symm
  refine va_newaK (atype := .int) hx hb (hts _ ac_int) rfl hd rfl h0 h1 (by show k * 4 ≤ 536870912; omega) (by rw [hRc]; exact hc) (by rw [hRs]; exact hs) hN (fun H1 cA e1 z1 o1 hAr hNm => ?_)
  have hcA : cA = w.2.2.1 := Option.some.inj (hNm.symm.trans (hy.2.1.2 0 _ rfl).2)
  rw [← hN] at z1 o1
  refine kk H1 locs ls (by rw [z1]; omega) (glw_push hP o1 ?_) (gS_new (w := w) hS (by omega) o1) hl
  rw [hcA] at e1
  exact e1
theorem g_newz (C : CG w ba G cc own fr lo nl rc rs) {n : Int32} {k : Nat} (h0 : ¬ n < 0) (h1 : n.toNatClampNeg = k) (hk : k ≤ 1000) (hc : cs + 1 ≤ rc) (hs : sl + k ≤ rs) (hd : decode cc pc = .ok (.newarray .boolean, 2)) (kk : VG w ba G (pc + 2) lv (.ref (w.2.1 N) :: st) (upE E N (.inl (w.2.2.2.1, k, .inl (fun _ => 0)))) (N + 1) (cs + 1) (sl + k)) : VG w ba G pc lv (.int n :: st) E N cs sl := by
  obtain ⟨p, l, e, R, s, m, args, below, meth, c, Q, nL, cells, slots⟩ := G
  obtain ⟨hx, hb, hml, hown, hts, hy, hsz, hRf, hRl, hRc, hRs, hnl⟩ := C
  intro H locs ls hz hP hS hl
  have hN : H.size = w.2.1 N := by rw [hy.1]; exact hz.2.symm
  refine va_newaK (atype := .boolean) hx hb (hts _ ac_boolean) rfl hd rfl h0 h1 (by show k * 1 ≤ 536870912; omega) (by rw [hRc]; exact hc) (by rw [hRs]; exact hs) hN (fun H1 cA e1 z1 o1 hAr hNm => ?_)
  have hcA : cA = w.2.2.2.1 := Option.some.inj (hNm.symm.trans (hy.2.1.2 1 _ rfl).2)
  rw [← hN] at z1 o1
  refine kk H1 locs ls (by rw [z1]; omega) (glw_push hP o1 ?_) (gS_new (w := w) hS (by omega) o1) hl
  rw [hcA] at e1
  exact e1
theorem g_newq (C : CG w ba G cc own fr lo nl rc rs) {n : Int32} {k i : Nat} (h0 : ¬ n < 0) (h1 : n.toNatClampNeg = k) (hk : k ≤ 1000) (hcl : Cond.classLink own i RX7 ∈ lwg) (hc : cs + 1 ≤ rc) (hs : sl + k ≤ rs) (hd : decode cc pc = .ok (.anewarray i, 3)) (kk : VG w ba G (pc + 3) lv (.ref (w.2.1 N) :: st) (upE E N (.inl (w.2.2.2.2.1, k, .inr (.inr (.inr (.inr (fun _ => none))))))) (N + 1) (cs + 1) (sl + k)) : VG w ba G pc lv (.int n :: st) E N cs sl := by
  obtain ⟨p, l, e, R, s, m, args, below, meth, c, Q, nL, cells, slots⟩ := G
  obtain ⟨hx, hb, hml, hown, hts, hy, hsz, hRf, hRl, hRc, hRs, hnl⟩ := C
  intro H locs ls hz hP hS hl
  subst h1
  have hN : H.size = w.2.1 N := by rw [hy.1]; exact hz.2.symm
  refine W.anew hx hb hown (hts _ hcl) (va_AO.use hy.2.2.2.1) rfl hd rfl h0 (by omega) (by rw [hRc]; exact hc) (by rw [hRs]; exact hs) (fun cA kA comp f1 f2 f3 f4 => ?_)
  obtain ⟨_, kA', comp', a1, a2, a3, a4⟩ := hy.2.1.2 2 _ rfl
  have hcA : cA = w.2.2.2.2.1 := Option.some.inj (f1.symm.trans a4)
  generalize hH1 : H.push ({ cls := cA, slots := Array.replicate n.toNatClampNeg .null, vm := .none } : Cell) = H1
  have z1 : H1.size = H.size + 1 := by rw [← hH1, Array.size_push]
  have e1 : H1[H.size]? = some (arrV cA n.toNatClampNeg (fun _ => .null)) := by rw [← hH1, Array.getElem?_push_size, ← arrV_new]
  have o1 : ∀ q : Nat, q < H.size → H1[q]? = H[q]? := fun q hq => by rw [← hH1, Array.getElem?_push, if_neg (Nat.ne_of_lt hq)]
  have k1 := kk H1 locs ls (by rw [z1]; omega) (glw_push hP o1 (by rw [← hN, ← hcA]; exact e1)) (gS_new (w := w) hS (by omega) o1) hl
  rw [← hN] at k1
  exact k1
theorem g_new (C : CG w ba G cc own fr lo nl rc rs) {Cn : String} {T : u_T} {k ci i : Nat} (ty : Nat → FieldType) (hty : ∀ j, j < k → parseFieldDescriptor (T j).2.2.1 = some (ty j)) (hin : ∀ x ∈ u_ws Cn T k, x ∈ lwg) (hcl : Cond.classLink own i Cn ∈ lwg) (hit : Cond.instantiable Cn k ∈ lwg) (hii : Cond.initialized Cn ∈ lwg) (hci : vwCl[ci]? = some (Cn, T, k)) (fs : List Value) (hfs : ∀ j, j < k → defaultValue (ty j) = vp_V fs j) (hc : cs + 1 ≤ rc) (hs : sl + k ≤ rs) (hd : decode cc pc = .ok (.new i, 3)) (kk : VG w ba G (pc + 3) lv (.ref (w.2.1 N) :: st) (upE E N (.inr (ci, fs))) (N + 1) (cs + 1) (sl + k)) : VG w ba G pc lv st E N cs sl := by
  obtain ⟨p, l, e, R, s, m, args, below, meth, c, Q, nL, cells, slots⟩ := G
  obtain ⟨hx, hb, hml, hown, hts, hy, hsz, hRf, hRl, hRc, hRs, hnl⟩ := C
  intro H locs ls hz hP hS hl
  have hN : H.size = w.2.1 N := by rw [hy.1]; exact hz.2.symm
  have hKn := hy.2.1.1 ci _ hci
  refine W.newcK hx hb hown (hts _ hcl) (hts _ hit) (hts _ hii) rfl hd (by rw [hRc]; exact hc) (by rw [hRs]; exact hs) hKn.2.1 hN (fun H1 kC hkC e1 z1 o1 => ?_)
  have e2 := u_born ty hts hin hKn hkC e1 hty
  rw [← hN] at z1 o1
  exact kk H1 locs ls (by rw [z1]; omega) (glw_push hP o1 ⟨_, hci, e2.to hfs⟩) (gS_new (w := w) hS (by omega) o1) hl
theorem g_put (C : CG w ba G cc own fr lo nl rc rs) {ref Cn : String} {T : u_T} {n ci i k j : Nat} (ty0 : Nat → FieldType) (hty : ∀ k, k < n → parseFieldDescriptor (T k).2.2.1 = some (ty0 k)) (hin : ∀ x ∈ u_ws Cn T n, x ∈ lwg) (hnm : ∀ a, a < n → ∀ b, b < n → a ≠ b → (T a).2.1 ≠ (T b).2.1) (hci : vwCl[ci]? = some (Cn, T, n)) (hk : k < N) {fs : List Value} (hE : E k = .inr (ci, fs)) (hj : j < n) (hli : Cond.fieldLink own i ref (T j).2.1 (T j).2.2.1 ∈ lwg) (href : (T j).1 = ref) (hfin : (T j).2.2.2 = false) {ty : FieldType} (v : Value) (hpd : parseFieldDescriptor (T j).2.2.1 = some ty) (hn : narrow ty v = v) (hfit : fits ty v = true) (hl0 : j < fs.length) (hd : decode cc pc = .ok (.putfield i, 3)) (kk : VG w ba G (pc + 3) lv st (upE E k (.inr (ci, fs.set j v))) N cs sl) : VG w ba G pc lv (v :: .ref (w.2.1 k) :: st) E N cs sl := by
  obtain ⟨p, l, e, R, s, m, args, below, meth, c, Q, nL, cells, slots⟩ := G
  obtain ⟨hx, hb, hml, hown, hts, hy, hsz, hRf, hRl, hRc, hRs, hnl⟩ := C
  intro H locs ls hz hP hS hl
  refine va_put (D := w.1) (ci := ci) (v := v) (ty := ty) (C := Cn) (T := T) (N := n) hx hb hts hin ty0 hty hnm hown hy.2.1 hP (hy.D E N) hS k (by rw [glw_get w E hk, hE]) hci j hj (hts _ hli) (fun _ h9 => by rw [← href]; exact h9) hfin hpd hn hfit hl0 hd (fun H1 locs1 hP1 _ hS1 => ?_)
  rw [glw_set w E _ hk] at hP1
  exact W.bnd (fun hbd => kk H1 locs1 ls (g_end hk hy.1 hz.1 hP1 hbd) hP1 hS1 hl)
theorem g_putF (C : CG w ba G cc own fr lo nl rc rs) (hI : InI G) {Cn : String} {T : u_T} {n ci i k j : Nat} (ty0 : Nat → FieldType) (hty : ∀ k, k < n → parseFieldDescriptor (T k).2.2.1 = some (ty0 k)) (hin : ∀ x ∈ u_ws Cn T n, x ∈ lwg) (hnm : ∀ a, a < n → ∀ b, b < n → a ≠ b → (T a).2.1 ≠ (T b).2.1) (hci : vwCl[ci]? = some (Cn, T, n)) (hk : k < N) {fs : List Value} (hE : E k = .inr (ci, fs)) (hj : j < n) (hli : Cond.fieldLink own i own (T j).2.1 (T j).2.2.1 ∈ lwg) (href : (T j).1 = own) (hfin : (T j).2.2.2 = true) {ty : FieldType} (v : Value) (hpd : parseFieldDescriptor (T j).2.2.1 = some ty) (hn : narrow ty v = v) (hfit : fits ty v = true) (hl0 : j < fs.length) (hd : decode cc pc = .ok (.putfield i, 3)) (kk : VG w ba G (pc + 3) lv st (upE E k (.inr (ci, fs.set j v))) N cs sl) : VG w ba G pc lv (v :: .ref (w.2.1 k) :: st) E N cs sl := by
  obtain ⟨p, l, e, R, s, m, args, below, meth, c, Q, nL, cells, slots⟩ := G
  obtain ⟨hx, hb, hml, hown, hts, hy, hsz, hRf, hRl, hRc, hRs, hnl⟩ := C
  intro H locs ls hz hP hS hl
  refine va_putF (D := w.1) (ci := ci) (v := v) (ty := ty) (C := Cn) (T := T) (N := n) hx hb hts hin ty0 hty hnm hown hy.2.1 hP (hy.D E N) hS k (by rw [glw_get w E hk, hE]) hci j hj (hts _ hli) (fun _ h9 => by rw [← href]; exact h9) hfin hI href hpd hn hfit hl0 hd (fun H1 locs1 hP1 _ hS1 => ?_)
  rw [glw_set w E _ hk] at hP1
  exact W.bnd (fun hbd => kk H1 locs1 ls (g_end hk hy.1 hz.1 hP1 hbd) hP1 hS1 hl)
theorem g_get (C : CG w ba G cc own fr lo nl rc rs) {ref Cn : String} {T : u_T} {n ci i k j : Nat} (hin : ∀ x ∈ u_ws Cn T n, x ∈ lwg) (hci : vwCl[ci]? = some (Cn, T, n)) (hk : k < N) {fs : List Value} (hE : E k = .inr (ci, fs)) (hj : j < n) (hli : Cond.fieldLink own i ref (T j).2.1 (T j).2.2.1 ∈ lwg) (href : (T j).1 = ref) {v : Value} (hv : fs[j]? = some v) (hd : decode cc pc = .ok (.getfield i, 3)) (kk : VG w ba G (pc + 3) lv (v :: st) E N cs sl) : VG w ba G pc lv (.ref (w.2.1 k) :: st) E N cs sl := by
  obtain ⟨p, l, e, R, s, m, args, below, meth, c, Q, nL, cells, slots⟩ := G
  obtain ⟨hx, hb, hml, hown, hts, hy, hsz, hRf, hRl, hRc, hRs, hnl⟩ := C
  intro H locs ls hz hP hS hl
  exact va_get (D := w.1) (ci := ci) (C := Cn) (T := T) (N := n) hx hb hts hin hown hy.2.1 hP k (by rw [glw_get w E hk, hE]) hci j hj (hts _ hli) (fun _ h9 => by rw [← href]; exact h9) hv hd (kk H locs ls hz hP hS hl)
theorem g_aast (C : CG w ba G cc own fr lo nl rc rs) {a k n : Nat} {f : Nat → Option Nat} {vs : List Value} {i : Int32} (ha : a < N) (hk : k < N) (hEa : E a = .inl (w.2.2.2.2.1, n, .inr (.inr (.inr (.inr f))))) (hEk : E k = .inr (6, vs)) (hi : vp_in i n) (hd : decode cc pc = .ok (.aastore, 1)) (kk : VG w ba G (pc + 1) lv st (upE E a (.inl (w.2.2.2.2.1, n, .inr (.inr (.inr (.inr (va_up f i.toNatClampNeg (some (w.2.1 k))))))))) N cs sl) : VG w ba G pc lv (.ref (w.2.1 k) :: .int i :: .ref (w.2.1 a) :: st) E N cs sl := by
  obtain ⟨p, l, e, R, s, m, args, below, meth, c, Q, nL, cells, slots⟩ := G
  obtain ⟨hx, hb, hml, hown, hts, hy, hsz, hRf, hRl, hRc, hRs, hnl⟩ := C
  intro H locs ls hz hP hS hl
  refine va_astq hx hb hy.2.1 hP (hy.D E N) hS a 2 k 6 (by rw [glw_get w E ha, hEa]) rfl (by rw [glw_get w E hk, hEk]) rfl hi hd (fun H1 locs1 hP1 _ hS1 => ?_)
  rw [glw_set w E _ ha] at hP1
  exact W.bnd (fun hbd => kk H1 locs1 ls (g_end ha hy.1 hz.1 hP1 hbd) hP1 hS1 hl)
theorem pg_pre {s : State} {H : Heap} {av : List Value} (hy : KG w ba s) (hz : ba + N = H.size) (hP : va_P w.1 vwCl (glw w E N) H) : ∀ U : State, U.heap = H → s.WarmedH U.vm → va_Pc av (PG w ba E N) av.toArray U := by
  intro U hU hW
  exact ⟨rfl, by rw [hU]; exact hz, by rw [hU]; exact hP, hy.to hW⟩
def Yi (y : MethodName) (yc : ByteArray) (mL n : Nat) : Prop := (Cond.instanceMethod y ∈ lwg ∧ Cond.initialized y.cls ∈ lwg) ∧ Cond.code y yc mL none ∈ lwg ∧ y.name = "<init>" ∧ (y.cls ≠ "java/lang/invoke/MethodHandle" ∧ y.cls ≠ "java/lang/invoke/VarHandle" ∧ (parseMethodDescriptor y.desc).map (fun d => d.parameters.length) = some n)
theorem g_callI (C : CG w ba G cc own fr lo nl rc rs) {y : MethodName} {yc : ByteArray} {mL n idx fr' lo' mc ms a N' : Nat} {As : List Value} (rest : List Value) {E' : Nat → va_E} (hM : CtN w ba G.2.1 y yc mL fr' lo' mc ms (.ref a :: As) E E' N N') (hY : Yi y yc mL n) (hli : Cond.methodLink own idx y ∈ lwg) (hn : As.length = n) (hst : st = As.reverse ++ .ref a :: rest) (hrm : (rest.map fun v => v.category).sum ≤ 8) (hR : fr' + 1 ≤ fr ∧ 8 + (mL + 11) + lo' ≤ lo) (hc : cs + mc ≤ rc) (hs : sl + ms ≤ rs) (hN : N + mc = N') (hd : decode cc pc = .ok (.invokespecial idx, 3)) (kk : VG w ba G (pc + 3) lv rest E' N' (cs + mc) (sl + ms)) : VG w ba G pc lv st E N cs sl := by
  obtain ⟨p, l, e, R, s, m, args, below, meth, c, Q, nL, cells, slots⟩ := G
  obtain ⟨hx, hb, hml, hown, hts, hy, hsz, hRf, hRl, hRc, hRs, hnl⟩ := C
  intro H locs ls hz hP hS hl
  subst hst
  have cw : CallB R s args own idx y yc mL none (Cond.code y yc mL none :: lwg) ({ frames := fr', cells := mc, slots := ms, locals := lo' } : Room) mc ms n ∧ y.name = "<init>" ∧ (Cond.instanceMethod y).before args s = true := ⟨callB_of n hts (gl_code hY.2.1) rfl rfl rfl (hts _ hY.1.2) (hts _ hli) hY.2.2.2 ⟨by rw [hRf]; exact hR.1, by rw [hRl]; exact hR.2⟩, hY.2.2.1, hts _ hY.1.1⟩
  refine va_callv (va_runI (As := As) (rest := rest) ⟨hx, hb, hml, hown, hts⟩ hM cw ⟨PG_blind, pg_pre hy hz.2 hP⟩ rfl hn hl.1 rfl (lv_room hrm) hd ⟨by rw [hRc]; exact hc, by rw [hRs]; exact hs⟩) hS (fun _ _ h => h) (fun _ h => h) (fun u t H1 locs1 ht hvm hw hB hz1 hk1 hS1 => ?_)
  rw [ht] at hB
  exact kk H1 locs1 ls ⟨by omega, hB.1⟩ hB.2 hS1 hl
theorem g_callN (C : CG w ba G cc own fr lo nl rc rs) {y : MethodName} {yc : ByteArray} {mL n idx fr' lo' mc ms a N' : Nat} {As : List Value} (rest : List Value) {E' : Nat → va_E} (hM : CtN w ba G.2.1 y yc mL fr' lo' mc ms (.ref a :: As) E E' N N') (hY : Yi y yc mL n) {host : String} (hli : Cond.methodLinkNest own idx y host ∈ nws) (hn : As.length = n) (hst : st = As.reverse ++ .ref a :: rest) (hrm : (rest.map fun v => v.category).sum ≤ 8) (hR : fr' + 1 ≤ fr ∧ 8 + (mL + 11) + lo' ≤ lo) (hc : cs + mc ≤ rc) (hs : sl + ms ≤ rs) (hN : N + mc = N') (hd : decode cc pc = .ok (.invokespecial idx, 3)) (kk : VG w ba G (pc + 3) lv rest E' N' (cs + mc) (sl + ms)) : VG w ba G pc lv st E N cs sl := by
  obtain ⟨p, l, e, R, s, m, args, below, meth, c, Q, nL, cells, slots⟩ := G
  obtain ⟨hx, hb, hml, hown, hts, hy, hsz, hRf, hRl, hRc, hRs, hnl⟩ := C
  intro H locs ls hz hP hS hl
  subst hst
  have cw := va_cnB (R := R) (s := s) (args := args) (own := own) (host := host) (index := idx) (mc := mc) (ms := ms) (rm := { frames := fr', cells := mc, slots := ms, locals := lo' }) n hts (gl_code hY.2.1) rfl rfl rfl (hy.2.2.1 _ hli) (hts _ hY.1.2) hY.2.2.2 ⟨by rw [hRf]; exact hR.1, by rw [hRl]; exact hR.2⟩
  refine va_callv (va_runIN (As := As) (rest := rest) ⟨hx, hb, hml, hown, hts⟩ hM ⟨cw, hY.2.2.1, hts _ hY.1.1⟩ ⟨PG_blind, pg_pre hy hz.2 hP⟩ rfl hn hl.1 rfl (lv_room hrm) hd ⟨by rw [hRc]; exact hc, by rw [hRs]; exact hs⟩) hS (fun _ _ h => h) (fun _ h => h) (fun u t H1 locs1 ht hvm hw hB hz1 hk1 hS1 => ?_)
  rw [ht] at hB
  exact kk H1 locs1 ls ⟨by omega, hB.1⟩ hB.2 hS1 hl
theorem met_n {l : Launch} {y : MethodName} {mL mc ms N' : Nat} {av : List Value} {E' : Nat → va_E} (hy : plainName y.cls = true) (hyi : y.name = "<init>") (hsz : (lg_sl av).length ≤ mL) (hba : N' = N + mc) (body : ∀ G : Gx, CG w ba G cc y.cls fr lo mL mc ms → G.2.1 = l → InI G → (∀ (pc : Nat) (lv : List (Nat × Value)) (E1 : Nat → va_E), decode cc pc = .ok (.return_, 1) → (∀ j, j < N' → E1 j = E' j) → VG w ba G pc lv [] E1 N' mc ms) → VG w ba G 0 (lv_args 0 av) [] E N 0 0) : CtN w ba l y cc mL fr lo mc ms av E E' N N' := by
  refine Met.ofW (cc := cc) (maxL := mL) (ret := none) hy rfl ?_
  intro p e s m args below meth c s₁ B hml hv
  obtain ⟨rfl, hz, hP, hy0⟩ := hv
  have hx := B.exec
  have hb := B.bytes
  have hr := B.returns
  have hts := atoms_spec B.pre
  have hown : s.vm.findClass y.cls = some m.cls := findClass_of_methodNamed B.named
  have hlocks := B.notSynchronized
  have hl := lv_entry av (n := mL) hsz
  rw [lg_entry_eq]
  refine body (p, l, e, ({ frames := fr, cells := mc, slots := ms, locals := lo } : Room), s, m, av.toArray, below, meth, c, _, mL, 0, 0) ⟨hx, hb, hml, hown, fun x h => hts x (List.mem_cons_of_mem _ h), hy0, by omega, rfl, rfl, rfl, rfl, rfl⟩ rfl ((name_of_methodNamed B.named B.method).1.trans hyi) ?_ s.heap [] _ ⟨by omega, hz⟩ hP va_S.rf hl
  intro pc lv E1 hd hq H locs ls hz hP hS hl
  rw [glw_cong hq] at hP
  exact W.vret hx hb hr (fun t ht hW => ⟨⟨(), rfl, trivial, by rw [ht]; exact hz.2, by rw [ht]; exact hP⟩, hS.F ht⟩) hS.2.2 hd
end
