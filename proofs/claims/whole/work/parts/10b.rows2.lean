/-! a new array of two dimensions, 8 rows of 31: what its one instruction leaves -/
section
variable {E : CtlPost} {e : Env} {d : Bool} {acts : List Action}
theorem mk_na {U : State} {cA comp : ClassId} {k : Class} {ty : FieldType} {n : Nat} {v : Value} (hk : U.vm.classes[cA]? = some k) (hkind : k.kind = .array comp ty) (hfit : fits ty v = true) (hdef : v.isDefault = true)
    (g1 : ¬ n > e.platform.arrayLengthLimit) (g2 : ¬ n * componentBytes ty > e.platform.maxHeapBytes) (h1 : U.heap.size < e.platform.maxCells) (h2 : U.slotsUsed + n ≤ e.platform.maxSlots) {Q : Addr → Pre}
    (hq : Q U.heap.size d acts (U.pushCell { cls := cA, slots := Array.replicate n v, vm := .none })) : wp (Jvm.newArray cA n v) Q E e d acts U := by
  have hall : ((Array.replicate n v).all (·.isDefault)) = true := by
    rw [Array.all_replicate]
    split
    · rfl
    · exact hdef
  have hacts : allocActs (Array.replicate n v) U.heap.size acts = acts := by
    unfold allocActs
    rw [if_pos hall]
  have hsl : ∀ i x, (Array.replicate n v)[i]? = some x → U.fitsSlot cA .none i x = true := by
    intro i x hx
    rw [Array.getElem?_replicate] at hx
    split at hx
    · cases hx
      simp [State.fitsSlot, State.slotType?, hk, hkind, hfit]
    · cases hx
  unfold Jvm.newArray Jvm.arrayFits
  simp only [wp_bind', W.ask, W.ite, W.theClass, W.alloc, W.stop, wp_pure', g1, if_false, hk, hkind, g2, Option.some.injEq, exists_eq_left', Array.size_replicate, hacts]
  rw [if_neg (show ¬ n > e.platform.maxSlots by omega)]
  exact ⟨h1, h2, hsl, hq⟩
end
def rowf (h i : Nat) : Nat → Value := fun j => if j < i then .ref (h + 1 + j) else .null
def mf (T : State) (cA comp : ClassId) : Nat → State
  | 0 => T.pushCell (arrV cA 8 (rowf T.heap.size 0))
  | i + 1 => ((mf T cA comp i).pushCell (arrV comp 31 (fun _ => .int 0))).setCell T.heap.size ((arrV cA 8 (rowf T.heap.size i)).setSlot i (.ref (T.heap.size + 1 + i)))
theorem rowf_0 (h : Nat) : rowf h 0 = fun _ => .null := by
  funext j
  exact if_neg (by omega)
theorem rowf_s (cA : ClassId) (h i : Nat) : (arrV cA 8 (rowf h i)).setSlot i (.ref (h + 1 + i)) = arrV cA 8 (rowf h (i + 1)) := by
  rw [arrV_store]
  congr 1
  funext j
  unfold updV rowf
  by_cases e : j = i
  · rw [if_pos e, if_pos (by omega), e]
  · rw [if_neg e]
    by_cases g : j < i
    · rw [if_pos g, if_pos (by omega)]
    · rw [if_neg g, if_neg (by omega)]
theorem mf_top (T : State) (f : JFrame) (cA comp : ClassId) : ∀ i, mf (T.setTop f) cA comp i = (mf T cA comp i).setTop f
  | 0 => by
    unfold mf
    rw [State.heap_setTop, State.pushCell_setTop]
  | i + 1 => by
    show ((mf (T.setTop f) cA comp i).pushCell _).setCell (T.setTop f).heap.size _ = _
    rw [mf_top T f cA comp i, State.heap_setTop, State.pushCell_setTop, State.setCell_setTop]
    rfl
theorem mf_ok {p : Program} {l : Launch} {e : Env} {R : Room} {s : State} {m : MethodId} {args : Array Value} {below : List Frame} {meth : Method} {c : Code} {T : State} {locs : List Loc} {cells slots : Nat} (X : Stand p l e R s m args below meth c T locs cells slots) (cA comp : ClassId) : ∀ i, i ≤ 8 →
    (∃ L : List Loc, (∀ q ∈ L, q.base = T.heap.size) ∧ Stand p l e R s m args below meth c (mf T cA comp i) (locs ++ L) (cells + 1 + i) (slots + 8 + 31 * i)) ∧ (mf T cA comp i).vm = T.vm ∧ (mf T cA comp i).heap.size = T.heap.size + 1 + i ∧ (mf T cA comp i).heap[T.heap.size]? = some (arrV cA 8 (rowf T.heap.size i)) ∧ (∀ j, j < i → (mf T cA comp i).heap[T.heap.size + 1 + j]? = some (arrV comp 31 (fun _ => .int 0))) ∧ ∀ q, q < T.heap.size → (mf T cA comp i).heap[q]? = T.heap[q]? := by
  intro i
  induction i with
  | zero =>
    intro _
    refine ⟨⟨[], fun q hq => absurd hq List.not_mem_nil, ?_⟩, rfl, ?_, ?_, fun j hj => absurd hj (by omega), fun q hq => ?_⟩
    · have h := X.pushed (arrV cA 8 (rowf T.heap.size 0))
      rw [arrV_size] at h
      rw [List.append_nil]
      exact h
    · unfold mf
      simp
    · unfold mf
      simp
    · exact State.heap_pushCell_of_lt _ _ hq
  | succ i ih =>
    intro hi
    obtain ⟨⟨L, hL, Xi⟩, g2, g3, g4, g5, g6⟩ := ih (by omega)
    have hlt : T.heap.size < (mf T cA comp i).heap.size := by rw [g3]; omega
    have hcell : ((mf T cA comp i).pushCell (arrV comp 31 (fun _ => .int 0))).heap[T.heap.size]? = some (arrV cA 8 (rowf T.heap.size i)) := by
      rw [State.heap_pushCell_of_lt (h := hlt)]
      exact g4
    have h := (Xi.pushed (arrV comp 31 (fun _ => .int 0))).stored hcell i (.ref (T.heap.size + 1 + i))
    rw [arrV_size] at h
    refine ⟨⟨L ++ [⟨T.heap.size, i⟩], fun q hq => ?_, ?_⟩, g2, ?_, ?_, fun j hj => ?_, fun q hq => ?_⟩
    · rcases List.mem_append.mp hq with z | z
      · exact hL q z
      · rw [List.mem_singleton.mp z]
    · rw [← List.append_assoc, show slots + 8 + 31 * (i + 1) = slots + 8 + 31 * i + 31 by omega]
      exact h
    · show (((mf T cA comp i).pushCell _).setCell _ _).heap.size = _
      simp [State.setCell, g3]
      omega
    · show (((mf T cA comp i).pushCell _).setCell _ _).heap[_]? = _
      rw [State.heap_setCell_self hcell, rowf_s]
    · show (((mf T cA comp i).pushCell _).setCell _ _).heap[_]? = _
      rw [State.heap_setCell_other (show T.heap.size ≠ T.heap.size + 1 + j by omega)]
      by_cases e : j = i
      · rw [e, ← g3]
        exact State.heap_pushCell_size _ _
      · have hj2 : T.heap.size + 1 + j < (mf T cA comp i).heap.size := by rw [g3]; omega
        rw [State.heap_pushCell_of_lt (h := hj2)]
        exact g5 j (by omega)
    · show (((mf T cA comp i).pushCell _).setCell _ _).heap[_]? = _
      have hq2 : q < (mf T cA comp i).heap.size := by rw [g3]; omega
      rw [State.heap_setCell_other (show T.heap.size ≠ q by omega), State.heap_pushCell_of_lt (h := hq2)]
      exact g6 q hq
theorem W.mk2 {p : Program} {l : Launch} {e : Env} {R : Room} {s : State} {m : MethodId} {args : Array Value} {below : List Frame} {meth : Method} {c : Code} {H : Heap} {locs : List Loc} {cells slots : Nat} {Q : State → Prop} {cc : ByteArray} (hexec : p.tables.exec = Jvm.exec) (hb : c.code = cc) {own : String} {index : Nat} (hown : s.vm.findClass own = some m.cls) (hclink : (Cond.classLink own index ("[" ++ (FieldType.array .int).toString)).before args s = true) (hover : (Cond.arrayOver (.array .int)).before args s = true) (harr : (Cond.arrayClass .int).before args s = true)
    {pc : Nat} {ls : Array Slot} {rest : List Value} (hdg : decode cc pc = .ok (.multianewarray index 2, 4)) (hcells : cells + 9 ≤ R.cells) (hslots : slots + 256 ≤ R.slots)
    (kk : ∀ (H' : Heap) (locs' : List Loc) (cA comp : ClassId), s.vm.findClass ("[" ++ (FieldType.array .int).toString) = some cA → s.vm.findClass (FieldType.array .int).toString = some comp → H'.size = H.size + 9 → (∀ q, q < H.size → H'[q]? = H[q]?) → H'[H.size]? = some (arrV cA 8 (fun j => .ref (H.size + 1 + j))) → (∀ j, j < 8 → H'[H.size + 1 + j]? = some (arrV comp 31 (fun _ => .int 0))) → (∀ q ∈ locs', q ∈ locs ∨ q.base = H.size) → W p l e R s m args below meth c H' locs' (cells + 9) (slots + 256) Q (F0 m (pc + 4) ls (.ref H.size :: rest))) :
    W p l e R s m args below meth c H locs cells slots Q (F0 m pc ls (.int 31 :: .int 8 :: rest)) := by
  intro T hT X
  subst hT; subst hb
  have hpl : e.platform.magicAccessors = ({} : Platform).magicAccessors := by rw [X.admits.platform]
  obtain ⟨comp, cA, kA, hcomp, -, hkA, hkindA, hnameA⟩ := arrayOverA_spec hover
  obtain ⟨comp', kC, cc, hcomp', hkC, hkindC⟩ := Cond.arrayClass_spec harr
  cases Option.some.inj (hcomp'.symm.trans hcomp)
  obtain ⟨c0, hfc0, hcl⟩ := Cond.classLink_spec hown hclink e.platform hpl
  cases hnameA.symm.trans hfc0
  obtain ⟨hg₁, hwarm₁, hready₁⟩ := State.classEntry (e := e) X.warmed hcl
  generalize T.vm.noted m.cls index (.cls cA) = vm₁ at hg₁ hwarm₁ hready₁
  have hal : s.vm.Alike vm₁ := hwarm₁.alike
  obtain ⟨kA₁, hkA₁, heA⟩ := hal.2.2 _ _ hkA
  obtain ⟨kC₁, hkC₁, heC⟩ := hal.2.2 _ _ hkC
  have hkindA₁ : kA₁.kind = .array comp (.array .int) := by rw [heA]; exact hkindA
  have hkindC₁ : kC₁.kind = .array cc .int := by rw [heC]; exact hkindC
  have X₁ := X.noted hwarm₁
  have g81 : ¬ 8 > e.platform.arrayLengthLimit := by rw [Launch.admits_arrayLengthLimit X.admits]; decide
  have g82 : ¬ 8 * componentBytes (.array .int) > e.platform.maxHeapBytes := by rw [Launch.admits_maxHeapBytes X.admits]; decide
  have g31 : ¬ 31 > e.platform.arrayLengthLimit := by rw [Launch.admits_arrayLengthLimit X.admits]; decide
  have g32 : ¬ 31 * componentBytes .int > e.platform.maxHeapBytes := by rw [Launch.admits_maxHeapBytes X.admits]; decide
  have e8 : (8 : Int32).toNatClampNeg = 8 := by decide
  have e31 : (31 : Int32).toNatClampNeg = 31 := by decide
  have n8 : ¬ (8 : Int32) < 0 := by decide
  have n31 : ¬ (31 : Int32) < 0 := by decide
  have hfind : (([31] : List Int32).find? (· < 0)) = none := by decide
  obtain ⟨⟨L, hL, XF⟩, f2, f3, f4, f5, f6⟩ := mf_ok X₁ cA comp 8 (Nat.le_refl 8)
  have r8 : rowf T.heap.size 8 = fun j => if j < 8 then .ref (T.heap.size + 1 + j) else .null := rfl
  obtain ⟨t, a1, b1⟩ := kk (mf (T.setVm vm₁) cA comp 8).heap (locs ++ L) cA comp hnameA hcomp f3 f6 (by
      refine f4.trans ?_
      congr 1) f5 (fun q hq => (List.mem_append.mp hq).imp id (hL q)) (mf (T.setVm vm₁) cA comp 8) rfl XF
  refine ⟨t, ?_, b1⟩
  jvm_step X.here [hexec, hdg]
  simp only [multianewarray.sem, wp_bind']
  rw [W.resolveClassAt_links (e := e) (t := T.setTop (F0 m pc ls (.int 31 :: .int 8 :: rest))) (mm := m) (c := cA) (vm' := vm₁) (State.method?_setTop (s := T) (F0 m pc ls (.int 31 :: .int 8 :: rest)) X.here.top) hg₁]
  rw [wp_bind', W.popN, if_neg (by decide)]
  refine ⟨F0 m pc ls (.int 31 :: .int 8 :: rest), State.topJava?_setTop' (s := T.setVm vm₁) _ X.here.top, [.int 8, .int 31], rest, rfl, rfl, ?_⟩
  have eS : ((T.setTop (F0 m pc ls (.int 31 :: .int 8 :: rest))).setVm vm₁).setTop (F0 m pc ls rest) = (T.setVm vm₁).setTop (F0 m pc ls rest) := by
    show ((T.setVm vm₁).setTop (F0 m pc ls (.int 31 :: .int 8 :: rest))).setTop (F0 m pc ls rest) = _
    rw [State.setTop_setTop]
  simp only [List.mapM_cons, List.mapM_nil, wp_bind', wp_pure']
  show wp (multianewarray.make cA [8, 31]) _ _ e _ _ (((T.setTop (F0 m pc ls (.int 31 :: .int 8 :: rest))).setVm vm₁).setTop (F0 m pc ls rest))
  rw [eS]
  have hkA₂ : ((T.setVm vm₁).setTop (F0 m pc ls rest)).vm.classes[cA]? = some kA₁ := hkA₁
  obtain ⟨ra, rb⟩ := X₁.roomAbove (a := 1) (b := 8) (by omega) (by omega)
  rw [multianewarray.make]
  simp only [wp_bind', W.ite, n8, if_false, wp_pure', W.theClass, hkA₂, hkindA₁, Option.some.injEq, exists_eq_left', e8]
  refine mk_na hkA₂ hkindA₁ rfl rfl g81 g82 (by rw [State.heap_setTop]; omega) (by rw [State.slotsUsed_setTop]; exact rb) ?_
  simp only [hfind]
  rw [ite_self, wp_bind', Std.Legacy.Range.forIn_eq_forIn_range']
  rw [show ([:8] : Std.Legacy.Range).size = 8 from rfl]
  show wp (forIn (List.range' 0 8 1) PUnit.unit _) _ _ e _ _ _
  refine wp_forIn_inv (fun r st => ∃ i, i ≤ 8 ∧ r = List.range' i (8 - i) ∧ st = (mf (T.setVm vm₁) cA comp i).setTop (F0 m pc ls rest)) _ _ ⟨0, by decide, rfl, ?_⟩ ?_ ?_
  · rw [State.pushCell_setTop]
    show _ = ((T.setVm vm₁).pushCell _).setTop _
    rw [rowf_0, ← arrV_new]
  · rintro x r st d' acts' Q' ⟨i, hi, hr, rfl⟩ hnext
    have hlt : i < 8 := by
      rcases Nat.lt_or_ge i 8 with h | h
      · exact h
      · rw [show 8 - i = 0 by omega] at hr
        cases hr
    rw [show 8 - i = (8 - (i + 1)) + 1 by omega, List.range'_succ] at hr
    obtain ⟨rfl, hrest⟩ := List.cons.inj hr
    obtain ⟨⟨L1, -, Xi⟩, q2, q3, q4, q5, q6⟩ := mf_ok X₁ cA comp x (by omega)
    have hk2 : ((mf (T.setVm vm₁) cA comp x).setTop (F0 m pc ls rest)).vm.classes[comp]? = some kC₁ := by
      show (mf (T.setVm vm₁) cA comp x).vm.classes[comp]? = _
      rw [q2]
      exact hkC₁
    obtain ⟨rc, rd⟩ := Xi.roomAbove (a := 1) (b := 31) (by omega) (by omega)
    simp only [wp_bind']
    rw [multianewarray.make]
    simp only [wp_bind', W.ite, n31, if_false, wp_pure', W.theClass, hk2, hkindC₁, Option.some.injEq, exists_eq_left', e31]
    refine mk_na hk2 hkindC₁ rfl rfl g31 g32 (by rw [State.heap_setTop]; omega) (by rw [State.slotsUsed_setTop]; exact rd) ?_
    have hl0 : T.heap.size < (mf (T.setVm vm₁) cA comp x).heap.size := by rw [q3]; show T.heap.size < T.heap.size + 1 + x; omega
    have hcell : ((mf (T.setVm vm₁) cA comp x).pushCell (arrV comp 31 (fun _ => .int 0))).heap[T.heap.size]? = some (arrV cA 8 (rowf T.heap.size x)) := by
      rw [State.heap_pushCell_of_lt (h := hl0)]
      exact q4
    rw [State.heap_setTop, State.pushCell_setTop, arrV_new]
    simp only [wp_bind', W.writeLoc, wp_pure']
    refine ⟨arrV cA 8 (rowf T.heap.size x), hcell, (fun z => by cases z), (by rw [arrV_size]; exact hlt), ?_, hnext _ _ _ ⟨x + 1, hlt, hrest, ?_⟩⟩
    · show State.fitsSlot _ cA .none x _ = true
      have hk3 : (mf (T.setVm vm₁) cA comp x).vm.classes[cA]? = some kA₁ := by
        rw [q2]
        exact hkA₁
      simp [State.fitsSlot, State.slotType?, hk3, hkindA₁]
      rfl
    · rw [State.heap_setTop, State.setCell_setTop, q3]
      rfl
  · rintro st d' acts' ⟨i, hi, hr, rfl⟩
    have h8 : i = 8 := by
      rcases Nat.lt_or_ge i 8 with h | h
      · rw [show 8 - i = (8 - (i + 1)) + 1 by omega, List.range'_succ] at hr
        cases hr
      · omega
    subst h8
    simp only [wp_bind', wp_pure', W.mark, W.pushRef, State.topJava?_setTop' _ XF.here.top, Option.some.injEq, exists_eq_left', State.setTop_setTop, State.heap_setTop]
    intro acts
    simp [jvm, XF.here.top]
    exact a1
section
variable {w : Wx} {ba : Nat} {G : Gx} {cc : ByteArray} {own : String} {fr lo nl rc rs pc : Nat} {lv : List (Nat × Value)} {st : List Value} {E : Nat → va_E} {N cs sl : Nat}
def mkE (w : Wx) (E : Nat → va_E) (N : Nat) : Nat → va_E := fun j => if j = N then .inl (w.2.2.2.2.2.1, 8, .inr (.inr (.inr (.inr (fun i => some (w.2.1 (N + 1 + i))))))) else if N < j ∧ j < N + 9 then .inl (w.2.2.1, 31, .inl (fun _ => 0)) else E j
theorem g_mk2 (C : CG w ba G cc own fr lo nl rc rs) {i : Nat} (hcl : Cond.classLink own i "[[I" ∈ lwg) (hc : cs + 9 ≤ rc) (hs : sl + 256 ≤ rs) (hd : decode cc pc = .ok (.multianewarray i 2, 4)) (kk : VG w ba G (pc + 4) lv (.ref (w.2.1 N) :: st) (mkE w E N) (N + 9) (cs + 9) (sl + 256)) : VG w ba G pc lv (.int 31 :: .int 8 :: st) E N cs sl := by
  obtain ⟨p, l, e, R, s, m, args, below, meth, c, Q, nL, cells, slots⟩ := G
  obtain ⟨hx, hb, hml, hown, hts, hy, hsz, hRf, hRl, hRc, hRs, hnl⟩ := C
  intro H locs ls hz hP hS hl
  have hN : H.size = w.2.1 N := by rw [hy.1]; exact hz.2.symm
  refine W.mk2 hx hb hown (hts _ hcl) hy.2.2.2.2 (hts _ ac_int) hd (by rw [hRc]; exact hc) (by rw [hRs]; exact hs) (fun H1 locs1 cA comp f1 f2 z1 o1 e1 e2 hL => ?_)
  have hcA : cA = w.2.2.2.2.2.1 := Option.some.inj (f1.symm.trans (hy.2.1.2 3 _ rfl).2)
  have hco : comp = w.2.2.1 := Option.some.inj (f2.symm.trans (hy.2.1.2 0 _ rfl).2)
  rw [hcA] at e1
  rw [hco] at e2
  have wN : ∀ j, w.2.1 j = ba + j := fun j => by rw [hy.1]
  have k1 := kk H1 locs1 ls (by rw [z1]; omega) (fun k q hq => ?_) ⟨by rw [z1]; exact Nat.le_trans hS.1 (by omega), fun q h1 h2 => (o1 q (Nat.lt_of_lt_of_le h1 hS.1)).trans (hS.2.1 q h1 h2), fun q hq => ?_⟩ hl
  · rw [← hN] at k1
    exact k1
  · obtain ⟨h1, rfl⟩ := glw_of hq
    by_cases hk : k = N
    · have hm : mkE w E N k = .inl (w.2.2.2.2.2.1, 8, .inr (.inr (.inr (.inr (fun i => some (w.2.1 (N + 1 + i))))))) := if_pos hk
      rw [hm, hk, ← hN]
      show H1[H.size]? = some (arrV w.2.2.2.2.2.1 8 (fun j => .ref (w.2.1 (N + 1 + j))))
      rw [e1]
      congr 1
      congr 1
      funext j
      rw [show w.2.1 (N + 1 + j) = H.size + 1 + j by rw [hN, wN, wN]; omega]
    · by_cases hj : N < k ∧ k < N + 9
      · have hm : mkE w E N k = .inl (w.2.2.1, 31, .inl (fun _ => 0)) := (if_neg hk).trans (if_pos hj)
        rw [hm]
        show H1[w.2.1 k]? = some (arrV w.2.2.1 31 (fun _ => .int 0))
        rw [show w.2.1 k = H.size + 1 + (k - (N + 1)) by rw [hN, wN, wN]; omega]
        exact e2 _ (by omega)
      · have hm : mkE w E N k = E k := (if_neg hk).trans (if_neg hj)
        rw [hm]
        have h2 := hP k _ (glw_get w E (show k < N by omega))
        exact h2.kept (o1 _ h2.lt)
  · rcases hL q hq with z | z
    · exact hS.2.2 q z
    · show ba ≤ q.base
      rw [z, hN, wN]
      omega
end
