def Rcv (w : Wx) (k : Nat) (cls : String) : Prop := k < 233 ∧ ∃ (ci : Nat) (q : vw_C), vwCl[ci]? = some q ∧ q.1 = cls ∧ ∀ M : Mem, ∃ fs : List Value, en w M k = .inr (ci, fs)
theorem rcv0 {w : Wx} {k : Nat} (h : k < 233) (h2 : kd k = 0) : Rcv w k RX0 := ⟨h, 0, _, rfl, rfl, fun M => ⟨_, en_k h2⟩⟩
theorem rcv1 {w : Wx} {k : Nat} (h : k < 233) (h2 : kd k = 1) : Rcv w k RX1 := ⟨h, 1, _, rfl, rfl, fun M => ⟨_, en_k h2⟩⟩
theorem rcv2 {w : Wx} {k : Nat} (h : k < 233) (h2 : kd k = 2) : Rcv w k RX3 := ⟨h, 2, _, rfl, rfl, fun M => ⟨_, en_k h2⟩⟩
theorem rcv3 {w : Wx} {k : Nat} (h : k < 233) (h2 : kd k = 3) : Rcv w k RX4 := ⟨h, 3, _, rfl, rfl, fun M => ⟨_, en_k h2⟩⟩
theorem rcv4 {w : Wx} {k : Nat} (h : k < 233) (h2 : kd k = 4) : Rcv w k RX5 := ⟨h, 4, _, rfl, rfl, fun M => ⟨_, en_k h2⟩⟩
theorem rcv5 {w : Wx} {k : Nat} (h : k < 233) (h2 : kd k = 5) : Rcv w k RX6 := ⟨h, 5, _, rfl, rfl, fun M => ⟨_, en_k h2⟩⟩
theorem rcv6 {w : Wx} {k : Nat} (h : k < 233) (h2 : kd k = 6) : Rcv w k RX7 := ⟨h, 6, _, rfl, rfl, fun M => ⟨_, en_k h2⟩⟩
theorem rcv7 {w : Wx} {k : Nat} (h : k < 233) (h2 : kd k = 7) : Rcv w k RX8 := ⟨h, 7, _, rfl, rfl, fun M => ⟨_, en_k h2⟩⟩
theorem rcv8 {w : Wx} {k : Nat} (h : k < 233) (h2 : kd k = 8) : Rcv w k RX9 := ⟨h, 8, _, rfl, rfl, fun M => ⟨_, en_k h2⟩⟩
theorem rcv9 {w : Wx} {k : Nat} (h : k < 233) (h2 : kd k = 9) : Rcv w k RX10 := ⟨h, 9, _, rfl, rfl, fun M => ⟨_, en_k h2⟩⟩
section
variable {w : Wx} {G : Gx} {cc : ByteArray} {own : String} {fr lo nl pc : Nat} {lv : List (Nat × Value)} {st : List Value} {M : Mem}
theorem V.sub {lv' : List (Nat × Value)} (ks : List Nat) (h : lv_pick lv ks = lv') (k : V w G pc lv' st M) : V w G pc lv st M := by
  obtain ⟨p, l, e, R, s, m, args, below, meth, c, Q, nL, cells, slots⟩ := G
  intro H locs ls hP hS hl
  exact k H locs ls hP hS (lv_sub hl ks h)
theorem V.eqM {M' : Mem} (h : M = M') (k : V w G pc lv st M') : V w G pc lv st M := h ▸ k
theorem V.eqS {st' : List Value} (h : st = st') (k : V w G pc lv st' M) : V w G pc lv st M := h ▸ k
theorem v_iconst (C : Cx w G cc own fr lo nl) {n : Int} {v : Int32} (hd : decode cc pc = .ok (.iconst n, 1)) (k : V w G (pc + 1) lv (.int (Int32.ofInt n) :: st) M) : V w G pc lv (st) M := by
  obtain ⟨p, l, e, R, s, m, args, below, meth, c, Q, nL, cells, slots⟩ := G
  obtain ⟨hx, hb, hml, hown, hts, hy, hRf, hRl, hRc, hRs, hnl⟩ := C
  intro H locs ls hP hS hl
  exact lv_iconst hx hb hd rfl (k H locs ls hP hS hl)
theorem v_bipush (C : Cx w G cc own fr lo nl) {n : Int} (hd : decode cc pc = .ok (.bipush n, 2)) (k : V w G (pc + 2) lv (.int (Int8.ofInt n).toInt32 :: st) M) : V w G pc lv (st) M := by
  obtain ⟨p, l, e, R, s, m, args, below, meth, c, Q, nL, cells, slots⟩ := G
  obtain ⟨hx, hb, hml, hown, hts, hy, hRf, hRl, hRc, hRs, hnl⟩ := C
  intro H locs ls hP hS hl
  exact lv_bipush hx hb hd rfl (k H locs ls hP hS hl)
theorem v_sipush (C : Cx w G cc own fr lo nl) {n : Int} (hd : decode cc pc = .ok (.sipush n, 3)) (k : V w G (pc + 3) lv (.int (Int16.ofInt n).toInt32 :: st) M) : V w G pc lv (st) M := by
  obtain ⟨p, l, e, R, s, m, args, below, meth, c, Q, nL, cells, slots⟩ := G
  obtain ⟨hx, hb, hml, hown, hts, hy, hRf, hRl, hRc, hRs, hnl⟩ := C
  intro H locs ls hP hS hl
  exact lv_sipush hx hb hd rfl (k H locs ls hP hS hl)
theorem v_kc (C : Cx w G cc own fr lo nl) {n : Int} (v : Int32) (hv : Int32.ofInt n = v) (hd : decode cc pc = .ok (.iconst n, 1)) (k : V w G (pc + 1) lv (.int v :: st) M) : V w G pc lv st M := by
  obtain ⟨p, l, e, R, s, m, args, below, meth, c, Q, nL, cells, slots⟩ := G
  obtain ⟨hx, hb, hml, hown, hts, hy, hRf, hRl, hRc, hRs, hnl⟩ := C
  intro H locs ls hP hS hl
  exact lv_iconst hx hb hd hv (k H locs ls hP hS hl)
theorem v_kb (C : Cx w G cc own fr lo nl) {n : Int} (v : Int32) (hv : (Int8.ofInt n).toInt32 = v) (hd : decode cc pc = .ok (.bipush n, 2)) (k : V w G (pc + 2) lv (.int v :: st) M) : V w G pc lv st M := by
  obtain ⟨p, l, e, R, s, m, args, below, meth, c, Q, nL, cells, slots⟩ := G
  obtain ⟨hx, hb, hml, hown, hts, hy, hRf, hRl, hRc, hRs, hnl⟩ := C
  intro H locs ls hP hS hl
  exact lv_bipush hx hb hd hv (k H locs ls hP hS hl)
theorem v_ks (C : Cx w G cc own fr lo nl) {n : Int} (v : Int32) (hv : (Int16.ofInt n).toInt32 = v) (hd : decode cc pc = .ok (.sipush n, 3)) (k : V w G (pc + 3) lv (.int v :: st) M) : V w G pc lv st M := by
  obtain ⟨p, l, e, R, s, m, args, below, meth, c, Q, nL, cells, slots⟩ := G
  obtain ⟨hx, hb, hml, hown, hts, hy, hRf, hRl, hRc, hRs, hnl⟩ := C
  intro H locs ls hP hS hl
  exact lv_sipush hx hb hd hv (k H locs ls hP hS hl)
theorem v_lconst (C : Cx w G cc own fr lo nl) {n : Fin 2} (v : Int64) (hv : Int64.ofNat (n : Nat) = v) (hd : decode cc pc = .ok (.lconst n, 1)) (k : V w G (pc + 1) lv (.long v :: st) M) : V w G pc lv st M := by
  obtain ⟨p, l, e, R, s, m, args, below, meth, c, Q, nL, cells, slots⟩ := G
  obtain ⟨hx, hb, hml, hown, hts, hy, hRf, hRl, hRc, hRs, hnl⟩ := C
  intro H locs ls hP hS hl
  exact lv_lconst hx hb hd hv (k H locs ls hP hS hl)
theorem v_ldc (C : Cx w G cc own fr lo nl) {i : Nat} {v : Int32} (h : Cond.constant own i v ∈ lwg) (hd : decode cc pc = .ok (.ldc i, 2)) (k : V w G (pc + 2) lv (.int v :: st) M) : V w G pc lv st M := by
  obtain ⟨p, l, e, R, s, m, args, below, meth, c, Q, nL, cells, slots⟩ := G
  obtain ⟨hx, hb, hml, hown, hts, hy, hRf, hRl, hRc, hRs, hnl⟩ := C
  intro H locs ls hP hS hl
  exact lv_ldc hx hb hown (hts _ h) hd (k H locs ls hP hS hl)
theorem v_ldcw (C : Cx w G cc own fr lo nl) {i : Nat} {v : Int32} (h : Cond.constant own i v ∈ lwg) (hd : decode cc pc = .ok (.ldc_w i, 3)) (k : V w G (pc + 3) lv (.int v :: st) M) : V w G pc lv st M := by
  obtain ⟨p, l, e, R, s, m, args, below, meth, c, Q, nL, cells, slots⟩ := G
  obtain ⟨hx, hb, hml, hown, hts, hy, hRf, hRl, hRc, hRs, hnl⟩ := C
  intro H locs ls hP hS hl
  exact lv_ldcw hx hb hown (hts _ h) hd (k H locs ls hP hS hl)
theorem v_ldc2 (C : Cx w G cc own fr lo nl) {i : Nat} {v : Int64} (h : Cond.constantLong own i v ∈ lwg) (hd : decode cc pc = .ok (.ldc2_w i, 3)) (k : V w G (pc + 3) lv (.long v :: st) M) : V w G pc lv st M := by
  obtain ⟨p, l, e, R, s, m, args, below, meth, c, Q, nL, cells, slots⟩ := G
  obtain ⟨hx, hb, hml, hown, hts, hy, hRf, hRl, hRc, hRs, hnl⟩ := C
  intro H locs ls hP hS hl
  exact lv_ldc2 hx hb hown (hts _ h) hd (k H locs ls hP hS hl)
theorem v_iload_n (C : Cx w G cc own fr lo nl) {n : Fin 4} (j : Nat) {x : Int32} (hj : lv[j]? = some ((n : Nat), .int x)) (hd : decode cc pc = .ok (.iload_n n, 1)) (k : V w G (pc + 1) lv (.int x :: st) M) : V w G pc lv st M := by
  obtain ⟨p, l, e, R, s, m, args, below, meth, c, Q, nL, cells, slots⟩ := G
  obtain ⟨hx, hb, hml, hown, hts, hy, hRf, hRl, hRc, hRs, hnl⟩ := C
  intro H locs ls hP hS hl
  exact lv_iload_n hx hb hd rfl (lv_at hl j hj) (k H locs ls hP hS hl)
theorem v_iload (C : Cx w G cc own fr lo nl) {n : Nat} (j : Nat) {x : Int32} (hj : lv[j]? = some (n, .int x)) (hd : decode cc pc = .ok (.iload n, 2)) (k : V w G (pc + 2) lv (.int x :: st) M) : V w G pc lv st M := by
  obtain ⟨p, l, e, R, s, m, args, below, meth, c, Q, nL, cells, slots⟩ := G
  obtain ⟨hx, hb, hml, hown, hts, hy, hRf, hRl, hRc, hRs, hnl⟩ := C
  intro H locs ls hP hS hl
  exact lv_iload hx hb hd (lv_at hl j hj) (k H locs ls hP hS hl)
theorem v_lload_n (C : Cx w G cc own fr lo nl) {n : Fin 4} (j : Nat) {x : Int64} (hj : lv[j]? = some ((n : Nat), .long x)) (hd : decode cc pc = .ok (.lload_n n, 1)) (k : V w G (pc + 1) lv (.long x :: st) M) : V w G pc lv st M := by
  obtain ⟨p, l, e, R, s, m, args, below, meth, c, Q, nL, cells, slots⟩ := G
  obtain ⟨hx, hb, hml, hown, hts, hy, hRf, hRl, hRc, hRs, hnl⟩ := C
  intro H locs ls hP hS hl
  exact lv_lload_n hx hb hd rfl (lv_at hl j hj) (k H locs ls hP hS hl)
theorem v_lload (C : Cx w G cc own fr lo nl) {n : Nat} (j : Nat) {x : Int64} (hj : lv[j]? = some (n, .long x)) (hd : decode cc pc = .ok (.lload n, 2)) (k : V w G (pc + 2) lv (.long x :: st) M) : V w G pc lv st M := by
  obtain ⟨p, l, e, R, s, m, args, below, meth, c, Q, nL, cells, slots⟩ := G
  obtain ⟨hx, hb, hml, hown, hts, hy, hRf, hRl, hRc, hRs, hnl⟩ := C
  intro H locs ls hP hS hl
  exact lv_lload hx hb hd (lv_at hl j hj) (k H locs ls hP hS hl)
theorem v_aload_n (C : Cx w G cc own fr lo nl) {n : Fin 4} (j : Nat) {x : Nat} (hj : lv[j]? = some ((n : Nat), .ref x)) (hd : decode cc pc = .ok (.aload_n n, 1)) (k : V w G (pc + 1) lv (.ref x :: st) M) : V w G pc lv st M := by
  obtain ⟨p, l, e, R, s, m, args, below, meth, c, Q, nL, cells, slots⟩ := G
  obtain ⟨hx, hb, hml, hown, hts, hy, hRf, hRl, hRc, hRs, hnl⟩ := C
  intro H locs ls hP hS hl
  exact lv_aload_n hx hb hd rfl (lv_at hl j hj) (k H locs ls hP hS hl)
theorem v_aload (C : Cx w G cc own fr lo nl) {n : Nat} (j : Nat) {x : Nat} (hj : lv[j]? = some (n, .ref x)) (hd : decode cc pc = .ok (.aload n, 2)) (k : V w G (pc + 2) lv (.ref x :: st) M) : V w G pc lv st M := by
  obtain ⟨p, l, e, R, s, m, args, below, meth, c, Q, nL, cells, slots⟩ := G
  obtain ⟨hx, hb, hml, hown, hts, hy, hRf, hRl, hRc, hRs, hnl⟩ := C
  intro H locs ls hP hS hl
  exact lv_aload hx hb hd (lv_at hl j hj) (k H locs ls hP hS hl)
theorem v_istore_n (C : Cx w G cc own fr lo nl) {n : Fin 4} {x : Int32} (lv' : List (Nat × Value)) (hl : ((n : Nat), Value.int x) :: lv.filter (fun q => !(q.1 == (n : Nat)) && !(q.1 + 1 == (n : Nat) && q.2.category == 2)) = lv') (hn : (n : Nat) < nl) (hd : decode cc pc = .ok (.istore_n n, 1)) (k : V w G (pc + 1) lv' st M) : V w G pc lv (.int x :: st) M := by
  obtain ⟨p, l, e, R, s, m, args, below, meth, c, Q, nL, cells, slots⟩ := G
  obtain ⟨hx, hb, hml, hown, hts, hy, hRf, hRl, hRc, hRs, hnl⟩ := C
  intro H locs ls hP hS hls
  exact lv_istore_n hx hb hd rfl hls (by rw [hnl]; exact hn) hl (fun ls hl => k H locs ls hP hS hl)
theorem v_istore (C : Cx w G cc own fr lo nl) {n : Nat} {x : Int32} (lv' : List (Nat × Value)) (hl : (n, Value.int x) :: lv.filter (fun q => !(q.1 == n) && !(q.1 + 1 == n && q.2.category == 2)) = lv') (hn : n < nl) (hd : decode cc pc = .ok (.istore n, 2)) (k : V w G (pc + 2) lv' st M) : V w G pc lv (.int x :: st) M := by
  obtain ⟨p, l, e, R, s, m, args, below, meth, c, Q, nL, cells, slots⟩ := G
  obtain ⟨hx, hb, hml, hown, hts, hy, hRf, hRl, hRc, hRs, hnl⟩ := C
  intro H locs ls hP hS hls
  exact lv_istore hx hb hd hls (by rw [hnl]; exact hn) hl (fun ls hl => k H locs ls hP hS hl)
theorem v_astore_n (C : Cx w G cc own fr lo nl) {n : Fin 4} {x : Nat} (lv' : List (Nat × Value)) (hl : ((n : Nat), Value.ref x) :: lv.filter (fun q => !(q.1 == (n : Nat)) && !(q.1 + 1 == (n : Nat) && q.2.category == 2)) = lv') (hn : (n : Nat) < nl) (hd : decode cc pc = .ok (.astore_n n, 1)) (k : V w G (pc + 1) lv' st M) : V w G pc lv (.ref x :: st) M := by
  obtain ⟨p, l, e, R, s, m, args, below, meth, c, Q, nL, cells, slots⟩ := G
  obtain ⟨hx, hb, hml, hown, hts, hy, hRf, hRl, hRc, hRs, hnl⟩ := C
  intro H locs ls hP hS hls
  exact lv_astore_n hx hb hd rfl hls (by rw [hnl]; exact hn) hl (fun ls hl => k H locs ls hP hS hl)
theorem v_astore (C : Cx w G cc own fr lo nl) {n : Nat} {x : Nat} (lv' : List (Nat × Value)) (hl : (n, Value.ref x) :: lv.filter (fun q => !(q.1 == n) && !(q.1 + 1 == n && q.2.category == 2)) = lv') (hn : n < nl) (hd : decode cc pc = .ok (.astore n, 2)) (k : V w G (pc + 2) lv' st M) : V w G pc lv (.ref x :: st) M := by
  obtain ⟨p, l, e, R, s, m, args, below, meth, c, Q, nL, cells, slots⟩ := G
  obtain ⟨hx, hb, hml, hown, hts, hy, hRf, hRl, hRc, hRs, hnl⟩ := C
  intro H locs ls hP hS hls
  exact lv_astore hx hb hd hls (by rw [hnl]; exact hn) hl (fun ls hl => k H locs ls hP hS hl)
theorem v_lstore_n (C : Cx w G cc own fr lo nl) {n : Fin 4} {x : Int64} (lv' : List (Nat × Value)) (hl : ((n : Nat), Value.long x) :: lv.filter (fun q => !(q.1 == (n : Nat)) && (!(q.1 == (n : Nat) + 1) && !(q.1 + 1 == (n : Nat) && q.2.category == 2))) = lv') (hn : (n : Nat) + 1 < nl) (hd : decode cc pc = .ok (.lstore_n n, 1)) (k : V w G (pc + 1) lv' st M) : V w G pc lv (.long x :: st) M := by
  obtain ⟨p, l, e, R, s, m, args, below, meth, c, Q, nL, cells, slots⟩ := G
  obtain ⟨hx, hb, hml, hown, hts, hy, hRf, hRl, hRc, hRs, hnl⟩ := C
  intro H locs ls hP hS hls
  exact lv_lstore_n hx hb hd rfl hls (by rw [hnl]; exact hn) hl (fun ls hl => k H locs ls hP hS hl)
theorem v_iinc (C : Cx w G cc own fr lo nl) {n j : Nat} {d : Int} {x : Int32} (lv' : List (Nat × Value)) (hj : lv[j]? = some (n, .int x)) (v : Int32) (hv : x + Int32.ofInt d = v) (hl : (n, Value.int v) :: lv.filter (fun q => !(q.1 == n) && !(q.1 + 1 == n && q.2.category == 2)) = lv') (hn : n < nl) (hd : decode cc pc = .ok (.iinc n d, 3)) (k : V w G (pc + 3) lv' st M) : V w G pc lv st M := by
  obtain ⟨p, l, e, R, s, m, args, below, meth, c, Q, nL, cells, slots⟩ := G
  obtain ⟨hx, hb, hml, hown, hts, hy, hRf, hRl, hRc, hRs, hnl⟩ := C
  intro H locs ls hP hS hls
  exact lv_iinc hx hb hd hls hj hv (by rw [hnl]; exact hn) hl (fun ls hl => k H locs ls hP hS hl)
theorem v_iadd (C : Cx w G cc own fr lo nl) {x y : Int32} (hd : decode cc pc = .ok (.iadd, 1)) (k : V w G (pc + 1) lv (.int (x + y) :: st) M) : V w G pc lv (.int y :: .int x :: st) M := by
  obtain ⟨p, l, e, R, s, m, args, below, meth, c, Q, nL, cells, slots⟩ := G
  obtain ⟨hx, hb, hml, hown, hts, hy, hRf, hRl, hRc, hRs, hnl⟩ := C
  intro H locs ls hP hS hl
  exact lv_iadd hx hb hd (k H locs ls hP hS hl)
theorem v_isub (C : Cx w G cc own fr lo nl) {x y : Int32} (hd : decode cc pc = .ok (.isub, 1)) (k : V w G (pc + 1) lv (.int (x - y) :: st) M) : V w G pc lv (.int y :: .int x :: st) M := by
  obtain ⟨p, l, e, R, s, m, args, below, meth, c, Q, nL, cells, slots⟩ := G
  obtain ⟨hx, hb, hml, hown, hts, hy, hRf, hRl, hRc, hRs, hnl⟩ := C
  intro H locs ls hP hS hl
  exact lv_isub hx hb hd (k H locs ls hP hS hl)
theorem v_imul (C : Cx w G cc own fr lo nl) {x y : Int32} (hd : decode cc pc = .ok (.imul, 1)) (k : V w G (pc + 1) lv (.int (x * y) :: st) M) : V w G pc lv (.int y :: .int x :: st) M := by
  obtain ⟨p, l, e, R, s, m, args, below, meth, c, Q, nL, cells, slots⟩ := G
  obtain ⟨hx, hb, hml, hown, hts, hy, hRf, hRl, hRc, hRs, hnl⟩ := C
  intro H locs ls hP hS hl
  exact lv_imul hx hb hd (k H locs ls hP hS hl)
theorem v_iand (C : Cx w G cc own fr lo nl) {x y : Int32} (hd : decode cc pc = .ok (.iand, 1)) (k : V w G (pc + 1) lv (.int (x &&& y) :: st) M) : V w G pc lv (.int y :: .int x :: st) M := by
  obtain ⟨p, l, e, R, s, m, args, below, meth, c, Q, nL, cells, slots⟩ := G
  obtain ⟨hx, hb, hml, hown, hts, hy, hRf, hRl, hRc, hRs, hnl⟩ := C
  intro H locs ls hP hS hl
  exact lv_iand hx hb hd (k H locs ls hP hS hl)
theorem v_ior (C : Cx w G cc own fr lo nl) {x y : Int32} (hd : decode cc pc = .ok (.ior, 1)) (k : V w G (pc + 1) lv (.int (x ||| y) :: st) M) : V w G pc lv (.int y :: .int x :: st) M := by
  obtain ⟨p, l, e, R, s, m, args, below, meth, c, Q, nL, cells, slots⟩ := G
  obtain ⟨hx, hb, hml, hown, hts, hy, hRf, hRl, hRc, hRs, hnl⟩ := C
  intro H locs ls hP hS hl
  exact lv_ior hx hb hd (k H locs ls hP hS hl)
theorem v_ixor (C : Cx w G cc own fr lo nl) {x y : Int32} (hd : decode cc pc = .ok (.ixor, 1)) (k : V w G (pc + 1) lv (.int (x ^^^ y) :: st) M) : V w G pc lv (.int y :: .int x :: st) M := by
  obtain ⟨p, l, e, R, s, m, args, below, meth, c, Q, nL, cells, slots⟩ := G
  obtain ⟨hx, hb, hml, hown, hts, hy, hRf, hRl, hRc, hRs, hnl⟩ := C
  intro H locs ls hP hS hl
  exact lv_ixor hx hb hd (k H locs ls hP hS hl)
theorem v_ishl (C : Cx w G cc own fr lo nl) {x y : Int32} (hd : decode cc pc = .ok (.ishl, 1)) (k : V w G (pc + 1) lv (.int (x <<< (y &&& 31)) :: st) M) : V w G pc lv (.int y :: .int x :: st) M := by
  obtain ⟨p, l, e, R, s, m, args, below, meth, c, Q, nL, cells, slots⟩ := G
  obtain ⟨hx, hb, hml, hown, hts, hy, hRf, hRl, hRc, hRs, hnl⟩ := C
  intro H locs ls hP hS hl
  exact lv_ishl hx hb hd (k H locs ls hP hS hl)
theorem v_ishr (C : Cx w G cc own fr lo nl) {x y : Int32} (hd : decode cc pc = .ok (.ishr, 1)) (k : V w G (pc + 1) lv (.int (x >>> (y &&& 31)) :: st) M) : V w G pc lv (.int y :: .int x :: st) M := by
  obtain ⟨p, l, e, R, s, m, args, below, meth, c, Q, nL, cells, slots⟩ := G
  obtain ⟨hx, hb, hml, hown, hts, hy, hRf, hRl, hRc, hRs, hnl⟩ := C
  intro H locs ls hP hS hl
  exact lv_ishr hx hb hd (k H locs ls hP hS hl)
theorem v_iushr (C : Cx w G cc own fr lo nl) {x y : Int32} (hd : decode cc pc = .ok (.iushr, 1)) (k : V w G (pc + 1) lv (.int (x.toUInt32 >>> (y.toUInt32 &&& Int32.toUInt32 31)).toInt32 :: st) M) : V w G pc lv (.int y :: .int x :: st) M := by
  obtain ⟨p, l, e, R, s, m, args, below, meth, c, Q, nL, cells, slots⟩ := G
  obtain ⟨hx, hb, hml, hown, hts, hy, hRf, hRl, hRc, hRs, hnl⟩ := C
  intro H locs ls hP hS hl
  exact lv_iushr hx hb hd rfl (k H locs ls hP hS hl)
theorem v_ineg (C : Cx w G cc own fr lo nl) {x : Int32} (hd : decode cc pc = .ok (.ineg, 1)) (k : V w G (pc + 1) lv (.int (-x) :: st) M) : V w G pc lv (.int x :: st) M := by
  obtain ⟨p, l, e, R, s, m, args, below, meth, c, Q, nL, cells, slots⟩ := G
  obtain ⟨hx, hb, hml, hown, hts, hy, hRf, hRl, hRc, hRs, hnl⟩ := C
  intro H locs ls hP hS hl
  exact lv_ineg hx hb hd (k H locs ls hP hS hl)
theorem v_idiv (C : Cx w G cc own fr lo nl) {x y : Int32} (hne : ¬ y = 0) (hd : decode cc pc = .ok (.idiv, 1)) (k : V w G (pc + 1) lv (.int (x / y) :: st) M) : V w G pc lv (.int y :: .int x :: st) M := by
  obtain ⟨p, l, e, R, s, m, args, below, meth, c, Q, nL, cells, slots⟩ := G
  obtain ⟨hx, hb, hml, hown, hts, hy, hRf, hRl, hRc, hRs, hnl⟩ := C
  intro H locs ls hP hS hl
  exact lv_idiv hx hb hd hne (k H locs ls hP hS hl)
theorem v_irem (C : Cx w G cc own fr lo nl) {x y : Int32} (hne : ¬ y = 0) (hd : decode cc pc = .ok (.irem, 1)) (k : V w G (pc + 1) lv (.int (x - x / y * y) :: st) M) : V w G pc lv (.int y :: .int x :: st) M := by
  obtain ⟨p, l, e, R, s, m, args, below, meth, c, Q, nL, cells, slots⟩ := G
  obtain ⟨hx, hb, hml, hown, hts, hy, hRf, hRl, hRc, hRs, hnl⟩ := C
  intro H locs ls hP hS hl
  exact lv_irem hx hb hd hne (k H locs ls hP hS hl)
theorem v_ladd (C : Cx w G cc own fr lo nl) {x y : Int64} (hd : decode cc pc = .ok (.ladd, 1)) (k : V w G (pc + 1) lv (.long (x + y) :: st) M) : V w G pc lv (.long y :: .long x :: st) M := by
  obtain ⟨p, l, e, R, s, m, args, below, meth, c, Q, nL, cells, slots⟩ := G
  obtain ⟨hx, hb, hml, hown, hts, hy, hRf, hRl, hRc, hRs, hnl⟩ := C
  intro H locs ls hP hS hl
  exact lv_ladd hx hb hd (k H locs ls hP hS hl)
theorem v_lmul (C : Cx w G cc own fr lo nl) {x y : Int64} (hd : decode cc pc = .ok (.lmul, 1)) (k : V w G (pc + 1) lv (.long (x * y) :: st) M) : V w G pc lv (.long y :: .long x :: st) M := by
  obtain ⟨p, l, e, R, s, m, args, below, meth, c, Q, nL, cells, slots⟩ := G
  obtain ⟨hx, hb, hml, hown, hts, hy, hRf, hRl, hRc, hRs, hnl⟩ := C
  intro H locs ls hP hS hl
  exact lv_lmul hx hb hd (k H locs ls hP hS hl)
theorem v_ldiv (C : Cx w G cc own fr lo nl) {x y : Int64} (hne : ¬ y = 0) (hd : decode cc pc = .ok (.ldiv, 1)) (k : V w G (pc + 1) lv (.long (x / y) :: st) M) : V w G pc lv (.long y :: .long x :: st) M := by
  obtain ⟨p, l, e, R, s, m, args, below, meth, c, Q, nL, cells, slots⟩ := G
  obtain ⟨hx, hb, hml, hown, hts, hy, hRf, hRl, hRc, hRs, hnl⟩ := C
  intro H locs ls hP hS hl
  exact lv_ldiv hx hb hd hne (k H locs ls hP hS hl)
theorem v_lrem (C : Cx w G cc own fr lo nl) {x y : Int64} (hne : ¬ y = 0) (hd : decode cc pc = .ok (.lrem, 1)) (k : V w G (pc + 1) lv (.long (x - x / y * y) :: st) M) : V w G pc lv (.long y :: .long x :: st) M := by
  obtain ⟨p, l, e, R, s, m, args, below, meth, c, Q, nL, cells, slots⟩ := G
  obtain ⟨hx, hb, hml, hown, hts, hy, hRf, hRl, hRc, hRs, hnl⟩ := C
  intro H locs ls hP hS hl
  exact lv_lrem hx hb hd hne (k H locs ls hP hS hl)
theorem v_i2l (C : Cx w G cc own fr lo nl) {x : Int32} (hd : decode cc pc = .ok (.i2l, 1)) (k : V w G (pc + 1) lv (.long x.toInt64 :: st) M) : V w G pc lv (.int x :: st) M := by
  obtain ⟨p, l, e, R, s, m, args, below, meth, c, Q, nL, cells, slots⟩ := G
  obtain ⟨hx, hb, hml, hown, hts, hy, hRf, hRl, hRc, hRs, hnl⟩ := C
  intro H locs ls hP hS hl
  exact lv_i2l hx hb hd rfl (k H locs ls hP hS hl)
theorem v_l2i (C : Cx w G cc own fr lo nl) {x : Int64} (hd : decode cc pc = .ok (.l2i, 1)) (k : V w G (pc + 1) lv (.int x.toInt32 :: st) M) : V w G pc lv (.long x :: st) M := by
  obtain ⟨p, l, e, R, s, m, args, below, meth, c, Q, nL, cells, slots⟩ := G
  obtain ⟨hx, hb, hml, hown, hts, hy, hRf, hRl, hRc, hRs, hnl⟩ := C
  intro H locs ls hP hS hl
  exact lv_l2i hx hb hd rfl (k H locs ls hP hS hl)
theorem v_lcmp (C : Cx w G cc own fr lo nl) {x y : Int64} (hd : decode cc pc = .ok (.lcmp, 1)) (k : V w G (pc + 1) lv (.int (lg_cmp x y) :: st) M) : V w G pc lv (.long y :: .long x :: st) M := by
  obtain ⟨p, l, e, R, s, m, args, below, meth, c, Q, nL, cells, slots⟩ := G
  obtain ⟨hx, hb, hml, hown, hts, hy, hRf, hRl, hRc, hRs, hnl⟩ := C
  intro H locs ls hP hS hl
  exact W.lcmp hx hb hd (k H locs ls hP hS hl)
theorem v_dup (C : Cx w G cc own fr lo nl) {a : Value} (ha : a.category = 1) (hd : decode cc pc = .ok (.dup, 1)) (k : V w G (pc + 1) lv (a :: a :: st) M) : V w G pc lv (a :: st) M := by
  obtain ⟨p, l, e, R, s, m, args, below, meth, c, Q, nL, cells, slots⟩ := G
  obtain ⟨hx, hb, hml, hown, hts, hy, hRf, hRl, hRc, hRs, hnl⟩ := C
  intro H locs ls hP hS hl
  exact lv_dup hx hb hd ha (k H locs ls hP hS hl)
theorem v_dup2 (C : Cx w G cc own fr lo nl) {a b : Value} (ha : a.category = 1) (hb2 : b.category = 1) (hd : decode cc pc = .ok (.dup2, 1)) (k : V w G (pc + 1) lv (a :: b :: a :: b :: st) M) : V w G pc lv (a :: b :: st) M := by
  obtain ⟨p, l, e, R, s, m, args, below, meth, c, Q, nL, cells, slots⟩ := G
  obtain ⟨hx, hb, hml, hown, hts, hy, hRf, hRl, hRc, hRs, hnl⟩ := C
  intro H locs ls hP hS hl
  exact lv_dup2_11 hx hb hd ha hb2 (k H locs ls hP hS hl)
theorem v_pop (C : Cx w G cc own fr lo nl) {a : Value} (ha : a.category = 1) (hd : decode cc pc = .ok (.pop, 1)) (k : V w G (pc + 1) lv (st) M) : V w G pc lv (a :: st) M := by
  obtain ⟨p, l, e, R, s, m, args, below, meth, c, Q, nL, cells, slots⟩ := G
  obtain ⟨hx, hb, hml, hown, hts, hy, hRf, hRl, hRc, hRs, hnl⟩ := C
  intro H locs ls hP hS hl
  exact lv_pop hx hb hd ha (k H locs ls hP hS hl)
theorem v_if_eq (C : Cx w G cc own fr lo nl) {x : Int32} {off : Int} (tgt : Nat) (ht : (pc : Int) + off = (tgt : Int)) (hd : decode cc pc = .ok (.ifCond .eq off, 3)) (kt : x = 0 → V w G tgt lv st M) (kf : ¬ x = 0 → V w G (pc + 3) lv st M) : V w G pc lv (.int x :: st) M := by
  obtain ⟨p, l, e, R, s, m, args, below, meth, c, Q, nL, cells, slots⟩ := G
  obtain ⟨hx, hb, hml, hown, hts, hy, hRf, hRl, hRc, hRs, hnl⟩ := C
  intro H locs ls hP hS hl
  exact lv_if_eq hx hb hd ht (fun h => kt h H locs ls hP hS hl) (fun h => kf h H locs ls hP hS hl)
theorem v_if_ne (C : Cx w G cc own fr lo nl) {x : Int32} {off : Int} (tgt : Nat) (ht : (pc : Int) + off = (tgt : Int)) (hd : decode cc pc = .ok (.ifCond .ne off, 3)) (kt : ¬ x = 0 → V w G tgt lv st M) (kf : x = 0 → V w G (pc + 3) lv st M) : V w G pc lv (.int x :: st) M := by
  obtain ⟨p, l, e, R, s, m, args, below, meth, c, Q, nL, cells, slots⟩ := G
  obtain ⟨hx, hb, hml, hown, hts, hy, hRf, hRl, hRc, hRs, hnl⟩ := C
  intro H locs ls hP hS hl
  exact lv_if_ne hx hb hd ht (fun h => kt h H locs ls hP hS hl) (fun h => kf h H locs ls hP hS hl)
theorem v_if_lt (C : Cx w G cc own fr lo nl) {x : Int32} {off : Int} (tgt : Nat) (ht : (pc : Int) + off = (tgt : Int)) (hd : decode cc pc = .ok (.ifCond .lt off, 3)) (kt : x < 0 → V w G tgt lv st M) (kf : ¬ x < 0 → V w G (pc + 3) lv st M) : V w G pc lv (.int x :: st) M := by
  obtain ⟨p, l, e, R, s, m, args, below, meth, c, Q, nL, cells, slots⟩ := G
  obtain ⟨hx, hb, hml, hown, hts, hy, hRf, hRl, hRc, hRs, hnl⟩ := C
  intro H locs ls hP hS hl
  exact lv_if_lt hx hb hd ht (fun h => kt h H locs ls hP hS hl) (fun h => kf h H locs ls hP hS hl)
theorem v_if_ge (C : Cx w G cc own fr lo nl) {x : Int32} {off : Int} (tgt : Nat) (ht : (pc : Int) + off = (tgt : Int)) (hd : decode cc pc = .ok (.ifCond .ge off, 3)) (kt : 0 ≤ x → V w G tgt lv st M) (kf : ¬ 0 ≤ x → V w G (pc + 3) lv st M) : V w G pc lv (.int x :: st) M := by
  obtain ⟨p, l, e, R, s, m, args, below, meth, c, Q, nL, cells, slots⟩ := G
  obtain ⟨hx, hb, hml, hown, hts, hy, hRf, hRl, hRc, hRs, hnl⟩ := C
  intro H locs ls hP hS hl
  exact lv_if_ge hx hb hd ht (fun h => kt h H locs ls hP hS hl) (fun h => kf h H locs ls hP hS hl)
theorem v_if_gt (C : Cx w G cc own fr lo nl) {x : Int32} {off : Int} (tgt : Nat) (ht : (pc : Int) + off = (tgt : Int)) (hd : decode cc pc = .ok (.ifCond .gt off, 3)) (kt : 0 < x → V w G tgt lv st M) (kf : ¬ 0 < x → V w G (pc + 3) lv st M) : V w G pc lv (.int x :: st) M := by
  obtain ⟨p, l, e, R, s, m, args, below, meth, c, Q, nL, cells, slots⟩ := G
  obtain ⟨hx, hb, hml, hown, hts, hy, hRf, hRl, hRc, hRs, hnl⟩ := C
  intro H locs ls hP hS hl
  exact lv_if_gt hx hb hd ht (fun h => kt h H locs ls hP hS hl) (fun h => kf h H locs ls hP hS hl)
theorem v_if_le (C : Cx w G cc own fr lo nl) {x : Int32} {off : Int} (tgt : Nat) (ht : (pc : Int) + off = (tgt : Int)) (hd : decode cc pc = .ok (.ifCond .le off, 3)) (kt : x ≤ 0 → V w G tgt lv st M) (kf : ¬ x ≤ 0 → V w G (pc + 3) lv st M) : V w G pc lv (.int x :: st) M := by
  obtain ⟨p, l, e, R, s, m, args, below, meth, c, Q, nL, cells, slots⟩ := G
  obtain ⟨hx, hb, hml, hown, hts, hy, hRf, hRl, hRc, hRs, hnl⟩ := C
  intro H locs ls hP hS hl
  exact lv_if_le hx hb hd ht (fun h => kt h H locs ls hP hS hl) (fun h => kf h H locs ls hP hS hl)
theorem v_icmp_eq (C : Cx w G cc own fr lo nl) {x y : Int32} {off : Int} (tgt : Nat) (ht : (pc : Int) + off = (tgt : Int)) (hd : decode cc pc = .ok (.if_icmp .eq off, 3)) (kt : x = y → V w G tgt lv st M) (kf : ¬ x = y → V w G (pc + 3) lv st M) : V w G pc lv (.int y :: .int x :: st) M := by
  obtain ⟨p, l, e, R, s, m, args, below, meth, c, Q, nL, cells, slots⟩ := G
  obtain ⟨hx, hb, hml, hown, hts, hy, hRf, hRl, hRc, hRs, hnl⟩ := C
  intro H locs ls hP hS hl
  exact lv_icmp_eq hx hb hd ht (fun h => kt h H locs ls hP hS hl) (fun h => kf h H locs ls hP hS hl)
theorem v_icmp_ne (C : Cx w G cc own fr lo nl) {x y : Int32} {off : Int} (tgt : Nat) (ht : (pc : Int) + off = (tgt : Int)) (hd : decode cc pc = .ok (.if_icmp .ne off, 3)) (kt : ¬ x = y → V w G tgt lv st M) (kf : x = y → V w G (pc + 3) lv st M) : V w G pc lv (.int y :: .int x :: st) M := by
  obtain ⟨p, l, e, R, s, m, args, below, meth, c, Q, nL, cells, slots⟩ := G
  obtain ⟨hx, hb, hml, hown, hts, hy, hRf, hRl, hRc, hRs, hnl⟩ := C
  intro H locs ls hP hS hl
  exact lv_icmp_ne hx hb hd ht (fun h => kt h H locs ls hP hS hl) (fun h => kf h H locs ls hP hS hl)
theorem v_icmp_lt (C : Cx w G cc own fr lo nl) {x y : Int32} {off : Int} (tgt : Nat) (ht : (pc : Int) + off = (tgt : Int)) (hd : decode cc pc = .ok (.if_icmp .lt off, 3)) (kt : x < y → V w G tgt lv st M) (kf : ¬ x < y → V w G (pc + 3) lv st M) : V w G pc lv (.int y :: .int x :: st) M := by
  obtain ⟨p, l, e, R, s, m, args, below, meth, c, Q, nL, cells, slots⟩ := G
  obtain ⟨hx, hb, hml, hown, hts, hy, hRf, hRl, hRc, hRs, hnl⟩ := C
  intro H locs ls hP hS hl
  exact lv_icmp_lt hx hb hd ht (fun h => kt h H locs ls hP hS hl) (fun h => kf h H locs ls hP hS hl)
theorem v_icmp_ge (C : Cx w G cc own fr lo nl) {x y : Int32} {off : Int} (tgt : Nat) (ht : (pc : Int) + off = (tgt : Int)) (hd : decode cc pc = .ok (.if_icmp .ge off, 3)) (kt : y ≤ x → V w G tgt lv st M) (kf : ¬ y ≤ x → V w G (pc + 3) lv st M) : V w G pc lv (.int y :: .int x :: st) M := by
  obtain ⟨p, l, e, R, s, m, args, below, meth, c, Q, nL, cells, slots⟩ := G
  obtain ⟨hx, hb, hml, hown, hts, hy, hRf, hRl, hRc, hRs, hnl⟩ := C
  intro H locs ls hP hS hl
  exact lv_icmp_ge hx hb hd ht (fun h => kt h H locs ls hP hS hl) (fun h => kf h H locs ls hP hS hl)
theorem v_icmp_gt (C : Cx w G cc own fr lo nl) {x y : Int32} {off : Int} (tgt : Nat) (ht : (pc : Int) + off = (tgt : Int)) (hd : decode cc pc = .ok (.if_icmp .gt off, 3)) (kt : y < x → V w G tgt lv st M) (kf : ¬ y < x → V w G (pc + 3) lv st M) : V w G pc lv (.int y :: .int x :: st) M := by
  obtain ⟨p, l, e, R, s, m, args, below, meth, c, Q, nL, cells, slots⟩ := G
  obtain ⟨hx, hb, hml, hown, hts, hy, hRf, hRl, hRc, hRs, hnl⟩ := C
  intro H locs ls hP hS hl
  exact lv_icmp_gt hx hb hd ht (fun h => kt h H locs ls hP hS hl) (fun h => kf h H locs ls hP hS hl)
theorem v_icmp_le (C : Cx w G cc own fr lo nl) {x y : Int32} {off : Int} (tgt : Nat) (ht : (pc : Int) + off = (tgt : Int)) (hd : decode cc pc = .ok (.if_icmp .le off, 3)) (kt : x ≤ y → V w G tgt lv st M) (kf : ¬ x ≤ y → V w G (pc + 3) lv st M) : V w G pc lv (.int y :: .int x :: st) M := by
  obtain ⟨p, l, e, R, s, m, args, below, meth, c, Q, nL, cells, slots⟩ := G
  obtain ⟨hx, hb, hml, hown, hts, hy, hRf, hRl, hRc, hRs, hnl⟩ := C
  intro H locs ls hP hS hl
  exact lv_icmp_le hx hb hd ht (fun h => kt h H locs ls hP hS hl) (fun h => kf h H locs ls hP hS hl)
theorem v_goto (C : Cx w G cc own fr lo nl) {off : Int} (tgt : Nat) (ht : (pc : Int) + off = (tgt : Int)) (hd : decode cc pc = .ok (.goto off, 3)) (k : V w G tgt lv st M) : V w G pc lv st M := by
  obtain ⟨p, l, e, R, s, m, args, below, meth, c, Q, nL, cells, slots⟩ := G
  obtain ⟨hx, hb, hml, hown, hts, hy, hRf, hRl, hRc, hRs, hnl⟩ := C
  intro H locs ls hP hS hl
  exact lv_goto hx hb hd ht (k H locs ls hP hS hl)
theorem v_tableIn (C : Cx w G cc own fr lo nl) {dflt a b : Int} {offs : Array Int} {len : Nat} {x : Int32} {off : Int} (tgt : Nat) (ht : (pc : Int) + off = (tgt : Int)) (h1 : ¬ x.toInt < a) (h2 : ¬ b < x.toInt) (ho : offs[(x.toInt - a).toNat]? = some off) (hd : decode cc pc = .ok (.tableswitch dflt a b offs, len)) (k : V w G tgt lv st M) : V w G pc lv (.int x :: st) M := by
  obtain ⟨p, l, e, R, s, m, args, below, meth, c, Q, nL, cells, slots⟩ := G
  obtain ⟨hx, hb, hml, hown, hts, hy, hRf, hRl, hRc, hRs, hnl⟩ := C
  intro H locs ls hP hS hl
  exact lv_tableIn hx hb hd h1 h2 ho ht (k H locs ls hP hS hl)
theorem v_tableOut (C : Cx w G cc own fr lo nl) {dflt a b : Int} {offs : Array Int} {len : Nat} {x : Int32} (tgt : Nat) (ht : (pc : Int) + dflt = (tgt : Int)) (h : x.toInt < a ∨ b < x.toInt) (hd : decode cc pc = .ok (.tableswitch dflt a b offs, len)) (k : V w G tgt lv st M) : V w G pc lv (.int x :: st) M := by
  obtain ⟨p, l, e, R, s, m, args, below, meth, c, Q, nL, cells, slots⟩ := G
  obtain ⟨hx, hb, hml, hown, hts, hy, hRf, hRl, hRc, hRs, hnl⟩ := C
  intro H locs ls hP hS hl
  exact lv_tableOut hx hb hd h ht (k H locs ls hP hS hl)
theorem v_lookup (C : Cx w G cc own fr lo nl) {dflt : Int} {ps : Array (Int × Int)} {len : Nat} {x : Int32} {off : Int} (tgt : Nat) (ht : (pc : Int) + off = (tgt : Int)) (hp : (ps.toList.zip (ps.toList.drop 1)).all (fun (a, next) => a.1 < next.1) = true) (ho : Op.lookupswitch.offset ps.toList dflt x.toInt = off) (hd : decode cc pc = .ok (.lookupswitch dflt ps, len)) (k : V w G tgt lv st M) : V w G pc lv (.int x :: st) M := by
  obtain ⟨p, l, e, R, s, m, args, below, meth, c, Q, nL, cells, slots⟩ := G
  obtain ⟨hx, hb, hml, hown, hts, hy, hRf, hRl, hRc, hRs, hnl⟩ := C
  intro H locs ls hP hS hl
  exact lv_lookup hx hb hd hp ho ht (k H locs ls hP hS hl)
theorem v_iald (C : Cx w G cc own fr lo nl) {k : Nat} {i : Int32} (hk : k < 233) (hd0 : kd k = 10) {n : Nat} (hn : ln k = n) (hi : vp_in i n) (hd : decode cc pc = .ok (.iaload, 1)) (kk : V w G (pc + 1) lv (.int (M k i.toNatClampNeg) :: st) M) : V w G pc lv (.int i :: .ref (w.2.1 k) :: st) M := by
  obtain ⟨p, l, e, R, s, m, args, below, meth, c, Q, nL, cells, slots⟩ := G
  obtain ⟨hx, hb, hml, hown, hts, hy, hRf, hRl, hRc, hRs, hnl⟩ := C
  intro H locs ls hP hS hl
  subst hn
  exact va_iald hx hb hy.1 hP k 0 (wl_at hk hd0 rfl) rfl hi hd (kk H locs ls hP hS hl)
theorem v_zald (C : Cx w G cc own fr lo nl) {k : Nat} {i : Int32} (hk : k < 233) (hd0 : kd k = 11) {n : Nat} (hn : ln k = n) (hi : vp_in i n) (hd : decode cc pc = .ok (.baload, 1)) (kk : V w G (pc + 1) lv (.int (M k i.toNatClampNeg) :: st) M) : V w G pc lv (.int i :: .ref (w.2.1 k) :: st) M := by
  obtain ⟨p, l, e, R, s, m, args, below, meth, c, Q, nL, cells, slots⟩ := G
  obtain ⟨hx, hb, hml, hown, hts, hy, hRf, hRl, hRc, hRs, hnl⟩ := C
  intro H locs ls hP hS hl
  subst hn
  exact va_zald hx hb hy.1 hP k 1 (wl_at hk hd0 rfl) rfl hi hd (kk H locs ls hP hS hl)
theorem v_sald (C : Cx w G cc own fr lo nl) {k : Nat} {i : Int32} (hk : k < 233) (hd0 : kd k = 12) {n : Nat} (hn : ln k = n) (hi : vp_in i n) (hd : decode cc pc = .ok (.aaload, 1)) (kk : V w G (pc + 1) lv (.ref (w.2.1 (ra k i.toNatClampNeg)) :: st) M) : V w G pc lv (.int i :: .ref (w.2.1 k) :: st) M := by
  obtain ⟨p, l, e, R, s, m, args, below, meth, c, Q, nL, cells, slots⟩ := G
  obtain ⟨hx, hb, hml, hown, hts, hy, hRf, hRl, hRc, hRs, hnl⟩ := C
  intro H locs ls hP hS hl
  subst hn
  exact va_aldq hx hb hy.1 hP k 2 (wl_at hk hd0 rfl) rfl hi hd (kk H locs ls hP hS hl)
theorem v_aald (C : Cx w G cc own fr lo nl) {k : Nat} {i : Int32} (hk : k < 233) (hd0 : kd k = 13) {n : Nat} (hn : ln k = n) (hi : vp_in i n) (hd : decode cc pc = .ok (.aaload, 1)) (kk : V w G (pc + 1) lv (.ref (w.2.1 (ra k i.toNatClampNeg)) :: st) M) : V w G pc lv (.int i :: .ref (w.2.1 k) :: st) M := by
  obtain ⟨p, l, e, R, s, m, args, below, meth, c, Q, nL, cells, slots⟩ := G
  obtain ⟨hx, hb, hml, hown, hts, hy, hRf, hRl, hRc, hRs, hnl⟩ := C
  intro H locs ls hP hS hl
  subst hn
  have hlt : i.toNatClampNeg < ln k := Nat.not_le.mp fun q => hi (Or.inr q)
  exact W.aald (v := va_rf (some (w.2.1 (ra k i.toNatClampNeg)))) (ty := .array .int) hx hb (hP k _ (wl_at hk hd0 rfl)) ((hy.1.2 3 _ rfl).1 (ln k) (fun j => va_rf (some (w.2.1 (ra k j))))) rfl (fun q => by cases q) (by show ¬ (i < 0 ∨ (arrV _ _ _).slots.size ≤ _); rw [arrV_size]; exact hi) (by show (arrV _ _ _).slots[_]? = _; rw [arrV_read _ _ hlt]) rfl rfl hd (kk H locs ls hP hS hl)
theorem v_iast (C : Cx w G cc own fr lo nl) {k : Nat} {i x : Int32} (hk : k < 233) (hd0 : kd k = 10) {n : Nat} (hn : ln k = n) (hi : vp_in i n) (hd : decode cc pc = .ok (.iastore, 1)) (kk : ∀ M1, M1 = up M k i.toNatClampNeg x → V w G (pc + 1) lv st M1) : V w G pc lv (.int x :: .int i :: .ref (w.2.1 k) :: st) M := by
  obtain ⟨p, l, e, R, s, m, args, below, meth, c, Q, nL, cells, slots⟩ := G
  obtain ⟨hx, hb, hml, hown, hts, hy, hRf, hRl, hRc, hRs, hnl⟩ := C
  intro H locs ls hP hS hl
  subst hn
  refine va_iast hx hb hy.1 hP (hy.D M) hS k 0 (wl_at hk hd0 rfl) rfl hi hd (fun H1 locs1 hP1 _ hS1 => ?_)
  rw [wl_set (M' := up M k i.toNatClampNeg x) hk (by rw [en_k hd0, up_s]; rfl) (fun j hj => up_o hj)] at hP1
  exact kk _ rfl H1 locs1 ls hP1 hS1 hl
theorem v_zast (C : Cx w G cc own fr lo nl) {k : Nat} {i x : Int32} (hk : k < 233) (hd0 : kd k = 11) {n : Nat} (hn : ln k = n) (hi : vp_in i n) (hd : decode cc pc = .ok (.bastore, 1)) (kk : ∀ M1, M1 = up M k i.toNatClampNeg (vp_nar .boolean x) → V w G (pc + 1) lv st M1) : V w G pc lv (.int x :: .int i :: .ref (w.2.1 k) :: st) M := by
  obtain ⟨p, l, e, R, s, m, args, below, meth, c, Q, nL, cells, slots⟩ := G
  obtain ⟨hx, hb, hml, hown, hts, hy, hRf, hRl, hRc, hRs, hnl⟩ := C
  intro H locs ls hP hS hl
  subst hn
  refine va_zast hx hb hy.1 hP (hy.D M) hS k 1 (wl_at hk hd0 rfl) rfl hi hd (fun H1 locs1 hP1 _ hS1 => ?_)
  rw [wl_set (M' := up M k i.toNatClampNeg (vp_nar .boolean x)) hk (by rw [en_k hd0, up_s]; rfl) (fun j hj => up_o hj)] at hP1
  exact kk _ rfl H1 locs1 ls hP1 hS1 hl
theorem v_tens (C : Cx w G cc own fr lo nl) {i : Nat} {hst : String} (h : Cond.fieldLinkNest own i "FollowCab" "TENS" "[I" hst ∈ nws) (hd : decode cc pc = .ok (.getstatic i, 3)) (kk : V w G (pc + 3) lv (.ref w.2.2.2.2.2.2 :: st) M) : V w G pc lv st M := by
  obtain ⟨p, l, e, R, s, m, args, below, meth, c, Q, nL, cells, slots⟩ := G
  obtain ⟨hx, hb, hml, hown, hts, hy, hRf, hRl, hRc, hRs, hnl⟩ := C
  intro H locs ls hP hS hl
  exact va_getsN hx hb hy.2.2.1 hS hown (va_Nw.use rfl (hy.2.2.2.2 _ h)) (fun _ h => h) hd (kk H locs ls hP hS hl)
theorem v_tld (C : Cx w G cc own fr lo nl) {i : Int32} (hi : vp_in i 6) (hd : decode cc pc = .ok (.iaload, 1)) (kk : V w G (pc + 1) lv (.int (tens i.toNatClampNeg) :: st) M) : V w G pc lv (.int i :: .ref w.2.2.2.2.2.2 :: st) M := by
  obtain ⟨p, l, e, R, s, m, args, below, meth, c, Q, nL, cells, slots⟩ := G
  obtain ⟨hx, hb, hml, hown, hts, hy, hRf, hRl, hRc, hRs, hnl⟩ := C
  intro H locs ls hP hS hl
  exact va_ti hx hb hy.2.2.2.1 hS hi rfl hd (kk H locs ls hP hS hl)
theorem v_mmax (C : Cx w G cc own fr lo nl) {i : Nat} {x y : Int32} (h1 : Cond.methodLink own i Lib.Math.max.name ∈ lwg) (h2 : Cond.static Lib.Math.max.name ∈ lwg) (h3 : Cond.initialized "java/lang/Math" ∈ lwg) (h4 : Cond.code Lib.Math.max.name Lib.Math.max.code 2 (some .int) ∈ lwg) (hf : 1 ≤ fr) (hlo : (st.map fun v => v.category).sum + 13 ≤ lo) (hd : decode cc pc = .ok (.invokestatic i, 3)) (kk : V w G (pc + 3) lv (.int (if x < y then y else x) :: st) M) : V w G pc lv (.int y :: .int x :: st) M := by
  obtain ⟨p, l, e, R, s, m, args, below, meth, c, Q, nL, cells, slots⟩ := G
  obtain ⟨hx, hb, hml, hown, hts, hy, hRf, hRl, hRc, hRs, hnl⟩ := C
  intro H locs ls hP hS hl
  exact va_mmax hx hb (by rw [hml]; exact hl.1.symm) hown (hts _ h1) (hts _ h2) (hts _ h3) (hts _ h4) (by rw [hRf]; exact hf) (by rw [hRl]; exact hlo) hRc hRs hd (kk H locs ls hP hS hl)
theorem v_mmin (C : Cx w G cc own fr lo nl) {i : Nat} {x y : Int32} (h1 : Cond.methodLink own i Lib.Math.min.name ∈ lwg) (h2 : Cond.static Lib.Math.min.name ∈ lwg) (h3 : Cond.initialized "java/lang/Math" ∈ lwg) (h4 : Cond.code Lib.Math.min.name Lib.Math.min.code 2 (some .int) ∈ lwg) (hf : 1 ≤ fr) (hlo : (st.map fun v => v.category).sum + 13 ≤ lo) (hd : decode cc pc = .ok (.invokestatic i, 3)) (kk : V w G (pc + 3) lv (.int (if y < x then y else x) :: st) M) : V w G pc lv (.int y :: .int x :: st) M := by
  obtain ⟨p, l, e, R, s, m, args, below, meth, c, Q, nL, cells, slots⟩ := G
  obtain ⟨hx, hb, hml, hown, hts, hy, hRf, hRl, hRc, hRs, hnl⟩ := C
  intro H locs ls hP hS hl
  exact va_mmin hx hb (by rw [hml]; exact hl.1.symm) hown (hts _ h1) (hts _ h2) (hts _ h3) (hts _ h4) (by rw [hRf]; exact hf) (by rw [hRl]; exact hlo) hRc hRs hd (kk H locs ls hP hS hl)
theorem v_copy (C : Cx w G cc own fr lo nl) {i a b : Nat} {sp dp n : Int32} (h1 : Cond.methodLink own i arraycopyName ∈ lwg) (h2 : Cond.native arraycopyName ∈ lwg) (h3 : Cond.static arraycopyName ∈ lwg) (h4 : Cond.initialized "java/lang/System" ∈ lwg) (ha : a < 233) (hb0 : b < 233) (hka : kd a = 10) (hkb : kd b = 10) (g1 : ¬ sp < 0) (g2 : ¬ dp < 0) (g3 : ¬ n < 0) (g4 : sp.toNatClampNeg + n.toNatClampNeg ≤ ln a) (g5 : dp.toNatClampNeg + n.toNatClampNeg ≤ ln b) (hf : 1 ≤ fr) (hlo : (st.map fun v => v.category).sum + (nativeFrameWords "java/lang/System" "arraycopy" 5 + 11) ≤ lo) (hd : decode cc pc = .ok (.invokestatic i, 3)) (kk : ∀ M1, M1 = upr M b (va_cpy (M a) (M b) sp.toNatClampNeg dp.toNatClampNeg n.toNatClampNeg) → V w G (pc + 3) lv st M1) : V w G pc lv (.int n :: .int dp :: .ref (w.2.1 b) :: .int sp :: .ref (w.2.1 a) :: st) M := by
  obtain ⟨p, l, e, R, s, m, args, below, meth, c, Q, nL, cells, slots⟩ := G
  obtain ⟨hx, hb, hml, hown, hts, hy, hRf, hRl, hRc, hRs, hnl⟩ := C
  intro H locs ls hP hS hl
  refine va_copyi hx hb (by rw [hml]; exact hl.1.symm) hown (hts _ h1) (hts _ h2) (hts _ h3) (hts _ h4) hy.1 hP (hy.D M) hS a b 0 0 (wl_at ha hka rfl) (wl_at hb0 hkb rfl) rfl rfl rfl g1 g2 g3 g4 g5 (fun _ _ => rfl) (by rw [hRf]; exact hf) (by rw [hRl]; exact hlo) hd (fun H1 locs1 hP1 _ hS1 => ?_)
  rw [wl_set (M' := upr M b (va_cpy (M a) (M b) sp.toNatClampNeg dp.toNatClampNeg n.toNatClampNeg)) hb0 (by rw [en_k hkb, upr_s]; rfl) (fun j hj => upr_o hj)] at hP1
  exact kk _ rfl H1 locs1 ls hP1 hS1 hl
def cp8 (f g : Nat → Int32) : Nat → Int32 := fun k => if k < 8 then f k else g k
theorem cp8_eq (f g : Nat → Int32) : va_cpy f g (0 : Int32).toNatClampNeg (0 : Int32).toNatClampNeg (8 : Int32).toNatClampNeg = cp8 f g := by
  funext k
  have e0 : (0 : Int32).toNatClampNeg = 0 := by decide
  have e8 : (8 : Int32).toNatClampNeg = 8 := by decide
  unfold va_cpy cp8
  rw [e0, e8]
  by_cases h : k < 8
  · rw [if_pos ⟨Nat.zero_le _, by omega⟩, if_pos h]; congr 1; omega
  · rw [if_neg (fun q => h (by omega)), if_neg h]
theorem v_copy8 (C : Cx w G cc own fr lo nl) {i a b : Nat} (h1 : Cond.methodLink own i arraycopyName ∈ lwg) (ha : a < 233) (hka : kd a = 10) (hna : ln a = 8) (hb0 : b < 233) (hkb : kd b = 10) (hnb : ln b = 8) (hf : 1 ≤ fr) (hlo : (st.map fun v => v.category).sum + (nativeFrameWords "java/lang/System" "arraycopy" 5 + 11) ≤ lo) (hd : decode cc pc = .ok (.invokestatic i, 3)) (kk : ∀ M1, M1 = upr M b (cp8 (M a) (M b)) → V w G (pc + 3) lv st M1) : V w G pc lv (.int 8 :: .int 0 :: .ref (w.2.1 b) :: .int 0 :: .ref (w.2.1 a) :: st) M := by
  refine v_copy C h1 nat_copy ms_copy m_sysi ha hb0 hka hkb (by decide) (by decide) (by decide) (by rw [hna]; decide) (by rw [hnb]; decide) hf hlo hd (fun M1 e => kk M1 ?_)
  rw [e, cp8_eq]
theorem gl_code {x : Cond} (h : x ∈ lwg) : GoodIn lwg (x :: lwg) := fun z hz => by rcases List.mem_cons.mp hz with rfl | hz; exact gl _ h; exact gl _ hz
theorem cy_pre {w : Wx} {s : State} {H : Heap} {locs : List Loc} {M : Mem} {av : List Value} (hy : Cy w s s.heap) (hS : va_S (AA w) s.heap H locs) (hP : va_P w.1 vwCl (wl w M) H) : ∀ U : State, U.heap = H → s.WarmedH U.vm → va_Pc av (PB w M) av.toArray U := by
  intro U hU hW
  exact ⟨rfl, by rw [hU]; exact hP, hy.to hW (by rw [hU]; exact hS.2.1)⟩
theorem v_callI (C : Cx w G cc own fr lo nl) {y : MethodName} {yc : ByteArray} {mL n idx fr' lo' k : Nat} {ret : Option FieldType} {As : List Value} (rest : List Value) {Q1 : Int32 → Mem → Prop} (hM : CtI w G.2.1 y yc mL ret fr' lo' (.ref (w.2.1 k) :: As) M Q1) (hY : Yk y yc mL n ret) (hli : Cond.methodLink own idx y ∈ lwg) (hr : Rcv w k y.cls) (hn : As.length = n) (hst : st = As.reverse ++ .ref (w.2.1 k) :: rest) (hrm : (rest.map fun v => v.category).sum ≤ 8) (hR : fr' + 1 ≤ fr ∧ 8 + (mL + 11) + lo' ≤ lo) (hd : decode cc pc = .ok (.invokevirtual idx, 3)) (kk : ∀ r1 M1, Q1 r1 M1 → V w G (pc + 3) lv (.int r1 :: rest) M1) : V w G pc lv st M := by
  obtain ⟨p, l, e, R, s, m, args, below, meth, c, Q, nL, cells, slots⟩ := G
  obtain ⟨hx, hb, hml, hown, hts, hy, hRf, hRl, hRc, hRs, hnl⟩ := C
  intro H locs ls hP hS hl
  subst hst
  have cw : CallW R s args own y.cls idx y yc mL ret (Cond.code y yc mL ret :: lwg) ({ frames := fr', cells := 0, slots := 0, locals := lo' } : Room) 0 0 n := ⟨callB_of n hts (gl_code hY.2.2.1) rfl rfl rfl (hts _ hY.2.1) (hts _ hli) hY.2.2.2 ⟨by rw [hRf]; exact hR.1, by rw [hRl]; exact hR.2⟩, hts _ hY.1.1, hts _ hY.1.2⟩
  obtain ⟨hk, ci, q, hc, hq, hfs⟩ := hr
  obtain ⟨fs, he⟩ := hfs M
  have hrc := va_recv hy.1 hP hc (show (wl w M)[k]? = some (w.2.1 k, .inr (ci, fs)) by rw [wl_get w M hk, he])
  rw [hq] at hrc
  refine va_calli (va_runV (As := As) (rest := rest) ⟨hx, hb, hml, hown, hts⟩ hM cw ⟨PB_blind, hrc, cy_pre hy hS hP⟩ rfl hn hl.1 rfl (lv_room hrm) hd ⟨hRc, hRs⟩) hS (fun _ _ h => h) (fun _ h => h) (fun r1 u t H1 locs1 ht hvm hw hB hz1 hk1 hS1 => ?_)
  rw [ht] at hB
  exact kk r1 u hw H1 locs1 ls hB hS1 hl
theorem v_callSI (C : Cx w G cc own fr lo nl) {y : MethodName} {yc : ByteArray} {mL n idx fr' lo' : Nat} {ret : Option FieldType} {As : List Value} (rest : List Value) {Q1 : Int32 → Mem → Prop} (hM : CtI w G.2.1 y yc mL ret fr' lo' As M Q1) (hY : Ys y yc mL n ret) (hli : Cond.methodLink own idx y ∈ lwg) (hn : As.length = n) (hst : st = As.reverse ++ rest) (hrm : (rest.map fun v => v.category).sum ≤ 8) (hR : fr' + 1 ≤ fr ∧ 8 + (mL + 11) + lo' ≤ lo) (hd : decode cc pc = .ok (.invokestatic idx, 3)) (kk : ∀ r1 M1, Q1 r1 M1 → V w G (pc + 3) lv (.int r1 :: rest) M1) : V w G pc lv st M := by
  obtain ⟨p, l, e, R, s, m, args, below, meth, c, Q, nL, cells, slots⟩ := G
  obtain ⟨hx, hb, hml, hown, hts, hy, hRf, hRl, hRc, hRs, hnl⟩ := C
  intro H locs ls hP hS hl
  subst hst
  have cw : CallB R s args own idx y yc mL ret (Cond.code y yc mL ret :: lwg) ({ frames := fr', cells := 0, slots := 0, locals := lo' } : Room) 0 0 n ∧ (Cond.static y).before args s = true := ⟨callB_of n hts (gl_code hY.2.2.1) rfl rfl rfl (hts _ hY.2.1) (hts _ hli) hY.2.2.2 ⟨by rw [hRf]; exact hR.1, by rw [hRl]; exact hR.2⟩, hts _ hY.1⟩
  refine va_calli (va_runS (As := As) (rest := rest) ⟨hx, hb, hml, hown, hts⟩ hM cw ⟨PB_blind, cy_pre hy hS hP⟩ rfl hn hl.1 rfl (lv_room hrm) hd ⟨hRc, hRs⟩) hS (fun _ _ h => h) (fun _ h => h) (fun r1 u t H1 locs1 ht hvm hw hB hz1 hk1 hS1 => ?_)
  rw [ht] at hB
  exact kk r1 u hw H1 locs1 ls hB hS1 hl
theorem v_callNI (C : Cx w G cc own fr lo nl) {y : MethodName} {yc : ByteArray} {mL n idx fr' lo' : Nat} {ret : Option FieldType} {As : List Value} (rest : List Value) {Q1 : Int32 → Mem → Prop} (hM : CtI w G.2.1 y yc mL ret fr' lo' As M Q1) (hY : Ys y yc mL n ret) {host : String} (hli : Cond.methodLinkNest own idx y host ∈ nws) (hn : As.length = n) (hst : st = As.reverse ++ rest) (hrm : (rest.map fun v => v.category).sum ≤ 8) (hR : fr' + 1 ≤ fr ∧ 8 + (mL + 11) + lo' ≤ lo) (hd : decode cc pc = .ok (.invokestatic idx, 3)) (kk : ∀ r1 M1, Q1 r1 M1 → V w G (pc + 3) lv (.int r1 :: rest) M1) : V w G pc lv st M := by
  obtain ⟨p, l, e, R, s, m, args, below, meth, c, Q, nL, cells, slots⟩ := G
  obtain ⟨hx, hb, hml, hown, hts, hy, hRf, hRl, hRc, hRs, hnl⟩ := C
  intro H locs ls hP hS hl
  subst hst
  have cw := va_cnB (R := R) (s := s) (args := args) (own := own) (host := host) (index := idx) (mc := 0) (ms := 0) (rm := { frames := fr', cells := 0, slots := 0, locals := lo' }) n hts (gl_code hY.2.2.1) rfl rfl rfl (hy.2.2.2.2 _ hli) (hts _ hY.2.1) hY.2.2.2 ⟨by rw [hRf]; exact hR.1, by rw [hRl]; exact hR.2⟩
  refine va_calli (va_runSN (As := As) (rest := rest) ⟨hx, hb, hml, hown, hts⟩ hM ⟨cw, hts _ hY.1, trivial⟩ ⟨PB_blind, cy_pre hy hS hP⟩ rfl hn hl.1 rfl (lv_room hrm) hd ⟨hRc, hRs⟩) hS (fun _ _ h => h) (fun _ h => h) (fun r1 u t H1 locs1 ht hvm hw hB hz1 hk1 hS1 => ?_)
  rw [ht] at hB
  exact kk r1 u hw H1 locs1 ls hB hS1 hl
theorem v_callV (C : Cx w G cc own fr lo nl) {y : MethodName} {yc : ByteArray} {mL n idx fr' lo' k : Nat} {ret : Option FieldType} {As : List Value} (rest : List Value) {Q1 : Mem → Prop} (hM : CtV w G.2.1 y yc mL ret fr' lo' (.ref (w.2.1 k) :: As) M Q1) (hY : Yk y yc mL n ret) (hli : Cond.methodLink own idx y ∈ lwg) (hr : Rcv w k y.cls) (hn : As.length = n) (hst : st = As.reverse ++ .ref (w.2.1 k) :: rest) (hrm : (rest.map fun v => v.category).sum ≤ 8) (hR : fr' + 1 ≤ fr ∧ 8 + (mL + 11) + lo' ≤ lo) (hd : decode cc pc = .ok (.invokevirtual idx, 3)) (kk : ∀ M1, Q1 M1 → V w G (pc + 3) lv (rest) M1) : V w G pc lv st M := by
  obtain ⟨p, l, e, R, s, m, args, below, meth, c, Q, nL, cells, slots⟩ := G
  obtain ⟨hx, hb, hml, hown, hts, hy, hRf, hRl, hRc, hRs, hnl⟩ := C
  intro H locs ls hP hS hl
  subst hst
  have cw : CallW R s args own y.cls idx y yc mL ret (Cond.code y yc mL ret :: lwg) ({ frames := fr', cells := 0, slots := 0, locals := lo' } : Room) 0 0 n := ⟨callB_of n hts (gl_code hY.2.2.1) rfl rfl rfl (hts _ hY.2.1) (hts _ hli) hY.2.2.2 ⟨by rw [hRf]; exact hR.1, by rw [hRl]; exact hR.2⟩, hts _ hY.1.1, hts _ hY.1.2⟩
  obtain ⟨hk, ci, q, hc, hq, hfs⟩ := hr
  obtain ⟨fs, he⟩ := hfs M
  have hrc := va_recv hy.1 hP hc (show (wl w M)[k]? = some (w.2.1 k, .inr (ci, fs)) by rw [wl_get w M hk, he])
  rw [hq] at hrc
  refine va_callv (va_runV (As := As) (rest := rest) ⟨hx, hb, hml, hown, hts⟩ hM cw ⟨PB_blind, hrc, cy_pre hy hS hP⟩ rfl hn hl.1 rfl (lv_room hrm) hd ⟨hRc, hRs⟩) hS (fun _ _ h => h) (fun _ h => h) (fun u t H1 locs1 ht hvm hw hB hz1 hk1 hS1 => ?_)
  rw [ht] at hB
  exact kk u hw H1 locs1 ls hB hS1 hl
theorem v_callSV (C : Cx w G cc own fr lo nl) {y : MethodName} {yc : ByteArray} {mL n idx fr' lo' : Nat} {ret : Option FieldType} {As : List Value} (rest : List Value) {Q1 : Mem → Prop} (hM : CtV w G.2.1 y yc mL ret fr' lo' As M Q1) (hY : Ys y yc mL n ret) (hli : Cond.methodLink own idx y ∈ lwg) (hn : As.length = n) (hst : st = As.reverse ++ rest) (hrm : (rest.map fun v => v.category).sum ≤ 8) (hR : fr' + 1 ≤ fr ∧ 8 + (mL + 11) + lo' ≤ lo) (hd : decode cc pc = .ok (.invokestatic idx, 3)) (kk : ∀ M1, Q1 M1 → V w G (pc + 3) lv (rest) M1) : V w G pc lv st M := by
  obtain ⟨p, l, e, R, s, m, args, below, meth, c, Q, nL, cells, slots⟩ := G
  obtain ⟨hx, hb, hml, hown, hts, hy, hRf, hRl, hRc, hRs, hnl⟩ := C
  intro H locs ls hP hS hl
  subst hst
  have cw : CallB R s args own idx y yc mL ret (Cond.code y yc mL ret :: lwg) ({ frames := fr', cells := 0, slots := 0, locals := lo' } : Room) 0 0 n ∧ (Cond.static y).before args s = true := ⟨callB_of n hts (gl_code hY.2.2.1) rfl rfl rfl (hts _ hY.2.1) (hts _ hli) hY.2.2.2 ⟨by rw [hRf]; exact hR.1, by rw [hRl]; exact hR.2⟩, hts _ hY.1⟩
  refine va_callv (va_runS (As := As) (rest := rest) ⟨hx, hb, hml, hown, hts⟩ hM cw ⟨PB_blind, cy_pre hy hS hP⟩ rfl hn hl.1 rfl (lv_room hrm) hd ⟨hRc, hRs⟩) hS (fun _ _ h => h) (fun _ h => h) (fun u t H1 locs1 ht hvm hw hB hz1 hk1 hS1 => ?_)
  rw [ht] at hB
  exact kk u hw H1 locs1 ls hB hS1 hl
theorem v_callNV (C : Cx w G cc own fr lo nl) {y : MethodName} {yc : ByteArray} {mL n idx fr' lo' : Nat} {ret : Option FieldType} {As : List Value} (rest : List Value) {Q1 : Mem → Prop} (hM : CtV w G.2.1 y yc mL ret fr' lo' As M Q1) (hY : Ys y yc mL n ret) {host : String} (hli : Cond.methodLinkNest own idx y host ∈ nws) (hn : As.length = n) (hst : st = As.reverse ++ rest) (hrm : (rest.map fun v => v.category).sum ≤ 8) (hR : fr' + 1 ≤ fr ∧ 8 + (mL + 11) + lo' ≤ lo) (hd : decode cc pc = .ok (.invokestatic idx, 3)) (kk : ∀ M1, Q1 M1 → V w G (pc + 3) lv (rest) M1) : V w G pc lv st M := by
  obtain ⟨p, l, e, R, s, m, args, below, meth, c, Q, nL, cells, slots⟩ := G
  obtain ⟨hx, hb, hml, hown, hts, hy, hRf, hRl, hRc, hRs, hnl⟩ := C
  intro H locs ls hP hS hl
  subst hst
  have cw := va_cnB (R := R) (s := s) (args := args) (own := own) (host := host) (index := idx) (mc := 0) (ms := 0) (rm := { frames := fr', cells := 0, slots := 0, locals := lo' }) n hts (gl_code hY.2.2.1) rfl rfl rfl (hy.2.2.2.2 _ hli) (hts _ hY.2.1) hY.2.2.2 ⟨by rw [hRf]; exact hR.1, by rw [hRl]; exact hR.2⟩
  refine va_callv (va_runSN (As := As) (rest := rest) ⟨hx, hb, hml, hown, hts⟩ hM ⟨cw, hts _ hY.1, trivial⟩ ⟨PB_blind, cy_pre hy hS hP⟩ rfl hn hl.1 rfl (lv_room hrm) hd ⟨hRc, hRs⟩) hS (fun _ _ h => h) (fun _ h => h) (fun u t H1 locs1 ht hvm hw hB hz1 hk1 hS1 => ?_)
  rw [ht] at hB
  exact kk u hw H1 locs1 ls hB hS1 hl
end
