theorem kb0 : 0 < 233 := by decide
theorem kd0 : kd 0 = 8 := by decide +kernel
theorem kb1 : 1 < 233 := by decide
theorem kd1 : kd 1 = 7 := by decide +kernel
theorem kb2 : 2 < 233 := by decide
theorem kd2 : kd 2 = 10 := by decide +kernel
theorem ln2 : ln 2 = 240 := by decide +kernel
theorem kb3 : 3 < 233 := by decide
theorem kd3 : kd 3 = 5 := by decide +kernel
theorem kb11 : 11 < 233 := by decide
theorem kd11 : kd 11 = 6 := by decide +kernel
theorem kb18 : 18 < 233 := by decide
theorem kd18 : kd 18 = 6 := by decide +kernel
theorem kb25 : 25 < 233 := by decide
theorem kd25 : kd 25 = 3 := by decide +kernel
theorem kb26 : 26 < 233 := by decide
theorem kd26 : kd 26 = 12 := by decide +kernel
theorem ln26 : ln 26 = 20 := by decide +kernel
theorem kb167 : 167 < 233 := by decide
theorem kd167 : kd 167 = 4 := by decide +kernel
theorem kb168 : 168 < 233 := by decide
theorem kd168 : kd 168 = 12 := by decide +kernel
theorem ln168 : ln 168 = 2 := by decide +kernel
theorem kb169 : 169 < 233 := by decide
theorem kd169 : kd 169 = 10 := by decide +kernel
theorem ln169 : ln 169 = 2 := by decide +kernel
theorem kb170 : 170 < 233 := by decide
theorem kd170 : kd 170 = 11 := by decide +kernel
theorem ln170 : ln 170 = 2 := by decide +kernel
theorem kb185 : 185 < 233 := by decide
theorem kd185 : kd 185 = 1 := by decide +kernel
theorem kb186 : 186 < 233 := by decide
theorem kd186 : kd 186 = 10 := by decide +kernel
theorem ln186 : ln 186 = 6 := by decide +kernel
theorem kb187 : 187 < 233 := by decide
theorem kd187 : kd 187 = 10 := by decide +kernel
theorem ln187 : ln 187 = 6 := by decide +kernel
theorem kb188 : 188 < 233 := by decide
theorem kd188 : kd 188 = 10 := by decide +kernel
theorem ln188 : ln 188 = 6 := by decide +kernel
theorem kb189 : 189 < 233 := by decide
theorem kd189 : kd 189 = 1 := by decide +kernel
theorem kb190 : 190 < 233 := by decide
theorem kd190 : kd 190 = 10 := by decide +kernel
theorem ln190 : ln 190 = 15 := by decide +kernel
theorem kb191 : 191 < 233 := by decide
theorem kd191 : kd 191 = 10 := by decide +kernel
theorem ln191 : ln 191 = 15 := by decide +kernel
theorem kb192 : 192 < 233 := by decide
theorem kd192 : kd 192 = 10 := by decide +kernel
theorem ln192 : ln 192 = 15 := by decide +kernel
theorem kb193 : 193 < 233 := by decide
theorem kd193 : kd 193 = 2 := by decide +kernel
theorem kb194 : 194 < 233 := by decide
theorem kd194 : kd 194 = 13 := by decide +kernel
theorem ln194 : ln 194 = 8 := by decide +kernel
theorem kb203 : 203 < 233 := by decide
theorem kd203 : kd 203 = 6 := by decide +kernel
theorem kb210 : 210 < 233 := by decide
theorem kd210 : kd 210 = 0 := by decide +kernel
theorem kb211 : 211 < 233 := by decide
theorem kd211 : kd 211 = 9 := by decide +kernel
theorem kb212 : 212 < 233 := by decide
theorem kd212 : kd 212 = 10 := by decide +kernel
theorem ln212 : ln 212 = 48 := by decide +kernel
theorem kb213 : 213 < 233 := by decide
theorem kd213 : kd 213 = 10 := by decide +kernel
theorem ln213 : ln 213 = 8 := by decide +kernel
theorem kb214 : 214 < 233 := by decide
theorem kd214 : kd 214 = 10 := by decide +kernel
theorem ln214 : ln 214 = 41 := by decide +kernel
theorem kb215 : 215 < 233 := by decide
theorem kd215 : kd 215 = 10 := by decide +kernel
theorem ln215 : ln 215 = 240 := by decide +kernel
theorem kb216 : 216 < 233 := by decide
theorem kd216 : kd 216 = 10 := by decide +kernel
theorem ln216 : ln 216 = 2 := by decide +kernel
theorem kb217 : 217 < 233 := by decide
theorem kd217 : kd 217 = 10 := by decide +kernel
theorem ln217 : ln 217 = 8 := by decide +kernel
theorem kb218 : 218 < 233 := by decide
theorem kd218 : kd 218 = 10 := by decide +kernel
theorem ln218 : ln 218 = 48 := by decide +kernel
theorem kb219 : 219 < 233 := by decide
theorem kd219 : kd 219 = 10 := by decide +kernel
theorem ln219 : ln 219 = 8 := by decide +kernel
theorem kb220 : 220 < 233 := by decide
theorem kd220 : kd 220 = 10 := by decide +kernel
theorem ln220 : ln 220 = 8 := by decide +kernel
theorem kb221 : 221 < 233 := by decide
theorem kd221 : kd 221 = 10 := by decide +kernel
theorem ln221 : ln 221 = 8 := by decide +kernel
theorem kb222 : 222 < 233 := by decide
theorem kd222 : kd 222 = 10 := by decide +kernel
theorem ln222 : ln 222 = 820 := by decide +kernel
theorem kb223 : 223 < 233 := by decide
theorem kd223 : kd 223 = 10 := by decide +kernel
theorem ln223 : ln 223 = 41 := by decide +kernel
theorem kb224 : 224 < 233 := by decide
theorem kd224 : kd 224 = 10 := by decide +kernel
theorem ln224 : ln 224 = 6 := by decide +kernel
theorem kb225 : 225 < 233 := by decide
theorem kd225 : kd 225 = 10 := by decide +kernel
theorem ln225 : ln 225 = 6 := by decide +kernel
theorem kb226 : 226 < 233 := by decide
theorem kd226 : kd 226 = 10 := by decide +kernel
theorem ln226 : ln 226 = 6 := by decide +kernel
theorem kb227 : 227 < 233 := by decide
theorem kd227 : kd 227 = 10 := by decide +kernel
theorem ln227 : ln 227 = 31 := by decide +kernel
theorem kb228 : 228 < 233 := by decide
theorem kd228 : kd 228 = 10 := by decide +kernel
theorem ln228 : ln 228 = 279 := by decide +kernel
theorem kb229 : 229 < 233 := by decide
theorem kd229 : kd 229 = 10 := by decide +kernel
theorem ln229 : ln 229 = 15 := by decide +kernel
theorem kb230 : 230 < 233 := by decide
theorem kd230 : kd 230 = 10 := by decide +kernel
theorem ln230 : ln 230 = 15 := by decide +kernel
theorem kb231 : 231 < 233 := by decide
theorem kd231 : kd 231 = 10 := by decide +kernel
theorem ln231 : ln 231 = 84 := by decide +kernel
theorem kb232 : 232 < 233 := by decide
theorem kd232 : kd 232 = 11 := by decide +kernel
theorem ln232 : ln 232 = 2 := by decide +kernel
def Sc (b : Nat) : Prop := b + 6 < 233 ∧ kd b = 6 ∧ ∀ j, j < 6 → kd (b + (j + 1)) = 10 ∧ ln (b + (j + 1)) = 8
theorem Sc.l0 {b : Nat} (h : Sc b) : b < 233 := by have := h.1; omega
theorem Sc.k0 {b : Nat} (h : Sc b) : kd b = 6 := h.2.1
theorem Sc.l1 {b : Nat} (h : Sc b) : b + 1 < 233 := by have := h.1; omega
theorem Sc.k1 {b : Nat} (h : Sc b) : kd (b + 1) = 10 := (h.2.2 0 (by decide)).1
theorem Sc.n1 {b : Nat} (h : Sc b) : ln (b + 1) = 8 := (h.2.2 0 (by decide)).2
theorem Sc.l2 {b : Nat} (h : Sc b) : b + 2 < 233 := by have := h.1; omega
theorem Sc.k2 {b : Nat} (h : Sc b) : kd (b + 2) = 10 := (h.2.2 1 (by decide)).1
theorem Sc.n2 {b : Nat} (h : Sc b) : ln (b + 2) = 8 := (h.2.2 1 (by decide)).2
theorem Sc.l3 {b : Nat} (h : Sc b) : b + 3 < 233 := by have := h.1; omega
theorem Sc.k3 {b : Nat} (h : Sc b) : kd (b + 3) = 10 := (h.2.2 2 (by decide)).1
theorem Sc.n3 {b : Nat} (h : Sc b) : ln (b + 3) = 8 := (h.2.2 2 (by decide)).2
theorem Sc.l4 {b : Nat} (h : Sc b) : b + 4 < 233 := by have := h.1; omega
theorem Sc.k4 {b : Nat} (h : Sc b) : kd (b + 4) = 10 := (h.2.2 3 (by decide)).1
theorem Sc.n4 {b : Nat} (h : Sc b) : ln (b + 4) = 8 := (h.2.2 3 (by decide)).2
theorem Sc.l5 {b : Nat} (h : Sc b) : b + 5 < 233 := by have := h.1; omega
theorem Sc.k5 {b : Nat} (h : Sc b) : kd (b + 5) = 10 := (h.2.2 4 (by decide)).1
theorem Sc.n5 {b : Nat} (h : Sc b) : ln (b + 5) = 8 := (h.2.2 4 (by decide)).2
theorem Sc.l6 {b : Nat} (h : Sc b) : b + 6 < 233 := by have := h.1; omega
theorem Sc.k6 {b : Nat} (h : Sc b) : kd (b + 6) = 10 := (h.2.2 5 (by decide)).1
theorem Sc.n6 {b : Nat} (h : Sc b) : ln (b + 6) = 8 := (h.2.2 5 (by decide)).2
theorem sc4 : Sc 4 := ⟨by decide, by decide +kernel, by decide +kernel⟩
theorem sc11 : Sc 11 := ⟨by decide, by decide +kernel, by decide +kernel⟩
theorem sc18 : Sc 18 := ⟨by decide, by decide +kernel, by decide +kernel⟩
theorem sc203 : Sc 203 := ⟨by decide, by decide +kernel, by decide +kernel⟩
theorem in_lt {i : Int32} {n : Nat} (h : vp_in i n) : i.toNatClampNeg < n := Nat.not_le.mp fun q => h (Or.inr q)
theorem sc26a : ∀ j, j < 20 → (27 + 7 * j + 6 < 233 ∧ kd (27 + 7 * j) = 6 ∧ ∀ i, i < 6 → kd (27 + 7 * j + (i + 1)) = 10 ∧ ln (27 + 7 * j + (i + 1)) = 8) := by decide +kernel
theorem sc26 {i : Int32} (h : vp_in i 20) : Sc (ra 26 i.toNatClampNeg) := sc26a _ (in_lt h)
theorem sc168a : ∀ j, j < 2 → (171 + 7 * j + 6 < 233 ∧ kd (171 + 7 * j) = 6 ∧ ∀ i, i < 6 → kd (171 + 7 * j + (i + 1)) = 10 ∧ ln (171 + 7 * j + (i + 1)) = 8) := by decide +kernel
theorem sc168 {i : Int32} (h : vp_in i 2) : Sc (ra 168 i.toNatClampNeg) := sc168a _ (in_lt h)
theorem tr194a : ∀ j, j < 8 → (195 + j < 233 ∧ kd (195 + j) = 10 ∧ ln (195 + j) = 31) := by decide +kernel
theorem tr194 {i : Int32} (h : vp_in i 8) : ra 194 i.toNatClampNeg < 233 ∧ kd (ra 194 i.toNatClampNeg) = 10 ∧ ln (ra 194 i.toNatClampNeg) = 31 := tr194a _ (in_lt h)
def Ent (b : Nat) (n : Nat) : Prop := b + 3 < 233 ∧ kd b = 1 ∧ ∀ j, j < 3 → kd (b + (j + 1)) = 10 ∧ ln (b + (j + 1)) = n
theorem Ent.l0 {b n : Nat} (h : Ent b n) : b < 233 := by have := h.1; omega
theorem Ent.k0 {b n : Nat} (h : Ent b n) : kd b = 1 := h.2.1
theorem Ent.l1 {b n : Nat} (h : Ent b n) : b + 1 < 233 := by have := h.1; omega
theorem Ent.k1 {b n : Nat} (h : Ent b n) : kd (b + 1) = 10 := (h.2.2 0 (by decide)).1
theorem Ent.n1 {b n : Nat} (h : Ent b n) : ln (b + 1) = n := (h.2.2 0 (by decide)).2
theorem Ent.l2 {b n : Nat} (h : Ent b n) : b + 2 < 233 := by have := h.1; omega
theorem Ent.k2 {b n : Nat} (h : Ent b n) : kd (b + 2) = 10 := (h.2.2 1 (by decide)).1
theorem Ent.n2 {b n : Nat} (h : Ent b n) : ln (b + 2) = n := (h.2.2 1 (by decide)).2
theorem Ent.l3 {b n : Nat} (h : Ent b n) : b + 3 < 233 := by have := h.1; omega
theorem Ent.k3 {b n : Nat} (h : Ent b n) : kd (b + 3) = 10 := (h.2.2 2 (by decide)).1
theorem Ent.n3 {b n : Nat} (h : Ent b n) : ln (b + 3) = n := (h.2.2 2 (by decide)).2
theorem en185 : Ent 185 6 := ⟨by decide, by decide +kernel, by decide +kernel⟩
theorem en189 : Ent 189 15 := ⟨by decide, by decide +kernel, by decide +kernel⟩
section
variable {w : Wx} {G : Gx} {cc : ByteArray} {own : String} {fr lo nl pc : Nat} {lv : List (Nat × Value)} {st : List Value} {M : Mem}
theorem g0_0 (C : Cx w G cc own fr lo nl) {k i : Nat} (hk : k < 233) (hk2 : kd k = 0) (h : Cond.fieldLink own i "FollowCab$Draws" "value" "I" ∈ lwg) (hd : decode cc pc = .ok (.getfield i, 3)) (kk : V w G (pc + 3) lv (.int (M k 0) :: st) M) : V w G pc lv (.ref (w.2.1 k) :: st) M := by
  obtain ⟨p, l, e, R, s, m, args, below, meth, c, Q, nL, cells, slots⟩ := G
  obtain ⟨hx, hb, hml, hown, hts, hy, hRf, hRl, hRc, hRs, hnl⟩ := C
  intro H locs ls hP hS hl
  exact va_get (D := w.1) (ci := 0) (C := RX0) (T := TX0) (N := 1) hx hb hts inX0 hown hy.1 hP k (wl_at hk hk2 rfl) rfl 0 (by decide) (hts _ h) (fun _ h9 => h9) rfl hd (kk H locs ls hP hS hl)
theorem p0_0 (C : Cx w G cc own fr lo nl) {k i : Nat} {x : Int32} (hk : k < 233) (hk2 : kd k = 0) (h : Cond.fieldLink own i "FollowCab$Draws" "value" "I" ∈ lwg) (hd : decode cc pc = .ok (.putfield i, 3)) (kk : ∀ M1, M1 = up M k 0 x → V w G (pc + 3) lv st M1) : V w G pc lv (.int x :: .ref (w.2.1 k) :: st) M := by
  obtain ⟨p, l, e, R, s, m, args, below, meth, c, Q, nL, cells, slots⟩ := G
  obtain ⟨hx, hb, hml, hown, hts, hy, hRf, hRl, hRc, hRs, hnl⟩ := C
  intro H locs ls hP hS hl
  refine va_put (D := w.1) (ci := 0) (v := .int x) (ty := .int) (C := RX0) (T := TX0) (N := 1) hx hb hts inX0 tyX0 tyX0_ok nmX0 hown hy.1 hP (hy.D M) hS k (wl_at hk hk2 rfl) rfl 0 (by decide) (hts _ h) (fun _ h9 => h9) rfl (by decide +kernel) rfl rfl (Nat.le_of_ble_eq_true rfl) hd (fun H1 locs1 hP1 _ hS1 => ?_)
  rw [wl_set (M' := up M k 0 x) hk (by rw [en_k hk2, up_s]; rfl) (fun j hj => up_o hj)] at hP1
  exact kk _ rfl H1 locs1 ls hP1 hS1 hl
theorem g1_0 (C : Cx w G cc own fr lo nl) {k i : Nat} (hk : k < 233) (hk2 : kd k = 1) (h : Cond.fieldLink own i "FollowCab$Entries" "most" "I" ∈ lwg) (hd : decode cc pc = .ok (.getfield i, 3)) (kk : V w G (pc + 3) lv (.int (M k 0) :: st) M) : V w G pc lv (.ref (w.2.1 k) :: st) M := by
  obtain ⟨p, l, e, R, s, m, args, below, meth, c, Q, nL, cells, slots⟩ := G
  obtain ⟨hx, hb, hml, hown, hts, hy, hRf, hRl, hRc, hRs, hnl⟩ := C
  intro H locs ls hP hS hl
  exact va_get (D := w.1) (ci := 1) (C := RX1) (T := TX1) (N := 5) hx hb hts inX1 hown hy.1 hP k (wl_at hk hk2 rfl) rfl 0 (by decide) (hts _ h) (fun _ h9 => h9) rfl hd (kk H locs ls hP hS hl)
theorem g1_1 (C : Cx w G cc own fr lo nl) {k i : Nat} (hk : k < 233) (hk2 : kd k = 1) (h : Cond.fieldLink own i "FollowCab$Entries" "car" "[I" ∈ lwg) (hd : decode cc pc = .ok (.getfield i, 3)) (kk : V w G (pc + 3) lv (.ref (w.2.1 (k+1)) :: st) M) : V w G pc lv (.ref (w.2.1 k) :: st) M := by
  obtain ⟨p, l, e, R, s, m, args, below, meth, c, Q, nL, cells, slots⟩ := G
  obtain ⟨hx, hb, hml, hown, hts, hy, hRf, hRl, hRc, hRs, hnl⟩ := C
  intro H locs ls hP hS hl
  exact va_get (D := w.1) (ci := 1) (C := RX1) (T := TX1) (N := 5) hx hb hts inX1 hown hy.1 hP k (wl_at hk hk2 rfl) rfl 1 (by decide) (hts _ h) (fun _ h9 => h9) rfl hd (kk H locs ls hP hS hl)
theorem g1_2 (C : Cx w G cc own fr lo nl) {k i : Nat} (hk : k < 233) (hk2 : kd k = 1) (h : Cond.fieldLink own i "FollowCab$Entries" "steps" "[I" ∈ lwg) (hd : decode cc pc = .ok (.getfield i, 3)) (kk : V w G (pc + 3) lv (.ref (w.2.1 (k+2)) :: st) M) : V w G pc lv (.ref (w.2.1 k) :: st) M := by
  obtain ⟨p, l, e, R, s, m, args, below, meth, c, Q, nL, cells, slots⟩ := G
  obtain ⟨hx, hb, hml, hown, hts, hy, hRf, hRl, hRc, hRs, hnl⟩ := C
  intro H locs ls hP hS hl
  exact va_get (D := w.1) (ci := 1) (C := RX1) (T := TX1) (N := 5) hx hb hts inX1 hown hy.1 hP k (wl_at hk hk2 rfl) rfl 2 (by decide) (hts _ h) (fun _ h9 => h9) rfl hd (kk H locs ls hP hS hl)
theorem g1_3 (C : Cx w G cc own fr lo nl) {k i : Nat} (hk : k < 233) (hk2 : kd k = 1) (h : Cond.fieldLink own i "FollowCab$Entries" "corner" "[I" ∈ lwg) (hd : decode cc pc = .ok (.getfield i, 3)) (kk : V w G (pc + 3) lv (.ref (w.2.1 (k+3)) :: st) M) : V w G pc lv (.ref (w.2.1 k) :: st) M := by
  obtain ⟨p, l, e, R, s, m, args, below, meth, c, Q, nL, cells, slots⟩ := G
  obtain ⟨hx, hb, hml, hown, hts, hy, hRf, hRl, hRc, hRs, hnl⟩ := C
  intro H locs ls hP hS hl
  exact va_get (D := w.1) (ci := 1) (C := RX1) (T := TX1) (N := 5) hx hb hts inX1 hown hy.1 hP k (wl_at hk hk2 rfl) rfl 3 (by decide) (hts _ h) (fun _ h9 => h9) rfl hd (kk H locs ls hP hS hl)
theorem g1_4 (C : Cx w G cc own fr lo nl) {k i : Nat} (hk : k < 233) (hk2 : kd k = 1) (h : Cond.fieldLink own i "FollowCab$Entries" "count" "I" ∈ lwg) (hd : decode cc pc = .ok (.getfield i, 3)) (kk : V w G (pc + 3) lv (.int (M k 4) :: st) M) : V w G pc lv (.ref (w.2.1 k) :: st) M := by
  obtain ⟨p, l, e, R, s, m, args, below, meth, c, Q, nL, cells, slots⟩ := G
  obtain ⟨hx, hb, hml, hown, hts, hy, hRf, hRl, hRc, hRs, hnl⟩ := C
  intro H locs ls hP hS hl
  exact va_get (D := w.1) (ci := 1) (C := RX1) (T := TX1) (N := 5) hx hb hts inX1 hown hy.1 hP k (wl_at hk hk2 rfl) rfl 4 (by decide) (hts _ h) (fun _ h9 => h9) rfl hd (kk H locs ls hP hS hl)
theorem p1_4 (C : Cx w G cc own fr lo nl) {k i : Nat} {x : Int32} (hk : k < 233) (hk2 : kd k = 1) (h : Cond.fieldLink own i "FollowCab$Entries" "count" "I" ∈ lwg) (hd : decode cc pc = .ok (.putfield i, 3)) (kk : ∀ M1, M1 = up M k 4 x → V w G (pc + 3) lv st M1) : V w G pc lv (.int x :: .ref (w.2.1 k) :: st) M := by
  obtain ⟨p, l, e, R, s, m, args, below, meth, c, Q, nL, cells, slots⟩ := G
  obtain ⟨hx, hb, hml, hown, hts, hy, hRf, hRl, hRc, hRs, hnl⟩ := C
  intro H locs ls hP hS hl
  refine va_put (D := w.1) (ci := 1) (v := .int x) (ty := .int) (C := RX1) (T := TX1) (N := 5) hx hb hts inX1 tyX1 tyX1_ok nmX1 hown hy.1 hP (hy.D M) hS k (wl_at hk hk2 rfl) rfl 4 (by decide) (hts _ h) (fun _ h9 => h9) rfl (by decide +kernel) rfl rfl (Nat.le_of_ble_eq_true rfl) hd (fun H1 locs1 hP1 _ hS1 => ?_)
  rw [wl_set (M' := up M k 4 x) hk (by rw [en_k hk2, up_s]; rfl) (fun j hj => up_o hj)] at hP1
  exact kk _ rfl H1 locs1 ls hP1 hS1 hl
theorem g2_0 (C : Cx w G cc own fr lo nl) {k i : Nat} (hk : k < 233) (hk2 : kd k = 2) (h : Cond.fieldLink own i "FollowCab$Guess" "track" "[[I" ∈ lwg) (hd : decode cc pc = .ok (.getfield i, 3)) (kk : V w G (pc + 3) lv (.ref (w.2.1 194) :: st) M) : V w G pc lv (.ref (w.2.1 k) :: st) M := by
  obtain ⟨p, l, e, R, s, m, args, below, meth, c, Q, nL, cells, slots⟩ := G
  obtain ⟨hx, hb, hml, hown, hts, hy, hRf, hRl, hRc, hRs, hnl⟩ := C
  intro H locs ls hP hS hl
  exact va_get (D := w.1) (ci := 2) (C := RX3) (T := TX3) (N := 3) hx hb hts inX3 hown hy.1 hP k (wl_at hk hk2 rfl) rfl 0 (by decide) (hts _ h) (fun _ h9 => h9) rfl hd (kk H locs ls hP hS hl)
theorem g2_1 (C : Cx w G cc own fr lo nl) {k i : Nat} (hk : k < 233) (hk2 : kd k = 2) (h : Cond.fieldLink own i "FollowCab$Guess" "tried" "LFollowCab$Scene;" ∈ lwg) (hd : decode cc pc = .ok (.getfield i, 3)) (kk : V w G (pc + 3) lv (.ref (w.2.1 203) :: st) M) : V w G pc lv (.ref (w.2.1 k) :: st) M := by
  obtain ⟨p, l, e, R, s, m, args, below, meth, c, Q, nL, cells, slots⟩ := G
  obtain ⟨hx, hb, hml, hown, hts, hy, hRf, hRl, hRc, hRs, hnl⟩ := C
  intro H locs ls hP hS hl
  exact va_get (D := w.1) (ci := 2) (C := RX3) (T := TX3) (N := 3) hx hb hts inX3 hown hy.1 hP k (wl_at hk hk2 rfl) rfl 1 (by decide) (hts _ h) (fun _ h9 => h9) rfl hd (kk H locs ls hP hS hl)
theorem g2_2 (C : Cx w G cc own fr lo nl) {k i : Nat} (hk : k < 233) (hk2 : kd k = 2) (h : Cond.fieldLink own i "FollowCab$Guess" "fitting" "I" ∈ lwg) (hd : decode cc pc = .ok (.getfield i, 3)) (kk : V w G (pc + 3) lv (.int (M k 2) :: st) M) : V w G pc lv (.ref (w.2.1 k) :: st) M := by
  obtain ⟨p, l, e, R, s, m, args, below, meth, c, Q, nL, cells, slots⟩ := G
  obtain ⟨hx, hb, hml, hown, hts, hy, hRf, hRl, hRc, hRs, hnl⟩ := C
  intro H locs ls hP hS hl
  exact va_get (D := w.1) (ci := 2) (C := RX3) (T := TX3) (N := 3) hx hb hts inX3 hown hy.1 hP k (wl_at hk hk2 rfl) rfl 2 (by decide) (hts _ h) (fun _ h9 => h9) rfl hd (kk H locs ls hP hS hl)
theorem p2_2 (C : Cx w G cc own fr lo nl) {k i : Nat} {x : Int32} (hk : k < 233) (hk2 : kd k = 2) (h : Cond.fieldLink own i "FollowCab$Guess" "fitting" "I" ∈ lwg) (hd : decode cc pc = .ok (.putfield i, 3)) (kk : ∀ M1, M1 = up M k 2 x → V w G (pc + 3) lv st M1) : V w G pc lv (.int x :: .ref (w.2.1 k) :: st) M := by
  obtain ⟨p, l, e, R, s, m, args, below, meth, c, Q, nL, cells, slots⟩ := G
  obtain ⟨hx, hb, hml, hown, hts, hy, hRf, hRl, hRc, hRs, hnl⟩ := C
  intro H locs ls hP hS hl
  refine va_put (D := w.1) (ci := 2) (v := .int x) (ty := .int) (C := RX3) (T := TX3) (N := 3) hx hb hts inX3 tyX3 tyX3_ok nmX3 hown hy.1 hP (hy.D M) hS k (wl_at hk hk2 rfl) rfl 2 (by decide) (hts _ h) (fun _ h9 => h9) rfl (by decide +kernel) rfl rfl (Nat.le_of_ble_eq_true rfl) hd (fun H1 locs1 hP1 _ hS1 => ?_)
  rw [wl_set (M' := up M k 2 x) hk (by rw [en_k hk2, up_s]; rfl) (fun j hj => up_o hj)] at hP1
  exact kk _ rfl H1 locs1 ls hP1 hS1 hl
theorem g3_0 (C : Cx w G cc own fr lo nl) {k i : Nat} (hk : k < 233) (hk2 : kd k = 3) (h : Cond.fieldLink own i "FollowCab$History" "kept" "[LFollowCab$Scene;" ∈ lwg) (hd : decode cc pc = .ok (.getfield i, 3)) (kk : V w G (pc + 3) lv (.ref (w.2.1 26) :: st) M) : V w G pc lv (.ref (w.2.1 k) :: st) M := by
  obtain ⟨p, l, e, R, s, m, args, below, meth, c, Q, nL, cells, slots⟩ := G
  obtain ⟨hx, hb, hml, hown, hts, hy, hRf, hRl, hRc, hRs, hnl⟩ := C
  intro H locs ls hP hS hl
  exact va_get (D := w.1) (ci := 3) (C := RX4) (T := TX4) (N := 3) hx hb hts inX4 hown hy.1 hP k (wl_at hk hk2 rfl) rfl 0 (by decide) (hts _ h) (fun _ h9 => h9) rfl hd (kk H locs ls hP hS hl)
theorem g3_1 (C : Cx w G cc own fr lo nl) {k i : Nat} (hk : k < 233) (hk2 : kd k = 3) (h : Cond.fieldLink own i "FollowCab$History" "top" "I" ∈ lwg) (hd : decode cc pc = .ok (.getfield i, 3)) (kk : V w G (pc + 3) lv (.int (M k 1) :: st) M) : V w G pc lv (.ref (w.2.1 k) :: st) M := by
  obtain ⟨p, l, e, R, s, m, args, below, meth, c, Q, nL, cells, slots⟩ := G
  obtain ⟨hx, hb, hml, hown, hts, hy, hRf, hRl, hRc, hRs, hnl⟩ := C
  intro H locs ls hP hS hl
  exact va_get (D := w.1) (ci := 3) (C := RX4) (T := TX4) (N := 3) hx hb hts inX4 hown hy.1 hP k (wl_at hk hk2 rfl) rfl 1 (by decide) (hts _ h) (fun _ h9 => h9) rfl hd (kk H locs ls hP hS hl)
theorem p3_1 (C : Cx w G cc own fr lo nl) {k i : Nat} {x : Int32} (hk : k < 233) (hk2 : kd k = 3) (h : Cond.fieldLink own i "FollowCab$History" "top" "I" ∈ lwg) (hd : decode cc pc = .ok (.putfield i, 3)) (kk : ∀ M1, M1 = up M k 1 x → V w G (pc + 3) lv st M1) : V w G pc lv (.int x :: .ref (w.2.1 k) :: st) M := by
  obtain ⟨p, l, e, R, s, m, args, below, meth, c, Q, nL, cells, slots⟩ := G
  obtain ⟨hx, hb, hml, hown, hts, hy, hRf, hRl, hRc, hRs, hnl⟩ := C
  intro H locs ls hP hS hl
  refine va_put (D := w.1) (ci := 3) (v := .int x) (ty := .int) (C := RX4) (T := TX4) (N := 3) hx hb hts inX4 tyX4 tyX4_ok nmX4 hown hy.1 hP (hy.D M) hS k (wl_at hk hk2 rfl) rfl 1 (by decide) (hts _ h) (fun _ h9 => h9) rfl (by decide +kernel) rfl rfl (Nat.le_of_ble_eq_true rfl) hd (fun H1 locs1 hP1 _ hS1 => ?_)
  rw [wl_set (M' := up M k 1 x) hk (by rw [en_k hk2, up_s]; rfl) (fun j hj => up_o hj)] at hP1
  exact kk _ rfl H1 locs1 ls hP1 hS1 hl
theorem g3_2 (C : Cx w G cc own fr lo nl) {k i : Nat} (hk : k < 233) (hk2 : kd k = 3) (h : Cond.fieldLink own i "FollowCab$History" "count" "I" ∈ lwg) (hd : decode cc pc = .ok (.getfield i, 3)) (kk : V w G (pc + 3) lv (.int (M k 2) :: st) M) : V w G pc lv (.ref (w.2.1 k) :: st) M := by
  obtain ⟨p, l, e, R, s, m, args, below, meth, c, Q, nL, cells, slots⟩ := G
  obtain ⟨hx, hb, hml, hown, hts, hy, hRf, hRl, hRc, hRs, hnl⟩ := C
  intro H locs ls hP hS hl
  exact va_get (D := w.1) (ci := 3) (C := RX4) (T := TX4) (N := 3) hx hb hts inX4 hown hy.1 hP k (wl_at hk hk2 rfl) rfl 2 (by decide) (hts _ h) (fun _ h9 => h9) rfl hd (kk H locs ls hP hS hl)
theorem p3_2 (C : Cx w G cc own fr lo nl) {k i : Nat} {x : Int32} (hk : k < 233) (hk2 : kd k = 3) (h : Cond.fieldLink own i "FollowCab$History" "count" "I" ∈ lwg) (hd : decode cc pc = .ok (.putfield i, 3)) (kk : ∀ M1, M1 = up M k 2 x → V w G (pc + 3) lv st M1) : V w G pc lv (.int x :: .ref (w.2.1 k) :: st) M := by
  obtain ⟨p, l, e, R, s, m, args, below, meth, c, Q, nL, cells, slots⟩ := G
  obtain ⟨hx, hb, hml, hown, hts, hy, hRf, hRl, hRc, hRs, hnl⟩ := C
  intro H locs ls hP hS hl
  refine va_put (D := w.1) (ci := 3) (v := .int x) (ty := .int) (C := RX4) (T := TX4) (N := 3) hx hb hts inX4 tyX4 tyX4_ok nmX4 hown hy.1 hP (hy.D M) hS k (wl_at hk hk2 rfl) rfl 2 (by decide) (hts _ h) (fun _ h9 => h9) rfl (by decide +kernel) rfl rfl (Nat.le_of_ble_eq_true rfl) hd (fun H1 locs1 hP1 _ hS1 => ?_)
  rw [wl_set (M' := up M k 2 x) hk (by rw [en_k hk2, up_s]; rfl) (fun j hj => up_o hj)] at hP1
  exact kk _ rfl H1 locs1 ls hP1 hS1 hl
theorem g4_0 (C : Cx w G cc own fr lo nl) {k i : Nat} (hk : k < 233) (hk2 : kd k = 4) (h : Cond.fieldLink own i "FollowCab$Images" "scene" "[LFollowCab$Scene;" ∈ lwg) (hd : decode cc pc = .ok (.getfield i, 3)) (kk : V w G (pc + 3) lv (.ref (w.2.1 168) :: st) M) : V w G pc lv (.ref (w.2.1 k) :: st) M := by
  obtain ⟨p, l, e, R, s, m, args, below, meth, c, Q, nL, cells, slots⟩ := G
  obtain ⟨hx, hb, hml, hown, hts, hy, hRf, hRl, hRc, hRs, hnl⟩ := C
  intro H locs ls hP hS hl
  exact va_get (D := w.1) (ci := 4) (C := RX5) (T := TX5) (N := 3) hx hb hts inX5 hown hy.1 hP k (wl_at hk hk2 rfl) rfl 0 (by decide) (hts _ h) (fun _ h9 => h9) rfl hd (kk H locs ls hP hS hl)
theorem g4_1 (C : Cx w G cc own fr lo nl) {k i : Nat} (hk : k < 233) (hk2 : kd k = 4) (h : Cond.fieldLink own i "FollowCab$Images" "drawValue" "[I" ∈ lwg) (hd : decode cc pc = .ok (.getfield i, 3)) (kk : V w G (pc + 3) lv (.ref (w.2.1 169) :: st) M) : V w G pc lv (.ref (w.2.1 k) :: st) M := by
  obtain ⟨p, l, e, R, s, m, args, below, meth, c, Q, nL, cells, slots⟩ := G
  obtain ⟨hx, hb, hml, hown, hts, hy, hRf, hRl, hRc, hRs, hnl⟩ := C
  intro H locs ls hP hS hl
  exact va_get (D := w.1) (ci := 4) (C := RX5) (T := TX5) (N := 3) hx hb hts inX5 hown hy.1 hP k (wl_at hk hk2 rfl) rfl 1 (by decide) (hts _ h) (fun _ h9 => h9) rfl hd (kk H locs ls hP hS hl)
theorem g4_2 (C : Cx w G cc own fr lo nl) {k i : Nat} (hk : k < 233) (hk2 : kd k = 4) (h : Cond.fieldLink own i "FollowCab$Images" "kept" "[Z" ∈ lwg) (hd : decode cc pc = .ok (.getfield i, 3)) (kk : V w G (pc + 3) lv (.ref (w.2.1 170) :: st) M) : V w G pc lv (.ref (w.2.1 k) :: st) M := by
  obtain ⟨p, l, e, R, s, m, args, below, meth, c, Q, nL, cells, slots⟩ := G
  obtain ⟨hx, hb, hml, hown, hts, hy, hRf, hRl, hRc, hRs, hnl⟩ := C
  intro H locs ls hP hS hl
  exact va_get (D := w.1) (ci := 4) (C := RX5) (T := TX5) (N := 3) hx hb hts inX5 hown hy.1 hP k (wl_at hk hk2 rfl) rfl 2 (by decide) (hts _ h) (fun _ h9 => h9) rfl hd (kk H locs ls hP hS hl)
theorem g5_0 (C : Cx w G cc own fr lo nl) {k i : Nat} (hk : k < 233) (hk2 : kd k = 5) (h : Cond.fieldLink own i "FollowCab$Reader" "scene" "LFollowCab$Scene;" ∈ lwg) (hd : decode cc pc = .ok (.getfield i, 3)) (kk : V w G (pc + 3) lv (.ref (w.2.1 4) :: st) M) : V w G pc lv (.ref (w.2.1 k) :: st) M := by
  obtain ⟨p, l, e, R, s, m, args, below, meth, c, Q, nL, cells, slots⟩ := G
  obtain ⟨hx, hb, hml, hown, hts, hy, hRf, hRl, hRc, hRs, hnl⟩ := C
  intro H locs ls hP hS hl
  exact va_get (D := w.1) (ci := 5) (C := RX6) (T := TX6) (N := 8) hx hb hts inX6 hown hy.1 hP k (wl_at hk hk2 rfl) rfl 0 (by decide) (hts _ h) (fun _ h9 => h9) rfl hd (kk H locs ls hP hS hl)
theorem g5_1 (C : Cx w G cc own fr lo nl) {k i : Nat} (hk : k < 233) (hk2 : kd k = 5) (h : Cond.fieldLink own i "FollowCab$Reader" "corners" "I" ∈ lwg) (hd : decode cc pc = .ok (.getfield i, 3)) (kk : V w G (pc + 3) lv (.int (M k 1) :: st) M) : V w G pc lv (.ref (w.2.1 k) :: st) M := by
  obtain ⟨p, l, e, R, s, m, args, below, meth, c, Q, nL, cells, slots⟩ := G
  obtain ⟨hx, hb, hml, hown, hts, hy, hRf, hRl, hRc, hRs, hnl⟩ := C
  intro H locs ls hP hS hl
  exact va_get (D := w.1) (ci := 5) (C := RX6) (T := TX6) (N := 8) hx hb hts inX6 hown hy.1 hP k (wl_at hk hk2 rfl) rfl 1 (by decide) (hts _ h) (fun _ h9 => h9) rfl hd (kk H locs ls hP hS hl)
theorem p5_1 (C : Cx w G cc own fr lo nl) {k i : Nat} {x : Int32} (hk : k < 233) (hk2 : kd k = 5) (h : Cond.fieldLink own i "FollowCab$Reader" "corners" "I" ∈ lwg) (hd : decode cc pc = .ok (.putfield i, 3)) (kk : ∀ M1, M1 = up M k 1 x → V w G (pc + 3) lv st M1) : V w G pc lv (.int x :: .ref (w.2.1 k) :: st) M := by
  obtain ⟨p, l, e, R, s, m, args, below, meth, c, Q, nL, cells, slots⟩ := G
  obtain ⟨hx, hb, hml, hown, hts, hy, hRf, hRl, hRc, hRs, hnl⟩ := C
  intro H locs ls hP hS hl
  refine va_put (D := w.1) (ci := 5) (v := .int x) (ty := .int) (C := RX6) (T := TX6) (N := 8) hx hb hts inX6 tyX6 tyX6_ok nmX6 hown hy.1 hP (hy.D M) hS k (wl_at hk hk2 rfl) rfl 1 (by decide) (hts _ h) (fun _ h9 => h9) rfl (by decide +kernel) rfl rfl (Nat.le_of_ble_eq_true rfl) hd (fun H1 locs1 hP1 _ hS1 => ?_)
  rw [wl_set (M' := up M k 1 x) hk (by rw [en_k hk2, up_s]; rfl) (fun j hj => up_o hj)] at hP1
  exact kk _ rfl H1 locs1 ls hP1 hS1 hl
theorem g5_2 (C : Cx w G cc own fr lo nl) {k i : Nat} (hk : k < 233) (hk2 : kd k = 5) (h : Cond.fieldLink own i "FollowCab$Reader" "odds" "I" ∈ lwg) (hd : decode cc pc = .ok (.getfield i, 3)) (kk : V w G (pc + 3) lv (.int (M k 2) :: st) M) : V w G pc lv (.ref (w.2.1 k) :: st) M := by
  obtain ⟨p, l, e, R, s, m, args, below, meth, c, Q, nL, cells, slots⟩ := G
  obtain ⟨hx, hb, hml, hown, hts, hy, hRf, hRl, hRc, hRs, hnl⟩ := C
  intro H locs ls hP hS hl
  exact va_get (D := w.1) (ci := 5) (C := RX6) (T := TX6) (N := 8) hx hb hts inX6 hown hy.1 hP k (wl_at hk hk2 rfl) rfl 2 (by decide) (hts _ h) (fun _ h9 => h9) rfl hd (kk H locs ls hP hS hl)
theorem p5_2 (C : Cx w G cc own fr lo nl) {k i : Nat} {x : Int32} (hk : k < 233) (hk2 : kd k = 5) (h : Cond.fieldLink own i "FollowCab$Reader" "odds" "I" ∈ lwg) (hd : decode cc pc = .ok (.putfield i, 3)) (kk : ∀ M1, M1 = up M k 2 x → V w G (pc + 3) lv st M1) : V w G pc lv (.int x :: .ref (w.2.1 k) :: st) M := by
  obtain ⟨p, l, e, R, s, m, args, below, meth, c, Q, nL, cells, slots⟩ := G
  obtain ⟨hx, hb, hml, hown, hts, hy, hRf, hRl, hRc, hRs, hnl⟩ := C
  intro H locs ls hP hS hl
  refine va_put (D := w.1) (ci := 5) (v := .int x) (ty := .int) (C := RX6) (T := TX6) (N := 8) hx hb hts inX6 tyX6 tyX6_ok nmX6 hown hy.1 hP (hy.D M) hS k (wl_at hk hk2 rfl) rfl 2 (by decide) (hts _ h) (fun _ h9 => h9) rfl (by decide +kernel) rfl rfl (Nat.le_of_ble_eq_true rfl) hd (fun H1 locs1 hP1 _ hS1 => ?_)
  rw [wl_set (M' := up M k 2 x) hk (by rw [en_k hk2, up_s]; rfl) (fun j hj => up_o hj)] at hP1
  exact kk _ rfl H1 locs1 ls hP1 hS1 hl
theorem g5_3 (C : Cx w G cc own fr lo nl) {k i : Nat} (hk : k < 233) (hk2 : kd k = 5) (h : Cond.fieldLink own i "FollowCab$Reader" "faultNumber" "I" ∈ lwg) (hd : decode cc pc = .ok (.getfield i, 3)) (kk : V w G (pc + 3) lv (.int (M k 3) :: st) M) : V w G pc lv (.ref (w.2.1 k) :: st) M := by
  obtain ⟨p, l, e, R, s, m, args, below, meth, c, Q, nL, cells, slots⟩ := G
  obtain ⟨hx, hb, hml, hown, hts, hy, hRf, hRl, hRc, hRs, hnl⟩ := C
  intro H locs ls hP hS hl
  exact va_get (D := w.1) (ci := 5) (C := RX6) (T := TX6) (N := 8) hx hb hts inX6 hown hy.1 hP k (wl_at hk hk2 rfl) rfl 3 (by decide) (hts _ h) (fun _ h9 => h9) rfl hd (kk H locs ls hP hS hl)
theorem p5_3 (C : Cx w G cc own fr lo nl) {k i : Nat} {x : Int32} (hk : k < 233) (hk2 : kd k = 5) (h : Cond.fieldLink own i "FollowCab$Reader" "faultNumber" "I" ∈ lwg) (hd : decode cc pc = .ok (.putfield i, 3)) (kk : ∀ M1, M1 = up M k 3 x → V w G (pc + 3) lv st M1) : V w G pc lv (.int x :: .ref (w.2.1 k) :: st) M := by
  obtain ⟨p, l, e, R, s, m, args, below, meth, c, Q, nL, cells, slots⟩ := G
  obtain ⟨hx, hb, hml, hown, hts, hy, hRf, hRl, hRc, hRs, hnl⟩ := C
  intro H locs ls hP hS hl
  refine va_put (D := w.1) (ci := 5) (v := .int x) (ty := .int) (C := RX6) (T := TX6) (N := 8) hx hb hts inX6 tyX6 tyX6_ok nmX6 hown hy.1 hP (hy.D M) hS k (wl_at hk hk2 rfl) rfl 3 (by decide) (hts _ h) (fun _ h9 => h9) rfl (by decide +kernel) rfl rfl (Nat.le_of_ble_eq_true rfl) hd (fun H1 locs1 hP1 _ hS1 => ?_)
  rw [wl_set (M' := up M k 3 x) hk (by rw [en_k hk2, up_s]; rfl) (fun j hj => up_o hj)] at hP1
  exact kk _ rfl H1 locs1 ls hP1 hS1 hl
theorem g5_4 (C : Cx w G cc own fr lo nl) {k i : Nat} (hk : k < 233) (hk2 : kd k = 5) (h : Cond.fieldLink own i "FollowCab$Reader" "faultPlace" "I" ∈ lwg) (hd : decode cc pc = .ok (.getfield i, 3)) (kk : V w G (pc + 3) lv (.int (M k 4) :: st) M) : V w G pc lv (.ref (w.2.1 k) :: st) M := by
  obtain ⟨p, l, e, R, s, m, args, below, meth, c, Q, nL, cells, slots⟩ := G
  obtain ⟨hx, hb, hml, hown, hts, hy, hRf, hRl, hRc, hRs, hnl⟩ := C
  intro H locs ls hP hS hl
  exact va_get (D := w.1) (ci := 5) (C := RX6) (T := TX6) (N := 8) hx hb hts inX6 hown hy.1 hP k (wl_at hk hk2 rfl) rfl 4 (by decide) (hts _ h) (fun _ h9 => h9) rfl hd (kk H locs ls hP hS hl)
theorem p5_4 (C : Cx w G cc own fr lo nl) {k i : Nat} {x : Int32} (hk : k < 233) (hk2 : kd k = 5) (h : Cond.fieldLink own i "FollowCab$Reader" "faultPlace" "I" ∈ lwg) (hd : decode cc pc = .ok (.putfield i, 3)) (kk : ∀ M1, M1 = up M k 4 x → V w G (pc + 3) lv st M1) : V w G pc lv (.int x :: .ref (w.2.1 k) :: st) M := by
  obtain ⟨p, l, e, R, s, m, args, below, meth, c, Q, nL, cells, slots⟩ := G
  obtain ⟨hx, hb, hml, hown, hts, hy, hRf, hRl, hRc, hRs, hnl⟩ := C
  intro H locs ls hP hS hl
  refine va_put (D := w.1) (ci := 5) (v := .int x) (ty := .int) (C := RX6) (T := TX6) (N := 8) hx hb hts inX6 tyX6 tyX6_ok nmX6 hown hy.1 hP (hy.D M) hS k (wl_at hk hk2 rfl) rfl 4 (by decide) (hts _ h) (fun _ h9 => h9) rfl (by decide +kernel) rfl rfl (Nat.le_of_ble_eq_true rfl) hd (fun H1 locs1 hP1 _ hS1 => ?_)
  rw [wl_set (M' := up M k 4 x) hk (by rw [en_k hk2, up_s]; rfl) (fun j hj => up_o hj)] at hP1
  exact kk _ rfl H1 locs1 ls hP1 hS1 hl
theorem g5_5 (C : Cx w G cc own fr lo nl) {k i : Nat} (hk : k < 233) (hk2 : kd k = 5) (h : Cond.fieldLink own i "FollowCab$Reader" "text" "LFollowCab$Text;" ∈ lwg) (hd : decode cc pc = .ok (.getfield i, 3)) (kk : V w G (pc + 3) lv (.ref (w.2.1 1) :: st) M) : V w G pc lv (.ref (w.2.1 k) :: st) M := by
  obtain ⟨p, l, e, R, s, m, args, below, meth, c, Q, nL, cells, slots⟩ := G
  obtain ⟨hx, hb, hml, hown, hts, hy, hRf, hRl, hRc, hRs, hnl⟩ := C
  intro H locs ls hP hS hl
  exact va_get (D := w.1) (ci := 5) (C := RX6) (T := TX6) (N := 8) hx hb hts inX6 hown hy.1 hP k (wl_at hk hk2 rfl) rfl 5 (by decide) (hts _ h) (fun _ h9 => h9) rfl hd (kk H locs ls hP hS hl)
theorem g5_6 (C : Cx w G cc own fr lo nl) {k i : Nat} (hk : k < 233) (hk2 : kd k = 5) (h : Cond.fieldLink own i "FollowCab$Reader" "place" "I" ∈ lwg) (hd : decode cc pc = .ok (.getfield i, 3)) (kk : V w G (pc + 3) lv (.int (M k 6) :: st) M) : V w G pc lv (.ref (w.2.1 k) :: st) M := by
  obtain ⟨p, l, e, R, s, m, args, below, meth, c, Q, nL, cells, slots⟩ := G
  obtain ⟨hx, hb, hml, hown, hts, hy, hRf, hRl, hRc, hRs, hnl⟩ := C
  intro H locs ls hP hS hl
  exact va_get (D := w.1) (ci := 5) (C := RX6) (T := TX6) (N := 8) hx hb hts inX6 hown hy.1 hP k (wl_at hk hk2 rfl) rfl 6 (by decide) (hts _ h) (fun _ h9 => h9) rfl hd (kk H locs ls hP hS hl)
theorem p5_6 (C : Cx w G cc own fr lo nl) {k i : Nat} {x : Int32} (hk : k < 233) (hk2 : kd k = 5) (h : Cond.fieldLink own i "FollowCab$Reader" "place" "I" ∈ lwg) (hd : decode cc pc = .ok (.putfield i, 3)) (kk : ∀ M1, M1 = up M k 6 x → V w G (pc + 3) lv st M1) : V w G pc lv (.int x :: .ref (w.2.1 k) :: st) M := by
  obtain ⟨p, l, e, R, s, m, args, below, meth, c, Q, nL, cells, slots⟩ := G
  obtain ⟨hx, hb, hml, hown, hts, hy, hRf, hRl, hRc, hRs, hnl⟩ := C
  intro H locs ls hP hS hl
  refine va_put (D := w.1) (ci := 5) (v := .int x) (ty := .int) (C := RX6) (T := TX6) (N := 8) hx hb hts inX6 tyX6 tyX6_ok nmX6 hown hy.1 hP (hy.D M) hS k (wl_at hk hk2 rfl) rfl 6 (by decide) (hts _ h) (fun _ h9 => h9) rfl (by decide +kernel) rfl rfl (Nat.le_of_ble_eq_true rfl) hd (fun H1 locs1 hP1 _ hS1 => ?_)
  rw [wl_set (M' := up M k 6 x) hk (by rw [en_k hk2, up_s]; rfl) (fun j hj => up_o hj)] at hP1
  exact kk _ rfl H1 locs1 ls hP1 hS1 hl
theorem g5_7 (C : Cx w G cc own fr lo nl) {k i : Nat} (hk : k < 233) (hk2 : kd k = 5) (h : Cond.fieldLink own i "FollowCab$Reader" "numberPlace" "I" ∈ lwg) (hd : decode cc pc = .ok (.getfield i, 3)) (kk : V w G (pc + 3) lv (.int (M k 7) :: st) M) : V w G pc lv (.ref (w.2.1 k) :: st) M := by
  obtain ⟨p, l, e, R, s, m, args, below, meth, c, Q, nL, cells, slots⟩ := G
  obtain ⟨hx, hb, hml, hown, hts, hy, hRf, hRl, hRc, hRs, hnl⟩ := C
  intro H locs ls hP hS hl
  exact va_get (D := w.1) (ci := 5) (C := RX6) (T := TX6) (N := 8) hx hb hts inX6 hown hy.1 hP k (wl_at hk hk2 rfl) rfl 7 (by decide) (hts _ h) (fun _ h9 => h9) rfl hd (kk H locs ls hP hS hl)
theorem p5_7 (C : Cx w G cc own fr lo nl) {k i : Nat} {x : Int32} (hk : k < 233) (hk2 : kd k = 5) (h : Cond.fieldLink own i "FollowCab$Reader" "numberPlace" "I" ∈ lwg) (hd : decode cc pc = .ok (.putfield i, 3)) (kk : ∀ M1, M1 = up M k 7 x → V w G (pc + 3) lv st M1) : V w G pc lv (.int x :: .ref (w.2.1 k) :: st) M := by
  obtain ⟨p, l, e, R, s, m, args, below, meth, c, Q, nL, cells, slots⟩ := G
  obtain ⟨hx, hb, hml, hown, hts, hy, hRf, hRl, hRc, hRs, hnl⟩ := C
  intro H locs ls hP hS hl
  refine va_put (D := w.1) (ci := 5) (v := .int x) (ty := .int) (C := RX6) (T := TX6) (N := 8) hx hb hts inX6 tyX6 tyX6_ok nmX6 hown hy.1 hP (hy.D M) hS k (wl_at hk hk2 rfl) rfl 7 (by decide) (hts _ h) (fun _ h9 => h9) rfl (by decide +kernel) rfl rfl (Nat.le_of_ble_eq_true rfl) hd (fun H1 locs1 hP1 _ hS1 => ?_)
  rw [wl_set (M' := up M k 7 x) hk (by rw [en_k hk2, up_s]; rfl) (fun j hj => up_o hj)] at hP1
  exact kk _ rfl H1 locs1 ls hP1 hS1 hl
theorem g6_0 (C : Cx w G cc own fr lo nl) {k i : Nat} (hk : k < 233) (hk2 : kd k = 6) (h : Cond.fieldLink own i "FollowCab$Scene" "cars" "I" ∈ lwg) (hd : decode cc pc = .ok (.getfield i, 3)) (kk : V w G (pc + 3) lv (.int (M k 0) :: st) M) : V w G pc lv (.ref (w.2.1 k) :: st) M := by
  obtain ⟨p, l, e, R, s, m, args, below, meth, c, Q, nL, cells, slots⟩ := G
  obtain ⟨hx, hb, hml, hown, hts, hy, hRf, hRl, hRc, hRs, hnl⟩ := C
  intro H locs ls hP hS hl
  exact va_get (D := w.1) (ci := 6) (C := RX7) (T := TX7) (N := 8) hx hb hts inX7 hown hy.1 hP k (wl_at hk hk2 rfl) rfl 0 (by decide) (hts _ h) (fun _ h9 => h9) rfl hd (kk H locs ls hP hS hl)
theorem p6_0 (C : Cx w G cc own fr lo nl) {k i : Nat} {x : Int32} (hk : k < 233) (hk2 : kd k = 6) (h : Cond.fieldLink own i "FollowCab$Scene" "cars" "I" ∈ lwg) (hd : decode cc pc = .ok (.putfield i, 3)) (kk : ∀ M1, M1 = up M k 0 x → V w G (pc + 3) lv st M1) : V w G pc lv (.int x :: .ref (w.2.1 k) :: st) M := by
  obtain ⟨p, l, e, R, s, m, args, below, meth, c, Q, nL, cells, slots⟩ := G
  obtain ⟨hx, hb, hml, hown, hts, hy, hRf, hRl, hRc, hRs, hnl⟩ := C
  intro H locs ls hP hS hl
  refine va_put (D := w.1) (ci := 6) (v := .int x) (ty := .int) (C := RX7) (T := TX7) (N := 8) hx hb hts inX7 tyX7 tyX7_ok nmX7 hown hy.1 hP (hy.D M) hS k (wl_at hk hk2 rfl) rfl 0 (by decide) (hts _ h) (fun _ h9 => h9) rfl (by decide +kernel) rfl rfl (Nat.le_of_ble_eq_true rfl) hd (fun H1 locs1 hP1 _ hS1 => ?_)
  rw [wl_set (M' := up M k 0 x) hk (by rw [en_k hk2, up_s]; rfl) (fun j hj => up_o hj)] at hP1
  exact kk _ rfl H1 locs1 ls hP1 hS1 hl
theorem g6_1 (C : Cx w G cc own fr lo nl) {k i : Nat} (hk : k < 233) (hk2 : kd k = 6) (h : Cond.fieldLink own i "FollowCab$Scene" "steps" "I" ∈ lwg) (hd : decode cc pc = .ok (.getfield i, 3)) (kk : V w G (pc + 3) lv (.int (M k 1) :: st) M) : V w G pc lv (.ref (w.2.1 k) :: st) M := by
  obtain ⟨p, l, e, R, s, m, args, below, meth, c, Q, nL, cells, slots⟩ := G
  obtain ⟨hx, hb, hml, hown, hts, hy, hRf, hRl, hRc, hRs, hnl⟩ := C
  intro H locs ls hP hS hl
  exact va_get (D := w.1) (ci := 6) (C := RX7) (T := TX7) (N := 8) hx hb hts inX7 hown hy.1 hP k (wl_at hk hk2 rfl) rfl 1 (by decide) (hts _ h) (fun _ h9 => h9) rfl hd (kk H locs ls hP hS hl)
theorem p6_1 (C : Cx w G cc own fr lo nl) {k i : Nat} {x : Int32} (hk : k < 233) (hk2 : kd k = 6) (h : Cond.fieldLink own i "FollowCab$Scene" "steps" "I" ∈ lwg) (hd : decode cc pc = .ok (.putfield i, 3)) (kk : ∀ M1, M1 = up M k 1 x → V w G (pc + 3) lv st M1) : V w G pc lv (.int x :: .ref (w.2.1 k) :: st) M := by
  obtain ⟨p, l, e, R, s, m, args, below, meth, c, Q, nL, cells, slots⟩ := G
  obtain ⟨hx, hb, hml, hown, hts, hy, hRf, hRl, hRc, hRs, hnl⟩ := C
  intro H locs ls hP hS hl
  refine va_put (D := w.1) (ci := 6) (v := .int x) (ty := .int) (C := RX7) (T := TX7) (N := 8) hx hb hts inX7 tyX7 tyX7_ok nmX7 hown hy.1 hP (hy.D M) hS k (wl_at hk hk2 rfl) rfl 1 (by decide) (hts _ h) (fun _ h9 => h9) rfl (by decide +kernel) rfl rfl (Nat.le_of_ble_eq_true rfl) hd (fun H1 locs1 hP1 _ hS1 => ?_)
  rw [wl_set (M' := up M k 1 x) hk (by rw [en_k hk2, up_s]; rfl) (fun j hj => up_o hj)] at hP1
  exact kk _ rfl H1 locs1 ls hP1 hS1 hl
theorem g6_2 (C : Cx w G cc own fr lo nl) {k i : Nat} (hk : k < 233) (hk2 : kd k = 6) (h : Cond.fieldLink own i "FollowCab$Scene" "corner" "[I" ∈ lwg) (hd : decode cc pc = .ok (.getfield i, 3)) (kk : V w G (pc + 3) lv (.ref (w.2.1 (k+1)) :: st) M) : V w G pc lv (.ref (w.2.1 k) :: st) M := by
  obtain ⟨p, l, e, R, s, m, args, below, meth, c, Q, nL, cells, slots⟩ := G
  obtain ⟨hx, hb, hml, hown, hts, hy, hRf, hRl, hRc, hRs, hnl⟩ := C
  intro H locs ls hP hS hl
  exact va_get (D := w.1) (ci := 6) (C := RX7) (T := TX7) (N := 8) hx hb hts inX7 hown hy.1 hP k (wl_at hk hk2 rfl) rfl 2 (by decide) (hts _ h) (fun _ h9 => h9) rfl hd (kk H locs ls hP hS hl)
theorem g6_3 (C : Cx w G cc own fr lo nl) {k i : Nat} (hk : k < 233) (hk2 : kd k = 6) (h : Cond.fieldLink own i "FollowCab$Scene" "leader" "[I" ∈ lwg) (hd : decode cc pc = .ok (.getfield i, 3)) (kk : V w G (pc + 3) lv (.ref (w.2.1 (k+2)) :: st) M) : V w G pc lv (.ref (w.2.1 k) :: st) M := by
  obtain ⟨p, l, e, R, s, m, args, below, meth, c, Q, nL, cells, slots⟩ := G
  obtain ⟨hx, hb, hml, hown, hts, hy, hRf, hRl, hRc, hRs, hnl⟩ := C
  intro H locs ls hP hS hl
  exact va_get (D := w.1) (ci := 6) (C := RX7) (T := TX7) (N := 8) hx hb hts inX7 hown hy.1 hP k (wl_at hk hk2 rfl) rfl 3 (by decide) (hts _ h) (fun _ h9 => h9) rfl hd (kk H locs ls hP hS hl)
theorem g6_4 (C : Cx w G cc own fr lo nl) {k i : Nat} (hk : k < 233) (hk2 : kd k = 6) (h : Cond.fieldLink own i "FollowCab$Scene" "round" "[I" ∈ lwg) (hd : decode cc pc = .ok (.getfield i, 3)) (kk : V w G (pc + 3) lv (.ref (w.2.1 (k+3)) :: st) M) : V w G pc lv (.ref (w.2.1 k) :: st) M := by
  obtain ⟨p, l, e, R, s, m, args, below, meth, c, Q, nL, cells, slots⟩ := G
  obtain ⟨hx, hb, hml, hown, hts, hy, hRf, hRl, hRc, hRs, hnl⟩ := C
  intro H locs ls hP hS hl
  exact va_get (D := w.1) (ci := 6) (C := RX7) (T := TX7) (N := 8) hx hb hts inX7 hown hy.1 hP k (wl_at hk hk2 rfl) rfl 4 (by decide) (hts _ h) (fun _ h9 => h9) rfl hd (kk H locs ls hP hS hl)
theorem g6_5 (C : Cx w G cc own fr lo nl) {k i : Nat} (hk : k < 233) (hk2 : kd k = 6) (h : Cond.fieldLink own i "FollowCab$Scene" "next" "[I" ∈ lwg) (hd : decode cc pc = .ok (.getfield i, 3)) (kk : V w G (pc + 3) lv (.ref (w.2.1 (k+4)) :: st) M) : V w G pc lv (.ref (w.2.1 k) :: st) M := by
  obtain ⟨p, l, e, R, s, m, args, below, meth, c, Q, nL, cells, slots⟩ := G
  obtain ⟨hx, hb, hml, hown, hts, hy, hRf, hRl, hRc, hRs, hnl⟩ := C
  intro H locs ls hP hS hl
  exact va_get (D := w.1) (ci := 6) (C := RX7) (T := TX7) (N := 8) hx hb hts inX7 hown hy.1 hP k (wl_at hk hk2 rfl) rfl 5 (by decide) (hts _ h) (fun _ h9 => h9) rfl hd (kk H locs ls hP hS hl)
theorem g6_6 (C : Cx w G cc own fr lo nl) {k i : Nat} (hk : k < 233) (hk2 : kd k = 6) (h : Cond.fieldLink own i "FollowCab$Scene" "went" "[I" ∈ lwg) (hd : decode cc pc = .ok (.getfield i, 3)) (kk : V w G (pc + 3) lv (.ref (w.2.1 (k+5)) :: st) M) : V w G pc lv (.ref (w.2.1 k) :: st) M := by
  obtain ⟨p, l, e, R, s, m, args, below, meth, c, Q, nL, cells, slots⟩ := G
  obtain ⟨hx, hb, hml, hown, hts, hy, hRf, hRl, hRc, hRs, hnl⟩ := C
  intro H locs ls hP hS hl
  exact va_get (D := w.1) (ci := 6) (C := RX7) (T := TX7) (N := 8) hx hb hts inX7 hown hy.1 hP k (wl_at hk hk2 rfl) rfl 6 (by decide) (hts _ h) (fun _ h9 => h9) rfl hd (kk H locs ls hP hS hl)
theorem g6_7 (C : Cx w G cc own fr lo nl) {k i : Nat} (hk : k < 233) (hk2 : kd k = 6) (h : Cond.fieldLink own i "FollowCab$Scene" "ahead" "[I" ∈ lwg) (hd : decode cc pc = .ok (.getfield i, 3)) (kk : V w G (pc + 3) lv (.ref (w.2.1 (k+6)) :: st) M) : V w G pc lv (.ref (w.2.1 k) :: st) M := by
  obtain ⟨p, l, e, R, s, m, args, below, meth, c, Q, nL, cells, slots⟩ := G
  obtain ⟨hx, hb, hml, hown, hts, hy, hRf, hRl, hRc, hRs, hnl⟩ := C
  intro H locs ls hP hS hl
  exact va_get (D := w.1) (ci := 6) (C := RX7) (T := TX7) (N := 8) hx hb hts inX7 hown hy.1 hP k (wl_at hk hk2 rfl) rfl 7 (by decide) (hts _ h) (fun _ h9 => h9) rfl hd (kk H locs ls hP hS hl)
theorem g7_0 (C : Cx w G cc own fr lo nl) {k i : Nat} (hk : k < 233) (hk2 : kd k = 7) (h : Cond.fieldLink own i "FollowCab$Text" "letter" "[I" ∈ lwg) (hd : decode cc pc = .ok (.getfield i, 3)) (kk : V w G (pc + 3) lv (.ref (w.2.1 2) :: st) M) : V w G pc lv (.ref (w.2.1 k) :: st) M := by
  obtain ⟨p, l, e, R, s, m, args, below, meth, c, Q, nL, cells, slots⟩ := G
  obtain ⟨hx, hb, hml, hown, hts, hy, hRf, hRl, hRc, hRs, hnl⟩ := C
  intro H locs ls hP hS hl
  exact va_get (D := w.1) (ci := 7) (C := RX8) (T := TX8) (N := 2) hx hb hts inX8 hown hy.1 hP k (wl_at hk hk2 rfl) rfl 0 (by decide) (hts _ h) (fun _ h9 => h9) rfl hd (kk H locs ls hP hS hl)
theorem g7_1 (C : Cx w G cc own fr lo nl) {k i : Nat} (hk : k < 233) (hk2 : kd k = 7) (h : Cond.fieldLink own i "FollowCab$Text" "length" "I" ∈ lwg) (hd : decode cc pc = .ok (.getfield i, 3)) (kk : V w G (pc + 3) lv (.int (M k 1) :: st) M) : V w G pc lv (.ref (w.2.1 k) :: st) M := by
  obtain ⟨p, l, e, R, s, m, args, below, meth, c, Q, nL, cells, slots⟩ := G
  obtain ⟨hx, hb, hml, hown, hts, hy, hRf, hRl, hRc, hRs, hnl⟩ := C
  intro H locs ls hP hS hl
  exact va_get (D := w.1) (ci := 7) (C := RX8) (T := TX8) (N := 2) hx hb hts inX8 hown hy.1 hP k (wl_at hk hk2 rfl) rfl 1 (by decide) (hts _ h) (fun _ h9 => h9) rfl hd (kk H locs ls hP hS hl)
theorem p7_1 (C : Cx w G cc own fr lo nl) {k i : Nat} {x : Int32} (hk : k < 233) (hk2 : kd k = 7) (h : Cond.fieldLink own i "FollowCab$Text" "length" "I" ∈ lwg) (hd : decode cc pc = .ok (.putfield i, 3)) (kk : ∀ M1, M1 = up M k 1 x → V w G (pc + 3) lv st M1) : V w G pc lv (.int x :: .ref (w.2.1 k) :: st) M := by
  obtain ⟨p, l, e, R, s, m, args, below, meth, c, Q, nL, cells, slots⟩ := G
  obtain ⟨hx, hb, hml, hown, hts, hy, hRf, hRl, hRc, hRs, hnl⟩ := C
  intro H locs ls hP hS hl
  refine va_put (D := w.1) (ci := 7) (v := .int x) (ty := .int) (C := RX8) (T := TX8) (N := 2) hx hb hts inX8 tyX8 tyX8_ok nmX8 hown hy.1 hP (hy.D M) hS k (wl_at hk hk2 rfl) rfl 1 (by decide) (hts _ h) (fun _ h9 => h9) rfl (by decide +kernel) rfl rfl (Nat.le_of_ble_eq_true rfl) hd (fun H1 locs1 hP1 _ hS1 => ?_)
  rw [wl_set (M' := up M k 1 x) hk (by rw [en_k hk2, up_s]; rfl) (fun j hj => up_o hj)] at hP1
  exact kk _ rfl H1 locs1 ls hP1 hS1 hl
theorem g8_0 (C : Cx w G cc own fr lo nl) {k i : Nat} (hk : k < 233) (hk2 : kd k = 8) (h : Cond.fieldLink own i "FollowCab" "text" "LFollowCab$Text;" ∈ lwg) (hd : decode cc pc = .ok (.getfield i, 3)) (kk : V w G (pc + 3) lv (.ref (w.2.1 1) :: st) M) : V w G pc lv (.ref (w.2.1 k) :: st) M := by
  obtain ⟨p, l, e, R, s, m, args, below, meth, c, Q, nL, cells, slots⟩ := G
  obtain ⟨hx, hb, hml, hown, hts, hy, hRf, hRl, hRc, hRs, hnl⟩ := C
  intro H locs ls hP hS hl
  exact va_get (D := w.1) (ci := 8) (C := RX9) (T := TX9) (N := 13) hx hb hts inX9 hown hy.1 hP k (wl_at hk hk2 rfl) rfl 0 (by decide) (hts _ h) (fun _ h9 => h9) rfl hd (kk H locs ls hP hS hl)
theorem g8_1 (C : Cx w G cc own fr lo nl) {k i : Nat} (hk : k < 233) (hk2 : kd k = 8) (h : Cond.fieldLink own i "FollowCab" "reader" "LFollowCab$Reader;" ∈ lwg) (hd : decode cc pc = .ok (.getfield i, 3)) (kk : V w G (pc + 3) lv (.ref (w.2.1 3) :: st) M) : V w G pc lv (.ref (w.2.1 k) :: st) M := by
  obtain ⟨p, l, e, R, s, m, args, below, meth, c, Q, nL, cells, slots⟩ := G
  obtain ⟨hx, hb, hml, hown, hts, hy, hRf, hRl, hRc, hRs, hnl⟩ := C
  intro H locs ls hP hS hl
  exact va_get (D := w.1) (ci := 8) (C := RX9) (T := TX9) (N := 13) hx hb hts inX9 hown hy.1 hP k (wl_at hk hk2 rfl) rfl 1 (by decide) (hts _ h) (fun _ h9 => h9) rfl hd (kk H locs ls hP hS hl)
theorem g8_2 (C : Cx w G cc own fr lo nl) {k i : Nat} (hk : k < 233) (hk2 : kd k = 8) (h : Cond.fieldLink own i "FollowCab" "now" "LFollowCab$Scene;" ∈ lwg) (hd : decode cc pc = .ok (.getfield i, 3)) (kk : V w G (pc + 3) lv (.ref (w.2.1 11) :: st) M) : V w G pc lv (.ref (w.2.1 k) :: st) M := by
  obtain ⟨p, l, e, R, s, m, args, below, meth, c, Q, nL, cells, slots⟩ := G
  obtain ⟨hx, hb, hml, hown, hts, hy, hRf, hRl, hRc, hRs, hnl⟩ := C
  intro H locs ls hP hS hl
  exact va_get (D := w.1) (ci := 8) (C := RX9) (T := TX9) (N := 13) hx hb hts inX9 hown hy.1 hP k (wl_at hk hk2 rfl) rfl 2 (by decide) (hts _ h) (fun _ h9 => h9) rfl hd (kk H locs ls hP hS hl)
theorem g8_3 (C : Cx w G cc own fr lo nl) {k i : Nat} (hk : k < 233) (hk2 : kd k = 8) (h : Cond.fieldLink own i "FollowCab" "tried" "LFollowCab$Scene;" ∈ lwg) (hd : decode cc pc = .ok (.getfield i, 3)) (kk : V w G (pc + 3) lv (.ref (w.2.1 18) :: st) M) : V w G pc lv (.ref (w.2.1 k) :: st) M := by
  obtain ⟨p, l, e, R, s, m, args, below, meth, c, Q, nL, cells, slots⟩ := G
  obtain ⟨hx, hb, hml, hown, hts, hy, hRf, hRl, hRc, hRs, hnl⟩ := C
  intro H locs ls hP hS hl
  exact va_get (D := w.1) (ci := 8) (C := RX9) (T := TX9) (N := 13) hx hb hts inX9 hown hy.1 hP k (wl_at hk hk2 rfl) rfl 3 (by decide) (hts _ h) (fun _ h9 => h9) rfl hd (kk H locs ls hP hS hl)
theorem g8_4 (C : Cx w G cc own fr lo nl) {k i : Nat} (hk : k < 233) (hk2 : kd k = 8) (h : Cond.fieldLink own i "FollowCab" "history" "LFollowCab$History;" ∈ lwg) (hd : decode cc pc = .ok (.getfield i, 3)) (kk : V w G (pc + 3) lv (.ref (w.2.1 25) :: st) M) : V w G pc lv (.ref (w.2.1 k) :: st) M := by
  obtain ⟨p, l, e, R, s, m, args, below, meth, c, Q, nL, cells, slots⟩ := G
  obtain ⟨hx, hb, hml, hown, hts, hy, hRf, hRl, hRc, hRs, hnl⟩ := C
  intro H locs ls hP hS hl
  exact va_get (D := w.1) (ci := 8) (C := RX9) (T := TX9) (N := 13) hx hb hts inX9 hown hy.1 hP k (wl_at hk hk2 rfl) rfl 4 (by decide) (hts _ h) (fun _ h9 => h9) rfl hd (kk H locs ls hP hS hl)
theorem g8_5 (C : Cx w G cc own fr lo nl) {k i : Nat} (hk : k < 233) (hk2 : kd k = 8) (h : Cond.fieldLink own i "FollowCab" "images" "LFollowCab$Images;" ∈ lwg) (hd : decode cc pc = .ok (.getfield i, 3)) (kk : V w G (pc + 3) lv (.ref (w.2.1 167) :: st) M) : V w G pc lv (.ref (w.2.1 k) :: st) M := by
  obtain ⟨p, l, e, R, s, m, args, below, meth, c, Q, nL, cells, slots⟩ := G
  obtain ⟨hx, hb, hml, hown, hts, hy, hRf, hRl, hRc, hRs, hnl⟩ := C
  intro H locs ls hP hS hl
  exact va_get (D := w.1) (ci := 8) (C := RX9) (T := TX9) (N := 13) hx hb hts inX9 hown hy.1 hP k (wl_at hk hk2 rfl) rfl 5 (by decide) (hts _ h) (fun _ h9 => h9) rfl hd (kk H locs ls hP hS hl)
theorem g8_6 (C : Cx w G cc own fr lo nl) {k i : Nat} (hk : k < 233) (hk2 : kd k = 8) (h : Cond.fieldLink own i "FollowCab" "sightings" "LFollowCab$Entries;" ∈ lwg) (hd : decode cc pc = .ok (.getfield i, 3)) (kk : V w G (pc + 3) lv (.ref (w.2.1 185) :: st) M) : V w G pc lv (.ref (w.2.1 k) :: st) M := by
  obtain ⟨p, l, e, R, s, m, args, below, meth, c, Q, nL, cells, slots⟩ := G
  obtain ⟨hx, hb, hml, hown, hts, hy, hRf, hRl, hRc, hRs, hnl⟩ := C
  intro H locs ls hP hS hl
  exact va_get (D := w.1) (ci := 8) (C := RX9) (T := TX9) (N := 13) hx hb hts inX9 hown hy.1 hP k (wl_at hk hk2 rfl) rfl 6 (by decide) (hts _ h) (fun _ h9 => h9) rfl hd (kk H locs ls hP hS hl)
theorem g8_7 (C : Cx w G cc own fr lo nl) {k i : Nat} (hk : k < 233) (hk2 : kd k = 8) (h : Cond.fieldLink own i "FollowCab" "book" "LFollowCab$Entries;" ∈ lwg) (hd : decode cc pc = .ok (.getfield i, 3)) (kk : V w G (pc + 3) lv (.ref (w.2.1 189) :: st) M) : V w G pc lv (.ref (w.2.1 k) :: st) M := by
  obtain ⟨p, l, e, R, s, m, args, below, meth, c, Q, nL, cells, slots⟩ := G
  obtain ⟨hx, hb, hml, hown, hts, hy, hRf, hRl, hRc, hRs, hnl⟩ := C
  intro H locs ls hP hS hl
  exact va_get (D := w.1) (ci := 8) (C := RX9) (T := TX9) (N := 13) hx hb hts inX9 hown hy.1 hP k (wl_at hk hk2 rfl) rfl 7 (by decide) (hts _ h) (fun _ h9 => h9) rfl hd (kk H locs ls hP hS hl)
theorem g8_8 (C : Cx w G cc own fr lo nl) {k i : Nat} (hk : k < 233) (hk2 : kd k = 8) (h : Cond.fieldLink own i "FollowCab" "guess" "LFollowCab$Guess;" ∈ lwg) (hd : decode cc pc = .ok (.getfield i, 3)) (kk : V w G (pc + 3) lv (.ref (w.2.1 193) :: st) M) : V w G pc lv (.ref (w.2.1 k) :: st) M := by
  obtain ⟨p, l, e, R, s, m, args, below, meth, c, Q, nL, cells, slots⟩ := G
  obtain ⟨hx, hb, hml, hown, hts, hy, hRf, hRl, hRc, hRs, hnl⟩ := C
  intro H locs ls hP hS hl
  exact va_get (D := w.1) (ci := 8) (C := RX9) (T := TX9) (N := 13) hx hb hts inX9 hown hy.1 hP k (wl_at hk hk2 rfl) rfl 8 (by decide) (hts _ h) (fun _ h9 => h9) rfl hd (kk H locs ls hP hS hl)
theorem g8_9 (C : Cx w G cc own fr lo nl) {k i : Nat} (hk : k < 233) (hk2 : kd k = 8) (h : Cond.fieldLink own i "FollowCab" "draws" "LFollowCab$Draws;" ∈ lwg) (hd : decode cc pc = .ok (.getfield i, 3)) (kk : V w G (pc + 3) lv (.ref (w.2.1 210) :: st) M) : V w G pc lv (.ref (w.2.1 k) :: st) M := by
  obtain ⟨p, l, e, R, s, m, args, below, meth, c, Q, nL, cells, slots⟩ := G
  obtain ⟨hx, hb, hml, hown, hts, hy, hRf, hRl, hRc, hRs, hnl⟩ := C
  intro H locs ls hP hS hl
  exact va_get (D := w.1) (ci := 8) (C := RX9) (T := TX9) (N := 13) hx hb hts inX9 hown hy.1 hP k (wl_at hk hk2 rfl) rfl 9 (by decide) (hts _ h) (fun _ h9 => h9) rfl hd (kk H locs ls hP hS hl)
theorem g8_10 (C : Cx w G cc own fr lo nl) {k i : Nat} (hk : k < 233) (hk2 : kd k = 8) (h : Cond.fieldLink own i "FollowCab" "corners" "I" ∈ lwg) (hd : decode cc pc = .ok (.getfield i, 3)) (kk : V w G (pc + 3) lv (.int (M k 10) :: st) M) : V w G pc lv (.ref (w.2.1 k) :: st) M := by
  obtain ⟨p, l, e, R, s, m, args, below, meth, c, Q, nL, cells, slots⟩ := G
  obtain ⟨hx, hb, hml, hown, hts, hy, hRf, hRl, hRc, hRs, hnl⟩ := C
  intro H locs ls hP hS hl
  exact va_get (D := w.1) (ci := 8) (C := RX9) (T := TX9) (N := 13) hx hb hts inX9 hown hy.1 hP k (wl_at hk hk2 rfl) rfl 10 (by decide) (hts _ h) (fun _ h9 => h9) rfl hd (kk H locs ls hP hS hl)
theorem p8_10 (C : Cx w G cc own fr lo nl) {k i : Nat} {x : Int32} (hk : k < 233) (hk2 : kd k = 8) (h : Cond.fieldLink own i "FollowCab" "corners" "I" ∈ lwg) (hd : decode cc pc = .ok (.putfield i, 3)) (kk : ∀ M1, M1 = up M k 10 x → V w G (pc + 3) lv st M1) : V w G pc lv (.int x :: .ref (w.2.1 k) :: st) M := by
  obtain ⟨p, l, e, R, s, m, args, below, meth, c, Q, nL, cells, slots⟩ := G
  obtain ⟨hx, hb, hml, hown, hts, hy, hRf, hRl, hRc, hRs, hnl⟩ := C
  intro H locs ls hP hS hl
  refine va_put (D := w.1) (ci := 8) (v := .int x) (ty := .int) (C := RX9) (T := TX9) (N := 13) hx hb hts inX9 tyX9 tyX9_ok nmX9 hown hy.1 hP (hy.D M) hS k (wl_at hk hk2 rfl) rfl 10 (by decide) (hts _ h) (fun _ h9 => h9) rfl (by decide +kernel) rfl rfl (Nat.le_of_ble_eq_true rfl) hd (fun H1 locs1 hP1 _ hS1 => ?_)
  rw [wl_set (M' := up M k 10 x) hk (by rw [en_k hk2, up_s]; rfl) (fun j hj => up_o hj)] at hP1
  exact kk _ rfl H1 locs1 ls hP1 hS1 hl
theorem g8_11 (C : Cx w G cc own fr lo nl) {k i : Nat} (hk : k < 233) (hk2 : kd k = 8) (h : Cond.fieldLink own i "FollowCab" "odds" "I" ∈ lwg) (hd : decode cc pc = .ok (.getfield i, 3)) (kk : V w G (pc + 3) lv (.int (M k 11) :: st) M) : V w G pc lv (.ref (w.2.1 k) :: st) M := by
  obtain ⟨p, l, e, R, s, m, args, below, meth, c, Q, nL, cells, slots⟩ := G
  obtain ⟨hx, hb, hml, hown, hts, hy, hRf, hRl, hRc, hRs, hnl⟩ := C
  intro H locs ls hP hS hl
  exact va_get (D := w.1) (ci := 8) (C := RX9) (T := TX9) (N := 13) hx hb hts inX9 hown hy.1 hP k (wl_at hk hk2 rfl) rfl 11 (by decide) (hts _ h) (fun _ h9 => h9) rfl hd (kk H locs ls hP hS hl)
theorem p8_11 (C : Cx w G cc own fr lo nl) {k i : Nat} {x : Int32} (hk : k < 233) (hk2 : kd k = 8) (h : Cond.fieldLink own i "FollowCab" "odds" "I" ∈ lwg) (hd : decode cc pc = .ok (.putfield i, 3)) (kk : ∀ M1, M1 = up M k 11 x → V w G (pc + 3) lv st M1) : V w G pc lv (.int x :: .ref (w.2.1 k) :: st) M := by
  obtain ⟨p, l, e, R, s, m, args, below, meth, c, Q, nL, cells, slots⟩ := G
  obtain ⟨hx, hb, hml, hown, hts, hy, hRf, hRl, hRc, hRs, hnl⟩ := C
  intro H locs ls hP hS hl
  refine va_put (D := w.1) (ci := 8) (v := .int x) (ty := .int) (C := RX9) (T := TX9) (N := 13) hx hb hts inX9 tyX9 tyX9_ok nmX9 hown hy.1 hP (hy.D M) hS k (wl_at hk hk2 rfl) rfl 11 (by decide) (hts _ h) (fun _ h9 => h9) rfl (by decide +kernel) rfl rfl (Nat.le_of_ble_eq_true rfl) hd (fun H1 locs1 hP1 _ hS1 => ?_)
  rw [wl_set (M' := up M k 11 x) hk (by rw [en_k hk2, up_s]; rfl) (fun j hj => up_o hj)] at hP1
  exact kk _ rfl H1 locs1 ls hP1 hS1 hl
theorem g8_12 (C : Cx w G cc own fr lo nl) {k i : Nat} (hk : k < 233) (hk2 : kd k = 8) (h : Cond.fieldLink own i "FollowCab" "faultPlace" "I" ∈ lwg) (hd : decode cc pc = .ok (.getfield i, 3)) (kk : V w G (pc + 3) lv (.int (M k 12) :: st) M) : V w G pc lv (.ref (w.2.1 k) :: st) M := by
  obtain ⟨p, l, e, R, s, m, args, below, meth, c, Q, nL, cells, slots⟩ := G
  obtain ⟨hx, hb, hml, hown, hts, hy, hRf, hRl, hRc, hRs, hnl⟩ := C
  intro H locs ls hP hS hl
  exact va_get (D := w.1) (ci := 8) (C := RX9) (T := TX9) (N := 13) hx hb hts inX9 hown hy.1 hP k (wl_at hk hk2 rfl) rfl 12 (by decide) (hts _ h) (fun _ h9 => h9) rfl hd (kk H locs ls hP hS hl)
theorem p8_12 (C : Cx w G cc own fr lo nl) {k i : Nat} {x : Int32} (hk : k < 233) (hk2 : kd k = 8) (h : Cond.fieldLink own i "FollowCab" "faultPlace" "I" ∈ lwg) (hd : decode cc pc = .ok (.putfield i, 3)) (kk : ∀ M1, M1 = up M k 12 x → V w G (pc + 3) lv st M1) : V w G pc lv (.int x :: .ref (w.2.1 k) :: st) M := by
  obtain ⟨p, l, e, R, s, m, args, below, meth, c, Q, nL, cells, slots⟩ := G
  obtain ⟨hx, hb, hml, hown, hts, hy, hRf, hRl, hRc, hRs, hnl⟩ := C
  intro H locs ls hP hS hl
  refine va_put (D := w.1) (ci := 8) (v := .int x) (ty := .int) (C := RX9) (T := TX9) (N := 13) hx hb hts inX9 tyX9 tyX9_ok nmX9 hown hy.1 hP (hy.D M) hS k (wl_at hk hk2 rfl) rfl 12 (by decide) (hts _ h) (fun _ h9 => h9) rfl (by decide +kernel) rfl rfl (Nat.le_of_ble_eq_true rfl) hd (fun H1 locs1 hP1 _ hS1 => ?_)
  rw [wl_set (M' := up M k 12 x) hk (by rw [en_k hk2, up_s]; rfl) (fun j hj => up_o hj)] at hP1
  exact kk _ rfl H1 locs1 ls hP1 hS1 hl
theorem g9_0 (C : Cx w G cc own fr lo nl) {k i : Nat} (hk : k < 233) (hk2 : kd k = 9) (h : Cond.fieldLink own i "FollowCabModel" "corners" "I" ∈ lwg) (hd : decode cc pc = .ok (.getfield i, 3)) (kk : V w G (pc + 3) lv (.int (M k 0) :: st) M) : V w G pc lv (.ref (w.2.1 k) :: st) M := by
  obtain ⟨p, l, e, R, s, m, args, below, meth, c, Q, nL, cells, slots⟩ := G
  obtain ⟨hx, hb, hml, hown, hts, hy, hRf, hRl, hRc, hRs, hnl⟩ := C
  intro H locs ls hP hS hl
  exact va_get (D := w.1) (ci := 9) (C := RX10) (T := TX10) (N := 34) hx hb hts inX10 hown hy.1 hP k (wl_at hk hk2 rfl) rfl 0 (by decide) (hts _ h) (fun _ h9 => h9) rfl hd (kk H locs ls hP hS hl)
theorem p9_0 (C : Cx w G cc own fr lo nl) {k i : Nat} {x : Int32} (hk : k < 233) (hk2 : kd k = 9) (h : Cond.fieldLink own i "FollowCabModel" "corners" "I" ∈ lwg) (hd : decode cc pc = .ok (.putfield i, 3)) (kk : ∀ M1, M1 = up M k 0 x → V w G (pc + 3) lv st M1) : V w G pc lv (.int x :: .ref (w.2.1 k) :: st) M := by
  obtain ⟨p, l, e, R, s, m, args, below, meth, c, Q, nL, cells, slots⟩ := G
  obtain ⟨hx, hb, hml, hown, hts, hy, hRf, hRl, hRc, hRs, hnl⟩ := C
  intro H locs ls hP hS hl
  refine va_put (D := w.1) (ci := 9) (v := .int x) (ty := .int) (C := RX10) (T := TX10) (N := 34) hx hb hts inX10 tyX10 tyX10_ok nmX10 hown hy.1 hP (hy.D M) hS k (wl_at hk hk2 rfl) rfl 0 (by decide) (hts _ h) (fun _ h9 => h9) rfl (by decide +kernel) rfl rfl (Nat.le_of_ble_eq_true rfl) hd (fun H1 locs1 hP1 _ hS1 => ?_)
  rw [wl_set (M' := up M k 0 x) hk (by rw [en_k hk2, up_s]; rfl) (fun j hj => up_o hj)] at hP1
  exact kk _ rfl H1 locs1 ls hP1 hS1 hl
theorem g9_1 (C : Cx w G cc own fr lo nl) {k i : Nat} (hk : k < 233) (hk2 : kd k = 9) (h : Cond.fieldLink own i "FollowCabModel" "odds" "I" ∈ lwg) (hd : decode cc pc = .ok (.getfield i, 3)) (kk : V w G (pc + 3) lv (.int (M k 1) :: st) M) : V w G pc lv (.ref (w.2.1 k) :: st) M := by
  obtain ⟨p, l, e, R, s, m, args, below, meth, c, Q, nL, cells, slots⟩ := G
  obtain ⟨hx, hb, hml, hown, hts, hy, hRf, hRl, hRc, hRs, hnl⟩ := C
  intro H locs ls hP hS hl
  exact va_get (D := w.1) (ci := 9) (C := RX10) (T := TX10) (N := 34) hx hb hts inX10 hown hy.1 hP k (wl_at hk hk2 rfl) rfl 1 (by decide) (hts _ h) (fun _ h9 => h9) rfl hd (kk H locs ls hP hS hl)
theorem p9_1 (C : Cx w G cc own fr lo nl) {k i : Nat} {x : Int32} (hk : k < 233) (hk2 : kd k = 9) (h : Cond.fieldLink own i "FollowCabModel" "odds" "I" ∈ lwg) (hd : decode cc pc = .ok (.putfield i, 3)) (kk : ∀ M1, M1 = up M k 1 x → V w G (pc + 3) lv st M1) : V w G pc lv (.int x :: .ref (w.2.1 k) :: st) M := by
  obtain ⟨p, l, e, R, s, m, args, below, meth, c, Q, nL, cells, slots⟩ := G
  obtain ⟨hx, hb, hml, hown, hts, hy, hRf, hRl, hRc, hRs, hnl⟩ := C
  intro H locs ls hP hS hl
  refine va_put (D := w.1) (ci := 9) (v := .int x) (ty := .int) (C := RX10) (T := TX10) (N := 34) hx hb hts inX10 tyX10 tyX10_ok nmX10 hown hy.1 hP (hy.D M) hS k (wl_at hk hk2 rfl) rfl 1 (by decide) (hts _ h) (fun _ h9 => h9) rfl (by decide +kernel) rfl rfl (Nat.le_of_ble_eq_true rfl) hd (fun H1 locs1 hP1 _ hS1 => ?_)
  rw [wl_set (M' := up M k 1 x) hk (by rw [en_k hk2, up_s]; rfl) (fun j hj => up_o hj)] at hP1
  exact kk _ rfl H1 locs1 ls hP1 hS1 hl
theorem g9_2 (C : Cx w G cc own fr lo nl) {k i : Nat} (hk : k < 233) (hk2 : kd k = 9) (h : Cond.fieldLink own i "FollowCabModel" "cars" "I" ∈ lwg) (hd : decode cc pc = .ok (.getfield i, 3)) (kk : V w G (pc + 3) lv (.int (M k 2) :: st) M) : V w G pc lv (.ref (w.2.1 k) :: st) M := by
  obtain ⟨p, l, e, R, s, m, args, below, meth, c, Q, nL, cells, slots⟩ := G
  obtain ⟨hx, hb, hml, hown, hts, hy, hRf, hRl, hRc, hRs, hnl⟩ := C
  intro H locs ls hP hS hl
  exact va_get (D := w.1) (ci := 9) (C := RX10) (T := TX10) (N := 34) hx hb hts inX10 hown hy.1 hP k (wl_at hk hk2 rfl) rfl 2 (by decide) (hts _ h) (fun _ h9 => h9) rfl hd (kk H locs ls hP hS hl)
theorem p9_2 (C : Cx w G cc own fr lo nl) {k i : Nat} {x : Int32} (hk : k < 233) (hk2 : kd k = 9) (h : Cond.fieldLink own i "FollowCabModel" "cars" "I" ∈ lwg) (hd : decode cc pc = .ok (.putfield i, 3)) (kk : ∀ M1, M1 = up M k 2 x → V w G (pc + 3) lv st M1) : V w G pc lv (.int x :: .ref (w.2.1 k) :: st) M := by
  obtain ⟨p, l, e, R, s, m, args, below, meth, c, Q, nL, cells, slots⟩ := G
  obtain ⟨hx, hb, hml, hown, hts, hy, hRf, hRl, hRc, hRs, hnl⟩ := C
  intro H locs ls hP hS hl
  refine va_put (D := w.1) (ci := 9) (v := .int x) (ty := .int) (C := RX10) (T := TX10) (N := 34) hx hb hts inX10 tyX10 tyX10_ok nmX10 hown hy.1 hP (hy.D M) hS k (wl_at hk hk2 rfl) rfl 2 (by decide) (hts _ h) (fun _ h9 => h9) rfl (by decide +kernel) rfl rfl (Nat.le_of_ble_eq_true rfl) hd (fun H1 locs1 hP1 _ hS1 => ?_)
  rw [wl_set (M' := up M k 2 x) hk (by rw [en_k hk2, up_s]; rfl) (fun j hj => up_o hj)] at hP1
  exact kk _ rfl H1 locs1 ls hP1 hS1 hl
theorem g9_3 (C : Cx w G cc own fr lo nl) {k i : Nat} (hk : k < 233) (hk2 : kd k = 9) (h : Cond.fieldLink own i "FollowCabModel" "rounds" "[I" ∈ lwg) (hd : decode cc pc = .ok (.getfield i, 3)) (kk : V w G (pc + 3) lv (.ref (w.2.1 212) :: st) M) : V w G pc lv (.ref (w.2.1 k) :: st) M := by
  obtain ⟨p, l, e, R, s, m, args, below, meth, c, Q, nL, cells, slots⟩ := G
  obtain ⟨hx, hb, hml, hown, hts, hy, hRf, hRl, hRc, hRs, hnl⟩ := C
  intro H locs ls hP hS hl
  exact va_get (D := w.1) (ci := 9) (C := RX10) (T := TX10) (N := 34) hx hb hts inX10 hown hy.1 hP k (wl_at hk hk2 rfl) rfl 3 (by decide) (hts _ h) (fun _ h9 => h9) rfl hd (kk H locs ls hP hS hl)
theorem g9_4 (C : Cx w G cc own fr lo nl) {k i : Nat} (hk : k < 233) (hk2 : kd k = 9) (h : Cond.fieldLink own i "FollowCabModel" "longs" "[I" ∈ lwg) (hd : decode cc pc = .ok (.getfield i, 3)) (kk : V w G (pc + 3) lv (.ref (w.2.1 213) :: st) M) : V w G pc lv (.ref (w.2.1 k) :: st) M := by
  obtain ⟨p, l, e, R, s, m, args, below, meth, c, Q, nL, cells, slots⟩ := G
  obtain ⟨hx, hb, hml, hown, hts, hy, hRf, hRl, hRc, hRs, hnl⟩ := C
  intro H locs ls hP hS hl
  exact va_get (D := w.1) (ci := 9) (C := RX10) (T := TX10) (N := 34) hx hb hts inX10 hown hy.1 hP k (wl_at hk hk2 rfl) rfl 4 (by decide) (hts _ h) (fun _ h9 => h9) rfl hd (kk H locs ls hP hS hl)
theorem g9_5 (C : Cx w G cc own fr lo nl) {k i : Nat} (hk : k < 233) (hk2 : kd k = 9) (h : Cond.fieldLink own i "FollowCabModel" "now" "[I" ∈ lwg) (hd : decode cc pc = .ok (.getfield i, 3)) (kk : V w G (pc + 3) lv (.ref (w.2.1 214) :: st) M) : V w G pc lv (.ref (w.2.1 k) :: st) M := by
  obtain ⟨p, l, e, R, s, m, args, below, meth, c, Q, nL, cells, slots⟩ := G
  obtain ⟨hx, hb, hml, hown, hts, hy, hRf, hRl, hRc, hRs, hnl⟩ := C
  intro H locs ls hP hS hl
  exact va_get (D := w.1) (ci := 9) (C := RX10) (T := TX10) (N := 34) hx hb hts inX10 hown hy.1 hP k (wl_at hk hk2 rfl) rfl 5 (by decide) (hts _ h) (fun _ h9 => h9) rfl hd (kk H locs ls hP hS hl)
theorem g9_6 (C : Cx w G cc own fr lo nl) {k i : Nat} (hk : k < 233) (hk2 : kd k = 9) (h : Cond.fieldLink own i "FollowCabModel" "seed" "I" ∈ lwg) (hd : decode cc pc = .ok (.getfield i, 3)) (kk : V w G (pc + 3) lv (.int (M k 6) :: st) M) : V w G pc lv (.ref (w.2.1 k) :: st) M := by
  obtain ⟨p, l, e, R, s, m, args, below, meth, c, Q, nL, cells, slots⟩ := G
  obtain ⟨hx, hb, hml, hown, hts, hy, hRf, hRl, hRc, hRs, hnl⟩ := C
  intro H locs ls hP hS hl
  exact va_get (D := w.1) (ci := 9) (C := RX10) (T := TX10) (N := 34) hx hb hts inX10 hown hy.1 hP k (wl_at hk hk2 rfl) rfl 6 (by decide) (hts _ h) (fun _ h9 => h9) rfl hd (kk H locs ls hP hS hl)
theorem p9_6 (C : Cx w G cc own fr lo nl) {k i : Nat} {x : Int32} (hk : k < 233) (hk2 : kd k = 9) (h : Cond.fieldLink own i "FollowCabModel" "seed" "I" ∈ lwg) (hd : decode cc pc = .ok (.putfield i, 3)) (kk : ∀ M1, M1 = up M k 6 x → V w G (pc + 3) lv st M1) : V w G pc lv (.int x :: .ref (w.2.1 k) :: st) M := by
  obtain ⟨p, l, e, R, s, m, args, below, meth, c, Q, nL, cells, slots⟩ := G
  obtain ⟨hx, hb, hml, hown, hts, hy, hRf, hRl, hRc, hRs, hnl⟩ := C
  intro H locs ls hP hS hl
  refine va_put (D := w.1) (ci := 9) (v := .int x) (ty := .int) (C := RX10) (T := TX10) (N := 34) hx hb hts inX10 tyX10 tyX10_ok nmX10 hown hy.1 hP (hy.D M) hS k (wl_at hk hk2 rfl) rfl 6 (by decide) (hts _ h) (fun _ h9 => h9) rfl (by decide +kernel) rfl rfl (Nat.le_of_ble_eq_true rfl) hd (fun H1 locs1 hP1 _ hS1 => ?_)
  rw [wl_set (M' := up M k 6 x) hk (by rw [en_k hk2, up_s]; rfl) (fun j hj => up_o hj)] at hP1
  exact kk _ rfl H1 locs1 ls hP1 hS1 hl
theorem g9_7 (C : Cx w G cc own fr lo nl) {k i : Nat} (hk : k < 233) (hk2 : kd k = 9) (h : Cond.fieldLink own i "FollowCabModel" "text" "[I" ∈ lwg) (hd : decode cc pc = .ok (.getfield i, 3)) (kk : V w G (pc + 3) lv (.ref (w.2.1 215) :: st) M) : V w G pc lv (.ref (w.2.1 k) :: st) M := by
  obtain ⟨p, l, e, R, s, m, args, below, meth, c, Q, nL, cells, slots⟩ := G
  obtain ⟨hx, hb, hml, hown, hts, hy, hRf, hRl, hRc, hRs, hnl⟩ := C
  intro H locs ls hP hS hl
  exact va_get (D := w.1) (ci := 9) (C := RX10) (T := TX10) (N := 34) hx hb hts inX10 hown hy.1 hP k (wl_at hk hk2 rfl) rfl 7 (by decide) (hts _ h) (fun _ h9 => h9) rfl hd (kk H locs ls hP hS hl)
theorem g9_8 (C : Cx w G cc own fr lo nl) {k i : Nat} (hk : k < 233) (hk2 : kd k = 9) (h : Cond.fieldLink own i "FollowCabModel" "texted" "I" ∈ lwg) (hd : decode cc pc = .ok (.getfield i, 3)) (kk : V w G (pc + 3) lv (.int (M k 8) :: st) M) : V w G pc lv (.ref (w.2.1 k) :: st) M := by
  obtain ⟨p, l, e, R, s, m, args, below, meth, c, Q, nL, cells, slots⟩ := G
  obtain ⟨hx, hb, hml, hown, hts, hy, hRf, hRl, hRc, hRs, hnl⟩ := C
  intro H locs ls hP hS hl
  exact va_get (D := w.1) (ci := 9) (C := RX10) (T := TX10) (N := 34) hx hb hts inX10 hown hy.1 hP k (wl_at hk hk2 rfl) rfl 8 (by decide) (hts _ h) (fun _ h9 => h9) rfl hd (kk H locs ls hP hS hl)
theorem p9_8 (C : Cx w G cc own fr lo nl) {k i : Nat} {x : Int32} (hk : k < 233) (hk2 : kd k = 9) (h : Cond.fieldLink own i "FollowCabModel" "texted" "I" ∈ lwg) (hd : decode cc pc = .ok (.putfield i, 3)) (kk : ∀ M1, M1 = up M k 8 x → V w G (pc + 3) lv st M1) : V w G pc lv (.int x :: .ref (w.2.1 k) :: st) M := by
  obtain ⟨p, l, e, R, s, m, args, below, meth, c, Q, nL, cells, slots⟩ := G
  obtain ⟨hx, hb, hml, hown, hts, hy, hRf, hRl, hRc, hRs, hnl⟩ := C
  intro H locs ls hP hS hl
  refine va_put (D := w.1) (ci := 9) (v := .int x) (ty := .int) (C := RX10) (T := TX10) (N := 34) hx hb hts inX10 tyX10 tyX10_ok nmX10 hown hy.1 hP (hy.D M) hS k (wl_at hk hk2 rfl) rfl 8 (by decide) (hts _ h) (fun _ h9 => h9) rfl (by decide +kernel) rfl rfl (Nat.le_of_ble_eq_true rfl) hd (fun H1 locs1 hP1 _ hS1 => ?_)
  rw [wl_set (M' := up M k 8 x) hk (by rw [en_k hk2, up_s]; rfl) (fun j hj => up_o hj)] at hP1
  exact kk _ rfl H1 locs1 ls hP1 hS1 hl
theorem g9_9 (C : Cx w G cc own fr lo nl) {k i : Nat} (hk : k < 233) (hk2 : kd k = 9) (h : Cond.fieldLink own i "FollowCabModel" "faultPlace" "I" ∈ lwg) (hd : decode cc pc = .ok (.getfield i, 3)) (kk : V w G (pc + 3) lv (.int (M k 9) :: st) M) : V w G pc lv (.ref (w.2.1 k) :: st) M := by
  obtain ⟨p, l, e, R, s, m, args, below, meth, c, Q, nL, cells, slots⟩ := G
  obtain ⟨hx, hb, hml, hown, hts, hy, hRf, hRl, hRc, hRs, hnl⟩ := C
  intro H locs ls hP hS hl
  exact va_get (D := w.1) (ci := 9) (C := RX10) (T := TX10) (N := 34) hx hb hts inX10 hown hy.1 hP k (wl_at hk hk2 rfl) rfl 9 (by decide) (hts _ h) (fun _ h9 => h9) rfl hd (kk H locs ls hP hS hl)
theorem p9_9 (C : Cx w G cc own fr lo nl) {k i : Nat} {x : Int32} (hk : k < 233) (hk2 : kd k = 9) (h : Cond.fieldLink own i "FollowCabModel" "faultPlace" "I" ∈ lwg) (hd : decode cc pc = .ok (.putfield i, 3)) (kk : ∀ M1, M1 = up M k 9 x → V w G (pc + 3) lv st M1) : V w G pc lv (.int x :: .ref (w.2.1 k) :: st) M := by
  obtain ⟨p, l, e, R, s, m, args, below, meth, c, Q, nL, cells, slots⟩ := G
  obtain ⟨hx, hb, hml, hown, hts, hy, hRf, hRl, hRc, hRs, hnl⟩ := C
  intro H locs ls hP hS hl
  refine va_put (D := w.1) (ci := 9) (v := .int x) (ty := .int) (C := RX10) (T := TX10) (N := 34) hx hb hts inX10 tyX10 tyX10_ok nmX10 hown hy.1 hP (hy.D M) hS k (wl_at hk hk2 rfl) rfl 9 (by decide) (hts _ h) (fun _ h9 => h9) rfl (by decide +kernel) rfl rfl (Nat.le_of_ble_eq_true rfl) hd (fun H1 locs1 hP1 _ hS1 => ?_)
  rw [wl_set (M' := up M k 9 x) hk (by rw [en_k hk2, up_s]; rfl) (fun j hj => up_o hj)] at hP1
  exact kk _ rfl H1 locs1 ls hP1 hS1 hl
theorem g9_10 (C : Cx w G cc own fr lo nl) {k i : Nat} (hk : k < 233) (hk2 : kd k = 9) (h : Cond.fieldLink own i "FollowCabModel" "at0" "I" ∈ lwg) (hd : decode cc pc = .ok (.getfield i, 3)) (kk : V w G (pc + 3) lv (.int (M k 10) :: st) M) : V w G pc lv (.ref (w.2.1 k) :: st) M := by
  obtain ⟨p, l, e, R, s, m, args, below, meth, c, Q, nL, cells, slots⟩ := G
  obtain ⟨hx, hb, hml, hown, hts, hy, hRf, hRl, hRc, hRs, hnl⟩ := C
  intro H locs ls hP hS hl
  exact va_get (D := w.1) (ci := 9) (C := RX10) (T := TX10) (N := 34) hx hb hts inX10 hown hy.1 hP k (wl_at hk hk2 rfl) rfl 10 (by decide) (hts _ h) (fun _ h9 => h9) rfl hd (kk H locs ls hP hS hl)
theorem p9_10 (C : Cx w G cc own fr lo nl) {k i : Nat} {x : Int32} (hk : k < 233) (hk2 : kd k = 9) (h : Cond.fieldLink own i "FollowCabModel" "at0" "I" ∈ lwg) (hd : decode cc pc = .ok (.putfield i, 3)) (kk : ∀ M1, M1 = up M k 10 x → V w G (pc + 3) lv st M1) : V w G pc lv (.int x :: .ref (w.2.1 k) :: st) M := by
  obtain ⟨p, l, e, R, s, m, args, below, meth, c, Q, nL, cells, slots⟩ := G
  obtain ⟨hx, hb, hml, hown, hts, hy, hRf, hRl, hRc, hRs, hnl⟩ := C
  intro H locs ls hP hS hl
  refine va_put (D := w.1) (ci := 9) (v := .int x) (ty := .int) (C := RX10) (T := TX10) (N := 34) hx hb hts inX10 tyX10 tyX10_ok nmX10 hown hy.1 hP (hy.D M) hS k (wl_at hk hk2 rfl) rfl 10 (by decide) (hts _ h) (fun _ h9 => h9) rfl (by decide +kernel) rfl rfl (Nat.le_of_ble_eq_true rfl) hd (fun H1 locs1 hP1 _ hS1 => ?_)
  rw [wl_set (M' := up M k 10 x) hk (by rw [en_k hk2, up_s]; rfl) (fun j hj => up_o hj)] at hP1
  exact kk _ rfl H1 locs1 ls hP1 hS1 hl
theorem g9_11 (C : Cx w G cc own fr lo nl) {k i : Nat} (hk : k < 233) (hk2 : kd k = 9) (h : Cond.fieldLink own i "FollowCabModel" "number" "I" ∈ lwg) (hd : decode cc pc = .ok (.getfield i, 3)) (kk : V w G (pc + 3) lv (.int (M k 11) :: st) M) : V w G pc lv (.ref (w.2.1 k) :: st) M := by
  obtain ⟨p, l, e, R, s, m, args, below, meth, c, Q, nL, cells, slots⟩ := G
  obtain ⟨hx, hb, hml, hown, hts, hy, hRf, hRl, hRc, hRs, hnl⟩ := C
  intro H locs ls hP hS hl
  exact va_get (D := w.1) (ci := 9) (C := RX10) (T := TX10) (N := 34) hx hb hts inX10 hown hy.1 hP k (wl_at hk hk2 rfl) rfl 11 (by decide) (hts _ h) (fun _ h9 => h9) rfl hd (kk H locs ls hP hS hl)
theorem p9_11 (C : Cx w G cc own fr lo nl) {k i : Nat} {x : Int32} (hk : k < 233) (hk2 : kd k = 9) (h : Cond.fieldLink own i "FollowCabModel" "number" "I" ∈ lwg) (hd : decode cc pc = .ok (.putfield i, 3)) (kk : ∀ M1, M1 = up M k 11 x → V w G (pc + 3) lv st M1) : V w G pc lv (.int x :: .ref (w.2.1 k) :: st) M := by
  obtain ⟨p, l, e, R, s, m, args, below, meth, c, Q, nL, cells, slots⟩ := G
  obtain ⟨hx, hb, hml, hown, hts, hy, hRf, hRl, hRc, hRs, hnl⟩ := C
  intro H locs ls hP hS hl
  refine va_put (D := w.1) (ci := 9) (v := .int x) (ty := .int) (C := RX10) (T := TX10) (N := 34) hx hb hts inX10 tyX10 tyX10_ok nmX10 hown hy.1 hP (hy.D M) hS k (wl_at hk hk2 rfl) rfl 11 (by decide) (hts _ h) (fun _ h9 => h9) rfl (by decide +kernel) rfl rfl (Nat.le_of_ble_eq_true rfl) hd (fun H1 locs1 hP1 _ hS1 => ?_)
  rw [wl_set (M' := up M k 11 x) hk (by rw [en_k hk2, up_s]; rfl) (fun j hj => up_o hj)] at hP1
  exact kk _ rfl H1 locs1 ls hP1 hS1 hl
theorem g9_12 (C : Cx w G cc own fr lo nl) {k i : Nat} (hk : k < 233) (hk2 : kd k = 9) (h : Cond.fieldLink own i "FollowCabModel" "numberAt" "I" ∈ lwg) (hd : decode cc pc = .ok (.getfield i, 3)) (kk : V w G (pc + 3) lv (.int (M k 12) :: st) M) : V w G pc lv (.ref (w.2.1 k) :: st) M := by
  obtain ⟨p, l, e, R, s, m, args, below, meth, c, Q, nL, cells, slots⟩ := G
  obtain ⟨hx, hb, hml, hown, hts, hy, hRf, hRl, hRc, hRs, hnl⟩ := C
  intro H locs ls hP hS hl
  exact va_get (D := w.1) (ci := 9) (C := RX10) (T := TX10) (N := 34) hx hb hts inX10 hown hy.1 hP k (wl_at hk hk2 rfl) rfl 12 (by decide) (hts _ h) (fun _ h9 => h9) rfl hd (kk H locs ls hP hS hl)
theorem p9_12 (C : Cx w G cc own fr lo nl) {k i : Nat} {x : Int32} (hk : k < 233) (hk2 : kd k = 9) (h : Cond.fieldLink own i "FollowCabModel" "numberAt" "I" ∈ lwg) (hd : decode cc pc = .ok (.putfield i, 3)) (kk : ∀ M1, M1 = up M k 12 x → V w G (pc + 3) lv st M1) : V w G pc lv (.int x :: .ref (w.2.1 k) :: st) M := by
  obtain ⟨p, l, e, R, s, m, args, below, meth, c, Q, nL, cells, slots⟩ := G
  obtain ⟨hx, hb, hml, hown, hts, hy, hRf, hRl, hRc, hRs, hnl⟩ := C
  intro H locs ls hP hS hl
  refine va_put (D := w.1) (ci := 9) (v := .int x) (ty := .int) (C := RX10) (T := TX10) (N := 34) hx hb hts inX10 tyX10 tyX10_ok nmX10 hown hy.1 hP (hy.D M) hS k (wl_at hk hk2 rfl) rfl 12 (by decide) (hts _ h) (fun _ h9 => h9) rfl (by decide +kernel) rfl rfl (Nat.le_of_ble_eq_true rfl) hd (fun H1 locs1 hP1 _ hS1 => ?_)
  rw [wl_set (M' := up M k 12 x) hk (by rw [en_k hk2, up_s]; rfl) (fun j hj => up_o hj)] at hP1
  exact kk _ rfl H1 locs1 ls hP1 hS1 hl
theorem g9_13 (C : Cx w G cc own fr lo nl) {k i : Nat} (hk : k < 233) (hk2 : kd k = 9) (h : Cond.fieldLink own i "FollowCabModel" "readTown" "[I" ∈ lwg) (hd : decode cc pc = .ok (.getfield i, 3)) (kk : V w G (pc + 3) lv (.ref (w.2.1 216) :: st) M) : V w G pc lv (.ref (w.2.1 k) :: st) M := by
  obtain ⟨p, l, e, R, s, m, args, below, meth, c, Q, nL, cells, slots⟩ := G
  obtain ⟨hx, hb, hml, hown, hts, hy, hRf, hRl, hRc, hRs, hnl⟩ := C
  intro H locs ls hP hS hl
  exact va_get (D := w.1) (ci := 9) (C := RX10) (T := TX10) (N := 34) hx hb hts inX10 hown hy.1 hP k (wl_at hk hk2 rfl) rfl 13 (by decide) (hts _ h) (fun _ h9 => h9) rfl hd (kk H locs ls hP hS hl)
theorem g9_14 (C : Cx w G cc own fr lo nl) {k i : Nat} (hk : k < 233) (hk2 : kd k = 9) (h : Cond.fieldLink own i "FollowCabModel" "readCars" "I" ∈ lwg) (hd : decode cc pc = .ok (.getfield i, 3)) (kk : V w G (pc + 3) lv (.int (M k 14) :: st) M) : V w G pc lv (.ref (w.2.1 k) :: st) M := by
  obtain ⟨p, l, e, R, s, m, args, below, meth, c, Q, nL, cells, slots⟩ := G
  obtain ⟨hx, hb, hml, hown, hts, hy, hRf, hRl, hRc, hRs, hnl⟩ := C
  intro H locs ls hP hS hl
  exact va_get (D := w.1) (ci := 9) (C := RX10) (T := TX10) (N := 34) hx hb hts inX10 hown hy.1 hP k (wl_at hk hk2 rfl) rfl 14 (by decide) (hts _ h) (fun _ h9 => h9) rfl hd (kk H locs ls hP hS hl)
theorem p9_14 (C : Cx w G cc own fr lo nl) {k i : Nat} {x : Int32} (hk : k < 233) (hk2 : kd k = 9) (h : Cond.fieldLink own i "FollowCabModel" "readCars" "I" ∈ lwg) (hd : decode cc pc = .ok (.putfield i, 3)) (kk : ∀ M1, M1 = up M k 14 x → V w G (pc + 3) lv st M1) : V w G pc lv (.int x :: .ref (w.2.1 k) :: st) M := by
  obtain ⟨p, l, e, R, s, m, args, below, meth, c, Q, nL, cells, slots⟩ := G
  obtain ⟨hx, hb, hml, hown, hts, hy, hRf, hRl, hRc, hRs, hnl⟩ := C
  intro H locs ls hP hS hl
  refine va_put (D := w.1) (ci := 9) (v := .int x) (ty := .int) (C := RX10) (T := TX10) (N := 34) hx hb hts inX10 tyX10 tyX10_ok nmX10 hown hy.1 hP (hy.D M) hS k (wl_at hk hk2 rfl) rfl 14 (by decide) (hts _ h) (fun _ h9 => h9) rfl (by decide +kernel) rfl rfl (Nat.le_of_ble_eq_true rfl) hd (fun H1 locs1 hP1 _ hS1 => ?_)
  rw [wl_set (M' := up M k 14 x) hk (by rw [en_k hk2, up_s]; rfl) (fun j hj => up_o hj)] at hP1
  exact kk _ rfl H1 locs1 ls hP1 hS1 hl
theorem g9_15 (C : Cx w G cc own fr lo nl) {k i : Nat} (hk : k < 233) (hk2 : kd k = 9) (h : Cond.fieldLink own i "FollowCabModel" "readAt" "[I" ∈ lwg) (hd : decode cc pc = .ok (.getfield i, 3)) (kk : V w G (pc + 3) lv (.ref (w.2.1 217) :: st) M) : V w G pc lv (.ref (w.2.1 k) :: st) M := by
  obtain ⟨p, l, e, R, s, m, args, below, meth, c, Q, nL, cells, slots⟩ := G
  obtain ⟨hx, hb, hml, hown, hts, hy, hRf, hRl, hRc, hRs, hnl⟩ := C
  intro H locs ls hP hS hl
  exact va_get (D := w.1) (ci := 9) (C := RX10) (T := TX10) (N := 34) hx hb hts inX10 hown hy.1 hP k (wl_at hk hk2 rfl) rfl 15 (by decide) (hts _ h) (fun _ h9 => h9) rfl hd (kk H locs ls hP hS hl)
theorem g9_16 (C : Cx w G cc own fr lo nl) {k i : Nat} (hk : k < 233) (hk2 : kd k = 9) (h : Cond.fieldLink own i "FollowCabModel" "readRounds" "[I" ∈ lwg) (hd : decode cc pc = .ok (.getfield i, 3)) (kk : V w G (pc + 3) lv (.ref (w.2.1 218) :: st) M) : V w G pc lv (.ref (w.2.1 k) :: st) M := by
  obtain ⟨p, l, e, R, s, m, args, below, meth, c, Q, nL, cells, slots⟩ := G
  obtain ⟨hx, hb, hml, hown, hts, hy, hRf, hRl, hRc, hRs, hnl⟩ := C
  intro H locs ls hP hS hl
  exact va_get (D := w.1) (ci := 9) (C := RX10) (T := TX10) (N := 34) hx hb hts inX10 hown hy.1 hP k (wl_at hk hk2 rfl) rfl 16 (by decide) (hts _ h) (fun _ h9 => h9) rfl hd (kk H locs ls hP hS hl)
theorem g9_17 (C : Cx w G cc own fr lo nl) {k i : Nat} (hk : k < 233) (hk2 : kd k = 9) (h : Cond.fieldLink own i "FollowCabModel" "readLongs" "[I" ∈ lwg) (hd : decode cc pc = .ok (.getfield i, 3)) (kk : V w G (pc + 3) lv (.ref (w.2.1 219) :: st) M) : V w G pc lv (.ref (w.2.1 k) :: st) M := by
  obtain ⟨p, l, e, R, s, m, args, below, meth, c, Q, nL, cells, slots⟩ := G
  obtain ⟨hx, hb, hml, hown, hts, hy, hRf, hRl, hRc, hRs, hnl⟩ := C
  intro H locs ls hP hS hl
  exact va_get (D := w.1) (ci := 9) (C := RX10) (T := TX10) (N := 34) hx hb hts inX10 hown hy.1 hP k (wl_at hk hk2 rfl) rfl 17 (by decide) (hts _ h) (fun _ h9 => h9) rfl hd (kk H locs ls hP hS hl)
theorem g9_18 (C : Cx w G cc own fr lo nl) {k i : Nat} (hk : k < 233) (hk2 : kd k = 9) (h : Cond.fieldLink own i "FollowCabModel" "readFollows" "[I" ∈ lwg) (hd : decode cc pc = .ok (.getfield i, 3)) (kk : V w G (pc + 3) lv (.ref (w.2.1 220) :: st) M) : V w G pc lv (.ref (w.2.1 k) :: st) M := by
  obtain ⟨p, l, e, R, s, m, args, below, meth, c, Q, nL, cells, slots⟩ := G
  obtain ⟨hx, hb, hml, hown, hts, hy, hRf, hRl, hRc, hRs, hnl⟩ := C
  intro H locs ls hP hS hl
  exact va_get (D := w.1) (ci := 9) (C := RX10) (T := TX10) (N := 34) hx hb hts inX10 hown hy.1 hP k (wl_at hk hk2 rfl) rfl 18 (by decide) (hts _ h) (fun _ h9 => h9) rfl hd (kk H locs ls hP hS hl)
theorem g9_19 (C : Cx w G cc own fr lo nl) {k i : Nat} (hk : k < 233) (hk2 : kd k = 9) (h : Cond.fieldLink own i "FollowCabModel" "ahead" "[I" ∈ lwg) (hd : decode cc pc = .ok (.getfield i, 3)) (kk : V w G (pc + 3) lv (.ref (w.2.1 221) :: st) M) : V w G pc lv (.ref (w.2.1 k) :: st) M := by
  obtain ⟨p, l, e, R, s, m, args, below, meth, c, Q, nL, cells, slots⟩ := G
  obtain ⟨hx, hb, hml, hown, hts, hy, hRf, hRl, hRc, hRs, hnl⟩ := C
  intro H locs ls hP hS hl
  exact va_get (D := w.1) (ci := 9) (C := RX10) (T := TX10) (N := 34) hx hb hts inX10 hown hy.1 hP k (wl_at hk hk2 rfl) rfl 19 (by decide) (hts _ h) (fun _ h9 => h9) rfl hd (kk H locs ls hP hS hl)
theorem g9_20 (C : Cx w G cc own fr lo nl) {k i : Nat} (hk : k < 233) (hk2 : kd k = 9) (h : Cond.fieldLink own i "FollowCabModel" "undos" "I" ∈ lwg) (hd : decode cc pc = .ok (.getfield i, 3)) (kk : V w G (pc + 3) lv (.int (M k 20) :: st) M) : V w G pc lv (.ref (w.2.1 k) :: st) M := by
  obtain ⟨p, l, e, R, s, m, args, below, meth, c, Q, nL, cells, slots⟩ := G
  obtain ⟨hx, hb, hml, hown, hts, hy, hRf, hRl, hRc, hRs, hnl⟩ := C
  intro H locs ls hP hS hl
  exact va_get (D := w.1) (ci := 9) (C := RX10) (T := TX10) (N := 34) hx hb hts inX10 hown hy.1 hP k (wl_at hk hk2 rfl) rfl 20 (by decide) (hts _ h) (fun _ h9 => h9) rfl hd (kk H locs ls hP hS hl)
theorem p9_20 (C : Cx w G cc own fr lo nl) {k i : Nat} {x : Int32} (hk : k < 233) (hk2 : kd k = 9) (h : Cond.fieldLink own i "FollowCabModel" "undos" "I" ∈ lwg) (hd : decode cc pc = .ok (.putfield i, 3)) (kk : ∀ M1, M1 = up M k 20 x → V w G (pc + 3) lv st M1) : V w G pc lv (.int x :: .ref (w.2.1 k) :: st) M := by
  obtain ⟨p, l, e, R, s, m, args, below, meth, c, Q, nL, cells, slots⟩ := G
  obtain ⟨hx, hb, hml, hown, hts, hy, hRf, hRl, hRc, hRs, hnl⟩ := C
  intro H locs ls hP hS hl
  refine va_put (D := w.1) (ci := 9) (v := .int x) (ty := .int) (C := RX10) (T := TX10) (N := 34) hx hb hts inX10 tyX10 tyX10_ok nmX10 hown hy.1 hP (hy.D M) hS k (wl_at hk hk2 rfl) rfl 20 (by decide) (hts _ h) (fun _ h9 => h9) rfl (by decide +kernel) rfl rfl (Nat.le_of_ble_eq_true rfl) hd (fun H1 locs1 hP1 _ hS1 => ?_)
  rw [wl_set (M' := up M k 20 x) hk (by rw [en_k hk2, up_s]; rfl) (fun j hj => up_o hj)] at hP1
  exact kk _ rfl H1 locs1 ls hP1 hS1 hl
theorem g9_21 (C : Cx w G cc own fr lo nl) {k i : Nat} (hk : k < 233) (hk2 : kd k = 9) (h : Cond.fieldLink own i "FollowCabModel" "past" "[I" ∈ lwg) (hd : decode cc pc = .ok (.getfield i, 3)) (kk : V w G (pc + 3) lv (.ref (w.2.1 222) :: st) M) : V w G pc lv (.ref (w.2.1 k) :: st) M := by
  obtain ⟨p, l, e, R, s, m, args, below, meth, c, Q, nL, cells, slots⟩ := G
  obtain ⟨hx, hb, hml, hown, hts, hy, hRf, hRl, hRc, hRs, hnl⟩ := C
  intro H locs ls hP hS hl
  exact va_get (D := w.1) (ci := 9) (C := RX10) (T := TX10) (N := 34) hx hb hts inX10 hown hy.1 hP k (wl_at hk hk2 rfl) rfl 21 (by decide) (hts _ h) (fun _ h9 => h9) rfl hd (kk H locs ls hP hS hl)
theorem g9_22 (C : Cx w G cc own fr lo nl) {k i : Nat} (hk : k < 233) (hk2 : kd k = 9) (h : Cond.fieldLink own i "FollowCabModel" "was" "[I" ∈ lwg) (hd : decode cc pc = .ok (.getfield i, 3)) (kk : V w G (pc + 3) lv (.ref (w.2.1 223) :: st) M) : V w G pc lv (.ref (w.2.1 k) :: st) M := by
  obtain ⟨p, l, e, R, s, m, args, below, meth, c, Q, nL, cells, slots⟩ := G
  obtain ⟨hx, hb, hml, hown, hts, hy, hRf, hRl, hRc, hRs, hnl⟩ := C
  intro H locs ls hP hS hl
  exact va_get (D := w.1) (ci := 9) (C := RX10) (T := TX10) (N := 34) hx hb hts inX10 hown hy.1 hP k (wl_at hk hk2 rfl) rfl 22 (by decide) (hts _ h) (fun _ h9 => h9) rfl hd (kk H locs ls hP hS hl)
theorem g9_23 (C : Cx w G cc own fr lo nl) {k i : Nat} (hk : k < 233) (hk2 : kd k = 9) (h : Cond.fieldLink own i "FollowCabModel" "seen" "I" ∈ lwg) (hd : decode cc pc = .ok (.getfield i, 3)) (kk : V w G (pc + 3) lv (.int (M k 23) :: st) M) : V w G pc lv (.ref (w.2.1 k) :: st) M := by
  obtain ⟨p, l, e, R, s, m, args, below, meth, c, Q, nL, cells, slots⟩ := G
  obtain ⟨hx, hb, hml, hown, hts, hy, hRf, hRl, hRc, hRs, hnl⟩ := C
  intro H locs ls hP hS hl
  exact va_get (D := w.1) (ci := 9) (C := RX10) (T := TX10) (N := 34) hx hb hts inX10 hown hy.1 hP k (wl_at hk hk2 rfl) rfl 23 (by decide) (hts _ h) (fun _ h9 => h9) rfl hd (kk H locs ls hP hS hl)
theorem p9_23 (C : Cx w G cc own fr lo nl) {k i : Nat} {x : Int32} (hk : k < 233) (hk2 : kd k = 9) (h : Cond.fieldLink own i "FollowCabModel" "seen" "I" ∈ lwg) (hd : decode cc pc = .ok (.putfield i, 3)) (kk : ∀ M1, M1 = up M k 23 x → V w G (pc + 3) lv st M1) : V w G pc lv (.int x :: .ref (w.2.1 k) :: st) M := by
  obtain ⟨p, l, e, R, s, m, args, below, meth, c, Q, nL, cells, slots⟩ := G
  obtain ⟨hx, hb, hml, hown, hts, hy, hRf, hRl, hRc, hRs, hnl⟩ := C
  intro H locs ls hP hS hl
  refine va_put (D := w.1) (ci := 9) (v := .int x) (ty := .int) (C := RX10) (T := TX10) (N := 34) hx hb hts inX10 tyX10 tyX10_ok nmX10 hown hy.1 hP (hy.D M) hS k (wl_at hk hk2 rfl) rfl 23 (by decide) (hts _ h) (fun _ h9 => h9) rfl (by decide +kernel) rfl rfl (Nat.le_of_ble_eq_true rfl) hd (fun H1 locs1 hP1 _ hS1 => ?_)
  rw [wl_set (M' := up M k 23 x) hk (by rw [en_k hk2, up_s]; rfl) (fun j hj => up_o hj)] at hP1
  exact kk _ rfl H1 locs1 ls hP1 hS1 hl
theorem g9_24 (C : Cx w G cc own fr lo nl) {k i : Nat} (hk : k < 233) (hk2 : kd k = 9) (h : Cond.fieldLink own i "FollowCabModel" "seenOf" "[I" ∈ lwg) (hd : decode cc pc = .ok (.getfield i, 3)) (kk : V w G (pc + 3) lv (.ref (w.2.1 224) :: st) M) : V w G pc lv (.ref (w.2.1 k) :: st) M := by
  obtain ⟨p, l, e, R, s, m, args, below, meth, c, Q, nL, cells, slots⟩ := G
  obtain ⟨hx, hb, hml, hown, hts, hy, hRf, hRl, hRc, hRs, hnl⟩ := C
  intro H locs ls hP hS hl
  exact va_get (D := w.1) (ci := 9) (C := RX10) (T := TX10) (N := 34) hx hb hts inX10 hown hy.1 hP k (wl_at hk hk2 rfl) rfl 24 (by decide) (hts _ h) (fun _ h9 => h9) rfl hd (kk H locs ls hP hS hl)
theorem g9_25 (C : Cx w G cc own fr lo nl) {k i : Nat} (hk : k < 233) (hk2 : kd k = 9) (h : Cond.fieldLink own i "FollowCabModel" "seenBehind" "[I" ∈ lwg) (hd : decode cc pc = .ok (.getfield i, 3)) (kk : V w G (pc + 3) lv (.ref (w.2.1 225) :: st) M) : V w G pc lv (.ref (w.2.1 k) :: st) M := by
  obtain ⟨p, l, e, R, s, m, args, below, meth, c, Q, nL, cells, slots⟩ := G
  obtain ⟨hx, hb, hml, hown, hts, hy, hRf, hRl, hRc, hRs, hnl⟩ := C
  intro H locs ls hP hS hl
  exact va_get (D := w.1) (ci := 9) (C := RX10) (T := TX10) (N := 34) hx hb hts inX10 hown hy.1 hP k (wl_at hk hk2 rfl) rfl 25 (by decide) (hts _ h) (fun _ h9 => h9) rfl hd (kk H locs ls hP hS hl)
theorem g9_26 (C : Cx w G cc own fr lo nl) {k i : Nat} (hk : k < 233) (hk2 : kd k = 9) (h : Cond.fieldLink own i "FollowCabModel" "seenAt" "[I" ∈ lwg) (hd : decode cc pc = .ok (.getfield i, 3)) (kk : V w G (pc + 3) lv (.ref (w.2.1 226) :: st) M) : V w G pc lv (.ref (w.2.1 k) :: st) M := by
  obtain ⟨p, l, e, R, s, m, args, below, meth, c, Q, nL, cells, slots⟩ := G
  obtain ⟨hx, hb, hml, hown, hts, hy, hRf, hRl, hRc, hRs, hnl⟩ := C
  intro H locs ls hP hS hl
  exact va_get (D := w.1) (ci := 9) (C := RX10) (T := TX10) (N := 34) hx hb hts inX10 hown hy.1 hP k (wl_at hk hk2 rfl) rfl 26 (by decide) (hts _ h) (fun _ h9 => h9) rfl hd (kk H locs ls hP hS hl)
theorem g9_27 (C : Cx w G cc own fr lo nl) {k i : Nat} (hk : k < 233) (hk2 : kd k = 9) (h : Cond.fieldLink own i "FollowCabModel" "way" "[I" ∈ lwg) (hd : decode cc pc = .ok (.getfield i, 3)) (kk : V w G (pc + 3) lv (.ref (w.2.1 227) :: st) M) : V w G pc lv (.ref (w.2.1 k) :: st) M := by
  obtain ⟨p, l, e, R, s, m, args, below, meth, c, Q, nL, cells, slots⟩ := G
  obtain ⟨hx, hb, hml, hown, hts, hy, hRf, hRl, hRc, hRs, hnl⟩ := C
  intro H locs ls hP hS hl
  exact va_get (D := w.1) (ci := 9) (C := RX10) (T := TX10) (N := 34) hx hb hts inX10 hown hy.1 hP k (wl_at hk hk2 rfl) rfl 27 (by decide) (hts _ h) (fun _ h9 => h9) rfl hd (kk H locs ls hP hS hl)
theorem g9_28 (C : Cx w G cc own fr lo nl) {k i : Nat} (hk : k < 233) (hk2 : kd k = 9) (h : Cond.fieldLink own i "FollowCabModel" "brings" "[I" ∈ lwg) (hd : decode cc pc = .ok (.getfield i, 3)) (kk : V w G (pc + 3) lv (.ref (w.2.1 228) :: st) M) : V w G pc lv (.ref (w.2.1 k) :: st) M := by
  obtain ⟨p, l, e, R, s, m, args, below, meth, c, Q, nL, cells, slots⟩ := G
  obtain ⟨hx, hb, hml, hown, hts, hy, hRf, hRl, hRc, hRs, hnl⟩ := C
  intro H locs ls hP hS hl
  exact va_get (D := w.1) (ci := 9) (C := RX10) (T := TX10) (N := 34) hx hb hts inX10 hown hy.1 hP k (wl_at hk hk2 rfl) rfl 28 (by decide) (hts _ h) (fun _ h9 => h9) rfl hd (kk H locs ls hP hS hl)
theorem g9_29 (C : Cx w G cc own fr lo nl) {k i : Nat} (hk : k < 233) (hk2 : kd k = 9) (h : Cond.fieldLink own i "FollowCabModel" "booked" "I" ∈ lwg) (hd : decode cc pc = .ok (.getfield i, 3)) (kk : V w G (pc + 3) lv (.int (M k 29) :: st) M) : V w G pc lv (.ref (w.2.1 k) :: st) M := by
  obtain ⟨p, l, e, R, s, m, args, below, meth, c, Q, nL, cells, slots⟩ := G
  obtain ⟨hx, hb, hml, hown, hts, hy, hRf, hRl, hRc, hRs, hnl⟩ := C
  intro H locs ls hP hS hl
  exact va_get (D := w.1) (ci := 9) (C := RX10) (T := TX10) (N := 34) hx hb hts inX10 hown hy.1 hP k (wl_at hk hk2 rfl) rfl 29 (by decide) (hts _ h) (fun _ h9 => h9) rfl hd (kk H locs ls hP hS hl)
theorem p9_29 (C : Cx w G cc own fr lo nl) {k i : Nat} {x : Int32} (hk : k < 233) (hk2 : kd k = 9) (h : Cond.fieldLink own i "FollowCabModel" "booked" "I" ∈ lwg) (hd : decode cc pc = .ok (.putfield i, 3)) (kk : ∀ M1, M1 = up M k 29 x → V w G (pc + 3) lv st M1) : V w G pc lv (.int x :: .ref (w.2.1 k) :: st) M := by
  obtain ⟨p, l, e, R, s, m, args, below, meth, c, Q, nL, cells, slots⟩ := G
  obtain ⟨hx, hb, hml, hown, hts, hy, hRf, hRl, hRc, hRs, hnl⟩ := C
  intro H locs ls hP hS hl
  refine va_put (D := w.1) (ci := 9) (v := .int x) (ty := .int) (C := RX10) (T := TX10) (N := 34) hx hb hts inX10 tyX10 tyX10_ok nmX10 hown hy.1 hP (hy.D M) hS k (wl_at hk hk2 rfl) rfl 29 (by decide) (hts _ h) (fun _ h9 => h9) rfl (by decide +kernel) rfl rfl (Nat.le_of_ble_eq_true rfl) hd (fun H1 locs1 hP1 _ hS1 => ?_)
  rw [wl_set (M' := up M k 29 x) hk (by rw [en_k hk2, up_s]; rfl) (fun j hj => up_o hj)] at hP1
  exact kk _ rfl H1 locs1 ls hP1 hS1 hl
theorem g9_30 (C : Cx w G cc own fr lo nl) {k i : Nat} (hk : k < 233) (hk2 : kd k = 9) (h : Cond.fieldLink own i "FollowCabModel" "bookOf" "[I" ∈ lwg) (hd : decode cc pc = .ok (.getfield i, 3)) (kk : V w G (pc + 3) lv (.ref (w.2.1 229) :: st) M) : V w G pc lv (.ref (w.2.1 k) :: st) M := by
  obtain ⟨p, l, e, R, s, m, args, below, meth, c, Q, nL, cells, slots⟩ := G
  obtain ⟨hx, hb, hml, hown, hts, hy, hRf, hRl, hRc, hRs, hnl⟩ := C
  intro H locs ls hP hS hl
  exact va_get (D := w.1) (ci := 9) (C := RX10) (T := TX10) (N := 34) hx hb hts inX10 hown hy.1 hP k (wl_at hk hk2 rfl) rfl 30 (by decide) (hts _ h) (fun _ h9 => h9) rfl hd (kk H locs ls hP hS hl)
theorem g9_31 (C : Cx w G cc own fr lo nl) {k i : Nat} (hk : k < 233) (hk2 : kd k = 9) (h : Cond.fieldLink own i "FollowCabModel" "bookAt" "[I" ∈ lwg) (hd : decode cc pc = .ok (.getfield i, 3)) (kk : V w G (pc + 3) lv (.ref (w.2.1 230) :: st) M) : V w G pc lv (.ref (w.2.1 k) :: st) M := by
  obtain ⟨p, l, e, R, s, m, args, below, meth, c, Q, nL, cells, slots⟩ := G
  obtain ⟨hx, hb, hml, hown, hts, hy, hRf, hRl, hRc, hRs, hnl⟩ := C
  intro H locs ls hP hS hl
  exact va_get (D := w.1) (ci := 9) (C := RX10) (T := TX10) (N := 34) hx hb hts inX10 hown hy.1 hP k (wl_at hk hk2 rfl) rfl 31 (by decide) (hts _ h) (fun _ h9 => h9) rfl hd (kk H locs ls hP hS hl)
theorem g9_32 (C : Cx w G cc own fr lo nl) {k i : Nat} (hk : k < 233) (hk2 : kd k = 9) (h : Cond.fieldLink own i "FollowCabModel" "images" "[I" ∈ lwg) (hd : decode cc pc = .ok (.getfield i, 3)) (kk : V w G (pc + 3) lv (.ref (w.2.1 231) :: st) M) : V w G pc lv (.ref (w.2.1 k) :: st) M := by
  obtain ⟨p, l, e, R, s, m, args, below, meth, c, Q, nL, cells, slots⟩ := G
  obtain ⟨hx, hb, hml, hown, hts, hy, hRf, hRl, hRc, hRs, hnl⟩ := C
  intro H locs ls hP hS hl
  exact va_get (D := w.1) (ci := 9) (C := RX10) (T := TX10) (N := 34) hx hb hts inX10 hown hy.1 hP k (wl_at hk hk2 rfl) rfl 32 (by decide) (hts _ h) (fun _ h9 => h9) rfl hd (kk H locs ls hP hS hl)
theorem g9_33 (C : Cx w G cc own fr lo nl) {k i : Nat} (hk : k < 233) (hk2 : kd k = 9) (h : Cond.fieldLink own i "FollowCabModel" "isKept" "[Z" ∈ lwg) (hd : decode cc pc = .ok (.getfield i, 3)) (kk : V w G (pc + 3) lv (.ref (w.2.1 232) :: st) M) : V w G pc lv (.ref (w.2.1 k) :: st) M := by
  obtain ⟨p, l, e, R, s, m, args, below, meth, c, Q, nL, cells, slots⟩ := G
  obtain ⟨hx, hb, hml, hown, hts, hy, hRf, hRl, hRc, hRs, hnl⟩ := C
  intro H locs ls hP hS hl
  exact va_get (D := w.1) (ci := 9) (C := RX10) (T := TX10) (N := 34) hx hb hts inX10 hown hy.1 hP k (wl_at hk hk2 rfl) rfl 33 (by decide) (hts _ h) (fun _ h9 => h9) rfl hd (kk H locs ls hP hS hl)
theorem met_i {l : Launch} {y : MethodName} {mL : Nat} {av : List Value} {Q : Int32 → Mem → Prop} (hy : plainName y.cls = true) (hsz : (lg_sl av).length ≤ mL) (body : ∀ G : Gx, Cx w G cc y.cls fr lo mL → G.2.1 = l → (∀ (pc : Nat) (lv : List (Nat × Value)) (r0 : Int32) (M0 : Mem), decode cc pc = .ok (.ireturn, 1) → Q r0 M0 → V w G pc lv [.int r0] M0) → V w G 0 (lv_args 0 av) [] M) : CtI w l y cc mL (some .int) fr lo av M Q := by
  refine Met.ofW (cc := cc) (maxL := mL) (ret := (some .int)) hy rfl ?_
  intro p e s m args below meth c s₁ B hml hv
  obtain ⟨rfl, hP, hy0⟩ := hv
  have hx := B.exec
  have hb := B.bytes
  have hr := B.returns
  have hts := atoms_spec B.pre
  have hown : s.vm.findClass y.cls = some m.cls := findClass_of_methodNamed B.named
  have hlocks := B.notSynchronized
  have hl := lv_entry av (n := mL) hsz
  rw [lg_entry_eq]
  refine body (p, l, e, ({ frames := fr, cells := 0, slots := 0, locals := lo } : Room), s, m, av.toArray, below, meth, c, _, mL, 0, 0) ⟨hx, hb, hml, hown, fun x h => hts x (List.mem_cons_of_mem _ h), hy0, rfl, rfl, Nat.le_refl _, Nat.le_refl _, rfl⟩ rfl ?_ s.heap [] _ hP va_S.rf hl
  intro pc lv r0 M0 hd hq H locs ls hP hS hl
  exact W.iret hx hb hr (fun t ht hW => ⟨⟨r0, M0, rfl, hq, by show va_P w.1 vwCl (wl w M0) t.heap; rw [ht]; exact hP⟩, hS.F ht⟩) hS.2.2 hd
theorem met_z {l : Launch} {y : MethodName} {mL : Nat} {av : List Value} {Q : Int32 → Mem → Prop} (hy : plainName y.cls = true) (hsz : (lg_sl av).length ≤ mL) (body : ∀ G : Gx, Cx w G cc y.cls fr lo mL → G.2.1 = l → (∀ (pc : Nat) (lv : List (Nat × Value)) (r0 : Int32) (M0 : Mem), decode cc pc = .ok (.ireturn, 1) → (r0 = 0 ∨ r0 = 1) → Q r0 M0 → V w G pc lv [.int r0] M0) → V w G 0 (lv_args 0 av) [] M) : CtI w l y cc mL (some .boolean) fr lo av M Q := by
  refine Met.ofW (cc := cc) (maxL := mL) (ret := (some .boolean)) hy rfl ?_
  intro p e s m args below meth c s₁ B hml hv
  obtain ⟨rfl, hP, hy0⟩ := hv
  have hx := B.exec
  have hb := B.bytes
  have hr := B.returns
  have hts := atoms_spec B.pre
  have hown : s.vm.findClass y.cls = some m.cls := findClass_of_methodNamed B.named
  have hlocks := B.notSynchronized
  have hl := lv_entry av (n := mL) hsz
  rw [lg_entry_eq]
  refine body (p, l, e, ({ frames := fr, cells := 0, slots := 0, locals := lo } : Room), s, m, av.toArray, below, meth, c, _, mL, 0, 0) ⟨hx, hb, hml, hown, fun x h => hts x (List.mem_cons_of_mem _ h), hy0, rfl, rfl, Nat.le_refl _, Nat.le_refl _, rfl⟩ rfl ?_ s.heap [] _ hP va_S.rf hl
  intro pc lv r0 M0 hd hz hq H locs ls hP hS hl
  exact W.zret hx hb hr (by rcases hz with rfl | rfl <;> rfl) (fun t ht hW => ⟨⟨r0, M0, rfl, hq, by show va_P w.1 vwCl (wl w M0) t.heap; rw [ht]; exact hP⟩, hS.F ht⟩) hS.2.2 hd
theorem met_v {l : Launch} {y : MethodName} {mL : Nat} {av : List Value} {Q : Mem → Prop} (hy : plainName y.cls = true) (hsz : (lg_sl av).length ≤ mL) (body : ∀ G : Gx, Cx w G cc y.cls fr lo mL → G.2.1 = l → (∀ (pc : Nat) (lv : List (Nat × Value)) (M0 : Mem), decode cc pc = .ok (.return_, 1) → Q M0 → V w G pc lv [] M0) → V w G 0 (lv_args 0 av) [] M) : CtV w l y cc mL none fr lo av M Q := by
  refine Met.ofW (cc := cc) (maxL := mL) (ret := none) hy rfl ?_
  intro p e s m args below meth c s₁ B hml hv
  obtain ⟨rfl, hP, hy0⟩ := hv
  have hx := B.exec
  have hb := B.bytes
  have hr := B.returns
  have hts := atoms_spec B.pre
  have hown : s.vm.findClass y.cls = some m.cls := findClass_of_methodNamed B.named
  have hlocks := B.notSynchronized
  have hl := lv_entry av (n := mL) hsz
  rw [lg_entry_eq]
  refine body (p, l, e, ({ frames := fr, cells := 0, slots := 0, locals := lo } : Room), s, m, av.toArray, below, meth, c, _, mL, 0, 0) ⟨hx, hb, hml, hown, fun x h => hts x (List.mem_cons_of_mem _ h), hy0, rfl, rfl, Nat.le_refl _, Nat.le_refl _, rfl⟩ rfl ?_ s.heap [] _ hP va_S.rf hl
  intro pc lv M0 hd hq H locs ls hP hS hl
  exact W.vret hx hb hr (fun t ht hW => ⟨⟨M0, rfl, hq, by show va_P w.1 vwCl (wl w M0) t.heap; rw [ht]; exact hP⟩, hS.F ht⟩) hS.2.2 hd
end
