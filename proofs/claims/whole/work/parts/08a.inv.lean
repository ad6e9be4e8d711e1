/-- the relation between the two, part by part -/
def Nw (n : Nat) (R L f : Nat → Int32) (M : Mem) : Prop := WF n R L f ∧ SR n R L f M 11 ∧ M 211 2 = nI n ∧ M 212 = R ∧ M 213 = L ∧ M 214 = f
def Hi (n : Nat) (R L : Nat → Int32) (M : Mem) : Prop := ∃ u hs, CH n R L u hs M ∧ RH u hs M ∧ ∀ j, j < u → WF n R L (hs j)
def Im (n : Nat) (R L : Nat → Int32) (M : Mem) : Prop := ∃ kp im sd, CI n R L kp im sd M ∧ RI kp im sd M ∧ ∀ i, i < 2 → kp i = true → WF n R L (im i) ∧ ∃ v, v < 2147483648 ∧ sd i = nI v
def Si (n : Nat) (M : Mem) : Prop := ∃ sn s1 s2 s3, Sn n sn s1 s2 ∧ CE sn s1 s2 s3 M ∧ RE sn s1 s2 s3 M
def Bk (n : Nat) (M : Mem) : Prop := ∃ bn, bn ≤ 15 ∧ M 189 0 = 15 ∧ M 189 4 = nI bn ∧ M 211 29 = nI bn ∧ ∀ i, i < bn → (∃ c, c < n ∧ M 190 i = nI c) ∧ M 229 i = M 190 i ∧ M 230 i = M 192 i
def Dw (M : Mem) : Prop := ∃ v, v < 2147483648 ∧ M 210 0 = nI v ∧ M 211 6 = nI v
def Tx (M : Mem) : Prop := ∃ tl, tl ≤ 240 ∧ M 1 1 = nI tl ∧ M 211 8 = nI tl ∧ ∀ i, i < tl → (∃ b, b < 256 ∧ M 2 i = nI b) ∧ M 215 i = M 2 i
def Tn (M : Mem) : Prop := ∃ nc, nc ≤ 9 ∧ M 0 10 = nI nc ∧ M 211 0 = nI nc ∧ M 0 11 = M 211 1
def Fl (M : Mem) : Prop := M 0 12 = M 211 9
def Inv (M : Mem) : Prop := ∃ n R L f, Nw n R L f M ∧ Hi n R L M ∧ Im n R L M ∧ Si n M ∧ Bk n M ∧ Dw M ∧ Tx M ∧ Tn M ∧ Fl M
theorem Nw_c {n : Nat} {R L f : Nat → Int32} {M M' : Mem} (h : ∀ a, 11 ≤ a → a ≤ 16 → M' a = M a) (e : M' 211 2 = M 211 2) (h2 : ∀ a, 212 ≤ a → a ≤ 214 → M' a = M a) (q : Nw n R L f M) : Nw n R L f M' := by
  obtain ⟨q1, q2, q3, q4, q5, q6⟩ := q
  refine ⟨q1, SR_c (fun a b1 b2 => h a b1 (by omega)) q2, e.trans q3, (h2 212 (by decide) (by decide)).trans q4, (h2 213 (by decide) (by decide)).trans q5, (h2 214 (by decide) (by decide)).trans q6⟩
theorem RH_c {u : Nat} {hs : Nat → Nat → Int32} {M M' : Mem} (e : M' 211 20 = M 211 20) (e2 : M' 222 = M 222) (q : RH u hs M) : RH u hs M' :=
  ⟨q.1, e.trans q.2.1, fun j k b1 b2 => (congrFun e2 _).trans (q.2.2 j k b1 b2)⟩
theorem RI_c {kp : Nat → Bool} {im : Nat → Nat → Int32} {sd : Nat → Int32} {M M' : Mem} (h : ∀ a, 231 ≤ a → a ≤ 232 → M' a = M a) (q : RI kp im sd M) : RI kp im sd M' := by
  intro i hi
  have e1 := h 231 (by decide) (by decide)
  have e2 := h 232 (by decide) (by decide)
  rw [e1, e2]
  exact q i hi
theorem Hi_c {n : Nat} {R L : Nat → Int32} {M M' : Mem} (h : ∀ a, 25 ≤ a → a ≤ 166 → M' a = M a) (e : M' 211 20 = M 211 20) (e2 : M' 222 = M 222) (q : Hi n R L M) : Hi n R L M' := by
  obtain ⟨u, hs, q1, q2, q3⟩ := q
  exact ⟨u, hs, CH_c h q1, RH_c e e2 q2, q3⟩
theorem Im_c {n : Nat} {R L : Nat → Int32} {M M' : Mem} (h : ∀ a, 167 ≤ a → a ≤ 184 → M' a = M a) (h2 : ∀ a, 231 ≤ a → a ≤ 232 → M' a = M a) (q : Im n R L M) : Im n R L M' := by
  obtain ⟨kp, im, sd, q1, q2, q3⟩ := q
  exact ⟨kp, im, sd, CI_c h q1, RI_c h2 q2, q3⟩
theorem CE_c {sn : Nat} {s1 s2 s3 : Nat → Int32} {M M' : Mem} (h : ∀ a, 185 ≤ a → a ≤ 188 → M' a = M a) (q : CE sn s1 s2 s3 M) : CE sn s1 s2 s3 M' := by
  unfold CE
  rw [h 185 (by decide) (by decide), h 186 (by decide) (by decide), h 187 (by decide) (by decide), h 188 (by decide) (by decide)]
  exact q
theorem RE_c {sn : Nat} {s1 s2 s3 : Nat → Int32} {M M' : Mem} (e : M' 211 23 = M 211 23) (h : ∀ a, 224 ≤ a → a ≤ 226 → M' a = M a) (q : RE sn s1 s2 s3 M) : RE sn s1 s2 s3 M' := by
  unfold RE
  rw [e, h 224 (by decide) (by decide), h 225 (by decide) (by decide), h 226 (by decide) (by decide)]
  exact q
theorem Si_c {n : Nat} {M M' : Mem} (h : ∀ a, 185 ≤ a → a ≤ 188 → M' a = M a) (e : M' 211 23 = M 211 23) (h2 : ∀ a, 224 ≤ a → a ≤ 226 → M' a = M a) (q : Si n M) : Si n M' := by
  obtain ⟨sn, s1, s2, s3, q1, q2, q3⟩ := q
  exact ⟨sn, s1, s2, s3, q1, CE_c h q2, RE_c e h2 q3⟩
theorem Bk_c {n : Nat} {M M' : Mem} (h : ∀ a, 189 ≤ a → a ≤ 192 → M' a = M a) (e : M' 211 29 = M 211 29) (h2 : ∀ a, 229 ≤ a → a ≤ 230 → M' a = M a) (q : Bk n M) : Bk n M' := by
  unfold Bk
  rw [e, h 189 (by decide) (by decide), h 190 (by decide) (by decide), h 192 (by decide) (by decide), h2 229 (by decide) (by decide), h2 230 (by decide) (by decide)]
  exact q
theorem Dw_c {M M' : Mem} (e1 : M' 210 = M 210) (e2 : M' 211 6 = M 211 6) (q : Dw M) : Dw M' := by
  unfold Dw
  rw [e1, e2]
  exact q
theorem Tx_c {M M' : Mem} (h : ∀ a, 1 ≤ a → a ≤ 2 → M' a = M a) (e : M' 211 8 = M 211 8) (e2 : M' 215 = M 215) (q : Tx M) : Tx M' := by
  unfold Tx
  rw [e, e2, h 1 (by decide) (by decide), h 2 (by decide) (by decide)]
  exact q
theorem Tn_c {M M' : Mem} (e1 : M' 0 10 = M 0 10) (e2 : M' 0 11 = M 0 11) (e3 : M' 211 0 = M 211 0) (e4 : M' 211 1 = M 211 1) (q : Tn M) : Tn M' := by
  unfold Tn
  rw [e1, e2, e3, e4]
  exact q
theorem Fl_c {M M' : Mem} (e1 : M' 0 12 = M 0 12) (e2 : M' 211 9 = M 211 9) (q : Fl M) : Fl M' := by
  unfold Fl
  rw [e1, e2]
  exact q
/-- nothing that the relation reads has changed -/
theorem Inv_c {M M' : Mem} (hc : ∀ a, a < 18 → M' a = M a) (h1 : ∀ a, 25 ≤ a → a ≤ 192 → M' a = M a) (hd : M' 210 = M 210) (h0 : M' 211 = M 211) (h2 : ∀ a, 212 ≤ a → a ≤ 215 → M' a = M a) (h3 : M' 222 = M 222) (h4 : ∀ a, 224 ≤ a → a ≤ 226 → M' a = M a) (h5 : ∀ a, 229 ≤ a → a ≤ 232 → M' a = M a) (q : Inv M) : Inv M' := by
  obtain ⟨n, R, L, f, q1, q2, q3, q4, q5, q6, q7, q8, q9⟩ := q
  exact ⟨n, R, L, f, Nw_c (fun a b1 b2 => hc a (by omega)) (congrFun h0 _) (fun a b1 b2 => h2 a b1 (by omega)) q1,
    Hi_c (fun a b1 b2 => h1 a b1 (by omega)) (congrFun h0 _) h3 q2,
    Im_c (fun a b1 b2 => h1 a (by omega) (by omega)) (fun a b1 b2 => h5 a (by omega) b2) q3,
    Si_c (fun a b1 b2 => h1 a (by omega) (by omega)) (congrFun h0 _) h4 q4,
    Bk_c (fun a b1 b2 => h1 a (by omega) (by omega)) (congrFun h0 _) (fun a b1 b2 => h5 a (by omega) (by omega)) q5,
    Dw_c hd (congrFun h0 _) q6,
    Tx_c (fun a b1 b2 => hc a (by omega)) (congrFun h0 _) (h2 215 (by decide) (by decide)) q7,
    Tn_c (congrFun (hc 0 (by decide)) _) (congrFun (hc 0 (by decide)) _) (congrFun h0 _) (congrFun h0 _) q8,
    Fl_c (congrFun (hc 0 (by decide)) _) (congrFun h0 _) q9⟩
/-- what both answer, and what they leave -/
theorem cl_fault {P : Int32 → Int32 → Mem → Prop} {M : Mem} (hi : Inv M) (hp : ∀ r M', Inv M' → P r r M') : wp_X9_fault (fun r M1 => wp_X10_fault (fun q M2 => P r q M2) M1) M := by
  unfold wp_X9_fault bd_X9_fault wp_X10_fault bd_X10_fault
  have h := hi
  obtain ⟨n, R, L, f, q1, q2, q3, q4, q5, q6, q7, q8, q9⟩ := h
  rw [show M 0 12 = M 211 9 from q9]
  exact hp _ M hi
