-- the law's cases
abbrev zNX (np k : Nat) (q0 : Nat → Nat) (K : Nat → Nat → Int32 → Nat → Nat → (Nat → Nat) → (Nat → Nat) → (Nat → Nat) → Ob → Ob → (Nat → Nat) → Ob → (Nat → Nat) → Ob → Ob → (Nat → Nat) → Ob → Ob → Ob → Ob → Ob → Ob → Ob → (Nat → Nat) → Ob → Ob → Ob → Ob → Ob → Prop) (x : Int32) : Prop := ∀ {cs sl : Nat} {h14 h15 : Nat} {q13 q14 q15 : Nat → Nat} {o0 o1 : Ob} {r2 : Nat → Nat} {o2 : Ob} {r3 : Nat → Nat} {o3 o4 : Ob} {r5 : Nat → Nat} {o5 o6 o7 o8 o9 o10 o11 : Ob} {r12 : Nat → Nat} {o12 o13 o14 o15 o16 : Ob}, cs ≤ 101 + 2 * k → sl ≤ 68059 + 13312 * k → zIV np q0 h14 h15 o0 o1 o2 r3 o3 o4 r5 o5 o6 o7 o9 r12 o12 o13 o14 o15 o16 → K cs sl x h14 h15 q13 q14 q15 o0 o1 r2 o2 r3 o3 o4 r5 o5 o6 o7 o8 o9 o10 o11 r12 o12 o13 o14 o15 o16
theorem z_c172 {np k L : Nat} {xs : Nat → Int32} {q0 : Nat → Nat} {K : Nat → Nat → Int32 → Nat → Nat → (Nat → Nat) → (Nat → Nat) → (Nat → Nat) → Ob → Ob → (Nat → Nat) → Ob → (Nat → Nat) → Ob → Ob → (Nat → Nat) → Ob → Ob → Ob → Ob → Ob → Ob → Ob → (Nat → Nat) → Ob → Ob → Ob → Ob → Ob → Prop} {cs sl : Nat} {x3 : Int32} {h14 h15 : Nat} {q13 q14 q15 : Nat → Nat} {o0 o1 : Ob} {r2 : Nat → Nat} {o2 : Ob} {r3 : Nat → Nat} {o3 o4 : Ob} {r5 : Nat → Nat} {o5 o6 o7 o8 o9 o10 o11 : Ob} {r12 : Nat → Nat} {o12 o13 o14 o15 o16 : Ob} (hnp : np ≤ 5) (hnp2 : 2 ≤ np) (hk : k < 512) (hv : ∀ j : Nat, 1 ≤ j → j ≤ 6 → vp_in (x3 + iI (j : Int)) L) (hN : zNX np (k + 1) q0 K (x3 + (7 : Int32))) (hcs : cs ≤ 101 + 2 * k) (hsl : sl ≤ 68059 + 13312 * k) (hI : zIV np q0 h14 h15 o0 o1 o2 r3 o3 o4 r5 o5 o6 o7 o9 r12 o12 o13 o14 o15 o16) : f_Lw_c172 L xs q0 K cs sl x3 h14 h15 q13 q14 q15 o0 o1 r2 o2 r3 o3 o4 r5 o5 o6 o7 o8 o9 o10 o11 r12 o12 o13 o14 o15 o16 := by
  obtain ⟨⟨i0, i2, i9, im⟩, iTa, iRe, iSh, iP, t, tm, t', tm', lk, ht, htm, hM, hKL, hM'⟩ := hI
  have hI : zIV np q0 h14 h15 o0 o1 o2 r3 o3 o4 r5 o5 o6 o7 o9 r12 o12 o13 o14 o15 o16 := ⟨⟨i0, i2, i9, im⟩, iTa, iRe, iSh, iP, t, tm, t', tm', lk, ht, htm, hM, hKL, hM'⟩
  have hM0 := hM
  obtain ⟨h1, h2, h3, h4, h5, h6, h7, h8, h9, h10, h11⟩ := hM0
  have b1 : cs ≤ 101 + 2 * (k + 1) := by omega
  have b2 : sl ≤ 68059 + 13312 * (k + 1) := by omega
  have hv1 : vp_in (x3 + (1 : Int32)) L := hv 1 (by omega) (by omega)
  have hv2 : vp_in (x3 + (2 : Int32)) L := hv 2 (by omega) (by omega)
  have hv3 : vp_in (x3 + (3 : Int32)) L := hv 3 (by omega) (by omega)
  have hv4 : vp_in (x3 + (4 : Int32)) L := hv 4 (by omega) (by omega)
  have hv5 : vp_in (x3 + (5 : Int32)) L := hv 5 (by omega) (by omega)
  unfold f_Lw_c172
  simp only [eq_true hv1, eq_true hv2, eq_true hv3, eq_true hv4, eq_true hv5, true_and]
  exact op_feed iTa (fun u v hT hm => hN b1 b2 (hI.ta hT hm.1 hm.2.2.1 hm.2.2.2))
theorem z_c235 {np k L : Nat} {xs : Nat → Int32} {q0 : Nat → Nat} {K : Nat → Nat → Int32 → Nat → Nat → (Nat → Nat) → (Nat → Nat) → (Nat → Nat) → Ob → Ob → (Nat → Nat) → Ob → (Nat → Nat) → Ob → Ob → (Nat → Nat) → Ob → Ob → Ob → Ob → Ob → Ob → Ob → (Nat → Nat) → Ob → Ob → Ob → Ob → Ob → Prop} {cs sl : Nat} {x3 : Int32} {h14 h15 : Nat} {q13 q14 q15 : Nat → Nat} {o0 o1 : Ob} {r2 : Nat → Nat} {o2 : Ob} {r3 : Nat → Nat} {o3 o4 : Ob} {r5 : Nat → Nat} {o5 o6 o7 o8 o9 o10 o11 : Ob} {r12 : Nat → Nat} {o12 o13 o14 o15 o16 : Ob} (hnp : np ≤ 5) (hnp2 : 2 ≤ np) (hk : k < 512) (hv : ∀ j : Nat, 1 ≤ j → j ≤ 6 → vp_in (x3 + iI (j : Int)) L) (hN : zNX np (k + 1) q0 K (x3 + (7 : Int32))) (hcs : cs ≤ 101 + 2 * k) (hsl : sl ≤ 68059 + 13312 * k) (hI : zIV np q0 h14 h15 o0 o1 o2 r3 o3 o4 r5 o5 o6 o7 o9 r12 o12 o13 o14 o15 o16) : f_Lw_c235 L xs q0 K cs sl x3 h14 h15 q13 q14 q15 o0 o1 r2 o2 r3 o3 o4 r5 o5 o6 o7 o8 o9 o10 o11 r12 o12 o13 o14 o15 o16 := by
  obtain ⟨⟨i0, i2, i9, im⟩, iTa, iRe, iSh, iP, t, tm, t', tm', lk, ht, htm, hM, hKL, hM'⟩ := hI
  have hI : zIV np q0 h14 h15 o0 o1 o2 r3 o3 o4 r5 o5 o6 o7 o9 r12 o12 o13 o14 o15 o16 := ⟨⟨i0, i2, i9, im⟩, iTa, iRe, iSh, iP, t, tm, t', tm', lk, ht, htm, hM, hKL, hM'⟩
  have hM0 := hM
  obtain ⟨h1, h2, h3, h4, h5, h6, h7, h8, h9, h10, h11⟩ := hM0
  have b1 : cs ≤ 101 + 2 * (k + 1) := by omega
  have b2 : sl ≤ 68059 + 13312 * (k + 1) := by omega
  have hv1 : vp_in (x3 + (1 : Int32)) L := hv 1 (by omega) (by omega)
  unfold f_Lw_c235
  simp only [eq_true hv1, true_and]
  exact op_end iTa (fun u v hT e1 e2 e3 e4 => hN b1 b2 (hI.ta hT e1 (fun k _ => by rw [e3]) e4))
theorem z_c271 {np k L : Nat} {xs : Nat → Int32} {q0 : Nat → Nat} {K : Nat → Nat → Int32 → Nat → Nat → (Nat → Nat) → (Nat → Nat) → (Nat → Nat) → Ob → Ob → (Nat → Nat) → Ob → (Nat → Nat) → Ob → Ob → (Nat → Nat) → Ob → Ob → Ob → Ob → Ob → Ob → Ob → (Nat → Nat) → Ob → Ob → Ob → Ob → Ob → Prop} {cs sl : Nat} {x3 : Int32} {h14 h15 : Nat} {q13 q14 q15 : Nat → Nat} {o0 o1 : Ob} {r2 : Nat → Nat} {o2 : Ob} {r3 : Nat → Nat} {o3 o4 : Ob} {r5 : Nat → Nat} {o5 o6 o7 o8 o9 o10 o11 : Ob} {r12 : Nat → Nat} {o12 o13 o14 o15 o16 : Ob} (hnp : np ≤ 5) (hnp2 : 2 ≤ np) (hk : k < 512) (hv : ∀ j : Nat, 1 ≤ j → j ≤ 6 → vp_in (x3 + iI (j : Int)) L) (hN : zNX np (k + 1) q0 K (x3 + (7 : Int32))) (hcs : cs ≤ 101 + 2 * k) (hsl : sl ≤ 68059 + 13312 * k) (hI : zIV np q0 h14 h15 o0 o1 o2 r3 o3 o4 r5 o5 o6 o7 o9 r12 o12 o13 o14 o15 o16) : f_Lw_c271 L xs q0 K cs sl x3 h14 h15 q13 q14 q15 o0 o1 r2 o2 r3 o3 o4 r5 o5 o6 o7 o8 o9 o10 o11 r12 o12 o13 o14 o15 o16 := by
  obtain ⟨⟨i0, i2, i9, im⟩, iTa, iRe, iSh, iP, t, tm, t', tm', lk, ht, htm, hM, hKL, hM'⟩ := hI
  have hI : zIV np q0 h14 h15 o0 o1 o2 r3 o3 o4 r5 o5 o6 o7 o9 r12 o12 o13 o14 o15 o16 := ⟨⟨i0, i2, i9, im⟩, iTa, iRe, iSh, iP, t, tm, t', tm', lk, ht, htm, hM, hKL, hM'⟩
  have hM0 := hM
  obtain ⟨h1, h2, h3, h4, h5, h6, h7, h8, h9, h10, h11⟩ := hM0
  have b1 : cs ≤ 101 + 2 * (k + 1) := by omega
  have b2 : sl ≤ 68059 + 13312 * (k + 1) := by omega
  have hv1 : vp_in (x3 + (1 : Int32)) L := hv 1 (by omega) (by omega)
  unfold f_Lw_c271
  simp only [eq_true hv1, true_and]
  exact op_fault iRe (hN b1 b2 hI)
theorem z_c294 {np k L : Nat} {xs : Nat → Int32} {q0 : Nat → Nat} {K : Nat → Nat → Int32 → Nat → Nat → (Nat → Nat) → (Nat → Nat) → (Nat → Nat) → Ob → Ob → (Nat → Nat) → Ob → (Nat → Nat) → Ob → Ob → (Nat → Nat) → Ob → Ob → Ob → Ob → Ob → Ob → Ob → (Nat → Nat) → Ob → Ob → Ob → Ob → Ob → Prop} {cs sl : Nat} {x3 : Int32} {h14 h15 : Nat} {q13 q14 q15 : Nat → Nat} {o0 o1 : Ob} {r2 : Nat → Nat} {o2 : Ob} {r3 : Nat → Nat} {o3 o4 : Ob} {r5 : Nat → Nat} {o5 o6 o7 o8 o9 o10 o11 : Ob} {r12 : Nat → Nat} {o12 o13 o14 o15 o16 : Ob} (hnp : np ≤ 5) (hnp2 : 2 ≤ np) (hk : k < 512) (hv : ∀ j : Nat, 1 ≤ j → j ≤ 6 → vp_in (x3 + iI (j : Int)) L) (hN : zNX np (k + 1) q0 K (x3 + (7 : Int32))) (hcs : cs ≤ 101 + 2 * k) (hsl : sl ≤ 68059 + 13312 * k) (hI : zIV np q0 h14 h15 o0 o1 o2 r3 o3 o4 r5 o5 o6 o7 o9 r12 o12 o13 o14 o15 o16) : f_Lw_c294 L xs q0 K cs sl x3 h14 h15 q13 q14 q15 o0 o1 r2 o2 r3 o3 o4 r5 o5 o6 o7 o8 o9 o10 o11 r12 o12 o13 o14 o15 o16 := by
  obtain ⟨⟨i0, i2, i9, im⟩, iTa, iRe, iSh, iP, t, tm, t', tm', lk, ht, htm, hM, hKL, hM'⟩ := hI
  have hI : zIV np q0 h14 h15 o0 o1 o2 r3 o3 o4 r5 o5 o6 o7 o9 r12 o12 o13 o14 o15 o16 := ⟨⟨i0, i2, i9, im⟩, iTa, iRe, iSh, iP, t, tm, t', tm', lk, ht, htm, hM, hKL, hM'⟩
  have hM0 := hM
  obtain ⟨h1, h2, h3, h4, h5, h6, h7, h8, h9, h10, h11⟩ := hM0
  have b1 : cs ≤ 101 + 2 * (k + 1) := by omega
  have b2 : sl ≤ 68059 + 13312 * (k + 1) := by omega
  have hv1 : vp_in (x3 + (1 : Int32)) L := hv 1 (by omega) (by omega)
  unfold f_Lw_c294
  simp only [eq_true hv1, true_and]
  exact op_law i0 im hnp h8 (hN b1 b2 hI)
theorem z_c317 {np k L : Nat} {xs : Nat → Int32} {q0 : Nat → Nat} {K : Nat → Nat → Int32 → Nat → Nat → (Nat → Nat) → (Nat → Nat) → (Nat → Nat) → Ob → Ob → (Nat → Nat) → Ob → (Nat → Nat) → Ob → Ob → (Nat → Nat) → Ob → Ob → Ob → Ob → Ob → Ob → Ob → (Nat → Nat) → Ob → Ob → Ob → Ob → Ob → Prop} {cs sl : Nat} {x3 : Int32} {h14 h15 : Nat} {q13 q14 q15 : Nat → Nat} {o0 o1 : Ob} {r2 : Nat → Nat} {o2 : Ob} {r3 : Nat → Nat} {o3 o4 : Ob} {r5 : Nat → Nat} {o5 o6 o7 o8 o9 o10 o11 : Ob} {r12 : Nat → Nat} {o12 o13 o14 o15 o16 : Ob} (hnp : np ≤ 5) (hnp2 : 2 ≤ np) (hk : k < 512) (hv : ∀ j : Nat, 1 ≤ j → j ≤ 6 → vp_in (x3 + iI (j : Int)) L) (hN : zNX np (k + 1) q0 K (x3 + (7 : Int32))) (hcs : cs ≤ 101 + 2 * k) (hsl : sl ≤ 68059 + 13312 * k) (hI : zIV np q0 h14 h15 o0 o1 o2 r3 o3 o4 r5 o5 o6 o7 o9 r12 o12 o13 o14 o15 o16) : f_Lw_c317 L xs q0 K cs sl x3 h14 h15 q13 q14 q15 o0 o1 r2 o2 r3 o3 o4 r5 o5 o6 o7 o8 o9 o10 o11 r12 o12 o13 o14 o15 o16 := by
  obtain ⟨⟨i0, i2, i9, im⟩, iTa, iRe, iSh, iP, t, tm, t', tm', lk, ht, htm, hM, hKL, hM'⟩ := hI
  have hI : zIV np q0 h14 h15 o0 o1 o2 r3 o3 o4 r5 o5 o6 o7 o9 r12 o12 o13 o14 o15 o16 := ⟨⟨i0, i2, i9, im⟩, iTa, iRe, iSh, iP, t, tm, t', tm', lk, ht, htm, hM, hKL, hM'⟩
  have hM0 := hM
  obtain ⟨h1, h2, h3, h4, h5, h6, h7, h8, h9, h10, h11⟩ := hM0
  have b1 : cs ≤ 101 + 2 * (k + 1) := by omega
  have b2 : sl ≤ 68059 + 13312 * (k + 1) := by omega
  have hv1 : vp_in (x3 + (1 : Int32)) L := hv 1 (by omega) (by omega)
  unfold f_Lw_c317
  simp only [eq_true hv1, true_and]
  exact op_say h1 h2 h8.2.2.2.2.2.2 (hN b1 b2 hI) (fun s w hs hw e2 _ => hN b1 b2 ⟨⟨i0, i2, i9, im⟩, iTa, iRe, iSh, iP, t, tm, t', tm', lk, ht, htm, hM.say hnp hs hw e2, hKL, hM'⟩)
theorem z_c340 {np k L : Nat} {xs : Nat → Int32} {q0 : Nat → Nat} {K : Nat → Nat → Int32 → Nat → Nat → (Nat → Nat) → (Nat → Nat) → (Nat → Nat) → Ob → Ob → (Nat → Nat) → Ob → (Nat → Nat) → Ob → Ob → (Nat → Nat) → Ob → Ob → Ob → Ob → Ob → Ob → Ob → (Nat → Nat) → Ob → Ob → Ob → Ob → Ob → Prop} {cs sl : Nat} {x3 : Int32} {h14 h15 : Nat} {q13 q14 q15 : Nat → Nat} {o0 o1 : Ob} {r2 : Nat → Nat} {o2 : Ob} {r3 : Nat → Nat} {o3 o4 : Ob} {r5 : Nat → Nat} {o5 o6 o7 o8 o9 o10 o11 : Ob} {r12 : Nat → Nat} {o12 o13 o14 o15 o16 : Ob} (hnp : np ≤ 5) (hnp2 : 2 ≤ np) (hk : k < 512) (hv : ∀ j : Nat, 1 ≤ j → j ≤ 6 → vp_in (x3 + iI (j : Int)) L) (hN : zNX np (k + 1) q0 K (x3 + (7 : Int32))) (hcs : cs ≤ 101 + 2 * k) (hsl : sl ≤ 68059 + 13312 * k) (hI : zIV np q0 h14 h15 o0 o1 o2 r3 o3 o4 r5 o5 o6 o7 o9 r12 o12 o13 o14 o15 o16) : f_Lw_c340 L xs q0 K cs sl x3 h14 h15 q13 q14 q15 o0 o1 r2 o2 r3 o3 o4 r5 o5 o6 o7 o8 o9 o10 o11 r12 o12 o13 o14 o15 o16 := by
  obtain ⟨⟨i0, i2, i9, im⟩, iTa, iRe, iSh, iP, t, tm, t', tm', lk, ht, htm, hM, hKL, hM'⟩ := hI
  have hI : zIV np q0 h14 h15 o0 o1 o2 r3 o3 o4 r5 o5 o6 o7 o9 r12 o12 o13 o14 o15 o16 := ⟨⟨i0, i2, i9, im⟩, iTa, iRe, iSh, iP, t, tm, t', tm', lk, ht, htm, hM, hKL, hM'⟩
  have hM0 := hM
  obtain ⟨h1, h2, h3, h4, h5, h6, h7, h8, h9, h10, h11⟩ := hM0
  have b1 : cs ≤ 101 + 2 * (k + 1) := by omega
  have b2 : sl ≤ 68059 + 13312 * (k + 1) := by omega
  have hv1 : vp_in (x3 + (1 : Int32)) L := hv 1 (by omega) (by omega)
  have hv2 : vp_in (x3 + (2 : Int32)) L := hv 2 (by omega) (by omega)
  have hv3 : vp_in (x3 + (3 : Int32)) L := hv 3 (by omega) (by omega)
  unfold f_Lw_c340
  simp only [eq_true hv1, eq_true hv2, eq_true hv3, true_and]
  exact op_folds (hN b1 b2 hI) (fun x y w hx hy1 hy2 hw1 hw2 => hN b1 b2 (hI.now (fun t tm h => h.folds hnp hx ⟨hy1, hy2⟩ ⟨hw1, hw2⟩)))
theorem z_c383 {np k L : Nat} {xs : Nat → Int32} {q0 : Nat → Nat} {K : Nat → Nat → Int32 → Nat → Nat → (Nat → Nat) → (Nat → Nat) → (Nat → Nat) → Ob → Ob → (Nat → Nat) → Ob → (Nat → Nat) → Ob → Ob → (Nat → Nat) → Ob → Ob → Ob → Ob → Ob → Ob → Ob → (Nat → Nat) → Ob → Ob → Ob → Ob → Ob → Prop} {cs sl : Nat} {x3 : Int32} {h14 h15 : Nat} {q13 q14 q15 : Nat → Nat} {o0 o1 : Ob} {r2 : Nat → Nat} {o2 : Ob} {r3 : Nat → Nat} {o3 o4 : Ob} {r5 : Nat → Nat} {o5 o6 o7 o8 o9 o10 o11 : Ob} {r12 : Nat → Nat} {o12 o13 o14 o15 o16 : Ob} (hnp : np ≤ 5) (hnp2 : 2 ≤ np) (hk : k < 512) (hv : ∀ j : Nat, 1 ≤ j → j ≤ 6 → vp_in (x3 + iI (j : Int)) L) (hN : zNX np (k + 1) q0 K (x3 + (7 : Int32))) (hcs : cs ≤ 101 + 2 * k) (hsl : sl ≤ 68059 + 13312 * k) (hI : zIV np q0 h14 h15 o0 o1 o2 r3 o3 o4 r5 o5 o6 o7 o9 r12 o12 o13 o14 o15 o16) : f_Lw_c383 L xs q0 K cs sl x3 h14 h15 q13 q14 q15 o0 o1 r2 o2 r3 o3 o4 r5 o5 o6 o7 o8 o9 o10 o11 r12 o12 o13 o14 o15 o16 := by
  obtain ⟨⟨i0, i2, i9, im⟩, iTa, iRe, iSh, iP, t, tm, t', tm', lk, ht, htm, hM, hKL, hM'⟩ := hI
  have hI : zIV np q0 h14 h15 o0 o1 o2 r3 o3 o4 r5 o5 o6 o7 o9 r12 o12 o13 o14 o15 o16 := ⟨⟨i0, i2, i9, im⟩, iTa, iRe, iSh, iP, t, tm, t', tm', lk, ht, htm, hM, hKL, hM'⟩
  have hM0 := hM
  obtain ⟨h1, h2, h3, h4, h5, h6, h7, h8, h9, h10, h11⟩ := hM0
  have b1 : cs ≤ 101 + 2 * (k + 1) := by omega
  have b2 : sl ≤ 68059 + 13312 * (k + 1) := by omega
  have hv1 : vp_in (x3 + (1 : Int32)) L := hv 1 (by omega) (by omega)
  unfold f_Lw_c383
  simp only [eq_true hv1, true_and]
  refine op_ticks hnp hnp2 i0 i9 im hM (fun t2 o0' mo' fo' le' pi' m' ht2 hF hpi hMR hV => hN b1 b2 ?_)
  obtain ⟨⟨g0, g7, g8, g9⟩, gA2, gA6, gB4⟩ := hV.J
  exact ⟨⟨hF.1.trans i0, i2, hpi, g0.trans im⟩, iTa.cg g7 gA6, iRe.cg g8 g9, iSh, iP, t2, tm, t', tm', lk, by omega, htm, hMR, hKL, by rw [gA2, gB4]; exact hM'.rows hnp (fun i hi => hF.2.1 i (by omega)) (fun i hi => hF.2.2 i (by omega)) (fun _ _ _ _ => rfl)⟩
theorem z_c406 {np k L : Nat} {xs : Nat → Int32} {q0 : Nat → Nat} {K : Nat → Nat → Int32 → Nat → Nat → (Nat → Nat) → (Nat → Nat) → (Nat → Nat) → Ob → Ob → (Nat → Nat) → Ob → (Nat → Nat) → Ob → Ob → (Nat → Nat) → Ob → Ob → Ob → Ob → Ob → Ob → Ob → (Nat → Nat) → Ob → Ob → Ob → Ob → Ob → Prop} {cs sl : Nat} {x3 : Int32} {h14 h15 : Nat} {q13 q14 q15 : Nat → Nat} {o0 o1 : Ob} {r2 : Nat → Nat} {o2 : Ob} {r3 : Nat → Nat} {o3 o4 : Ob} {r5 : Nat → Nat} {o5 o6 o7 o8 o9 o10 o11 : Ob} {r12 : Nat → Nat} {o12 o13 o14 o15 o16 : Ob} (hnp : np ≤ 5) (hnp2 : 2 ≤ np) (hk : k < 512) (hv : ∀ j : Nat, 1 ≤ j → j ≤ 6 → vp_in (x3 + iI (j : Int)) L) (hN : zNX np (k + 1) q0 K (x3 + (7 : Int32))) (hcs : cs ≤ 101 + 2 * k) (hsl : sl ≤ 68059 + 13312 * k) (hI : zIV np q0 h14 h15 o0 o1 o2 r3 o3 o4 r5 o5 o6 o7 o9 r12 o12 o13 o14 o15 o16) : f_Lw_c406 L xs q0 K cs sl x3 h14 h15 q13 q14 q15 o0 o1 r2 o2 r3 o3 o4 r5 o5 o6 o7 o8 o9 o10 o11 r12 o12 o13 o14 o15 o16 := by
  obtain ⟨⟨i0, i2, i9, im⟩, iTa, iRe, iSh, iP, t, tm, t', tm', lk, ht, htm, hM, hKL, hM'⟩ := hI
  have hI : zIV np q0 h14 h15 o0 o1 o2 r3 o3 o4 r5 o5 o6 o7 o9 r12 o12 o13 o14 o15 o16 := ⟨⟨i0, i2, i9, im⟩, iTa, iRe, iSh, iP, t, tm, t', tm', lk, ht, htm, hM, hKL, hM'⟩
  have hM0 := hM
  obtain ⟨h1, h2, h3, h4, h5, h6, h7, h8, h9, h10, h11⟩ := hM0
  have b1 : cs ≤ 101 + 2 * (k + 1) := by omega
  have b2 : sl ≤ 68059 + 13312 * (k + 1) := by omega
  have hv1 : vp_in (x3 + (1 : Int32)) L := hv 1 (by omega) (by omega)
  unfold f_Lw_c406
  simp only [eq_true hv1, true_and]
  exact op_width i0 im hnp h4 (hN b1 b2 hI)
theorem z_c429 {np k L : Nat} {xs : Nat → Int32} {q0 : Nat → Nat} {K : Nat → Nat → Int32 → Nat → Nat → (Nat → Nat) → (Nat → Nat) → (Nat → Nat) → Ob → Ob → (Nat → Nat) → Ob → (Nat → Nat) → Ob → Ob → (Nat → Nat) → Ob → Ob → Ob → Ob → Ob → Ob → Ob → (Nat → Nat) → Ob → Ob → Ob → Ob → Ob → Prop} {cs sl : Nat} {x3 : Int32} {h14 h15 : Nat} {q13 q14 q15 : Nat → Nat} {o0 o1 : Ob} {r2 : Nat → Nat} {o2 : Ob} {r3 : Nat → Nat} {o3 o4 : Ob} {r5 : Nat → Nat} {o5 o6 o7 o8 o9 o10 o11 : Ob} {r12 : Nat → Nat} {o12 o13 o14 o15 o16 : Ob} (hnp : np ≤ 5) (hnp2 : 2 ≤ np) (hk : k < 512) (hv : ∀ j : Nat, 1 ≤ j → j ≤ 6 → vp_in (x3 + iI (j : Int)) L) (hN : zNX np (k + 1) q0 K (x3 + (7 : Int32))) (hcs : cs ≤ 101 + 2 * k) (hsl : sl ≤ 68059 + 13312 * k) (hI : zIV np q0 h14 h15 o0 o1 o2 r3 o3 o4 r5 o5 o6 o7 o9 r12 o12 o13 o14 o15 o16) : f_Lw_c429 L xs q0 K cs sl x3 h14 h15 q13 q14 q15 o0 o1 r2 o2 r3 o3 o4 r5 o5 o6 o7 o8 o9 o10 o11 r12 o12 o13 o14 o15 o16 := by
  obtain ⟨⟨i0, i2, i9, im⟩, iTa, iRe, iSh, iP, t, tm, t', tm', lk, ht, htm, hM, hKL, hM'⟩ := hI
  have hI : zIV np q0 h14 h15 o0 o1 o2 r3 o3 o4 r5 o5 o6 o7 o9 r12 o12 o13 o14 o15 o16 := ⟨⟨i0, i2, i9, im⟩, iTa, iRe, iSh, iP, t, tm, t', tm', lk, ht, htm, hM, hKL, hM'⟩
  have hM0 := hM
  obtain ⟨h1, h2, h3, h4, h5, h6, h7, h8, h9, h10, h11⟩ := hM0
  have b1 : cs ≤ 101 + 2 * (k + 1) := by omega
  have b2 : sl ≤ 68059 + 13312 * (k + 1) := by omega
  have hv1 : vp_in (x3 + (1 : Int32)) L := hv 1 (by omega) (by omega)
  have hv2 : vp_in (x3 + (2 : Int32)) L := hv 2 (by omega) (by omega)
  have hv3 : vp_in (x3 + (3 : Int32)) L := hv 3 (by omega) (by omega)
  unfold f_Lw_c429
  simp only [eq_true hv1, eq_true hv2, eq_true hv3, true_and]
  exact op_led i0 im hnp h1 h9 (hN b1 b2 hI)
theorem z_c472 {np k L : Nat} {xs : Nat → Int32} {q0 : Nat → Nat} {K : Nat → Nat → Int32 → Nat → Nat → (Nat → Nat) → (Nat → Nat) → (Nat → Nat) → Ob → Ob → (Nat → Nat) → Ob → (Nat → Nat) → Ob → Ob → (Nat → Nat) → Ob → Ob → Ob → Ob → Ob → Ob → Ob → (Nat → Nat) → Ob → Ob → Ob → Ob → Ob → Prop} {cs sl : Nat} {x3 : Int32} {h14 h15 : Nat} {q13 q14 q15 : Nat → Nat} {o0 o1 : Ob} {r2 : Nat → Nat} {o2 : Ob} {r3 : Nat → Nat} {o3 o4 : Ob} {r5 : Nat → Nat} {o5 o6 o7 o8 o9 o10 o11 : Ob} {r12 : Nat → Nat} {o12 o13 o14 o15 o16 : Ob} (hnp : np ≤ 5) (hnp2 : 2 ≤ np) (hk : k < 512) (hv : ∀ j : Nat, 1 ≤ j → j ≤ 6 → vp_in (x3 + iI (j : Int)) L) (hN : zNX np (k + 1) q0 K (x3 + (7 : Int32))) (hcs : cs ≤ 101 + 2 * k) (hsl : sl ≤ 68059 + 13312 * k) (hI : zIV np q0 h14 h15 o0 o1 o2 r3 o3 o4 r5 o5 o6 o7 o9 r12 o12 o13 o14 o15 o16) : f_Lw_c472 L xs q0 K cs sl x3 h14 h15 q13 q14 q15 o0 o1 r2 o2 r3 o3 o4 r5 o5 o6 o7 o8 o9 o10 o11 r12 o12 o13 o14 o15 o16 := by
  obtain ⟨⟨i0, i2, i9, im⟩, iTa, iRe, iSh, iP, t, tm, t', tm', lk, ht, htm, hM, hKL, hM'⟩ := hI
  have hI : zIV np q0 h14 h15 o0 o1 o2 r3 o3 o4 r5 o5 o6 o7 o9 r12 o12 o13 o14 o15 o16 := ⟨⟨i0, i2, i9, im⟩, iTa, iRe, iSh, iP, t, tm, t', tm', lk, ht, htm, hM, hKL, hM'⟩
  have hM0 := hM
  obtain ⟨h1, h2, h3, h4, h5, h6, h7, h8, h9, h10, h11⟩ := hM0
  have b1 : cs ≤ 101 + 2 * (k + 1) := by omega
  have b2 : sl ≤ 68059 + 13312 * (k + 1) := by omega
  have hv1 : vp_in (x3 + (1 : Int32)) L := hv 1 (by omega) (by omega)
  unfold f_Lw_c472
  simp only [eq_true hv1, true_and]
  exact op_sound h1 h10 (hN b1 b2 hI)
theorem z_c496 {np k L : Nat} {xs : Nat → Int32} {q0 : Nat → Nat} {K : Nat → Nat → Int32 → Nat → Nat → (Nat → Nat) → (Nat → Nat) → (Nat → Nat) → Ob → Ob → (Nat → Nat) → Ob → (Nat → Nat) → Ob → Ob → (Nat → Nat) → Ob → Ob → Ob → Ob → Ob → Ob → Ob → (Nat → Nat) → Ob → Ob → Ob → Ob → Ob → Prop} {cs sl : Nat} {x3 : Int32} {h14 h15 : Nat} {q13 q14 q15 : Nat → Nat} {o0 o1 : Ob} {r2 : Nat → Nat} {o2 : Ob} {r3 : Nat → Nat} {o3 o4 : Ob} {r5 : Nat → Nat} {o5 o6 o7 o8 o9 o10 o11 : Ob} {r12 : Nat → Nat} {o12 o13 o14 o15 o16 : Ob} (hnp : np ≤ 5) (hnp2 : 2 ≤ np) (hk : k < 512) (hv : ∀ j : Nat, 1 ≤ j → j ≤ 6 → vp_in (x3 + iI (j : Int)) L) (hN : zNX np (k + 1) q0 K (x3 + (7 : Int32))) (hcs : cs ≤ 101 + 2 * k) (hsl : sl ≤ 68059 + 13312 * k) (hI : zIV np q0 h14 h15 o0 o1 o2 r3 o3 o4 r5 o5 o6 o7 o9 r12 o12 o13 o14 o15 o16) : f_Lw_c496 L xs q0 K cs sl x3 h14 h15 q13 q14 q15 o0 o1 r2 o2 r3 o3 o4 r5 o5 o6 o7 o8 o9 o10 o11 r12 o12 o13 o14 o15 o16 := by
  obtain ⟨⟨i0, i2, i9, im⟩, iTa, iRe, iSh, iP, t, tm, t', tm', lk, ht, htm, hM, hKL, hM'⟩ := hI
  have hI : zIV np q0 h14 h15 o0 o1 o2 r3 o3 o4 r5 o5 o6 o7 o9 r12 o12 o13 o14 o15 o16 := ⟨⟨i0, i2, i9, im⟩, iTa, iRe, iSh, iP, t, tm, t', tm', lk, ht, htm, hM, hKL, hM'⟩
  have hM0 := hM
  obtain ⟨h1, h2, h3, h4, h5, h6, h7, h8, h9, h10, h11⟩ := hM0
  have b1 : cs ≤ 101 + 2 * (k + 1) := by omega
  have b2 : sl ≤ 68059 + 13312 * (k + 1) := by omega
  have hv1 : vp_in (x3 + (1 : Int32)) L := hv 1 (by omega) (by omega)
  have hv2 : vp_in (x3 + (2 : Int32)) L := hv 2 (by omega) (by omega)
  unfold f_Lw_c496
  simp only [eq_true hv1, eq_true hv2, true_and]
  refine k_c (fun q => ?_) (fun q => ?_)
  · simp only [eq_true q, true_implies, not_true_eq_false, false_implies, and_true]
    exact op_wave i0 im hnp h6 (hN b1 b2 hI)
  · simp only [eq_false q, false_implies, not_false_eq_true, true_implies, true_and]
    exact op_wave i0 im hnp h6 (hN b1 b2 hI)
theorem z_c546 {np k L : Nat} {xs : Nat → Int32} {q0 : Nat → Nat} {K : Nat → Nat → Int32 → Nat → Nat → (Nat → Nat) → (Nat → Nat) → (Nat → Nat) → Ob → Ob → (Nat → Nat) → Ob → (Nat → Nat) → Ob → Ob → (Nat → Nat) → Ob → Ob → Ob → Ob → Ob → Ob → Ob → (Nat → Nat) → Ob → Ob → Ob → Ob → Ob → Prop} {cs sl : Nat} {x3 : Int32} {h14 h15 : Nat} {q13 q14 q15 : Nat → Nat} {o0 o1 : Ob} {r2 : Nat → Nat} {o2 : Ob} {r3 : Nat → Nat} {o3 o4 : Ob} {r5 : Nat → Nat} {o5 o6 o7 o8 o9 o10 o11 : Ob} {r12 : Nat → Nat} {o12 o13 o14 o15 o16 : Ob} (hnp : np ≤ 5) (hnp2 : 2 ≤ np) (hk : k < 512) (hv : ∀ j : Nat, 1 ≤ j → j ≤ 6 → vp_in (x3 + iI (j : Int)) L) (hN : zNX np (k + 1) q0 K (x3 + (7 : Int32))) (hcs : cs ≤ 101 + 2 * k) (hsl : sl ≤ 68059 + 13312 * k) (hI : zIV np q0 h14 h15 o0 o1 o2 r3 o3 o4 r5 o5 o6 o7 o9 r12 o12 o13 o14 o15 o16) : f_Lw_c546 L xs q0 K cs sl x3 h14 h15 q13 q14 q15 o0 o1 r2 o2 r3 o3 o4 r5 o5 o6 o7 o8 o9 o10 o11 r12 o12 o13 o14 o15 o16 := by
  obtain ⟨⟨i0, i2, i9, im⟩, iTa, iRe, iSh, iP, t, tm, t', tm', lk, ht, htm, hM, hKL, hM'⟩ := hI
  have hI : zIV np q0 h14 h15 o0 o1 o2 r3 o3 o4 r5 o5 o6 o7 o9 r12 o12 o13 o14 o15 o16 := ⟨⟨i0, i2, i9, im⟩, iTa, iRe, iSh, iP, t, tm, t', tm', lk, ht, htm, hM, hKL, hM'⟩
  have hM0 := hM
  obtain ⟨h1, h2, h3, h4, h5, h6, h7, h8, h9, h10, h11⟩ := hM0
  have b1 : cs ≤ 101 + 2 * (k + 1) := by omega
  have b2 : sl ≤ 68059 + 13312 * (k + 1) := by omega
  have hv1 : vp_in (x3 + (1 : Int32)) L := hv 1 (by omega) (by omega)
  unfold f_Lw_c546
  simp only [eq_true hv1, true_and]
  exact op_left i0 im hnp hnp2 h6 (hN b1 b2 hI)
theorem z_c570 {np k L : Nat} {xs : Nat → Int32} {q0 : Nat → Nat} {K : Nat → Nat → Int32 → Nat → Nat → (Nat → Nat) → (Nat → Nat) → (Nat → Nat) → Ob → Ob → (Nat → Nat) → Ob → (Nat → Nat) → Ob → Ob → (Nat → Nat) → Ob → Ob → Ob → Ob → Ob → Ob → Ob → (Nat → Nat) → Ob → Ob → Ob → Ob → Ob → Prop} {cs sl : Nat} {x3 : Int32} {h14 h15 : Nat} {q13 q14 q15 : Nat → Nat} {o0 o1 : Ob} {r2 : Nat → Nat} {o2 : Ob} {r3 : Nat → Nat} {o3 o4 : Ob} {r5 : Nat → Nat} {o5 o6 o7 o8 o9 o10 o11 : Ob} {r12 : Nat → Nat} {o12 o13 o14 o15 o16 : Ob} (hnp : np ≤ 5) (hnp2 : 2 ≤ np) (hk : k < 512) (hv : ∀ j : Nat, 1 ≤ j → j ≤ 6 → vp_in (x3 + iI (j : Int)) L) (hN : zNX np (k + 1) q0 K (x3 + (7 : Int32))) (hcs : cs ≤ 101 + 2 * k) (hsl : sl ≤ 68059 + 13312 * k) (hI : zIV np q0 h14 h15 o0 o1 o2 r3 o3 o4 r5 o5 o6 o7 o9 r12 o12 o13 o14 o15 o16) : f_Lw_c570 L xs q0 K cs sl x3 h14 h15 q13 q14 q15 o0 o1 r2 o2 r3 o3 o4 r5 o5 o6 o7 o8 o9 o10 o11 r12 o12 o13 o14 o15 o16 := by
  obtain ⟨⟨i0, i2, i9, im⟩, iTa, iRe, iSh, iP, t, tm, t', tm', lk, ht, htm, hM, hKL, hM'⟩ := hI
  have hI : zIV np q0 h14 h15 o0 o1 o2 r3 o3 o4 r5 o5 o6 o7 o9 r12 o12 o13 o14 o15 o16 := ⟨⟨i0, i2, i9, im⟩, iTa, iRe, iSh, iP, t, tm, t', tm', lk, ht, htm, hM, hKL, hM'⟩
  have hM0 := hM
  obtain ⟨h1, h2, h3, h4, h5, h6, h7, h8, h9, h10, h11⟩ := hM0
  have b1 : cs ≤ 101 + 2 * (k + 1) := by omega
  have b2 : sl ≤ 68059 + 13312 * (k + 1) := by omega
  have hv1 : vp_in (x3 + (1 : Int32)) L := hv 1 (by omega) (by omega)
  unfold f_Lw_c570
  simp only [eq_true hv1, true_and]
  exact op_foldsOf h7 (hN b1 b2 hI)
theorem z_c593 {np k L : Nat} {xs : Nat → Int32} {q0 : Nat → Nat} {K : Nat → Nat → Int32 → Nat → Nat → (Nat → Nat) → (Nat → Nat) → (Nat → Nat) → Ob → Ob → (Nat → Nat) → Ob → (Nat → Nat) → Ob → Ob → (Nat → Nat) → Ob → Ob → Ob → Ob → Ob → Ob → Ob → (Nat → Nat) → Ob → Ob → Ob → Ob → Ob → Prop} {cs sl : Nat} {x3 : Int32} {h14 h15 : Nat} {q13 q14 q15 : Nat → Nat} {o0 o1 : Ob} {r2 : Nat → Nat} {o2 : Ob} {r3 : Nat → Nat} {o3 o4 : Ob} {r5 : Nat → Nat} {o5 o6 o7 o8 o9 o10 o11 : Ob} {r12 : Nat → Nat} {o12 o13 o14 o15 o16 : Ob} (hnp : np ≤ 5) (hnp2 : 2 ≤ np) (hk : k < 512) (hv : ∀ j : Nat, 1 ≤ j → j ≤ 6 → vp_in (x3 + iI (j : Int)) L) (hN : zNX np (k + 1) q0 K (x3 + (7 : Int32))) (hcs : cs ≤ 101 + 2 * k) (hsl : sl ≤ 68059 + 13312 * k) (hI : zIV np q0 h14 h15 o0 o1 o2 r3 o3 o4 r5 o5 o6 o7 o9 r12 o12 o13 o14 o15 o16) : f_Lw_c593 L xs q0 K cs sl x3 h14 h15 q13 q14 q15 o0 o1 r2 o2 r3 o3 o4 r5 o5 o6 o7 o8 o9 o10 o11 r12 o12 o13 o14 o15 o16 := by
  obtain ⟨⟨i0, i2, i9, im⟩, iTa, iRe, iSh, iP, t, tm, t', tm', lk, ht, htm, hM, hKL, hM'⟩ := hI
  have hI : zIV np q0 h14 h15 o0 o1 o2 r3 o3 o4 r5 o5 o6 o7 o9 r12 o12 o13 o14 o15 o16 := ⟨⟨i0, i2, i9, im⟩, iTa, iRe, iSh, iP, t, tm, t', tm', lk, ht, htm, hM, hKL, hM'⟩
  have hM0 := hM
  obtain ⟨h1, h2, h3, h4, h5, h6, h7, h8, h9, h10, h11⟩ := hM0
  have b1 : cs ≤ 101 + 2 * (k + 1) := by omega
  have b2 : sl ≤ 68059 + 13312 * (k + 1) := by omega
  have hv1 : vp_in (x3 + (1 : Int32)) L := hv 1 (by omega) (by omega)
  have hv2 : vp_in (x3 + (2 : Int32)) L := hv 2 (by omega) (by omega)
  unfold f_Lw_c593
  simp only [eq_true hv1, eq_true hv2, true_and]
  exact op_rhythm h7 (hN b1 b2 hI) (fun u v m' _ hm => hN b1 b2 (hI.md hm.I))
theorem z_c626 {np k L : Nat} {xs : Nat → Int32} {q0 : Nat → Nat} {K : Nat → Nat → Int32 → Nat → Nat → (Nat → Nat) → (Nat → Nat) → (Nat → Nat) → Ob → Ob → (Nat → Nat) → Ob → (Nat → Nat) → Ob → Ob → (Nat → Nat) → Ob → Ob → Ob → Ob → Ob → Ob → Ob → (Nat → Nat) → Ob → Ob → Ob → Ob → Ob → Prop} {cs sl : Nat} {x3 : Int32} {h14 h15 : Nat} {q13 q14 q15 : Nat → Nat} {o0 o1 : Ob} {r2 : Nat → Nat} {o2 : Ob} {r3 : Nat → Nat} {o3 o4 : Ob} {r5 : Nat → Nat} {o5 o6 o7 o8 o9 o10 o11 : Ob} {r12 : Nat → Nat} {o12 o13 o14 o15 o16 : Ob} (hnp : np ≤ 5) (hnp2 : 2 ≤ np) (hk : k < 512) (hv : ∀ j : Nat, 1 ≤ j → j ≤ 6 → vp_in (x3 + iI (j : Int)) L) (hN : zNX np (k + 1) q0 K (x3 + (7 : Int32))) (hcs : cs ≤ 101 + 2 * k) (hsl : sl ≤ 68059 + 13312 * k) (hI : zIV np q0 h14 h15 o0 o1 o2 r3 o3 o4 r5 o5 o6 o7 o9 r12 o12 o13 o14 o15 o16) : f_Lw_c626 L xs q0 K cs sl x3 h14 h15 q13 q14 q15 o0 o1 r2 o2 r3 o3 o4 r5 o5 o6 o7 o8 o9 o10 o11 r12 o12 o13 o14 o15 o16 := by
  obtain ⟨⟨i0, i2, i9, im⟩, iTa, iRe, iSh, iP, t, tm, t', tm', lk, ht, htm, hM, hKL, hM'⟩ := hI
  have hI : zIV np q0 h14 h15 o0 o1 o2 r3 o3 o4 r5 o5 o6 o7 o9 r12 o12 o13 o14 o15 o16 := ⟨⟨i0, i2, i9, im⟩, iTa, iRe, iSh, iP, t, tm, t', tm', lk, ht, htm, hM, hKL, hM'⟩
  have hM0 := hM
  obtain ⟨h1, h2, h3, h4, h5, h6, h7, h8, h9, h10, h11⟩ := hM0
  have b1 : cs ≤ 101 + 2 * (k + 1) := by omega
  have b2 : sl ≤ 68059 + 13312 * (k + 1) := by omega
  have hv1 : vp_in (x3 + (1 : Int32)) L := hv 1 (by omega) (by omega)
  have hv2 : vp_in (x3 + (2 : Int32)) L := hv 2 (by omega) (by omega)
  have hv3 : vp_in (x3 + (3 : Int32)) L := hv 3 (by omega) (by omega)
  unfold f_Lw_c626
  simp only [eq_true hv1, eq_true hv2, eq_true hv3, true_and]
  exact op_notSafe h7 (fun u v m' _ hm => hN b1 b2 (hI.md hm.I))
theorem z_c669 {np k L : Nat} {xs : Nat → Int32} {q0 : Nat → Nat} {K : Nat → Nat → Int32 → Nat → Nat → (Nat → Nat) → (Nat → Nat) → (Nat → Nat) → Ob → Ob → (Nat → Nat) → Ob → (Nat → Nat) → Ob → Ob → (Nat → Nat) → Ob → Ob → Ob → Ob → Ob → Ob → Ob → (Nat → Nat) → Ob → Ob → Ob → Ob → Ob → Prop} {cs sl : Nat} {x3 : Int32} {h14 h15 : Nat} {q13 q14 q15 : Nat → Nat} {o0 o1 : Ob} {r2 : Nat → Nat} {o2 : Ob} {r3 : Nat → Nat} {o3 o4 : Ob} {r5 : Nat → Nat} {o5 o6 o7 o8 o9 o10 o11 : Ob} {r12 : Nat → Nat} {o12 o13 o14 o15 o16 : Ob} (hnp : np ≤ 5) (hnp2 : 2 ≤ np) (hk : k < 512) (hv : ∀ j : Nat, 1 ≤ j → j ≤ 6 → vp_in (x3 + iI (j : Int)) L) (hN : zNX np (k + 1) q0 K (x3 + (7 : Int32))) (hcs : cs ≤ 101 + 2 * k) (hsl : sl ≤ 68059 + 13312 * k) (hI : zIV np q0 h14 h15 o0 o1 o2 r3 o3 o4 r5 o5 o6 o7 o9 r12 o12 o13 o14 o15 o16) : f_Lw_c669 L xs q0 K cs sl x3 h14 h15 q13 q14 q15 o0 o1 r2 o2 r3 o3 o4 r5 o5 o6 o7 o8 o9 o10 o11 r12 o12 o13 o14 o15 o16 := by
  obtain ⟨⟨i0, i2, i9, im⟩, iTa, iRe, iSh, iP, t, tm, t', tm', lk, ht, htm, hM, hKL, hM'⟩ := hI
  have hI : zIV np q0 h14 h15 o0 o1 o2 r3 o3 o4 r5 o5 o6 o7 o9 r12 o12 o13 o14 o15 o16 := ⟨⟨i0, i2, i9, im⟩, iTa, iRe, iSh, iP, t, tm, t', tm', lk, ht, htm, hM, hKL, hM'⟩
  have hM0 := hM
  obtain ⟨h1, h2, h3, h4, h5, h6, h7, h8, h9, h10, h11⟩ := hM0
  have b1 : cs ≤ 101 + 2 * (k + 1) := by omega
  have b2 : sl ≤ 68059 + 13312 * (k + 1) := by omega
  have hv1 : vp_in (x3 + (1 : Int32)) L := hv 1 (by omega) (by omega)
  have hv2 : vp_in (x3 + (2 : Int32)) L := hv 2 (by omega) (by omega)
  have hv3 : vp_in (x3 + (3 : Int32)) L := hv 3 (by omega) (by omega)
  have hv4 : vp_in (x3 + (4 : Int32)) L := hv 4 (by omega) (by omega)
  have hv5 : vp_in (x3 + (5 : Int32)) L := hv 5 (by omega) (by omega)
  have hv6 : vp_in (x3 + (6 : Int32)) L := hv 6 (by omega) (by omega)
  unfold f_Lw_c669
  simp only [eq_true hv1, eq_true hv2, eq_true hv3, eq_true hv4, eq_true hv5, eq_true hv6, true_and]
  exact op_above i0 im hnp (fun f g => hN b1 b2 ((hI.m38 g).a13 f)) (fun g => hN b1 b2 (hI.m38 g))
theorem z_c744 {np k L : Nat} {xs : Nat → Int32} {q0 : Nat → Nat} {K : Nat → Nat → Int32 → Nat → Nat → (Nat → Nat) → (Nat → Nat) → (Nat → Nat) → Ob → Ob → (Nat → Nat) → Ob → (Nat → Nat) → Ob → Ob → (Nat → Nat) → Ob → Ob → Ob → Ob → Ob → Ob → Ob → (Nat → Nat) → Ob → Ob → Ob → Ob → Ob → Prop} {cs sl : Nat} {x3 : Int32} {h14 h15 : Nat} {q13 q14 q15 : Nat → Nat} {o0 o1 : Ob} {r2 : Nat → Nat} {o2 : Ob} {r3 : Nat → Nat} {o3 o4 : Ob} {r5 : Nat → Nat} {o5 o6 o7 o8 o9 o10 o11 : Ob} {r12 : Nat → Nat} {o12 o13 o14 o15 o16 : Ob} (hnp : np ≤ 5) (hnp2 : 2 ≤ np) (hk : k < 512) (hv : ∀ j : Nat, 1 ≤ j → j ≤ 6 → vp_in (x3 + iI (j : Int)) L) (hN : zNX np (k + 1) q0 K (x3 + (7 : Int32))) (hcs : cs ≤ 101 + 2 * k) (hsl : sl ≤ 68059 + 13312 * k) (hI : zIV np q0 h14 h15 o0 o1 o2 r3 o3 o4 r5 o5 o6 o7 o9 r12 o12 o13 o14 o15 o16) : f_Lw_c744 L xs q0 K cs sl x3 h14 h15 q13 q14 q15 o0 o1 r2 o2 r3 o3 o4 r5 o5 o6 o7 o8 o9 o10 o11 r12 o12 o13 o14 o15 o16 := by
  obtain ⟨⟨i0, i2, i9, im⟩, iTa, iRe, iSh, iP, t, tm, t', tm', lk, ht, htm, hM, hKL, hM'⟩ := hI
  have hI : zIV np q0 h14 h15 o0 o1 o2 r3 o3 o4 r5 o5 o6 o7 o9 r12 o12 o13 o14 o15 o16 := ⟨⟨i0, i2, i9, im⟩, iTa, iRe, iSh, iP, t, tm, t', tm', lk, ht, htm, hM, hKL, hM'⟩
  have hM0 := hM
  obtain ⟨h1, h2, h3, h4, h5, h6, h7, h8, h9, h10, h11⟩ := hM0
  have b1 : cs ≤ 101 + 2 * (k + 1) := by omega
  have b2 : sl ≤ 68059 + 13312 * (k + 1) := by omega
  have hv1 : vp_in (x3 + (1 : Int32)) L := hv 1 (by omega) (by omega)
  have hv2 : vp_in (x3 + (2 : Int32)) L := hv 2 (by omega) (by omega)
  have hv3 : vp_in (x3 + (3 : Int32)) L := hv 3 (by omega) (by omega)
  have hv4 : vp_in (x3 + (4 : Int32)) L := hv 4 (by omega) (by omega)
  have hv5 : vp_in (x3 + (5 : Int32)) L := hv 5 (by omega) (by omega)
  have hv6 : vp_in (x3 + (6 : Int32)) L := hv 6 (by omega) (by omega)
  unfold f_Lw_c744
  simp only [eq_true hv1, eq_true hv2, eq_true hv3, eq_true hv4, eq_true hv5, eq_true hv6, true_and]
  exact op_tone i0 im hnp (fun f g => hN b1 b2 ((hI.m38 g).a13 f))
theorem z_c819 {np k L : Nat} {xs : Nat → Int32} {q0 : Nat → Nat} {K : Nat → Nat → Int32 → Nat → Nat → (Nat → Nat) → (Nat → Nat) → (Nat → Nat) → Ob → Ob → (Nat → Nat) → Ob → (Nat → Nat) → Ob → Ob → (Nat → Nat) → Ob → Ob → Ob → Ob → Ob → Ob → Ob → (Nat → Nat) → Ob → Ob → Ob → Ob → Ob → Prop} {cs sl : Nat} {x3 : Int32} {h14 h15 : Nat} {q13 q14 q15 : Nat → Nat} {o0 o1 : Ob} {r2 : Nat → Nat} {o2 : Ob} {r3 : Nat → Nat} {o3 o4 : Ob} {r5 : Nat → Nat} {o5 o6 o7 o8 o9 o10 o11 : Ob} {r12 : Nat → Nat} {o12 o13 o14 o15 o16 : Ob} (hnp : np ≤ 5) (hnp2 : 2 ≤ np) (hk : k < 512) (hv : ∀ j : Nat, 1 ≤ j → j ≤ 6 → vp_in (x3 + iI (j : Int)) L) (hN : zNX np (k + 1) q0 K (x3 + (7 : Int32))) (hcs : cs ≤ 101 + 2 * k) (hsl : sl ≤ 68059 + 13312 * k) (hI : zIV np q0 h14 h15 o0 o1 o2 r3 o3 o4 r5 o5 o6 o7 o9 r12 o12 o13 o14 o15 o16) : f_Lw_c819 L xs q0 K cs sl x3 h14 h15 q13 q14 q15 o0 o1 r2 o2 r3 o3 o4 r5 o5 o6 o7 o8 o9 o10 o11 r12 o12 o13 o14 o15 o16 := by
  obtain ⟨⟨i0, i2, i9, im⟩, iTa, iRe, iSh, iP, t, tm, t', tm', lk, ht, htm, hM, hKL, hM'⟩ := hI
  have hI : zIV np q0 h14 h15 o0 o1 o2 r3 o3 o4 r5 o5 o6 o7 o9 r12 o12 o13 o14 o15 o16 := ⟨⟨i0, i2, i9, im⟩, iTa, iRe, iSh, iP, t, tm, t', tm', lk, ht, htm, hM, hKL, hM'⟩
  have hM0 := hM
  obtain ⟨h1, h2, h3, h4, h5, h6, h7, h8, h9, h10, h11⟩ := hM0
  have b1 : cs ≤ 101 + 2 * (k + 1) := by omega
  have b2 : sl ≤ 68059 + 13312 * (k + 1) := by omega
  have hv1 : vp_in (x3 + (1 : Int32)) L := hv 1 (by omega) (by omega)
  have hv2 : vp_in (x3 + (2 : Int32)) L := hv 2 (by omega) (by omega)
  have hv3 : vp_in (x3 + (3 : Int32)) L := hv 3 (by omega) (by omega)
  have hv4 : vp_in (x3 + (4 : Int32)) L := hv 4 (by omega) (by omega)
  have hv5 : vp_in (x3 + (5 : Int32)) L := hv 5 (by omega) (by omega)
  unfold f_Lw_c819
  simp only [eq_true hv1, eq_true hv2, eq_true hv3, eq_true hv4, eq_true hv5, true_and]
  exact op_alike i0 im hnp (by omega) h4 (fun f g => hN b1 b2 ((hI.m38 g).a13 f))
theorem z_c882 {np k L : Nat} {xs : Nat → Int32} {q0 : Nat → Nat} {K : Nat → Nat → Int32 → Nat → Nat → (Nat → Nat) → (Nat → Nat) → (Nat → Nat) → Ob → Ob → (Nat → Nat) → Ob → (Nat → Nat) → Ob → Ob → (Nat → Nat) → Ob → Ob → Ob → Ob → Ob → Ob → Ob → (Nat → Nat) → Ob → Ob → Ob → Ob → Ob → Prop} {cs sl : Nat} {x3 : Int32} {h14 h15 : Nat} {q13 q14 q15 : Nat → Nat} {o0 o1 : Ob} {r2 : Nat → Nat} {o2 : Ob} {r3 : Nat → Nat} {o3 o4 : Ob} {r5 : Nat → Nat} {o5 o6 o7 o8 o9 o10 o11 : Ob} {r12 : Nat → Nat} {o12 o13 o14 o15 o16 : Ob} (hnp : np ≤ 5) (hnp2 : 2 ≤ np) (hk : k < 512) (hv : ∀ j : Nat, 1 ≤ j → j ≤ 6 → vp_in (x3 + iI (j : Int)) L) (hN : zNX np (k + 1) q0 K (x3 + (7 : Int32))) (hcs : cs ≤ 101 + 2 * k) (hsl : sl ≤ 68059 + 13312 * k) (hI : zIV np q0 h14 h15 o0 o1 o2 r3 o3 o4 r5 o5 o6 o7 o9 r12 o12 o13 o14 o15 o16) : f_Lw_c882 L xs q0 K cs sl x3 h14 h15 q13 q14 q15 o0 o1 r2 o2 r3 o3 o4 r5 o5 o6 o7 o8 o9 o10 o11 r12 o12 o13 o14 o15 o16 := by
  obtain ⟨⟨i0, i2, i9, im⟩, iTa, iRe, iSh, iP, t, tm, t', tm', lk, ht, htm, hM, hKL, hM'⟩ := hI
  have hI : zIV np q0 h14 h15 o0 o1 o2 r3 o3 o4 r5 o5 o6 o7 o9 r12 o12 o13 o14 o15 o16 := ⟨⟨i0, i2, i9, im⟩, iTa, iRe, iSh, iP, t, tm, t', tm', lk, ht, htm, hM, hKL, hM'⟩
  have hM0 := hM
  obtain ⟨h1, h2, h3, h4, h5, h6, h7, h8, h9, h10, h11⟩ := hM0
  have b1 : cs ≤ 101 + 2 * (k + 1) := by omega
  have b2 : sl ≤ 68059 + 13312 * (k + 1) := by omega
  have hv1 : vp_in (x3 + (1 : Int32)) L := hv 1 (by omega) (by omega)
  have hv2 : vp_in (x3 + (2 : Int32)) L := hv 2 (by omega) (by omega)
  unfold f_Lw_c882
  simp only [eq_true hv1, eq_true hv2, true_and]
  exact op_grid hnp (by omega) i0 im h5 (hN b1 b2 hI) (fun j v u hj hv hm => hN b1 b2 ((hI.now (fun t tm h => h.grid hnp hj hv)).md hm.I))
theorem z_c915 {np k L : Nat} {xs : Nat → Int32} {q0 : Nat → Nat} {K : Nat → Nat → Int32 → Nat → Nat → (Nat → Nat) → (Nat → Nat) → (Nat → Nat) → Ob → Ob → (Nat → Nat) → Ob → (Nat → Nat) → Ob → Ob → (Nat → Nat) → Ob → Ob → Ob → Ob → Ob → Ob → Ob → (Nat → Nat) → Ob → Ob → Ob → Ob → Ob → Prop} {cs sl : Nat} {x3 : Int32} {h14 h15 : Nat} {q13 q14 q15 : Nat → Nat} {o0 o1 : Ob} {r2 : Nat → Nat} {o2 : Ob} {r3 : Nat → Nat} {o3 o4 : Ob} {r5 : Nat → Nat} {o5 o6 o7 o8 o9 o10 o11 : Ob} {r12 : Nat → Nat} {o12 o13 o14 o15 o16 : Ob} (hnp : np ≤ 5) (hnp2 : 2 ≤ np) (hk : k < 512) (hv : ∀ j : Nat, 1 ≤ j → j ≤ 6 → vp_in (x3 + iI (j : Int)) L) (hN : zNX np (k + 1) q0 K (x3 + (7 : Int32))) (hcs : cs ≤ 101 + 2 * k) (hsl : sl ≤ 68059 + 13312 * k) (hI : zIV np q0 h14 h15 o0 o1 o2 r3 o3 o4 r5 o5 o6 o7 o9 r12 o12 o13 o14 o15 o16) : f_Lw_c915 L xs q0 K cs sl x3 h14 h15 q13 q14 q15 o0 o1 r2 o2 r3 o3 o4 r5 o5 o6 o7 o8 o9 o10 o11 r12 o12 o13 o14 o15 o16 := by
  obtain ⟨⟨i0, i2, i9, im⟩, iTa, iRe, iSh, iP, t, tm, t', tm', lk, ht, htm, hM, hKL, hM'⟩ := hI
  have hI : zIV np q0 h14 h15 o0 o1 o2 r3 o3 o4 r5 o5 o6 o7 o9 r12 o12 o13 o14 o15 o16 := ⟨⟨i0, i2, i9, im⟩, iTa, iRe, iSh, iP, t, tm, t', tm', lk, ht, htm, hM, hKL, hM'⟩
  have hM0 := hM
  obtain ⟨h1, h2, h3, h4, h5, h6, h7, h8, h9, h10, h11⟩ := hM0
  have b1 : cs ≤ 101 + 2 * (k + 1) := by omega
  have b2 : sl ≤ 68059 + 13312 * (k + 1) := by omega
  have hv1 : vp_in (x3 + (1 : Int32)) L := hv 1 (by omega) (by omega)
  have hv2 : vp_in (x3 + (2 : Int32)) L := hv 2 (by omega) (by omega)
  have hv3 : vp_in (x3 + (3 : Int32)) L := hv 3 (by omega) (by omega)
  have hv4 : vp_in (x3 + (4 : Int32)) L := hv 4 (by omega) (by omega)
  unfold f_Lw_c915
  simp only [eq_true hv1, eq_true hv2, eq_true hv3, eq_true hv4, true_and]
  refine op_hear h3 (hN b1 b2 hI) (fun sd tn f g a1 a2 a3 a4 a5 a6 => hN b1 b2 ⟨⟨i0, i2, i9, im⟩, iTa, iRe, iSh, iP, t, tm + 1, t', tm', lk, ht, by omega, hM.hear hnp a1 a2 a3 a4 a5 a6, hKL, hM'.rows hnp (fun _ _ => rfl) (fun _ _ => rfl) (fun k i hi hk => ?_)⟩)
  match k, hk with
  | 0, _ => exact upd_ne _ _ _ _ (by omega)
  | 1, _ => exact upd_ne _ _ _ _ (by omega)
  | 2, _ => exact upd_ne _ _ _ _ (by omega)
theorem z_c968 {np k L : Nat} {xs : Nat → Int32} {q0 : Nat → Nat} {K : Nat → Nat → Int32 → Nat → Nat → (Nat → Nat) → (Nat → Nat) → (Nat → Nat) → Ob → Ob → (Nat → Nat) → Ob → (Nat → Nat) → Ob → Ob → (Nat → Nat) → Ob → Ob → Ob → Ob → Ob → Ob → Ob → (Nat → Nat) → Ob → Ob → Ob → Ob → Ob → Prop} {cs sl : Nat} {x3 : Int32} {h14 h15 : Nat} {q13 q14 q15 : Nat → Nat} {o0 o1 : Ob} {r2 : Nat → Nat} {o2 : Ob} {r3 : Nat → Nat} {o3 o4 : Ob} {r5 : Nat → Nat} {o5 o6 o7 o8 o9 o10 o11 : Ob} {r12 : Nat → Nat} {o12 o13 o14 o15 o16 : Ob} (hnp : np ≤ 5) (hnp2 : 2 ≤ np) (hk : k < 512) (hv : ∀ j : Nat, 1 ≤ j → j ≤ 6 → vp_in (x3 + iI (j : Int)) L) (hN : zNX np (k + 1) q0 K (x3 + (7 : Int32))) (hcs : cs ≤ 101 + 2 * k) (hsl : sl ≤ 68059 + 13312 * k) (hI : zIV np q0 h14 h15 o0 o1 o2 r3 o3 o4 r5 o5 o6 o7 o9 r12 o12 o13 o14 o15 o16) : f_Lw_c968 L xs q0 K cs sl x3 h14 h15 q13 q14 q15 o0 o1 r2 o2 r3 o3 o4 r5 o5 o6 o7 o8 o9 o10 o11 r12 o12 o13 o14 o15 o16 := by
  obtain ⟨⟨i0, i2, i9, im⟩, iTa, iRe, iSh, iP, t, tm, t', tm', lk, ht, htm, hM, hKL, hM'⟩ := hI
  have hI : zIV np q0 h14 h15 o0 o1 o2 r3 o3 o4 r5 o5 o6 o7 o9 r12 o12 o13 o14 o15 o16 := ⟨⟨i0, i2, i9, im⟩, iTa, iRe, iSh, iP, t, tm, t', tm', lk, ht, htm, hM, hKL, hM'⟩
  have hM0 := hM
  obtain ⟨h1, h2, h3, h4, h5, h6, h7, h8, h9, h10, h11⟩ := hM0
  have b1 : cs ≤ 101 + 2 * (k + 1) := by omega
  have b2 : sl ≤ 68059 + 13312 * (k + 1) := by omega
  have hv1 : vp_in (x3 + (1 : Int32)) L := hv 1 (by omega) (by omega)
  unfold f_Lw_c968
  simp only [eq_true hv1, true_and]
  exact op_look h3 (hN b1 b2 hI) (fun l hl => hN b1 b2 ⟨⟨i0, i2, i9, im⟩, iTa, iRe, iSh, iP, t, tm, t', tm', lk, ht, htm, hM.look hnp hl, hKL, hM'⟩)
theorem z_c991 {np k L : Nat} {xs : Nat → Int32} {q0 : Nat → Nat} {K : Nat → Nat → Int32 → Nat → Nat → (Nat → Nat) → (Nat → Nat) → (Nat → Nat) → Ob → Ob → (Nat → Nat) → Ob → (Nat → Nat) → Ob → Ob → (Nat → Nat) → Ob → Ob → Ob → Ob → Ob → Ob → Ob → (Nat → Nat) → Ob → Ob → Ob → Ob → Ob → Prop} {cs sl : Nat} {x3 : Int32} {h14 h15 : Nat} {q13 q14 q15 : Nat → Nat} {o0 o1 : Ob} {r2 : Nat → Nat} {o2 : Ob} {r3 : Nat → Nat} {o3 o4 : Ob} {r5 : Nat → Nat} {o5 o6 o7 o8 o9 o10 o11 : Ob} {r12 : Nat → Nat} {o12 o13 o14 o15 o16 : Ob} (hnp : np ≤ 5) (hnp2 : 2 ≤ np) (hk : k < 512) (hv : ∀ j : Nat, 1 ≤ j → j ≤ 6 → vp_in (x3 + iI (j : Int)) L) (hN : zNX np (k + 1) q0 K (x3 + (7 : Int32))) (hcs : cs ≤ 101 + 2 * k) (hsl : sl ≤ 68059 + 13312 * k) (hI : zIV np q0 h14 h15 o0 o1 o2 r3 o3 o4 r5 o5 o6 o7 o9 r12 o12 o13 o14 o15 o16) : f_Lw_c991 L xs q0 K cs sl x3 h14 h15 q13 q14 q15 o0 o1 r2 o2 r3 o3 o4 r5 o5 o6 o7 o8 o9 o10 o11 r12 o12 o13 o14 o15 o16 := by
  obtain ⟨⟨i0, i2, i9, im⟩, iTa, iRe, iSh, iP, t, tm, t', tm', lk, ht, htm, hM, hKL, hM'⟩ := hI
  have hI : zIV np q0 h14 h15 o0 o1 o2 r3 o3 o4 r5 o5 o6 o7 o9 r12 o12 o13 o14 o15 o16 := ⟨⟨i0, i2, i9, im⟩, iTa, iRe, iSh, iP, t, tm, t', tm', lk, ht, htm, hM, hKL, hM'⟩
  have hM0 := hM
  obtain ⟨h1, h2, h3, h4, h5, h6, h7, h8, h9, h10, h11⟩ := hM0
  have b1 : cs ≤ 101 + 2 * (k + 1) := by omega
  have b2 : sl ≤ 68059 + 13312 * (k + 1) := by omega
  have hroom : 6900000 ≤ room_1.slots := by decide
  have hb1 : cs + 1 ≤ 600000 := by omega
  have hb2 : sl + 5120 ≤ room_1.slots := by omega
  have hv1 : vp_in (x3 + (1 : Int32)) L := hv 1 (by omega) (by omega)
  unfold f_Lw_c991
  simp only [eq_true hv1, eq_true hb1, eq_true hb2, true_and]
  exact op_makes hnp (by omega) im h5 h3 h11 iSh (fun r' o' m' hR hm => hN (by omega) (by omega) ((hI.sh hR).md hm.I))
theorem z_c1014 {np k L : Nat} {xs : Nat → Int32} {q0 : Nat → Nat} {K : Nat → Nat → Int32 → Nat → Nat → (Nat → Nat) → (Nat → Nat) → (Nat → Nat) → Ob → Ob → (Nat → Nat) → Ob → (Nat → Nat) → Ob → Ob → (Nat → Nat) → Ob → Ob → Ob → Ob → Ob → Ob → Ob → (Nat → Nat) → Ob → Ob → Ob → Ob → Ob → Prop} {cs sl : Nat} {x3 : Int32} {h14 h15 : Nat} {q13 q14 q15 : Nat → Nat} {o0 o1 : Ob} {r2 : Nat → Nat} {o2 : Ob} {r3 : Nat → Nat} {o3 o4 : Ob} {r5 : Nat → Nat} {o5 o6 o7 o8 o9 o10 o11 : Ob} {r12 : Nat → Nat} {o12 o13 o14 o15 o16 : Ob} (hnp : np ≤ 5) (hnp2 : 2 ≤ np) (hk : k < 512) (hv : ∀ j : Nat, 1 ≤ j → j ≤ 6 → vp_in (x3 + iI (j : Int)) L) (hN : zNX np (k + 1) q0 K (x3 + (7 : Int32))) (hcs : cs ≤ 101 + 2 * k) (hsl : sl ≤ 68059 + 13312 * k) (hI : zIV np q0 h14 h15 o0 o1 o2 r3 o3 o4 r5 o5 o6 o7 o9 r12 o12 o13 o14 o15 o16) : f_Lw_c1014 L xs q0 K cs sl x3 h14 h15 q13 q14 q15 o0 o1 r2 o2 r3 o3 o4 r5 o5 o6 o7 o8 o9 o10 o11 r12 o12 o13 o14 o15 o16 := by
  obtain ⟨⟨i0, i2, i9, im⟩, iTa, iRe, iSh, iP, t, tm, t', tm', lk, ht, htm, hM, hKL, hM'⟩ := hI
  have hI : zIV np q0 h14 h15 o0 o1 o2 r3 o3 o4 r5 o5 o6 o7 o9 r12 o12 o13 o14 o15 o16 := ⟨⟨i0, i2, i9, im⟩, iTa, iRe, iSh, iP, t, tm, t', tm', lk, ht, htm, hM, hKL, hM'⟩
  have hM0 := hM
  obtain ⟨h1, h2, h3, h4, h5, h6, h7, h8, h9, h10, h11⟩ := hM0
  have b1 : cs ≤ 101 + 2 * (k + 1) := by omega
  have b2 : sl ≤ 68059 + 13312 * (k + 1) := by omega
  have hroom : 6900000 ≤ room_1.slots := by decide
  have hb1 : cs + 1 ≤ 600000 := by omega
  have hb2 : sl + 5120 ≤ room_1.slots := by omega
  have hv1 : vp_in (x3 + (1 : Int32)) L := hv 1 (by omega) (by omega)
  have hv2 : vp_in (x3 + (2 : Int32)) L := hv 2 (by omega) (by omega)
  have hv3 : vp_in (x3 + (3 : Int32)) L := hv 3 (by omega) (by omega)
  unfold f_Lw_c1014
  simp only [eq_true hv1, eq_true hv2, eq_true hv3, eq_true hb1, eq_true hb2, true_and]
  exact op_maker hnp (by omega) i0 im h5 h3 h11 iSh (fun r' o' m' hR hm => hN (by omega) (by omega) ((hI.sh hR).md hm.I))
theorem z_c1057 {np k L : Nat} {xs : Nat → Int32} {q0 : Nat → Nat} {K : Nat → Nat → Int32 → Nat → Nat → (Nat → Nat) → (Nat → Nat) → (Nat → Nat) → Ob → Ob → (Nat → Nat) → Ob → (Nat → Nat) → Ob → Ob → (Nat → Nat) → Ob → Ob → Ob → Ob → Ob → Ob → Ob → (Nat → Nat) → Ob → Ob → Ob → Ob → Ob → Prop} {cs sl : Nat} {x3 : Int32} {h14 h15 : Nat} {q13 q14 q15 : Nat → Nat} {o0 o1 : Ob} {r2 : Nat → Nat} {o2 : Ob} {r3 : Nat → Nat} {o3 o4 : Ob} {r5 : Nat → Nat} {o5 o6 o7 o8 o9 o10 o11 : Ob} {r12 : Nat → Nat} {o12 o13 o14 o15 o16 : Ob} (hnp : np ≤ 5) (hnp2 : 2 ≤ np) (hk : k < 512) (hv : ∀ j : Nat, 1 ≤ j → j ≤ 6 → vp_in (x3 + iI (j : Int)) L) (hN : zNX np (k + 1) q0 K (x3 + (7 : Int32))) (hcs : cs ≤ 101 + 2 * k) (hsl : sl ≤ 68059 + 13312 * k) (hI : zIV np q0 h14 h15 o0 o1 o2 r3 o3 o4 r5 o5 o6 o7 o9 r12 o12 o13 o14 o15 o16) : f_Lw_c1057 L xs q0 K cs sl x3 h14 h15 q13 q14 q15 o0 o1 r2 o2 r3 o3 o4 r5 o5 o6 o7 o8 o9 o10 o11 r12 o12 o13 o14 o15 o16 := by
  obtain ⟨⟨i0, i2, i9, im⟩, iTa, iRe, iSh, iP, t, tm, t', tm', lk, ht, htm, hM, hKL, hM'⟩ := hI
  have hI : zIV np q0 h14 h15 o0 o1 o2 r3 o3 o4 r5 o5 o6 o7 o9 r12 o12 o13 o14 o15 o16 := ⟨⟨i0, i2, i9, im⟩, iTa, iRe, iSh, iP, t, tm, t', tm', lk, ht, htm, hM, hKL, hM'⟩
  have hM0 := hM
  obtain ⟨h1, h2, h3, h4, h5, h6, h7, h8, h9, h10, h11⟩ := hM0
  have b1 : cs ≤ 101 + 2 * (k + 1) := by omega
  have b2 : sl ≤ 68059 + 13312 * (k + 1) := by omega
  have hroom : 6900000 ≤ room_1.slots := by decide
  have hb1 : cs + 1 ≤ 600000 := by omega
  have hb2 : sl + 5120 ≤ room_1.slots := by omega
  have hv1 : vp_in (x3 + (1 : Int32)) L := hv 1 (by omega) (by omega)
  have hv2 : vp_in (x3 + (2 : Int32)) L := hv 2 (by omega) (by omega)
  unfold f_Lw_c1057
  simp only [eq_true hv1, eq_true hv2, eq_true hb1, eq_true hb2, true_and]
  exact op_nearest hnp (by omega) i0 im h4 h5 h3 h11 iSh (fun r' o' m' hR hm => hN (by omega) (by omega) ((hI.sh hR).md hm.I))
theorem z_c1090 {np k L : Nat} {xs : Nat → Int32} {q0 : Nat → Nat} {K : Nat → Nat → Int32 → Nat → Nat → (Nat → Nat) → (Nat → Nat) → (Nat → Nat) → Ob → Ob → (Nat → Nat) → Ob → (Nat → Nat) → Ob → Ob → (Nat → Nat) → Ob → Ob → Ob → Ob → Ob → Ob → Ob → (Nat → Nat) → Ob → Ob → Ob → Ob → Ob → Prop} {cs sl : Nat} {x3 : Int32} {h14 h15 : Nat} {q13 q14 q15 : Nat → Nat} {o0 o1 : Ob} {r2 : Nat → Nat} {o2 : Ob} {r3 : Nat → Nat} {o3 o4 : Ob} {r5 : Nat → Nat} {o5 o6 o7 o8 o9 o10 o11 : Ob} {r12 : Nat → Nat} {o12 o13 o14 o15 o16 : Ob} (hnp : np ≤ 5) (hnp2 : 2 ≤ np) (hk : k < 512) (hv : ∀ j : Nat, 1 ≤ j → j ≤ 6 → vp_in (x3 + iI (j : Int)) L) (hN : zNX np (k + 1) q0 K (x3 + (7 : Int32))) (hcs : cs ≤ 101 + 2 * k) (hsl : sl ≤ 68059 + 13312 * k) (hI : zIV np q0 h14 h15 o0 o1 o2 r3 o3 o4 r5 o5 o6 o7 o9 r12 o12 o13 o14 o15 o16) : f_Lw_c1090 L xs q0 K cs sl x3 h14 h15 q13 q14 q15 o0 o1 r2 o2 r3 o3 o4 r5 o5 o6 o7 o8 o9 o10 o11 r12 o12 o13 o14 o15 o16 := by
  obtain ⟨⟨i0, i2, i9, im⟩, iTa, iRe, iSh, iP, t, tm, t', tm', lk, ht, htm, hM, hKL, hM'⟩ := hI
  have hI : zIV np q0 h14 h15 o0 o1 o2 r3 o3 o4 r5 o5 o6 o7 o9 r12 o12 o13 o14 o15 o16 := ⟨⟨i0, i2, i9, im⟩, iTa, iRe, iSh, iP, t, tm, t', tm', lk, ht, htm, hM, hKL, hM'⟩
  have hM0 := hM
  obtain ⟨h1, h2, h3, h4, h5, h6, h7, h8, h9, h10, h11⟩ := hM0
  have b1 : cs ≤ 101 + 2 * (k + 1) := by omega
  have b2 : sl ≤ 68059 + 13312 * (k + 1) := by omega
  have hroom : 6900000 ≤ room_1.slots := by decide
  have hb1 : cs + 2 ≤ 600000 := by omega
  have hb2 : sl + 13312 ≤ room_1.slots := by omega
  have hv1 : vp_in (x3 + (1 : Int32)) L := hv 1 (by omega) (by omega)
  have hv2 : vp_in (x3 + (2 : Int32)) L := hv 2 (by omega) (by omega)
  have hv3 : vp_in (x3 + (3 : Int32)) L := hv 3 (by omega) (by omega)
  unfold f_Lw_c1090
  simp only [eq_true hv1, eq_true hv2, eq_true hv3, eq_true hb1, eq_true hb2, true_and]
  exact op_row hnp (by omega) i0 im h5 h3 h11 iSh (fun r' o' m' hR hm => hN (by omega) (by omega) ((hI.sh hR).md hm.I))
theorem z_c1159 {np k L : Nat} {xs : Nat → Int32} {q0 : Nat → Nat} {K : Nat → Nat → Int32 → Nat → Nat → (Nat → Nat) → (Nat → Nat) → (Nat → Nat) → Ob → Ob → (Nat → Nat) → Ob → (Nat → Nat) → Ob → Ob → (Nat → Nat) → Ob → Ob → Ob → Ob → Ob → Ob → Ob → (Nat → Nat) → Ob → Ob → Ob → Ob → Ob → Prop} {cs sl : Nat} {x3 : Int32} {h14 h15 : Nat} {q13 q14 q15 : Nat → Nat} {o0 o1 : Ob} {r2 : Nat → Nat} {o2 : Ob} {r3 : Nat → Nat} {o3 o4 : Ob} {r5 : Nat → Nat} {o5 o6 o7 o8 o9 o10 o11 : Ob} {r12 : Nat → Nat} {o12 o13 o14 o15 o16 : Ob} (hnp : np ≤ 5) (hnp2 : 2 ≤ np) (hk : k < 512) (hv : ∀ j : Nat, 1 ≤ j → j ≤ 6 → vp_in (x3 + iI (j : Int)) L) (hN : zNX np (k + 1) q0 K (x3 + (7 : Int32))) (hcs : cs ≤ 101 + 2 * k) (hsl : sl ≤ 68059 + 13312 * k) (hI : zIV np q0 h14 h15 o0 o1 o2 r3 o3 o4 r5 o5 o6 o7 o9 r12 o12 o13 o14 o15 o16) : f_Lw_c1159 L xs q0 K cs sl x3 h14 h15 q13 q14 q15 o0 o1 r2 o2 r3 o3 o4 r5 o5 o6 o7 o8 o9 o10 o11 r12 o12 o13 o14 o15 o16 := by
  obtain ⟨⟨i0, i2, i9, im⟩, iTa, iRe, iSh, iP, t, tm, t', tm', lk, ht, htm, hM, hKL, hM'⟩ := hI
  have hI : zIV np q0 h14 h15 o0 o1 o2 r3 o3 o4 r5 o5 o6 o7 o9 r12 o12 o13 o14 o15 o16 := ⟨⟨i0, i2, i9, im⟩, iTa, iRe, iSh, iP, t, tm, t', tm', lk, ht, htm, hM, hKL, hM'⟩
  have hM0 := hM
  obtain ⟨h1, h2, h3, h4, h5, h6, h7, h8, h9, h10, h11⟩ := hM0
  have b1 : cs ≤ 101 + 2 * (k + 1) := by omega
  have b2 : sl ≤ 68059 + 13312 * (k + 1) := by omega
  have hv1 : vp_in (x3 + (1 : Int32)) L := hv 1 (by omega) (by omega)
  unfold f_Lw_c1159
  simp only [eq_true hv1, true_and]
  exact op_about hnp (by omega) i0 im h1 h2 h3 h5 h7 iTa (fun u hm => hN b1 b2 (hI.md hm.I))
theorem z_c1133 {np k L : Nat} {xs : Nat → Int32} {q0 : Nat → Nat} {K : Nat → Nat → Int32 → Nat → Nat → (Nat → Nat) → (Nat → Nat) → (Nat → Nat) → Ob → Ob → (Nat → Nat) → Ob → (Nat → Nat) → Ob → Ob → (Nat → Nat) → Ob → Ob → Ob → Ob → Ob → Ob → Ob → (Nat → Nat) → Ob → Ob → Ob → Ob → Ob → Prop} {cs sl : Nat} {x3 : Int32} {h14 h15 : Nat} {q13 q14 q15 : Nat → Nat} {o0 o1 : Ob} {r2 : Nat → Nat} {o2 : Ob} {r3 : Nat → Nat} {o3 o4 : Ob} {r5 : Nat → Nat} {o5 o6 o7 o8 o9 o10 o11 : Ob} {r12 : Nat → Nat} {o12 o13 o14 o15 o16 : Ob} (hnp : np ≤ 5) (hnp2 : 2 ≤ np) (hk : k < 512) (hv : ∀ j : Nat, 1 ≤ j → j ≤ 6 → vp_in (x3 + iI (j : Int)) L) (hN : zNX np (k + 1) q0 K (x3 + (7 : Int32))) (hcs : cs ≤ 101 + 2 * k) (hsl : sl ≤ 68059 + 13312 * k) (hI : zIV np q0 h14 h15 o0 o1 o2 r3 o3 o4 r5 o5 o6 o7 o9 r12 o12 o13 o14 o15 o16) : f_Lw_c1133 L xs q0 K cs sl x3 h14 h15 q13 q14 q15 o0 o1 r2 o2 r3 o3 o4 r5 o5 o6 o7 o8 o9 o10 o11 r12 o12 o13 o14 o15 o16 := by
  obtain ⟨⟨i0, i2, i9, im⟩, iTa, iRe, iSh, iP, t, tm, t', tm', lk, ht, htm, hM, hKL, hM'⟩ := hI
  have hI : zIV np q0 h14 h15 o0 o1 o2 r3 o3 o4 r5 o5 o6 o7 o9 r12 o12 o13 o14 o15 o16 := ⟨⟨i0, i2, i9, im⟩, iTa, iRe, iSh, iP, t, tm, t', tm', lk, ht, htm, hM, hKL, hM'⟩
  have hM0 := hM
  obtain ⟨h1, h2, h3, h4, h5, h6, h7, h8, h9, h10, h11⟩ := hM0
  have b1 : cs ≤ 101 + 2 * (k + 1) := by omega
  have b2 : sl ≤ 68059 + 13312 * (k + 1) := by omega
  unfold f_Lw_c1133
  unfold f_PV_image
  refine mo_copy hnp hM (fun u v hMn e1 => ?_)
  unfold f_Md_image
  refine md_keep (fun m' hm ha hb => k_q ?_ (hN b1 b2 ?_))
  · rw [hm.2.2.1 1 (by decide), h1.1, h1.2.1]
  · exact ⟨⟨i0, i2, i9, (hm.1 0).trans im⟩, iTa.cg (hm.1 7) (hm.2.2.1 6 (by decide)), iRe.cg (hm.1 8) (hm.1 9), iSh, iP, t, tm, t, tm, o13, Nat.le_refl _, Nat.le_refl _, by rw [hm.2.2.1 1 (by decide), hm.2.2.2 3 (by decide)]; exact hM, Or.inl ⟨rfl, rfl⟩, hMn.cg hnp ha hb⟩
theorem z_c1146 {np k L : Nat} {xs : Nat → Int32} {q0 : Nat → Nat} {K : Nat → Nat → Int32 → Nat → Nat → (Nat → Nat) → (Nat → Nat) → (Nat → Nat) → Ob → Ob → (Nat → Nat) → Ob → (Nat → Nat) → Ob → Ob → (Nat → Nat) → Ob → Ob → Ob → Ob → Ob → Ob → Ob → (Nat → Nat) → Ob → Ob → Ob → Ob → Ob → Prop} {cs sl : Nat} {x3 : Int32} {h14 h15 : Nat} {q13 q14 q15 : Nat → Nat} {o0 o1 : Ob} {r2 : Nat → Nat} {o2 : Ob} {r3 : Nat → Nat} {o3 o4 : Ob} {r5 : Nat → Nat} {o5 o6 o7 o8 o9 o10 o11 : Ob} {r12 : Nat → Nat} {o12 o13 o14 o15 o16 : Ob} (hnp : np ≤ 5) (hnp2 : 2 ≤ np) (hk : k < 512) (hv : ∀ j : Nat, 1 ≤ j → j ≤ 6 → vp_in (x3 + iI (j : Int)) L) (hN : zNX np (k + 1) q0 K (x3 + (7 : Int32))) (hcs : cs ≤ 101 + 2 * k) (hsl : sl ≤ 68059 + 13312 * k) (hI : zIV np q0 h14 h15 o0 o1 o2 r3 o3 o4 r5 o5 o6 o7 o9 r12 o12 o13 o14 o15 o16) : f_Lw_c1146 L xs q0 K cs sl x3 h14 h15 q13 q14 q15 o0 o1 r2 o2 r3 o3 o4 r5 o5 o6 o7 o8 o9 o10 o11 r12 o12 o13 o14 o15 o16 := by
  obtain ⟨⟨i0, i2, i9, im⟩, iTa, iRe, iSh, iP, t, tm, t', tm', lk, ht, htm, hM, hKL, hM'⟩ := hI
  have hI : zIV np q0 h14 h15 o0 o1 o2 r3 o3 o4 r5 o5 o6 o7 o9 r12 o12 o13 o14 o15 o16 := ⟨⟨i0, i2, i9, im⟩, iTa, iRe, iSh, iP, t, tm, t', tm', lk, ht, htm, hM, hKL, hM'⟩
  have hM0 := hM
  obtain ⟨h1, h2, h3, h4, h5, h6, h7, h8, h9, h10, h11⟩ := hM0
  have b1 : cs ≤ 101 + 2 * (k + 1) := by omega
  have b2 : sl ≤ 68059 + 13312 * (k + 1) := by omega
  unfold f_Lw_c1146
  unfold f_PV_back
  refine mo_copy hnp hM' (fun u v hMn e1 => ?_)
  refine md_back (fun m' hm ha hb => k_q ?_ ?_)
  · rw [e1, ha 0 (by decide), hM'.1.1, hM'.1.2.1]
  · have base : (gI o0 0 = iI np ∧ gI o2 1 = iI np ∧ gI o9 0 = iI np ∧ gI m' 0 = iI np) ∧ RTa o1 m' ∧ RRe o2 m' ∧ RSh np r12 o12 := ⟨⟨i0, i2, i9, (hm.1 0).trans im⟩, iTa.cg (hm.1 7) (hm.2.2.1 6 (by decide)), iRe.cg (hm.1 8) (hm.1 9), iSh⟩
    obtain ⟨x1, x2, x3, x4⟩ := base
    have hMk : MR np o5 o6 lk (gA o0 6) (gB o0 7) o7 (gA m' 2) (gB m' 4) t' tm' := by rw [hm.2.2.1 2 (by decide), hm.2.2.2 4 (by decide)]; exact hM'
    have hMw : MR np u v lk (gA o0 6) (gB o0 7) o7 (gA m' 1) (gB m' 3) t' tm' := hMn.cg hnp ha hb
    obtain ⟨⟨p1, p2, p3⟩, dd, c0, c1, c2⟩ := iP
    rcases hKL with ⟨e, el⟩ | ⟨e, el⟩ | ⟨e, el⟩
    · subst el
      refine Or.inl ⟨e, hN b1 b2 ⟨x1, x2, x3, x4, ?_, t', tm', t', tm', lk, Nat.le_refl _, Nat.le_refl _, hMw, Or.inl ⟨rfl, rfl⟩, hMk⟩⟩
      show zPM q0 (r5 0) h14 h15
      rw [e]
      exact ⟨⟨p1, p2, p3⟩, dd, c0, c1, c2⟩
    · subst el
      refine Or.inr (Or.inl ⟨e, hN b1 b2 ⟨x1, x2, x3, x4, ?_, t', tm', t', tm', lk, Nat.le_refl _, Nat.le_refl _, hMw, Or.inl ⟨rfl, rfl⟩, hMk⟩⟩)
      show zPM q0 (r5 0) (r3 0) h15
      rw [e]
      exact ⟨⟨fun q => p1 q.symm, p3, p2⟩, dd, by omega, by omega, by omega⟩
    · subst el
      refine Or.inr (Or.inr ⟨e, hN b1 b2 ⟨x1, x2, x3, x4, ?_, t', tm', t', tm', lk, Nat.le_refl _, Nat.le_refl _, hMw, Or.inl ⟨rfl, rfl⟩, hMk⟩⟩)
      show zPM q0 (r5 0) (r3 0) h14
      rw [e]
      exact ⟨⟨fun q => p2 q.symm, fun q => p3 q.symm, p1⟩, dd, by omega, by omega, by omega⟩
