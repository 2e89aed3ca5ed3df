-- the law's loop
theorem z_spare {q0 r3 r5 : Nat → Nat} {h14 h15 : Nat} {o0 o3 o5 l13 l14 l15 lk : Ob} (hP : zPM q0 (r3 0) h14 h15) (hK : zKL (r5 0) (r3 0) h14 h15 l13 l14 l15 lk) : ∃ h5, (h5 = h14 ∨ h5 = h15) ∧ h5 ≠ r5 0 ∧ ∀ Q : Nat → Prop, Q h5 → f_PV_spareLaw q0 o0 r3 o3 r5 o5 Q := by
  obtain ⟨⟨p1, p2, p3⟩, ⟨d1, d2, d3⟩, c0, c1, c2⟩ := hP
  have hkp : r5 0 = r3 0 ∨ r5 0 = h14 ∨ r5 0 = h15 := by
    rcases hK with ⟨h, -⟩ | ⟨h, -⟩ | ⟨h, -⟩
    · exact Or.inl h
    · exact Or.inr (Or.inl h)
    · exact Or.inr (Or.inr h)
  by_cases e1 : q0 51 = r3 0
  · have e2 : ¬ q0 52 = r3 0 := fun q => d3 (e1.trans q.symm)
    by_cases e3 : q0 52 = r5 0
    · refine ⟨q0 50, by omega, by omega, fun Q hQ => ?_⟩
      unfold f_PV_spareLaw
      exact k_t e1 (k_f e2 (k_t e3 hQ))
    · refine ⟨q0 52, by omega, by omega, fun Q hQ => ?_⟩
      unfold f_PV_spareLaw
      exact k_t e1 (k_f e2 (k_f e3 hQ))
  · by_cases e4 : q0 51 = r5 0
    · by_cases e2 : q0 52 = r3 0
      · refine ⟨q0 50, by omega, by omega, fun Q hQ => ?_⟩
        unfold f_PV_spareLaw
        exact k_f e1 (k_t e4 (k_t e2 hQ))
      · have e3 : ¬ q0 52 = r5 0 := fun q => d3 (e4.trans q.symm)
        refine ⟨q0 52, by omega, by omega, fun Q hQ => ?_⟩
        unfold f_PV_spareLaw
        exact k_f e1 (k_t e4 (k_f e2 (k_f e3 hQ)))
    · refine ⟨q0 51, by omega, by omega, fun Q hQ => ?_⟩
      unfold f_PV_spareLaw
      exact k_f e1 (k_f e4 hQ)
theorem z_c258 {np k L : Nat} {xs : Nat → Int32} {q0 : Nat → Nat} {K : Nat → Nat → Int32 → Nat → Nat → (Nat → Nat) → (Nat → Nat) → (Nat → Nat) → Ob → Ob → (Nat → Nat) → Ob → (Nat → Nat) → Ob → Ob → (Nat → Nat) → Ob → Ob → Ob → Ob → Ob → Ob → Ob → (Nat → Nat) → Ob → Ob → Ob → Ob → Ob → Prop} {cs sl : Nat} {x3 : Int32} {h14 h15 : Nat} {q13 q14 q15 : Nat → Nat} {o0 o1 : Ob} {r2 : Nat → Nat} {o2 : Ob} {r3 : Nat → Nat} {o3 o4 : Ob} {r5 : Nat → Nat} {o5 o6 o7 o8 o9 o10 o11 : Ob} {r12 : Nat → Nat} {o12 o13 o14 o15 o16 : Ob} (hnp : np ≤ 5) (hnp2 : 2 ≤ np) (hN : zNX np (k + 1) q0 K (x3 + (7 : Int32))) (hcs : cs ≤ 101 + 2 * k) (hsl : sl ≤ 68059 + 13312 * k) (hI : zIV np q0 h14 h15 o0 o1 o2 r3 o3 o4 r5 o5 o6 o7 o9 r12 o12 o13 o14 o15 o16) : f_Lw_c258 L xs q0 K cs sl x3 h14 h15 q13 q14 q15 o0 o1 r2 o2 r3 o3 o4 r5 o5 o6 o7 o8 o9 o10 o11 r12 o12 o13 o14 o15 o16 := by
  obtain ⟨⟨i0, i2, i9, im⟩, iTa, iRe, iSh, iP, t, tm, t', tm', lk, ht, htm, hM, hKL, hM'⟩ := hI
  have b1 : cs ≤ 101 + 2 * (k + 1) := by omega
  have b2 : sl ≤ 68059 + 13312 * (k + 1) := by omega
  obtain ⟨h5, hh, hne, hs⟩ := z_spare (o0 := o0) (o3 := o3) (o5 := o5) iP hKL
  obtain ⟨⟨p1, p2, p3⟩, dd, c0, c1, c2⟩ := iP
  have tz : ∀ v, gI v 7 = 0 → RTa (sI o1 1 (0 : Int32)) v := fun v h7 => ⟨0, by omega, rfl, h7, fun i hi => by omega⟩
  unfold f_Lw_c258
  rcases hh with hh | hh
  · subst hh
    refine Or.inl (op_text hnp (by omega) im i2 iTa hs (fun re' la' v e1 e2 e3 e4 e5 => Or.inl ⟨rfl, hN b1 b2 ⟨⟨i0, e1, i9, (e4.1 0 (by omega)).trans im⟩, tz v e3, e2, iSh, ⟨⟨p1, p2, p3⟩, dd, c0, c1, c2⟩, t, tm, t', tm', lk, ht, htm, by rw [e5, e4.2.2]; exact hM, ?_, by rw [e4.2.1 2 (by decide) (by decide), e4.2.2]; exact hM'⟩⟩) (fun re' la' v e1 e2 e3 e4 hL hA3 ho => Or.inr (Or.inl ⟨rfl, hN b1 b2 ⟨⟨i0, e1, i9, (e4.1 0 (by omega)).trans im⟩, tz v e3, e2, iSh, ?_, t, tm, t', tm', lk, ht, htm, by rw [e4.2.2]; exact hM.text hnp hL hA3 ho, ?_, by rw [e4.2.1 2 (by decide) (by decide), e4.2.2]; exact hM'⟩⟩)))
    · rcases hKL with h | ⟨h, -⟩ | h
      · exact Or.inl h
      · exact absurd h.symm hne
      · exact Or.inr (Or.inr h)
    · show zPM q0 h5 (r3 0) h15
      exact ⟨⟨fun q => p1 q.symm, p3, p2⟩, dd, by omega, by omega, by omega⟩
    · rcases hKL with h | ⟨h, -⟩ | h
      · exact Or.inr (Or.inl h)
      · exact absurd h.symm hne
      · exact Or.inr (Or.inr h)
  · subst hh
    refine Or.inr (op_text hnp (by omega) im i2 iTa hs (fun re' la' v e1 e2 e3 e4 e5 => Or.inl ⟨rfl, hN b1 b2 ⟨⟨i0, e1, i9, (e4.1 0 (by omega)).trans im⟩, tz v e3, e2, iSh, ⟨⟨p1, p2, p3⟩, dd, c0, c1, c2⟩, t, tm, t', tm', lk, ht, htm, by rw [e5, e4.2.2]; exact hM, ?_, by rw [e4.2.1 2 (by decide) (by decide), e4.2.2]; exact hM'⟩⟩) (fun re' la' v e1 e2 e3 e4 hL hA3 ho => Or.inr (Or.inr ⟨rfl, hN b1 b2 ⟨⟨i0, e1, i9, (e4.1 0 (by omega)).trans im⟩, tz v e3, e2, iSh, ?_, t, tm, t', tm', lk, ht, htm, by rw [e4.2.2]; exact hM.text hnp hL hA3 ho, ?_, by rw [e4.2.1 2 (by decide) (by decide), e4.2.2]; exact hM'⟩⟩)))
    · rcases hKL with h | h | ⟨h, -⟩
      · exact Or.inl h
      · exact Or.inr (Or.inl h)
      · exact absurd h.symm hne
    · show zPM q0 h5 (r3 0) h14
      exact ⟨⟨fun q => p2 q.symm, fun q => p3 q.symm, p1⟩, dd, by omega, by omega, by omega⟩
    · rcases hKL with h | h | ⟨h, -⟩
      · exact Or.inr (Or.inl h)
      · exact Or.inr (Or.inr h)
      · exact absurd h.symm hne
theorem z_loop {np L : Nat} {xs : Nat → Int32} {q0 : Nat → Nat} (hL : L ≤ 3585) (hnp : np ≤ 5) (hnp2 : 2 ≤ np) : ∀ (f k : Nat) {cs sl : Nat} {h14 h15 : Nat} {q13 q14 q15 : Nat → Nat} {o0 o1 : Ob} {r2 : Nat → Nat} {o2 : Ob} {r3 : Nat → Nat} {o3 o4 : Ob} {r5 : Nat → Nat} {o5 o6 o7 o8 o9 o10 o11 : Ob} {r12 : Nat → Nat} {o12 o13 o14 o15 o16 : Ob}, f + k = 512 → cs ≤ 101 + 2 * k → sl ≤ 68059 + 13312 * k → zIV np q0 h14 h15 o0 o1 o2 r3 o3 o4 r5 o5 o6 o7 o9 r12 o12 o13 o14 o15 o16 → f_Lw_loop L xs q0 (f + 1) cs sl (iI ((1 + 7 * k : Nat) : Int)) h14 h15 q13 q14 q15 o0 o1 r2 o2 r3 o3 o4 r5 o5 o6 o7 o8 o9 o10 o11 r12 o12 o13 o14 o15 o16 := by
  have hroom : 6900000 ≤ room_1.slots := by decide
  have eL : nI L - (7 : Int32) = iI ((L : Int) - 7) := by rw [iI_nI]; exact iI_sub _ 7
  intro f
  induction f with
  | zero =>
    intro k cs sl h14 h15 q13 q14 q15 o0 o1 r2 o2 r3 o3 o4 r5 o5 o6 o7 o8 o9 o10 o11 r12 o12 o13 o14 o15 o16 hf hcs hsl hI
    unfold f_Lw_loop
    rw [eL]
    exact ⟨by omega, by omega, b_lt (fun _ => ⟨by omega, by omega, trivial⟩) (fun q => by omega)⟩
  | succ f ih =>
    intro k cs sl h14 h15 q13 q14 q15 o0 o1 r2 o2 r3 o3 o4 r5 o5 o6 o7 o8 o9 o10 o11 r12 o12 o13 o14 o15 o16 hf hcs hsl hI
    have e7 : iI ((1 + 7 * k : Nat) : Int) + (7 : Int32) = iI ((1 + 7 * (k + 1) : Nat) : Int) := by rw [show (7 : Int32) = iI 7 from rfl, iI_add]; congr 1
    have hN : zNX np (k + 1) q0 (f_Lw_loop L xs q0 (f + 1)) (iI ((1 + 7 * k : Nat) : Int) + (7 : Int32)) := by
      intro cs sl h14 h15 q13 q14 q15 o0 o1 r2 o2 r3 o3 o4 r5 o5 o6 o7 o8 o9 o10 o11 r12 o12 o13 o14 o15 o16 h1 h2 h3
      rw [e7]
      exact ih (k + 1) (by omega) h1 h2 h3
    have hk : k < 512 := by omega
    unfold f_Lw_loop
    rw [eL]
    refine ⟨by omega, by omega, b_lt (fun _ => ⟨by omega, by omega, trivial⟩) (fun q => ⟨v_nat (by omega) (by omega), ?_⟩)⟩
    have hv : ∀ j : Nat, 1 ≤ j → j ≤ 6 → vp_in (iI ((1 + 7 * k : Nat) : Int) + iI (j : Int)) L := fun j j1 j2 => by
      rw [ix_add]
      exact v_nat (by omega) (by omega)
    exact k_c (fun _ => z_c172 hnp hnp2 hk hv hN hcs hsl hI) (fun _ => k_c (fun _ => z_c235 hnp hnp2 hk hv hN hcs hsl hI) (fun _ => k_c (fun _ => z_c258 hnp hnp2 hN hcs hsl hI) (fun _ => k_c (fun _ => z_c271 hnp hnp2 hk hv hN hcs hsl hI) (fun _ => k_c (fun _ => z_c294 hnp hnp2 hk hv hN hcs hsl hI) (fun _ => k_c (fun _ => z_c317 hnp hnp2 hk hv hN hcs hsl hI) (fun _ => k_c (fun _ => z_c340 hnp hnp2 hk hv hN hcs hsl hI) (fun _ => k_c (fun _ => z_c383 hnp hnp2 hk hv hN hcs hsl hI) (fun _ => k_c (fun _ => z_c406 hnp hnp2 hk hv hN hcs hsl hI) (fun _ => k_c (fun _ => z_c429 hnp hnp2 hk hv hN hcs hsl hI) (fun _ => k_c (fun _ => z_c472 hnp hnp2 hk hv hN hcs hsl hI) (fun _ => k_c (fun _ => z_c496 hnp hnp2 hk hv hN hcs hsl hI) (fun _ => k_c (fun _ => z_c546 hnp hnp2 hk hv hN hcs hsl hI) (fun _ => k_c (fun _ => z_c570 hnp hnp2 hk hv hN hcs hsl hI) (fun _ => k_c (fun _ => z_c593 hnp hnp2 hk hv hN hcs hsl hI) (fun _ => k_c (fun _ => z_c626 hnp hnp2 hk hv hN hcs hsl hI) (fun _ => k_c (fun _ => z_c669 hnp hnp2 hk hv hN hcs hsl hI) (fun _ => k_c (fun _ => z_c744 hnp hnp2 hk hv hN hcs hsl hI) (fun _ => k_c (fun _ => z_c819 hnp hnp2 hk hv hN hcs hsl hI) (fun _ => k_c (fun _ => z_c882 hnp hnp2 hk hv hN hcs hsl hI) (fun _ => k_c (fun _ => z_c915 hnp hnp2 hk hv hN hcs hsl hI) (fun _ => k_c (fun _ => z_c968 hnp hnp2 hk hv hN hcs hsl hI) (fun _ => k_c (fun _ => z_c991 hnp hnp2 hk hv hN hcs hsl hI) (fun _ => k_c (fun _ => z_c1014 hnp hnp2 hk hv hN hcs hsl hI) (fun _ => k_c (fun _ => z_c1057 hnp hnp2 hk hv hN hcs hsl hI) (fun _ => k_c (fun _ => z_c1090 hnp hnp2 hk hv hN hcs hsl hI) (fun _ => k_c (fun _ => z_c1133 hnp hnp2 hk hv hN hcs hsl hI) (fun _ => k_c (fun _ => z_c1146 hnp hnp2 hk hv hN hcs hsl hI) (fun _ => k_c (fun _ => z_c1159 hnp hnp2 hk hv hN hcs hsl hI) (fun _ => hN (by omega) (by omega) hI)))))))))))))))))))))))))))))
