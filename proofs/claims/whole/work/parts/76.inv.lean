-- what holds between two calls of the law
def zKL (kp a h k : Nat) (l13 l14 l15 lk : Ob) : Prop := (kp = a ∧ lk = l13) ∨ (kp = h ∧ lk = l14) ∨ (kp = k ∧ lk = l15)
def zPM (q0 : Nat → Nat) (a h k : Nat) : Prop := (a ≠ h ∧ a ≠ k ∧ h ≠ k) ∧ (q0 50 ≠ q0 51 ∧ q0 50 ≠ q0 52 ∧ q0 51 ≠ q0 52) ∧ (q0 50 = a ∨ q0 50 = h ∨ q0 50 = k) ∧ (q0 51 = a ∨ q0 51 = h ∨ q0 51 = k) ∧ (q0 52 = a ∨ q0 52 = h ∨ q0 52 = k)
def zIV (np : Nat) (q0 : Nat → Nat) (h14 h15 : Nat) (o0 o1 o2 : Ob) (r3 : Nat → Nat) (o3 o4 : Ob) (r5 : Nat → Nat) (o5 o6 o7 o9 : Ob) (r12 : Nat → Nat) (o12 o13 o14 o15 o16 : Ob) : Prop :=
  (gI o0 0 = iI np ∧ gI o2 1 = iI np ∧ gI o9 0 = iI np ∧ gI o16 0 = iI np) ∧ RTa o1 o16 ∧ RRe o2 o16 ∧ RSh np r12 o12 ∧ zPM q0 (r3 0) h14 h15 ∧ ∃ (t tm t' tm' : Nat) (lk : Ob), t' ≤ t ∧ tm' ≤ tm ∧ MR np o3 o4 o13 (gA o0 6) (gB o0 7) o7 (gA o16 1) (gB o16 3) t tm ∧ zKL (r5 0) (r3 0) h14 h15 o13 o14 o15 lk ∧ MR np o5 o6 lk (gA o0 6) (gB o0 7) o7 (gA o16 2) (gB o16 4) t' tm'
/-- the model's rows that matter, kept -/
def zMJ (m u : Ob) : Prop := (gI u 0 = gI m 0 ∧ gI u 7 = gI m 7 ∧ gI u 8 = gI m 8 ∧ gI u 9 = gI m 9) ∧ gA u 2 = gA m 2 ∧ gA u 6 = gA m 6 ∧ gB u 4 = gB m 4
def zMI (m u : Ob) : Prop := zMJ m u ∧ gA u 1 = gA m 1 ∧ gB u 3 = gB m 3
theorem RTa.cg {ta m u : Ob} (h : RTa ta m) (e7 : gI u 7 = gI m 7) (e6 : gA u 6 = gA m 6) : RTa ta u := by
  obtain ⟨n, h1, h2, h3, h4⟩ := h
  exact ⟨n, h1, h2, e7.trans h3, by rw [e6]; exact h4⟩
theorem RRe.cg {re m u : Ob} (h : RRe re m) (e8 : gI u 8 = gI m 8) (e9 : gI u 9 = gI m 9) : RRe re u := by
  unfold RRe
  rw [e8, e9]
  exact h
theorem mdS.I {m u : Ob} (h : mdS m u) : zMI m u := ⟨⟨⟨h.1 0 (by decide), h.1 7 (by decide), h.1 8 (by decide), h.1 9 (by decide)⟩, h.2.2.1 2 (by decide) (by decide), h.2.2.1 6 (by decide) (by decide), by rw [h.2.2.2]⟩, h.2.2.1 1 (by decide) (by decide), by rw [h.2.2.2]⟩
theorem mdM.I {m u : Ob} (h : mdM m u) : zMI m u := ⟨⟨⟨h.1 0 (by decide), h.1 7 (by decide), h.1 8 (by decide), h.1 9 (by decide)⟩, h.2.2.1 2 (by omega), h.2.2.1 6 (by omega), by rw [h.2.2.2]⟩, h.2.2.1 1 (by omega), by rw [h.2.2.2]⟩
theorem mdR.I {m u : Ob} (h : mdR m u) : zMI m u := ⟨⟨⟨h.1 0 (by omega), h.1 7 (by omega), h.1 8 (by omega), h.1 9 (by omega)⟩, h.2.2.1 2 (by omega), h.2.2.1 6 (by omega), by rw [h.2.2.2]⟩, h.2.2.1 1 (by omega), by rw [h.2.2.2]⟩
theorem mdV.J {m u : Ob} (h : mdV m u) : zMJ m u := ⟨⟨h.1 0 (by omega), h.1 7 (by omega), h.1 8 (by omega), h.1 9 (by omega)⟩, h.2.1, h.2.2.1, h.2.2.2⟩
section ZS
variable {np : Nat} {q0 : Nat → Nat} {h14 h15 : Nat} {o0 o1 o2 : Ob} {r3 : Nat → Nat} {o3 o4 : Ob} {r5 : Nat → Nat} {o5 o6 o7 o9 : Ob} {r12 : Nat → Nat} {o12 o13 o14 o15 o16 m' : Ob}
theorem zIV.md (h : zIV np q0 h14 h15 o0 o1 o2 r3 o3 o4 r5 o5 o6 o7 o9 r12 o12 o13 o14 o15 o16) (g : zMI o16 m') : zIV np q0 h14 h15 o0 o1 o2 r3 o3 o4 r5 o5 o6 o7 o9 r12 o12 o13 o14 o15 m' := by
  obtain ⟨⟨i0, i2, i9, im⟩, iTa, iRe, iSh, iP, t, tm, t', tm', lk, ht, htm, hM, hKL, hM'⟩ := h
  obtain ⟨⟨⟨g0, g7, g8, g9⟩, gA2, gA6, gB4⟩, gA1, gB3⟩ := g
  exact ⟨⟨i0, i2, i9, g0.trans im⟩, iTa.cg g7 gA6, iRe.cg g8 g9, iSh, iP, t, tm, t', tm', lk, ht, htm, by rw [gA1, gB3]; exact hM, hKL, by rw [gA2, gB4]; exact hM'⟩
theorem zIV.sh {r12' : Nat → Nat} {o12' : Ob} (h : zIV np q0 h14 h15 o0 o1 o2 r3 o3 o4 r5 o5 o6 o7 o9 r12 o12 o13 o14 o15 o16) (g : RSh np r12' o12') : zIV np q0 h14 h15 o0 o1 o2 r3 o3 o4 r5 o5 o6 o7 o9 r12' o12' o13 o14 o15 o16 := by
  obtain ⟨i0, iTa, iRe, -, iP, hx⟩ := h
  exact ⟨i0, iTa, iRe, g, iP, hx⟩
theorem zIV.a13 (h : zIV np q0 h14 h15 o0 o1 o2 r3 o3 o4 r5 o5 o6 o7 o9 r12 o12 o13 o14 o15 o16) (f : Nat → Int32) : zIV np q0 h14 h15 (sA o0 13 f) o1 o2 r3 o3 o4 r5 o5 o6 o7 o9 r12 o12 o13 o14 o15 o16 := h
theorem zIV.m38 (h : zIV np q0 h14 h15 o0 o1 o2 r3 o3 o4 r5 o5 o6 o7 o9 r12 o12 o13 o14 o15 o16) (f : Nat → Int32) : zIV np q0 h14 h15 o0 o1 o2 r3 o3 o4 r5 o5 o6 o7 o9 r12 o12 o13 o14 o15 (sA o16 38 f) := h.md ⟨⟨⟨rfl, rfl, rfl, rfl⟩, rfl, rfl, rfl⟩, rfl, rfl⟩
theorem zIV.ta {u : Ob} (h : zIV np q0 h14 h15 o0 o1 o2 r3 o3 o4 r5 o5 o6 o7 o9 r12 o12 o13 o14 o15 o16) (hT : RTa u m') (g1 : ∀ k, k ≠ 7 → gI m' k = gI o16 k) (g2 : ∀ k, k ≠ 6 → gA m' k = gA o16 k) (g3 : gB m' = gB o16) : zIV np q0 h14 h15 o0 u o2 r3 o3 o4 r5 o5 o6 o7 o9 r12 o12 o13 o14 o15 m' := by
  obtain ⟨⟨i0, i2, i9, im⟩, iTa, iRe, iSh, iP, t, tm, t', tm', lk, ht, htm, hM, hKL, hM'⟩ := h
  exact ⟨⟨i0, i2, i9, (g1 0 (by decide)).trans im⟩, hT, iRe.cg (g1 8 (by decide)) (g1 9 (by decide)), iSh, iP, t, tm, t', tm', lk, ht, htm, by rw [g2 1 (by decide), g3]; exact hM, hKL, by rw [g2 2 (by decide), g3]; exact hM'⟩
/-- the moment that is now, and the model's row of it, changed -/
theorem zIV.now {u3 u4 : Ob} {f : Nat → Int32} (h : zIV np q0 h14 h15 o0 o1 o2 r3 o3 o4 r5 o5 o6 o7 o9 r12 o12 o13 o14 o15 o16) (hM : ∀ t tm, MR np o3 o4 o13 (gA o0 6) (gB o0 7) o7 (gA o16 1) (gB o16 3) t tm → MR np u3 u4 o13 (gA o0 6) (gB o0 7) o7 f (gB o16 3) t tm) : zIV np q0 h14 h15 o0 o1 o2 r3 u3 u4 r5 o5 o6 o7 o9 r12 o12 o13 o14 o15 (sA o16 1 f) := by
  obtain ⟨i0, iTa, iRe, iSh, iP, t, tm, t', tm', lk, ht, htm, hM1, hKL, hM'⟩ := h
  exact ⟨i0, iTa, iRe, iSh, iP, t, tm, t', tm', lk, ht, htm, hM t tm hM1, hKL, hM'⟩
end ZS
-- the rows that only grow
theorem MR.rows {np t tm : Nat} {mo fo la he he' : Ob} {ld ld' : Nat → Int32} {sn sn' : Nat → Int64} {A : Nat → Int32} {W : Nat → Int64} (hn : np ≤ 5) (h : MR np mo fo la ld sn he A W t tm) (e1 : ∀ i, i < 5 * t → ld' i = ld i) (e2 : ∀ i, i < 10 * t → sn' i = sn i) (e3 : ∀ k i, i < tm → k < 3 → gA he' k i = gA he k i) : MR np mo fo la ld' sn' he' A W t tm := by
  obtain ⟨h1, h2, h3, h4, h5, h6, h7, h8, h9, h10, h11⟩ := h
  exact ⟨h1, h2, h3, h4, h5, h6, h7, h8, h9.cg h1.2.2 hn e1 (fun _ _ _ => rfl), h10.cg e2 (fun _ _ _ => rfl), h11.cg h3.2.2.1 (fun i hi => e3 0 i hi (by omega)) (fun i hi => e3 1 i hi (by omega)) (fun i hi => e3 2 i hi (by omega)) (fun _ _ _ => rfl)⟩
section ZM
variable {np t tm : Nat} {mo fo la he : Ob} {ld : Nat → Int32} {sn : Nat → Int64} {A : Nat → Int32} {W : Nat → Int64}
theorem MR.say {s w : Nat} (hn : np ≤ 5) (hs : s < 20) (hw : w < 8) (e2 : gI mo 2 = iI s) (h : MR np mo fo la ld sn he A W t tm) : MR np (sA (sA (sI mo 2 (iI ((s + 1 : Nat) : Int))) 3 (upd (gA mo 3) s (iI w))) 4 (upd (gA mo 4) s (iI t))) fo la ld sn he (upd (upd (upd A (40 + 2 * s) (iI w)) (41 + 2 * s) (iI t)) 3 (iI ((s + 1 : Nat) : Int))) W t tm := by
  obtain ⟨h1, h2, h3, h4, h5, h6, h7, h8, h9, h10, h11⟩ := h
  have ho : ∀ i, i ≠ 3 → i ≠ 40 + 2 * s → i ≠ 41 + 2 * s → upd (upd (upd A (40 + 2 * s) (iI w)) (41 + 2 * s) (iI t)) 3 (iI ((s + 1 : Nat) : Int)) i = A i := fun i a b c => by rw [upd_ne _ _ _ _ a, upd_ne _ _ _ _ c, upd_ne _ _ _ _ b]
  obtain ⟨s', s1, s2, s3, s4⟩ := h2
  have es : s' = s := by
    rw [s1] at e2
    have := (iI_eq (by omega) (by omega)).mp e2
    omega
  subst es
  refine ⟨h1.cg rfl (ho 0 (by omega) (by omega) (by omega)), ⟨s' + 1, rfl, upd_same _ _ _, by omega, fun i hi => ?_⟩, h3.cg rfl rfl (ho 1 (by omega) (by omega) (by omega)) (ho 2 (by omega) (by omega) (by omega)), h4.cg (fun _ _ => rfl) (fun i _ _ => ho i (by omega) (by omega) (by omega)), h5.cg (fun _ _ => rfl) (fun i _ _ => ho i (by omega) (by omega) (by omega)), h6, h7.cg (fun _ _ => rfl) (fun i _ _ => ho i (by omega) (by omega) (by omega)), h8.cg (fun i _ _ => ho i (by omega) (by omega) (by omega)), h9.cg h1.2.2 hn (fun _ _ => rfl) (fun i _ _ => ho i (by omega) (by omega) (by omega)), h10, h11.cg h3.2.2.1 (fun _ _ => rfl) (fun _ _ => rfl) (fun _ _ => rfl) (fun i _ _ => ho i (by omega) (by omega) (by omega))⟩
  by_cases e : i = s'
  · subst e
    refine ⟨w, t, hw, Nat.le_refl _, upd_same _ _ _, upd_same _ _ _, ?_, ?_⟩
    · rw [upd_ne _ _ _ _ (by omega), upd_ne _ _ _ _ (by omega), upd_same]
    · rw [upd_ne _ _ _ _ (by omega), upd_same]
  · obtain ⟨w', k', a1, a2, a3, a4, a5, a6⟩ := s4 i (by omega)
    refine ⟨w', k', a1, a2, ?_, ?_, (ho _ (by omega) (by omega) (by omega)).trans a5, (ho _ (by omega) (by omega) (by omega)).trans a6⟩
    · show upd (gA mo 3) s' (iI w) i = _
      rw [upd_ne _ _ _ _ e]; exact a3
    · show upd (gA mo 4) s' (iI t) i = _
      rw [upd_ne _ _ _ _ e]; exact a4
theorem MR.folds {x y w : Nat} (hn : np ≤ 5) (hx : x ≤ 40) (hy : 1 ≤ y ∧ y ≤ 20) (hw : 1 ≤ w ∧ w ≤ 20) (h : MR np mo fo la ld sn he A W t tm) : MR np mo (sI (sI (sI fo 2 (iI x)) 3 (iI y)) 4 (iI w)) la ld sn he (upd (upd (upd A 4 (iI x)) 5 (iI y)) 6 (iI w)) W t tm := by
  obtain ⟨h1, h2, h3, h4, h5, h6, ⟨⟨f0, f1, f2, f3, f4, f5, f6⟩, g7, g8, g4, g5, g6⟩, h8, h9, h10, h11⟩ := h
  have ho : ∀ i, i ≠ 4 → i ≠ 5 → i ≠ 6 → upd (upd (upd A 4 (iI x)) 5 (iI y)) 6 (iI w) i = A i := fun i a b c => by rw [upd_ne _ _ _ _ c, upd_ne _ _ _ _ b, upd_ne _ _ _ _ a]
  have e4 : upd (upd (upd A 4 (iI x)) 5 (iI y)) 6 (iI w) 4 = iI x := by rw [upd_ne _ _ _ _ (by decide), upd_ne _ _ _ _ (by decide), upd_same]
  have e5 : upd (upd (upd A 4 (iI x)) 5 (iI y)) 6 (iI w) 5 = iI y := by rw [upd_ne _ _ _ _ (by decide), upd_same]
  have e6 : upd (upd (upd A 4 (iI x)) 5 (iI y)) 6 (iI w) 6 = iI w := upd_same _ _ _
  refine ⟨h1.cg rfl (ho 0 (by omega) (by omega) (by omega)), h2.cg rfl (fun _ _ => rfl) (fun _ _ => rfl) (ho 3 (by omega) (by omega) (by omega)) (fun i _ _ => ho i (by omega) (by omega) (by omega)), h3.cg rfl rfl (ho 1 (by omega) (by omega) (by omega)) (ho 2 (by omega) (by omega) (by omega)), h4.cg (fun _ _ => rfl) (fun i _ _ => ho i (by omega) (by omega) (by omega)), h5.cg (fun _ _ => rfl) (fun i _ _ => ho i (by omega) (by omega) (by omega)), h6, ?_, h8.cg (fun i _ _ => ho i (by omega) (by omega) (by omega)), h9.cg h1.2.2 hn (fun _ _ => rfl) (fun i _ _ => ho i (by omega) (by omega) (by omega)), h10, h11.cg h3.2.2.1 (fun _ _ => rfl) (fun _ _ => rfl) (fun _ _ => rfl) (fun i _ _ => ho i (by omega) (by omega) (by omega))⟩
  unfold RFo
  rw [e4, e5, e6, ho 7 (by decide) (by decide) (by decide), ho 8 (by decide) (by decide) (by decide), ho 9 (by decide) (by decide) (by decide), ho 10 (by decide) (by decide) (by decide)]
  exact ⟨⟨f0, f1, rfl, rfl, rfl, f5, f6⟩, g7, g8, ⟨x, hx, rfl⟩, ⟨y, hy.1, hy.2, rfl⟩, w, hw.1, hw.2, rfl⟩
theorem MR.look {lk : Nat} (hn : np ≤ 5) (hl : lk ≤ tm) (h : MR np mo fo la ld sn he A W t tm) : MR np (sI mo 12 (iI lk)) fo la ld sn he (upd A 2 (iI lk)) W t tm := by
  obtain ⟨h1, h2, h3, h4, h5, h6, h7, h8, h9, h10, h11⟩ := h
  have ho : ∀ i, i ≠ 2 → upd A 2 (iI lk) i = A i := fun i a => upd_ne _ _ _ _ a
  obtain ⟨t1, t2, t3, -⟩ := h3
  exact ⟨h1.cg rfl (ho 0 (by omega)), h2.cg rfl (fun _ _ => rfl) (fun _ _ => rfl) (ho 3 (by omega)) (fun i _ _ => ho i (by omega)), ⟨t1, (ho 1 (by omega)).trans t2, t3, lk, rfl, upd_same _ _ _, hl⟩, h4.cg (fun _ _ => rfl) (fun i _ _ => ho i (by omega)), h5.cg (fun _ _ => rfl) (fun i _ _ => ho i (by omega)), h6, h7.cg (fun _ _ => rfl) (fun i _ _ => ho i (by omega)), h8.cg (fun i _ _ => ho i (by omega)), h9.cg h1.2.2 hn (fun _ _ => rfl) (fun i _ _ => ho i (by omega)), h10, h11.cg t3 (fun _ _ => rfl) (fun _ _ => rfl) (fun _ _ => rfl) (fun i _ _ => ho i (by omega))⟩
theorem MR.grid {j : Nat} {v : Int32} (hn : np ≤ 5) (hj : j < np) (hv : okG v) (h : MR np mo fo la ld sn he A W t tm) : MR np (sA mo 10 (upd (gA mo 10) j v)) fo la ld sn he (upd A (30 + j) v) W t tm := by
  obtain ⟨h1, h2, h3, h4, h5, h6, h7, h8, h9, h10, h11⟩ := h
  have ho : ∀ i, i ≠ 30 + j → upd A (30 + j) v i = A i := fun i a => upd_ne _ _ _ _ a
  refine ⟨h1.cg rfl (ho 0 (by omega)), h2.cg rfl (fun _ _ => rfl) (fun _ _ => rfl) (ho 3 (by omega)) (fun i _ _ => ho i (by omega)), h3.cg rfl rfl (ho 1 (by omega)) (ho 2 (by omega)), h4.cg (fun _ _ => rfl) (fun i _ _ => ho i (by omega)), fun i hi => ?_, h6, h7.cg (fun _ _ => rfl) (fun i _ _ => ho i (by omega)), h8.cg (fun i _ _ => ho i (by omega)), h9.cg h1.2.2 hn (fun _ _ => rfl) (fun i _ _ => ho i (by omega)), h10, h11.cg h3.2.2.1 (fun _ _ => rfl) (fun _ _ => rfl) (fun _ _ => rfl) (fun i _ _ => ho i (by omega))⟩
  show okG _ ∧ upd (gA mo 10) j v i = _
  by_cases e : i = j
  · subst e
    rw [upd_same, upd_same]
    exact ⟨hv, rfl⟩
  · rw [ho _ (by omega), upd_ne _ _ _ _ e]; exact h5 i hi
theorem MR.hear {sd tn : Nat} {f g : Int} (hn : np ≤ 5) (hsd : sd < 8) (htn : tn < 5) (hf : -20 ≤ f) (hfg : f ≤ g) (hg : g ≤ 19) (htm : tm < 100) (h : MR np mo fo la ld sn he A W t tm) : MR np (sI (sI mo 11 (iI ((tm + 1 : Nat) : Int))) 12 (iI ((tm + 1 : Nat) : Int))) fo la ld sn (sA (sA (sA he 0 (upd (gA he 0) tm (iI (5 * sd + tn)))) 1 (upd (gA he 1) tm (iI f))) 2 (upd (gA he 2) tm (iI g))) (upd (upd (A4 A (100 + 4 * tm) (iI sd) (iI tn) (iI f) (iI g)) 1 (iI ((tm + 1 : Nat) : Int))) 2 (iI ((tm + 1 : Nat) : Int))) W t (tm + 1) := by
  obtain ⟨h1, h2, h3, h4, h5, h6, h7, h8, h9, h10, h11⟩ := h
  have ho : ∀ i, i ≠ 1 → i ≠ 2 → (i < 100 + 4 * tm ∨ 103 + 4 * tm < i) → upd (upd (A4 A (100 + 4 * tm) (iI sd) (iI tn) (iI f) (iI g)) 1 (iI ((tm + 1 : Nat) : Int))) 2 (iI ((tm + 1 : Nat) : Int)) i = A i := fun i a b c => by
    unfold A4
    rw [upd_ne _ _ _ _ b, upd_ne _ _ _ _ a, upd_ne _ _ _ _ (by omega), upd_ne _ _ _ _ (by omega), upd_ne _ _ _ _ (by omega), upd_ne _ _ _ _ (by omega)]
  obtain ⟨t1, t2, t3, -⟩ := h3
  refine ⟨h1.cg rfl (ho 0 (by omega) (by omega) (by omega)), h2.cg rfl (fun _ _ => rfl) (fun _ _ => rfl) (ho 3 (by omega) (by omega) (by omega)) (fun i _ _ => ho i (by omega) (by omega) (by omega)), ⟨rfl, ?_, by omega, tm + 1, rfl, upd_same _ _ _, Nat.le_refl _⟩, h4.cg (fun _ _ => rfl) (fun i _ _ => ho i (by omega) (by omega) (by omega)), h5.cg (fun _ _ => rfl) (fun i _ _ => ho i (by omega) (by omega) (by omega)), h6, h7.cg (fun _ _ => rfl) (fun i _ _ => ho i (by omega) (by omega) (by omega)), h8.cg (fun i _ _ => ho i (by omega) (by omega) (by omega)), h9.cg h1.2.2 hn (fun _ _ => rfl) (fun i _ _ => ho i (by omega) (by omega) (by omega)), h10, fun i hi => ?_⟩
  · rw [upd_ne _ _ _ _ (by decide), upd_same]
  · by_cases e : i = tm
    · subst e
      refine ⟨sd, tn, f, g, hsd, htn, hf, hfg, hg, ?_, ?_, ?_, ?_, upd_same _ _ _, upd_same _ _ _, upd_same _ _ _⟩
      · unfold A4
        rw [upd_ne _ _ _ _ (by omega), upd_ne _ _ _ _ (by omega), upd_ne _ _ _ _ (by omega), upd_ne _ _ _ _ (by omega), upd_ne _ _ _ _ (by omega), upd_same]
      · unfold A4
        rw [upd_ne _ _ _ _ (by omega), upd_ne _ _ _ _ (by omega), upd_ne _ _ _ _ (by omega), upd_ne _ _ _ _ (by omega), show 101 + 4 * i = 100 + 4 * i + 1 by omega, upd_same]
      · unfold A4
        rw [upd_ne _ _ _ _ (by omega), upd_ne _ _ _ _ (by omega), upd_ne _ _ _ _ (by omega), show 102 + 4 * i = 100 + 4 * i + 2 by omega, upd_same]
      · unfold A4
        rw [upd_ne _ _ _ _ (by omega), upd_ne _ _ _ _ (by omega), show 103 + 4 * i = 100 + 4 * i + 3 by omega, upd_same]
    · obtain ⟨sd', tn', f', g', a1, a2, a3, a4, a5, a6, a7, a8, a9, b1, b2, b3⟩ := h11 i (by omega)
      refine ⟨sd', tn', f', g', a1, a2, a3, a4, a5, (ho _ (by omega) (by omega) (by omega)).trans a6, (ho _ (by omega) (by omega) (by omega)).trans a7, (ho _ (by omega) (by omega) (by omega)).trans a8, (ho _ (by omega) (by omega) (by omega)).trans a9, ?_, ?_, ?_⟩
      · show upd (gA he 0) tm _ i = _
        rw [upd_ne _ _ _ _ e]; exact b1
      · show upd (gA he 1) tm _ i = _
        rw [upd_ne _ _ _ _ e]; exact b2
      · show upd (gA he 2) tm _ i = _
        rw [upd_ne _ _ _ _ e]; exact b3
/-- after a text that has no fault -/
theorem MR.text {la' : Ob} {A' : Nat → Int32} (hn : np ≤ 5) (h : MR np mo fo la ld sn he A W t tm) (hL : RLa np la' A') (h3 : A' 3 = 0) (ho : ∀ x, x ≠ 3 → (x < 5600 ∨ 5900 ≤ x) → A' x = A x) : MR np (sI mo 2 (0 : Int32)) fo la' ld sn he A' W t tm := by
  obtain ⟨h1, h2, h3', h4, h5, h6, h7, h8, h9, h10, h11⟩ := h
  have ht := h1.2.2
  have htm := h3'.2.2.1
  exact ⟨h1.cg rfl (ho 0 (by omega) (by omega)), ⟨0, rfl, h3, by omega, fun i hi => by omega⟩, h3'.cg rfl rfl (ho 1 (by omega) (by omega)) (ho 2 (by omega) (by omega)), h4.cg (fun _ _ => rfl) (fun i _ _ => ho i (by omega) (by omega)), h5.cg (fun _ _ => rfl) (fun i _ _ => ho i (by omega) (by omega)), h6, h7.cg (fun _ _ => rfl) (fun i _ _ => ho i (by omega) (by omega)), hL, h9.cg ht hn (fun _ _ => rfl) (fun i _ _ => ho i (by omega) (by omega)), h10, h11.cg htm (fun _ _ => rfl) (fun _ _ => rfl) (fun _ _ => rfl) (fun i _ _ => ho i (by omega) (by omega))⟩
end ZM
