-- whole ticks
def MT (np : Nat) (mo fo la : Ob) (ld : Nat → Int32) (sn : Nat → Int64) (he : Ob) (A : Nat → Int32) (W : Nat → Int64) (t tm tl ns : Nat) : Prop :=
  RCl mo A t ∧ RSa mo A t ∧ RTi mo A tm ∧ RWi mo A ∧ RGr mo A ∧ RWa np mo W ∧ RFo fo A ∧ RLa np la A ∧ RLd np ld A tl ∧ (∀ k : Nat, k < ns → sn k = W (16 + k)) ∧ RHe he A tm
def PL (t p : Nat) (ld : Nat → Int32) (A : Nat → Int32) : Prop := ∀ i : Nat, i < p → ∃ w a s j c : Int, (-1 ≤ w ∧ w ≤ 60) ∧ (-1 ≤ a ∧ a ≤ 60) ∧ (-1 ≤ s ∧ s ≤ 60) ∧ (-1 ≤ j ∧ j ≤ 60) ∧ (-1 ≤ c ∧ c ≤ 60) ∧ ld (5 * t + i) = iI (pk5 w a s j c) ∧ A (520 + 25 * t + 5 * i) = iI w ∧ A (521 + 25 * t + 5 * i) = iI a ∧ A (522 + 25 * t + 5 * i) = iI s ∧ A (523 + 25 * t + 5 * i) = iI j ∧ A (524 + 25 * t + 5 * i) = iI c
def pvF (t : Nat) (o0 o0' : Ob) : Prop := gI o0' 0 = gI o0 0 ∧ (∀ i, i < 5 * t → gA o0' 6 i = gA o0 6 i) ∧ (∀ i, i < 10 * t → gB o0' 7 i = gB o0 7 i)
theorem pvF.rf (t : Nat) (o : Ob) : pvF t o o := ⟨rfl, fun _ _ => rfl, fun _ _ => rfl⟩
theorem pvF.tr {t t' : Nat} {a b c : Ob} (h : pvF t a b) (g : pvF t' b c) (ht : t ≤ t') : pvF t a c := ⟨g.1.trans h.1, fun i hi => (g.2.1 i (by omega)).trans (h.2.1 i hi), fun i hi => (g.2.2 i (by omega)).trans (h.2.2 i hi)⟩
theorem clampW_bd {x a sp : Int} (hx : 1 ≤ x ∧ x ≤ 12) (ha : 1 ≤ a ∧ a ≤ 12) (hs : 1 ≤ sp) : 1 ≤ clampW x a sp ∧ clampW x a sp ≤ 12 := by unfold clampW; omega
section TI
variable {np t tm : Nat} {fo la he pi : Ob} {r1 : Nat → Nat}
theorem tick_pieces (hnp : np ≤ 5) (ht : t < 200) : ∀ (f p : Nat) (o0 mo le m : Ob), f + p = np → gI o0 0 = iI np → gI m 0 = iI np → MT np mo fo la (gA o0 6) (gB o0 7) he (gA m 1) (gB m 3) t tm t (10 * t) → PL t p (gA o0 6) (gA m 1) →
    ∃ o0' mo' le' m', pvF t o0 o0' ∧ gB o0' = gB o0 ∧ MT np mo' fo la (gA o0' 6) (gB o0' 7) he (gA m' 1) (gB m' 3) t tm t (10 * t) ∧ PL t np (gA o0' 6) (gA m' 1) ∧ mdV m m' ∧
      (∀ Q : Ob → Ob → Ob → Ob → Ob → Prop, (∃ w, f_PV_passTick_114 r1 la Q w (0 : Int32) o0' mo' fo le' pi) → f_PV_passTick_2 r1 la Q (f + 1) (iI p) o0 mo fo le pi) ∧ (∀ (k28 : Int32 → Int32 → Ob → Prop) (Q : Int32 → Ob → Prop) (x1 x2 : Int32), (∃ w, f_Md_ticks_75 k28 Q w x1 x2 (0 : Int32) (sI m' 30 (iI ((10 * t : Nat) : Int)))) → f_Md_ticks_35 k28 Q (f + 1) x1 x2 (iI p) m) := by
  intro f
  induction f with
  | zero =>
    intro p o0 mo le m hf h0 hm hMT hPL
    have : p = np := by omega
    subst this
    refine ⟨o0, mo, le, m, pvF.rf _ _, rfl, hMT, hPL, mdV.rf m, fun Q h => ?_, fun k28 Q x1 x2 h => ?_⟩
    · unfold f_PV_passTick_2
      rw [h0]
      exact k_t (Int32.le_refl _) h
    · unfold f_Md_ticks_35
      have e : (10 : Int32) * iI (t : Int) = iI ((10 * t : Nat) : Int) := by rw [show (10 : Int32) = iI 10 from rfl, iI_mul]; congr 1
      rw [hm, hMT.1.2.1, e]
      exact k_t (Int32.le_refl _) h
  | succ f ih =>
    intro p o0 mo le m hf h0 hm hMT hPL
    obtain ⟨hC, hS, hT, hW, hG, hWa, hF, hL, hLd, hSn, hH⟩ := hMT
    have hC' := hC
    obtain ⟨c1, c2, c3⟩ := hC
    obtain ⟨⟨x, x1, x2, ex⟩, fx⟩ := hW p (by omega)
    obtain ⟨le', m', aim, sp, sd, it, cl, b1, b2, b3, b4, b5, g0, g1, g2, g3, g4, hA', hV, hB, rc, rm⟩ := lead_sim (le := le) (r1 := r1) (x := x) hnp (show p < np by omega) ht hC' hS hL (by omega) ex
    have wb := clampW_bd (x := x) (a := aim) (sp := sp) (by omega) b1 b2.1
    generalize hwn : clampW x aim sp = wn at hA' wb
    have hne : ∀ i, i ≠ 20 + p → (i < 520 + 25 * t + 5 * p ∨ 520 + 25 * t + 5 * p + 4 < i) → gA m' 1 i = gA m 1 i := fun i i1 i2 => by
      rw [hA', A5_ne _ _ _ _ _ _ _ i (by omega), upd_ne _ _ _ _ i1]
    have hw' : gA m' 1 (20 + p) = iI wn := by rw [hA', A5_ne _ _ _ _ _ _ _ _ (by omega), upd_same]
    obtain ⟨o0', eo0⟩ : ∃ o, o = sA o0 6 (upd (gA o0 6) (5 * t + p) (iI (pk5 wn aim sd it cl))) := ⟨_, rfl⟩
    obtain ⟨mo', emo⟩ : ∃ o, o = sA mo 5 (upd (gA mo 5) p (iI wn)) := ⟨_, rfl⟩
    have l6 : gA o0' 6 = upd (gA o0 6) (5 * t + p) (iI (pk5 wn aim sd it cl)) := by rw [eo0]; rfl
    have hMT' : MT np mo' fo la (gA o0' 6) (gB o0' 7) he (gA m' 1) (gB m' 3) t tm t (10 * t) := by
      refine ⟨hC'.cg (by rw [emo]; rfl) (hne _ (by omega) (by omega)), hS.cg (by rw [emo]; rfl) (fun i _ => by rw [emo]; rfl) (fun i _ => by rw [emo]; rfl) (hne _ (by omega) (by omega)) (fun i i1 i2 => hne _ (by omega) (by omega)), hT.cg (by rw [emo]; rfl) (by rw [emo]; rfl) (hne _ (by omega) (by omega)) (hne _ (by omega) (by omega)), fun i hi => ?_, hG.cg (fun i _ => by rw [emo]; rfl) (fun i i1 i2 => hne _ (by omega) (by omega)), ?_, hF.cg (fun _ _ => rfl) (fun i i1 i2 => hne _ (by omega) (by omega)), hL.cg (fun i i1 i2 => hne _ (by omega) (by omega)), hLd.cg (by omega) hnp (fun i hi => by rw [l6, upd_ne _ _ _ _ (by omega)]) (fun i i1 i2 => hne _ (by omega) (by omega)), fun k hk => ?_, hH.cg hT.2.2.1 (fun _ _ => rfl) (fun _ _ => rfl) (fun _ _ => rfl) (fun i i1 i2 => hne _ (by have := hT.2.2.1; omega) (by have := hT.2.2.1; omega))⟩
      · by_cases hip : i = p
        · subst hip
          rw [hw', emo]
          exact ⟨⟨wn.toNat, by omega, by omega, by congr 1; omega⟩, by show upd _ _ _ _ = _; rw [upd_same]⟩
        · rw [hne _ (by omega) (by omega), emo]
          refine ⟨(hW i hi).1, ?_⟩
          show upd (gA mo 5) p (iI wn) i = _
          rw [upd_ne _ _ _ _ hip]; exact (hW i hi).2
      · rw [hB, emo]; exact hWa
      · rw [hB, eo0]; exact hSn k hk
    have hPL' : PL t (p + 1) (gA o0' 6) (gA m' 1) := by
      intro i hi
      by_cases hip : i = p
      · subst hip
        refine ⟨wn, aim, sd, it, cl, by omega, by omega, by omega, by omega, by omega, by rw [l6, upd_same], ?_, ?_, ?_, ?_, ?_⟩
        · rw [hA', A5_0]
        · rw [hA', show 521 + 25 * t + 5 * i = 520 + 25 * t + 5 * i + 1 by omega, A5_1]
        · rw [hA', show 522 + 25 * t + 5 * i = 520 + 25 * t + 5 * i + 2 by omega, A5_2]
        · rw [hA', show 523 + 25 * t + 5 * i = 520 + 25 * t + 5 * i + 3 by omega, A5_3]
        · rw [hA', show 524 + 25 * t + 5 * i = 520 + 25 * t + 5 * i + 4 by omega, A5_4]
      · rw [l6, upd_ne _ _ _ _ (by omega), hne _ (by omega) (by omega), hne _ (by omega) (by omega), hne _ (by omega) (by omega), hne _ (by omega) (by omega), hne _ (by omega) (by omega)]
        exact hPL i (by omega)
    obtain ⟨o2, mo2, le2, m2, q1, q2, q3, q4, q5, rc2, rm2⟩ := ih (p + 1) o0' mo' le' m' (by omega) (by rw [eo0]; exact h0) (by rw [hV.1 0 (by omega)]; exact hm) hMT' hPL'
    have en : iI (p : Int) + (1 : Int32) = iI ((p + 1 : Nat) : Int) := ix_add p 1
    refine ⟨o2, mo2, le2, m2, ?_, ?_, q3, q4, hV.tr q5, fun Q h => ?_, fun k28 Q x1' x2' h => ?_⟩
    · refine pvF.tr (t' := t) ⟨by rw [eo0]; rfl, fun i hi => by rw [l6, upd_ne _ _ _ _ (by omega)], fun i hi => by rw [eo0]; rfl⟩ q1 (Nat.le_refl _)
    · rw [q2, eo0]; rfl
    · unfold f_PV_passTick_2
      have e5 : iI (t : Int) * (5 : Int32) + iI (p : Int) = iI ((5 * t + p : Nat) : Int) := by
        rw [show (5 : Int32) = iI 5 from rfl, iI_mul, iI_add]; congr 1; omega
      rw [h0, en, c1, e5, cl_nat (by omega), cl_nat (by omega), fx, ex]
      refine b_le (fun q => by omega) (fun _ => rc _ ⟨v_nat (by omega) (by decide), v_nat (by omega) (by decide), ?_⟩)
      rw [g0, g1]
      refine k_n (k_n ?_)
      rw [iI_clamp (by omega) (by omega) (by omega), hwn]
      refine ⟨v_nat (by omega) (by decide), v_nat (by omega) (by decide), k_e (v := iI wn) (upd_same _ _ _) ?_⟩
      refine le_packed (w := wn) (a := aim) (s := sd) (i := it) (c := cl) (by omega) (by omega) (by omega) (by omega) (by omega) g0 g2 g3 g4 ⟨v_nat (by omega) (by decide), ?_⟩
      rw [← eo0, ← emo]
      exact rc2 Q h
    · unfold f_Md_ticks_35
      rw [hm, c2, en]
      exact b_le (fun q => by omega) (fun _ => rm _ (rm2 k28 Q x1' x2' h))
theorem tick_steps {le : Ob} (hnp : np ≤ 5) (hnp2 : 2 ≤ np) (ht : t < 200) : ∀ (f s : Nat) (o0 mo fo pi m : Ob), f + s = 10 → gI pi 0 = iI np → gI m 0 = iI np → gI m 30 = iI ((10 * t + s : Nat) : Int) → MT np mo fo la (gA o0 6) (gB o0 7) he (gA m 1) (gB m 3) t tm (t + 1) (10 * t + s) →
    ∃ o0' mo' fo' pi' m', pvF t o0 o0' ∧ gI pi' 0 = iI np ∧ MT np mo' fo' la (gA o0' 6) (gB o0' 7) he (gA m' 1) (gB m' 3) t tm (t + 1) (10 * t + 10) ∧ mdV m m' ∧
      (∀ Q : Ob → Ob → Ob → Ob → Ob → Prop, Q o0' (sI mo' 1 (iI ((t + 1 : Nat) : Int))) fo' le pi' → f_PV_passTick_114 r1 la Q (f + 1) (iI s) o0 mo fo le pi) ∧ (∀ (k28 : Int32 → Int32 → Ob → Prop) (Q : Int32 → Ob → Prop) (x1 x2 : Int32), k28 x1 (x2 + (1 : Int32)) (sA m' 1 (upd (gA m' 1) 0 (iI ((t + 1 : Nat) : Int)))) → f_Md_ticks_75 k28 Q (f + 1) x1 x2 (iI s) m) := by
  intro f
  have et : iI (t : Int) + (1 : Int32) = iI ((t + 1 : Nat) : Int) := ix_add t 1
  induction f with
  | zero =>
    intro s o0 mo fo pi m hf hpi hm h30 hMT
    have : s = 10 := by omega
    subst this
    refine ⟨o0, mo, fo, pi, m, pvF.rf _ _, hpi, hMT, mdV.rf m, fun Q h => ?_, fun k28 Q x1 x2 h => ?_⟩
    · unfold f_PV_passTick_114
      rw [hMT.1.1, et]
      exact k_t (by decide) h
    · unfold f_Md_ticks_75
      rw [hMT.1.2.1, et]
      exact k_t (by decide) h
  | succ f ih =>
    intro s o0 mo fo pi m hf hpi hm h30 hMT
    obtain ⟨hC, hS, hT, hW, hG, hWa, hF, hL, hLd, hSn, hH⟩ := hMT
    obtain ⟨z, pi', mo', fo', m', p1, p2, p3, p4, p5, p6, p7, p8, p9, rc, rm⟩ := step_sim (r1 := r1) (la := la) hnp hnp2 hpi hm hW hWa hF hL.2.2.2.1.1 hL.2.2.1.1 hL.2.1.1 h30 (by omega)
    obtain ⟨o0', eo0⟩ : ∃ o, o = sB o0 7 (vp_updL (gB o0 7) (10 * t + s) z) := ⟨_, rfl⟩
    have hMT' : MT np mo' fo' la (gA o0' 6) (gB o0' 7) he (gA m' 1) (gB m' 3) t tm (t + 1) (10 * t + (s + 1)) := by
      refine ⟨hC.cg (p2.1 _) (p5 _ (by omega)), hS.cg (p2.1 _) (fun i _ => by rw [p2.2]) (fun i _ => by rw [p2.2]) (p5 _ (by omega)) (fun i i1 i2 => p5 _ (by omega)), hT.cg (p2.1 _) (p2.1 _) (p5 _ (by omega)) (p5 _ (by omega)), hW.cg (fun i _ => by rw [p2.2]) (fun i i1 i2 => p5 _ (by omega)), hG.cg (fun i _ => by rw [p2.2]) (fun i i1 i2 => p5 _ (by omega)), p3, p4, hL.cg (fun i i1 i2 => p5 _ (by omega)), hLd.cg (by omega) hnp (fun i hi => by rw [eo0]; rfl) (fun i i1 i2 => p5 _ (by omega)), fun k hk => ?_, hH.cg hT.2.2.1 (fun _ _ => rfl) (fun _ _ => rfl) (fun _ _ => rfl) (fun i i1 i2 => p5 _ (by omega))⟩
      rw [eo0]
      show vp_updL (gB o0 7) (10 * t + s) z k = _
      by_cases hks : k = 10 * t + s
      · subst hks; rw [updL_same]; exact p7.symm
      · rw [updL_ne _ _ _ _ hks, p8 _ (by omega) (by omega)]; exact hSn k (by omega)
    obtain ⟨o2, mo2, fo2, pi2, m2, q1, q2, q3, q4, rc2, rm2⟩ := ih (s + 1) o0' mo' fo' pi' m' (by omega) p1 (by rw [p9.1 0 (by omega)]; exact hm) p6 hMT'
    have en : iI (s : Int) + (1 : Int32) = iI ((s + 1 : Nat) : Int) := ix_add s 1
    refine ⟨o2, mo2, fo2, pi2, m2, ?_, q2, q3, p9.tr q4, fun Q h => ?_, fun k28 Q x1 x2 h => ?_⟩
    · refine pvF.tr (t' := t) ⟨by rw [eo0]; rfl, fun i hi => by rw [eo0]; rfl, fun i hi => ?_⟩ q1 (Nat.le_refl _)
      rw [eo0]
      exact updL_ne _ _ _ _ (by omega)
    · unfold f_PV_passTick_114
      have e10 : iI (t : Int) * (10 : Int32) + iI (s : Int) = iI ((10 * t + s : Nat) : Int) := by
        rw [show (10 : Int32) = iI 10 from rfl, iI_mul, iI_add]; congr 1; omega
      rw [en, hC.1, e10, cl_nat (by omega)]
      refine b_le (a := 10) (fun q => by omega) (fun _ => rc _ ⟨v_nat (by omega) (by decide), ?_⟩)
      rw [← eo0]
      exact rc2 Q h
    · unfold f_Md_ticks_75
      rw [en]
      exact b_le (a := 10) (fun q => by omega) (fun _ => rm _ (rm2 k28 Q x1 x2 h))
end TI
theorem MR.toT {np : Nat} {mo fo la : Ob} {ld : Nat → Int32} {sn : Nat → Int64} {he : Ob} {A : Nat → Int32} {W : Nat → Int64} {t tm : Nat} (h : MR np mo fo la ld sn he A W t tm) : MT np mo fo la ld sn he A W t tm t (10 * t) := h
theorem ticks_n {np tm n : Nat} {la he : Ob} {r1 : Nat → Nat} (hnp : np ≤ 5) (hnp2 : 2 ≤ np) (hn : n ≤ 50) : ∀ (f k t : Nat) (o0 mo fo le pi m : Ob), f + k = n → t + f ≤ 200 → gI o0 0 = iI np → gI pi 0 = iI np → gI m 0 = iI np → MR np mo fo la (gA o0 6) (gB o0 7) he (gA m 1) (gB m 3) t tm →
    ∃ t' o0' mo' fo' le' pi' m', t ≤ t' ∧ pvF t o0 o0' ∧ gI pi' 0 = iI np ∧ MR np mo' fo' la (gA o0' 6) (gB o0' 7) he (gA m' 1) (gB m' 3) t' tm ∧ mdV m m' ∧
      (∀ Q : Int32 → Ob → Ob → Ob → Ob → Ob → Prop, Q (gI mo' 1) o0' mo' fo' le' pi' → f_PV_ticks_30 r1 la Q (f + 1) (iI n) (iI k) o0 mo fo le pi) ∧ (∀ Q : Int32 → Ob → Prop, Q (gA m' 1 0) m' → f_Md_ticks_28 Q (f + 1) (iI n) (iI k) m) := by
  intro f
  induction f with
  | zero =>
    intro k t o0 mo fo le pi m hf ht h0 hpi hm hMR
    have : k = n := by omega
    subst this
    refine ⟨t, o0, mo, fo, le, pi, m, Nat.le_refl _, pvF.rf _ _, hpi, hMR, mdV.rf m, fun Q h => ?_, fun Q h => ?_⟩
    · unfold f_PV_ticks_30
      exact k_t (Int32.le_refl _) h
    · unfold f_Md_ticks_28
      exact k_t (Int32.le_refl _) h
  | succ f ih =>
    intro k t o0 mo fo le pi m hf ht h0 hpi hm hMR
    obtain ⟨o1, mo1, le1, m1, a1, a2, a3, a4, a5, rc1, rm1⟩ := tick_pieces (r1 := r1) (pi := pi) (fo := fo) hnp (show t < 200 by omega) np 0 o0 mo le m rfl h0 hm hMR.toT (fun i hi => by omega)
    obtain ⟨hC, hS, hT, hW, hG, hWa, hF, hL, hLd, hSn, hH⟩ := a3
    have hLd2 : RLd np (gA o1 6) (gA m1 1) (t + 1) := by
      intro j hj i hi
      by_cases hjt : j = t
      · subst hjt; exact a4 i hi
      · exact hLd j (by omega) i hi
    obtain ⟨o2, mo2, fo2, pi2, m2, b1, b2, b3, b4, rc2, rm2⟩ := tick_steps (r1 := r1) (le := le1) hnp hnp2 (show t < 200 by omega) 10 0 o1 mo1 fo pi (sI m1 30 (iI ((10 * t : Nat) : Int))) rfl hpi (by show gI m1 0 = _; rw [a5.1 0 (by omega)]; exact hm) rfl ⟨hC, hS, hT, hW, hG, hWa, hF, hL, hLd2, hSn, hH⟩
    obtain ⟨hC, hS, hT, hW, hG, hWa, hF, hL, hLd, hSn, hH⟩ := b3
    have hMR' : MR np (sI mo2 1 (iI ((t + 1 : Nat) : Int))) fo2 la (gA o2 6) (gB o2 7) he (gA (sA m2 1 (upd (gA m2 1) 0 (iI ((t + 1 : Nat) : Int)))) 1) (gB (sA m2 1 (upd (gA m2 1) 0 (iI ((t + 1 : Nat) : Int)))) 3) (t + 1) tm := by
      have hu : ∀ i, i ≠ 0 → gA (sA m2 1 (upd (gA m2 1) 0 (iI ((t + 1 : Nat) : Int)))) 1 i = gA m2 1 i := fun i hi => upd_ne _ _ _ _ hi
      refine ⟨⟨rfl, rfl, by omega⟩, ?_, hT.cg rfl rfl (hu _ (by omega)) (hu _ (by omega)), hW.cg (fun _ _ => rfl) (fun i i1 i2 => hu _ (by omega)), hG.cg (fun _ _ => rfl) (fun i i1 i2 => hu _ (by omega)), hWa, hF.cg (fun _ _ => rfl) (fun i i1 i2 => hu _ (by omega)), hL.cg (fun i i1 i2 => hu _ (by omega)), hLd.cg (by omega) hnp (fun _ _ => rfl) (fun i i1 i2 => hu _ (by omega)), fun j hj => hSn j (by omega), hH.cg hT.2.2.1 (fun _ _ => rfl) (fun _ _ => rfl) (fun _ _ => rfl) (fun i i1 i2 => hu _ (by omega))⟩
      exact (hS.mono (Nat.le_succ t)).cg rfl (fun _ _ => rfl) (fun _ _ => rfl) (hu _ (by omega)) (fun i i1 i2 => hu _ (by omega))
    have hv1 : mdV m m1 := a5
    have hv2 : mdV m1 m2 := ⟨fun j hj => by rw [b4.1 j hj, gI_sI_ne _ _ _ _ (by omega)], b4.2.1, b4.2.2.1, b4.2.2.2⟩
    obtain ⟨t', o3, mo3, fo3, le3, pi3, m3, d1, d2, d3, d4, d5, rc3, rm3⟩ := ih (k + 1) (t + 1) o2 (sI mo2 1 (iI ((t + 1 : Nat) : Int))) fo2 le1 pi2 (sA m2 1 (upd (gA m2 1) 0 (iI ((t + 1 : Nat) : Int)))) (by omega) (by omega) (by rw [b1.1, a1.1]; exact h0) b2 (by show gI m2 0 = _; rw [hv2.1 0 (by omega), hv1.1 0 (by omega)]; exact hm) hMR'
    have en : iI (k : Int) + (1 : Int32) = iI ((k + 1 : Nat) : Int) := ix_add k 1
    refine ⟨t', o3, mo3, fo3, le3, pi3, m3, by omega, (a1.tr b1 (Nat.le_refl _)).tr d2 (by omega), d3, d4, hv1.tr (hv2.tr ⟨d5.1, d5.2.1, d5.2.2.1, d5.2.2.2⟩), fun Q h => ?_, fun Q h => ?_⟩
    · unfold f_PV_ticks_30
      rw [en]
      refine b_le (fun q => by omega) (fun _ => ?_)
      unfold f_PV_passTick
      exact ⟨np + 1, rc1 _ ⟨11, rc2 _ (rc3 Q h)⟩⟩
    · unfold f_Md_ticks_28
      refine b_le (fun q => by omega) (fun _ => ⟨np + 1, rm1 _ Q _ _ ⟨11, rm2 _ Q _ _ ?_⟩⟩)
      rw [en]
      exact rm3 Q h
theorem op_ticks {np t tm : Nat} {a : Int32} {o0 mo fo la le pi he m : Ob} {r1 : Nat → Nat} {K : Ob → Ob → Ob → Ob → Ob → Ob → Prop} (hnp : np ≤ 5) (hnp2 : 2 ≤ np) (h0 : gI o0 0 = iI np) (hpi : gI pi 0 = iI np) (hm : gI m 0 = iI np) (hMR : MR np mo fo la (gA o0 6) (gB o0 7) he (gA m 1) (gB m 3) t tm)
    (hK : ∀ t' o0' mo' fo' le' pi' m', t ≤ t' → pvF t o0 o0' → gI pi' 0 = iI np → MR np mo' fo' la (gA o0' 6) (gB o0' 7) he (gA m' 1) (gB m' 3) t' tm → mdV m m' → K o0' mo' fo' le' pi' m') :
    f_PV_ticks a o0 r1 mo fo la le pi (fun z u1 u2 u3 u4 u5 => f_Md_ticks a m (fun z2 v => (z = z2 → K u1 u2 u3 u4 u5 v) ∧ (¬ z = z2 → False))) := by
  obtain ⟨c1, c2, c3⟩ := hMR.1
  obtain ⟨x, x1, x2, rfl⟩ := iI_ex a
  have ea : iI (t : Int) + iI x = iI ((t : Int) + x) := iI_add _ _
  have no : ¬ (1 ≤ x ∧ x ≤ 50 ∧ (t : Int) + x ≤ 200) → f_Md_ticks (iI x) m (fun z2 v => ((-1 : Int32) = z2 → K o0 mo fo le pi v) ∧ (¬ (-1 : Int32) = z2 → False)) := by
    intro q
    have hk := hK t o0 mo fo le pi m (Nat.le_refl _) (pvF.rf _ _) hpi hMR (mdV.rf m)
    unfold f_Md_ticks
    rw [c2, ea]
    refine md_in (lo := 1) (hi := 50) (fun a1 a2 => k_f (by decide) (b_le (b := 200) (fun g => by omega) (fun _ => k_q rfl hk))) (fun _ => k_t rfl (k_q rfl hk)) ⟨x1, x2⟩ (by omega) (by omega)
  unfold f_PV_ticks
  rw [c1, ea]
  refine b_lt (b := 1) (fun q => no (by omega)) (fun q1 => b_lt (a := 50) (fun q => no (by omega)) (fun q2 => b_le (b := 200) (fun q3 => ?_) (fun q => no (by omega))))
  obtain ⟨n, rfl⟩ : ∃ n : Nat, x = n := ⟨x.toNat, by omega⟩
  obtain ⟨t', o3, mo3, fo3, le3, pi3, m3, d1, d2, d3, d4, d5, rc3, rm3⟩ := ticks_n (r1 := r1) (tm := tm) (n := n) hnp hnp2 (by omega) n 0 t o0 mo fo le pi m rfl (by omega) h0 hpi hm hMR
  refine ⟨n + 1, rc3 _ ?_⟩
  unfold f_Md_ticks
  rw [c2, ea]
  refine md_in (lo := 1) (hi := 50) (fun a1 a2 => k_f (by decide) (b_le (b := 200) (fun g => ⟨n + 1, rm3 _ (k_q ?_ (hK t' o3 mo3 fo3 le3 pi3 m3 d1 d2 d3 d4 d5))⟩) (fun q => by omega))) (fun q => by omega) ⟨x1, x2⟩ (by omega) (by omega)
  rw [d4.1.1, d4.1.2.1]
