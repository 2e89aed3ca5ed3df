-- the model's makers
def mdM (m u : Ob) : Prop := (∀ k, k ≠ 40 → gI u k = gI m k) ∧ gL u = gL m ∧ (∀ k, k < 38 ∨ k = 40 ∨ 44 < k → gA u k = gA m k) ∧ gB u = gB m
theorem mdM.rf (m : Ob) : mdM m m := ⟨fun _ _ => rfl, rfl, fun _ _ => rfl, rfl⟩
theorem mdM.tr {a b c : Ob} (h : mdM a b) (g : mdM b c) : mdM a c := ⟨fun k hk => (g.1 k hk).trans (h.1 k hk), g.2.1.trans h.2.1, fun k hk => (g.2.2.1 k hk).trans (h.2.2.1 k hk), g.2.2.2.trans h.2.2.2⟩
theorem mdS.M {m u : Ob} (h : mdS m u) : mdM m u := ⟨h.1, h.2.1, fun k hk => h.2.2.1 k (by omega) (by omega), h.2.2.2⟩
theorem mdM.sa {m u : Ob} (h : mdM m u) (k : Nat) (f : Nat → Int32) (hk : k = 38 ∨ k = 39 ∨ k = 41 ∨ k = 42 ∨ k = 43 ∨ k = 44) : mdM m (sA u k f) := by
  refine ⟨h.1, h.2.1, fun j hj => ?_, h.2.2.2⟩
  rw [gA_sA_ne _ _ _ _ (by omega)]; exact h.2.2.1 j hj
theorem mdM.V {m u : Ob} (h : mdM m u) : mdV m u := ⟨fun k hk => h.1 k (by omega), h.2.2.1 2 (by omega), h.2.2.1 6 (by omega), by rw [h.2.2.2]⟩
section MK
variable {np lk sd : Nat} {n : Nat → Nat} {lo hi : Nat → Int} {A : Nat → Int32}
theorem md_isMaker {k : Nat} {u : Ob} (hnp : np ≤ 5) (hnp1 : 1 ≤ np) (hok : okS np n) (u0 : gI u 0 = iI np) (hA : gA u 1 = A) (a2 : A 2 = iI lk) (hlk : lk ≤ 100) (hsd : sd < 8) (hT : TD A lk sd lo hi) (hk : k < 1024) (h39 : ∀ j, j < np → gA u 39 (5 * k + j) = shp n np k j) :
    ∃ (z : Int32) (u' : Ob), flg z (FT lo hi (bxs n np k)) ∧ mdM u u' ∧ gI u' 40 = gI u 40 ∧ (∀ j, j ≠ 38 → gA u' j = gA u j) ∧ (∀ Q : Int32 → Ob → Prop, Q z u' → f_Md_isMaker (iI k) (iI sd) u Q) := by
  -- the boxes are looked at
  have l34 : ∀ (Q : Int32 → Ob → Prop) (v : Ob), gI v 0 = iI np → gA v 1 = A → (∀ j, j < np → gA v 38 j = shp n np k j) → (FT lo hi (bxs n np k) → Q 1 v) → (¬ FT lo hi (bxs n np k) → Q 0 v) → ∀ (f j : Nat), f + j = 5 → (∀ tn, tn < j → lo tn ≤ hi tn → lo tn ≤ bxs n np k tn ∧ bxs n np k tn ≤ hi tn) → f_Md_isMaker_34 Q (f + 1) (iI sd) (iI j) v := by
    intro Q v v0 vA v38 h1 h0 f
    have hw : ∀ j, j < np → okW (gA v 38 j) := fun j hj => by rw [v38 j hj]; exact shp_ok hok k j hj
    induction f with
    | zero =>
      intro j hj hokj
      have : j = 5 := by omega
      subst this
      unfold f_Md_isMaker_34
      exact k_t (by decide) (h1 hokj)
    | succ f ih =>
      intro j hj hokj
      have bd := hT.bd (tn := j) (by omega)
      have bb := bxs_bd n np k j
      have ej : iI (j : Int) + (1 : Int32) = iI ((j + 1 : Nat) : Int) := ix_add j 1
      unfold f_Md_isMaker_34
      rw [ej]
      refine b_le (a := 5) (fun q => by omega) (fun _ => md_heardOf (A := A) (lk := lk) vA a2 hlk hsd (by omega) hT (fun q => ?_) (fun i q i1 i2 i3 => ?_))
      · refine k_f (by decide) (ih (j + 1) (by omega) (fun tn ht hl => ?_))
        by_cases htj : tn = j
        · subst htj; omega
        · exact hokj tn (by omega) hl
      · have e2 : iI ((100 + 4 * i : Nat) : Int) + (2 : Int32) = iI ((102 + 4 * i : Nat) : Int) := by
          rw [show 102 + 4 * i = (100 + 4 * i) + 2 by omega]; exact ix_add _ 2
        have e3 : iI ((100 + 4 * i : Nat) : Int) + (3 : Int32) = iI ((103 + 4 * i : Nat) : Int) := by
          rw [show 103 + 4 * i = (100 + 4 * i) + 3 by omega]; exact ix_add _ 3
        rw [v0, vA, e2, e3, cl_nat (by omega), cl_nat (by omega), i2, i3]
        refine b_le (a := 0) (fun _ => b_lt (fun hjn => ?_) (fun hjn => h0 (fun hF => ?_))) (fun g => by omega)
        · refine md_boxOf (np := np) v0 hnp hw (by omega) ?_
          have eb : bx (gA v 38) np (j : Int) = bxs n np k j := bx_congr _ (fun j' hj' => v38 j' hj')
          rw [eb, show (-100 : Int32) = iI (-100) by decide]
          refine b_eq (fun g => h0 (fun hF => ?_)) (fun g => ⟨v_nat (by omega) (by decide), v_nat (by omega) (by decide), ?_⟩)
          · have := hF j (by omega) q
            omega
          · refine md_in (fun g1 g2 => k_f (by decide) (ih (j + 1) (by omega) (fun tn ht hl => ?_))) (fun g1 => k_t rfl (h0 (fun hF => ?_))) (by omega) (by omega) (by omega)
            · by_cases htj : tn = j
              · subst htj; omega
              · exact hokj tn (by omega) hl
            · have := hF j (by omega) q
              omega
        · have hc : cnt (shp n np k) np (-20) ≤ np := cN_le _ _ _ _ _
          have : bxs n np k j = -100 := by
            unfold bxs
            exact bx_no (shp_ok hok k) (by omega)
          have := hF j (by omega) q
          omega
  -- the shape is laid down
  have l2 : ∀ (f i : Nat) (v : Ob), f + i = np → mdM u v → gI v 40 = gI u 40 → (∀ j, j ≠ 38 → gA v j = gA u j) → (∀ j, j < i → gA v 38 j = shp n np k j) → ∃ u', mdM u u' ∧ gI u' 40 = gI u 40 ∧ (∀ j, j ≠ 38 → gA u' j = gA u j) ∧ (∀ j, j < np → gA u' 38 j = shp n np k j) ∧ (∀ Q : Int32 → Ob → Prop, (∃ w, f_Md_isMaker_34 Q w (iI sd) (0 : Int32) u') → f_Md_isMaker_2 Q (f + 1) (iI k) (iI sd) (iI i) v) := by
    intro f
    induction f with
    | zero =>
      intro i v hi g1 g2 g3 g4
      have : i = np := by omega
      subst this
      refine ⟨v, g1, g2, g3, g4, fun Q hQ => ?_⟩
      unfold f_Md_isMaker_2
      rw [g1.1 0 (by decide), u0]
      exact k_t (Int32.le_refl _) hQ
    | succ f ih =>
      intro i v hi g1 g2 g3 g4
      have e5 : (5 : Int32) * iI (k : Int) + iI (i : Int) = iI ((5 * k + i : Nat) : Int) := by
        rw [show (5 : Int32) = iI 5 from rfl, iI_mul, iI_add]; congr 1
      have ei : iI (i : Int) + (1 : Int32) = iI ((i + 1 : Nat) : Int) := ix_add i 1
      obtain ⟨u', a1, a2, a3, a4, a5⟩ := ih (i + 1) (sA v 38 (upd (gA v 38) i (shp n np k i))) (by omega) (g1.sa 38 _ (by omega)) g2 (fun j hj => by rw [gA_sA_ne _ _ _ _ hj]; exact g3 j hj) (fun j hj => by
        show upd (gA v 38) i (shp n np k i) j = _
        by_cases hji : j = i
        · subst hji; exact upd_same _ _ _
        · rw [upd_ne _ _ _ _ hji]; exact g4 j (by omega))
      refine ⟨u', a1, a2, a3, a4, fun Q hQ => ?_⟩
      unfold f_Md_isMaker_2
      rw [g1.1 0 (by decide), u0, e5, ei, cl_nat (by omega), cl_nat (by omega)]
      refine b_le (fun q => by omega) (fun _ => ⟨v_nat (by omega) (by decide), k_e (v := shp n np k i) (by rw [g3 39 (by decide)]; exact h39 i (by omega)) ⟨v_nat (by omega) (by decide), a5 Q hQ⟩⟩)
  obtain ⟨u', a1, a2', a3, a4, a5⟩ := l2 np 0 u rfl (mdM.rf u) rfl (fun _ _ => rfl) (fun j hj => by omega)
  have v0 : gI u' 0 = iI np := by rw [a1.1 0 (by decide)]; exact u0
  have vA : gA u' 1 = A := by rw [a3 1 (by decide)]; exact hA
  by_cases hF : FT lo hi (bxs n np k)
  · refine ⟨1, u', Or.inl ⟨rfl, hF⟩, a1, a2', a3, fun Q hQ => ⟨np + 1, a5 Q ⟨6, l34 Q u' v0 vA a4 (fun _ => hQ) (fun q => absurd hF q) 5 0 rfl (fun tn ht => by omega)⟩⟩⟩
  · refine ⟨0, u', Or.inr ⟨rfl, hF⟩, a1, a2', a3, fun Q hQ => ⟨np + 1, a5 Q ⟨6, l34 Q u' v0 vA a4 (fun q => absurd q hF) (fun _ => hQ) 5 0 rfl (fun tn ht => by omega)⟩⟩⟩
/-- how many there are among the first -/
noncomputable def cF (P : Nat → Prop) : Nat → Nat
  | 0 => 0
  | k + 1 => cF P k + @ite _ (P k) (Classical.propDecidable _) 1 0
theorem cF_yes {P : Nat → Prop} {k : Nat} (h : P k) : cF P (k + 1) = cF P k + 1 := by
  show cF P k + @ite _ (P k) (Classical.propDecidable _) 1 0 = _
  rw [if_pos h]
theorem cF_no {P : Nat → Prop} {k : Nat} (h : ¬ P k) : cF P (k + 1) = cF P k := by
  show cF P k + @ite _ (P k) (Classical.propDecidable _) 1 0 = _
  rw [if_neg h]
  rfl
theorem cF_le (P : Nat → Prop) : ∀ k, cF P k ≤ k := by
  intro k
  induction k with
  | zero => exact Nat.le_refl _
  | succ k ih =>
    by_cases h : P k
    · rw [cF_yes h]; omega
    · rw [cF_no h]; omega
theorem cF_mono (P : Nat → Prop) {a b : Nat} (h : a ≤ b) : cF P a ≤ cF P b := by
  induction b with
  | zero => have : a = 0 := by omega
            subst this; exact Nat.le_refl _
  | succ b ih =>
    by_cases hab : a = b + 1
    · subst hab; exact Nat.le_refl _
    · have h1 := ih (by omega)
      by_cases h : P b
      · rw [cF_yes h]; omega
      · rw [cF_no h]; omega
theorem md_findMakers {m : Ob} (hnp : np ≤ 5) (hnp1 : 1 ≤ np) (hok : okS np n) (hm : gI m 0 = iI np) (hA : gA m 1 = A) (hg : ∀ i, i < np → A (30 + i) = iI (n i)) (a2 : A 2 = iI lk) (hlk : lk ≤ 100) (hsd : sd < 8) (hT : TD A lk sd lo hi) :
    ∃ u, mdM m u ∧ gI u 40 = iI ((TT (szN n) np 0 : Nat) : Int) ∧ (∀ k, k < TT (szN n) np 0 → ∀ j, j < np → gA u 39 (5 * k + j) = shp n np k j) ∧ (∀ k, k < TT (szN n) np 0 → flg (gA u 42 k) (FT lo hi (bxs n np k))) ∧ gA u 43 = gA m 43 ∧ gA u 44 = gA m 44 ∧ (∀ Q : Int32 → Ob → Prop, Q (iI ((cF (fun k => FT lo hi (bxs n np k)) (TT (szN n) np 0) : Nat) : Int)) u → f_Md_findMakers (iI sd) m Q) := by
  have hM : okM np n (gA m 1) := fun i hi => ⟨(hok i hi).1, by rw [hA]; exact hg i hi, (hok i hi).2.2.1, (hok i hi).2.2.2⟩
  obtain ⟨u0, s1, s2, s3, srun⟩ := md_findShapes (n := n) hnp hnp1 hm hM
  have T0 := okS_le hok hnp (i := 0) (by omega)
  generalize hT0 : TT (szN n) np 0 = T at *
  have lp : ∀ (f k : Nat) (v : Ob), f + k = T → mdM m v → gI v 40 = iI (T : Int) → (∀ k, k < T → ∀ j, j < np → gA v 39 (5 * k + j) = shp n np k j) → (∀ j, j < k → flg (gA v 42 j) (FT lo hi (bxs n np j))) → gA v 43 = gA m 43 → gA v 44 = gA m 44 →
      ∃ u, mdM m u ∧ gI u 40 = iI (T : Int) ∧ (∀ k, k < T → ∀ j, j < np → gA u 39 (5 * k + j) = shp n np k j) ∧ (∀ k, k < T → flg (gA u 42 k) (FT lo hi (bxs n np k))) ∧ gA u 43 = gA m 43 ∧ gA u 44 = gA m 44 ∧ (∀ Q : Int32 → Ob → Prop, Q (iI ((cF (fun k => FT lo hi (bxs n np k)) T : Nat) : Int)) u → f_Md_findMakers_8 Q (f + 1) (iI sd) (iI ((cF (fun k => FT lo hi (bxs n np k)) k : Nat) : Int)) (iI k) v) := by
    intro f
    induction f with
    | zero =>
      intro k v hk g1 g2 g3 g4 g5 g6
      have : k = T := by omega
      subst this
      refine ⟨v, g1, g2, g3, g4, g5, g6, fun Q hQ => ?_⟩
      unfold f_Md_findMakers_8
      rw [g2]
      exact k_t (Int32.le_refl _) hQ
    | succ f ih =>
      intro k v hk g1 g2 g3 g4 g5 g6
      obtain ⟨z, v', hz, b1, b2, b3, run⟩ := md_isMaker (k := k) (u := v) (A := A) hnp hnp1 hok (by rw [g1.1 0 (by decide)]; exact hm) (by rw [g1.2.2.1 1 (by omega)]; exact hA) a2 hlk hsd hT (by omega) (g3 k (by omega))
      have ek : iI (k : Int) + (1 : Int32) = iI ((k + 1 : Nat) : Int) := ix_add k 1
      have ez : vp_nar .boolean z = z := by rcases hz with ⟨e, -⟩ | ⟨e, -⟩ <;> (rw [e]; rfl)
      obtain ⟨u, d1, d2, d3, d4, d5, d6, drun⟩ := ih (k + 1) (sA v' 42 (upd (gA v' 42) k z)) (by omega) ((g1.tr b1).sa 42 _ (by omega)) (b2.trans g2) (fun k' hk' j hj => by
          show gA v' 39 _ = _
          rw [b3 39 (by decide)]; exact g3 k' hk' j hj) (fun j hj => by
          show flg (upd (gA v' 42) k z j) _
          by_cases hjk : j = k
          · subst hjk; rw [upd_same]; exact hz
          · rw [upd_ne _ _ _ _ hjk, b3 42 (by decide)]; exact g4 j (by omega)) (by show gA v' 43 = _; rw [b3 43 (by decide)]; exact g5) (by show gA v' 44 = _; rw [b3 44 (by decide)]; exact g6)
      refine ⟨u, d1, d2, d3, d4, d5, d6, fun Q hQ => ?_⟩
      unfold f_Md_findMakers_8
      rw [g2, ek, cl_nat (by omega)]
      refine b_le (fun q => by omega) (fun _ => run _ ⟨v_nat (by omega) (by decide), v_nat (by omega) (by decide), ?_⟩)
      rw [ez]
      refine k_e (upd_same _ _ _) ?_
      have h3 := drun Q hQ
      rcases hz with ⟨e, p⟩ | ⟨e, p⟩
      · rw [cF_yes (P := fun k => FT lo hi (bxs n np k)) p] at h3
        refine k_f (by rw [e]; decide) ?_
        rw [show iI ((cF (fun k => FT lo hi (bxs n np k)) k : Nat) : Int) + (1 : Int32) = iI ((cF (fun k => FT lo hi (bxs n np k)) k + 1 : Nat) : Int) from ix_add _ 1]
        exact h3
      · rw [cF_no (P := fun k => FT lo hi (bxs n np k)) p] at h3
        refine k_t e ?_
        rw [show iI ((cF (fun k => FT lo hi (bxs n np k)) k : Nat) : Int) + (0 : Int32) = iI ((cF (fun k => FT lo hi (bxs n np k)) k : Nat) : Int) from Int32.add_zero _]
        exact h3
  obtain ⟨u, d1, d2, d3, d4, d5, d6, drun⟩ := lp T 0 u0 rfl s1.M s2 s3 (fun j hj => by omega) (s1.2.2.1 43 (by decide) (by decide)) (s1.2.2.1 44 (by decide) (by decide))
  exact ⟨u, d1, d2, d3, d4, d5, d6, fun Q hQ => by unfold f_Md_findMakers; exact srun _ ⟨T + 1, drun Q hQ⟩⟩
end MK
theorem RGr.S {mo : Ob} {A : Nat → Int32} {np : Nat} (hnp : np ≤ 5) (h : RGr mo A) : ∃ n : Nat → Nat, okS np n ∧ (∀ i, i < np → A (30 + i) = iI (n i)) ∧ (∀ i, i < np → gA mo 10 i = iI (n i)) := by
  obtain ⟨n, hM, hn⟩ := grid_masks (np := np) hnp h
  exact ⟨n, fun i hi => ⟨(hn i (by omega)).1, (hn i (by omega)).2.1, (hn i (by omega)).2.2.2.2.1, (hn i (by omega)).2.2.2.2.2⟩, fun i hi => (hn i (by omega)).2.2.1, fun i hi => (hn i (by omega)).2.2.2.1⟩
theorem sh_countFits {np : Nat} {n r : Nat → Nat} {lo hi : Nat → Int} {o : Ob} {Q : Int32 → Prop} (hnp : np ≤ 5) (h : SHA np n lo hi r o) (hbd : ∀ tn, tn < 5 → (-20 ≤ lo tn ∧ lo tn ≤ 19) ∧ (-20 ≤ hi tn ∧ hi tn ≤ 19)) (hQ : Q (iI ((cF (fun k => FT lo hi (bxs n np k)) (TT (szN n) np 0) : Nat) : Int))) : f_Sh_countFits r o Q := by
  have T0 := okS_le h.1.2.1 hnp (i := 0) (by omega)
  have h8 := h.1.2.2.2.2.1
  have lp : ∀ (f k : Nat), f + k = TT (szN n) np 0 → f_Sh_countFits_4 r o Q (f + 1) (iI ((cF (fun k => FT lo hi (bxs n np k)) k : Nat) : Int)) (iI k) := by
    intro f
    induction f with
    | zero =>
      intro k hk
      have : k = TT (szN n) np 0 := by omega
      rw [this]
      unfold f_Sh_countFits_4
      rw [h8]
      exact k_t (Int32.le_refl _) hQ
    | succ f ih =>
      intro k hk
      have ek : iI (k : Int) + (1 : Int32) = iI ((k + 1 : Nat) : Int) := ix_add k 1
      have h3 := ih (k + 1) (by omega)
      unfold f_Sh_countFits_4
      rw [h8, ek]
      refine b_le (fun q => by omega) (fun _ => sh_fits hnp h hbd (by omega) (fun p => k_f (by decide) ?_) (fun p => k_t rfl ?_))
      · rw [cF_yes (P := fun k => FT lo hi (bxs n np k)) p] at h3
        rw [show iI ((cF (fun k => FT lo hi (bxs n np k)) k : Nat) : Int) + (1 : Int32) = iI ((cF (fun k => FT lo hi (bxs n np k)) k + 1 : Nat) : Int) from ix_add _ 1]
        exact h3
      · rw [cF_no (P := fun k => FT lo hi (bxs n np k)) p] at h3
        exact h3
  exact ⟨_, lp _ 0 rfl⟩
section OPM
variable {np lk tm : Nat} {o0 mo he sh m : Ob} {r3 r12 : Nat → Nat} {K : (Nat → Nat) → Ob → Ob → Prop}
theorem op_makes {a : Int32} (hnp : np ≤ 5) (hnp1 : 1 ≤ np) (hm : gI m 0 = iI np) (hG : RGr mo (gA m 1)) (hT : RTi mo (gA m 1) tm) (hH : RHe he (gA m 1) tm) (hR : RSh np r12 sh) (hK : ∀ r' o' m', RSh np r' o' → mdM m m' → K r' o' m') :
    f_PV_makes a o0 r3 mo he r12 sh (fun z r' o' => f_Md_makes a m (fun z2 v => (z = z2 → K r' o' v) ∧ (¬ z = z2 → False))) := by
  obtain ⟨t1, t2, t3, lk, t4, t5, t6⟩ := hT
  obtain ⟨n, hok, hgA, hgm⟩ := hG.S hnp
  obtain ⟨x, x1, x2, rfl⟩ := iI_ex a
  unfold f_PV_makes
  refine pv_isSound ⟨x1, x2⟩ (fun a1 a2 => k_f (by decide) ?_) (fun q => k_t rfl ?_)
  · obtain ⟨sd, rfl⟩ : ∃ k : Nat, x = k := ⟨x.toNat, by omega⟩
    refine sh_ask (A := gA m 1) hnp hnp1 hR hok hgm t4 hH t6 t3 (by omega) (fun lo hi r' o' hTD hSA _ _ _ => ?_)
    refine sh_countFits hnp hSA (fun tn ht => hTD.bd ht) ?_
    obtain ⟨u, d1, d2, d3, d4, d5, d6, drun⟩ := md_findMakers (m := m) (A := gA m 1) hnp hnp1 hok hm rfl hgA t5 (by omega) (show sd < 8 by omega) hTD
    unfold f_Md_makes
    exact md_in (lo := 0) (hi := 7) (fun _ _ => k_f (by decide) (drun _ (k_q rfl (hK r' o' u hSA.R d1)))) (fun q => by omega) (by omega) (by omega) (by omega)
  · unfold f_Md_makes
    exact md_in (lo := 0) (hi := 7) (fun _ _ => by omega) (fun _ => k_t rfl (k_q rfl (hK r12 sh m hR (mdM.rf m)))) (by omega) (by omega) (by omega)
end OPM
