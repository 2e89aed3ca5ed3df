-- the beginning
theorem md_init0 {np : Nat} {Q : (Nat → Ob) → Prop} (hQ : ∀ (u : Ob) (f : Nat → Int32), gI u 0 = iI np → gI u 7 = 0 → gI u 8 = -1 → gI u 9 = -1 → gB u 3 = (fun _ => 0) → (∀ i, i < 5 → gA u 1 (20 + i) = 6 ∧ gA u 1 (30 + i) = 64) → (gA u 1 5 = 5 ∧ gA u 1 6 = 4 ∧ gA u 1 7 = 10) → (∀ x, x < 5 ∨ x = 8 ∨ x = 9 ∨ x = 10 → gA u 1 x = 0) → (∀ i : Nat, i < 300 → f i = if i = 2 ∨ i = 3 then 100 else if 5 ≤ i ∧ i < 10 then 6 else 0) → (∀ i, i < 300 → gA u 1 (5600 + i) = f i) → (∀ i, i < 6100 → gA u 2 i = gA u 1 i) → (∀ i, i < 2016 → gB u 4 i = gB u 3 i) → Q (up (fun _ => zo) 0 u)) : ∃ w, f_Md_init_178 Q w (0 : Int32) (sI (sI (sI zo 0 (iI np)) 8 (-1 : Int32)) 9 (-1 : Int32)) := by
  -- the copy of the plain law
  have l241 : ∀ (V : Ob) (f : Nat → Int32), gA V 5 = f → gI V 0 = iI np → gI V 7 = 0 → gI V 8 = -1 → gI V 9 = -1 → gB V 3 = (fun _ => 0) → (∀ i : Nat, i < 300 → f i = if i = 2 ∨ i = 3 then 100 else if 5 ≤ i ∧ i < 10 then 6 else 0) → ∀ (d i : Nat) (g : Nat → Int32), d + i = 300 → (∀ i, i < 5 → g (20 + i) = 6 ∧ g (30 + i) = 64) → (g 5 = 5 ∧ g 6 = 4 ∧ g 7 = 10) → (∀ x, x < 5 ∨ x = 8 ∨ x = 9 ∨ x = 10 → g x = 0) → (∀ j, j < i → g (5600 + j) = f j) → f_Md_init_241 Q (d + 1) (iI i) (sA V 1 g) := by
    intro V f v5 v0 v7 v8 v9 vB hf d
    induction d with
    | zero =>
      intro i g hi g1 g2 g3 g4
      have : i = 300 := by omega
      subst this
      unfold f_Md_init_241
      refine k_t (by decide) (md_keep (fun u hm ha hb => ?_))
      have e1 : gA u 1 = g := hm.2.2.1 1 (by decide)
      have e3 : gB u 3 = (fun _ => 0) := (hm.2.2.2 3 (by decide)).trans vB
      refine hQ u f ((hm.1 0).trans v0) ((hm.1 7).trans v7) ((hm.1 8).trans v8) ((hm.1 9).trans v9) e3 (by rw [e1]; exact g1) (by rw [e1]; exact g2) (by rw [e1]; exact g3) hf (by rw [e1]; exact g4) (fun i hi => by rw [ha i hi, e1]; rfl) (fun i hi => by rw [hb i hi, e3]; show gB V 3 i = 0; rw [vB])
    | succ d ih =>
      intro i g hi g1 g2 g3 g4
      have ei : iI (i : Int) + (1 : Int32) = iI ((i + 1 : Nat) : Int) := ix_add i 1
      have ex : (5600 : Int32) + iI (i : Int) = iI ((5600 + i : Nat) : Int) := ix_add 5600 i
      unfold f_Md_init_241
      rw [ei, ex, cl_nat (by omega), cl_nat (by omega), sA_sA, show gA (sA V 1 g) 5 = gA V 5 from rfl, v5]
      refine b_le (a := 300) (fun q => by omega) (fun _ => ⟨v_nat (by omega) (by decide), v_nat (by omega) (by decide), ?_⟩)
      refine ih (i + 1) _ (by omega) (fun j hj => ?_) ⟨?_, ?_, ?_⟩ (fun x hx => ?_) (fun j hj => ?_)
      · show upd g _ _ _ = _ ∧ upd g _ _ _ = _
        rw [upd_ne _ _ _ _ (by omega), upd_ne _ _ _ _ (by omega)]; exact g1 j hj
      · show upd g _ _ _ = _
        rw [upd_ne _ _ _ _ (by omega)]; exact g2.1
      · show upd g _ _ _ = _
        rw [upd_ne _ _ _ _ (by omega)]; exact g2.2.1
      · show upd g _ _ _ = _
        rw [upd_ne _ _ _ _ (by omega)]; exact g2.2.2
      · show upd g _ _ _ = _
        rw [upd_ne _ _ _ _ (by omega)]; exact g3 x hx
      · show upd g _ _ _ = _
        by_cases e : j = i
        · subst e; exact upd_same _ _ _
        · rw [upd_ne _ _ _ _ (by omega)]; exact g4 j (by omega)
  have l178 : ∀ (d i : Nat) (g : Nat → Int32), d + i = 5 → (∀ j, j < i → g (20 + j) = 6 ∧ g (30 + j) = 64) → (∀ x, x < 20 → g x = 0) → f_Md_init_178 Q (d + 1) (iI i) (sA (sI (sI (sI zo 0 (iI np)) 8 (-1 : Int32)) 9 (-1 : Int32)) 1 g) := by
    intro d
    induction d with
    | zero =>
      intro i g hi g1 g2
      have : i = 5 := by omega
      subst this
      unfold f_Md_init_178
      rw [sA_sA]
      obtain ⟨f, hf, fp⟩ := md_plain (sA (sI (sI (sI zo 0 (iI np)) 8 (-1 : Int32)) 9 (-1 : Int32)) 1 (upd (upd (upd g 5 (5 : Int32)) 6 (4 : Int32)) 7 (10 : Int32)))
      refine k_t (by decide) (fp _ ⟨300 + 1, ?_⟩)
      have := l241 (sA (sA (sI (sI (sI zo 0 (iI np)) 8 (-1 : Int32)) 9 (-1 : Int32)) 1 (upd (upd (upd g 5 (5 : Int32)) 6 (4 : Int32)) 7 (10 : Int32))) 5 f) f rfl rfl rfl rfl rfl rfl hf 300 0 (upd (upd (upd g 5 (5 : Int32)) 6 (4 : Int32)) 7 (10 : Int32)) rfl (fun j hj => by
        rw [upd_ne _ _ _ _ (by omega), upd_ne _ _ _ _ (by omega), upd_ne _ _ _ _ (by omega), upd_ne _ _ _ _ (by omega), upd_ne _ _ _ _ (by omega), upd_ne _ _ _ _ (by omega)]
        exact g1 j hj) ⟨by rw [upd_ne _ _ _ _ (by omega), upd_ne _ _ _ _ (by omega), upd_same], by rw [upd_ne _ _ _ _ (by omega), upd_same], upd_same _ _ _⟩ (fun x hx => by
        rw [upd_ne _ _ _ _ (by omega), upd_ne _ _ _ _ (by omega), upd_ne _ _ _ _ (by omega)]
        exact g2 x (by omega)) (fun j hj => by omega)
      have eta : sA (sA (sA (sI (sI (sI zo 0 (iI np)) 8 (-1 : Int32)) 9 (-1 : Int32)) 1 (upd (upd (upd g 5 (5 : Int32)) 6 (4 : Int32)) 7 (10 : Int32))) 5 f) 1 (upd (upd (upd g 5 (5 : Int32)) 6 (4 : Int32)) 7 (10 : Int32)) = sA (sA (sI (sI (sI zo 0 (iI np)) 8 (-1 : Int32)) 9 (-1 : Int32)) 1 (upd (upd (upd g 5 (5 : Int32)) 6 (4 : Int32)) 7 (10 : Int32))) 5 f := sA_eta (sA (sA (sI (sI (sI zo 0 (iI np)) 8 (-1 : Int32)) 9 (-1 : Int32)) 1 (upd (upd (upd g 5 (5 : Int32)) 6 (4 : Int32)) 7 (10 : Int32))) 5 f) 1
      rw [eta] at this
      exact this
    | succ d ih =>
      intro i g hi g1 g2
      have ei : iI (i : Int) + (1 : Int32) = iI ((i + 1 : Nat) : Int) := ix_add i 1
      have e20 : (20 : Int32) + iI (i : Int) = iI ((20 + i : Nat) : Int) := ix_add 20 i
      have e30 : (30 : Int32) + iI (i : Int) = iI ((30 + i : Nat) : Int) := ix_add 30 i
      unfold f_Md_init_178
      rw [ei, e20, e30, cl_nat (by omega), cl_nat (by omega), sA_sA, sA_sA]
      refine b_le (a := 5) (fun q => by omega) (fun _ => ⟨v_nat (by omega) (by decide), v_nat (by omega) (by decide), ?_⟩)
      refine ih (i + 1) _ (by omega) (fun j hj => ?_) (fun x hx => ?_)
      · show upd (upd g _ _) _ _ _ = _ ∧ upd (upd g _ _) _ _ _ = _
        by_cases e : j = i
        · subst e
          rw [upd_ne _ _ _ _ (by omega), upd_same, upd_same]
          exact ⟨rfl, rfl⟩
        · rw [upd_ne _ _ _ _ (by omega), upd_ne _ _ _ _ (by omega), upd_ne _ _ _ _ (by omega), upd_ne _ _ _ _ (by omega)]
          exact g1 j (by omega)
      · show upd (upd g _ _) _ _ _ = _
        rw [upd_ne _ _ _ _ (by omega), upd_ne _ _ _ _ (by omega)]
        exact g2 x hx
  have := l178 5 0 (gA zo 1) rfl (fun j hj => by omega) (fun x hx => rfl)
  have eta : sA (sI (sI (sI zo 0 (iI np)) 8 (-1 : Int32)) 9 (-1 : Int32)) 1 (gA zo 1) = sI (sI (sI zo 0 (iI np)) 8 (-1 : Int32)) 9 (-1 : Int32) := sA_eta (sI (sI (sI zo 0 (iI np)) 8 (-1 : Int32)) 9 (-1 : Int32)) 1
  rw [eta] at this
  exact ⟨6, this⟩
theorem pure_main {L : Nat} {xs : Nat → Int32} (hL : L ≤ 3585) : f_Lw_law L xs := by
  unfold f_Lw_law
  generalize lw_c0 L xs = a
  obtain ⟨z, z1, z2, rfl⟩ := iI_ex a
  obtain ⟨np, hnp2, hnp, hc, hm⟩ : ∃ np : Nat, 2 ≤ np ∧ np ≤ 5 ∧ (if (2 : Int32) < (if iI z < (5 : Int32) then iI z else (5 : Int32)) then (if iI z < (5 : Int32) then iI z else (5 : Int32)) else (2 : Int32)) = iI (np : Int) ∧ ∀ Q : (Nat → Ob) → Prop, (∃ w, f_Md_init_178 Q w (0 : Int32) (sI (sI (sI zo 0 (iI np)) 8 (-1 : Int32)) 9 (-1 : Int32))) → f_Md_init (iI z) Q := by
    by_cases q1 : z < 2
    · refine ⟨2, by omega, by omega, ?_, fun Q hQ => ?_⟩
      · have h5 : iI z < (5 : Int32) := (iI_lt (b := 5) ⟨z1, z2⟩ (by omega)).mpr (by omega)
        have h2 : ¬ (2 : Int32) < iI z := fun h => by have := (iI_lt (a := 2) (by omega) ⟨z1, z2⟩).mp h; omega
        rw [if_pos h5, if_neg h2]; rfl
      · unfold f_Md_init
        exact b_le (a := 2) (fun q => by omega) (fun _ => hQ)
    · by_cases q2 : z < 5
      · obtain ⟨k, rfl⟩ : ∃ k : Nat, z = k := ⟨z.toNat, by omega⟩
        refine ⟨k, by omega, by omega, ?_, fun Q hQ => ?_⟩
        · have h5 : iI (k : Int) < (5 : Int32) := (iI_lt (b := 5) ⟨z1, z2⟩ (by omega)).mpr (by omega)
          rw [if_pos h5]
          by_cases q3 : k = 2
          · have h2 : ¬ (2 : Int32) < iI (k : Int) := fun h => by have := (iI_lt (a := 2) (by omega) ⟨z1, z2⟩).mp h; omega
            rw [if_neg h2, q3]; rfl
          · have h2 : (2 : Int32) < iI (k : Int) := (iI_lt (a := 2) (by omega) ⟨z1, z2⟩).mpr (by omega)
            rw [if_pos h2]
        · unfold f_Md_init
          exact b_le (a := 2) (fun _ => b_le (b := 5) (fun _ => hQ) (fun q => by omega)) (fun q => by omega)
      · refine ⟨5, by omega, by omega, ?_, fun Q hQ => ?_⟩
        · have h5 : ¬ iI z < (5 : Int32) := fun h => by have := (iI_lt (b := 5) ⟨z1, z2⟩ (by omega)).mp h; omega
          rw [if_neg h5]; rfl
        · unfold f_Md_init
          refine b_le (a := 2) (fun _ => b_le (b := 5) (fun q => ?_) (fun _ => hQ)) (fun q => by omega)
          have : z = 5 := by omega
          subst this
          exact hQ
  obtain ⟨la, hla, fcl⟩ := cl_clear zo
  unfold f_PV_init
  refine k_e hc ?_
  unfold f_Ta_init f_La_init f_Re_init f_Mo_init f_Fo_init f_He_init f_Le_init f_Pi_init f_Rh_init f_Fo_init f_Sh_init
  refine fcl _ (fcl _ (fcl _ (hm _ (md_init0 (fun u f u0 u7 u8 u9 uB u20 u5 ux hf hcp h2 h4 => ?_)))))
  intro qq d1 d2 d3
  have hRL : RLa np la (gA u 1) := (L5_begin (np := np) hla hf).R hcp
  have hMR : MR np (sA (sA zo 5 (upd (upd (upd (upd (upd (gA zo 5) 0 (6 : Int32)) 1 (6 : Int32)) 2 (6 : Int32)) 3 (6 : Int32)) 4 (6 : Int32))) 10 (upd (upd (upd (upd (upd (gA zo 10) 0 (64 : Int32)) 1 (64 : Int32)) 2 (64 : Int32)) 3 (64 : Int32)) 4 (64 : Int32))) (sI (sI (sI zo 0 (10 : Int32)) 3 (5 : Int32)) 4 (4 : Int32)) la (fun _ => 0) (fun _ => 0) zo (gA u 1) (gB u 3) 0 0 := by
    refine ⟨⟨rfl, ux 0 (by omega), by omega⟩, ⟨0, rfl, ux 3 (by omega), by omega, fun i hi => by omega⟩, ⟨rfl, ux 1 (by omega), by omega, 0, rfl, ux 2 (by omega), Nat.le_refl _⟩, fun i hi => ?_, fun i hi => ?_, ?_, ?_, hRL, fun k hk => by omega, fun k hk => by omega, fun k hk => by omega⟩
    · rw [(u20 i hi).1]
      refine ⟨⟨6, by omega, by omega, rfl⟩, ?_⟩
      match i, hi with
      | 0, _ => rfl
      | 1, _ => rfl
      | 2, _ => rfl
      | 3, _ => rfl
      | 4, _ => rfl
    · rw [(u20 i hi).2]
      refine ⟨⟨64, by omega, by omega, by rw [pop_cb (by omega)]; decide, by rw [pop_cb (by omega)]; decide, rfl⟩, ?_⟩
      match i, hi with
      | 0, _ => rfl
      | 1, _ => rfl
      | 2, _ => rfl
      | 3, _ => rfl
      | 4, _ => rfl
    · rw [uB]
      exact ⟨fun i hi => ⟨rfl, rfl⟩, fun i hi => rfl, rfl, rfl⟩
    · unfold RFo
      rw [u5.1, u5.2.1, u5.2.2, ux 4 (by omega), ux 8 (by omega), ux 9 (by omega), ux 10 (by omega)]
      exact ⟨⟨rfl, rfl, rfl, rfl, rfl, rfl, rfl⟩, ⟨10, by omega, rfl⟩, ⟨0, by omega, by omega, rfl⟩, ⟨0, by omega, rfl⟩, ⟨5, by omega, by omega, rfl⟩, 4, by omega, by omega, rfl⟩
  refine ⟨512 + 1, z_loop hL hnp hnp2 512 0 rfl (by omega) (by omega) ⟨⟨rfl, rfl, rfl, u0⟩, ⟨0, by omega, rfl, u7, fun i hi => by omega⟩, Or.inl ⟨rfl, u8, u9⟩, ⟨rfl, Nat.zero_le _, Nat.zero_le _, Or.inl (fun i _ => rfl)⟩, ⟨⟨d1, d2, d3⟩, ⟨d1, d2, d3⟩, Or.inl rfl, Or.inr (Or.inl rfl), Or.inr (Or.inr rfl)⟩, 0, 0, 0, 0, la, Nat.le_refl _, Nat.le_refl _, hMR, Or.inl ⟨rfl, rfl⟩, hMR.cg hnp h2 h4⟩⟩
