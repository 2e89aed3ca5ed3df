-- runs that end in one state
def Det {α : Type} (F : (α → Prop) → Prop) : Prop := ∀ P, F P → ∃ u, P u ∧ ∀ Q, Q u → F Q
theorem det_leaf {α : Type} (t : α) : Det (fun Q : α → Prop => Q t) := fun _ h => ⟨t, h, fun _ q => q⟩
theorem det_ite {α : Type} {c : Prop} {A B : (α → Prop) → Prop} (a : Det A) (b : Det B) : Det (fun Q => (c → A Q) ∧ (¬ c → B Q)) := by
  intro P h
  by_cases hc : c
  · obtain ⟨u, hu, r⟩ := a P (h.1 hc)
    exact ⟨u, hu, fun Q q => k_t hc (r Q q)⟩
  · obtain ⟨u, hu, r⟩ := b P (h.2 hc)
    exact ⟨u, hu, fun Q q => k_f hc (r Q q)⟩
theorem det_eq {α β : Type} {e : β} {A : β → (α → Prop) → Prop} (a : Det (A e)) : Det (fun Q => ∀ y, y = e → A y Q) := by
  intro P h
  obtain ⟨u, hu, r⟩ := a P (h e rfl)
  exact ⟨u, hu, fun Q q y hy => by rw [hy]; exact r Q q⟩
theorem det_and {α : Type} {X : Prop} {A : (α → Prop) → Prop} (a : Det A) : Det (fun Q => X ∧ A Q) := by
  intro P h
  obtain ⟨u, hu, r⟩ := a P h.2
  exact ⟨u, hu, fun Q q => ⟨h.1, r Q q⟩⟩
theorem det_Fo_pass (o : Ob) : Det (f_Fo_pass o) := by
  show Det (fun Q => f_Fo_pass o Q)
  unfold f_Fo_pass
  repeat' (first | exact det_leaf _ | apply det_ite | apply det_eq | apply det_and)
theorem det_foldStep (b : Int32) (m : Ob) : Det (f_Md_foldStep b m) := by
  have d104 : ∀ o, Det (fun Q => f_Md_foldStep_104 Q o) := by
    intro o; unfold f_Md_foldStep_104
    repeat' (first | exact det_leaf _ | apply det_ite | apply det_eq | apply det_and)
  have d84 : ∀ o, Det (fun Q => f_Md_foldStep_84 Q o) := by
    intro o; unfold f_Md_foldStep_84
    repeat' (first | exact d104 _ | exact det_leaf _ | apply det_ite | apply det_eq | apply det_and)
  have d63 : ∀ o, Det (fun Q => f_Md_foldStep_63 Q o) := by
    intro o; unfold f_Md_foldStep_63
    repeat' (first | exact d84 _ | exact det_leaf _ | apply det_ite | apply det_eq | apply det_and)
  have d48 : ∀ o, Det (fun Q => f_Md_foldStep_48 Q o) := by
    intro o; unfold f_Md_foldStep_48
    repeat' (first | exact d63 _ | exact det_leaf _ | apply det_ite | apply det_eq | apply det_and)
  show Det (fun Q => f_Md_foldStep b m Q)
  unfold f_Md_foldStep
  repeat' (first | exact d48 _ | exact det_leaf _ | apply det_ite | apply det_eq | apply det_and)
theorem gL_sL_same (o : Ob) (k : Nat) (v : Int64) : gL (sL o k v) k = v := by simp [gL, sL, up]
-- the joints
def moF (mo mo' : Ob) : Prop := (∀ k, gI mo' k = gI mo k) ∧ (∀ k, gA mo' k = gA mo k)
def mdJ (m u : Ob) : Prop := (∀ k, gI u k = gI m k) ∧ gA u = gA m ∧ gB u 4 = gB m 4 ∧ ∀ i, 16 ≤ i → gB u 3 i = gB m 3 i
def JR (np k : Nat) (pi mo u : Ob) : Prop := gI pi 0 = iI np ∧ gI u 0 = iI np ∧ RWi mo (gA u 1) ∧ RWa np mo (gB u 3) ∧ (∀ i, 1 ≤ i → i ≤ k → gB pi 1 i = gB u 28 i) ∧ (∀ i, i < k → gB pi 2 i = gB u 28 (5 + i))
theorem ix0 (j : Nat) : (0 : Int32) + iI (j : Int) = iI (j : Int) := by
  have := ix_add 0 j
  rw [Nat.zero_add] at this
  exact this
theorem joints {np : Nat} {r1 : Nat → Nat} {la : Ob} (hn : np ≤ 5) : ∀ (f k : Nat) (pi mo u : Ob), f + k + 1 = np → JR np k pi mo u → ∃ pi' mo' u', JR np (np - 1) pi' mo' u' ∧ moF mo mo' ∧ mdJ u u' ∧ (∀ Q o2, f_Pi_pass_9 r1 la Q 1 (iI ((np - 1 : Nat) : Int)) pi' mo' o2 → f_Pi_pass_9 r1 la Q (f + 1) (iI k) pi mo o2) ∧ (∀ Q, f_Md_step_92 Q 1 (iI ((np - 1 : Nat) : Int)) u' → f_Md_step_92 Q (f + 1) (iI k) u) := by
  intro f
  induction f with
  | zero =>
    intro k pi mo u hk h
    have : k = np - 1 := by omega
    subst this
    exact ⟨pi, mo, u, h, ⟨fun _ => rfl, fun _ => rfl⟩, ⟨fun _ => rfl, rfl, rfl, fun _ _ => rfl⟩, fun _ _ q => q, fun _ q => q⟩
  | succ f ih =>
    intro k pi mo u hk h
    obtain ⟨p0, u0, hW, hWa, n1, n2⟩ := h
    obtain ⟨⟨wa, wa1, wa2, ea⟩, fa⟩ := hW k (by omega)
    obtain ⟨⟨wb, wb1, wb2, eb⟩, fb⟩ := hW (k + 1) (by omega)
    obtain ⟨q, r, c1, c2, c3⟩ := fl_part (iL ((wb : Int) - wa) * (gB mo 6 k + gB mo 7 (k + 1)) + gB mo 8 k) ((wa : Int) + wb) (by omega)
    have g6 : gB mo 6 k = gB u 3 k := (hWa.1 k (by omega)).1
    have g7 : gB mo 7 (k + 1) = gB u 3 (5 + (k + 1)) := (hWa.1 (k + 1) (by omega)).2
    have g8 : gB mo 8 k = gB u 3 (10 + k) := hWa.2.1 k (by omega)
    have J' : JR np (k + 1) (sB (sB pi 1 (vp_updL (gB pi 1) (k + 1) (gB mo 6 k + q))) 2 (vp_updL (gB pi 2) k (gB mo 7 (k + 1) - q))) (sB mo 8 (vp_updL (gB mo 8) k r)) (sB (sB (sL u 29 r) 3 (vp_updL (gB u 3) (10 + k) r)) 28 (vp_updL (vp_updL (gB u 28) (k + 1) (gB mo 6 k + q)) (5 + k) (gB mo 7 (k + 1) - q))) := by
      refine ⟨p0, u0, hW, ⟨fun i hi => ?_, fun i hi => ?_, ?_, ?_⟩, fun i i1 i2 => ?_, fun i i2 => ?_⟩
      · show gB mo 6 i = vp_updL (gB u 3) (10 + k) r i ∧ gB mo 7 i = vp_updL (gB u 3) (10 + k) r (5 + i)
        rw [updL_ne _ _ _ _ (by omega), updL_ne _ _ _ _ (by omega)]; exact hWa.1 i hi
      · show vp_updL (gB mo 8) k r i = vp_updL (gB u 3) (10 + k) r (10 + i)
        by_cases hik : i = k
        · subst hik; rw [updL_same, updL_same]
        · rw [updL_ne _ _ _ _ (by omega), updL_ne _ _ _ _ (by omega)]; exact hWa.2.1 i hi
      · show vp_updL (gB mo 8) k r 4 = vp_updL (gB u 3) (10 + k) r 14
        rw [updL_ne _ _ _ _ (by omega), updL_ne _ _ _ _ (by omega)]; exact hWa.2.2.1
      · show vp_updL (gB mo 8) k r 5 = vp_updL (gB u 3) (10 + k) r 15
        rw [updL_ne _ _ _ _ (by omega), updL_ne _ _ _ _ (by omega)]; exact hWa.2.2.2
      · show vp_updL (gB pi 1) (k + 1) (gB mo 6 k + q) i = vp_updL (vp_updL (gB u 28) (k + 1) (gB mo 6 k + q)) (5 + k) (gB mo 7 (k + 1) - q) i
        rw [updL_ne _ (5 + k) _ _ (by omega)]
        by_cases hik : i = k + 1
        · subst hik; rw [updL_same, updL_same]
        · rw [updL_ne _ _ _ _ hik, updL_ne _ _ _ _ hik]; exact n1 i i1 (by omega)
      · show vp_updL (gB pi 2) k (gB mo 7 (k + 1) - q) i = vp_updL (vp_updL (gB u 28) (k + 1) (gB mo 6 k + q)) (5 + k) (gB mo 7 (k + 1) - q) (5 + i)
        by_cases hik : i = k
        · subst hik; rw [updL_same, updL_same]
        · rw [updL_ne _ _ _ _ hik, updL_ne _ _ _ _ (by omega), updL_ne _ _ _ _ (by omega)]; exact n2 i (by omega)
    obtain ⟨pi', mo', u', hJ, hf, hm, rc, rm⟩ := ih (k + 1) _ _ _ (by omega) J'
    have en : iI (k : Int) + (1 : Int32) = iI ((k + 1 : Nat) : Int) := ix_add k 1
    have ta : (iI (wa : Int)).toInt64 = iL wa := iI_toL (by omega) (by omega)
    have tb : (iI (wb : Int)).toInt64 = iL wb := iI_toL (by omega) (by omega)
    refine ⟨pi', mo', u', hJ, ⟨fun k => hf.1 k, fun k => hf.2 k⟩, ⟨fun k => hm.1 k, hm.2.1, hm.2.2.1, fun i hi => ?_⟩, fun Q o2 hQ => ?_, fun Q hQ => ?_⟩
    · rw [hm.2.2.2 i hi]
      show vp_updL (gB u 3) (10 + k) r i = _
      exact updL_ne _ _ _ _ (by omega)
    · unfold f_Pi_pass_9
      rw [p0, en]
      refine b_le (fun q => by omega) (fun _ => ?_)
      unfold f_Pi_passJoint
      rw [en, cl_nat (by omega), cl_nat (by omega), fa, fb, ea, eb, ta, tb, iL_add, iL_sub]
      refine ⟨v_nat (by omega) (by decide), v_nat (by omega) (by decide), k_n (l_ge (fun _ => ?_) (fun q => ?_))⟩
      · refine ⟨v_nat (by omega) (by decide), v_nat (by omega) (by decide), k_n (k_n ⟨v_nat (by omega) (by decide), k_n ?_⟩)⟩
        refine c1 _ (k_n (c2 _ ⟨v_nat (by omega) (by decide), v_nat (by omega) (by decide), k_n ⟨v_nat (by omega) (by decide), ?_⟩⟩))
        exact rc Q o2 hQ
      · have h1 : (iL ((wa : Int) + wb)).toInt = wa + wb := toInt_iL (by omega) (by omega)
        have h2 : (1 : Int64).toInt = 1 := by decide
        omega
    · unfold f_Md_step_92
      have e1 : iI (np : Int) - (1 : Int32) = iI ((np : Int) - 1) := iI_sub _ 1
      rw [u0, e1]
      refine b_le (fun q => by omega) (fun _ => ?_)
      have i5 : (5 : Int32) + iI (k : Int) = iI ((5 + k : Nat) : Int) := ix_add 5 k
      have i51 : iI ((5 + k : Nat) : Int) + (1 : Int32) = iI ((5 + (k + 1) : Nat) : Int) := ix_add (5 + k) 1
      have i20 : (20 : Int32) + iI (k : Int) = iI ((20 + k : Nat) : Int) := ix_add 20 k
      have i21 : iI ((20 + k : Nat) : Int) + (1 : Int32) = iI ((20 + (k + 1) : Nat) : Int) := ix_add (20 + k) 1
      have i10 : (10 : Int32) + iI (k : Int) = iI ((10 + k : Nat) : Int) := ix_add 10 k
      rw [ix0, i5, i51, i20, i21, i10, en, cl_nat (by omega), cl_nat (by omega), cl_nat (by omega), cl_nat (by omega), cl_nat (by omega), cl_nat (by omega), cl_nat (by omega)]
      refine ⟨v_nat (by omega) (by decide), v_nat (by omega) (by decide), k_n ⟨v_nat (by omega) (by decide), k_n ⟨v_nat (by omega) (by decide), k_n (k_n ⟨v_nat (by omega) (by decide), k_n ⟨v_nat (by omega) (by decide), k_n ⟨v_nat (by omega) (by decide), k_n ?_⟩⟩⟩)⟩⟩⟩
      have s1 : (gA u 1 (20 + (k + 1)) - gA u 1 (20 + k)).toInt64 = iL ((wb : Int) - wa) := by rw [ea, eb, iI_sub]; exact iI_toL (by omega) (by omega)
      have s2 : (gA u 1 (20 + k) + gA u 1 (20 + (k + 1))).toInt64 = iL ((wa : Int) + wb) := by rw [ea, eb, iI_add]; exact iI_toL (by omega) (by omega)
      rw [s1, s2, ← g6, ← g7, ← g8]
      refine c3 u _ ⟨v_nat (by omega) (by decide), k_n ⟨v_nat (by omega) (by decide), v_nat (by omega) (by decide), ?_⟩⟩
      rw [gL_sL_same]
      exact rm Q hQ
/-- waves weakened, and laid back -/
theorem weak {np : Nat} {r1 : Nat → Nat} {la pi o2 : Ob} {x z : Int64} (hn : np ≤ 5) (p0 : gI pi 0 = iI np) : ∀ (f k : Nat) (mo u : Ob), f + k = np → gI u 0 = iI np → gI la 1 = gA u 1 5601 → (∀ i, i < np → gB pi 1 i = gB u 28 i ∧ gB pi 2 i = gB u 28 (5 + i)) → (∀ i, i < k → gB mo 6 i = gB u 3 i ∧ gB mo 7 i = gB u 3 (5 + i)) →
    ∃ mo' u', (∀ i, i < np → gB mo' 6 i = gB u' 3 i ∧ gB mo' 7 i = gB u' 3 (5 + i)) ∧ moF mo mo' ∧ gB mo' 8 = gB mo 8 ∧ (∀ k, gI u' k = gI u k) ∧ gA u' = gA u ∧ gB u' 4 = gB u 4 ∧ (∀ i, 10 ≤ i → gB u' 3 i = gB u 3 i) ∧ (∀ Q, Q (x + z) pi mo' o2 → f_Pi_pass_163 r1 la Q (f + 1) x z (iI k) pi mo o2) ∧ (∀ Q, Q u' → f_Md_step_398 Q (f + 1) (iI k) u) := by
  intro f
  induction f with
  | zero =>
    intro k mo u hk u0 hl h28 h3
    have : k = np := by omega
    subst this
    refine ⟨mo, u, h3, ⟨fun _ => rfl, fun _ => rfl⟩, rfl, fun _ => rfl, rfl, rfl, fun _ _ => rfl, fun Q hQ => ?_, fun Q hQ => ?_⟩
    · unfold f_Pi_pass_163
      rw [p0]
      exact b_le (fun _ => hQ) (fun q => by omega)
    · unfold f_Md_step_398
      rw [u0]
      exact b_le (fun _ => hQ) (fun q => by omega)
  | succ f ih =>
    intro k mo u hk u0 hl h28 h3
    obtain ⟨a, a1, a2⟩ := pi_less (x := gB pi 1 k) (l := gI la 1) (m := u) hl.symm
    obtain ⟨b, b1, b2⟩ := pi_less (x := gB pi 2 k) (l := gI la 1) (m := u) hl.symm
    obtain ⟨mo', u', m1, m2, m3, m4, m5, m6, m7, rc, rm⟩ := ih (k + 1) (sB (sB mo 6 (vp_updL (gB mo 6) k a)) 7 (vp_updL (gB mo 7) k b)) (sB u 3 (vp_updL (vp_updL (gB u 3) k a) (5 + k) b)) (by omega) u0 hl h28 (fun i hi => by
      show vp_updL (gB mo 6) k a i = vp_updL (vp_updL (gB u 3) k a) (5 + k) b i ∧ vp_updL (gB mo 7) k b i = vp_updL (vp_updL (gB u 3) k a) (5 + k) b (5 + i)
      by_cases hik : i = k
      · subst hik
        rw [updL_same, updL_same, updL_ne _ _ _ _ (by omega), updL_same, updL_same]
        exact ⟨rfl, rfl⟩
      · rw [updL_ne _ _ _ _ hik, updL_ne _ _ _ _ hik, updL_ne _ _ _ _ (by omega), updL_ne _ _ _ _ hik, updL_ne _ _ _ _ (by omega), updL_ne _ _ _ _ (by omega)]
        exact h3 i (by omega))
    have en : iI (k : Int) + (1 : Int32) = iI ((k + 1 : Nat) : Int) := ix_add k 1
    have i5 : (5 : Int32) + iI (k : Int) = iI ((5 + k : Nat) : Int) := ix_add 5 k
    refine ⟨mo', u', m1, m2, m3, m4, m5, m6, fun i hi => ?_, fun Q hQ => ?_, fun Q hQ => ?_⟩
    · rw [m7 i hi]
      show vp_updL (vp_updL (gB u 3) k a) (5 + k) b i = _
      rw [updL_ne _ _ _ _ (by omega), updL_ne _ _ _ _ (by omega)]
    · unfold f_Pi_pass_163
      rw [p0, en, cl_nat (by omega)]
      refine b_le (fun q => by omega) (fun _ => ⟨v_nat (by omega) (by decide), a1 _ ⟨v_nat (by omega) (by decide), v_nat (by omega) (by decide), b1 _ ⟨v_nat (by omega) (by decide), ?_⟩⟩⟩)
      exact rc Q hQ
    · unfold f_Md_step_398
      rw [u0, en, ix0, i5, cl_nat (by omega), cl_nat (by omega)]
      have t1 : gB u 28 k = gB pi 1 k := (h28 k (by omega)).1.symm
      have t2 : gB u 28 (5 + k) = gB pi 2 k := (h28 k (by omega)).2.symm
      rw [t1, t2]
      refine b_le (fun q => by omega) (fun _ => ⟨v_nat (by omega) (by decide), k_n (a2 u hl.symm _ ⟨v_nat (by omega) (by decide), v_nat (by omega) (by decide), k_n (b2 (sB u 3 (vp_updL (gB u 3) k a)) hl.symm _ ⟨v_nat (by omega) (by decide), ?_⟩)⟩)⟩)
      exact rm Q hQ
/-- the two ends -/
theorem ends {np k : Nat} {r1 : Nat → Nat} {la pi mo u o2 : Ob} (hn : np ≤ 5) (hn2 : 2 ≤ np) (hk : k < 2000) (hJ : JR np (np - 1) pi mo u) (hb : gI la 3 = gA u 1 5603) (hl : gI la 2 = gA u 1 5602) (f2 : gI o2 2 = gA u 1 4) (f0 : gI o2 0 = gI u 24) (h30 : gI u 30 = iI k) :
    ∃ x z pi' mo' u', gI pi' 0 = iI np ∧ (∀ i, i < np → gB pi' 1 i = gB u' 28 i ∧ gB pi' 2 i = gB u' 28 (5 + i)) ∧ moF mo mo' ∧ (∀ i, i + 1 < np → gB mo' 8 i = gB u' 3 (10 + i)) ∧ gB mo' 8 4 = gB u' 3 14 ∧ gB mo' 8 5 = gB u' 3 15 ∧ (∀ k, k ≠ 30 → gI u' k = gI u k) ∧ gI u' 30 = iI ((k + 1 : Nat) : Int) ∧ gA u' = gA u ∧ gB u' 4 = gB u 4 ∧ gB u' 3 (16 + k) = x + z ∧ (∀ i, 16 ≤ i → i ≠ 16 + k → gB u' 3 i = gB u 3 i) ∧
      (∀ Q, (∃ w, f_Pi_pass_163 r1 la Q w x z (0 : Int32) pi' mo' o2) → f_Pi_pass_9 r1 la Q 1 (iI ((np - 1 : Nat) : Int)) pi mo o2) ∧ (∀ Q, (∃ w, f_Md_step_398 Q w (0 : Int32) u') → f_Md_step_92 Q 1 (iI ((np - 1 : Nat) : Int)) u) := by
  obtain ⟨p0, u0, hW, hWa, n1, n2⟩ := hJ
  obtain ⟨q1, r1', c1, c2, c3⟩ := fl_part ((gI la 3).toInt64 * gB mo 7 0 + gB mo 8 4) 100 (by omega)
  obtain ⟨q2, r2', d1, d2, d3⟩ := fl_part ((gI la 2).toInt64 * gB mo 6 (np - 1) + gB mo 8 5) 100 (by omega)
  have g7 : gB mo 7 0 = gB u 3 5 := (hWa.1 0 (by omega)).2
  have g6 : gB mo 6 (np - 1) = gB u 3 (np - 1) := (hWa.1 (np - 1) (by omega)).1
  have e1 : iI (np : Int) - (1 : Int32) = iI ((np - 1 : Nat) : Int) := by
    rw [show iI (np : Int) - (1 : Int32) = iI ((np : Int) - 1) from iI_sub _ 1]; congr 1; omega
  have en : iI ((np - 1 : Nat) : Int) + (1 : Int32) = iI (np : Int) := by
    rw [show iI ((np - 1 : Nat) : Int) + (1 : Int32) = iI ((np - 1 + 1 : Nat) : Int) from ix_add _ 1]; congr 2; omega
  refine ⟨gB mo 6 (np - 1), q2, sB (sB pi 1 (vp_updL (gB pi 1) 0 ((((gI o2 2) * (gI o2 0)) / (10 : Int32)).toInt64 + q1))) 2 (vp_updL (gB pi 2) (np - 1) (-q2)), sB mo 8 (vp_updL (vp_updL (gB mo 8) 4 r1') 5 r2'),
    sB (sB (sI (sL (sB (sB (sL u 29 r1') 3 (vp_updL (gB u 3) 14 r1')) 28 (vp_updL (gB u 28) 0 ((((gI o2 2) * (gI o2 0)) / (10 : Int32)).toInt64 + q1))) 29 r2') 30 (iI ((k + 1 : Nat) : Int))) 3 (vp_updL (vp_updL (vp_updL (gB u 3) 14 r1') 15 r2') (16 + k) (gB mo 6 (np - 1) + q2))) 28 (vp_updL (vp_updL (gB u 28) 0 ((((gI o2 2) * (gI o2 0)) / (10 : Int32)).toInt64 + q1)) (5 + np - 1) (-q2)),
    p0, fun i hi => ⟨?_, ?_⟩, ⟨fun _ => rfl, fun _ => rfl⟩, fun i hi => ?_, ?_, ?_, fun j hj => ?_, ?_, rfl, rfl, ?_, fun i hi hik => ?_, fun Q hQ => ?_, fun Q hQ => ?_⟩
  · show vp_updL (gB pi 1) 0 _ i = vp_updL (vp_updL (gB u 28) 0 _) (5 + np - 1) (-q2) i
    rw [updL_ne _ (5 + np - 1) _ _ (by omega)]
    by_cases hi0 : i = 0
    · subst hi0; rw [updL_same, updL_same]
    · rw [updL_ne _ _ _ _ hi0, updL_ne _ _ _ _ hi0]; exact n1 i (by omega) (by omega)
  · show vp_updL (gB pi 2) (np - 1) (-q2) i = vp_updL (vp_updL (gB u 28) 0 _) (5 + np - 1) (-q2) (5 + i)
    by_cases hi0 : i = np - 1
    · subst hi0; rw [updL_same, show 5 + (np - 1) = 5 + np - 1 by omega, updL_same]
    · rw [updL_ne _ _ _ _ hi0, updL_ne _ _ _ _ (by omega), updL_ne _ _ _ _ (by omega)]; exact n2 i (by omega)
  · show vp_updL (vp_updL (gB mo 8) 4 r1') 5 r2' i = vp_updL (vp_updL (vp_updL (gB u 3) 14 r1') 15 r2') (16 + k) _ (10 + i)
    rw [updL_ne _ _ _ _ (by omega), updL_ne _ _ _ _ (by omega), updL_ne _ _ _ _ (by omega), updL_ne _ _ _ _ (by omega), updL_ne _ _ _ _ (by omega)]
    exact hWa.2.1 i hi
  · show vp_updL (vp_updL (gB mo 8) 4 r1') 5 r2' 4 = vp_updL (vp_updL (vp_updL (gB u 3) 14 r1') 15 r2') (16 + k) _ 14
    rw [updL_ne _ _ _ _ (by omega), updL_same, updL_ne _ _ _ _ (by omega), updL_ne _ _ _ _ (by omega), updL_same]
  · show vp_updL (vp_updL (gB mo 8) 4 r1') 5 r2' 5 = vp_updL (vp_updL (vp_updL (gB u 3) 14 r1') 15 r2') (16 + k) _ 15
    rw [updL_same, updL_ne _ _ _ _ (by omega), updL_same]
  · exact gI_sI_ne _ _ _ _ hj
  · rfl
  · exact updL_same _ _ _
  · show vp_updL (vp_updL (vp_updL (gB u 3) 14 r1') 15 r2') (16 + k) _ i = _
    rw [updL_ne _ _ _ _ hik, updL_ne _ _ _ _ (by omega), updL_ne _ _ _ _ (by omega)]
  · unfold f_Pi_pass_9
    rw [p0, en, e1, cl_nat (by omega)]
    refine b_le (fun _ => k_n ?_) (fun q => by omega)
    unfold f_Fo_source
    refine c1 _ (c2 _ ⟨v_nat (by omega) (by decide), k_n (k_e (v := (gI la 2).toInt64 * gB mo 6 (np - 1) + gB mo 8 5) ?_ (d1 _ ⟨v_nat (by omega) (by decide), d2 _ hQ⟩))⟩)
    rw [updL_ne _ _ _ _ (by decide)]
  · unfold f_Md_step_92
    rw [u0, e1]
    refine b_le (fun _ => k_e (v := (gI la 3).toInt64 * gB mo 7 0 + gB mo 8 4) ?_ (c3 u _ ?_)) (fun q => by omega)
    · rw [hb, g7, hWa.2.2.1]
    have i0 : (0 : Int32) + gI (sL u 29 r1') 0 - (1 : Int32) = iI ((np - 1 : Nat) : Int) := by
      show (0 : Int32) + gI u 0 - (1 : Int32) = _
      rw [u0, ix0, e1]
    rw [i0, cl_nat (by omega), gL_sL_same]
    refine k_e (v := ((gI o2 2) * (gI o2 0)) / (10 : Int32)) (by rw [f2, f0]; rfl) ⟨v_nat (by omega) (by decide), ?_⟩
    refine k_e (v := gB mo 6 (np - 1)) ?_ (k_e (v := (gI la 2).toInt64 * gB mo 6 (np - 1) + gB mo 8 5) ?_ (d3 _ _ ?_))
    · rw [updL_ne _ _ _ _ (by omega)]; exact g6.symm
    · rw [updL_ne _ _ _ _ (by omega), hl, hWa.2.2.2]; rfl
    have i5 : (5 : Int32) + iI (np : Int) - (1 : Int32) = iI ((5 + np - 1 : Nat) : Int) := by
      rw [show (5 : Int32) + iI (np : Int) = iI ((5 : Int) + np) from iI_add 5 _, show iI ((5 : Int) + np) - (1 : Int32) = iI ((5 : Int) + np - 1) from iI_sub _ 1]; congr 1; omega
    have i16 : (16 : Int32) + iI (k : Int) = iI ((16 + k : Nat) : Int) := ix_add 16 k
    have ik : iI (k : Int) + (1 : Int32) = iI ((k + 1 : Nat) : Int) := ix_add k 1
    have j0 : gI (sL (sB (sB (sL u 29 r1') 3 (vp_updL (gB u 3) 14 r1')) 28 (vp_updL (gB u 28) 0 ((((gI o2 2) * (gI o2 0)) / (10 : Int32)).toInt64 + q1))) 29 r2') 0 = iI np := u0
    have j30 : gI (sL (sB (sB (sL u 29 r1') 3 (vp_updL (gB u 3) 14 r1')) 28 (vp_updL (gB u 28) 0 ((((gI o2 2) * (gI o2 0)) / (10 : Int32)).toInt64 + q1))) 29 r2') 30 = iI k := h30
    have jl : gL (sL (sB (sB (sL u 29 r1') 3 (vp_updL (gB u 3) 14 r1')) 28 (vp_updL (gB u 28) 0 ((((gI o2 2) * (gI o2 0)) / (10 : Int32)).toInt64 + q1))) 29 r2') 29 = r2' := gL_sL_same _ _ _
    rw [show gB (sL u 29 r1') 3 = gB u 3 from rfl, show gB (sL u 29 r1') 28 = gB u 28 from rfl] at *
    rw [j0, j30, jl, i5, i16, ik, cl_nat (by omega), cl_nat (by omega)]
    exact ⟨v_nat (by omega) (by decide), v_nat (by omega) (by decide), hQ⟩
def mdV (m u : Ob) : Prop := (∀ k, k < 10 → gI u k = gI m k) ∧ gA u 2 = gA m 2 ∧ gA u 6 = gA m 6 ∧ gB u 4 = gB m 4
theorem mdV.rf (m : Ob) : mdV m m := ⟨fun _ _ => rfl, rfl, rfl, rfl⟩
theorem mdV.tr {a b c : Ob} (h : mdV a b) (g : mdV b c) : mdV a c := ⟨fun k hk => (g.1 k hk).trans (h.1 k hk), g.2.1.trans h.2.1, g.2.2.1.trans h.2.2.1, g.2.2.2.trans h.2.2.2⟩
/-- a step of the pipes: the class's and the model's -/
theorem step_sim {np k : Nat} {pi mo fo la m : Ob} {r1 : Nat → Nat} (hn : np ≤ 5) (hn2 : 2 ≤ np) (hpi : gI pi 0 = iI np) (hm : gI m 0 = iI np) (hW : RWi mo (gA m 1)) (hWa : RWa np mo (gB m 3)) (hF : RFo fo (gA m 1)) (hb : gI la 3 = gA m 1 5603) (hl : gI la 2 = gA m 1 5602) (hlo : gI la 1 = gA m 1 5601) (h30 : gI m 30 = iI k) (hk : k < 2000) :
    ∃ z pi' mo' fo' m', gI pi' 0 = iI np ∧ moF mo mo' ∧ RWa np mo' (gB m' 3) ∧ RFo fo' (gA m' 1) ∧ (∀ i, i < 7 ∨ 10 < i → gA m' 1 i = gA m 1 i) ∧ gI m' 30 = iI ((k + 1 : Nat) : Int) ∧ gB m' 3 (16 + k) = z ∧ (∀ i, 16 ≤ i → i ≠ 16 + k → gB m' 3 i = gB m 3 i) ∧ mdV m m' ∧ (∀ Q, Q z pi' mo' fo' → f_Pi_pass pi r1 mo fo la Q) ∧ (∀ Q, Q m' → f_Md_step m Q) := by
  have hF0 := hF
  obtain ⟨⟨f0, f1, f2, f3, f4, f5, f6⟩, ⟨g, g1, eg⟩, ⟨p, p1, p2, ep⟩, ⟨b, b1, eb⟩, ⟨st, s1, s2, es⟩, ⟨w, w1, w2, ew⟩⟩ := hF
  obtain ⟨fu, ⟨u0, u1, u2, u3, u4, u5, u6⟩, runC⟩ := det_Fo_pass fo (fun u => gI u 0 = iI (fgN b st w g p) ∧ gI u 1 = iI (fpN b st w g p) ∧ gI u 2 = iI b ∧ gI u 3 = iI st ∧ gI u 4 = iI w ∧ gI u 5 = gI fo 5 + iI (fhN b st w g p) ∧ gI u 6 = gI fo 6 + iI (fmN b st w g p))
    (fo_pass (b := b) (st := st) (w := w) (g := g) (p := p) (by omega) (by omega) (by omega) (by omega) (by omega) (f0.trans eg) (f1.trans ep) (f2.trans eb) (f3.trans es) (f4.trans ew) (fun u a0 a1 a2 a3 a4 a5 a6 => ⟨a0, a1, a2, a3, a4, a5, a6⟩))
  obtain ⟨um, ⟨hmF, m4, m5, m6, m7⟩, runM⟩ := det_foldStep (gA m 1 4) (sI (sI m 24 (gA m 1 7)) 25 (gA m 1 8)) (fun u => mdF (sI (sI m 24 (gA m 1 7)) 25 (gA m 1 8)) u ∧ gI u 24 = iI (fgN b st w g p) ∧ gI u 25 = iI (fpN b st w g p) ∧ gI u 26 = iI (fhN b st w g p) ∧ gI u 27 = iI (fmN b st w g p))
    (by rw [eb]; exact md_foldStep (b := b) (st := st) (w := w) (g := g) (p := p) (by omega) (by omega) (by omega) (by omega) (by omega) eg ep es ew (fun u a0 a1 a2 a3 a4 => ⟨a0, a1, a2, a3, a4⟩))
  have aA : gA um 1 = gA m 1 := by rw [hmF.2.2.1]; rfl
  have aB : gB um = gB m := by rw [hmF.2.2.2]; rfl
  have aI : ∀ j, (j < 24 ∨ 27 < j) → gI um j = gI m j := fun j hj => by
    rw [hmF.1 j (by omega) (by omega) (by omega) (by omega), gI_sI_ne _ _ _ _ (by omega), gI_sI_ne _ _ _ _ (by omega)]
  have gb := fg_bd b st w g p
  have pb := fpn_bd b st w g p
  obtain ⟨A', eA⟩ : ∃ A', A' = upd (upd (upd (upd (gA m 1) 7 (iI (fgN b st w g p))) 8 (iI (fpN b st w g p))) 9 (gA m 1 9 + iI (fhN b st w g p))) 10 (gA m 1 10 + iI (fmN b st w g p)) := ⟨_, rfl⟩
  have A7 : ∀ i, i < 7 ∨ 10 < i → A' i = gA m 1 i := fun i hi => by
    rw [eA, upd_ne _ _ _ _ (by omega), upd_ne _ _ _ _ (by omega), upd_ne _ _ _ _ (by omega), upd_ne _ _ _ _ (by omega)]
  have hFo : RFo fu A' := by
    refine ⟨⟨?_, ?_, ?_, ?_, ?_, ?_, ?_⟩, ⟨(fgN b st w g p).toNat, by omega, ?_⟩, ⟨fpN b st w g p, pb.1, pb.2, ?_⟩, ⟨b, b1, ?_⟩, ⟨st, s1, s2, ?_⟩, ⟨w, w1, w2, ?_⟩⟩
    · rw [u0, eA]; rfl
    · rw [u1, eA]; rfl
    · rw [u2, A7 4 (by omega)]; exact eb.symm
    · rw [u3, A7 5 (by omega)]; exact es.symm
    · rw [u4, A7 6 (by omega)]; exact ew.symm
    · rw [u5, eA, f5]; rfl
    · rw [u6, eA, f6]; rfl
    · rw [eA]; show iI _ = _; congr 1; omega
    · rw [eA]; rfl
    · rw [A7 4 (by omega)]; exact eb
    · rw [A7 5 (by omega)]; exact es
    · rw [A7 6 (by omega)]; exact ew
  have hJ0 : JR np 0 pi mo (sA um 1 A') := by
    refine ⟨hpi, ?_, hW.cg (fun _ _ => rfl) (fun i i1 i2 => A7 i (by omega)), ?_, fun i i1 i2 => by omega, fun i hi => by omega⟩
    · show gI um 0 = _
      rw [aI 0 (by omega)]; exact hm
    · show RWa np mo (gB um 3)
      rw [aB]; exact hWa
  obtain ⟨pi1, mo1, v1, hJ1, hf1, hm1, rc1, rm1⟩ := joints (r1 := r1) (la := la) hn (np - 1) 0 pi mo (sA um 1 A') (by omega) hJ0
  have vA : gA v1 1 = A' := by rw [hm1.2.1]; rfl
  have vI : ∀ j, gI v1 j = gI um j := fun j => hm1.1 j
  obtain ⟨x, z, pi2, mo2, v2, e1, e2, e3, e4, e5, e6, e7, e8, e9, e10, e11, e12, rc2, rm2⟩ := ends (r1 := r1) (la := la) (o2 := fu) (k := k) hn hn2 hk hJ1 (by rw [vA, A7 _ (by omega)]; exact hb) (by rw [vA, A7 _ (by omega)]; exact hl) (by rw [vA, A7 _ (by omega), u2]; exact eb.symm) (by rw [vI, u0, m4]) (by rw [vI, aI 30 (by omega)]; exact h30)
  have v20 : gI v2 0 = iI np := by rw [e7 0 (by decide), vI, aI 0 (by omega)]; exact hm
  obtain ⟨mo3, v3, w1', w2', w3, w4, w5, w6, w7, rc3, rm3⟩ := weak (r1 := r1) (la := la) (o2 := fu) (x := x) (z := z) hn e1 np 0 mo2 v2 (by omega) v20 (by rw [e9, vA, A7 _ (by omega)]; exact hlo) e2 (fun i hi => by omega)
  have vA3 : gA v3 1 = A' := by rw [w5, e9]; exact vA
  refine ⟨x + z, pi2, mo3, fu, v3, e1, ?_, ⟨w1', fun i hi => ?_, ?_, ?_⟩, ?_, ?_, ?_, ?_, ?_, ?_, fun Q hQ => ?_, fun Q hQ => ?_⟩
  · exact ⟨fun j => (w2'.1 j).trans ((e3.1 j).trans (hf1.1 j)), fun j => (w2'.2 j).trans ((e3.2 j).trans (hf1.2 j))⟩
  · rw [w3, w7 _ (by omega)]; exact e4 i hi
  · rw [w3, w7 _ (by omega)]; exact e5
  · rw [w3, w7 _ (by omega)]; exact e6
  · rw [vA3]; exact hFo
  · intro i hi; rw [vA3]; exact A7 i hi
  · rw [w4]; exact e8
  · rw [w7 _ (by omega)]; exact e11
  · intro i i1 i2
    rw [w7 _ (by omega), e12 i i1 i2, hm1.2.2.2 i i1]
    show gB um 3 i = _
    rw [aB]
  · refine ⟨fun j hj => ?_, ?_, ?_, ?_⟩
    · rw [w4, e7 j (by omega), vI, aI j (by omega)]
    · rw [w5, e9, hm1.2.1]
      show gA um 2 = _
      rw [hmF.2.2.1]; rfl
    · rw [w5, e9, hm1.2.1]
      show gA um 6 = _
      rw [hmF.2.2.1]; rfl
    · rw [w6, e10, hm1.2.2.1]
      show gB um 4 = _
      rw [aB]
  · unfold f_Pi_pass
    refine runC _ ⟨np - 1 + 1, rc1 Q fu (rc2 Q ⟨np + 1, rc3 Q hQ⟩)⟩
  · unfold f_Md_step
    refine runM _ ?_
    rw [aA, m4, m5, m6, m7]
    have y9 : upd (upd (gA m 1) 7 (iI (fgN b st w g p))) 8 (iI (fpN b st w g p)) 9 = gA m 1 9 := by rw [upd_ne _ _ _ _ (by decide), upd_ne _ _ _ _ (by decide)]
    refine k_e y9 ?_
    have y10 : upd (upd (upd (gA m 1) 7 (iI (fgN b st w g p))) 8 (iI (fpN b st w g p))) 9 (gA m 1 9 + iI (fhN b st w g p)) 10 = gA m 1 10 := by rw [upd_ne _ _ _ _ (by decide), upd_ne _ _ _ _ (by decide), upd_ne _ _ _ _ (by decide)]
    refine k_e y10 ?_
    have go : ∀ v : Int32, v = iI (fmN b st w g p) → (∃ w_1, f_Md_step_92 Q w_1 0 (sA um 1 (upd (upd (upd (upd (gA m 1) 7 (iI (fgN b st w g p))) 8 (iI (fpN b st w g p))) 9 (gA m 1 9 + iI (fhN b st w g p))) 10 (gA m 1 10 + v)))) := by
      intro v hv
      rw [hv, ← eA]
      exact ⟨np - 1 + 1, rm1 Q (rm2 Q ⟨np + 1, rm3 Q hQ⟩)⟩
    have hfm : fmN b st w g p = 0 ∨ fmN b st w g p = 1 := by unfold fmN; split <;> omega
    rcases hfm with hz | hz
    · rw [hz]; exact k_t rfl (go 0 (by rw [hz]; rfl))
    · rw [hz]; exact k_f (by decide) (go 1 (by rw [hz]; rfl))
