-- what the relations look at
section CG
variable {mo mo' fo fo' la la' he he' : Ob} {A A' : Nat → Int32} {W W' : Nat → Int64} {t tm np : Nat}
theorem RCl.cg (h : RCl mo A t) (e1 : gI mo' 1 = gI mo 1) (a : A' 0 = A 0) : RCl mo' A' t := ⟨e1.trans h.1, a.trans h.2.1, h.2.2⟩
theorem RSa.cg (h : RSa mo A t) (e2 : gI mo' 2 = gI mo 2) (e3 : ∀ i, i < 20 → gA mo' 3 i = gA mo 3 i) (e4 : ∀ i, i < 20 → gA mo' 4 i = gA mo 4 i) (a3 : A' 3 = A 3) (a : ∀ i, 40 ≤ i → i < 80 → A' i = A i) : RSa mo' A' t := by
  obtain ⟨s, h1, h2, h3, h4⟩ := h
  refine ⟨s, e2.trans h1, a3.trans h2, h3, fun i hi => ?_⟩
  obtain ⟨w, k, w1, k1, g1, g2, g3, g4⟩ := h4 i hi
  exact ⟨w, k, w1, k1, (e3 i (by omega)).trans g1, (e4 i (by omega)).trans g2, (a _ (by omega) (by omega)).trans g3, (a _ (by omega) (by omega)).trans g4⟩
theorem RSa.mono {t' : Nat} (h : RSa mo A t) (ht : t ≤ t') : RSa mo A t' := by
  obtain ⟨s, h1, h2, h3, h4⟩ := h
  refine ⟨s, h1, h2, h3, fun i hi => ?_⟩
  obtain ⟨w, k, w1, k1, g⟩ := h4 i hi
  exact ⟨w, k, w1, by omega, g⟩
theorem RTi.cg (h : RTi mo A tm) (e1 : gI mo' 11 = gI mo 11) (e2 : gI mo' 12 = gI mo 12) (a1 : A' 1 = A 1) (a2 : A' 2 = A 2) : RTi mo' A' tm := by
  obtain ⟨h1, h2, h3, lk, h4, h5, h6⟩ := h
  exact ⟨e1.trans h1, a1.trans h2, h3, lk, e2.trans h4, a2.trans h5, h6⟩
theorem RWi.cg (h : RWi mo A) (e : ∀ i, i < 5 → gA mo' 5 i = gA mo 5 i) (a : ∀ i, 20 ≤ i → i < 25 → A' i = A i) : RWi mo' A' := fun i hi => by
  rw [a _ (by omega) (by omega), e i hi]; exact h i hi
theorem RGr.cg (h : RGr mo A) (e : ∀ i, i < 5 → gA mo' 10 i = gA mo 10 i) (a : ∀ i, 30 ≤ i → i < 35 → A' i = A i) : RGr mo' A' := fun i hi => by
  rw [a _ (by omega) (by omega), e i hi]; exact h i hi
theorem RWa.cg (h : RWa np mo W) (hn : np ≤ 5) (e6 : ∀ i, i < 5 → gB mo' 6 i = gB mo 6 i) (e7 : ∀ i, i < 5 → gB mo' 7 i = gB mo 7 i) (e8 : ∀ i, i < 6 → gB mo' 8 i = gB mo 8 i) (w : ∀ i, i < 16 → W' i = W i) : RWa np mo' W' := by
  refine ⟨fun i hi => ?_, fun i hi => ?_, ?_, ?_⟩
  · rw [e6 i (by omega), e7 i (by omega), w _ (by omega), w _ (by omega)]; exact h.1 i hi
  · rw [e8 i (by omega), w _ (by omega)]; exact h.2.1 i hi
  · rw [e8 4 (by omega), w _ (by omega)]; exact h.2.2.1
  · rw [e8 5 (by omega), w _ (by omega)]; exact h.2.2.2
theorem RFo.cg (h : RFo fo A) (e : ∀ i, i < 7 → gI fo' i = gI fo i) (a : ∀ i, 4 ≤ i → i ≤ 10 → A' i = A i) : RFo fo' A' := by
  unfold RFo at h ⊢
  rw [e 0 (by omega), e 1 (by omega), e 2 (by omega), e 3 (by omega), e 4 (by omega), e 5 (by omega), e 6 (by omega), a 4 (by omega) (by omega), a 5 (by omega) (by omega), a 6 (by omega) (by omega), a 7 (by omega) (by omega), a 8 (by omega) (by omega), a 9 (by omega) (by omega), a 10 (by omega) (by omega)]
  exact h
theorem RGe.cg {i : Nat} (h : RGe np la A i) (hi : i < 20) (a : ∀ i, 5600 ≤ i → i < 5900 → A' i = A i) : RGe np la A' i := by
  unfold RGe at h ⊢
  rw [a _ (by omega) (by omega), a (5611 + 6 * i) (by omega) (by omega), a (5612 + 6 * i) (by omega) (by omega), a (5613 + 6 * i) (by omega) (by omega), a (5614 + 6 * i) (by omega) (by omega), a (5615 + 6 * i) (by omega) (by omega)]
  exact h
theorem RWd.cg {w : Nat} (h : RWd la A w) (hw : w < 8) (a : ∀ i, 5600 ≤ i → i < 5900 → A' i = A i) : RWd la A' w := by
  obtain ⟨n, h1, h2, h3, h4⟩ := h
  refine ⟨n, h1, h2, (a _ (by omega) (by omega)).trans h3, fun j hj => ?_⟩
  have := h4 j hj
  rw [a _ (by omega) (by omega), a (5742 + 17 * w + 2 * j) (by omega) (by omega)]
  exact this
theorem RLa.cg (h : RLa np la A) (a : ∀ i, 5600 ≤ i → i < 5900 → A' i = A i) : RLa np la A' := by
  obtain ⟨h1, h2, h3, h4, h5, ⟨g, g1, g2, g3, g4⟩, h7⟩ := h
  refine ⟨fun i hi => ?_, ?_, ?_, ?_, ?_, ⟨g, g1, g2, (a _ (by omega) (by omega)).trans g3, fun i hi => (g4 i hi).cg (by omega) a⟩, fun w hw => (h7 w hw).cg hw a⟩
  · rw [a _ (by omega) (by omega)]; exact h1 i hi
  · rw [a _ (by omega) (by omega)]; exact h2
  · rw [a _ (by omega) (by omega)]; exact h3
  · rw [a _ (by omega) (by omega)]; exact h4
  · rw [a _ (by omega) (by omega)]; exact h5
theorem RLd.cg {ld ld' : Nat → Int32} (h : RLd np ld A t) (ht : t ≤ 200) (hn : np ≤ 5) (e : ∀ i, i < 5 * t → ld' i = ld i) (a : ∀ i, 520 ≤ i → i < 520 + 25 * t → A' i = A i) : RLd np ld' A' t := by
  intro k hk i hi
  rw [e _ (by omega), a _ (by omega) (by omega), a (521 + 25 * k + 5 * i) (by omega) (by omega), a (522 + 25 * k + 5 * i) (by omega) (by omega), a (523 + 25 * k + 5 * i) (by omega) (by omega), a (524 + 25 * k + 5 * i) (by omega) (by omega)]
  exact h k hk i hi
theorem RLd.mono {ld : Nat → Int32} {t' : Nat} (h : RLd np ld A t) (ht : t' ≤ t) : RLd np ld A t' := fun k hk => h k (by omega)
theorem RSn.cg {sn sn' : Nat → Int64} (h : RSn sn W t) (e : ∀ i, i < 10 * t → sn' i = sn i) (w : ∀ i, 16 ≤ i → i < 16 + 10 * t → W' i = W i) : RSn sn' W' t := fun k hk => by
  rw [e k hk, w _ (by omega) (by omega)]; exact h k hk
theorem RSn.mono {sn : Nat → Int64} {t' : Nat} (h : RSn sn W t) (ht : t' ≤ t) : RSn sn W t' := fun k hk => h k (by omega)
theorem RHe.cg (h : RHe he A tm) (ht : tm ≤ 100) (e0 : ∀ i, i < tm → gA he' 0 i = gA he 0 i) (e1 : ∀ i, i < tm → gA he' 1 i = gA he 1 i) (e2 : ∀ i, i < tm → gA he' 2 i = gA he 2 i) (a : ∀ i, 100 ≤ i → i < 100 + 4 * tm → A' i = A i) : RHe he' A' tm := by
  intro i hi
  rw [a _ (by omega) (by omega), a (101 + 4 * i) (by omega) (by omega), a (102 + 4 * i) (by omega) (by omega), a (103 + 4 * i) (by omega) (by omega), e0 i hi, e1 i hi, e2 i hi]
  exact h i hi
theorem RHe.mono {tm' : Nat} (h : RHe he A tm) (ht : tm' ≤ tm) : RHe he A tm' := fun k hk => h k (by omega)
/-- other rows that say the same -/
theorem MR.cg {ld : Nat → Int32} {sn : Nat → Int64} (h : MR np mo fo la ld sn he A W t tm) (hn : np ≤ 5) (a : ∀ i, i < 6100 → A' i = A i) (w : ∀ i, i < 2016 → W' i = W i) : MR np mo fo la ld sn he A' W' t tm := by
  obtain ⟨h1, h2, h3, h4, h5, h6, h7, h8, h9, h10, h11⟩ := h
  have ht := h1.2.2
  have htm := h3.2.2.1
  exact ⟨h1.cg rfl (a _ (by omega)), h2.cg rfl (fun _ _ => rfl) (fun _ _ => rfl) (a _ (by omega)) (fun i _ _ => a i (by omega)), h3.cg rfl rfl (a _ (by omega)) (a _ (by omega)), h4.cg (fun _ _ => rfl) (fun i _ _ => a i (by omega)), h5.cg (fun _ _ => rfl) (fun i _ _ => a i (by omega)), h6.cg hn (fun _ _ => rfl) (fun _ _ => rfl) (fun _ _ => rfl) (fun i _ => w i (by omega)), h7.cg (fun _ _ => rfl) (fun i _ _ => a i (by omega)), h8.cg (fun i _ _ => a i (by omega)), h9.cg ht hn (fun _ _ => rfl) (fun i _ _ => a i (by omega)), h10.cg (fun _ _ => rfl) (fun i _ _ => w i (by omega)), h11.cg htm (fun _ _ => rfl) (fun _ _ => rfl) (fun _ _ => rfl) (fun i _ _ => a i (by omega))⟩
end CG
-- the image
theorem cpy_at {α : Type} (f g : Nat → α) (n i : Nat) (h : i < n) : va_cpy f g 0 0 n i = f i := by
  unfold va_cpy
  rw [if_pos (by omega)]
  congr 1
  omega
theorem mo_copy {np : Nat} {mo fo mo2 fo2 la he : Ob} {r r2 : Nat → Nat} {ld : Nat → Int32} {sn : Nat → Int64} {A : Nat → Int32} {W : Nat → Int64} {t tm : Nat} {Q : (Nat → Nat) → Ob → Ob → Prop} (hn : np ≤ 5) (h : MR np mo fo la ld sn he A W t tm) (hq : ∀ u v, MR np u v la ld sn he A W t tm → gI u 1 = gI mo 1 → Q (up r2 0 (r 0)) u v) : f_Mo_copy r2 mo2 fo2 r mo fo Q := by
  unfold f_Mo_copy f_Fo_copy
  obtain ⟨h1, h2, h3, h4, h5, h6, h7, h8, h9, h10, h11⟩ := h
  refine hq _ _ ⟨h1.cg rfl rfl, h2.cg rfl (fun i hi => cpy_at _ _ _ _ hi) (fun i hi => cpy_at _ _ _ _ hi) rfl (fun _ _ _ => rfl), h3.cg rfl rfl rfl rfl, h4.cg (fun i hi => cpy_at _ _ _ _ hi) (fun _ _ _ => rfl), h5.cg (fun i hi => cpy_at _ _ _ _ hi) (fun _ _ _ => rfl), h6.cg hn (fun i hi => cpy_at _ _ _ _ hi) (fun i hi => cpy_at _ _ _ _ hi) (fun i hi => cpy_at _ _ _ _ hi) (fun _ _ => rfl), h7.cg (fun i hi => ?_) (fun _ _ _ => rfl), h8, h9, h10, h11⟩ rfl
  match i, hi with
  | 0, _ => rfl
  | 1, _ => rfl
  | 2, _ => rfl
  | 3, _ => rfl
  | 4, _ => rfl
  | 5, _ => rfl
  | 6, _ => rfl
/-- the model with some rows changed -/
def mdK (ja jb : Nat) (m u : Ob) : Prop := (∀ k, gI u k = gI m k) ∧ gL u = gL m ∧ (∀ k, k ≠ ja → gA u k = gA m k) ∧ (∀ k, k ≠ jb → gB u k = gB m k)
theorem gB_sB_ne (o : Ob) (k j : Nat) (v : Nat → Int64) (h : j ≠ k) : gB (sB o k v) j = gB o j := by
  have : Nat.beq j k = false := beq_ne h
  simp [gB, sB, up, this]
theorem mdK.rf (ja jb : Nat) (m : Ob) : mdK ja jb m m := ⟨fun _ => rfl, rfl, fun _ _ => rfl, fun _ _ => rfl⟩
theorem mdK.sa {ja jb : Nat} {m u : Ob} (h : mdK ja jb m u) (f : Nat → Int32) : mdK ja jb m (sA u ja f) := ⟨h.1, h.2.1, fun k hk => by rw [gA_sA_ne _ _ _ _ hk]; exact h.2.2.1 k hk, h.2.2.2⟩
theorem mdK.sb {ja jb : Nat} {m u : Ob} (h : mdK ja jb m u) (f : Nat → Int64) : mdK ja jb m (sB u jb f) := ⟨h.1, h.2.1, h.2.2.1, fun k hk => by rw [gB_sB_ne _ _ _ _ hk]; exact h.2.2.2 k hk⟩
theorem md_keep {m : Ob} {Q : Ob → Prop} (hq : ∀ u, mdK 2 4 m u → (∀ i, i < 6100 → gA u 2 i = gA m 1 i) → (∀ i, i < 2016 → gB u 4 i = gB m 3 i) → Q u) : f_Md_keep m Q := by
  have l2 : ∀ (f k : Nat) (u : Ob), f + k = 2016 → mdK 2 4 m u → (∀ i, i < 6100 → gA u 2 i = gA m 1 i) → (∀ i, i < k → gB u 4 i = gB m 3 i) → f_Md_keep_29 Q (f + 1) (iI k) u := by
    intro f
    induction f with
    | zero =>
      intro k u hk hu h1 h2
      have : k = 2016 := by omega
      subst this
      unfold f_Md_keep_29
      exact b_le (a := 2016) (fun _ => hq u hu h1 h2) (fun q => by omega)
    | succ f ih =>
      intro k u hk hu h1 h2
      unfold f_Md_keep_29
      refine b_le (a := 2016) (fun q => by omega) (fun _ => ⟨v_nat (by omega) (by decide), v_nat (by omega) (by decide), ?_⟩)
      have en : iI (k : Int) + (1 : Int32) = iI ((k + 1 : Nat) : Int) := ix_add k 1
      rw [en, cl_nat (by omega)]
      refine ih (k + 1) _ (by omega) (hu.sb _) h1 (fun i hi => ?_)
      show vp_updL (gB u 4) k (gB u 3 k) i = _
      by_cases hik : i = k
      · subst hik; rw [updL_same, hu.2.2.2 3 (by decide)]
      · rw [updL_ne _ _ _ _ hik]; exact h2 i (by omega)
  have l1 : ∀ (f k : Nat) (u : Ob), f + k = 6100 → mdK 2 4 m u → (∀ i, i < k → gA u 2 i = gA m 1 i) → f_Md_keep_2 Q (f + 1) (iI k) u := by
    intro f
    induction f with
    | zero =>
      intro k u hk hu h1
      have : k = 6100 := by omega
      subst this
      unfold f_Md_keep_2
      exact b_le (a := 6100) (fun _ => ⟨2017, l2 2016 0 u rfl hu h1 (fun i hi => by omega)⟩) (fun q => by omega)
    | succ f ih =>
      intro k u hk hu h1
      unfold f_Md_keep_2
      refine b_le (a := 6100) (fun q => by omega) (fun _ => ⟨v_nat (by omega) (by decide), v_nat (by omega) (by decide), ?_⟩)
      have en : iI (k : Int) + (1 : Int32) = iI ((k + 1 : Nat) : Int) := ix_add k 1
      rw [en, cl_nat (by omega)]
      refine ih (k + 1) _ (by omega) (hu.sa _) (fun i hi => ?_)
      show upd (gA u 2) k (gA u 1 k) i = _
      by_cases hik : i = k
      · subst hik; rw [upd_same, hu.2.2.1 1 (by decide)]
      · rw [upd_ne _ _ _ _ hik]; exact h1 i (by omega)
  exact ⟨6101, l1 6100 0 m rfl (mdK.rf 2 4 m) (fun i hi => by omega)⟩
theorem md_back {m : Ob} {Q : Int32 → Ob → Prop} (hq : ∀ u, mdK 1 3 m u → (∀ i, i < 6100 → gA u 1 i = gA m 2 i) → (∀ i, i < 2016 → gB u 3 i = gB m 4 i) → Q (gA u 1 0) u) : f_Md_back m Q := by
  have l2 : ∀ (f k : Nat) (u : Ob), f + k = 2016 → mdK 1 3 m u → (∀ i, i < 6100 → gA u 1 i = gA m 2 i) → (∀ i, i < k → gB u 3 i = gB m 4 i) → f_Md_back_29 Q (f + 1) (iI k) u := by
    intro f
    induction f with
    | zero =>
      intro k u hk hu h1 h2
      have : k = 2016 := by omega
      subst this
      unfold f_Md_back_29
      exact b_le (a := 2016) (fun _ => hq u hu h1 h2) (fun q => by omega)
    | succ f ih =>
      intro k u hk hu h1 h2
      unfold f_Md_back_29
      refine b_le (a := 2016) (fun q => by omega) (fun _ => ⟨v_nat (by omega) (by decide), v_nat (by omega) (by decide), ?_⟩)
      have en : iI (k : Int) + (1 : Int32) = iI ((k + 1 : Nat) : Int) := ix_add k 1
      rw [en, cl_nat (by omega)]
      refine ih (k + 1) _ (by omega) (hu.sb _) h1 (fun i hi => ?_)
      show vp_updL (gB u 3) k (gB u 4 k) i = _
      by_cases hik : i = k
      · subst hik; rw [updL_same, hu.2.2.2 4 (by decide)]
      · rw [updL_ne _ _ _ _ hik]; exact h2 i (by omega)
  have l1 : ∀ (f k : Nat) (u : Ob), f + k = 6100 → mdK 1 3 m u → (∀ i, i < k → gA u 1 i = gA m 2 i) → f_Md_back_2 Q (f + 1) (iI k) u := by
    intro f
    induction f with
    | zero =>
      intro k u hk hu h1
      have : k = 6100 := by omega
      subst this
      unfold f_Md_back_2
      exact b_le (a := 6100) (fun _ => ⟨2017, l2 2016 0 u rfl hu h1 (fun i hi => by omega)⟩) (fun q => by omega)
    | succ f ih =>
      intro k u hk hu h1
      unfold f_Md_back_2
      refine b_le (a := 6100) (fun q => by omega) (fun _ => ⟨v_nat (by omega) (by decide), v_nat (by omega) (by decide), ?_⟩)
      have en : iI (k : Int) + (1 : Int32) = iI ((k + 1 : Nat) : Int) := ix_add k 1
      rw [en, cl_nat (by omega)]
      refine ih (k + 1) _ (by omega) (hu.sa _) (fun i hi => ?_)
      show upd (gA u 1) k (gA u 2 k) i = _
      by_cases hik : i = k
      · subst hik; rw [upd_same, hu.2.2.1 2 (by decide)]
      · rw [upd_ne _ _ _ _ hik]; exact h1 i (by omega)
  exact ⟨6101, l1 6100 0 m rfl (mdK.rf 1 3 m) (fun i hi => by omega)⟩
