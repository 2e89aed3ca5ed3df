-- the law that is being read
def G5 (np : Nat) (la : Ob) (f : Nat → Int32) (i : Nat) : Prop := (gA la 6 i = f (10 + 6 * i) ∧ okN 7 (f (10 + 6 * i))) ∧ (gA la 7 i = f (11 + 6 * i) ∧ okN (np - 1) (f (11 + 6 * i))) ∧ (gA la 8 i = f (12 + 6 * i) ∧ okW (f (12 + 6 * i))) ∧ (gA la 9 i = f (13 + 6 * i) ∧ ∃ v : Nat, 1 ≤ v ∧ v ≤ 6 ∧ f (13 + 6 * i) = iI v) ∧ (gA la 10 i = f (14 + 6 * i) ∧ ∃ v : Nat, 1 ≤ v ∧ v ≤ 50 ∧ f (14 + 6 * i) = iI v) ∧ gA la 11 i = f (15 + 6 * i) ∧ okN 9 (f (15 + 6 * i))
def I5 (la : Ob) (f : Nat → Int32) (w j : Nat) : Prop := (gA la 13 (8 * w + j) = f (141 + 17 * w + 2 * j) ∧ okN 7 (f (141 + 17 * w + 2 * j))) ∧ gA la 14 (8 * w + j) = f (142 + 17 * w + 2 * j) ∧ okN 99 (f (142 + 17 * w + 2 * j))
def W5 (la : Ob) (f : Nat → Int32) (w : Nat) : Prop := ∃ m : Nat, m ≤ 8 ∧ gA la 12 w = iI m ∧ f (140 + 17 * w) = iI m ∧ ∀ j : Nat, j < m → I5 la f w j
def L5 (np : Nat) (la : Ob) (f : Nat → Int32) : Prop := (∀ i : Nat, i < 5 → okW (f (5 + i)) ∧ gA la 0 i = f (5 + i)) ∧ (gI la 1 = f 1 ∧ okN 100 (f 1)) ∧ (gI la 2 = f 2 ∧ okN 100 (f 2)) ∧ (gI la 3 = f 3 ∧ okN 100 (f 3)) ∧ gI la 4 = f 0 ∧ (∃ g : Nat, g ≤ 20 ∧ gI la 5 = iI g ∧ f 4 = iI g ∧ ∀ i : Nat, i < g → G5 np la f i) ∧ ∀ w : Nat, w < 8 → W5 la f w
section L5S
variable {np : Nat} {la la' : Ob} {f f' : Nat → Int32}
theorem L5.R {A : Nat → Int32} (h : L5 np la f) (a : ∀ i, i < 300 → A (5600 + i) = f i) : RLa np la A := by
  have at_ : ∀ k j, k = 5600 + j → j < 300 → A k = f j := fun k j e hj => e ▸ a j hj
  obtain ⟨h1, h2, h3, h4, h5, ⟨g, g1, g2, g3, g4⟩, h7⟩ := h
  refine ⟨fun i hi => ?_, ?_, ?_, ?_, ?_, ⟨g, g1, g2, ?_, fun i hi => ?_⟩, fun w hw => ?_⟩
  · rw [at_ (5605 + i) (5 + i) (by omega) (by omega)]; exact h1 i hi
  · rw [at_ 5601 1 rfl (by decide)]; exact h2
  · rw [at_ 5602 2 rfl (by decide)]; exact h3
  · rw [at_ 5603 3 rfl (by decide)]; exact h4
  · rw [at_ 5600 0 rfl (by decide)]; exact h5
  · rw [at_ 5604 4 rfl (by decide)]; exact g3
  · unfold RGe
    rw [at_ (5610 + 6 * i) (10 + 6 * i) (by omega) (by omega), at_ (5611 + 6 * i) (11 + 6 * i) (by omega) (by omega), at_ (5612 + 6 * i) (12 + 6 * i) (by omega) (by omega), at_ (5613 + 6 * i) (13 + 6 * i) (by omega) (by omega), at_ (5614 + 6 * i) (14 + 6 * i) (by omega) (by omega), at_ (5615 + 6 * i) (15 + 6 * i) (by omega) (by omega)]
    exact g4 i hi
  · obtain ⟨m, m1, m2, m3, m4⟩ := h7 w hw
    refine ⟨m, m1, m2, by rw [at_ (5740 + 17 * w) (140 + 17 * w) (by omega) (by omega)]; exact m3, fun j hj => ?_⟩
    rw [at_ (5741 + 17 * w + 2 * j) (141 + 17 * w + 2 * j) (by omega) (by omega), at_ (5742 + 17 * w + 2 * j) (142 + 17 * w + 2 * j) (by omega) (by omega)]
    exact m4 j hj
theorem G5.cg {i : Nat} (h : G5 np la f i) (hl : ∀ k, 6 ≤ k → k ≤ 11 → gA la' k i = gA la k i) (hf : ∀ j, 10 + 6 * i ≤ j → j ≤ 15 + 6 * i → f' j = f j) : G5 np la' f' i := by
  unfold G5
  rw [hl 6 (by omega) (by omega), hl 7 (by omega) (by omega), hl 8 (by omega) (by omega), hl 9 (by omega) (by omega), hl 10 (by omega) (by omega), hl 11 (by omega) (by omega), hf (10 + 6 * i) (by omega) (by omega), hf (11 + 6 * i) (by omega) (by omega), hf (12 + 6 * i) (by omega) (by omega), hf (13 + 6 * i) (by omega) (by omega), hf (14 + 6 * i) (by omega) (by omega), hf (15 + 6 * i) (by omega) (by omega)]
  exact h
theorem I5.cg {w j : Nat} (h : I5 la f w j) (hl : gA la' 13 (8 * w + j) = gA la 13 (8 * w + j) ∧ gA la' 14 (8 * w + j) = gA la 14 (8 * w + j)) (hf : f' (141 + 17 * w + 2 * j) = f (141 + 17 * w + 2 * j) ∧ f' (142 + 17 * w + 2 * j) = f (142 + 17 * w + 2 * j)) : I5 la' f' w j := by
  unfold I5
  rw [hl.1, hl.2, hf.1, hf.2]
  exact h
theorem W5.cg {w : Nat} (h : W5 la f w) (h12 : gA la' 12 w = gA la 12 w) (hl : ∀ j, j < 8 → gA la' 13 (8 * w + j) = gA la 13 (8 * w + j) ∧ gA la' 14 (8 * w + j) = gA la 14 (8 * w + j)) (hf : ∀ j, 140 + 17 * w ≤ j → j ≤ 156 + 17 * w → f' j = f j) : W5 la' f' w := by
  obtain ⟨m, m1, m2, m3, m4⟩ := h
  exact ⟨m, m1, h12.trans m2, (hf _ (by omega) (by omega)).trans m3, fun j hj => (m4 j hj).cg (hl j (by omega)) ⟨hf _ (by omega) (by omega), hf _ (by omega) (by omega)⟩⟩
/-- a clause more -/
theorem L5.cl (h : L5 np la f) : L5 np (sI la 4 (gI la 4 + (1 : Int32))) (upd f 0 (f 0 + (1 : Int32))) := by
  obtain ⟨h1, h2, h3, h4, h5, ⟨g, g1, g2, g3, g4⟩, h7⟩ := h
  refine ⟨fun i hi => ?_, ?_, ?_, ?_, ?_, ⟨g, g1, g2, ?_, fun i hi => (g4 i hi).cg (fun _ _ _ => rfl) (fun j _ _ => upd_ne _ _ _ _ (by omega))⟩, fun w hw => (h7 w hw).cg rfl (fun _ _ => ⟨rfl, rfl⟩) (fun j _ _ => upd_ne _ _ _ _ (by omega))⟩
  · rw [upd_ne _ _ _ _ (by omega)]; exact h1 i hi
  · rw [upd_ne _ _ _ _ (by omega)]; exact h2
  · rw [upd_ne _ _ _ _ (by omega)]; exact h3
  · rw [upd_ne _ _ _ _ (by omega)]; exact h4
  · rw [upd_same]
    show gI la 4 + 1 = f 0 + 1
    rw [h5]
  · rw [upd_ne _ _ _ _ (by omega)]; exact g3
/-- one of the three parts -/
theorem L5.part {a w : Nat} (ha : 1 ≤ a ∧ a < 4) (hw : w ≤ 100) (h : L5 np la f) : L5 np (sI la a (iI w)) (upd f a (iI w)) := by
  obtain ⟨h1, h2, h3, h4, h5, ⟨g, g1, g2, g3, g4⟩, h7⟩ := h
  have sel : ∀ k, 1 ≤ k → k < 4 → gI la k = f k ∧ okN 100 (f k) → gI (sI la a (iI w)) k = upd f a (iI w) k ∧ okN 100 (upd f a (iI w) k) := by
    intro k k1 k2 hk
    by_cases e : k = a
    · subst e
      rw [upd_same, gI_sI_same]
      exact ⟨rfl, w, hw, rfl⟩
    · rw [upd_ne _ _ _ _ e, gI_sI_ne _ _ _ _ e]; exact hk
  refine ⟨fun i hi => ?_, sel 1 (by omega) (by omega) h2, sel 2 (by omega) (by omega) h3, sel 3 (by omega) (by omega) h4, ?_, ⟨g, g1, ?_, ?_, fun i hi => (g4 i hi).cg (fun _ _ _ => rfl) (fun j _ _ => upd_ne _ _ _ _ (by omega))⟩, fun v hv => (h7 v hv).cg rfl (fun _ _ => ⟨rfl, rfl⟩) (fun j _ _ => upd_ne _ _ _ _ (by omega))⟩
  · rw [upd_ne _ _ _ _ (by omega)]; exact h1 i hi
  · rw [upd_ne _ _ _ _ (by omega), gI_sI_ne _ _ _ _ (by omega)]; exact h5
  · rw [gI_sI_ne _ _ _ _ (by omega)]; exact g2
  · rw [upd_ne _ _ _ _ (by omega)]; exact g3
/-- a width of rest -/
theorem L5.rest {i w : Nat} (hi : i < 5) (hw : 1 ≤ w ∧ w ≤ 12) (h : L5 np la f) : L5 np (sA la 0 (upd (gA la 0) i (iI w))) (upd f (5 + i) (iI w)) := by
  obtain ⟨h1, h2, h3, h4, h5, ⟨g, g1, g2, g3, g4⟩, h7⟩ := h
  refine ⟨fun j hj => ?_, ?_, ?_, ?_, ?_, ⟨g, g1, g2, ?_, fun j hj => (g4 j hj).cg (fun k k1 k2 => by rw [gA_sA_ne _ _ _ _ (by omega)]) (fun k _ _ => upd_ne _ _ _ _ (by omega))⟩, fun v hv => (h7 v hv).cg rfl (fun _ _ => ⟨rfl, rfl⟩) (fun k _ _ => upd_ne _ _ _ _ (by omega))⟩
  · show okW _ ∧ upd (gA la 0) i (iI w) j = _
    by_cases e : j = i
    · subst e
      rw [upd_same, upd_same]
      exact ⟨⟨w, hw.1, hw.2, rfl⟩, rfl⟩
    · rw [upd_ne _ _ _ _ (by omega), upd_ne _ _ _ _ e]; exact h1 j hj
  · rw [upd_ne _ _ _ _ (by omega)]; exact h2
  · rw [upd_ne _ _ _ _ (by omega)]; exact h3
  · rw [upd_ne _ _ _ _ (by omega)]; exact h4
  · rw [upd_ne _ _ _ _ (by omega)]; exact h5
  · rw [upd_ne _ _ _ _ (by omega)]; exact g3
end L5S
-- at the beginning
theorem cl_clear (la : Ob) : ∃ la', ((∀ i : Nat, i < 5 → gA la' 0 i = 6) ∧ (∀ w : Nat, w < 8 → gA la' 12 w = 0) ∧ gI la' 1 = 0 ∧ gI la' 2 = 100 ∧ gI la' 3 = 100 ∧ gI la' 4 = 0 ∧ gI la' 5 = 0) ∧ ∀ K : Ob → Prop, K la' → f_La_clear la K := by
  have l23 : ∀ (d w : Nat) (o : Ob), d + w = 8 → (∀ i : Nat, i < 5 → gA o 0 i = 6) → (∀ j : Nat, j < w → gA o 12 j = 0) → ∃ la', ((∀ i : Nat, i < 5 → gA la' 0 i = 6) ∧ (∀ w : Nat, w < 8 → gA la' 12 w = 0) ∧ gI la' 1 = 0 ∧ gI la' 2 = 100 ∧ gI la' 3 = 100 ∧ gI la' 4 = 0 ∧ gI la' 5 = 0) ∧ ∀ K : Ob → Prop, K la' → f_La_clear_23 K (d + 1) (iI w) o := by
    intro d
    induction d with
    | zero =>
      intro w o hw h0 h12
      have : w = 8 := by omega
      subst this
      refine ⟨sI (sI (sI (sI (sI o 1 (0 : Int32)) 2 (100 : Int32)) 3 (100 : Int32)) 4 (0 : Int32)) 5 (0 : Int32), ⟨h0, h12, rfl, rfl, rfl, rfl, rfl⟩, fun K hK => ?_⟩
      unfold f_La_clear_23
      exact k_t (by decide) hK
    | succ d ih =>
      intro w o hw h0 h12
      have ew : iI (w : Int) + (1 : Int32) = iI ((w + 1 : Nat) : Int) := ix_add w 1
      obtain ⟨la', a1, a2⟩ := ih (w + 1) (sA o 12 (upd (gA o 12) w (0 : Int32))) (by omega) h0 (fun j hj => by
        show upd (gA o 12) w 0 j = 0
        by_cases e : j = w
        · subst e; exact upd_same _ _ _
        · rw [upd_ne _ _ _ _ e]; exact h12 j (by omega))
      refine ⟨la', a1, fun K hK => ?_⟩
      unfold f_La_clear_23
      rw [ew, cl_nat (by omega)]
      exact b_le (a := 8) (fun q => by omega) (fun _ => ⟨v_nat (by omega) (by decide), a2 K hK⟩)
  have l2 : ∀ (d w : Nat) (o : Ob), d + w = 5 → (∀ j : Nat, j < w → gA o 0 j = 6) → ∃ la', ((∀ i : Nat, i < 5 → gA la' 0 i = 6) ∧ (∀ w : Nat, w < 8 → gA la' 12 w = 0) ∧ gI la' 1 = 0 ∧ gI la' 2 = 100 ∧ gI la' 3 = 100 ∧ gI la' 4 = 0 ∧ gI la' 5 = 0) ∧ ∀ K : Ob → Prop, K la' → f_La_clear_2 K (d + 1) (iI w) o := by
    intro d
    induction d with
    | zero =>
      intro w o hw h0
      have : w = 5 := by omega
      subst this
      obtain ⟨la', a1, a2⟩ := l23 8 0 o rfl h0 (fun j hj => by omega)
      refine ⟨la', a1, fun K hK => ?_⟩
      unfold f_La_clear_2
      exact k_t (by decide) ⟨_, a2 K hK⟩
    | succ d ih =>
      intro w o hw h0
      have ew : iI (w : Int) + (1 : Int32) = iI ((w + 1 : Nat) : Int) := ix_add w 1
      obtain ⟨la', a1, a2⟩ := ih (w + 1) (sA o 0 (upd (gA o 0) w (6 : Int32))) (by omega) (fun j hj => by
        show upd (gA o 0) w 6 j = 6
        by_cases e : j = w
        · subst e; exact upd_same _ _ _
        · rw [upd_ne _ _ _ _ e]; exact h0 j (by omega))
      refine ⟨la', a1, fun K hK => ?_⟩
      unfold f_La_clear_2
      rw [ew, cl_nat (by omega)]
      exact b_le (a := 5) (fun q => by omega) (fun _ => ⟨v_nat (by omega) (by decide), a2 K hK⟩)
  obtain ⟨la', a1, a2⟩ := l2 5 0 la rfl (fun j hj => by omega)
  exact ⟨la', a1, fun K hK => ⟨_, a2 K hK⟩⟩
theorem md_plain (u : Ob) : ∃ f : Nat → Int32, ((∀ i : Nat, i < 300 → f i = if i = 2 ∨ i = 3 then 100 else if 5 ≤ i ∧ i < 10 then 6 else 0)) ∧ ∀ K : Ob → Prop, K (sA u 5 f) → f_Md_plain u K := by
  have l40 : ∀ (d w : Nat) (g : Nat → Int32), d + w = 5 → (∀ i : Nat, i < 300 → g i = if i = 2 ∨ i = 3 then 100 else if 5 ≤ i ∧ i < 5 + w then 6 else 0) → ∃ f : Nat → Int32, ((∀ i : Nat, i < 300 → f i = if i = 2 ∨ i = 3 then 100 else if 5 ≤ i ∧ i < 10 then 6 else 0)) ∧ ∀ K : Ob → Prop, K (sA u 5 f) → f_Md_plain_40 K (d + 1) (iI w) (sA u 5 g) := by
    intro d
    induction d with
    | zero =>
      intro w g hw hg
      have : w = 5 := by omega
      subst this
      refine ⟨g, hg, fun K hK => ?_⟩
      unfold f_Md_plain_40
      exact k_t (by decide) hK
    | succ d ih =>
      intro w g hw hg
      have ew : iI (w : Int) + (1 : Int32) = iI ((w + 1 : Nat) : Int) := ix_add w 1
      have e5 : (5 : Int32) + iI (w : Int) = iI ((5 + w : Nat) : Int) := ix_add 5 w
      obtain ⟨f, a1, a2⟩ := ih (w + 1) (upd g (5 + w) (6 : Int32)) (by omega) (fun i hi => by
        by_cases e : i = 5 + w
        · rw [e, upd_same, if_neg (by omega), if_pos (by omega)]
        · rw [upd_ne _ _ _ _ e, hg i hi]
          by_cases q : i = 2 ∨ i = 3
          · rw [if_pos q, if_pos q]
          · rw [if_neg q, if_neg q]
            by_cases q2 : 5 ≤ i ∧ i < 5 + w
            · rw [if_pos q2, if_pos (by omega)]
            · rw [if_neg q2, if_neg (by omega)])
      refine ⟨f, a1, fun K hK => ?_⟩
      unfold f_Md_plain_40
      rw [ew, e5, cl_nat (by omega), sA_sA]
      exact b_le (a := 5) (fun q => by omega) (fun _ => ⟨v_nat (by omega) (by decide), a2 K hK⟩)
  have l2 : ∀ (d w : Nat) (g : Nat → Int32), d + w = 300 → (∀ i : Nat, i < w → g i = 0) → ∃ f : Nat → Int32, ((∀ i : Nat, i < 300 → f i = if i = 2 ∨ i = 3 then 100 else if 5 ≤ i ∧ i < 10 then 6 else 0)) ∧ ∀ K : Ob → Prop, K (sA u 5 f) → f_Md_plain_2 K (d + 1) (iI w) (sA u 5 g) := by
    intro d
    induction d with
    | zero =>
      intro w g hw hg
      have : w = 300 := by omega
      subst this
      obtain ⟨f, a1, a2⟩ := l40 5 0 (upd (upd g 2 (100 : Int32)) 3 (100 : Int32)) rfl (fun i hi => by
        by_cases e : i = 3
        · rw [e, upd_same, if_pos (by omega)]
        · rw [upd_ne _ _ _ _ e]
          by_cases e2 : i = 2
          · rw [e2, upd_same, if_pos (by omega)]
          · rw [upd_ne _ _ _ _ e2, hg i hi, if_neg (by omega), if_neg (by omega)])
      refine ⟨f, a1, fun K hK => ?_⟩
      unfold f_Md_plain_2
      rw [sA_sA]
      exact k_t (by decide) ⟨_, a2 K hK⟩
    | succ d ih =>
      intro w g hw hg
      have ew : iI (w : Int) + (1 : Int32) = iI ((w + 1 : Nat) : Int) := ix_add w 1
      obtain ⟨f, a1, a2⟩ := ih (w + 1) (upd g w (0 : Int32)) (by omega) (fun i hi => by
        by_cases e : i = w
        · rw [e, upd_same]
        · rw [upd_ne _ _ _ _ e]; exact hg i (by omega))
      refine ⟨f, a1, fun K hK => ?_⟩
      unfold f_Md_plain_2
      rw [ew, cl_nat (by omega), sA_sA, sA_sA]
      exact b_le (a := 300) (fun q => by omega) (fun _ => ⟨v_nat (by omega) (by decide), a2 K hK⟩)
  obtain ⟨f, a1, a2⟩ := l2 300 0 (gA u 5) rfl (fun i hi => by omega)
  refine ⟨f, a1, fun K hK => ⟨301, ?_⟩⟩
  have := a2 K hK
  rw [sA_eta] at this
  exact this
theorem L5_begin {np : Nat} {la : Ob} {f : Nat → Int32} (hl : (∀ i : Nat, i < 5 → gA la 0 i = 6) ∧ (∀ w : Nat, w < 8 → gA la 12 w = 0) ∧ gI la 1 = 0 ∧ gI la 2 = 100 ∧ gI la 3 = 100 ∧ gI la 4 = 0 ∧ gI la 5 = 0) (hf : ∀ i : Nat, i < 300 → f i = if i = 2 ∨ i = 3 then 100 else if 5 ≤ i ∧ i < 10 then 6 else 0) : L5 np la f := by
  obtain ⟨l0, l12, l1, l2, l3, l4, l5⟩ := hl
  have f0 : ∀ i : Nat, i < 300 → i ≠ 2 → i ≠ 3 → ¬ (5 ≤ i ∧ i < 10) → f i = 0 := fun i hi a c d => by rw [hf i hi, if_neg (by omega), if_neg d]
  refine ⟨fun i hi => ?_, ?_, ?_, ?_, ?_, ⟨0, by omega, l5, f0 4 (by omega) (by omega) (by omega) (by omega), fun i hi => by omega⟩, fun w hw => ⟨0, by omega, l12 w hw, f0 _ (by omega) (by omega) (by omega) (by omega), fun j hj => by omega⟩⟩
  · rw [hf (5 + i) (by omega), if_neg (by omega), if_pos (by omega)]
    exact ⟨⟨6, by omega, by omega, rfl⟩, l0 i hi⟩
  · rw [f0 1 (by omega) (by omega) (by omega) (by omega)]; exact ⟨l1, 0, by omega, rfl⟩
  · rw [hf 2 (by omega), if_pos (by omega)]; exact ⟨l2, 100, by omega, rfl⟩
  · rw [hf 3 (by omega), if_pos (by omega)]; exact ⟨l3, 100, by omega, rfl⟩
  · rw [f0 0 (by omega) (by omega) (by omega) (by omega)]; exact l4
