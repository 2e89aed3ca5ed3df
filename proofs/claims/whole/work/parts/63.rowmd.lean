-- the row: the model's way
def RMk (n : Nat → Nat) (np m : Nat) (C : Nat → Nat → Nat) (u : Ob) (s k : Nat) : Prop := (C s k < 1000000 ∧ gA u 43 (1024 * s + k) = iI ((C s k : Nat) : Int) ∧ (s + 1 < m → ∃ j, FW n np C s k j ∧ gA u 44 (1024 * s + k) = iI j)) ∨ (¬ C s k < 1000000 ∧ gA u 43 (1024 * s + k) = -1)
theorem RMk.cg {n : Nat → Nat} {np m : Nat} {C : Nat → Nat → Nat} {u u' : Ob} {s k : Nat} (h : RMk n np m C u s k) (e1 : gA u' 43 (1024 * s + k) = gA u 43 (1024 * s + k)) (e2 : gA u' 44 (1024 * s + k) = gA u 44 (1024 * s + k)) : RMk n np m C u' s k := by
  unfold RMk
  rw [e1, e2]
  exact h
section RD
variable {np mm : Nat} {n : Nat → Nat} {C : Nat → Nat → Nat}
theorem md_apart {k j : Nat} {u : Ob} {Q : Int32 → Prop} (hnp : np ≤ 5) (hok : okS np n) (u0 : gI u 0 = iI np) (hk : k < 1024) (hj : j < 1024) (h1 : ∀ i, i < np → gA u 39 (5 * k + i) = shp n np k i) (h2 : ∀ i, i < np → gA u 39 (5 * j + i) = shp n np j i) (hQ : Q (iI ((dk n np k j : Nat) : Int))) : f_Md_apart (iI k) (iI j) u Q := by
  have lp : ∀ (d i : Nat), d + i = np → f_Md_apart_5 u Q (d + 1) (iI k) (iI j) (iI ((dS (shp n np k) (shp n np j) i : Nat) : Int)) (iI i) := by
    intro d
    induction d with
    | zero =>
      intro i hi
      have : i = np := by omega
      subst this
      unfold f_Md_apart_5
      rw [u0]
      exact k_t (Int32.le_refl _) hQ
    | succ d ih =>
      intro i hi
      have ei : iI (i : Int) + (1 : Int32) = iI ((i + 1 : Nat) : Int) := ix_add i 1
      have e5 : ∀ k : Nat, (5 : Int32) * iI (k : Int) + iI (i : Int) = iI ((5 * k + i : Nat) : Int) := fun k => by
        rw [show (5 : Int32) = iI 5 from rfl, iI_mul, iI_add]; congr 1
      obtain ⟨a1, a2, a3⟩ := wZ_ok (shp_ok hok k i (by omega))
      obtain ⟨b1, b2, b3⟩ := wZ_ok (shp_ok hok j i (by omega))
      unfold f_Md_apart_5
      rw [u0, ei, e5 k, e5 j, cl_nat (by omega), cl_nat (by omega), h1 i (by omega), h2 i (by omega), a3, b3]
      refine b_le (fun q => by omega) (fun _ => ⟨v_nat (by omega) (by decide), k_n ⟨v_nat (by omega) (by decide), k_n ?_⟩⟩)
      have nx := ih (i + 1) (by omega)
      rw [iI_sub]
      refine b_le (a := 0) (fun q => ?_) (fun q => ?_)
      · rw [show iI ((dS (shp n np k) (shp n np j) i : Nat) : Int) + iI (wZ (shp n np k) i - wZ (shp n np j) i) = iI ((dS (shp n np k) (shp n np j) (i + 1) : Nat) : Int) by
          rw [iI_add]; congr 1
          show _ = ((dS (shp n np k) (shp n np j) i + (wZ (shp n np k) i - wZ (shp n np j) i).natAbs : Nat) : Int)
          omega]
        exact nx
      · rw [show iI ((dS (shp n np k) (shp n np j) i : Nat) : Int) + -iI (wZ (shp n np k) i - wZ (shp n np j) i) = iI ((dS (shp n np k) (shp n np j) (i + 1) : Nat) : Int) by
          rw [iI_neg, iI_add]; congr 1
          show _ = ((dS (shp n np k) (shp n np j) i + (wZ (shp n np k) i - wZ (shp n np j) i).natAbs : Nat) : Int)
          omega]
        exact nx
  exact ⟨np + 1, lp np 0 rfl⟩
/-- the model's shapes and who of them makes the sound -/
def FR (n : Nat → Nat) (np : Nat) (m : Ob) (P : Nat → Prop) (v : Ob) : Prop := mdM m v ∧ gI v 40 = iI ((TN n np 0 : Nat) : Int) ∧ (∀ k, k < TN n np 0 → ∀ j, j < np → gA v 39 (5 * k + j) = shp n np k j) ∧ (∀ k, k < TN n np 0 → flg (gA v 42 k) (P k))
theorem FR.put {m v : Ob} {P : Nat → Prop} (h : FR n np m P v) (f g : Nat → Int32) : FR n np m P (sA (sA v 43 f) 44 g) := ⟨(h.1.sa 43 f (by decide)).sa 44 g (by decide), h.2.1, h.2.2.1, h.2.2.2⟩
theorem md_76 {m : Ob} {s k : Nat} {P : Nat → Nat → Prop} {k16 : Int32 → Int32 → Int32 → Ob → Prop} {Q : Ob → Prop} {F G : Nat → Int32} (hnp : np ≤ 5) (hok : okS np n) (hm0 : gI m 0 = iI np) (hW : RW n np mm 0 P C) (hm : mm ≤ 8) (hs : s + 1 < mm) (hk : k < TN n np 0) (hp : P s k)
    (hF : ∀ j, j < TN n np 0 → (C (s + 1) j < 1000000 ∧ F (1024 * (s + 1) + j) = iI ((C (s + 1) j : Nat) : Int)) ∨ (¬ C (s + 1) j < 1000000 ∧ F (1024 * (s + 1) + j) = -1))
    (hk16 : ∀ v', FR n np m (P s) v' → (∀ x, x ≠ 1024 * s + k → gA v' 43 x = F x ∧ gA v' 44 x = G x) → RMk n np mm C v' s k → k16 (iI mm) (iI s) (iI ((k + 1 : Nat) : Int)) v') :
    ∀ (d j : Nat) (v : Ob), d + j = TN n np 0 → FR n np m (P s) v → (∀ x, x ≠ 1024 * s + k → gA v 43 x = F x ∧ gA v 44 x = G x) → (((∀ i, i < j → ¬ C (s + 1) i < 1000000) ∧ gA v 43 (1024 * s + k) = -1) ∨ ∃ b, BE (fun i => C (s + 1) i < 1000000) (fun i => C (s + 1) i + dk n np k i) j b ∧ gA v 43 (1024 * s + k) = iI ((C (s + 1) b + dk n np k b : Nat) : Int) ∧ gA v 44 (1024 * s + k) = iI b) → f_Md_findRow_76 k16 Q (d + 1) (iI mm) (iI s) (iI k) (iI ((1024 * s + k : Nat) : Int)) (iI j) v := by
  have T0 := (TN_le hok hnp (i := 0) (by omega)).2
  obtain ⟨rw1, -, rw3⟩ := hW s (Nat.zero_le _) (by omega) k hk
  obtain ⟨mn, j0, j1, j2⟩ := (rw3 hp).2 hs
  have hfin : ∀ i, i < TN n np 0 → C (s + 1) i < 1000000 → C (s + 1) i + dk n np k i < 1000000 := fun i hi q => by
    have h2 := dk_le hok hnp k i
    rcases (hW (s + 1) (Nat.zero_le _) hs i hi).1 with z | z
    · omega
    · omega
  intro d
  induction d with
  | zero =>
    intro j v hd g1 g2 g3
    have : j = TN n np 0 := by omega
    subst this
    have ek : iI (k : Int) + (1 : Int32) = iI ((k + 1 : Nat) : Int) := ix_add k 1
    unfold f_Md_findRow_76
    rw [g1.2.1, ek]
    refine k_t (Int32.le_refl _) (hk16 v g1 g2 ?_)
    rcases g3 with ⟨h1, h2⟩ | ⟨b, h1, h2, h3⟩
    · right
      refine ⟨?_, h2⟩
      have := h1 j0 j1
      omega
    · left
      have hb1 := h1.1
      have hb2 : C (s + 1) b < 1000000 := h1.2.1
      have e : C s k = C (s + 1) b + dk n np k b := by
        have q1 := mn b hb1
        by_cases z : C (s + 1) j0 < 1000000
        · have q2 : C (s + 1) b + dk n np k b ≤ C (s + 1) j0 + dk n np k j0 := h1.2.2.1 j0 j1 z
          omega
        · have := hfin b hb1 hb2
          omega
      refine ⟨by rw [e]; exact hfin b hb1 hb2, by rw [h2, e], fun _ => ⟨b, ⟨hb1, hb2, e.symm, fun i hi q => ?_⟩, h3⟩⟩
      have q3 : C (s + 1) b + dk n np k b < C (s + 1) i + dk n np k i := h1.2.2.2 i hi q.1
      omega
  | succ d ih =>
    intro j v hd g1 g2 g3
    have ej : iI (j : Int) + (1 : Int32) = iI ((j + 1 : Nat) : Int) := ix_add j 1
    have em : iI (mm : Int) - (1 : Int32) = iI ((mm : Int) - 1) := iI_sub _ 1
    have ex : (1024 : Int32) * (iI (s : Int) + (1 : Int32)) + iI (j : Int) = iI ((1024 * (s + 1) + j : Nat) : Int) := by
      rw [show (1024 : Int32) = iI 1024 from rfl, show (1 : Int32) = iI 1 from rfl, iI_add, iI_mul, iI_add]; congr 1
    have v0 : gI v 0 = iI np := by rw [g1.1.1 0 (by decide)]; exact hm0
    have yk : gA v 42 k ≠ 0 := by
      rcases g1.2.2.2 k hk with ⟨e, -⟩ | ⟨-, q⟩
      · rw [e]; decide
      · exact absurd hp q
    have e9 := (g2 (1024 * (s + 1) + j) (by omega)).1
    have v8 : vp_in (iI ((1024 * s + k : Nat) : Int)) 8192 := v_nat (by omega) (by decide)
    have put : ∀ w : Nat, w = C (s + 1) j + dk n np k j → C (s + 1) j < 1000000 → (∀ i, i < j → C (s + 1) i < 1000000 → C (s + 1) j + dk n np k j < C (s + 1) i + dk n np k i) → f_Md_findRow_76 k16 Q (d + 1) (iI mm) (iI s) (iI k) (iI ((1024 * s + k : Nat) : Int)) (iI ((j + 1 : Nat) : Int)) (sA (sA v 43 (upd (gA v 43) (1024 * s + k) (iI (w : Int)))) 44 (upd (gA v 44) (1024 * s + k) (iI (j : Int)))) := by
      intro w hw hc hl
      refine ih (j + 1) _ (by omega) (g1.put _ _) (fun x hx => ?_) (Or.inr ⟨j, BE.new hc hl, ?_, ?_⟩)
      · show upd (gA v 43) _ _ x = _ ∧ upd (gA v 44) _ _ x = _
        rw [upd_ne _ _ _ _ hx, upd_ne _ _ _ _ hx]; exact g2 x hx
      · show upd (gA v 43) _ _ _ = _
        rw [upd_same, hw]
      · show upd (gA v 44) _ _ _ = _
        rw [upd_same]
    unfold f_Md_findRow_76
    rw [g1.2.1, ej, em, ex, cl_nat (by omega), cl_nat (by omega), cl_nat (by omega), e9]
    refine b_le (fun q => by omega) (fun _ => ⟨v_nat (by omega) (by decide), k_f yk (b_le (fun q => by omega) (fun _ => ⟨v_nat (by omega) (by decide), ?_⟩))⟩)
    rcases hF j (by omega) with ⟨c1, c2⟩ | ⟨c1, c2⟩
    · have hap := hfin j (by omega) c1
      have e156 : f_Md_findRow_156 (f_Md_findRow_76 k16 Q (d + 1)) Q (iI mm) (iI s) (iI k) (iI ((1024 * s + k : Nat) : Int)) (iI (j : Int)) (iI ((C (s + 1) j : Nat) : Int)) v ↔ f_Md_findRow_156 (f_Md_findRow_76 k16 Q (d + 1)) Q (iI mm) (iI s) (iI k) (iI ((1024 * s + k : Nat) : Int)) (iI (j : Int)) (iI ((C (s + 1) j : Nat) : Int)) v := Iff.rfl
      have go : (∀ i, i < j → C (s + 1) i < 1000000 → C (s + 1) j + dk n np k j < C (s + 1) i + dk n np k i) → f_Md_findRow_156 (f_Md_findRow_76 k16 Q (d + 1)) Q (iI mm) (iI s) (iI k) (iI ((1024 * s + k : Nat) : Int)) (iI (j : Int)) (iI ((C (s + 1) j : Nat) : Int)) v := by
        intro hl
        unfold f_Md_findRow_156
        refine md_apart hnp hok v0 (by omega) (by omega) (g1.2.2.1 k hk) (g1.2.2.1 j (by omega)) ⟨v8, v8, ?_⟩
        rw [ej, cl_nat (by omega), ix_add]
        exact put _ rfl c1 hl
      refine k_e c2 (b_lt (b := 0) (fun q => by omega) (fun _ => ⟨v8, ?_⟩))
      rcases g3 with ⟨h1, h2⟩ | ⟨b, h1, h2, h3⟩
      · rw [h2]
        exact k_t (by decide) (go (fun i hi q => absurd q (h1 i hi)))
      · rw [h2]
        have hb := hfin b (by have := h1.1; omega) h1.2.1
        refine b_lt (b := 0) (fun q => by omega) (fun _ => md_apart hnp hok v0 (by omega) (by omega) (g1.2.2.1 k hk) (g1.2.2.1 j (by omega)) ⟨v8, ?_⟩)
        rw [ix_add]
        refine b_lt (fun q => go (fun i hi qi => ?_)) (fun q => ih (j + 1) v (by omega) g1 g2 (Or.inr ⟨b, h1.keep (fun _ => by show C (s + 1) b + dk n np k b ≤ C (s + 1) j + dk n np k j; omega), h2, h3⟩))
        have q3 : C (s + 1) b + dk n np k b ≤ C (s + 1) i + dk n np k i := h1.2.2.1 i hi qi
        omega
    · refine k_e c2 (k_t (by decide) (ih (j + 1) v (by omega) g1 g2 ?_))
      rcases g3 with ⟨h1, h2⟩ | ⟨b, h1, h2, h3⟩
      · refine Or.inl ⟨fun i hi => ?_, h2⟩
        by_cases e : i = j
        · subst e; exact c1
        · exact h1 i (by omega)
      · exact Or.inr ⟨b, h1.keep (fun q => absurd q c1), h2, h3⟩
/-- a row of the model -/
theorem md_16 {m : Ob} {s : Nat} {P : Nat → Nat → Prop} {k4 : Int32 → Int32 → Ob → Prop} {Q : Ob → Prop} (hnp : np ≤ 5) (hok : okS np n) (hm0 : gI m 0 = iI np) (hW : RW n np mm 0 P C) (hm : mm ≤ 8) (hs : s < mm)
    (hk4 : ∀ v', mdM m v' → gI v' 40 = iI ((TN n np 0 : Nat) : Int) → (∀ k, k < TN n np 0 → ∀ j, j < np → gA v' 39 (5 * k + j) = shp n np k j) → (∀ s', s ≤ s' → s' < mm → ∀ k, k < TN n np 0 → RMk n np mm C v' s' k) → k4 (iI mm) (iI ((s : Int) - 1)) v') :
    ∀ (d k : Nat) (v : Ob), d + k = TN n np 0 → FR n np m (P s) v → (∀ s', s < s' → s' < mm → ∀ k, k < TN n np 0 → RMk n np mm C v s' k) → (∀ k', k' < k → RMk n np mm C v s k') → f_Md_findRow_16 k4 Q (d + 1) (iI mm) (iI s) (iI k) v := by
  have T0 := (TN_le hok hnp (i := 0) (by omega)).2
  intro d
  induction d with
  | zero =>
    intro k v hd g1 g2 g3
    have : k = TN n np 0 := by omega
    subst this
    have e1 : iI (s : Int) + (-1 : Int32) = iI ((s : Int) - 1) := by rw [show (-1 : Int32) = iI (-1) by decide, iI_add]; rfl
    unfold f_Md_findRow_16
    rw [g1.2.1, e1]
    refine k_t (Int32.le_refl _) (hk4 v g1.1 g1.2.1 g1.2.2.1 (fun s' a1 a2 k hk => ?_))
    by_cases e : s' = s
    · subst e; exact g3 k hk
    · exact g2 s' (by omega) a2 k hk
  | succ d ih =>
    intro k v hd g1 g2 g3
    have hk : k < TN n np 0 := by omega
    have ek : iI (k : Int) + (1 : Int32) = iI ((k + 1 : Nat) : Int) := ix_add k 1
    have em : iI (mm : Int) - (1 : Int32) = iI ((mm : Int) - 1) := iI_sub _ 1
    have ex : (1024 : Int32) * iI (s : Int) + iI (k : Int) = iI ((1024 * s + k : Nat) : Int) := by
      rw [show (1024 : Int32) = iI 1024 from rfl, iI_mul, iI_add]; congr 1
    have v8 : vp_in (iI ((1024 * s + k : Nat) : Int)) 8192 := v_nat (by omega) (by decide)
    have v10 : vp_in (iI (k : Int)) 1024 := v_nat (by omega) (by decide)
    obtain ⟨rw1, rw2, rw3⟩ := hW s (Nat.zero_le _) hs k hk
    -- whatever is put at this place, the rest stays
    have nx : ∀ (F G : Nat → Int32), (∀ x, x ≠ 1024 * s + k → F x = gA v 43 x ∧ G x = gA v 44 x) → ∀ v', FR n np m (P s) v' → (∀ x, x ≠ 1024 * s + k → gA v' 43 x = F x ∧ gA v' 44 x = G x) → RMk n np mm C v' s k → f_Md_findRow_16 k4 Q (d + 1) (iI mm) (iI s) (iI ((k + 1 : Nat) : Int)) v' := by
      intro F G hFG v' a1 a2 a3
      have a4 : ∀ x, x ≠ 1024 * s + k → gA v' 43 x = gA v 43 x ∧ gA v' 44 x = gA v 44 x := fun x hx => ⟨(a2 x hx).1.trans (hFG x hx).1, (a2 x hx).2.trans (hFG x hx).2⟩
      refine ih (k + 1) v' (by omega) a1 (fun s' b1 b2 k' hk' => ?_) (fun k' hk' => ?_)
      · obtain ⟨e1, e2⟩ := a4 (1024 * s' + k') (by omega)
        exact (g2 s' b1 b2 k' hk').cg e1 e2
      · by_cases e : k' = k
        · subst e; exact a3
        · obtain ⟨e1, e2⟩ := a4 (1024 * s + k') (by omega)
          exact (g3 k' (by omega)).cg e1 e2
    unfold f_Md_findRow_16
    rw [g1.2.1, em, ex, cl_nat (by omega), cl_nat (by omega)]
    refine b_le (fun q => by omega) (fun _ => ⟨v8, v8, v10, ?_⟩)
    have up1 : ∀ x, x ≠ 1024 * s + k → upd (gA v 43) (1024 * s + k) (-1) x = gA v 43 x ∧ upd (gA v 44) (1024 * s + k) (-1) x = gA v 44 x := fun x hx => ⟨upd_ne _ _ _ _ hx, upd_ne _ _ _ _ hx⟩
    rcases g1.2.2.2 k hk with ⟨e, p⟩ | ⟨e, p⟩
    · refine k_f (by rw [e]; decide) (b_eq (fun q => ⟨v8, 1, ?_⟩) (fun q => ⟨TN n np 0 + 1, ?_⟩))
      · -- the last sound
        have hl : s + 1 = mm := by omega
        have fr := g1.put (upd (upd (gA v 43) (1024 * s + k) (-1)) (1024 * s + k) (0 : Int32)) (upd (gA v 44) (1024 * s + k) (-1))
        unfold f_Md_findRow_76
        rw [fr.2.1, em, ek, cl_nat (by omega)]
        refine b_le (b := 0) (fun q => by omega) (fun _ => ⟨v10, k_f (by show ¬ gA v 42 k = 0; rw [e]; decide) (b_le (fun _ => ?_) (fun q => by omega))⟩)
        refine nx (upd (upd (gA v 43) (1024 * s + k) (-1)) (1024 * s + k) (0 : Int32)) (upd (gA v 44) (1024 * s + k) (-1)) (fun x hx => ⟨by rw [upd_ne _ _ _ _ hx, upd_ne _ _ _ _ hx], upd_ne _ _ _ _ hx⟩) _ fr (fun x hx => ⟨rfl, rfl⟩) (Or.inl ?_)
        have e0 := (rw3 p).1 hl
        refine ⟨by omega, ?_, fun q => by omega⟩
        show upd _ _ _ _ = _
        rw [upd_same, e0]; rfl
      · have hs1 : s + 1 < mm := by omega
        refine md_76 (F := upd (gA v 43) (1024 * s + k) (-1)) (G := upd (gA v 44) (1024 * s + k) (-1)) hnp hok hm0 hW hm hs1 hk p (fun j hj => ?_) (fun v' a1 a2 a3 => nx _ _ up1 v' a1 a2 a3) (TN n np 0) 0 _ rfl (g1.put _ _) (fun x hx => ⟨rfl, rfl⟩) (Or.inl ⟨fun i hi => by omega, ?_⟩)
        · rw [upd_ne _ _ _ _ (by omega)]
          rcases g2 (s + 1) (by omega) hs1 j hj with ⟨z1, z2, -⟩ | z
          · exact Or.inl ⟨z1, z2⟩
          · exact Or.inr z
        · show upd _ _ _ _ = _
          exact upd_same _ _ _
    · refine k_t e ⟨1, ?_⟩
      have fr := g1.put (upd (gA v 43) (1024 * s + k) (-1)) (upd (gA v 44) (1024 * s + k) (-1))
      unfold f_Md_findRow_76
      rw [fr.2.1, em, ek, cl_nat (by omega)]
      refine b_le (b := 0) (fun q => by omega) (fun _ => ⟨v10, k_t e ?_⟩)
      refine nx _ _ up1 _ fr (fun x hx => ⟨rfl, rfl⟩) (Or.inr ⟨by rw [rw2 p]; decide, ?_⟩)
      show upd _ _ _ _ = _
      exact upd_same _ _ _
end RD
