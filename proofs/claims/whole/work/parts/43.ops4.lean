-- the breaths that are safe: both scan upwards
theorem ring_both {st w : Int} (hs : 1 ≤ st ∧ st ≤ 20) (hw : 1 ≤ w ∧ w ≤ 20) : ∃ Le St : Nat → Int32, ∀ x : Nat, x ≤ 40 →
    (∀ (rh fo : Ob) (Q : Ob → Ob → Prop), (∀ u v, gI u 0 = gI rh 0 → gI u 3 = Le x → gI u 5 = St x → Q u v) → f_Rh_find (iI x) (iI st) (iI w) rh fo Q) ∧
    (∀ (m : Ob) (Q : Ob → Prop), gA m 1 5 = iI st → gA m 1 6 = iI w → (∀ u, mdR m u → gI u 35 = Le x → gI u 37 = St x → Q u) → f_Md_findRing (iI x) m Q) := by
  have h : ∀ x : Nat, ∃ p : Int32 × Int32, x ≤ 40 → (∀ (rh fo : Ob) (Q : Ob → Ob → Prop), (∀ u v, gI u 0 = gI rh 0 → gI u 3 = p.1 → gI u 5 = p.2 → Q u v) → f_Rh_find (iI x) (iI st) (iI w) rh fo Q) ∧
      (∀ (m : Ob) (Q : Ob → Prop), gA m 1 5 = iI st → gA m 1 6 = iI w → (∀ u, mdR m u → gI u 35 = p.1 → gI u 37 = p.2 → Q u) → f_Md_findRing (iI x) m Q) := by
    intro x
    obtain ⟨n, j, hj, hn, he, hd⟩ := ring_ex (x : Int) st w
    refine ⟨(iI ((n : Int) - j), iI (fS x st w n - fS x st w j)), fun hx => ⟨fun rh fo Q hq => ?_, fun m Q e5 e6 hq => ?_⟩⟩
    · exact rh_find (by omega) hs hw hj hn he hd (fun u v u0 u2 u3 u4 u5 => hq u v u0 u3 u5)
    · exact md_findRing (by omega) hs hw hj hn he hd e5 e6 (fun u hu u4 u5 u6 u7 => hq u hu u5 u7)
  exact ⟨fun x => (Classical.choose (h x)).1, fun x => (Classical.choose (h x)).2, fun x hx => Classical.choose_spec (h x) hx⟩
theorem mdR.tr {a b c : Ob} (h : mdR a b) (g : mdR b c) : mdR a c := ⟨fun k hk => (g.1 k hk).trans (h.1 k hk), g.2.1.trans h.2.1, fun k hk => (g.2.2.1 k hk).trans (h.2.2.1 k hk), g.2.2.2.trans h.2.2.2⟩
theorem op_notSafe {a b c : Int32} {o0 o3 o4 rh fo m : Ob} {r3 : Nat → Nat} {K : Ob → Ob → Ob → Prop} (hF : RFo o4 (gA m 1)) (hK : ∀ u v m', gI u 0 = gI rh 0 → mdR m m' → K u v m') :
    f_PV_notSafe a b c o0 r3 o3 o4 rh fo (fun z u v => f_Md_notSafe a b c m (fun z2 m' => (z = z2 → K u v m') ∧ (¬ z = z2 → False))) := by
  obtain ⟨⟨-, -, -, f3, f4, -, -⟩, -, -, -, ⟨st, s1, s2, es⟩, ⟨w, w1, w2, ew⟩⟩ := hF
  obtain ⟨x, x1, x2, rfl⟩ := iI_ex a
  obtain ⟨y, y1, y2, rfl⟩ := iI_ex b
  obtain ⟨z, z1, z2, rfl⟩ := iI_ex c
  obtain ⟨Le, St, hb⟩ := ring_both (st := st) (w := w) (by omega) (by omega)
  -- the model's loop
  have mdl : ∀ (Q : Int32 → Ob → Prop) (d k : Nat) (u : Ob), (k : Int) + d = max (k : Int) (y + 1) ∧ k ≤ 41 → y ≤ 40 → mdR m u →
      ((∀ i : Nat, k ≤ i → (i : Int) ≤ y → (100 : Int32) * St i ≤ iI z * Le i) → ∀ u, mdR m u → Q (-1) u) →
      (∀ i : Nat, k ≤ i → (i : Int) ≤ y → ¬ (100 : Int32) * St i ≤ iI z * Le i → (∀ i' : Nat, k ≤ i' → i' < i → (100 : Int32) * St i' ≤ iI z * Le i') → ∀ u, mdR m u → Q (iI i) u) →
      f_Md_notSafe_36 Q (d + 1) (iI y) (iI z) (iI k) u := by
    intro Q d
    induction d with
    | zero =>
      intro k u hk hy hu h1 h2
      unfold f_Md_notSafe_36
      exact b_lt (fun q => h1 (fun i a1 a2 => by omega) u hu) (fun q => by omega)
    | succ d ih =>
      intro k u hk hy hu h1 h2
      unfold f_Md_notSafe_36
      refine b_lt (fun q => by omega) (fun q => ?_)
      refine (hb k (by omega)).2 u _ ?_ ?_ (fun u' hu' e5 e7 => ?_)
      · rw [hu.2.2.1 1 (by omega)]; exact es
      · rw [hu.2.2.1 1 (by omega)]; exact ew
      rw [e5, e7]
      have en : iI (k : Int) + (1 : Int32) = iI ((k + 1 : Nat) : Int) := ix_add k 1
      rw [en]
      refine k_c (fun g => ih (k + 1) u' (by omega) hy (hu.tr hu') (fun h u hu => h1 (fun i a1 a2 => ?_) u hu) (fun i a1 a2 a3 a4 u hu => h2 i (by omega) a2 a3 (fun i' b1 b2 => ?_) u hu)) (fun g => h2 k (by omega) (by omega) g (fun i' b1 b2 => by omega) u' (hu.tr hu'))
      · by_cases hi : i = k
        · subst hi; exact g
        · exact h i (by omega) a2
      · by_cases hi : i' = k
        · subst hi; exact g
        · exact a4 i' (by omega) b2
  have md : ∀ (Q : Int32 → Ob → Prop), (¬ ((0 ≤ x ∧ x ≤ 40) ∧ (x ≤ y ∧ y ≤ 40) ∧ (0 ≤ z ∧ z ≤ 1000)) → Q (-1) m) →
      (((0 ≤ x ∧ x ≤ 40) ∧ (x ≤ y ∧ y ≤ 40) ∧ (0 ≤ z ∧ z ≤ 1000)) → (∀ i : Nat, x ≤ i → (i : Int) ≤ y → (100 : Int32) * St i ≤ iI z * Le i) → ∀ u, mdR m u → Q (-1) u) →
      (((0 ≤ x ∧ x ≤ 40) ∧ (x ≤ y ∧ y ≤ 40) ∧ (0 ≤ z ∧ z ≤ 1000)) → ∀ i : Nat, x ≤ i → (i : Int) ≤ y → ¬ (100 : Int32) * St i ≤ iI z * Le i → (∀ i' : Nat, x ≤ i' → i' < i → (100 : Int32) * St i' ≤ iI z * Le i') → ∀ u, mdR m u → Q (iI i) u) →
      f_Md_notSafe (iI x) (iI y) (iI z) m Q := by
    intro Q no h1 h2
    unfold f_Md_notSafe
    refine md_in (lo := 0) (hi := 40) (fun a1 a2 => k_f (by decide) ?_) (fun q => k_t rfl (no (by omega))) ⟨x1, x2⟩ (by omega) (by omega)
    refine md_in (hi := 40) (fun a3 a4 => k_f (by decide) ?_) (fun q => k_t rfl (no (by omega))) ⟨y1, y2⟩ ⟨x1, x2⟩ (by omega)
    refine md_in (lo := 0) (hi := 1000) (fun a5 a6 => k_f (by decide) ?_) (fun q => k_t rfl (no (by omega))) ⟨z1, z2⟩ (by omega) (by omega)
    obtain ⟨k, rfl⟩ : ∃ k : Nat, x = k := ⟨x.toNat, by omega⟩
    exact ⟨(y + 1 - k).toNat + 1, mdl Q _ k m (by omega) a4 (mdR.rf m) (fun h => h1 (by omega) (fun i a1 a2 => h i (by omega) a2)) (fun i a1 a2 a3 a4 => h2 (by omega) i (by omega) a2 a3 (fun i' b1 b2 => a4 i' (by omega) b2))⟩
  have out : ¬ ((0 ≤ x ∧ x ≤ 40) ∧ (x ≤ y ∧ y ≤ 40) ∧ (0 ≤ z ∧ z ≤ 1000)) → f_Md_notSafe (iI x) (iI y) (iI z) m (fun z2 m' => ((-1 : Int32) = z2 → K rh fo m') ∧ (¬ (-1 : Int32) = z2 → False)) := fun q =>
    md _ (fun _ => k_q rfl (hK _ _ _ rfl (mdR.rf m))) (fun h => absurd h q) (fun h => absurd h q)
  unfold f_PV_notSafe
  refine pv_isBreath ⟨x1, x2⟩ (fun a1 a2 => k_f (by decide) ?_) (fun q => k_t rfl (out (by omega)))
  refine pv_isBreath ⟨y1, y2⟩ (fun a3 a4 => k_f (by decide) ?_) (fun q => k_t rfl (out (by omega)))
  · refine b_lt (b := 0) (fun q => out (by omega)) (fun q1 => b_le (b := 1000) (fun q2 => ?_) (fun q => out (by omega)))
    obtain ⟨k0, rfl⟩ : ∃ k : Nat, x = k := ⟨x.toNat, by omega⟩
    -- the class's loop
    have cl : ∀ (d k : Nat) (u v : Ob), (k : Int) + d = max (k : Int) (y + 1) ∧ k ≤ 41 → k0 ≤ k → gI u 0 = gI rh 0 → (∀ i : Nat, k0 ≤ i → i < k → (100 : Int32) * St i ≤ iI z * Le i) →
        f_PV_notSafe_30 o0 r3 o3 o4 (fun z_1 u v => f_Md_notSafe (iI (k0 : Int)) (iI y) (iI z) m (fun z2 m' => (z_1 = z2 → K u v m') ∧ (¬ z_1 = z2 → False))) (d + 1) (iI y) (iI z) (iI k) u v := by
      intro d
      induction d with
      | zero =>
        intro k u v hk hk0 hu hok
        unfold f_PV_notSafe_30
        refine b_lt (fun q => ?_) (fun q => by omega)
        exact md _ (fun _ => k_q rfl (hK _ _ _ hu (mdR.rf m))) (fun _ h u' hu' => k_q rfl (hK _ _ _ hu hu')) (fun _ i b1 b2 b3 => absurd (hok i (by omega) (by omega)) b3)
      | succ d ih =>
        intro k u v hk hk0 hu hok
        unfold f_PV_notSafe_30
        refine b_lt (fun q => by omega) (fun q => ?_)
        rw [f3, f4, es, ew]
        refine (hb k (by omega)).1 u v _ (fun u' v' e0 e3 e5 => ?_)
        rw [e3, e5]
        have en : iI (k : Int) + (1 : Int32) = iI ((k + 1 : Nat) : Int) := ix_add k 1
        rw [en]
        refine k_c (fun g => ih (k + 1) u' v' (by omega) (by omega) (e0.trans hu) (fun i b1 b2 => ?_)) (fun g => ?_)
        · by_cases hi : i = k
          · subst hi; exact g
          · exact hok i b1 (by omega)
        · refine md _ (fun h => by omega) (fun _ h => absurd (h k (by omega) (by omega)) g) (fun _ i b1 b2 b3 b4 u2 hu2 => k_q ?_ (hK _ _ _ (e0.trans hu) hu2))
          rcases Nat.lt_trichotomy i k with hik | hik | hik
          · exact absurd (hok i (by omega) hik) b3
          · rw [hik]
          · exact absurd (b4 k (by omega) hik) g
    exact ⟨(y + 1 - k0).toNat + 1, cl _ k0 rh fo (by omega) (Nat.le_refl _) rfl (fun i b1 b2 => by omega)⟩
-- shapes that sound alike
def alP (s W : Nat → Int32) (k : Nat) : Prop := ∀ i, i < k → s i * W 0 = s 0 * W i
def alQ (s W : Nat → Int32) (np k : Nat) : Prop := ∀ i, i < k → s i * W (np - 1 - i) = s 0 * W (np - 1)
noncomputable def alR (s W : Nat → Int32) (np : Nat) : Int32 := @ite _ (alP s W np) (Classical.propDecidable _) 1 (@ite _ (alQ s W np np) (Classical.propDecidable _) 2 0)
/-- a flag that stands for a statement -/
def flg (x : Int32) (P : Prop) : Prop := (x = 1 ∧ P) ∨ (x = 0 ∧ ¬ P)
theorem alR_of {s W : Nat → Int32} {np : Nat} {x y : Int32} (hx : flg x (alP s W np)) (hy : flg y (alQ s W np np)) {R : Int32 → Prop} (h : R (alR s W np)) : (x = 0 → ((y = 0 → R 0) ∧ (¬ y = 0 → R 2))) ∧ (¬ x = 0 → R 1) := by
  unfold alR at h
  rcases hx with ⟨e, p⟩ | ⟨e, p⟩
  · rw [if_pos p] at h
    exact k_f (by rw [e]; decide) h
  · rw [if_neg p] at h
    refine k_t e ?_
    rcases hy with ⟨e, p⟩ | ⟨e, p⟩
    · rw [if_pos p] at h
      exact k_f (by rw [e]; decide) h
    · rw [if_neg p] at h
      exact k_t e h
theorem alP_no {s W : Nat → Int32} {k : Nat} (h : ¬ alP s W k) : ¬ alP s W (k + 1) := fun q => h (fun i hi => q i (by omega))
theorem alQ_no {s W : Nat → Int32} {np k : Nat} (h : ¬ alQ s W np k) : ¬ alQ s W np (k + 1) := fun q => h (fun i hi => q i (by omega))
theorem alP_st {s W : Nat → Int32} {k : Nat} (h : alP s W k) (e : s k * W 0 = s 0 * W k) : alP s W (k + 1) := fun i hi => by
  by_cases hk : i = k
  · subst hk; exact e
  · exact h i (by omega)
theorem alQ_st {s W : Nat → Int32} {np k : Nat} (h : alQ s W np k) (e : s k * W (np - 1 - k) = s 0 * W (np - 1)) : alQ s W np (k + 1) := fun i hi => by
  by_cases hk : i = k
  · subst hk; exact e
  · exact h i (by omega)
theorem op_alike {np : Nat} {a b c d e : Int32} {o0 o3 m : Ob} {r3 : Nat → Nat} {K : Ob → Ob → Prop} (hp : gI o0 0 = iI np) (hm : gI m 0 = iI np) (hn : np ≤ 5) (hn1 : 1 ≤ np) (hW : RWi o3 (gA m 1)) (hK : ∀ f g, K (sA o0 13 f) (sA m 38 g)) :
    f_PV_alike a b c d e o0 r3 o3 (fun z u => f_Md_alike a b c d e m (fun z2 v => (z = z2 → K u v) ∧ (¬ z = z2 → False))) := by
  unfold f_PV_alike
  refine pv_ask hp hn (fun hs => k_f (by decide) ?_) (fun hs => k_t rfl ?_)
  rotate_left
  · unfold f_Md_alike
    exact md_ask hm hn (fun h => absurd h hs) (fun _ => k_t rfl (k_q rfl (hK _ _)))
  generalize hu : sA o0 13 (u5 (gA o0 13) a b c d e) = u
  have u0 : gI u 0 = iI np := by rw [← hu]; exact hp
  have us : ∀ i, i < 5 → gA u 13 i = s5 a b c d e i := fun i hi => by rw [← hu]; exact u5_at _ _ _ _ _ _ i hi
  have hKu : ∀ g, K u (sA m 38 g) := fun g => by rw [← hu]; exact hK _ g
  have wW : ∀ i, i < 5 → gA o3 5 i = gA m 1 (20 + i) := fun i hi => (hW i hi).2
  obtain ⟨W, eW⟩ : ∃ W : Nat → Int32, W = fun i => gA m 1 (20 + i) := ⟨_, rfl⟩
  have wc : ∀ i, i < 5 → gA o3 5 i = W i := fun i hi => by rw [eW]; exact wW i hi
  have e1 : iI (np : Int) - (1 : Int32) = iI ((np - 1 : Nat) : Int) := by
    rw [show iI (np : Int) - (1 : Int32) = iI ((np : Int) - 1) from iI_sub _ 1]; congr 1; omega
  obtain ⟨s, hse⟩ : ∃ s, s = s5 a b c d e := ⟨_, rfl⟩
  rw [← hse] at us
  -- the model
  have md : f_Md_alike a b c d e m (fun z2 v => (alR s W np = z2 → K u v) ∧ (¬ alR s W np = z2 → False)) := by
    unfold f_Md_alike
    refine md_ask hm hn (fun _ => k_f (by decide) ?_) (fun h => absurd hs h)
    generalize hv : sA m 38 (u5 (gA m 38) a b c d e) = v
    have v0 : gI v 0 = iI np := by rw [← hv]; exact hm
    have vs : ∀ i, i < 5 → gA v 38 i = s i := fun i hi => by rw [← hv, hse]; exact u5_at _ _ _ _ _ _ i hi
    have vA : ∀ i, gA v 1 (20 + i) = W i := fun i => by rw [← hv, eW]; rfl
    have hKv : K u v := by rw [← hv]; exact hKu _
    have lp : ∀ (f k : Nat) (x y : Int32), f + k = np → flg x (alP s W k) → flg y (alQ s W np k) → f_Md_alike_25 (fun z2 v => (alR s W np = z2 → K u v) ∧ (¬ alR s W np = z2 → False)) (f + 1) x y (iI k) v := by
      intro f
      induction f with
      | zero =>
        intro k x y hk hx hy
        have : k = np := by omega
        subst this
        unfold f_Md_alike_25
        rw [v0]
        refine b_le (fun _ => ?_) (fun q => by omega)
        exact alR_of (R := fun z2 => (alR s W k = z2 → K u v) ∧ (¬ alR s W k = z2 → False)) hx hy (k_q rfl hKv)
      | succ f ih =>
        intro k x y hk hx hy
        unfold f_Md_alike_25
        rw [v0]
        refine b_le (fun q => by omega) (fun _ => ?_)
        have en : iI (k : Int) + (1 : Int32) = iI ((k + 1 : Nat) : Int) := ix_add k 1
        have e20 : (20 : Int32) + iI (k : Int) = iI ((20 + k : Nat) : Int) := ix_add 20 k
        have e21 : (20 : Int32) + iI (np : Int) - (1 : Int32) = iI ((20 + (np - 1) : Nat) : Int) := by
          rw [show (20 : Int32) + iI (np : Int) = iI ((20 : Int) + np) from iI_add 20 _, show iI ((20 : Int) + np) - (1 : Int32) = iI ((20 : Int) + np - 1) from iI_sub _ 1]; congr 1; omega
        have e22 : iI ((20 + (np - 1) : Nat) : Int) - iI (k : Int) = iI ((20 + (np - 1 - k) : Nat) : Int) := by
          rw [iI_sub]; congr 1; omega
        -- the second flag
        have s81 : ∀ x', flg x' (alP s W (k + 1)) → f_Md_alike_81 (f_Md_alike_25 (fun z2 v => (alR s W np = z2 → K u v) ∧ (¬ alR s W np = z2 → False)) (f + 1)) (fun z2 v => (alR s W np = z2 → K u v) ∧ (¬ alR s W np = z2 → False)) x' y (iI k) v := by
          intro x' hx'
          unfold f_Md_alike_81
          rw [v0, en, e21, e22]
          rcases hy with ⟨ey, py⟩ | ⟨ey, py⟩
          · refine k_f (by rw [ey]; decide) ⟨v_nat (by omega) (by decide), k_n ⟨v_nat (by omega) (by decide), ?_⟩⟩
            rw [cl_nat (by omega), cl_nat (by omega), cl_nat (by omega), vs k (by omega), vs 0 (by omega), vA, vA]
            refine k_n ⟨v_nat (by omega) (by decide), k_n (k_c (fun h => ?_) (fun h => ?_))⟩
            · exact ih (k + 1) _ _ (by omega) hx' (Or.inl ⟨rfl, alQ_st py h⟩)
            · exact ih (k + 1) _ _ (by omega) hx' (Or.inr ⟨rfl, fun q => h (q k (by omega))⟩)
          · exact k_t ey (ih (k + 1) _ _ (by omega) hx' (Or.inr ⟨rfl, alQ_no py⟩))
        rcases hx with ⟨ex, px⟩ | ⟨ex, px⟩
        · refine k_f (by rw [ex]; decide) ⟨v_nat (by omega) (by decide), k_n ?_⟩
          rw [e20, cl_nat (by omega), cl_nat (by omega), vs k (by omega), vs 0 (by omega), vA, show gA v 1 20 = W 0 from vA 0]
          refine ⟨v_nat (by omega) (by decide), k_n (k_c (fun h => ?_) (fun h => ?_))⟩
          · exact s81 _ (Or.inl ⟨rfl, alP_st px (by rw [h, Int32.mul_comm])⟩)
          · exact s81 _ (Or.inr ⟨rfl, fun q => h (by rw [q k (by omega), Int32.mul_comm])⟩)
        · exact k_t ex (s81 _ (Or.inr ⟨rfl, alP_no px⟩))
    exact ⟨np + 1, lp np 0 1 1 (by omega) (Or.inl ⟨rfl, fun i hi => by omega⟩) (Or.inl ⟨rfl, fun i hi => by omega⟩)⟩
  rw [u0, e1, cl_nat (by omega), wc (np - 1) (by omega), us 0 (by omega)]
  refine ⟨v_nat (by omega) (by decide), k_n ?_⟩
  have lp : ∀ (f k : Nat) (x y : Int32), f + k = np → flg x (alP s W k) → flg y (alQ s W np k) → f_PV_alike_48 r3 o3 (fun z u => f_Md_alike a b c d e m (fun z2 v => (z = z2 → K u v) ∧ (¬ z = z2 → False))) (f + 1) x y (s 0 * W (np - 1)) (iI k) u := by
    intro f
    induction f with
    | zero =>
      intro k x y hk hx hy
      have : k = np := by omega
      subst this
      unfold f_PV_alike_48
      rw [u0]
      refine b_le (fun _ => ?_) (fun q => by omega)
      exact alR_of (R := fun z => f_Md_alike a b c d e m (fun z2 v => (z = z2 → K u v) ∧ (¬ z = z2 → False))) hx hy md
    | succ f ih =>
      intro k x y hk hx hy
      unfold f_PV_alike_48
      rw [u0]
      refine b_le (fun q => by omega) (fun _ => ?_)
      have en : iI (k : Int) + (1 : Int32) = iI ((k + 1 : Nat) : Int) := ix_add k 1
      have e22 : iI ((np - 1 : Nat) : Int) - iI (k : Int) = iI ((np - 1 - k : Nat) : Int) := by
        rw [iI_sub]; congr 1; omega
      have s106 : ∀ x', flg x' (alP s W (k + 1)) → f_PV_alike_106 r3 o3 (f_PV_alike_48 r3 o3 (fun z u => f_Md_alike a b c d e m (fun z2 v => (z = z2 → K u v) ∧ (¬ z = z2 → False))) (f + 1)) (fun z u => f_Md_alike a b c d e m (fun z2 v => (z = z2 → K u v) ∧ (¬ z = z2 → False))) x' y (s 0 * W (np - 1)) (iI k) u := by
        intro x' hx'
        unfold f_PV_alike_106
        rw [u0, en, e1, e22]
        rcases hy with ⟨ey, py⟩ | ⟨ey, py⟩
        · refine k_f (by rw [ey]; decide) ⟨v_nat (by omega) (by decide), v_nat (by omega) (by decide), k_n ?_⟩
          rw [cl_nat (by omega), cl_nat (by omega), us k (by omega), wc (np - 1 - k) (by omega)]
          refine k_c (fun h => ?_) (fun h => ?_)
          · exact ih (k + 1) _ _ (by omega) hx' (Or.inl ⟨rfl, alQ_st py h⟩)
          · exact ih (k + 1) _ _ (by omega) hx' (Or.inr ⟨rfl, fun q => h (q k (by omega))⟩)
        · exact k_t ey (ih (k + 1) _ _ (by omega) hx' (Or.inr ⟨rfl, alQ_no py⟩))
      rcases hx with ⟨ex, px⟩ | ⟨ex, px⟩
      · refine k_f (by rw [ex]; decide) ⟨v_nat (by omega) (by decide), k_n ?_⟩
        rw [cl_nat (by omega), us k (by omega), us 0 (by omega), wc 0 (by omega), wc k (by omega)]
        refine ⟨v_nat (by omega) (by decide), k_n (k_c (fun h => ?_) (fun h => ?_))⟩
        · exact s106 _ (Or.inl ⟨rfl, alP_st px h⟩)
        · exact s106 _ (Or.inr ⟨rfl, fun q => h (q k (by omega))⟩)
      · exact k_t ex (s106 _ (Or.inr ⟨rfl, alP_no px⟩))
  exact ⟨np + 1, lp np 0 1 1 (by omega) (Or.inl ⟨rfl, fun i hi => by omega⟩) (Or.inl ⟨rfl, fun i hi => by omega⟩)⟩
