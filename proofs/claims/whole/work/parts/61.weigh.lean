-- the class weighs a row
theorem sA_eta (o : Ob) (k : Nat) : sA o k (gA o k) = o := by
  show (o.1, o.2.1, up o.2.2.1 k (o.2.2.1 k), o.2.2.2) = o
  have : up o.2.2.1 k (o.2.2.1 k) = o.2.2.1 := by
    funext j
    unfold up
    cases hb : Nat.beq j k with
    | false => rfl
    | true => rw [Nat.eq_of_beq_eq_true hb]; rfl
  rw [this]
theorem TD.uq {A : Nat → Int32} {lk sd : Nat} {lo hi lo' hi' : Nat → Int} (h : TD A lk sd lo hi) (h' : TD A lk sd lo' hi') {tn : Nat} (ht : tn < 5) : lo tn = lo' tn ∧ hi tn = hi' tn := by
  rcases h tn ht with ⟨a1, a2, a3⟩ | ⟨i, i1, i2, i3, i4, i5, i6, i7, i8⟩
  · rcases h' tn ht with ⟨b1, b2, b3⟩ | ⟨j, j1, j2, j3, j4, j5, j6, j7, j8⟩
    · omega
    · exact absurd j2 (a1 j j1)
  · rcases h' tn ht with ⟨b1, b2, b3⟩ | ⟨j, j1, j2, j3, j4, j5, j6, j7, j8⟩
    · exact absurd i2 (b1 i i1)
    · have e : i = j := by
        rcases Nat.lt_trichotomy i j with q | q | q
        · exact absurd j2 (i3 j q j1)
        · exact q
        · exact absurd i2 (j3 i q i1)
      subst e
      rw [i4] at j4
      rw [i5] at j5
      have e1 := (iI_eq (by omega) (by omega)).mp j4
      have e2 := (iI_eq (by omega) (by omega)).mp j5
      exact ⟨e1, e2⟩
/-- a shape makes the sound -/
def PS (A : Nat → Int32) (lk : Nat) (n : Nat → Nat) (np s k : Nat) : Prop := ∀ lo hi, TD A lk s lo hi → FT lo hi (bxs n np k)
theorem PS_iff {A : Nat → Int32} {lk s np k : Nat} {n : Nat → Nat} {lo hi : Nat → Int} (h : TD A lk s lo hi) : PS A lk n np s k ↔ FT lo hi (bxs n np k) := by
  constructor
  · intro q; exact q lo hi h
  · intro q lo' hi' h' tn ht hl
    obtain ⟨e1, e2⟩ := h.uq h' ht
    rw [← e1, ← e2] at hl ⊢
    exact q tn ht hl
theorem sh_layOut0 {np : Nat} {n r : Nat → Nat} {o : Ob} {gr : Nat → Int32} {Q : (Nat → Nat) → Ob → Prop} (hnp : np ≤ 5) (hS : SHL np n r o) (hg : ∀ i, i < np → gr i = iI (n i)) (hQ : Q r o) : f_Sh_layOut0 r o gr Q := by
  have l4 : ∀ (f i : Nat), f + i = np → f_Sh_layOut0_4 gr Q (f + 1) (1 : Int32) (iI i) r o := by
    intro f
    induction f with
    | zero =>
      intro i hi
      have : i = np := by omega
      subst this
      unfold f_Sh_layOut0_4
      rw [hS.1]
      exact k_t (Int32.le_refl _) (k_f (by decide) hQ)
    | succ f ih =>
      intro i hi
      have ei : iI (i : Int) + (1 : Int32) = iI ((i + 1 : Nat) : Int) := ix_add i 1
      have v5 : vp_in (iI (i : Int)) 5 := v_nat (by omega) (by decide)
      unfold f_Sh_layOut0_4
      rw [hS.1, ei, cl_nat (by omega), hS.2.2.1 i (by omega), hg i (by omega)]
      exact b_le (fun q => by omega) (fun _ => k_f (by decide) ⟨v5, v5, k_t rfl (ih (i + 1) (by omega))⟩)
  exact ⟨np + 1, l4 np 0 rfl⟩
theorem sh_ask0 {np lk tm sd : Nat} {n r r1 : Nat → Nat} {o mo he : Ob} {A : Nat → Int32} {Q : (Nat → Nat) → Ob → Prop} (hnp : np ≤ 5) (hS : SHL np n r o) (hB : SBX np n o) (hg : ∀ i, i < np → gA mo 10 i = iI (n i)) (h12 : gI mo 12 = iI lk) (hH : RHe he A tm) (hlk : lk ≤ tm) (htm : tm ≤ 100) (hsd : sd < 8)
    (hQ : ∀ lo hi o', TD A lk sd lo hi → SHA np n lo hi r o' → gA o' 11 = gA o 11 → Q r o') : f_Sh_ask0 (iI sd) r o r1 mo he Q := by
  unfold f_Sh_ask0
  refine sh_layOut0 hnp hS hg ?_
  rw [h12]
  obtain ⟨lo, hi, f6, f7, hT, hf, run⟩ := he_fill (o1 := gA o 6) (o2 := gA o 7) hH hlk htm hsd
  refine run _ ?_
  have hok := hS.2.1
  have T0 := TN_le hok hnp (i := 0) (by omega)
  have lp : ∀ (f j : Nat) (v : Ob), f + j = 5 → SHL np n r v → gA v 11 = gA o 11 → (∀ tn, tn < 5 → gA v 6 tn = iI (lo tn) ∧ gA v 7 tn = iI (hi tn)) → (∃ b : Nat, b < 32 ∧ gI v 10 = iI b ∧ (∀ tn, tn < j → lo tn ≤ hi tn → bN b tn = 1) ∧ ∀ tn, tn < 5 → bN b tn = 1 → ∀ k, k < TT (szN n) np 0 → gA v 9 (tn * TT (szN n) np 0 + k) = iI (bxs n np k tn)) → f_Sh_ask0_28 r1 mo he Q (f + 1) (iI j) r v := by
    intro f
    induction f with
    | zero =>
      intro j v hj g1 g2 g3 g4
      have : j = 5 := by omega
      subst this
      obtain ⟨b, b1, b2, b3, b4⟩ := g4
      unfold f_Sh_ask0_28
      exact k_t (by decide) (hQ lo hi v hT ⟨g1, ⟨b, b1, b2, b4⟩, g3, fun tn ht hlh => b4 tn ht (b3 tn ht hlh)⟩ g2)
    | succ f ih =>
      intro j v hj g1 g2 g3 g4
      obtain ⟨b, b1, b2, b3, b4⟩ := g4
      have bd := hT.bd (tn := j) (by omega)
      have ej : iI (j : Int) + (1 : Int32) = iI ((j + 1 : Nat) : Int) := ix_add j 1
      have v5 : vp_in (iI (j : Int)) 5 := v_nat (by omega) (by decide)
      obtain ⟨k1, b', k2, k3, k4⟩ := bx_bit b b1 j (by omega)
      unfold f_Sh_ask0_28
      rw [ej, cl_nat (by omega), (g3 j (by omega)).1, (g3 j (by omega)).2, b2]
      refine b_le (a := 5) (fun q => by omega) (fun _ => ⟨v5, v5, b_lt (fun q => ?_) (fun q => ?_)⟩)
      · refine ih (j + 1) v (by omega) g1 g2 g3 ⟨b, b1, b2, fun tn ht hlh => ?_, b4⟩
        by_cases htj : tn = j
        · subst htj; omega
        · exact b3 tn (by omega) hlh
      · refine k_c (fun hz => ?_) (fun hz => ?_)
        · refine sh_fillBoxes hnp (by omega) g1 (fun v' w1 w2 w3 w4 w5 => ?_)
          rw [w2 10, b2, k3]
          refine ih (j + 1) _ (by omega) (w1.cg rfl rfl rfl rfl rfl rfl rfl g1.2.2.2.2.2.2.2) (by show gA v' 11 = _; rw [w3 11 (by decide) (by decide)]; exact g2) (fun tn ht => by show gA v' 6 tn = _ ∧ gA v' 7 tn = _; rw [w3 6 (by decide) (by decide), w3 7 (by decide) (by decide)]; exact g3 tn ht) ⟨b', k2, rfl, fun tn ht hlh => ?_, fun tn ht hb k hk => ?_⟩
          · by_cases htj : tn = j
            · exact (k4 tn (by omega)).mpr (Or.inl htj)
            · exact (k4 tn (by omega)).mpr (Or.inr (b3 tn (by omega) hlh))
          · show gA v' 9 _ = _
            by_cases htj : tn = j
            · subst htj; exact w5 k hk
            · have hbt : bN b tn = 1 := by
                rcases (k4 tn ht).mp hb with h | h
                · exact absurd h htj
                · exact h
              rw [w4 _ ?_]
              · exact b4 tn ht hbt k hk
              · rcases Nat.lt_or_gt_of_ne htj with h | h
                · left
                  have := Nat.mul_le_mul_right (TT (szN n) np 0) (show tn + 1 ≤ j by omega)
                  rw [Nat.succ_mul] at this
                  omega
                · right
                  have := Nat.mul_le_mul_right (TT (szN n) np 0) (show j + 1 ≤ tn by omega)
                  rw [Nat.succ_mul] at this
                  omega
        · refine ih (j + 1) v (by omega) g1 g2 g3 ⟨b, b1, b2, fun tn ht hlh => ?_, b4⟩
          by_cases htj : tn = j
          · subst htj
            rcases bN_01 b tn with h | h
            · exact absurd (k1.mpr h) hz
            · exact h
          · exact b3 tn (by omega) hlh
  obtain ⟨b, b1, b2, b3⟩ := hB
  exact ⟨6, lp 5 0 _ rfl (hS.cg rfl rfl rfl rfl rfl rfl rfl hS.2.2.2.2.2.2.2) rfl hf ⟨b, b1, b2, fun tn ht => by omega, b3⟩⟩
theorem SHA.s11 {np : Nat} {n r : Nat → Nat} {lo hi : Nat → Int} {o : Ob} (h : SHA np n lo hi r o) (f : Nat → Int32) : SHA np n lo hi r (sA o 11 f) := ⟨h.1.cg rfl rfl rfl rfl rfl rfl rfl h.1.2.2.2.2.2.2.2, h.2.1, h.2.2.1, h.2.2.2⟩
section WG
variable {np m : Nat} {n r r1 : Nat → Nat} {o mo he : Ob}
theorem sh_mark {s cs sl st : Nat} {lo hi : Nat → Int} {c : Nat → Nat} {f0 : Nat → Int32} {k5 : Nat → Nat → Int32 → Int32 → (Nat → Nat) → Ob → Prop} {Q : (Nat → Nat) → Ob → Prop} (hnp : np ≤ 5) (h : SHA np n lo hi r o) (hbd : ∀ tn, tn < 5 → (-20 ≤ lo tn ∧ lo tn ≤ 19) ∧ (-20 ≤ hi tn ∧ hi tn ≤ 19)) (hst : st + TN n np 0 ≤ r 111) (hcs : cs ≤ 2) (hsl : sl ≤ 13312) (hs : s < m) (hm : m ≤ 8)
    (hN : ∀ k, k < TN n np 0 → ¬ FT lo hi (bxs n np k) → c k = 1000000) (hL : ∀ k, k < TN n np 0 → FT lo hi (bxs n np k) → s + 1 = m → c k = 0) (hM : ∀ k, k < TN n np 0 → FT lo hi (bxs n np k) → s + 1 ≠ m → f0 (st + k) = iI ((c k : Nat) : Int))
    (hk : ∀ f', (∀ j, j < TN n np 0 → f' (st + j) = iI ((c j : Nat) : Int)) → (∀ x, x < st ∨ st + TN n np 0 ≤ x → f' x = f0 x) → k5 cs sl (iI m) (iI ((s : Int) - 1)) r (sA o 11 f')) : ∃ w, f_Sh_weighRow_96 r1 mo he k5 Q w cs sl (iI m) (iI s) (iI st) (0 : Int32) r (sA o 11 f0) := by
  have T0 := (TN_le h.1.2.1 hnp (i := 0) (by omega)).2
  have h8 : ∀ f, gI (sA o 11 f) 8 = iI ((TN n np 0 : Nat) : Int) := fun f => h.1.2.2.2.2.1
  have r8 := h.1.2.2.2.2.2.2.2
  have lp : ∀ (d k : Nat) (f : Nat → Int32), d + k = TN n np 0 → (∀ j, j < k → f (st + j) = iI ((c j : Nat) : Int)) → (∀ x, x < st ∨ st + k ≤ x → f x = f0 x) → f_Sh_weighRow_96 r1 mo he k5 Q (d + 1) cs sl (iI m) (iI s) (iI st) (iI k) r (sA o 11 f) := by
    intro d
    induction d with
    | zero =>
      intro k f hd w1 w2
      have : k = TN n np 0 := by omega
      subst this
      have e1 : iI (s : Int) + (-1 : Int32) = iI ((s : Int) - 1) := by rw [show (-1 : Int32) = iI (-1) by decide, iI_add]; rfl
      unfold f_Sh_weighRow_96
      rw [h8, e1]
      exact k_t (Int32.le_refl _) (hk f w1 w2)
    | succ d ih =>
      intro k f hd w1 w2
      have ek : iI (k : Int) + (1 : Int32) = iI ((k + 1 : Nat) : Int) := ix_add k 1
      have ex : iI (st : Int) + iI (k : Int) = iI ((st + k : Nat) : Int) := ix_add st k
      have em : iI (m : Int) - (1 : Int32) = iI ((m : Int) - 1) := iI_sub _ 1
      have vx : vp_in (iI ((st + k : Nat) : Int)) (r 111) := v_nat (by omega) (by omega)
      have nx : ∀ v : Int32, v = iI ((c k : Nat) : Int) → f_Sh_weighRow_96 r1 mo he k5 Q (d + 1) cs sl (iI m) (iI s) (iI st) (iI ((k + 1 : Nat) : Int)) r (sA o 11 (upd f (st + k) v)) := fun v hv => by
        refine ih (k + 1) _ (by omega) (fun j hj => ?_) (fun x hx => ?_)
        · by_cases e : j = k
          · subst e; rw [upd_same]; exact hv
          · rw [upd_ne _ _ _ _ (by omega)]; exact w1 j (by omega)
        · rw [upd_ne _ _ _ _ (by omega)]; exact w2 x (by omega)
      unfold f_Sh_weighRow_96
      rw [h8, ek, ex, em, cl_nat (by omega), sA_sA, sA_sA]
      refine b_le (fun q => by omega) (fun _ => ⟨hcs, hsl, sh_fits hnp (h.s11 f) hbd (by show k < TN n np 0; omega) (fun p => k_f (by decide) ?_) (fun p => k_t rfl ⟨vx, ?_⟩)⟩)
      · refine b_eq (fun q => ⟨vx, ?_⟩) (fun q => ?_)
        · exact nx _ (by rw [hL k (by omega) p (by omega)]; rfl)
        · refine ih (k + 1) f (by omega) (fun j hj => ?_) (fun x hx => w2 x (by omega))
          by_cases e : j = k
          · subst e
            rw [w2 _ (by omega)]
            exact hM j (by omega) p (by omega)
          · exact w1 j (by omega)
      · exact nx _ (by rw [hN k (by omega) p]; rfl)
  exact ⟨_, lp (TN n np 0) 0 f0 rfl (fun j hj => by omega) (fun _ _ => rfl)⟩
def RW (n : Nat → Nat) (np m s0 : Nat) (P : Nat → Nat → Prop) (C : Nat → Nat → Nat) : Prop := ∀ s, s0 ≤ s → s < m → ∀ k, k < TN n np 0 → (C s k = 1000000 ∨ C s k ≤ 55 * (m - 1 - s)) ∧ (¬ P s k → C s k = 1000000) ∧ (P s k → (s + 1 = m → C s k = 0) ∧ (s + 1 < m → (∀ j, j < TN n np 0 → C s k ≤ C (s + 1) j + dk n np k j) ∧ ∃ j, j < TN n np 0 ∧ C s k = C (s + 1) j + dk n np k j))
def RA (T m s0 : Nat) (C : Nat → Nat → Nat) (f : Nat → Int32) : Prop := ∀ s, s0 ≤ s → s < m → ∀ k, k < T → f (s * T + k) = iI ((C s k : Nat) : Int)
theorem dk_le (hok : okS np n) (hnp : np ≤ 5) (k j : Nat) : dk n np k j ≤ 55 := by
  have := dS_le np (shp_ok hok k) (shp_ok hok j)
  show dS _ _ _ ≤ 55
  omega
theorem dk_self (k : Nat) : dk n np k k = 0 := dS_self _ _
/-- one more row -/
theorem RW.more {s : Nat} {P : Nat → Nat → Prop} {C : Nat → Nat → Nat} {c : Nat → Nat} (hok : okS np n) (hnp : np ≤ 5) (hs : s < m) (hm : m ≤ 8) (h : RW n np m (s + 1) P C) (hN : ∀ k, k < TN n np 0 → ¬ P s k → c k = 1000000) (hL : ∀ k, k < TN n np 0 → P s k → s + 1 = m → c k = 0)
    (hM : ∀ k, k < TN n np 0 → P s k → s + 1 < m → (∀ j, j < TN n np 0 → c k ≤ C (s + 1) j + dk n np k j) ∧ ∃ j, j < TN n np 0 ∧ c k = C (s + 1) j + dk n np k j) : RW n np m s P (fun s' => if s' = s then c else C s') := by
  intro s' h1 h2 k hk
  by_cases e : s' = s
  · subst e
    simp only [if_true, if_neg (show ¬ (s' + 1 = s') by omega)]
    refine ⟨?_, fun p => hN k hk p, fun p => ⟨fun q => hL k hk p q, fun q => hM k hk p q⟩⟩
    by_cases p : P s' k
    · by_cases q : s' + 1 = m
      · rw [hL k hk p q]; exact Or.inr (Nat.zero_le _)
      · obtain ⟨a, j, b1, b2⟩ := hM k hk p (by omega)
        by_cases hfin : ∃ j, j < TN n np 0 ∧ C (s' + 1) j ≤ 55 * (m - 1 - (s' + 1))
        · obtain ⟨i, i1, i2⟩ := hfin
          have := a i i1
          have := dk_le hok hnp k i
          right; omega
        · have inf : ∀ i, i < TN n np 0 → C (s' + 1) i = 1000000 := fun i hi => by
            rcases (h (s' + 1) (Nat.le_refl _) (by omega) i hi).1 with z | z
            · exact z
            · exact absurd ⟨i, hi, z⟩ hfin
          have h3 := a k hk
          rw [dk_self, inf k hk] at h3
          rw [inf j b1] at b2
          left; omega
    · exact Or.inl (hN k hk p)
  · simp only [if_neg e, if_neg (show ¬ (s' + 1 = s) by omega)]
    exact h s' (by omega) h2 k hk
theorem RW.bd {s : Nat} {P : Nat → Nat → Prop} {C : Nat → Nat → Nat} {s0 k : Nat} (hm : m ≤ 8) (h : RW n np m s0 P C) (h1 : s0 ≤ s) (h2 : s < m) (hk : k < TN n np 0) : C s k ≤ 1000000 := by
  rcases (h s h1 h2 k hk).1 with q | q
  · omega
  · omega
noncomputable def iF (P : Prop) (a b : Nat) : Nat := @ite _ P (Classical.propDecidable _) a b
theorem iF_t {P : Prop} {a b : Nat} (h : P) : iF P a b = a := by
  unfold iF
  rw [if_pos h]
theorem iF_f {P : Prop} {a b : Nat} (h : ¬ P) : iF P a b = b := by
  unfold iF
  rw [if_neg h]
theorem sh_round {s cs sl lk : Nat} {A : Nat → Int32} {lo hi : Nat → Int} {C : Nat → Nat → Nat} {k5 : Nat → Nat → Int32 → Int32 → (Nat → Nat) → Ob → Prop} {Q : (Nat → Nat) → Ob → Prop} (hnp : np ≤ 5) (h : SHA np n lo hi r o) (hT : TD A lk s lo hi) (hcs : cs ≤ 2) (hsl : sl ≤ 13312) (hs : s < m) (hm : m ≤ 8) (h111 : 8 * TN n np 0 ≤ r 111) (hW : RW n np m (s + 1) (PS A lk n np) C) (hA : RA (TN n np 0) m (s + 1) C (gA o 11))
    (hk : ∀ f' C', RW n np m s (PS A lk n np) C' → RA (TN n np 0) m s C' f' → k5 cs sl (iI m) (iI ((s : Int) - 1)) r (sA o 11 f')) : f_Sh_weighRow_46 r1 mo he k5 Q cs sl (iI m) (iI s) r o := by
  have hok := h.1.2.1
  have T0 := (TN_le hok hnp (i := 0) (by omega)).2
  have h8 : gI o 8 = iI ((TN n np 0 : Nat) : Int) := h.1.2.2.2.2.1
  have r8 := h.1.2.2.2.2.2.2.2
  have hs8 := Nat.mul_le_mul_right (TN n np 0) (show s + 1 ≤ 8 by omega)
  rw [Nat.succ_mul] at hs8
  have em : iI (m : Int) - (1 : Int32) = iI ((m : Int) - 1) := iI_sub _ 1
  have ex : iI (s : Int) * iI ((TN n np 0 : Nat) : Int) = iI ((s * TN n np 0 : Nat) : Int) := by rw [iI_mul]; congr 1
  have ex2 : iI ((s * TN n np 0 : Nat) : Int) + iI ((TN n np 0 : Nat) : Int) = iI ((s * TN n np 0 + TN n np 0 : Nat) : Int) := ix_add _ _
  have keep : ∀ (c : Nat → Nat) (f f' : Nat → Int32), (∀ j, j < TN n np 0 → f' (s * TN n np 0 + j) = iI ((c j : Nat) : Int)) → (∀ x, x < s * TN n np 0 ∨ s * TN n np 0 + TN n np 0 ≤ x → f' x = f x) → (∀ x, x < s * TN n np 0 ∨ s * TN n np 0 + TN n np 0 ≤ x → f x = gA o 11 x) → RA (TN n np 0) m s (fun s' => if s' = s then c else C s') f' := by
    intro c f f' a1 a2 a3 s' b1 b2 k hk1
    by_cases e : s' = s
    · subst e
      simp only [if_true]
      exact a1 k hk1
    · simp only [if_neg e]
      have h1 := Nat.mul_le_mul_right (TN n np 0) (show s + 1 ≤ s' by omega)
      rw [Nat.succ_mul] at h1
      rw [a2 _ (by omega), a3 _ (by omega)]
      exact hA s' (by omega) b2 k hk1
  unfold f_Sh_weighRow_46
  rw [h8, em, ex, ex2]
  refine b_le (fun q => ?_) (fun q => ⟨fun q1 => ?_, fun q1 => ?_, fun q1 => ?_, ?_, ?_, hcs, hsl, ?_⟩)
  · have hl : s + 1 = m := by omega
    have key := sh_mark (m := m) (r1 := r1) (mo := mo) (he := he) (s := s) (cs := cs) (sl := sl) (st := s * TN n np 0) (c := fun k => iF (FT lo hi (bxs n np k)) 0 1000000) (f0 := gA o 11) (k5 := k5) (Q := Q) hnp h (fun tn ht => hT.bd ht) (by omega) hcs hsl hs hm (fun k _ p => iF_f p) (fun k _ p _ => iF_t p) (fun k _ _ ne => absurd hl ne) (fun f' a1 a2 => hk f' _ (hW.more hok hnp hs hm (fun k hk' p => iF_f (fun z => p ((PS_iff hT).mpr z))) (fun k hk' p _ => iF_t ((PS_iff hT).mp p)) (fun k hk' p q2 => by omega)) (keep _ (gA o 11) f' a1 a2 (fun _ _ => rfl)))
    rw [sA_eta] at key
    exact key
  · have := (iI_lt (b := 0) (by omega) (by omega)).mp q1
    omega
  · have := (iI_lt (b := 0) (by omega) (by omega)).mp q1
    omega
  · have := (iI_lt (b := 0) (by omega) (by omega)).mp q1
    omega
  · rw [cl_nat (by omega), cl_nat (by omega)]
    have := Nat.mul_le_mul_right (TN n np 0) (show s + 2 ≤ 8 by omega)
    rw [Nat.succ_mul, Nat.succ_mul] at this
    omega
  · rw [cl_nat (by omega), cl_nat (by omega)]; omega
  · rw [cl_nat (by omega), cl_nat (by omega), cl_nat (by omega)]
    have hl : s + 1 < m := by omega
    refine sh_spread (g := gA o 11) (c0 := C (s + 1)) hnp h.1 (by omega) (fun k hk' => hW.bd hm (Nat.le_refl _) hl hk') ⟨fun k hk' => ?_, fun x hx => ?_⟩ (fun f' c hCO hMN => ?_)
    · unfold va_cpy
      rw [if_pos (by omega), show s * TN n np 0 + TN n np 0 + (s * TN n np 0 + k - s * TN n np 0) = (s + 1) * TN n np 0 + k by rw [Nat.succ_mul]; omega]
      exact hA (s + 1) (Nat.le_refl _) hl k hk'
    · unfold va_cpy
      rw [if_neg (by omega)]
    · refine sh_mark (m := m) (r1 := r1) (mo := mo) (he := he) (s := s) (cs := cs) (sl := sl) (st := s * TN n np 0) (c := fun k => iF (FT lo hi (bxs n np k)) (c k) 1000000) (f0 := f') (k5 := k5) (Q := Q) hnp h (fun tn ht => hT.bd ht) (by omega) hcs hsl hs hm (fun k _ p => iF_f p) (fun k _ p z => by omega) (fun k hk' p _ => ?_) (fun f2 a1 a2 => hk f2 _ (hW.more hok hnp hs hm (fun k hk' p => iF_f (fun z => p ((PS_iff hT).mpr z))) (fun k hk' p z => by omega) (fun k hk' p _ => ?_)) (keep _ f' f2 a1 a2 hCO.2))
      · rw [iF_t p]; exact hCO.1 k hk'
      · rw [iF_t ((PS_iff hT).mp p)]; exact hMN k hk'
theorem sh_weighRow {lk tm : Nat} {A : Nat → Int32} {Q : (Nat → Nat) → Ob → Prop} (hnp : np ≤ 5) (hnp1 : 1 ≤ np) (hR : RSh np r o) (hok : okS np n) (hg : ∀ i, i < np → gA mo 10 i = iI (n i)) (h12 : gI mo 12 = iI lk) (hH : RHe he A tm) (hlk : lk ≤ tm) (htm : tm ≤ 100) (hm1 : 1 ≤ m) (hm : m ≤ 8)
    (hQ : ∀ r' o' C, SHL np n r' o' → SBX np n o' → 8 * TN n np 0 ≤ r' 111 → RW n np m 0 (PS A lk n np) C → RA (TN n np 0) m 0 C (gA o' 11) → Q r' o') : f_Sh_weighRow (iI m) r o r1 mo he Q := by
  have T0 := (TN_le hok hnp (i := 0) (by omega)).2
  have late : ∀ (s cs sl : Nat) (r' : Nat → Nat) (o' : Ob) (C : Nat → Nat → Nat), s ≤ m → cs ≤ 2 → sl ≤ 13312 → SHL np n r' o' → SBX np n o' → 8 * TN n np 0 ≤ r' 111 → RW n np m s (PS A lk n np) C → RA (TN n np 0) m s C (gA o' 11) → f_Sh_weighRow_5 r1 mo he Q (s + 1) cs sl (iI m) (iI ((s : Int) - 1)) r' o' := by
    intro s
    induction s with
    | zero =>
      intro cs sl r' o' C hs hcs hsl w1 w2 w3 w4 w5
      unfold f_Sh_weighRow_5
      exact k_t (by decide) ⟨hcs, hsl, hQ r' o' C w1 w2 w3 w4 w5⟩
    | succ s ih =>
      intro cs sl r' o' C hs hcs hsl w1 w2 w3 w4 w5
      have e1 : iI (((s + 1 : Nat) : Int) - 1) = iI (s : Int) := by congr 1; omega
      have r8 := w1.2.2.2.2.2.2.2
      unfold f_Sh_weighRow_5
      rw [e1]
      refine b_lt (b := 0) (fun q => by omega) (fun _ => Or.inr ⟨hcs, hsl, sh_ask0 hnp w1 w2 hg h12 hH hlk htm (show s < 8 by omega) (fun lo hi o2 hT hSA e11 => ?_)⟩)
      have h8 : gI o2 8 * (8 : Int32) = iI ((TN n np 0 * 8 : Nat) : Int) := by rw [hSA.1.2.2.2.2.1, show (8 : Int32) = iI 8 from rfl, iI_mul]; congr 1
      rw [h8, iI_nI]
      refine b_le (fun _ => ?_) (fun q => by omega)
      refine sh_round hnp hSA hT hcs hsl (by omega) hm w3 w4 (by rw [e11]; exact w5) (fun f' C' v1 v2 => ?_)
      exact ih cs sl r' _ C' (by omega) hcs hsl (hSA.s11 f').1 (hSA.s11 f').2.1 w3 v1 v2
  have e1 : iI (m : Int) - (1 : Int32) = iI ((m - 1 : Nat) : Int) := by rw [show (1 : Int32) = iI 1 from rfl, iI_sub]; congr 1; omega
  have em : ∀ C, RW n np m (m - 1 + 1) (PS A lk n np) C := fun C s h1 h2 => by omega
  have ea : ∀ C f, RA (TN n np 0) m (m - 1 + 1) C f := fun C f s h1 h2 => by omega
  refine ⟨m + 1, ?_⟩
  rw [e1]
  unfold f_Sh_weighRow_5
  refine b_lt (b := 0) (fun q => by omega) (fun _ => Or.inl ⟨by decide, by decide, sh_ask hnp hnp1 hR hok hg h12 hH hlk htm (show m - 1 < 8 by omega) (fun lo hi r2 o2 hT hSA _ _ _ => ?_)⟩)
  have h8 : gI o2 8 * (8 : Int32) = iI ((TN n np 0 * 8 : Nat) : Int) := by rw [hSA.1.2.2.2.2.1, show (8 : Int32) = iI 8 from rfl, iI_mul]; congr 1
  have r8 := hSA.1.2.2.2.2.2.2.2
  have em1 : m - 1 + 1 = m := by omega
  rw [h8, iI_nI]
  refine b_le (fun q => ?_) (fun q => ⟨fun q1 => ?_, by decide, ?_, fun q29 => ?_⟩)
  · refine sh_round (C := fun _ _ => 0) hnp hSA hT (by decide) (by decide) (by omega) hm (by omega) (em _) (ea _ _) (fun f' C' v1 v2 => ?_)
    have := late (m - 1) 1 5120 r2 _ C' (by omega) (by decide) (by decide) (hSA.s11 f').1 (hSA.s11 f').2.1 (by omega) v1 v2
    rw [em1] at this
    exact this
  · have := (iI_lt (b := 0) (by omega) (by omega)).mp q1
    omega
  · rw [cl_nat (by omega)]; omega
  · rw [cl_nat (by omega)]
    have hSA2 : SHA np n lo hi (up (up r2 11 q29) 111 (TN n np 0 * 8)) (sA o2 11 (fun _ => 0)) := ⟨hSA.1.cg rfl rfl rfl rfl rfl rfl rfl (by show TN n np 0 * 8 ≤ 8192; omega), hSA.2.1, hSA.2.2.1, hSA.2.2.2⟩
    refine sh_round (C := fun _ _ => 0) hnp hSA2 hT (by decide) (by omega) (by omega) hm (by show 8 * _ ≤ TN n np 0 * 8; omega) (em _) (ea _ _) (fun f' C' v1 v2 => ?_)
    have := late (m - 1) 2 (0 + 5120 + TN n np 0 * 8) _ _ C' (by omega) (by decide) (by omega) (hSA2.s11 f').1 (hSA2.s11 f').2.1 (by show 8 * _ ≤ TN n np 0 * 8; omega) v1 v2
    rw [em1] at this
    exact this
end WG
