-- sets of widths as bits, and the shapes of a grid in their order
def bN (n c : Nat) : Nat := n / 2 ^ c % 2
def cbN (n : Nat) : Nat → Nat
  | 0 => 0
  | c + 1 => cbN n c + bN n (c + 1)
theorem pop_st (n : Nat) : pop n = n % 2 + pop (n / 2) := by
  cases n with
  | zero => simp [pop]
  | succ n => rw [pop]
theorem pop_k (n : Nat) : ∀ k, pop n = (n % 2 + cbN n k) + pop (n / 2 ^ (k + 1)) := by
  intro k
  induction k with
  | zero => exact pop_st n
  | succ k ih =>
    rw [ih, pop_st (n / 2 ^ (k + 1)), Nat.div_div_eq_div_mul, ← Nat.pow_succ]
    show _ = n % 2 + (cbN n k + n / 2 ^ (k + 1) % 2) + pop (n / 2 ^ (k + 1).succ)
    omega
theorem pop_cb {n : Nat} (h : n < 8192) : pop n = n % 2 + cbN n 12 := by
  have h0 : n / 2 ^ (12 + 1) = 0 := Nat.div_eq_of_lt h
  have h1 : pop 0 = 0 := by simp [pop]
  rw [pop_k n 12, h0, h1]
  rfl
theorem bN_01 (n c : Nat) : bN n c = 0 ∨ bN n c = 1 := by unfold bN; omega
theorem cbN_mono (n : Nat) {a b : Nat} (h : a ≤ b) : cbN n a ≤ cbN n b := by
  induction b with
  | zero => have : a = 0 := by omega
            subst this; exact Nat.le_refl _
  | succ b ih =>
    by_cases hab : a = b + 1
    · subst hab; exact Nat.le_refl _
    · have := ih (by omega)
      show cbN n a ≤ cbN n b + bN n (b + 1)
      omega
theorem cbN_pred (n : Nat) {c : Nat} (h : 1 ≤ c) : cbN n c = cbN n (c - 1) + bN n c := by
  obtain ⟨k, rfl⟩ : ∃ k, c = k + 1 := ⟨c - 1, by omega⟩
  rfl
theorem cbN_gap (n : Nat) {a : Nat} : ∀ b, a ≤ b → (∀ x, a < x → x ≤ b → bN n x = 0) → cbN n b = cbN n a := by
  intro b
  induction b with
  | zero => intro h _
            have : a = 0 := by omega
            subst this; rfl
  | succ b ih =>
    intro h h0
    by_cases hab : a = b + 1
    · subst hab; rfl
    · have e1 := ih (by omega) (fun x x1 x2 => h0 x x1 (by omega))
      have e2 := h0 (b + 1) (by omega) (by omega)
      show cbN n b + bN n (b + 1) = _
      omega
def chF (n : Nat) : Nat → Nat → Nat → Nat
  | 0, _, c => c
  | f + 1, g, c => if bN n c = 1 then (if g = 0 then c else chF n f (g - 1) (c + 1)) else chF n f g (c + 1)
def chN (n g : Nat) : Nat := chF n 13 g 1
theorem chF_at {n c : Nat} (hb : bN n c = 1) : ∀ f c0 g, 1 ≤ c0 → c0 ≤ c → c - c0 < f → g + cbN n (c0 - 1) = cbN n (c - 1) → chF n f g c0 = c := by
  intro f
  induction f with
  | zero => intro c0 g _ _ h; omega
  | succ f ih =>
    intro c0 g h1 h2 h3 h4
    unfold chF
    have hp := cbN_pred n h1
    by_cases hc : c0 = c
    · subst hc
      rw [if_pos hb, if_pos (by omega)]
    · have hm := cbN_mono n (show c0 ≤ c - 1 by omega)
      rcases bN_01 n c0 with h0 | h0
      · rw [if_neg (by omega)]
        exact ih (c0 + 1) g (by omega) (by omega) (by omega) (by rw [show c0 + 1 - 1 = c0 by omega]; omega)
      · rw [if_pos h0, if_neg (by omega)]
        exact ih (c0 + 1) (g - 1) (by omega) (by omega) (by omega) (by rw [show c0 + 1 - 1 = c0 by omega]; omega)
theorem chN_at {n c : Nat} (h1 : 1 ≤ c) (h2 : c ≤ 12) (hb : bN n c = 1) : chN n (cbN n (c - 1)) = c := by
  refine chF_at hb 13 1 _ (by omega) h1 (by omega) ?_
  show _ + 0 = _
  omega
/-- the g-th choice is a width -/
theorem chF_bd {n : Nat} : ∀ f g c, 1 ≤ c → c + f = 14 → g + cbN n (c - 1) < cbN n 12 → 1 ≤ chF n f g c ∧ chF n f g c ≤ 12 := by
  intro f
  induction f with
  | zero =>
    intro g c h1 h2 h3
    have := cbN_mono n (show 12 ≤ c - 1 by omega)
    omega
  | succ f ih =>
    intro g c h1 h2 h3
    have hp := cbN_pred n h1
    have hc : c ≤ 12 := by
      rcases Nat.lt_or_ge 12 c with h | h
      · have := cbN_mono n (show 12 ≤ c - 1 by omega)
        omega
      · exact h
    unfold chF
    rcases bN_01 n c with h0 | h0
    · rw [if_neg (by omega)]
      exact ih g (c + 1) (by omega) (by omega) (by rw [show c + 1 - 1 = c by omega]; omega)
    · rw [if_pos h0]
      by_cases hg : g = 0
      · rw [if_pos hg]; omega
      · rw [if_neg hg]
        exact ih (g - 1) (c + 1) (by omega) (by omega) (by rw [show c + 1 - 1 = c by omega]; omega)
theorem chN_bd {n g : Nat} (h : g < cbN n 12) : 1 ≤ chN n g ∧ chN n g ≤ 12 := chF_bd 13 g 1 (by omega) (by omega) (by show g + 0 < _; omega)
theorem sh_k (c : Nat) (hc : c < 14) : ((iI (c : Int) &&& 31).toBitVec.smod 32).toNat = c := by
  have : ∀ c : Nat, c < 14 → ((iI (c : Int) &&& 31).toBitVec.smod 32).toNat = c := by decide
  exact this c hc
theorem bitAt {n c : Nat} (hn : n < 8192) (hc : c < 14) : (iI (n : Int) >>> (iI (c : Int) &&& 31)) &&& (1 : Int32) = iI ((bN n c : Nat) : Int) := by
  have h := Nat.div_le_self n (2 ^ c)
  rw [show iI (n : Int) = nI n from rfl, pk_shrN (by omega) _ c (sh_k c hc), pk_andN (n := n / 2 ^ c) (by omega) (m := (1 : Int32)) 1 rfl]
  rfl
-- how many there are
def TF (s : Nat → Nat) : Nat → Nat → Nat
  | 0, _ => 1
  | d + 1, i => s i * TF s d (i + 1)
def TT (s : Nat → Nat) (np i : Nat) : Nat := TF s (np - i) i
theorem TT_end (s : Nat → Nat) (np : Nat) : TT s np np = 1 := by unfold TT; rw [Nat.sub_self]; rfl
theorem TT_st (s : Nat → Nat) {np i : Nat} (h : i < np) : TT s np i = s i * TT s np (i + 1) := by
  unfold TT
  rw [show np - i = (np - (i + 1)) + 1 by omega]
  rfl
theorem TT_pos {s : Nat → Nat} {np : Nat} (hs : ∀ i, i < np → 0 < s i) : ∀ d i, d + i = np → 0 < TT s np i := by
  intro d
  induction d with
  | zero => intro i hi
            have : i = np := by omega
            subst this; rw [TT_end]; decide
  | succ d ih => intro i hi
                 rw [TT_st s (by omega)]
                 exact Nat.mul_pos (hs i (by omega)) (ih (i + 1) (by omega))
theorem TT_dvd {s : Nat → Nat} {np j : Nat} : ∀ d i, d + i = j → j ≤ np → TT s np j ∣ TT s np i := by
  intro d
  induction d with
  | zero => intro i hi _
            have : i = j := by omega
            subst this; exact Nat.dvd_refl _
  | succ d ih => intro i hi hj
                 rw [TT_st s (show i < np by omega)]
                 exact Nat.dvd_mul_left_of_dvd (ih (i + 1) (by omega) hj) _
theorem TT_le {s : Nat → Nat} {np : Nat} (hs : ∀ i, i < np → s i ≤ 4) : ∀ d i, d + i = np → TT s np i ≤ 4 ^ d := by
  intro d
  induction d with
  | zero => intro i hi
            have : i = np := by omega
            subst this; rw [TT_end]; decide
  | succ d ih => intro i hi
                 rw [TT_st s (by omega), Nat.pow_succ, Nat.mul_comm (4 ^ d)]
                 exact Nat.mul_le_mul (hs i (by omega)) (ih (i + 1) (by omega))
/-- a digit of a shape's number -/
def dg (s : Nat → Nat) (np j k : Nat) : Nat := k / TT s np (j + 1) % s j
theorem dg_add {s : Nat → Nat} {np i j : Nat} (hs : ∀ i, i < np → 0 < s i) (hij : i ≤ j) (hj : j < np) (g r : Nat) : dg s np j (g * TT s np i + r) = dg s np j r := by
  unfold dg
  obtain ⟨q, hq⟩ := TT_dvd (s := s) (np := np) (j := j) (j - i) i (by omega) (by omega)
  rw [hq, TT_st s hj]
  have hp := TT_pos hs (np - (j + 1)) (j + 1) (by omega)
  rw [show g * (s j * TT s np (j + 1) * q) + r = r + TT s np (j + 1) * (s j * (g * q)) by
    rw [Nat.add_comm]; congr 1; ac_rfl]
  rw [Nat.add_mul_div_left _ _ hp, Nat.add_mul_mod_self_left]
theorem dg_top {s : Nat → Nat} {np i : Nat} (hs : ∀ i, i < np → 0 < s i) (hi : i < np) {g r : Nat} (hg : g < s i) (hr : r < TT s np (i + 1)) : dg s np i (g * TT s np (i + 1) + r) = g := by
  unfold dg
  have hp := TT_pos hs (np - (i + 1)) (i + 1) (by omega)
  rw [Nat.add_comm, Nat.add_mul_div_right _ _ hp, Nat.div_eq_of_lt hr, Nat.zero_add, Nat.mod_eq_of_lt hg]
theorem dg_lt {s : Nat → Nat} {np j : Nat} (k : Nat) (h : 0 < s j) : dg s np j k < s j := Nat.mod_lt _ h
-- the model's search for all shapes
def mdS (m u : Ob) : Prop := (∀ k, k ≠ 40 → gI u k = gI m k) ∧ gL u = gL m ∧ (∀ k, k ≠ 39 → k ≠ 41 → gA u k = gA m k) ∧ gB u = gB m
theorem mdS.rf (m : Ob) : mdS m m := ⟨fun _ _ => rfl, rfl, fun _ _ _ => rfl, rfl⟩
theorem mdS.tr {a b c : Ob} (h : mdS a b) (g : mdS b c) : mdS a c := ⟨fun k hk => (g.1 k hk).trans (h.1 k hk), g.2.1.trans h.2.1, fun k h1 h2 => (g.2.2.1 k h1 h2).trans (h.2.2.1 k h1 h2), g.2.2.2.trans h.2.2.2⟩
theorem mdS.sa {m u : Ob} (h : mdS m u) (k : Nat) (f : Nat → Int32) (hk : k = 39 ∨ k = 41) : mdS m (sA u k f) := by
  refine ⟨h.1, h.2.1, fun j h1 h2 => ?_, h.2.2.2⟩
  rw [gA_sA_ne _ _ _ _ (by omega)]; exact h.2.2.1 j h1 h2
theorem mdS.si {m u : Ob} (h : mdS m u) (v : Int32) : mdS m (sI u 40 v) := ⟨fun k hk => by rw [gI_sI_ne _ _ _ _ hk]; exact h.1 k hk, h.2.1, h.2.2.1, h.2.2.2⟩
/-- the next width in a set -/
theorem md_28 {i n : Nat} (hi : i < 5) (hn : n < 8192) : ∀ (f c : Nat) (u : Ob), f + c = 13 → 1 ≤ c → gA u 41 i = iI c → gA u 1 (30 + i) = iI n →
    ∃ (c' : Nat) (u' : Ob), c ≤ c' ∧ c' ≤ 13 ∧ (∀ x, c ≤ x → x < c' → bN n x = 0) ∧ (c' ≤ 12 → bN n c' = 1) ∧ mdS u u' ∧ gI u' 40 = gI u 40 ∧ gA u' 39 = gA u 39 ∧ (∀ j, j ≠ i → gA u' 41 j = gA u 41 j) ∧ gA u' 41 i = iI c' ∧ (∀ (k14 : Int32 → Ob → Prop) (Q : Ob → Prop), f_Md_findShapes_73 k14 Q (iI i) u' → f_Md_findShapes_28 k14 Q (f + 1) (iI i) u) := by
  intro f
  have vi : vp_in (iI (i : Int)) 5 := v_nat hi (by decide)
  induction f with
  | zero =>
    intro c u hc h1 h41 h1a
    have : c = 13 := by omega
    subst this
    refine ⟨13, u, by omega, by omega, fun x x1 x2 => by omega, fun h => by omega, mdS.rf u, rfl, rfl, fun _ _ => rfl, h41, fun k14 Q h => ?_⟩
    unfold f_Md_findShapes_28
    rw [cl_nat (by omega), h41]
    exact ⟨vi, k_t (by decide) h⟩
  | succ f ih =>
    intro c u hc h1 h41 h1a
    have e30 : (30 : Int32) + iI (i : Int) = iI ((30 + i : Nat) : Int) := ix_add 30 i
    have ec : iI (c : Int) + (1 : Int32) = iI ((c + 1 : Nat) : Int) := ix_add c 1
    have hbit := bitAt (n := n) (c := c) hn (by omega)
    rcases bN_01 n c with h0 | h0
    · obtain ⟨c', u', a1, a2, a3, a4, a5, a6, a7, a8, a9, run⟩ := ih (c + 1) (sA u 41 (upd (gA u 41) i (iI ((c + 1 : Nat) : Int)))) (by omega) (by omega) (upd_same _ _ _) h1a
      refine ⟨c', u', by omega, a2, fun x x1 x2 => ?_, a4, ((mdS.rf u).sa 41 _ (by omega)).tr a5, a6, a7, fun j hj => ?_, a9, fun k14 Q h => ?_⟩
      · by_cases hx : x = c
        · subst hx; exact h0
        · exact a3 x (by omega) x2
      · rw [a8 j hj]
        exact upd_ne _ _ _ _ hj
      · unfold f_Md_findShapes_28
        rw [cl_nat (by omega), h41, e30]
        refine ⟨vi, b_le (a := 13) (fun q => by omega) (fun _ => ⟨v_nat (by omega) (by decide), ?_⟩)⟩
        rw [cl_nat (by omega), h1a]
        refine k_n ⟨vi, k_n ?_⟩
        rw [hbit, h0, ec]
        exact k_t rfl ⟨vi, vi, run k14 Q h⟩
    · refine ⟨c, u, by omega, by omega, fun x x1 x2 => by omega, fun _ => h0, mdS.rf u, rfl, rfl, fun _ _ => rfl, h41, fun k14 Q h => ?_⟩
      unfold f_Md_findShapes_28
      rw [cl_nat (by omega), h41, e30]
      refine ⟨vi, b_le (a := 13) (fun q => by omega) (fun _ => ⟨v_nat (by omega) (by decide), ?_⟩)⟩
      rw [cl_nat (by omega), h1a]
      refine k_n ⟨vi, k_n ?_⟩
      rw [hbit, h0]
      exact k_f (by decide) h
/-- a shape is laid down -/
theorem md_115 {np ct : Nat} {x1 : Int32} (hnp : np ≤ 5) (hct : ct < 1024) : ∀ (f j : Nat) (u : Ob), f + j = np → gI u 0 = iI np → gI u 40 = iI ct →
    ∃ u', mdS u u' ∧ gA u' 41 = gA u 41 ∧ gI u' 40 = iI ((ct + 1 : Nat) : Int) ∧ (∀ x, x < 5 * ct + j → gA u' 39 x = gA u 39 x) ∧ (∀ j', j ≤ j' → j' < np → gA u' 39 (5 * ct + j') = gA u 41 j') ∧ (∀ (k14 : Int32 → Ob → Prop) (Q : Ob → Prop), k14 x1 u' → f_Md_findShapes_115 k14 Q (f + 1) x1 (iI j) u) := by
  intro f
  induction f with
  | zero =>
    intro j u hj h0 h40
    have : j = np := by omega
    subst this
    have ec : iI (ct : Int) + (1 : Int32) = iI ((ct + 1 : Nat) : Int) := ix_add ct 1
    refine ⟨sI u 40 (iI ((ct + 1 : Nat) : Int)), (mdS.rf u).si _, rfl, rfl, fun _ _ => rfl, fun j' h1 h2 => by omega, fun k14 Q h => ?_⟩
    unfold f_Md_findShapes_115
    rw [h0, h40, ec]
    exact k_t (Int32.le_refl _) h
  | succ f ih =>
    intro j u hj h0 h40
    have e5 : (5 : Int32) * iI (ct : Int) + iI (j : Int) = iI ((5 * ct + j : Nat) : Int) := by
      rw [show (5 : Int32) = iI 5 from rfl, iI_mul, iI_add]; congr 1
    have ej : iI (j : Int) + (1 : Int32) = iI ((j + 1 : Nat) : Int) := ix_add j 1
    obtain ⟨u', a1, a2, a3, a4, a5, run⟩ := ih (j + 1) (sA u 39 (upd (gA u 39) (5 * ct + j) (gA u 41 j))) (by omega) h0 h40
    refine ⟨u', ((mdS.rf u).sa 39 _ (by omega)).tr a1, a2, a3, fun x hx => ?_, fun j' h1 h2 => ?_, fun k14 Q h => ?_⟩
    · rw [a4 x (by omega)]
      exact upd_ne _ _ _ _ (by omega)
    · by_cases hjj : j' = j
      · subst hjj
        rw [a4 _ (by omega)]
        exact upd_same _ _ _
      · exact a5 j' (by omega) h2
    · unfold f_Md_findShapes_115
      rw [h0, h40, e5, ej, cl_nat (by omega), cl_nat (by omega)]
      exact b_le (fun q => by omega) (fun _ => ⟨v_nat (by omega) (by decide), v_nat (by omega) (by decide), run k14 Q h⟩)
/-- the masks of a grid -/
def okM (np : Nat) (n : Nat → Nat) (A : Nat → Int32) : Prop := ∀ i, i < np → n i < 8192 ∧ A (30 + i) = iI (n i) ∧ 0 < cbN (n i) 12 ∧ cbN (n i) 12 ≤ 4
abbrev szN (n : Nat → Nat) : Nat → Nat := fun i => cbN (n i) 12
theorem md_dfs {np : Nat} {n : Nat → Nat} {m : Ob} (hnp : np ≤ 5) (hm : gI m 0 = iI np) (hM : okM np n (gA m 1)) : ∀ d i : Nat, d + i + 1 = np → ∀ (e c : Nat) (u : Ob) (base ct : Nat), e + c = 12 → mdS m u → gA u 41 i = iI c → gI u 40 = iI ct → ct = base + cbN (n i) c * TT (szN n) np (i + 1) → base + TT (szN n) np i ≤ 1024 →
    ∃ (w : Nat) (u' : Ob), mdS m u' ∧ (∀ j : Nat, j < i → gA u' 41 j = gA u 41 j) ∧ gI u' 40 = iI ((base + TT (szN n) np i : Nat) : Int) ∧ (∀ x : Nat, x < 5 * ct → gA u' 39 x = gA u 39 x) ∧ (∀ k : Nat, ct ≤ k → k < base + TT (szN n) np i → (∀ j, j < i → gA u' 39 (5 * k + j) = gA u 41 j) ∧ (∀ j, i ≤ j → j < np → gA u' 39 (5 * k + j) = iI ((chN (n j) (dg (szN n) np j (k - base)) : Nat) : Int))) ∧ (∀ (Q : Ob → Prop) (nn : Nat), f_Md_findShapes_14 Q nn (iI ((i : Int) - 1)) u' → f_Md_findShapes_14 Q (nn + w) (iI i) u) := by
  have hs : ∀ i, i < np → 0 < szN n i := fun i hi => (hM i hi).2.2.1
  intro d
  induction d with
  | zero =>
    intro i hi e
    have hT1 : TT (szN n) np (i + 1) = 1 := by rw [show i + 1 = np by omega, TT_end]
    have hTi : TT (szN n) np i = cbN (n i) 12 := by rw [TT_st _ (show i < np by omega), hT1, Nat.mul_one]
    obtain ⟨M1, M2, M3, M4⟩ := hM i (by omega)
    induction e using Nat.strongRecOn with
    | _ e ihe =>
    intro c u base ct he hmu h41 h40 hct hb
    have ec : iI (c : Int) + (1 : Int32) = iI ((c + 1 : Nat) : Int) := ix_add c 1
    obtain ⟨c', u1, a1, a2, a3, a4, a5, a6, a7, a8, a9, run1⟩ := md_28 (i := i) (n := n i) (by omega) M1 (12 - c) (c + 1) (sA u 41 (upd (gA u 41) i (iI ((c + 1 : Nat) : Int)))) (by omega) (by omega) (upd_same _ _ _) (by show gA u 1 _ = _; rw [hmu.2.2.1 1 (by decide) (by decide)]; exact M2)
    have hmu1 : mdS m u1 := (hmu.sa 41 _ (by omega)).tr a5
    have u10 : gI u1 0 = iI np := by rw [hmu1.1 0 (by decide)]; exact hm
    have hcg : ∀ x, c ≤ x → x < c' → cbN (n i) x = cbN (n i) c := fun x x1 x2 => cbN_gap (n i) x x1 (fun y y1 y2 => a3 y (by omega) (by omega))
    have vi : vp_in (iI (i : Int)) 5 := v_nat (by omega) (by decide)
    have enp : iI (np : Int) - (1 : Int32) = iI (i : Int) := by
      rw [show iI (np : Int) - (1 : Int32) = iI ((np : Int) - 1) from iI_sub _ 1]; congr 1; omega
    have head : ∀ (Q : Ob → Prop) nn, f_Md_findShapes_73 (f_Md_findShapes_14 Q nn) Q (iI i) u1 → f_Md_findShapes_14 Q (nn + 1) (iI i) u := by
      intro Q nn h
      unfold f_Md_findShapes_14
      rw [cl_nat (by omega), h41, ec]
      exact b_lt (b := 0) (fun q => by omega) (fun _ => ⟨vi, vi, 12 - c + 1, run1 _ Q h⟩)
    by_cases h13 : c' = 13
    · subst h13
      have : cbN (n i) c = cbN (n i) 12 := (hcg 12 (by omega) (by omega)).symm
      rw [this, hT1] at hct
      refine ⟨1, u1, hmu1, fun j hj => ?_, ?_, fun x _ => by rw [a7]; rfl, fun k k1 k2 => by omega, fun Q nn h => head Q nn ?_⟩
      · rw [a8 j (by omega)]; exact upd_ne _ _ _ _ (by omega)
      · rw [a6, hTi]
        show gI u 40 = _
        rw [h40, hct, Nat.mul_one]
      · unfold f_Md_findShapes_73
        rw [cl_nat (by omega), a9]
        refine ⟨vi, k_f (by decide) ?_⟩
        rw [show iI (i : Int) + (-1 : Int32) = iI ((i : Int) - 1) by rw [show (-1 : Int32) = iI (-1) by decide, iI_add]; rfl]
        exact h
    · have hbit := a4 (by omega)
      have hpred : cbN (n i) (c' - 1) = cbN (n i) c := hcg (c' - 1) (by omega) (by omega)
      have hc' : cbN (n i) c' = cbN (n i) c + 1 := by rw [cbN_pred (n i) (show 1 ≤ c' by omega), hpred, hbit]
      have hle : cbN (n i) c' ≤ cbN (n i) 12 := cbN_mono _ (by omega)
      have hch := chN_at (n := n i) (c := c') (by omega) (by omega) hbit
      rw [hpred] at hch
      rw [hT1, Nat.mul_one] at hct
      obtain ⟨u2, b1, b2, b3, b4, b5, run2⟩ := md_115 (np := np) (ct := ct) (x1 := iI (i : Int)) hnp (by omega) np 0 u1 rfl u10 (by rw [a6]; exact h40)
      obtain ⟨w, u3, e1, e2, e3, e4, e5, run3⟩ := ihe (12 - c') (by omega) c' u2 base (ct + 1) (by omega) (hmu1.tr b1) (by rw [b2]; exact a9) b3 (by rw [hT1, Nat.mul_one, hc', hct]; omega) hb
      refine ⟨w + 1, u3, e1, fun j hj => ?_, e3, fun x hx => ?_, fun k k1 k2 => ?_, fun Q nn h => ?_⟩
      · rw [e2 j hj, b2, a8 j (by omega)]; exact upd_ne _ _ _ _ (by omega)
      · rw [e4 x (by omega), b4 x (by omega), a7]; rfl
      · by_cases hk : k = ct
        · subst hk
          refine ⟨fun j hj => ?_, fun j j1 j2 => ?_⟩
          · rw [e4 _ (by omega), b5 j (by omega) (by omega), a8 j (by omega)]
            exact upd_ne _ _ _ _ (by omega)
          · have hji : j = i := by omega
            subst hji
            rw [e4 _ (by omega), b5 j (by omega) (by omega), a9]
            have hd : dg (szN n) np j (k - base) = cbN (n j) c := by
              have := dg_top (s := szN n) (np := np) (i := j) hs (by omega) (g := cbN (n j) c) (r := 0) (show cbN (n j) c < cbN (n j) 12 by omega) (by rw [hT1]; decide)
              rw [hT1, Nat.mul_one, Nat.add_zero] at this
              rw [show k - base = cbN (n j) c by omega]
              exact this
            rw [hd, hch]
        · have := e5 k (by omega) k2
          refine ⟨fun j hj => ?_, this.2⟩
          rw [this.1 j hj, b2, a8 j (by omega)]; exact upd_ne _ _ _ _ (by omega)
      · rw [show nn + (w + 1) = (nn + w) + 1 by omega]
        refine head Q (nn + w) ?_
        unfold f_Md_findShapes_73
        rw [cl_nat (by omega), a9, u10, enp]
        refine ⟨vi, b_le (b := 12) (fun _ => k_t (Int32.le_refl _) ⟨np + 1, run2 _ Q (run3 Q nn h)⟩) (fun q => by omega)⟩
  | succ d ihd =>
    intro i hi e
    have hTi := TT_st (szN n) (show i < np by omega)
    obtain ⟨M1, M2, M3, M4⟩ := hM i (by omega)
    induction e using Nat.strongRecOn with
    | _ e ihe =>
    intro c u base ct he hmu h41 h40 hct hb
    have ec : iI (c : Int) + (1 : Int32) = iI ((c + 1 : Nat) : Int) := ix_add c 1
    obtain ⟨c', u1, a1, a2, a3, a4, a5, a6, a7, a8, a9, run1⟩ := md_28 (i := i) (n := n i) (by omega) M1 (12 - c) (c + 1) (sA u 41 (upd (gA u 41) i (iI ((c + 1 : Nat) : Int)))) (by omega) (by omega) (upd_same _ _ _) (by show gA u 1 _ = _; rw [hmu.2.2.1 1 (by decide) (by decide)]; exact M2)
    have hmu1 : mdS m u1 := (hmu.sa 41 _ (by omega)).tr a5
    have u10 : gI u1 0 = iI np := by rw [hmu1.1 0 (by decide)]; exact hm
    have hcg : ∀ x, c ≤ x → x < c' → cbN (n i) x = cbN (n i) c := fun x x1 x2 => cbN_gap (n i) x x1 (fun y y1 y2 => a3 y (by omega) (by omega))
    have vi : vp_in (iI (i : Int)) 5 := v_nat (by omega) (by decide)
    have enp : iI (np : Int) - (1 : Int32) = iI ((np : Int) - 1) := iI_sub _ 1
    have head : ∀ (Q : Ob → Prop) nn, f_Md_findShapes_73 (f_Md_findShapes_14 Q nn) Q (iI i) u1 → f_Md_findShapes_14 Q (nn + 1) (iI i) u := by
      intro Q nn h
      unfold f_Md_findShapes_14
      rw [cl_nat (by omega), h41, ec]
      exact b_lt (b := 0) (fun q => by omega) (fun _ => ⟨vi, vi, 12 - c + 1, run1 _ Q h⟩)
    by_cases h13 : c' = 13
    · subst h13
      have : cbN (n i) c = cbN (n i) 12 := (hcg 12 (by omega) (by omega)).symm
      rw [this] at hct
      have hct' : ct = base + TT (szN n) np i := by rw [hTi]; exact hct
      refine ⟨1, u1, hmu1, fun j hj => ?_, ?_, fun x _ => by rw [a7]; rfl, fun k k1 k2 => by omega, fun Q nn h => head Q nn ?_⟩
      · rw [a8 j (by omega)]; exact upd_ne _ _ _ _ (by omega)
      · rw [a6, ← hct']; exact h40
      · unfold f_Md_findShapes_73
        rw [cl_nat (by omega), a9]
        refine ⟨vi, k_f (by decide) ?_⟩
        rw [show iI (i : Int) + (-1 : Int32) = iI ((i : Int) - 1) by rw [show (-1 : Int32) = iI (-1) by decide, iI_add]; rfl]
        exact h
    · have hbit := a4 (by omega)
      have hpred : cbN (n i) (c' - 1) = cbN (n i) c := hcg (c' - 1) (by omega) (by omega)
      have hc' : cbN (n i) c' = cbN (n i) c + 1 := by rw [cbN_pred (n i) (show 1 ≤ c' by omega), hpred, hbit]
      have hle : cbN (n i) c' ≤ cbN (n i) 12 := cbN_mono _ (by omega)
      have hch := chN_at (n := n i) (c := c') (by omega) (by omega) hbit
      rw [hpred] at hch
      have hg : cbN (n i) c + 1 ≤ cbN (n i) 12 := by omega
      have hTc : cbN (n i) c * TT (szN n) np (i + 1) + TT (szN n) np (i + 1) ≤ TT (szN n) np i := by
        rw [hTi, ← Nat.succ_mul]
        exact Nat.mul_le_mul_right _ hg
      have ei : iI (i : Int) + (1 : Int32) = iI ((i + 1 : Nat) : Int) := ix_add i 1
      obtain ⟨w2, u2, b1, b2, b3, b4, b5, run2⟩ := ihd (i + 1) (by omega) 12 0 (sA u1 41 (upd (gA u1 41) (i + 1) (0 : Int32))) ct ct (by omega) (hmu1.sa 41 _ (by omega)) (upd_same _ _ _) (by show gI u1 40 = _; rw [a6]; exact h40) (by show ct = ct + 0 * _; omega) (by omega)
      obtain ⟨w3, u3, e1, e2, e3, e4, e5, run3⟩ := ihe (12 - c') (by omega) c' u2 base (ct + TT (szN n) np (i + 1)) (by omega) b1 (by rw [b2 i (by omega)]; show upd _ _ _ _ = _; rw [upd_ne _ _ _ _ (by omega)]; exact a9) b3 (by rw [hc', Nat.succ_mul, hct]; omega) hb
      have h41j : ∀ j, j < i → gA u2 41 j = gA u 41 j := fun j hj => by
        rw [b2 j (by omega)]
        show upd (gA u1 41) (i + 1) 0 j = _
        rw [upd_ne _ _ _ _ (by omega), a8 j (by omega)]
        exact upd_ne _ _ _ _ (by omega)
      refine ⟨w3 + (w2 + 1), u3, e1, fun j hj => ?_, e3, fun x hx => ?_, fun k k1 k2 => ?_, fun Q nn h => ?_⟩
      · rw [e2 j hj]; exact h41j j hj
      · rw [e4 x (by omega), b4 x hx]
        show gA u1 39 x = _
        rw [a7]; rfl
      · by_cases hk : k < ct + TT (szN n) np (i + 1)
        · obtain ⟨p1, p2⟩ := b5 k k1 hk
          refine ⟨fun j hj => ?_, fun j j1 j2 => ?_⟩
          · rw [e4 _ (by omega), p1 j (by omega)]
            show upd (gA u1 41) (i + 1) 0 j = _
            rw [upd_ne _ _ _ _ (by omega), a8 j (by omega)]
            exact upd_ne _ _ _ _ (by omega)
          · have hkb : k - base = cbN (n i) c * TT (szN n) np (i + 1) + (k - ct) := by omega
            by_cases hji : j = i
            · subst hji
              rw [e4 _ (by omega), p1 j (by omega)]
              show upd (gA u1 41) (j + 1) 0 j = _
              rw [upd_ne _ _ _ _ (by omega), a9, hkb, dg_top hs (by omega) (show cbN (n j) c < cbN (n j) 12 by omega) (by omega), hch]
            · rw [e4 _ (by omega), p2 j (by omega) j2, hkb, dg_add hs (show i + 1 ≤ j by omega) j2]
        · have := e5 k (by omega) k2
          refine ⟨fun j hj => ?_, this.2⟩
          rw [this.1 j hj]; exact h41j j hj
      · rw [show nn + (w3 + (w2 + 1)) = (nn + w3 + w2) + 1 by omega]
        refine head Q _ ?_
        unfold f_Md_findShapes_73
        rw [cl_nat (by omega), a9, u10, enp, ei, cl_nat (by omega)]
        refine ⟨vi, b_le (b := 12) (fun _ => b_le (fun q => by omega) (fun _ => ⟨v_nat (by omega) (by decide), ?_⟩)) (fun q => by omega)⟩
        refine run2 Q (nn + w3) ?_
        rw [show (((i + 1 : Nat) : Int) - 1) = (i : Int) by omega]
        exact run3 Q nn h
theorem md_findShapes {np : Nat} {n : Nat → Nat} {m : Ob} (hnp : np ≤ 5) (hnp1 : 1 ≤ np) (hm : gI m 0 = iI np) (hM : okM np n (gA m 1)) : ∃ u, mdS m u ∧ gI u 40 = iI ((TT (szN n) np 0 : Nat) : Int) ∧ (∀ k, k < TT (szN n) np 0 → ∀ j, j < np → gA u 39 (5 * k + j) = iI ((chN (n j) (dg (szN n) np j k) : Nat) : Int)) ∧ (∀ Q : Ob → Prop, Q u → f_Md_findShapes m Q) := by
  have hle : TT (szN n) np 0 ≤ 1024 := by
    have h1 := TT_le (s := szN n) (np := np) (fun i hi => (hM i hi).2.2.2) np 0 (by omega)
    have h2 : 4 ^ np ≤ 4 ^ 5 := Nat.pow_le_pow_right (by decide) hnp
    omega
  obtain ⟨w, u, a1, a2, a3, a4, a5, run⟩ := md_dfs hnp hm hM (np - 1) 0 (by omega) 12 0 (sA (sI m 40 (0 : Int32)) 41 (upd (gA m 41) 0 (0 : Int32))) 0 0 (by omega) (((mdS.rf m).si _).sa 41 _ (by omega)) rfl rfl (by show 0 = 0 + 0 * _; omega) (by omega)
  refine ⟨u, a1, ?_, fun k hk j hj => ?_, fun Q h => ?_⟩
  · rw [a3]; congr 2; omega
  · have := (a5 k (by omega) (by omega)).2 j (by omega) hj
    rw [Nat.sub_zero] at this
    exact this
  · unfold f_Md_findShapes
    refine ⟨1 + w, run Q 1 ?_⟩
    unfold f_Md_findShapes_14
    exact b_lt (b := 0) (fun _ => h) (fun q => by omega)
