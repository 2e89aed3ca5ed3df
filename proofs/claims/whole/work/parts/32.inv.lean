-- what holds between the class's objects and the model's rows
def pop : Nat → Nat
  | 0 => 0
  | n + 1 => (n + 1) % 2 + pop ((n + 1) / 2)
def okW (x : Int32) : Prop := ∃ w : Nat, 1 ≤ w ∧ w ≤ 12 ∧ x = iI w
def okN (m : Nat) (x : Int32) : Prop := ∃ n : Nat, n ≤ m ∧ x = iI n
def okG (x : Int32) : Prop := ∃ n : Nat, n < 8192 ∧ n % 2 = 0 ∧ 0 < pop n ∧ pop n ≤ 4 ∧ x = iI n
def RCl (mo : Ob) (A : Nat → Int32) (t : Nat) : Prop := gI mo 1 = iI t ∧ A 0 = iI t ∧ t ≤ 200
def RSa (mo : Ob) (A : Nat → Int32) (t : Nat) : Prop := ∃ s : Nat, gI mo 2 = iI s ∧ A 3 = iI s ∧ s ≤ 20 ∧ ∀ i : Nat, i < s → ∃ w k : Nat, w < 8 ∧ k ≤ t ∧ gA mo 3 i = iI w ∧ gA mo 4 i = iI k ∧ A (40 + 2 * i) = iI w ∧ A (41 + 2 * i) = iI k
def RTi (mo : Ob) (A : Nat → Int32) (tm : Nat) : Prop := gI mo 11 = iI tm ∧ A 1 = iI tm ∧ tm ≤ 100 ∧ ∃ lk : Nat, gI mo 12 = iI lk ∧ A 2 = iI lk ∧ lk ≤ tm
def RWi (mo : Ob) (A : Nat → Int32) : Prop := ∀ i : Nat, i < 5 → okW (A (20 + i)) ∧ gA mo 5 i = A (20 + i)
def RGr (mo : Ob) (A : Nat → Int32) : Prop := ∀ i : Nat, i < 5 → okG (A (30 + i)) ∧ gA mo 10 i = A (30 + i)
def RWa (np : Nat) (mo : Ob) (W : Nat → Int64) : Prop := (∀ i : Nat, i < np → gB mo 6 i = W i ∧ gB mo 7 i = W (5 + i)) ∧ (∀ i : Nat, i + 1 < np → gB mo 8 i = W (10 + i)) ∧ gB mo 8 4 = W 14 ∧ gB mo 8 5 = W 15
def RFo (fo : Ob) (A : Nat → Int32) : Prop := (gI fo 0 = A 7 ∧ gI fo 1 = A 8 ∧ gI fo 2 = A 4 ∧ gI fo 3 = A 5 ∧ gI fo 4 = A 6 ∧ gI fo 5 = A 9 ∧ gI fo 6 = A 10) ∧ okN 50 (A 7) ∧ (∃ p : Int, -9 ≤ p ∧ p ≤ 9 ∧ A 8 = iI p) ∧ okN 40 (A 4) ∧ (∃ s : Nat, 1 ≤ s ∧ s ≤ 20 ∧ A 5 = iI s) ∧ ∃ w : Nat, 1 ≤ w ∧ w ≤ 20 ∧ A 6 = iI w
def RGe (np : Nat) (la : Ob) (A : Nat → Int32) (i : Nat) : Prop := (gA la 6 i = A (5610 + 6 * i) ∧ okN 7 (A (5610 + 6 * i))) ∧ (gA la 7 i = A (5611 + 6 * i) ∧ okN (np - 1) (A (5611 + 6 * i))) ∧ (gA la 8 i = A (5612 + 6 * i) ∧ okW (A (5612 + 6 * i))) ∧ (gA la 9 i = A (5613 + 6 * i) ∧ ∃ v : Nat, 1 ≤ v ∧ v ≤ 6 ∧ A (5613 + 6 * i) = iI v) ∧ (gA la 10 i = A (5614 + 6 * i) ∧ ∃ v : Nat, 1 ≤ v ∧ v ≤ 50 ∧ A (5614 + 6 * i) = iI v) ∧ gA la 11 i = A (5615 + 6 * i) ∧ okN 9 (A (5615 + 6 * i))
def RWd (la : Ob) (A : Nat → Int32) (w : Nat) : Prop := ∃ n : Nat, n ≤ 8 ∧ gA la 12 w = iI n ∧ A (5740 + 17 * w) = iI n ∧ ∀ j : Nat, j < n → (gA la 13 (8 * w + j) = A (5741 + 17 * w + 2 * j) ∧ okN 7 (A (5741 + 17 * w + 2 * j))) ∧ gA la 14 (8 * w + j) = A (5742 + 17 * w + 2 * j) ∧ okN 99 (A (5742 + 17 * w + 2 * j))
def RLa (np : Nat) (la : Ob) (A : Nat → Int32) : Prop := (∀ i : Nat, i < 5 → okW (A (5605 + i)) ∧ gA la 0 i = A (5605 + i)) ∧ (gI la 1 = A 5601 ∧ okN 100 (A 5601)) ∧ (gI la 2 = A 5602 ∧ okN 100 (A 5602)) ∧ (gI la 3 = A 5603 ∧ okN 100 (A 5603)) ∧ gI la 4 = A 5600 ∧ (∃ g : Nat, g ≤ 20 ∧ gI la 5 = iI g ∧ A 5604 = iI g ∧ ∀ i : Nat, i < g → RGe np la A i) ∧ ∀ w : Nat, w < 8 → RWd la A w
def pk5 (w a s i c : Int) : Int := ((((c + 1) * 64 + (i + 1)) * 64 + (s + 1)) * 64 + (a + 1)) * 64 + (w + 1)
def RLd (np : Nat) (ld : Nat → Int32) (A : Nat → Int32) (t : Nat) : Prop := ∀ k : Nat, k < t → ∀ i : Nat, i < np → ∃ w a s j c : Int, (-1 ≤ w ∧ w ≤ 60) ∧ (-1 ≤ a ∧ a ≤ 60) ∧ (-1 ≤ s ∧ s ≤ 60) ∧ (-1 ≤ j ∧ j ≤ 60) ∧ (-1 ≤ c ∧ c ≤ 60) ∧ ld (5 * k + i) = iI (pk5 w a s j c) ∧ A (520 + 25 * k + 5 * i) = iI w ∧ A (521 + 25 * k + 5 * i) = iI a ∧ A (522 + 25 * k + 5 * i) = iI s ∧ A (523 + 25 * k + 5 * i) = iI j ∧ A (524 + 25 * k + 5 * i) = iI c
def RSn (sn W : Nat → Int64) (t : Nat) : Prop := ∀ k : Nat, k < 10 * t → sn k = W (16 + k)
def RHe (he : Ob) (A : Nat → Int32) (tm : Nat) : Prop := ∀ i : Nat, i < tm → ∃ (sd tn : Nat) (f t : Int), sd < 8 ∧ tn < 5 ∧ -20 ≤ f ∧ f ≤ t ∧ t ≤ 19 ∧ A (100 + 4 * i) = iI sd ∧ A (101 + 4 * i) = iI tn ∧ A (102 + 4 * i) = iI f ∧ A (103 + 4 * i) = iI t ∧ gA he 0 i = iI (5 * sd + tn) ∧ gA he 1 i = iI f ∧ gA he 2 i = iI t
/-- a moment, its folds, its law, and the rows that only grow, against the model's two rows -/
def MR (np : Nat) (mo fo la : Ob) (ld : Nat → Int32) (sn : Nat → Int64) (he : Ob) (A : Nat → Int32) (W : Nat → Int64) (t tm : Nat) : Prop :=
  RCl mo A t ∧ RSa mo A t ∧ RTi mo A tm ∧ RWi mo A ∧ RGr mo A ∧ RWa np mo W ∧ RFo fo A ∧ RLa np la A ∧ RLd np ld A t ∧ RSn sn W t ∧ RHe he A tm
def RTa (ta m : Ob) : Prop := ∃ n : Nat, n ≤ 400 ∧ gI ta 1 = iI n ∧ gI m 7 = iI n ∧ ∀ i : Nat, i < n → ∃ c : Nat, c < 256 ∧ gA m 6 i = iI c ∧ gA ta 0 i = (iI c).toInt8.toInt32
def RRe (re m : Ob) : Prop := (gI re 8 = 0 ∧ gI m 8 = -1 ∧ gI m 9 = -1) ∨ (gI re 8 = 1 ∧ gI re 9 = gI m 8 ∧ gI re 10 = gI m 9)
-- branches that are known
theorem k_t {c A B : Prop} (h : c) (a : A) : (c → A) ∧ (¬ c → B) := ⟨fun _ => a, fun n => absurd h n⟩
theorem k_f {c A B : Prop} (h : ¬ c) (b : B) : (c → A) ∧ (¬ c → B) := ⟨fun n => absurd n h, fun _ => b⟩
theorem k_c {c A B : Prop} (a : c → A) (b : ¬ c → B) : (c → A) ∧ (¬ c → B) := ⟨a, b⟩
theorem k_n {α : Type} {e : α} {P : α → Prop} (h : P e) : ∀ y, y = e → P y := fun y hy => hy ▸ h
/-- both answered alike -/
theorem k_q {α : Type} {a b : α} {A : Prop} (e : a = b) (h : A) : (a = b → A) ∧ (¬ a = b → False) := ⟨fun _ => h, fun n => n e⟩
theorem md_isIn {a lo hi : Int32} {Q : Int32 → Prop} (h1 : lo ≤ a → a ≤ hi → Q 1) (h0 : ¬ (lo ≤ a ∧ a ≤ hi) → Q 0) : f_Md_isIn a lo hi Q := by
  unfold f_Md_isIn
  refine ⟨fun h => h0 (fun q => absurd h (Int32.not_lt.mpr q.1)), fun h => ⟨fun g => h0 (fun q => absurd g (Int32.not_lt.mpr q.2)), fun g => h1 (Int32.not_lt.mp h) (Int32.not_lt.mp g)⟩⟩
/-- isIn over numbers -/
theorem md_in {z lo hi : Int} {Q : Int32 → Prop} (h1 : lo ≤ z → z ≤ hi → Q 1) (h0 : z < lo ∨ hi < z → Q 0) (hz : -2147483648 ≤ z ∧ z < 2147483648) (hl : -2147483648 ≤ lo ∧ lo < 2147483648) (hh : -2147483648 ≤ hi ∧ hi < 2147483648) : f_Md_isIn (iI z) (iI lo) (iI hi) Q := by
  refine md_isIn (fun a b => h1 ((iI_le hl hz).mp a) ((iI_le hz hh).mp b)) (fun q => h0 ?_)
  rw [iI_le hl hz, iI_le hz hh] at q
  omega
theorem md_isPiece {a : Int32} {m : Ob} {np : Nat} {Q : Int32 → Prop} (hp : gI m 0 = iI np) (hn : np ≤ 5) (h1 : ∀ j : Nat, j < np → a = iI j → Q 1) (h0 : (∀ j : Nat, j < np → a ≠ iI j) → Q 0) : f_Md_isPiece a m Q := by
  unfold f_Md_isPiece
  rw [hp]
  obtain ⟨z, z1, z2, rfl⟩ := iI_ex a
  have e : iI (np : Int) - (1 : Int32) = iI ((np : Int) - 1) := iI_sub _ 1
  rw [e]
  refine md_in (lo := 0) (fun a b => ⟨nar1, h1 z.toNat (by omega) (by congr 1; omega)⟩) (fun q => ⟨nar0, h0 (fun j hj hz => ?_)⟩) (by omega) (by omega) (by omega)
  have := (iI_eq ⟨z1, z2⟩ (by omega)).mp hz
  omega
theorem pv_isPiece {a : Int32} {o : Ob} {np : Nat} {Q : Int32 → Prop} (hp : gI o 0 = iI np) (hn : np ≤ 5) (h1 : ∀ j : Nat, j < np → a = iI j → Q 1) (h0 : (∀ j : Nat, j < np → a ≠ iI j) → Q 0) : f_PV_isPiece a o Q := by
  unfold f_PV_isPiece
  rw [hp]
  obtain ⟨z, z1, z2, rfl⟩ := iI_ex a
  have no : z < 0 ∨ (np : Int) ≤ z → Q 0 := fun q => h0 (fun j hj hz => by
    have := (iI_eq ⟨z1, z2⟩ (by omega)).mp hz
    omega)
  refine b_lt (b := 0) (fun q => no (Or.inl q)) (fun q => ?_)
  refine b_le (fun g => no (Or.inr g)) (fun g => h1 z.toNat (by omega) (by congr 1; omega))
/-- an index that is a constant and a small number -/
theorem ix_add (c j : Nat) : (iI (c : Int)) + iI (j : Int) = iI ((c + j : Nat) : Int) := by
  rw [iI_add]; congr 1
theorem cl_nat {j : Nat} (h : j < 2147483648) : (iI (j : Int)).toNatClampNeg = j := by
  rw [iI_cl (by omega) (by omega)]; omega
theorem v_nat {j n : Nat} (h : j < n) (hn : n < 2147483648) : vp_in (iI (j : Int)) n := v_in (by omega) hn
-- ===== end, width, fault, law, wave, left, sound, foldsOf, look, folds =====
theorem op_width {np : Nat} {a : Int32} {o0 o3 m : Ob} {r3 : Nat → Nat} {K : Prop} (hp : gI o0 0 = iI np) (hm : gI m 0 = iI np) (hn : np ≤ 5) (hW : RWi o3 (gA m 1)) (hK : K) :
    f_PV_width a o0 r3 o3 (fun z => f_Md_width a m (fun z2 => (z = z2 → K) ∧ (¬ z = z2 → False))) := by
  unfold f_PV_width
  refine pv_isPiece hp hn (fun j hj ha => ?_) (fun hno => ?_)
  · refine k_f (by decide) ⟨by rw [ha]; exact v_nat (by omega) (by decide), ?_⟩
    unfold f_Md_width
    refine md_isPiece hm hn (fun j' hj' ha' => ?_) (fun hno => absurd ha (hno j hj))
    refine k_f (by decide) ⟨by rw [ha]; exact (ix_add 20 j) ▸ v_nat (by omega) (by decide), ?_⟩
    refine k_n (k_q ?_ hK)
    rw [ha]
    have e : ((20 : Int32) + iI (j : Int)) = iI ((20 + j : Nat) : Int) := ix_add 20 j
    rw [e, cl_nat (by omega), cl_nat (by omega)]
    exact (hW j (by omega)).2
  · refine k_t rfl ?_
    unfold f_Md_width
    refine md_isPiece hm hn (fun j hj ha => absurd ha (hno j hj)) (fun _ => ?_)
    exact k_t rfl (k_q rfl hK)
