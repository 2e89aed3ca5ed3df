-- the folds' walk from GAP 10, PACE 0, and its ring
def fw (b st w : Int) : Nat → Int × Int
  | 0 => (10, 0)
  | k + 1 => (fgN b st w (fw b st w k).1 (fw b st w k).2, fpN b st w (fw b st w k).1 (fw b st w k).2)
def fS (b st w : Int) : Nat → Int
  | 0 => 0
  | k + 1 => fS b st w k + fhN b st w (fw b st w k).1 (fw b st w k).2
def fM (b st w : Int) : Nat → Int
  | 0 => 0
  | k + 1 => fM b st w k + fmN b st w (fw b st w k).1 (fw b st w k).2
def fN (b st w : Int) (k : Nat) : Nat := (19 * (fw b st w k).1 + (fw b st w k).2 + 9).toNat
theorem fw_bd (b st w : Int) (k : Nat) : (0 ≤ (fw b st w k).1 ∧ (fw b st w k).1 ≤ 50) ∧ (-9 ≤ (fw b st w k).2 ∧ (fw b st w k).2 ≤ 9) := by
  cases k with
  | zero => simp [fw]
  | succ k => exact ⟨fg_bd _ _ _ _ _, fpn_bd _ _ _ _ _⟩
theorem fN_lt (b st w : Int) (k : Nat) : fN b st w k < 969 ∧ ((fN b st w k : Nat) : Int) = 19 * (fw b st w k).1 + (fw b st w k).2 + 9 := by
  have h := fw_bd b st w k
  unfold fN
  omega
theorem fN_inj {b st w : Int} {i j : Nat} (h : fN b st w i = fN b st w j) : fw b st w i = fw b st w j := by
  have h1 := (fN_lt b st w i).2
  have h2 := (fN_lt b st w j).2
  have b1 := fw_bd b st w i
  have b2 := fw_bd b st w j
  rw [h] at h1
  exact Prod.ext (by omega) (by omega)
theorem pig : ∀ (N : Nat) (f : Nat → Nat), (∀ i, i < N + 1 → f i < N) → ∃ i j, i < j ∧ j < N + 1 ∧ f i = f j := by
  intro N
  induction N with
  | zero => intro f h; exact absurd (h 0 (by omega)) (by omega)
  | succ N ih =>
    intro f h
    by_cases hx : ∃ i, i < N + 1 ∧ f i = f (N + 1)
    · obtain ⟨i, hi, e⟩ := hx
      exact ⟨i, N + 1, hi, by omega, e⟩
    · have hne : ∀ i, i < N + 1 → f i ≠ f (N + 1) := fun i hi e => hx ⟨i, hi, e⟩
      have hv := h (N + 1) (by omega)
      obtain ⟨i, j, hij, hj, e⟩ := ih (fun i => if f (N + 1) < f i then f i - 1 else f i) (fun i hi => by
        have h1 := h i (by omega)
        have h2 := hne i hi
        show (if f (N + 1) < f i then f i - 1 else f i) < N
        split <;> omega)
      refine ⟨i, j, hij, by omega, ?_⟩
      have h1 := hne i (by omega)
      have h2 := hne j hj
      have e : (if f (N + 1) < f i then f i - 1 else f i) = (if f (N + 1) < f j then f j - 1 else f j) := e
      split at e <;> split at e <;> omega
theorem ring_ex (b st w : Int) : ∃ n j : Nat, j < n ∧ n ≤ 969 ∧ fN b st w j = fN b st w n ∧ ∀ k, k < n → ∀ i, i < k → fN b st w i ≠ fN b st w k := by
  obtain ⟨i, j, hij, hj, e⟩ := pig 969 (fN b st w) (fun i _ => (fN_lt b st w i).1)
  obtain ⟨n, ⟨j', hj', e'⟩, hl⟩ := pk_least (fun n => ∃ j, j < n ∧ fN b st w j = fN b st w n) ⟨j, i, hij, e⟩
  have hn : n ≤ 969 := by
    rcases Nat.lt_or_ge j n with h | h
    · exact absurd ⟨i, hij, e⟩ (hl j h)
    · omega
  exact ⟨n, j', hj', hn, e', fun k hk i hi q => hl k hk ⟨i, hi, q⟩⟩
theorem fw_ring {b st w : Int} {n j : Nat} (h : fN b st w j = fN b st w n) : ∀ i, fw b st w (n + i) = fw b st w (j + i) := by
  intro i
  induction i with
  | zero => exact (fN_inj h).symm
  | succ i ih =>
    show fw b st w ((n + i) + 1) = fw b st w ((j + i) + 1)
    simp only [fw]
    rw [ih]
theorem fS_ring {b st w : Int} {n j : Nat} (h : fN b st w j = fN b st w n) : ∀ i, fS b st w (n + i) - fS b st w n = fS b st w (j + i) - fS b st w j := by
  intro i
  induction i with
  | zero => simp
  | succ i ih =>
    have e := fw_ring h i
    show fS b st w ((n + i) + 1) - _ = fS b st w ((j + i) + 1) - _
    simp only [fS]
    rw [e]
    omega
theorem fM_ring {b st w : Int} {n j : Nat} (h : fN b st w j = fN b st w n) : ∀ i, fM b st w (n + i) - fM b st w n = fM b st w (j + i) - fM b st w j := by
  intro i
  induction i with
  | zero => simp
  | succ i ih =>
    have e := fw_ring h i
    show fM b st w ((n + i) + 1) - _ = fM b st w ((j + i) + 1) - _
    simp only [fM]
    rw [e]
    omega
section RING
variable {b st w : Int} (hb : 0 ≤ b ∧ b ≤ 40) (hs : 1 ≤ st ∧ st ≤ 20) (hw : 1 ≤ w ∧ w ≤ 20)
/-- the folds' object stands at the k-th state -/
def foAt (b st w : Int) (u : Ob) (k : Nat) : Prop := gI u 0 = iI (fw b st w k).1 ∧ gI u 1 = iI (fw b st w k).2 ∧ gI u 2 = iI b ∧ gI u 3 = iI st ∧ gI u 4 = iI w
theorem fo_next {u : Ob} {k : Nat} {Q : Ob → Prop} (hb : 0 ≤ b ∧ b ≤ 40) (hs : 1 ≤ st ∧ st ≤ 20) (hw : 1 ≤ w ∧ w ≤ 20) (h : foAt b st w u k) (hq : ∀ v, foAt b st w v (k + 1) → gI v 5 = gI u 5 + iI (fS b st w (k + 1) - fS b st w k) → gI v 6 = gI u 6 + iI (fM b st w (k + 1) - fM b st w k) → Q v) : f_Fo_pass u Q := by
  obtain ⟨e0, e1, e2, e3, e4⟩ := h
  have bd := fw_bd b st w k
  refine fo_pass hb hs hw bd.1 bd.2 e0 e1 e2 e3 e4 (fun v v0 v1 v2 v3 v4 v5 v6 => hq v ⟨v0, v1, v2, v3, v4⟩ ?_ ?_)
  · rw [v5]; congr 2; simp only [fS]; omega
  · rw [v6]; congr 2; simp only [fM]; omega
theorem fo_state {u : Ob} {k : Nat} {Q : Int32 → Prop} (h : foAt b st w u k) (hq : Q (iI (fN b st w k : Nat))) : f_Fo_state u Q := by
  obtain ⟨e0, e1, -⟩ := h
  unfold f_Fo_state
  rw [e0, e1]
  have e : iI (fw b st w k).1 * (19 : Int32) + iI (fw b st w k).2 + (9 : Int32) = iI (fN b st w k : Nat) := by
    rw [(fN_lt b st w k).2, show (19 : Int32) = iI 19 from rfl, show (9 : Int32) = iI 9 from rfl, iI_mul, iI_add, iI_add]
    congr 1; omega
  rw [e]
  exact k_n hq
/-- the class's last loop: the ring is gone once -/
theorem rh_126 {Q : Ob → Ob → Prop} {n j : Nat} {o : Ob} (hb : 0 ≤ b ∧ b ≤ 40) (hs : 1 ≤ st ∧ st ≤ 20) (hw : 1 ≤ w ∧ w ≤ 20) (hj : j < n) (hn : n ≤ 969) (hl : gI o 3 = iI ((n : Int) - j))
    (hq : ∀ u, gI u 5 = iI (fS b st w (n + (n - j)) - fS b st w n) → gI u 6 = iI (fM b st w (n + (n - j)) - fM b st w n) → Q (sI (sI o 4 (gI u 6)) 5 (gI u 5)) u) :
    ∀ (d k : Nat) (u : Ob), d + k = n - j → foAt b st w u (n + k) → gI u 5 = iI (fS b st w (n + k) - fS b st w n) → gI u 6 = iI (fM b st w (n + k) - fM b st w n) → f_Rh_find_126 Q (d + 1) (iI k) o u := by
  intro d
  induction d with
  | zero =>
    intro k u hd hu h5 h6
    unfold f_Rh_find_126
    rw [hl]
    have : k = n - j := by omega
    subst this
    exact b_le (fun _ => hq u h5 h6) (fun q => by omega)
  | succ d ih =>
    intro k u hd hu h5 h6
    unfold f_Rh_find_126
    rw [hl]
    refine b_le (fun q => by omega) (fun _ => ?_)
    refine fo_next hb hs hw hu (fun v hv v5 v6 => ?_)
    have e : iI (k : Int) + (1 : Int32) = iI ((k + 1 : Nat) : Int) := ix_add k 1
    rw [e]
    refine ih (k + 1) v (by omega) hv ?_ ?_
    · rw [v5, h5, iI_add]; congr 1
      show _ = fS b st w (n + k + 1) - _
      omega
    · rw [v6, h6, iI_add]; congr 1
      show _ = fM b st w (n + k + 1) - _
      omega
theorem rh_89 {Q : Ob → Ob → Prop} {n j : Nat} {o u : Ob} (hb : 0 ≤ b ∧ b ≤ 40) (hs : 1 ≤ st ∧ st ≤ 20) (hw : 1 ≤ w ∧ w ≤ 20) (hj : j < n) (hn : n ≤ 969) (he : fN b st w j = fN b st w n) (hu : foAt b st w u n) (hc : gA o 1 (fN b st w n) = iI j)
    (hq : ∀ o' u', gI o' 0 = gI o 0 → gI o' 2 = iI j → gI o' 3 = iI ((n : Int) - j) → gI o' 4 = iI (fM b st w n - fM b st w j) → gI o' 5 = iI (fS b st w n - fS b st w j) → Q o' u') : f_Rh_find_89 Q (iI n) o u := by
  unfold f_Rh_find_89
  refine fo_state hu ⟨v_nat (fN_lt b st w n).1 (by decide), ?_⟩
  have hlt := (fN_lt b st w n).1
  rw [cl_nat (by omega), hc, iI_sub]
  unfold f_Fo_startCount
  refine ⟨(n - j) + 1, ?_⟩
  have r1 := fS_ring he (n - j)
  have r2 := fM_ring he (n - j)
  have e : j + (n - j) = n := by omega
  rw [e] at r1 r2
  refine rh_126 (j := j) (o := sI (sI o 2 (iI j)) 3 (iI ((n : Int) - j))) hb hs hw hj hn rfl (fun u' h5 h6 => hq _ _ rfl rfl rfl ?_ ?_) (n - j) 0 _ (by omega) hu ?_ ?_
  · show gI u' 6 = _
    rw [h6, r2]
  · show gI u' 5 = _
    rw [h5, r1]
  · show (0 : Int32) = _
    rw [Nat.add_zero, Int.sub_self]; rfl
  · show (0 : Int32) = _
    rw [Nat.add_zero, Int.sub_self]; rfl
/-- the class's search for the ring -/
theorem rh_38 {Q : Ob → Ob → Prop} {n j : Nat} {p0 : Int32} (hb : 0 ≤ b ∧ b ≤ 40) (hs : 1 ≤ st ∧ st ≤ 20) (hw : 1 ≤ w ∧ w ≤ 20) (hj : j < n) (hn : n ≤ 969) (he : fN b st w j = fN b st w n) (hd : ∀ k, k < n → ∀ i, i < k → fN b st w i ≠ fN b st w k)
    (hq : ∀ o' u', gI o' 0 = p0 → gI o' 2 = iI j → gI o' 3 = iI ((n : Int) - j) → gI o' 4 = iI (fM b st w n - fM b st w j) → gI o' 5 = iI (fS b st w n - fS b st w j) → Q o' u') :
    ∀ (d k : Nat) (o u : Ob), d + k = n → gI o 0 = p0 → foAt b st w u k → (∀ i, i < k → gA o 1 (fN b st w i) = iI i) → (∀ s, s < 969 → (∀ i, i < k → fN b st w i ≠ s) → gA o 1 s = (-1 : Int32)) → f_Rh_find_38 Q (d + 1) (iI k) o u := by
  intro d
  induction d with
  | zero =>
    intro k o u hk ho hu h1 h2
    have : k = n := by omega
    subst this
    have hc : gA o 1 (fN b st w k) = iI j := by rw [← he]; exact h1 j hj
    have fin : f_Rh_find_89 Q (iI k) o u := rh_89 hb hs hw hj hn he hu hc (fun o' u' a0 a1 a2 a3 a4 => hq o' u' (a0.trans ho) a1 a2 a3 a4)
    unfold f_Rh_find_38
    refine b_le (a := 969) (fun _ => fin) (fun _ => ?_)
    refine fo_state hu ⟨v_nat (fN_lt b st w k).1 (by decide), ?_⟩
    have hlt := (fN_lt b st w k).1
    rw [cl_nat (by omega), hc]
    have em : (-1 : Int32) = iI (-1) := by decide
    rw [em]
    exact b_eq (fun q => by omega) (fun _ => fin)
  | succ d ih =>
    intro k o u hk ho hu h1 h2
    unfold f_Rh_find_38
    refine b_le (a := 969) (fun q => by omega) (fun _ => ?_)
    have hlt := (fN_lt b st w k).1
    refine fo_state hu ⟨v_nat hlt (by decide), ?_⟩
    rw [cl_nat (by omega), h2 _ hlt (fun i hi => hd k (by omega) i hi)]
    refine k_t rfl ?_
    refine fo_state hu ⟨v_nat hlt (by decide), ?_⟩
    refine fo_next hb hs hw hu (fun v hv _ _ => ?_)
    have e : iI (k : Int) + (1 : Int32) = iI ((k + 1 : Nat) : Int) := ix_add k 1
    rw [e, cl_nat (by omega)]
    refine ih (k + 1) _ v (by omega) ho hv (fun i hi => ?_) (fun s hs1 hs2 => ?_)
    · show upd (gA o 1) (fN b st w k) (iI k) (fN b st w i) = _
      by_cases hik : i = k
      · subst hik; exact upd_same _ _ _
      · rw [upd_ne _ _ _ _ (hd k (by omega) i (by omega))]
        exact h1 i (by omega)
    · show upd (gA o 1) (fN b st w k) (iI k) s = _
      rw [upd_ne _ _ _ _ (fun q => hs2 k (by omega) q.symm)]
      exact h2 s hs1 (fun i hi => hs2 i (by omega))
theorem rh_3 {Q : Ob → Ob → Prop} {x1 x2 x3 : Int32} {p0 : Int32} {u : Ob} (hq : ∀ o, gI o 0 = p0 → (∀ s, s < 969 → gA o 1 s = (-1 : Int32)) → f_Fo_begin x1 x2 x3 u (fun u14 => (∃ w, f_Rh_find_38 Q w (0 : Int32) o u14))) :
    ∀ (d k : Nat) (o : Ob), d + k = 969 → gI o 0 = p0 → (∀ s, s < k → gA o 1 s = (-1 : Int32)) → f_Rh_find_3 Q (d + 1) x1 x2 x3 (iI k) o u := by
  intro d
  induction d with
  | zero =>
    intro k o hk ho h
    have : k = 969 := by omega
    subst this
    unfold f_Rh_find_3
    exact b_le (a := 969) (fun _ => hq o ho h) (fun q => by omega)
  | succ d ih =>
    intro k o hk ho h
    unfold f_Rh_find_3
    refine b_le (a := 969) (fun q => by omega) (fun _ => ⟨v_nat (by omega) (by decide), ?_⟩)
    have e : iI (k : Int) + (1 : Int32) = iI ((k + 1 : Nat) : Int) := ix_add k 1
    rw [e, cl_nat (by omega)]
    refine ih (k + 1) _ (by omega) ho (fun s hs => ?_)
    show upd (gA o 1) k (-1 : Int32) s = _
    by_cases hsk : s = k
    · subst hsk; exact upd_same _ _ _
    · rw [upd_ne _ _ _ _ hsk]; exact h s (by omega)
theorem rh_find {Q : Ob → Ob → Prop} {n j : Nat} {o u : Ob} (hb : 0 ≤ b ∧ b ≤ 40) (hs : 1 ≤ st ∧ st ≤ 20) (hw : 1 ≤ w ∧ w ≤ 20) (hj : j < n) (hn : n ≤ 969) (he : fN b st w j = fN b st w n) (hd : ∀ k, k < n → ∀ i, i < k → fN b st w i ≠ fN b st w k)
    (hq : ∀ o' u', gI o' 0 = gI o 0 → gI o' 2 = iI j → gI o' 3 = iI ((n : Int) - j) → gI o' 4 = iI (fM b st w n - fM b st w j) → gI o' 5 = iI (fS b st w n - fS b st w j) → Q o' u') : f_Rh_find (iI b) (iI st) (iI w) o u Q := by
  unfold f_Rh_find
  refine ⟨970, rh_3 (fun o' ho' h => ?_) 969 0 o rfl rfl (fun s hs => by omega)⟩
  unfold f_Fo_begin f_Fo_startCount
  refine ⟨n + 1, rh_38 hb hs hw hj hn he hd hq n 0 o' _ (by omega) ho' ⟨rfl, rfl, rfl, rfl, rfl⟩ (fun i hi => by omega) (fun s hs1 _ => h s hs1)⟩
end RING
