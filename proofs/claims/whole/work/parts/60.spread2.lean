-- the class's spread
section SD
variable {np : Nat} {n r : Nat → Nat} {o : Ob} {g : Nat → Int32}
/-- a place by block, digit and rest -/
abbrev plc (n : Nat → Nat) (np p b x i : Nat) : Nat := b * TN n np p + x * TN n np (p + 1) + i
def WK (n : Nat → Nat) (np st : Nat) (g : Nat → Int32) (c0 : Nat → Nat) (f : Nat → Int32) (c : Nat → Nat) : Prop := CO st (TN n np 0) g f c ∧ LL n np c0 c ∧ ∀ k, k < TN n np 0 → c k ≤ 1000000
theorem WK.low (hok : okS np n) {st p to fr b : Nat} {c0 c : Nat → Nat} {f f' : Nat → Int32} (hp : p < np) (hto : to < szN n p) (hfr : fr < szN n p) (hb : b * TN n np p + TN n np p ≤ TN n np 0) (h : WK n np st g c0 f c) (hf : CO st (TN n np 0) g f' (lowC c (b * TN n np p) to fr (TN n np (p + 1)) (ad n p to fr))) : WK n np st g c0 f' (lowC c (b * TN n np p) to fr (TN n np (p + 1)) (ad n p to fr)) :=
  ⟨hf, h.2.1.low hok hp hto hfr hb, fun k hk => Nat.le_trans (lowC_le _ _ _ _ _ _ _) (h.2.2 k hk)⟩
theorem lowC_new {n : Nat → Nat} {np p to fr b i : Nat} {c : Nat → Nat} (hi : i < TN n np (p + 1)) : lowC c (b * TN n np p) to fr (TN n np (p + 1)) (ad n p to fr) (plc n np p b to i) ≤ c (plc n np p b fr i) + ad n p to fr := by
  rw [lowC_at hi]
  exact Nat.min_le_right _ _
theorem sh_block {st p b : Nat} {c0 : Nat → Nat} {k27 : Int32 → Int32 → Int32 → Int32 → Ob → Prop} {Q : Ob → Prop} {f : Nat → Int32} {c : Nat → Nat} (hnp : np ≤ 5) (h : SHL np n r o) (hp : p < np) (hb : b * TN n np p + TN n np p ≤ TN n np 0) (hst : st + TN n np 0 ≤ r 111) (hW : WK n np st g c0 f c)
    (hk : ∀ f' c', WK n np st g c0 f' c' → (∀ k, c' k ≤ c k) → (∀ x x' i, x < szN n p → x' < szN n p → i < TN n np (p + 1) → c' (plc n np p b x i) ≤ c (plc n np p b x' i) + ad n p x x') → k27 (iI st) (iI p) (iI ((TN n np p : Nat) : Int)) (iI ((b * TN n np p : Nat) : Int) + iI ((TN n np p : Nat) : Int)) (sA o 11 f')) :
    ∃ w, f_Sh_spread_43 r k27 Q w (iI st) (iI p) (iI ((TN n np p : Nat) : Int)) (iI ((b * TN n np p : Nat) : Int)) (1 : Int32) (sA o 11 f) := by
  have hok := h.2.1
  have s1 : 0 < szN n p := okS_pos hok p hp
  have s2 : szN n p ≤ 4 := (hok p hp).2.2.2
  have e3 : ∀ f, gA (sA o 11 f) 3 p = iI ((szN n p : Nat) : Int) := fun f => (h.2.2.2.1 p hp).1
  have vp5 : vp_in (iI (p : Int)) 5 := v_nat (by omega) (by decide)
  have ea : iI (st : Int) + iI ((b * TN n np p : Nat) : Int) = iI ((st + b * TN n np p : Nat) : Int) := ix_add _ _
  have l85 : ∀ (x : Nat) (f' : Nat → Int32) (c' : Nat → Nat), x < szN n p → WK n np st g c0 f' c' → (∀ k, c' k ≤ c k) → (∀ y y' i, y < szN n p → y' ≤ y → i < TN n np (p + 1) → c' (plc n np p b y i) ≤ c (plc n np p b y' i) + ad n p y y') → (∀ y y' i, x ≤ y → y < szN n p → y' < szN n p → i < TN n np (p + 1) → c' (plc n np p b y i) ≤ c (plc n np p b y' i) + ad n p y y') → f_Sh_spread_85 r k27 Q (x + 1) (iI st) (iI p) (iI ((TN n np p : Nat) : Int)) (iI ((b * TN n np p : Nat) : Int)) (iI x) (sA o 11 f') := by
    intro x
    induction x with
    | zero =>
      intro f' c' hx w1 w2 w3 w4
      unfold f_Sh_spread_85
      exact k_t (by decide) (hk f' c' w1 w2 (fun y y' i a1 a2 a3 => w4 y y' i (Nat.zero_le _) a1 a2 a3))
    | succ x ih =>
      intro f' c' hx w1 w2 w3 w4
      have e1 : iI ((x + 1 : Nat) : Int) - (1 : Int32) = iI (x : Int) := by rw [show (1 : Int32) = iI 1 from rfl, iI_sub]; congr 1; omega
      have e2 : iI ((x + 1 : Nat) : Int) + (-1 : Int32) = iI (x : Int) := by rw [show (-1 : Int32) = iI (-1) by decide, iI_add]; congr 1; omega
      unfold f_Sh_spread_85
      rw [ea, e1, e2]
      refine b_le (b := 0) (fun q => by omega) (fun _ => sh_lower hnp h hp (show x < szN n p by omega) hx (by omega) hb hst w1.2.2 w1.1 (fun f2 hf2 => ?_))
      refine ih f2 _ (by omega) (w1.low hok hp (by omega) hx hb hf2) (fun k => Nat.le_trans (lowC_le _ _ _ _ _ _ _) (w2 k)) (fun y y' i a1 a2 a3 => Nat.le_trans (lowC_le _ _ _ _ _ _ _) (w3 y y' i a1 a2 a3)) (fun y y' i a1 a2 a3 a4 => ?_)
      by_cases hy : y = x
      · subst hy
        by_cases hy' : y' ≤ y
        · exact Nat.le_trans (lowC_le _ _ _ _ _ _ _) (w3 y y' i a2 hy' a4)
        · have h1 := lowC_new (n := n) (np := np) (p := p) (to := y) (fr := y + 1) (b := b) (c := c') a4
          have h2 := w4 (y + 1) y' i (Nat.le_refl _) hx a3 a4
          have h3 := (ad_tri (n := n) (p := p) (show y ≤ y + 1 by omega) (show y + 1 ≤ y' by omega) a3).1
          omega
      · exact Nat.le_trans (lowC_le _ _ _ _ _ _ _) (w4 y y' i (by omega) a2 a3 a4)
  have l43 : ∀ (d x : Nat) (f' : Nat → Int32) (c' : Nat → Nat), d + x = szN n p → 1 ≤ x → WK n np st g c0 f' c' → (∀ k, c' k ≤ c k) → (∀ y y' i, y < x → y' ≤ y → i < TN n np (p + 1) → c' (plc n np p b y i) ≤ c (plc n np p b y' i) + ad n p y y') → f_Sh_spread_43 r k27 Q (d + 1) (iI st) (iI p) (iI ((TN n np p : Nat) : Int)) (iI ((b * TN n np p : Nat) : Int)) (iI x) (sA o 11 f') := by
    intro d
    induction d with
    | zero =>
      intro x f' c' hx hx1 w1 w2 w3
      have : x = szN n p := by omega
      subst this
      have e1 : iI ((szN n p : Nat) : Int) - (1 : Int32) = iI ((szN n p - 1 : Nat) : Int) := by rw [show (1 : Int32) = iI 1 from rfl, iI_sub]; congr 1; omega
      unfold f_Sh_spread_43
      rw [cl_nat (by omega), e3, e1]
      refine ⟨vp5, k_t (Int32.le_refl _) ⟨vp5, szN n p - 1 + 1, l85 (szN n p - 1) f' c' (by omega) w1 w2 w3 (fun y y' i a1 a2 a3 a4 => w3 y y' i a2 (by omega) a4)⟩⟩
    | succ d ih =>
      intro x f' c' hx hx1 w1 w2 w3
      have e1 : iI (x : Int) - (1 : Int32) = iI ((x - 1 : Nat) : Int) := by rw [show (1 : Int32) = iI 1 from rfl, iI_sub]; congr 1; omega
      have e2 : iI (x : Int) + (1 : Int32) = iI ((x + 1 : Nat) : Int) := ix_add x 1
      unfold f_Sh_spread_43
      rw [cl_nat (by omega), e3, e1, e2, ea]
      refine ⟨vp5, b_le (fun q => by omega) (fun _ => sh_lower hnp h hp (show x < szN n p by omega) (show x - 1 < szN n p by omega) (by omega) hb hst w1.2.2 w1.1 (fun f2 hf2 => ?_))⟩
      refine ih (x + 1) f2 _ (by omega) (by omega) (w1.low hok hp (by omega) (by omega) hb hf2) (fun k => Nat.le_trans (lowC_le _ _ _ _ _ _ _) (w2 k)) (fun y y' i a1 a2 a3 => ?_)
      by_cases hy : y = x
      · subst hy
        by_cases hy' : y' = y
        · subst hy'
          have := Nat.le_trans (lowC_le c' (b * TN n np p) y' (y' - 1) (TN n np (p + 1)) (ad n p y' (y' - 1)) (plc n np p b y' i)) (w2 (plc n np p b y' i))
          omega
        · have h1 := lowC_new (n := n) (np := np) (p := p) (to := y) (fr := y - 1) (b := b) (c := c') a3
          have h2 := w3 (y - 1) y' i (by omega) (by omega) a3
          have h3 := (ad_tri (n := n) (p := p) (show y' ≤ y - 1 by omega) (show y - 1 ≤ y by omega) (by omega)).2
          omega
      · exact Nat.le_trans (lowC_le _ _ _ _ _ _ _) (w3 y y' i (by omega) a2 a3)
  exact ⟨szN n p - 1 + 1, l43 (szN n p - 1) 1 f c (by omega) (Nat.le_refl _) hW (fun _ => Nat.le_refl _) (fun y y' i a1 a2 a3 => by
    have : y = 0 := by omega
    subst this
    have : y' = 0 := by omega
    subst this
    exact Nat.le_add_right _ _)⟩
theorem sh_piece {st p : Nat} {c0 : Nat → Nat} {k2 : Int32 → Int32 → Ob → Prop} {Q : Ob → Prop} {f : Nat → Int32} {c : Nat → Nat} (hnp : np ≤ 5) (h : SHL np n r o) (hp : p < np) (hst : st + TN n np 0 ≤ r 111) (hW : WK n np st g c0 f c)
    (hk : ∀ f' c', WK n np st g c0 f' c' → (∀ k, c' k ≤ c k) → (∀ b x x' i, b * TN n np p + TN n np p ≤ TN n np 0 → x < szN n p → x' < szN n p → i < TN n np (p + 1) → c' (plc n np p b x i) ≤ c (plc n np p b x' i) + ad n p x x') → k2 (iI st) (iI ((p + 1 : Nat) : Int)) (sA o 11 f')) :
    ∃ w, f_Sh_spread_27 r k2 Q w (iI st) (iI p) (iI ((TN n np p : Nat) : Int)) (0 : Int32) (sA o 11 f) := by
  have hok := h.2.1
  obtain ⟨q, hq⟩ := TT_dvd (s := szN n) (np := np) (j := p) p 0 (by omega) (by omega)
  have hq : TN n np 0 = q * TN n np p := by rw [Nat.mul_comm]; exact hq
  obtain ⟨t1, t2⟩ := TN_le hok hnp (i := p) (by omega)
  have T0 := (TN_le hok hnp (i := 0) (by omega)).2
  have h8 : ∀ f, gI (sA o 11 f) 8 = iI ((TN n np 0 : Nat) : Int) := fun f => h.2.2.2.2.1
  have ep : iI (p : Int) + (1 : Int32) = iI ((p + 1 : Nat) : Int) := ix_add p 1
  have lp : ∀ (d b : Nat) (f' : Nat → Int32) (c' : Nat → Nat), d + b = q → WK n np st g c0 f' c' → (∀ k, c' k ≤ c k) → (∀ b' x x' i, b' < b → x < szN n p → x' < szN n p → i < TN n np (p + 1) → c' (plc n np p b' x i) ≤ c (plc n np p b' x' i) + ad n p x x') → f_Sh_spread_27 r k2 Q (d + 1) (iI st) (iI p) (iI ((TN n np p : Nat) : Int)) (iI ((b * TN n np p : Nat) : Int)) (sA o 11 f') := by
    intro d
    induction d with
    | zero =>
      intro b f' c' hb w1 w2 w3
      have : b = q := by omega
      subst this
      unfold f_Sh_spread_27
      rw [h8, ep, ← hq]
      refine b_le (b := 0) (fun q => by omega) (fun _ => k_t (Int32.le_refl _) (hk f' c' w1 w2 (fun b' x x' i a0 a1 a2 a3 => w3 b' x x' i ?_ a1 a2 a3)))
      rcases Nat.lt_or_ge b' b with z | z
      · exact z
      · have := Nat.mul_le_mul_right (TN n np p) z
        omega
    | succ d ih =>
      intro b f' c' hb w1 w2 w3
      have hb1 := Nat.mul_le_mul_right (TN n np p) (show b + 1 ≤ q by omega)
      rw [Nat.succ_mul, ← hq] at hb1
      unfold f_Sh_spread_27
      rw [h8]
      refine b_le (b := 0) (fun q => by omega) (fun _ => b_le (fun q => by omega) (fun _ => sh_block hnp h hp hb1 hst w1 (fun f2 c2 v1 v2 v3 => ?_)))
      have eb : iI ((b * TN n np p : Nat) : Int) + iI ((TN n np p : Nat) : Int) = iI (((b + 1) * TN n np p : Nat) : Int) := by rw [ix_add, Nat.succ_mul]
      rw [eb]
      refine ih (b + 1) f2 c2 (by omega) v1 (fun k => Nat.le_trans (v2 k) (w2 k)) (fun b' x x' i a0 a1 a2 a3 => ?_)
      by_cases hbb : b' = b
      · subst hbb
        have h1 := v3 x x' i a1 a2 a3
        have h2 := w2 (plc n np p b' x' i)
        omega
      · exact Nat.le_trans (v2 _) (w3 b' x x' i (by omega) a1 a2 a3)
  have := lp q 0 f c rfl hW (fun _ => Nat.le_refl _) (fun b' x x' i a0 => by omega)
  rw [Nat.zero_mul] at this
  exact ⟨q + 1, this⟩
/-- the least over all shapes -/
def MN (n : Nat → Nat) (np : Nat) (c0 c : Nat → Nat) : Prop := ∀ k, k < TN n np 0 → (∀ j, j < TN n np 0 → c k ≤ c0 j + dk n np k j) ∧ ∃ j, j < TN n np 0 ∧ c k = c0 j + dk n np k j
theorem sh_spread {st : Nat} {c0 : Nat → Nat} {f : Nat → Int32} {Q : Ob → Prop} (hnp : np ≤ 5) (h : SHL np n r o) (hst : st + TN n np 0 ≤ r 111) (hc : ∀ k, k < TN n np 0 → c0 k ≤ 1000000) (hf : CO st (TN n np 0) g f c0) (hQ : ∀ f' c, CO st (TN n np 0) g f' c → MN n np c0 c → Q (sA o 11 f')) : f_Sh_spread (iI st) r (sA o 11 f) Q := by
  have hok := h.2.1
  have h0 : ∀ f, gI (sA o 11 f) 0 = iI np := fun f => h.1
  have lp : ∀ (d p : Nat) (f' : Nat → Int32) (c' : Nat → Nat), d + p = np → WK n np st g c0 f' c' → (∀ k j, k < TN n np 0 → j < TN n np 0 → k % TN n np p = j % TN n np p → c' k ≤ c0 j + dk n np k j) → f_Sh_spread_2 r Q (d + 1) (iI st) (iI p) (sA o 11 f') := by
    intro d
    induction d with
    | zero =>
      intro p f' c' hp w1 w2
      have : p = np := by omega
      subst this
      unfold f_Sh_spread_2
      rw [h0]
      have e1 : TN n p p = 1 := TT_end _ _
      have up : ∀ k j, k < TN n p 0 → j < TN n p 0 → c' k ≤ c0 j + dk n p k j := fun k j a b => w2 k j a b (by rw [e1, Nat.mod_one, Nat.mod_one])
      refine k_t (Int32.le_refl _) (hQ f' c' w1.1 (fun k hk => ⟨fun j hj => up k j hk hj, ?_⟩))
      obtain ⟨j, j1, j2⟩ := w1.2.1 k hk
      exact ⟨j, j1, Nat.le_antisymm (up k j hk j1) j2⟩
    | succ d ih =>
      intro p f' c' hp w1 w2
      have hpn : p < np := by omega
      have vp5 : vp_in (iI (p : Int)) 5 := v_nat (by omega) (by decide)
      obtain ⟨e3, e4, -⟩ := h.2.2.2.1 p hpn
      have e34 : gA (sA o 11 f') 4 p * gA (sA o 11 f') 3 p = iI ((TN n np p : Nat) : Int) := by
        have e3' : gA (sA o 11 f') 3 p = iI ((szN n p : Nat) : Int) := e3
        have e4' : gA (sA o 11 f') 4 p = iI ((TN n np (p + 1) : Nat) : Int) := e4
        rw [e3', e4', iI_mul, TN_st hpn, Nat.mul_comm]; congr 1
      unfold f_Sh_spread_2
      rw [h0, cl_nat (by omega)]
      refine b_le (fun q => by omega) (fun _ => ⟨vp5, vp5, k_e e34 (sh_piece hnp h hpn hst w1 (fun f2 c2 v1 v2 v3 => ih (p + 1) f2 c2 (by omega) v1 (fun k j hk hj hkj => ?_)))⟩)
      obtain ⟨ek, k1, k2⟩ := k_split hok hpn k
      obtain ⟨ej, j1, j2⟩ := k_split hok hpn j
      generalize hbk : k / TN n np p = b at ek
      generalize hgk : dg (szN n) np p k = x at ek k1
      generalize hbj : j / TN n np p = b2 at ej
      generalize hgj : dg (szN n) np p j = x2 at ej j1
      rw [← hkj] at ej j2
      generalize hrk : k % TN n np (p + 1) = i at ek k2 ej j2
      have hb : b * TN n np p + TN n np p ≤ TN n np 0 := by
        obtain ⟨q, hq⟩ := TT_dvd (s := szN n) (np := np) (j := p) p 0 (by omega) (by omega)
        have hq : TN n np 0 = q * TN n np p := by rw [Nat.mul_comm]; exact hq
        have t1 := (TN_le hok hnp (i := p) (by omega)).1
        have : b < q := by
          rw [← hbk]
          exact Nat.div_lt_of_lt_mul (by rw [Nat.mul_comm, ← hq]; exact hk)
        have := Nat.mul_le_mul_right (TN n np p) (show b + 1 ≤ q from this)
        rw [Nat.succ_mul, ← hq] at this
        exact this
      have in1 := in_T (b := b) hok hpn j1 k2
      have m1 := (p_blk (b := b) hok hpn j1 k2).2.1
      have m2 : j % TN n np p = x2 * TN n np (p + 1) + i := by
        have := (p_blk (b := b2) hok hpn j1 j2).2.1
        rw [← ej] at this
        exact this
      have s1 := w2 (plc n np p b x2 i) j (by show b * TN n np p + x2 * TN n np (p + 1) + i < _; omega) hj (by show (b * TN n np p + x2 * TN n np (p + 1) + i) % _ = _; rw [m1, m2])
      have s2 := v3 b x x2 i hb k1 j1 k2
      have s3 := dk_line (b := b) (j := j) hok hpn k1 j1 k2
      rw [hgj, ad_self, Nat.add_zero] at s3
      have ek' : k = plc n np p b x i := ek
      rw [ek']
      have s3' : dk n np (plc n np p b x i) j = dk n np (plc n np p b x2 i) j + ad n p x x2 := s3
      rw [s3']
      omega
  refine ⟨np + 1, lp np 0 f c0 rfl ⟨hf, fun k hk => ⟨k, hk, ?_⟩, hc⟩ (fun k j hk hj hkj => ?_)⟩
  · show c0 k + dS (shp n np k) (shp n np k) np ≤ _
    rw [dS_self]; exact Nat.le_refl _
  · rw [Nat.mod_eq_of_lt hk, Nat.mod_eq_of_lt hj] at hkj
    subst hkj
    exact Nat.le_add_right _ _
end SD
