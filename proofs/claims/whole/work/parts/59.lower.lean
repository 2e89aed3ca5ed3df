-- costs are lowered along the pieces
theorem TN_le {np : Nat} {n : Nat → Nat} (h : okS np n) (hnp : np ≤ 5) {i : Nat} (hi : i ≤ np) : 0 < TN n np i ∧ TN n np i ≤ 1024 := okS_le h hnp hi
theorem chN_ex (n g : Nat) : ∀ b, g < cbN n b → ∃ c, 1 ≤ c ∧ c ≤ b ∧ bN n c = 1 ∧ cbN n (c - 1) = g := by
  intro b
  induction b with
  | zero => intro h; exact absurd h (Nat.not_lt_zero _)
  | succ b ih =>
    intro h
    by_cases hb : g < cbN n b
    · obtain ⟨c, c1, c2, c3, c4⟩ := ih hb
      exact ⟨c, c1, by omega, c3, c4⟩
    · have hp := cbN_pred n (show 1 ≤ b + 1 by omega)
      rw [show b + 1 - 1 = b by omega] at hp
      have h01 := bN_01 n (b + 1)
      exact ⟨b + 1, by omega, Nat.le_refl _, by omega, by rw [show b + 1 - 1 = b by omega]; omega⟩
theorem chN_mono {n g g' : Nat} (h : g ≤ g') (hg : g' < cbN n 12) : chN n g ≤ chN n g' := by
  obtain ⟨c, c1, c2, c3, c4⟩ := chN_ex n g 12 (by omega)
  obtain ⟨d, d1, d2, d3, d4⟩ := chN_ex n g' 12 hg
  have e1 := chN_at c1 c2 c3
  have e2 := chN_at d1 d2 d3
  rw [c4] at e1
  rw [d4] at e2
  rw [e1, e2]
  rcases Nat.lt_or_ge d c with q | q
  · have h1 := cbN_mono n (show d ≤ c - 1 by omega)
    have h2 := cbN_pred n d1
    omega
  · exact q
theorem ad_tri {n : Nat → Nat} {p a b c : Nat} (h1 : a ≤ b) (h2 : b ≤ c) (hc : c < szN n p) : ad n p a c = ad n p a b + ad n p b c ∧ ad n p c a = ad n p c b + ad n p b a := by
  have q1 := chN_mono (n := n p) h1 (show b < cbN (n p) 12 from Nat.lt_of_le_of_lt h2 hc)
  have q2 := chN_mono (n := n p) h2 hc
  unfold ad
  omega
theorem ad_self {n : Nat → Nat} {p a : Nat} : ad n p a a = 0 := by
  unfold ad
  omega
def CO (st T : Nat) (g f : Nat → Int32) (c : Nat → Nat) : Prop := (∀ k, k < T → f (st + k) = iI ((c k : Nat) : Int)) ∧ (∀ x, (x < st ∨ st + T ≤ x) → f x = g x)
def lowI (c : Nat → Nat) (at_ to fr st far i : Nat) : Nat → Nat := fun k => if at_ + to * st ≤ k ∧ k < at_ + to * st + i then min (c k) (c (k + fr * st - to * st) + far) else c k
theorem lowI_st (c : Nat → Nat) (at_ to fr st far : Nat) : lowI c at_ to fr st far st = lowC c at_ to fr st far := rfl
theorem CO.put {st T : Nat} {g f : Nat → Int32} {c c' : Nat → Nat} (h : CO st T g f c) {k v : Nat} (hk : k < T) (hv : c' k = v) (ho : ∀ x, x ≠ k → c' x = c x) : CO st T g (upd f (st + k) (iI ((v : Nat) : Int))) c' := by
  refine ⟨fun x hx => ?_, fun x hx => ?_⟩
  · by_cases e : x = k
    · subst e; rw [upd_same, hv]
    · rw [upd_ne _ _ _ _ (by omega), ho x e]; exact h.1 x hx
  · rw [upd_ne _ _ _ _ (by omega)]; exact h.2 x hx
section LO
variable {np : Nat} {n r : Nat → Nat} {o : Ob} {g : Nat → Int32}
theorem sh_lower {st p fr to b : Nat} {f : Nat → Int32} {c : Nat → Nat} {Q : Ob → Prop} (hnp : np ≤ 5) (h : SHL np n r o) (hp : p < np) (hto : to < szN n p) (hfr : fr < szN n p) (hne : to ≠ fr) (hb : b * TN n np p + TN n np p ≤ TN n np 0) (hst : st + TN n np 0 ≤ r 111) (hc : ∀ k, k < TN n np 0 → c k ≤ 1000000) (hCO : CO st (TN n np 0) g f c)
    (hQ : ∀ f', CO st (TN n np 0) g f' (lowC c (b * TN n np p) to fr (TN n np (p + 1)) (ad n p to fr)) → Q (sA o 11 f')) : f_Sh_lower (iI ((st + b * TN n np p : Nat) : Int)) (iI p) (iI fr) (iI to) r (sA o 11 f) Q := by
  have hok := h.2.1
  have s2 : szN n p ≤ 4 := (hok p hp).2.2.2
  obtain ⟨e3, e4, e2⟩ := h.2.2.2.1 p hp
  have r8 := h.2.2.2.2.2.2.2
  obtain ⟨t1, t2⟩ := TN_le hok hnp (i := p + 1) (by omega)
  have T0 := (TN_le hok hnp (i := 0) (by omega)).2
  have b1 := chN_bd (n := n p) (g := to) hto
  have b2 := chN_bd (n := n p) (g := fr) hfr
  have i4 : ∀ x : Nat, x < 4 → iI (p : Int) * (4 : Int32) + iI (x : Int) = iI ((4 * p + x : Nat) : Int) := fun x _ => by
    rw [show (4 : Int32) = iI 4 from rfl, iI_mul, iI_add]; congr 1; omega
  have hlt : ∀ x i : Nat, x < szN n p → i < TN n np (p + 1) → b * TN n np p + x * TN n np (p + 1) + i < TN n np 0 := fun x i hx hi => by
    have := in_T (b := b) hok hp hx hi
    omega
  have dis : ∀ i j : Nat, i < TN n np (p + 1) → j < TN n np (p + 1) → to * TN n np (p + 1) + i ≠ fr * TN n np (p + 1) + j := fun i j hi hj => by
    rcases Nat.lt_or_gt_of_ne hne with q | q
    · have := Nat.mul_le_mul_right (TN n np (p + 1)) (show to + 1 ≤ fr from q)
      rw [Nat.succ_mul] at this
      omega
    · have := Nat.mul_le_mul_right (TN n np (p + 1)) (show fr + 1 ≤ to from q)
      rw [Nat.succ_mul] at this
      omega
  have hfar : ad n p to fr ≤ 11 := by unfold ad; omega
  have lp : ∀ (f0 i : Nat) (f : Nat → Int32), f0 + i = TN n np (p + 1) → CO st (TN n np 0) g f (lowI c (b * TN n np p) to fr (TN n np (p + 1)) (ad n p to fr) i) → f_Sh_lower_41 r Q (f0 + 1) (iI ((st + b * TN n np p : Nat) : Int)) (iI fr) (iI to) (iI ((ad n p to fr : Nat) : Int)) (iI ((TN n np (p + 1) : Nat) : Int)) (iI i) (sA o 11 f) := by
    intro f0
    induction f0 with
    | zero =>
      intro i f hi hf
      have : i = TN n np (p + 1) := by omega
      subst this
      unfold f_Sh_lower_41
      rw [lowI_st] at hf
      exact k_t (Int32.le_refl _) (hQ f hf)
    | succ f0 ih =>
      intro i f hi hf
      have ei : iI (i : Int) + (1 : Int32) = iI ((i + 1 : Nat) : Int) := ix_add i 1
      have ix : ∀ x : Nat, iI ((st + b * TN n np p : Nat) : Int) + iI (x : Int) * iI ((TN n np (p + 1) : Nat) : Int) + iI (i : Int) = iI ((st + (b * TN n np p + x * TN n np (p + 1) + i) : Nat) : Int) := fun x => by
        rw [iI_mul, iI_add, iI_add]; congr 1
        rw [show ((st + (b * TN n np p + x * TN n np (p + 1) + i) : Nat) : Int) = ((st + b * TN n np p : Nat) : Int) + ((x * TN n np (p + 1) : Nat) : Int) + (i : Int) by omega]
        rw [Int.natCast_mul]
      have l1 := hlt to i hto (by omega)
      have l2 := hlt fr i hfr (by omega)
      have y3 : f (st + (b * TN n np p + to * TN n np (p + 1) + i)) = iI ((c (b * TN n np p + to * TN n np (p + 1) + i) : Nat) : Int) := by
        rw [hf.1 _ l1]
        unfold lowI
        rw [if_neg (by omega)]
      have y5 : f (st + (b * TN n np p + fr * TN n np (p + 1) + i)) = iI ((c (b * TN n np p + fr * TN n np (p + 1) + i) : Nat) : Int) := by
        rw [hf.1 _ l2]
        unfold lowI
        rw [if_neg]
        intro q
        exact dis (b * TN n np p + fr * TN n np (p + 1) + i - (b * TN n np p + to * TN n np (p + 1))) i (by omega) (by omega) (by omega)
      have c1 := hc _ l1
      have c2 := hc _ l2
      have mn : (if iI ((c (b * TN n np p + fr * TN n np (p + 1) + i) : Nat) : Int) + iI ((ad n p to fr : Nat) : Int) < iI ((c (b * TN n np p + to * TN n np (p + 1) + i) : Nat) : Int) then iI ((c (b * TN n np p + fr * TN n np (p + 1) + i) : Nat) : Int) + iI ((ad n p to fr : Nat) : Int) else iI ((c (b * TN n np p + to * TN n np (p + 1) + i) : Nat) : Int)) = iI ((min (c (b * TN n np p + to * TN n np (p + 1) + i)) (c (b * TN n np p + fr * TN n np (p + 1) + i) + ad n p to fr) : Nat) : Int) := by
        rw [iI_add]
        by_cases q : c (b * TN n np p + fr * TN n np (p + 1) + i) + ad n p to fr < c (b * TN n np p + to * TN n np (p + 1) + i)
        · rw [if_pos ((iI_lt (by omega) (by omega)).mpr (by omega)), Nat.min_eq_right (by omega)]; congr 1
        · rw [if_neg (fun q2 => q (by have := (iI_lt (by omega) (by omega)).mp q2; omega)), Nat.min_eq_left (by omega)]
      unfold f_Sh_lower_41
      rw [ei, ix to, ix fr, cl_nat (by omega), cl_nat (by omega)]
      have v1 : vp_in (iI ((st + (b * TN n np p + to * TN n np (p + 1) + i) : Nat) : Int)) (r 111) := v_nat (by omega) (by omega)
      have v2 : vp_in (iI ((st + (b * TN n np p + fr * TN n np (p + 1) + i) : Nat) : Int)) (r 111) := v_nat (by omega) (by omega)
      refine b_le (fun q => by omega) (fun _ => ⟨v1, k_e y3 ⟨v2, k_e y5 ⟨v1, ?_⟩⟩⟩)
      rw [mn, sA_sA]
      refine ih (i + 1) _ (by omega) (hf.put l1 ?_ (fun x hx => ?_))
      · unfold lowI
        rw [if_pos (by omega), show b * TN n np p + to * TN n np (p + 1) + i + fr * TN n np (p + 1) - to * TN n np (p + 1) = b * TN n np p + fr * TN n np (p + 1) + i by omega]
      · unfold lowI
        by_cases q : b * TN n np p + to * TN n np (p + 1) ≤ x ∧ x < b * TN n np p + to * TN n np (p + 1) + i
        · rw [if_pos q, if_pos (by omega)]
        · rw [if_neg q, if_neg (by omega)]
  have vp5 : vp_in (iI (p : Int)) 5 := v_nat (by omega) (by decide)
  unfold f_Sh_lower
  rw [i4 to (by omega), i4 fr (by omega), cl_nat (by omega), cl_nat (by omega), cl_nat (by omega)]
  refine ⟨v_nat (by omega) (by decide), k_e (e2 to hto) ⟨v_nat (by omega) (by decide), k_e (e2 fr hfr) (k_e (abs_is (x := ((chN (n p) to : Nat) : Int)) (y := ((chN (n p) fr : Nat) : Int)) (by omega) (by omega)) ⟨vp5, ?_⟩)⟩⟩
  have e4' : gA (sA o 11 f) 4 p = iI ((TN n np (p + 1) : Nat) : Int) := e4
  rw [e4']
  refine ⟨TN n np (p + 1) + 1, lp _ 0 f rfl ?_⟩
  have : lowI c (b * TN n np p) to fr (TN n np (p + 1)) (ad n p to fr) 0 = c := by
    funext k
    unfold lowI
    rw [if_neg (by omega)]
  rw [this]; exact hCO
end LO
