-- the row, both ways
section RP
variable {np mm : Nat} {n : Nat → Nat} {C : Nat → Nat → Nat}
theorem md_findRow {m : Ob} {lk : Nat} {A : Nat → Int32} {Q : Ob → Prop} (hnp : np ≤ 5) (hnp1 : 1 ≤ np) (hok : okS np n) (hm0 : gI m 0 = iI np) (hA : gA m 1 = A) (hg : ∀ i, i < np → A (30 + i) = iI (n i)) (a2 : A 2 = iI lk) (hlk : lk ≤ 100) (hTD : ∀ s, s < 8 → ∃ lo hi, TD A lk s lo hi) (hW : RW n np mm 0 (PS A lk n np) C) (hm1 : 1 ≤ mm) (hm : mm ≤ 8)
    (hQ : ∀ u, mdM m u → gI u 40 = iI ((TN n np 0 : Nat) : Int) → (∀ k, k < TN n np 0 → ∀ j, j < np → gA u 39 (5 * k + j) = shp n np k j) → (∀ s, s < mm → ∀ k, k < TN n np 0 → RMk n np mm C u s k) → Q u) : f_Md_findRow (iI mm) m Q := by
  have lp : ∀ (s : Nat) (v : Ob), s ≤ mm → mdM m v → (s < mm → gI v 40 = iI ((TN n np 0 : Nat) : Int) ∧ (∀ k, k < TN n np 0 → ∀ j, j < np → gA v 39 (5 * k + j) = shp n np k j)) → (∀ s', s ≤ s' → s' < mm → ∀ k, k < TN n np 0 → RMk n np mm C v s' k) → f_Md_findRow_4 Q (s + 1) (iI mm) (iI ((s : Int) - 1)) v := by
    intro s
    induction s with
    | zero =>
      intro v hs g1 g2 g3
      unfold f_Md_findRow_4
      obtain ⟨b1, b2⟩ := g2 hm1
      exact k_t (by decide) (hQ v g1 b1 b2 (fun s hs k hk => g3 s (Nat.zero_le _) hs k hk))
    | succ s ih =>
      intro v hs g1 g2 g3
      have e1 : iI (((s + 1 : Nat) : Int) - 1) = iI (s : Int) := by congr 1; omega
      obtain ⟨lo, hi, hT⟩ := hTD s (by omega)
      obtain ⟨u, d1, d2, d3, d4, d5, d6, drun⟩ := md_findMakers (m := v) (A := A) hnp hnp1 hok (by rw [g1.1 0 (by decide)]; exact hm0) (by rw [g1.2.2.1 1 (by omega)]; exact hA) hg a2 hlk (show s < 8 by omega) hT
      unfold f_Md_findRow_4
      rw [e1]
      refine b_lt (b := 0) (fun q => by omega) (fun _ => drun _ ⟨TN n np 0 + 1, ?_⟩)
      refine md_16 (m := m) (s := s) (P := PS A lk n np) hnp hok hm0 hW hm (by omega) (fun v' c1 c2 c3 c4 => ih v' (by omega) c1 (fun _ => ⟨c2, c3⟩) c4) (TN n np 0) 0 u rfl ⟨g1.tr d1, d2, d3, fun k hk => ?_⟩ (fun s' b1 b2 k hk => (g3 s' (by omega) b2 k hk).cg (by rw [d5]) (by rw [d6])) (fun k' hk' => by omega)
      rcases d4 k hk with ⟨e, p⟩ | ⟨e, p⟩
      · exact Or.inl ⟨e, (PS_iff hT).mpr p⟩
      · exact Or.inr ⟨e, fun q => p ((PS_iff hT).mp q)⟩
  have e1 : iI (mm : Int) - (1 : Int32) = iI ((mm : Int) - 1) := iI_sub _ 1
  unfold f_Md_findRow
  rw [e1]
  exact ⟨mm + 1, lp mm m (Nat.le_refl _) (mdM.rf m) (fun q => by omega) (fun s' a1 a2' => by omega)⟩
theorem md_row36 {m : Ob} {lk : Nat} {A : Nat → Int32} {x2 x3 : Int32} {Q : Int32 → Ob → Prop} (hnp : np ≤ 5) (hnp1 : 1 ≤ np) (hok : okS np n) (hm0 : gI m 0 = iI np) (hA : gA m 1 = A) (hg : ∀ i, i < np → A (30 + i) = iI (n i)) (a2 : A 2 = iI lk) (hlk : lk ≤ 100) (hTD : ∀ s, s < 8 → ∃ lo hi, TD A lk s lo hi) (hW : RW n np mm 0 (PS A lk n np) C) (hm1 : 1 ≤ mm) (hm : mm ≤ 8)
    (hx : x2 = (-1 : Int32) ∨ ∃ kk : Nat, kk < mm ∧ x2 = iI kk ∧ ∃ p : Nat, p < np ∧ x3 = iI p)
    (no : (∀ k, k < TN n np 0 → ¬ C 0 k < 1000000) → ∀ u, mdM m u → Q (-1) u)
    (sum : x2 = (-1 : Int32) → ∀ b, BE (fun k => C 0 k < 1000000) (C 0) (TN n np 0) b → ∀ u, mdM m u → Q (iI ((C 0 b : Nat) : Int)) u)
    (way : ∀ kk p b j : Nat, kk < mm → x2 = iI kk → p < np → x3 = iI p → BE (fun k => C 0 k < 1000000) (C 0) (TN n np 0) b → PT n np C b kk j → ∀ u, mdM m u → Q (shp n np j p) u) : f_Md_row_36 Q (iI mm) x2 x3 m := by
  have T0 := (TN_le hok hnp (i := 0) (by omega)).2
  unfold f_Md_row_36
  refine md_findRow hnp hnp1 hok hm0 hA hg a2 hlk hTD hW hm1 hm (fun u u1 u40 u39 uR => ?_)
  have l128 : ∀ (kk p b : Nat), kk < mm → x2 = iI kk → p < np → x3 = iI p → BE (fun k => C 0 k < 1000000) (C 0) (TN n np 0) b → ∀ (d i j : Nat), d + i = kk → PT n np C b i j → j < TN n np 0 → C i j < 1000000 → f_Md_row_128 Q (d + 1) (iI kk) (iI p) (iI j) (iI i) u := by
    intro kk p b hkk hx2 hp hx3 hb d
    induction d with
    | zero =>
      intro i j hd p1 p2 p3
      have : i = kk := by omega
      subst this
      have e5 : (5 : Int32) * iI (j : Int) + iI (p : Int) = iI ((5 * j + p : Nat) : Int) := by
        rw [show (5 : Int32) = iI 5 from rfl, iI_mul, iI_add]; congr 1
      unfold f_Md_row_128
      rw [e5, cl_nat (by omega)]
      refine k_t (Int32.le_refl _) ⟨v_nat (by omega) (by decide), k_e (u39 j p2 p hp) ?_⟩
      exact way i p b j hkk hx2 hp hx3 hb p1 u u1
    | succ d ih =>
      intro i j hd p1 p2 p3
      have ei : iI (i : Int) + (1 : Int32) = iI ((i + 1 : Nat) : Int) := ix_add i 1
      have ex : (1024 : Int32) * iI (i : Int) + iI (j : Int) = iI ((1024 * i + j : Nat) : Int) := by
        rw [show (1024 : Int32) = iI 1024 from rfl, iI_mul, iI_add]; congr 1
      rcases uR i (by omega) j p2 with ⟨-, -, z⟩ | ⟨z, -⟩
      · obtain ⟨j', f1, f2⟩ := z (by omega)
        unfold f_Md_row_128
        rw [ei, ex, cl_nat (by omega)]
        refine b_le (fun q => by omega) (fun _ => ⟨v_nat (by omega) (by decide), k_e f2 ?_⟩)
        exact ih (i + 1) j' (by omega) ⟨j, p1, f1⟩ f1.1 f1.2.1
      · exact absurd p3 z
  have l47 : ∀ (d k : Nat) (x : Int32), d + k = TN n np 0 → (((∀ j, j < k → ¬ C 0 j < 1000000) ∧ x = -1) ∨ ∃ b, BE (fun k => C 0 k < 1000000) (C 0) k b ∧ x = iI b) → f_Md_row_47 Q (d + 1) x2 x3 x (iI k) u := by
    intro d
    induction d with
    | zero =>
      intro k x hd hx'
      have : k = TN n np 0 := by omega
      subst this
      unfold f_Md_row_47
      rw [u40]
      refine k_t (Int32.le_refl _) ?_
      rcases hx' with ⟨h1, h2⟩ | ⟨b, h1, h2⟩
      · rw [h2]
        refine k_t (by decide) ?_
        unfold f_Md_row_108
        exact k_f (by decide) (no h1 u u1)
      · rw [h2]
        have hb1 := h1.1
        have hb2 : C 0 b < 1000000 := h1.2.1
        refine b_lt (b := 0) (fun q => by omega) (fun _ => ?_)
        rcases hx with hx2 | ⟨kk, k1, k2, p, k3, k4⟩
        · refine k_t hx2 ?_
          unfold f_Md_row_108
          rw [cl_nat (by omega)]
          refine b_le (a := 0) (fun _ => ⟨v_nat (by omega) (by decide), ?_⟩) (fun q => by omega)
          rcases uR 0 hm1 b hb1 with ⟨-, z, -⟩ | ⟨z, -⟩
          · rw [show 1024 * 0 + b = b by omega] at z
            rw [z]; exact sum hx2 b h1 u u1
          · exact absurd hb2 z
        · refine k_f (fun q => ?_) ⟨kk + 1, ?_⟩
          · have := (iI_eq (a := (kk : Int)) (b := -1) (by omega) (by omega)).mp (by rw [← k2, q]; decide)
            omega
          · rw [k2, k4]
            exact l128 kk p b k1 k2 k3 k4 h1 kk 0 b rfl rfl hb1 hb2
    | succ d ih =>
      intro k x hd hx'
      have ek : iI (k : Int) + (1 : Int32) = iI ((k + 1 : Nat) : Int) := ix_add k 1
      have v8 : vp_in (iI (k : Int)) 8192 := v_nat (by omega) (by decide)
      unfold f_Md_row_47
      rw [u40, ek, cl_nat (by omega)]
      refine b_le (fun q => by omega) (fun _ => ⟨v8, ?_⟩)
      rcases uR 0 hm1 k (by omega) with ⟨z, z1, -⟩ | ⟨z, z1⟩
      · rw [show 1024 * 0 + k = k by omega] at z1
        rw [z1]
        refine b_lt (b := 0) (fun q => by omega) (fun _ => ?_)
        rcases hx' with ⟨h1, h2⟩ | ⟨b, h1, h2⟩
        · rw [h2]
          exact k_t (by decide) (ih (k + 1) _ (by omega) (Or.inr ⟨k, BE.new z (fun j hj pj => absurd pj (h1 j hj)), rfl⟩))
        · have hb1 := h1.1
          have hb2 : C 0 b < 1000000 := h1.2.1
          rw [h2, cl_nat (by omega)]
          refine b_lt (b := 0) (fun q => by omega) (fun _ => ⟨v8, v_nat (by omega) (by decide), ?_⟩)
          rcases uR 0 hm1 b (by omega) with ⟨-, y1, -⟩ | ⟨y, -⟩
          · rw [show 1024 * 0 + b = b by omega] at y1
            rw [y1]
            refine b_le (fun q => ih (k + 1) _ (by omega) (Or.inr ⟨b, h1.keep (fun _ => by omega), rfl⟩)) (fun q => ih (k + 1) _ (by omega) (Or.inr ⟨k, BE.new z (fun j hj pj => ?_), rfl⟩))
            have := h1.2.2.1 j hj pj
            omega
          · exact absurd hb2 y
      · rw [show 1024 * 0 + k = k by omega] at z1
        rw [z1]
        refine k_t (by decide) (ih (k + 1) _ (by omega) ?_)
        rcases hx' with ⟨h1, h2⟩ | ⟨b, h1, h2⟩
        · refine Or.inl ⟨fun j hj => ?_, h2⟩
          by_cases e : j = k
          · subst e; exact z
          · exact h1 j (by omega)
        · exact Or.inr ⟨b, h1.keep (fun q => absurd q z), h2⟩
  exact ⟨_, l47 (TN n np 0) 0 _ rfl (Or.inl ⟨fun j hj => by omega, rfl⟩)⟩
end RP
section OPR
variable {np tm : Nat} {o0 mo he sh m : Ob} {r3 r12 : Nat → Nat} {K : (Nat → Nat) → Ob → Ob → Prop}
theorem op_row {a b c : Int32} (hnp : np ≤ 5) (hnp1 : 1 ≤ np) (h0 : gI o0 0 = iI np) (hm : gI m 0 = iI np) (hG : RGr mo (gA m 1)) (hT : RTi mo (gA m 1) tm) (hH : RHe he (gA m 1) tm) (hR : RSh np r12 sh) (hK : ∀ r' o' m', RSh np r' o' → mdM m m' → K r' o' m') :
    f_PV_row a b c o0 r3 mo he r12 sh (fun z r' o' => f_Md_row a b c m (fun z2 v => (z = z2 → K r' o' v) ∧ (¬ z = z2 → False))) := by
  obtain ⟨t1, t2, t3, lk, t4, t5, t6⟩ := hT
  obtain ⟨n, hok, hgA, hgm⟩ := hG.S hnp
  obtain ⟨x, x1, x2, rfl⟩ := iI_ex a
  obtain ⟨y, y1, y2, rfl⟩ := iI_ex b
  have T0 := TN_le hok hnp (i := 0) (by omega)
  have hTD : ∀ s, s < 8 → ∃ lo hi, TD (gA m 1) lk s lo hi := fun s hs => by
    obtain ⟨lo, hi, -, -, h, -⟩ := he_fill (o1 := gA m 1) (o2 := gA m 1) hH t6 t3 hs
    exact ⟨lo, hi, h⟩
  have em : iI x - (1 : Int32) = iI (x - 1) := iI_sub _ 1
  have eb : ∀ z : Int, -2147483648 ≤ z ∧ z < 2147483648 → (iI z = (-1 : Int32) ↔ z = -1) := fun z hz => by
    rw [show (-1 : Int32) = iI (-1) by decide]; exact iI_eq hz (by omega)
  have no : ¬ ((1 ≤ x ∧ x ≤ 8) ∧ (y = -1 ∨ ((0 ≤ y ∧ y < x) ∧ ∃ p : Nat, p < np ∧ c = iI p))) → f_Md_row (iI x) (iI y) c m (fun z2 v => ((-1 : Int32) = z2 → K r12 sh v) ∧ (¬ (-1 : Int32) = z2 → False)) := by
    intro q
    have hk := hK r12 sh m hR (mdM.rf m)
    unfold f_Md_row
    rw [em]
    refine md_in (lo := 1) (hi := 8) (fun a1 a2 => k_f (by decide) (k_c (fun hb => absurd ⟨⟨a1, a2⟩, Or.inl ((eb y ⟨y1, y2⟩).mp hb)⟩ q) (fun hb => ?_))) (fun _ => k_t rfl (k_q rfl hk)) ⟨x1, x2⟩ (by omega) (by omega)
    refine md_in (lo := 0) (hi := x - 1) (fun a3 a4 => k_f (by decide) ?_) (fun _ => k_t rfl (k_q rfl hk)) ⟨y1, y2⟩ (by omega) (by omega)
    exact md_isPiece hm hnp (fun p hp hc => absurd ⟨⟨a1, a2⟩, Or.inr ⟨⟨a3, by omega⟩, p, hp, hc⟩⟩ q) (fun _ => k_t rfl (k_q rfl hk))
  have go : (1 ≤ x ∧ x ≤ 8) → (y = -1 ∨ ((0 ≤ y ∧ y < x) ∧ ∃ p : Nat, p < np ∧ c = iI p)) → f_PV_row_37 o0 r3 mo he (fun z r' o' => f_Md_row (iI x) (iI y) c m (fun z2 v => (z = z2 → K r' o' v) ∧ (¬ z = z2 → False))) 0 0 (iI x) (iI y) c r12 sh := by
    intro hx hy
    obtain ⟨mm, rfl⟩ : ∃ k : Nat, x = k := ⟨x.toNat, by omega⟩
    unfold f_PV_row_37
    refine ⟨by decide, by decide, sh_weighRow (A := gA m 1) hnp hnp1 hR hok hgm t4 hH t6 t3 (show 1 ≤ mm by omega) (by omega) (fun r' o' C hS hB h111 hW hA => ⟨by decide, by decide, ?_⟩)⟩
    have hRS : ∀ o', SHL np n r' o' → SBX np n o' → RSh np r' o' := fun o' g1 g2 => ⟨g1.1, g1.2.2.2.2.2.2.1, g1.2.2.2.2.2.2.2, Or.inr ⟨n, g1, g2⟩⟩
    have hx36 : iI y = (-1 : Int32) ∨ ∃ kk : Nat, kk < mm ∧ iI y = iI kk ∧ ∃ p : Nat, p < np ∧ c = iI p := by
      rcases hy with hy | ⟨hy, p, hp, hc⟩
      · exact Or.inl ((eb y ⟨y1, y2⟩).mpr hy)
      · exact Or.inr ⟨y.toNat, by omega, by congr 1; omega, p, hp, hc⟩
    have md : ∀ Q : Int32 → Ob → Prop, ((∀ k, k < TN n np 0 → ¬ C 0 k < 1000000) → ∀ u, mdM m u → Q (-1) u) → (y = -1 → ∀ b, BE (fun k => C 0 k < 1000000) (C 0) (TN n np 0) b → ∀ u, mdM m u → Q (iI ((C 0 b : Nat) : Int)) u) → (∀ kk p b j : Nat, kk < mm → y = kk → p < np → c = iI p → BE (fun k => C 0 k < 1000000) (C 0) (TN n np 0) b → PT n np C b kk j → ∀ u, mdM m u → Q (shp n np j p) u) → f_Md_row (iI (mm : Int)) (iI y) c m Q := by
      intro Q n1 n2 n3
      have h36 : f_Md_row_36 Q (iI (mm : Int)) (iI y) c m := md_row36 (A := gA m 1) hnp hnp1 hok hm rfl hgA t5 (by omega) hTD hW (by omega) (by omega) hx36 n1 (fun q => n2 ((eb y ⟨y1, y2⟩).mp q)) (fun kk p b j h1 h2 h3 h4 h5 h6 => n3 kk p b j h1 ((iI_eq ⟨y1, y2⟩ (by omega)).mp h2) h3 h4 h5 h6)
      unfold f_Md_row
      rw [em]
      refine md_in (lo := 1) (hi := 8) (fun _ _ => k_f (by decide) (k_c (fun _ => h36) (fun hb => ?_))) (fun q => by omega) (by omega) (by omega) (by omega)
      rcases hy with hy | ⟨hy, p, hp, hc⟩
      · exact absurd ((eb y ⟨y1, y2⟩).mpr hy) hb
      · refine md_in (lo := 0) (hi := (mm : Int) - 1) (fun _ _ => k_f (by decide) ?_) (fun q => by omega) ⟨y1, y2⟩ (by omega) (by omega)
        exact md_isPiece hm hnp (fun _ _ _ => k_f (by decide) h36) (fun q => absurd hc (q p hp))
    refine sh_firstOfRow hnp hS h111 (by omega) (by omega) hW hA (fun q => ?_) (fun bb hbb => ?_)
    · exact k_t rfl ⟨by decide, by decide, md _ (fun _ u hu => k_q rfl (hK r' o' u (hRS o' hS hB) hu)) (fun _ b hb => absurd hb.2.1 (q b hb.1)) (fun _ _ b _ _ _ _ _ hb => absurd hb.2.1 (q b hb.1))⟩
    · have hbk := hbb.1
      have hbf : C 0 bb < 1000000 := hbb.2.1
      refine k_f (fun q => ?_) (k_c (fun hb1 => ⟨by decide, by decide, ?_⟩) (fun hb1 => ⟨by decide, by decide, ?_⟩))
      · have := (eb (bb : Int) (by omega)).mp q
        omega
      · unfold f_Sh_sumOfRow
        have r8 := hS.2.2.2.2.2.2.2
        have ha := hA 0 (Nat.le_refl _) (by omega) bb hbk
        rw [Nat.zero_mul, Nat.zero_add] at ha
        rw [cl_nat (by omega), ha]
        refine ⟨v_nat (by omega) (by omega), by decide, by decide, md _ (fun q => absurd hbf (q bb hbk)) (fun _ b hb u hu => k_q (by rw [hbb.uniq hb]) (hK r' o' u (hRS o' hS hB) hu)) (fun kk p b j _ hy2 _ _ _ _ u hu => ?_)⟩
        have := (eb y ⟨y1, y2⟩).mp hb1
        omega
      · rcases hy with hy | ⟨hy, p, hp, hc⟩
        · exact absurd ((eb y ⟨y1, y2⟩).mpr hy) hb1
        · obtain ⟨kk, rfl⟩ : ∃ k : Nat, y = k := ⟨y.toNat, by omega⟩
          refine sh_shapeOfRow hnp hS hB h111 (by omega) (show kk < mm by omega) hbk hbf hW hA (fun j o2 pj hj g1 g2 => ⟨by decide, by decide, ?_⟩)
          rw [hc]
          refine sh_widthIn hnp g1 hj hp ⟨by decide, by decide, ?_⟩
          rw [← hc]
          refine md _ (fun q => absurd hbf (q bb hbk)) (fun q => by omega) (fun kk' p' b j' h1 h2 h3 h4 h5 h6 u hu => k_q ?_ (hK r' o2 u (hRS o2 g1 g2) hu))
          have hpp : p = p' := by
            have := (iI_eq (a := (p : Int)) (b := (p' : Int)) (by omega) (by omega)).mp (hc.symm.trans h4)
            omega
          have hkk : kk' = kk := by omega
          subst hkk
          rw [← hbb.uniq h5] at h6
          rw [pj.uq h6, hpp]
  unfold f_PV_row
  refine b_lt (b := 1) (fun q => no (fun h => by omega)) (fun q1 => b_le (b := 8) (fun q2 => k_c (fun hb => go ⟨by omega, q2⟩ (Or.inl ((eb y ⟨y1, y2⟩).mp hb))) (fun hb => ?_)) (fun q => no (fun h => by omega)))
  have hb' : y ≠ -1 := fun q => hb ((eb y ⟨y1, y2⟩).mpr q)
  refine b_lt (b := 0) (fun q => no (fun h => ?_)) (fun q3 => b_le (fun q => no (fun h => ?_)) (fun q4 => pv_isPiece h0 hnp (fun p hp hc => k_f (by decide) (go ⟨by omega, q2⟩ (Or.inr ⟨⟨by omega, by omega⟩, p, hp, hc⟩))) (fun q => k_t rfl (no (fun h => ?_)))))
  · rcases h.2 with h2 | ⟨h2, -⟩
    · exact hb' h2
    · omega
  · rcases h.2 with h2 | ⟨h2, -⟩
    · exact hb' h2
    · omega
  · rcases h.2 with h2 | ⟨-, p, hp, hc⟩
    · exact hb' h2
    · exact q p hp hc
end OPR
