theorem le_skip {r1 : Nat → Nat} {o1 la o : Ob} {k : Int32 → Int32 → Int32 → Int32 → Int32 → Int32 → Ob → Prop} {Q : Ob → Prop} {x2 x3 x4 x6 x7 : Int32} {i : Nat} (hk : k x2 x3 x4 x6 x7 (iI ((i + 1 : Nat) : Int)) o) : f_Le_findInItem_109 r1 o1 la k Q x2 x3 x4 x6 x7 (iI i) o := by
  unfold f_Le_findInItem_109 f_Le_findInItem_112 f_Le_findInItem_176
  have en : iI (i : Int) + (1 : Int32) = iI ((i + 1 : Nat) : Int) := ix_add i 1
  rw [en]
  exact k_t rfl (k_t rfl hk)
section LD
variable {np G w j s p t : Nat} {d fr : Int} {o1 la : Ob} {r1 : Nat → Nat} {A : Nat → Int32}
/-- the model's walk through the gestures: what it looks at -/
theorem md_85 {k40 : Int32 → Int32 → Int32 → Int32 → Int32 → Ob → Prop} {Q : Ob → Prop} {f i : Nat} {u : Ob} {hd : Int} (hw : w < 8) (hj : j < 8) (hi : i < 20) (hG : G ≤ 20) (hiG : i < G) (hA : gA u 1 = A) (aG : A 5604 = iI G) (hh : A (5614 + 6 * i) = iI hd) (hb : 1 ≤ hd ∧ hd ≤ 50) (hfr : 0 ≤ fr ∧ fr ≤ 400) (ht : t ≤ 200)
    (skip : ¬ (A (5610 + 6 * i) = A (5741 + 17 * w + 2 * j) ∧ A (5611 + 6 * i) = iI p ∧ fr ≤ t ∧ (t : Int) < fr + hd) → f_Md_lead_85 k40 Q (f + 1) (iI p) (iI t) (iI s) (iI ((5740 + 17 * w : Nat) : Int)) (iI j) (iI fr) (iI ((i + 1 : Nat) : Int)) u)
    (want : (A (5610 + 6 * i) = A (5741 + 17 * w + 2 * j) ∧ A (5611 + 6 * i) = iI p ∧ fr ≤ t ∧ (t : Int) < fr + hd) → f_Md_wants (iI i) (iI s) (iI j) u (fun u' => f_Md_lead_85 k40 Q (f + 1) (iI p) (iI t) (iI s) (iI ((5740 + 17 * w : Nat) : Int)) (iI j) (iI fr) (iI ((i + 1 : Nat) : Int)) u')) :
    f_Md_lead_85 k40 Q (f + 1 + 1) (iI p) (iI t) (iI s) (iI ((5740 + 17 * w : Nat) : Int)) (iI j) (iI fr) (iI i) u := by
  have en : iI (i : Int) + (1 : Int32) = iI ((i + 1 : Nat) : Int) := ix_add i 1
  have ei : (5610 : Int32) + (6 : Int32) * iI (i : Int) = iI ((5610 + 6 * i : Nat) : Int) := ix_lin 5610 6 i
  have e1 : iI ((5610 + 6 * i : Nat) : Int) + (1 : Int32) = iI ((5611 + 6 * i : Nat) : Int) := by
    rw [show 5611 + 6 * i = (5610 + 6 * i) + 1 by omega]; exact ix_add _ 1
  have e4 : iI ((5610 + 6 * i : Nat) : Int) + (4 : Int32) = iI ((5614 + 6 * i : Nat) : Int) := by
    rw [show 5614 + 6 * i = (5610 + 6 * i) + 4 by omega]; exact ix_add _ 4
  have ej : iI ((5740 + 17 * w : Nat) : Int) + (1 : Int32) + (2 : Int32) * iI (j : Int) = iI ((5741 + 17 * w + 2 * j : Nat) : Int) := by
    rw [show iI ((5740 + 17 * w : Nat) : Int) + (1 : Int32) = iI ((5741 + 17 * w : Nat) : Int) from (by rw [show 5741 + 17 * w = (5740 + 17 * w) + 1 by omega]; exact ix_add _ 1)]
    exact ix_lin (5741 + 17 * w) 2 j
  unfold f_Md_lead_85
  rw [hA, aG, en, ei, e1, e4, ej]
  refine b_le (fun q => by omega) (fun _ => ⟨v_nat (by omega) (by decide), ?_⟩)
  rw [cl_nat (by omega)]
  refine k_n ⟨v_nat (by omega) (by decide), ?_⟩
  rw [cl_nat (by omega)]
  refine k_n (k_c (fun h1 => k_n ⟨v_nat (by omega) (by decide), ?_⟩) (fun h1 => skip (fun q => h1 q.1)))
  rw [cl_nat (by omega)]
  refine k_c (fun h2 => k_n ⟨v_nat (by omega) (by decide), ?_⟩) (fun h2 => skip (fun q => h2 q.2.1))
  rw [cl_nat (by omega), hh]
  have ey : iI fr + iI hd - (1 : Int32) = iI (fr + hd - 1) := by
    rw [iI_add]; exact iI_sub _ 1
  refine k_e ey ?_
  refine md_in (fun a b => k_f (by decide) (want ⟨h1, h2, a, by omega⟩)) (fun q => k_t rfl (skip (fun h => by omega))) (by omega) (by omega) (by omega)
theorem md_85x {k40 : Int32 → Int32 → Int32 → Int32 → Int32 → Ob → Prop} {Q : Ob → Prop} {u : Ob} (hG : G ≤ 20) (hA : gA u 1 = A) (aG : A 5604 = iI G) {x1 x2 x3 x4 x6 : Int32} (hk : k40 x1 x2 x3 x4 (iI ((j + 1 : Nat) : Int)) u) (f : Nat) : f_Md_lead_85 k40 Q (f + 1) x1 x2 x3 x4 (iI j) x6 (iI G) u := by
  have en : iI (j : Int) + (1 : Int32) = iI ((j + 1 : Nat) : Int) := ix_add j 1
  unfold f_Md_lead_85
  rw [hA, aG, en]
  exact b_le (fun _ => hk) (fun q => by omega)
/-- all gestures for one item that may be on -/
theorem ld_ges (hnp : np ≤ 5) (hG : G ≤ 20) (hw : w < 8) (hj : j < 8) (hs : s < 20) (hp : p < 5) (ht : t ≤ 200) (g5 : gI la 5 = iI G) (aG : A 5604 = iI G) (hge : ∀ i, i < G → RGe np la A i) (hit : gA la 13 (8 * w + j) = A (5741 + 17 * w + 2 * j)) (hd : 0 ≤ d) (hdf : d = t - fr) (hfr : 0 ≤ fr ∧ fr ≤ 400) :
    ∀ (f i N : Nat) (o u : Ob), f + i = G → gA u 1 = A → LR N o u → N + f < 4000 → ∃ o' u', LR (N + f) o' u' ∧ mdL u u' ∧ (∀ Q, Q o' → f_Le_findInItem_51 r1 o1 la Q (f + 1) (iI p) (iI s) (iI j) (iI ((8 * w + j : Nat) : Int)) (iI d) (iI i) o) ∧ (∀ (k40 : Int32 → Int32 → Int32 → Int32 → Int32 → Ob → Prop) (Q : Ob → Prop), k40 (iI p) (iI t) (iI s) (iI ((5740 + 17 * w : Nat) : Int)) (iI ((j + 1 : Nat) : Int)) u' → f_Md_lead_85 k40 Q (f + 1) (iI p) (iI t) (iI s) (iI ((5740 + 17 * w : Nat) : Int)) (iI j) (iI fr) (iI i) u) := by
  intro f
  induction f with
  | zero =>
    intro i N o u hi hA hL hN
    have : i = G := by omega
    subst this
    refine ⟨o, u, hL, mdL.rf u, fun Q hQ => ?_, fun k40 Q hk => md_85x hG hA aG hk 0⟩
    unfold f_Le_findInItem_51
    rw [g5]
    exact b_le (fun _ => hQ) (fun q => by omega)
  | succ f ih =>
    intro i N o u hi hA hL hN
    obtain ⟨⟨r6, -⟩, ⟨r7, -⟩, ⟨r8, ⟨W8, w81, w82, w83⟩⟩, ⟨r9, ⟨V9, v91, v92, v93⟩⟩, ⟨r10, ⟨H, h1, h2, h3⟩⟩, r11, ⟨S, s1, s2⟩⟩ := hge i (by omega)
    have vi : vp_in (iI (i : Int)) 20 := v_nat (by omega) (by decide)
    by_cases hwant : A (5610 + 6 * i) = A (5741 + 17 * w + 2 * j) ∧ A (5611 + 6 * i) = iI p ∧ fr ≤ t ∧ (t : Int) < fr + H
    · obtain ⟨o1', u1, L1, m1, c1, d1⟩ := ld_want (N := N) (o := o) (u := u) (la := la) (S := S) (Wd := W8) (Sp := V9) (i := i) (s := s) (j := j) hL (by omega) (by omega) (by omega) (by omega) (by omega) hs hj (r11.trans s2) (r8.trans w83) (r9.trans v93) (by rw [hA]; exact s2) (by rw [hA]; exact w83) (by rw [hA]; exact v93)
      obtain ⟨o2, u2, L2, m2, c2, d2⟩ := ih (i + 1) (N + 1) o1' u1 (by omega) (by rw [m1.2.2.1]; exact hA) L1 (by omega)
      refine ⟨o2, u2, ?_, m1.tr m2, fun Q hQ => ?_, fun k40 Q hk => ?_⟩
      · rw [show N + (f + 1) = N + 1 + f by omega]; exact L2
      · unfold f_Le_findInItem_51
        rw [g5, cl_nat (by omega), cl_nat (by omega)]
        refine b_le (fun q => by omega) (fun _ => ⟨vi, v_nat (by omega) (by decide), k_t ?_ ⟨vi, k_t ?_ ⟨vi, ?_⟩⟩⟩)
        · rw [r6, hit]; exact hwant.1
        · rw [r7]; exact hwant.2.1
        · rw [r10, h3]
          refine b_le (fun q => by omega) (fun _ => ?_)
          exact c1 r1 o1 _ Q _ _ _ (c2 Q hQ)
      · exact md_85 (hd := H) hw hj (by omega) hG (by omega) hA aG h3 (by omega) hfr ht (fun q => absurd hwant q) (fun _ => d1 _ (d2 k40 Q hk))
    · obtain ⟨o2, u2, L2, m2, c2, d2⟩ := ih (i + 1) N o u (by omega) hA hL (by omega)
      refine ⟨o2, u2, L2.mono (by omega), m2, fun Q hQ => ?_, fun k40 Q hk => ?_⟩
      · unfold f_Le_findInItem_51
        rw [g5, cl_nat (by omega), cl_nat (by omega)]
        refine b_le (fun q => by omega) (fun _ => ⟨vi, v_nat (by omega) (by decide), k_c (fun e1 => ⟨vi, k_c (fun e2 => ⟨vi, ?_⟩) (fun _ => le_skip (c2 Q hQ))⟩) (fun _ => le_skip (c2 Q hQ))⟩)
        rw [r10, h3]
        refine b_le (fun _ => le_skip (c2 Q hQ)) (fun q => ?_)
        rw [r6, hit] at e1
        rw [r7] at e2
        exact absurd ⟨e1, e2, by omega, by omega⟩ hwant
      · exact md_85 (hd := H) hw hj (by omega) hG (by omega) hA aG h3 (by omega) hfr ht (fun _ => d2 k40 Q hk) (fun q => absurd q hwant)
/-- an item whose time has not come: the model walks past -/
theorem ld_past (hG : G ≤ 20) (hw : w < 8) (hj : j < 8) (ht : t ≤ 200) (aG : A 5604 = iI G) (hge : ∀ i, i < G → RGe np la A i) (hdf : (t : Int) < fr) (hfr : 0 ≤ fr ∧ fr ≤ 400) :
    ∀ (f i : Nat) (u : Ob), f + i = G → gA u 1 = A → ∀ (k40 : Int32 → Int32 → Int32 → Int32 → Int32 → Ob → Prop) (Q : Ob → Prop), k40 (iI p) (iI t) (iI s) (iI ((5740 + 17 * w : Nat) : Int)) (iI ((j + 1 : Nat) : Int)) u → f_Md_lead_85 k40 Q (f + 1) (iI p) (iI t) (iI s) (iI ((5740 + 17 * w : Nat) : Int)) (iI j) (iI fr) (iI i) u := by
  intro f
  induction f with
  | zero =>
    intro i u hi hA k40 Q hk
    have : i = G := by omega
    subst this
    exact md_85x hG hA aG hk 0
  | succ f ih =>
    intro i u hi hA k40 Q hk
    obtain ⟨-, -, -, -, ⟨-, ⟨H, h1, h2, h3⟩⟩, -⟩ := hge i (by omega)
    exact md_85 (hd := H) hw hj (by omega) hG (by omega) hA aG h3 (by omega) hfr ht (fun _ => ih (i + 1) u (by omega) hA k40 Q hk) (fun q => by omega)
/-- all items of a word that was said -/
theorem ld_items {n tk : Nat} (hnp : np ≤ 5) (hG : G ≤ 20) (hw : w < 8) (hs : s < 20) (hp : p < 5) (ht : t ≤ 200) (htk : tk ≤ t) (g5 : gI la 5 = iI G) (aG : A 5604 = iI G) (hge : ∀ i, i < G → RGe np la A i)
    (hn : n ≤ 8) (n12 : gA la 12 w = iI n) (na : A (5740 + 17 * w) = iI n) (hit : ∀ j : Nat, j < n → (gA la 13 (8 * w + j) = A (5741 + 17 * w + 2 * j) ∧ okN 7 (A (5741 + 17 * w + 2 * j))) ∧ gA la 14 (8 * w + j) = A (5742 + 17 * w + 2 * j) ∧ okN 99 (A (5742 + 17 * w + 2 * j)))
    (c1 : gI o1 1 = iI t) (c3 : gA o1 3 s = iI w) (c4 : gA o1 4 s = iI tk) (a41 : A (41 + 2 * s) = iI tk) :
    ∀ (f j N : Nat) (o u : Ob), f + j = n → gA u 1 = A → LR N o u → N + 20 * f < 4000 → ∃ o' u', LR (N + 20 * f) o' u' ∧ mdL u u' ∧ (∀ (k37 : Int32 → Int32 → Ob → Prop) (Q : Ob → Prop), k37 (iI p) (iI ((s + 1 : Nat) : Int)) o' → f_Le_find_56 r1 o1 la k37 Q (f + 1) (iI p) (iI s) (iI w) (iI j) o) ∧ (∀ (k7 : Int32 → Int32 → Int32 → Ob → Prop) (Q : Ob → Prop), k7 (iI p) (iI t) (iI ((s + 1 : Nat) : Int)) u' → f_Md_lead_40 k7 Q (f + 1) (iI p) (iI t) (iI s) (iI ((5740 + 17 * w : Nat) : Int)) (iI j) u) := by
  have es : iI (s : Int) + (1 : Int32) = iI ((s + 1 : Nat) : Int) := ix_add s 1
  intro f
  induction f with
  | zero =>
    intro j N o u hj hA hL hN
    have : j = n := by omega
    subst this
    refine ⟨o, u, hL, mdL.rf u, fun k37 Q hk => ?_, fun k7 Q hk => ?_⟩
    · unfold f_Le_find_56
      rw [cl_nat (by omega), n12, es]
      exact ⟨v_nat hw (by decide), b_le (fun _ => hk) (fun q => by omega)⟩
    · unfold f_Md_lead_40
      rw [cl_nat (by omega), hA, na, es]
      exact ⟨v_nat (by omega) (by decide), b_le (fun _ => hk) (fun q => by omega)⟩
  | succ f ih =>
    intro j N o u hj hA hL hN
    obtain ⟨⟨i13, -⟩, i14, ⟨at_, at1, at2⟩⟩ := hit j (by omega)
    have ej : iI (j : Int) + (1 : Int32) = iI ((j + 1 : Nat) : Int) := ix_add j 1
    have e8 : iI (w : Int) * (8 : Int32) + iI (j : Int) = iI ((8 * w + j : Nat) : Int) := by
      rw [show (8 : Int32) = iI 8 from rfl, iI_mul, iI_add]; congr 1; omega
    have esn : iI (t : Int) - iI (tk : Int) - iI (at_ : Int) = iI ((t : Int) - (tk + at_)) := by
      rw [iI_sub, iI_sub]; congr 1; omega
    have e41 : (40 : Int32) + (2 : Int32) * iI (s : Int) + (1 : Int32) = iI ((41 + 2 * s : Nat) : Int) := by
      rw [show (40 : Int32) + (2 : Int32) * iI (s : Int) = iI ((40 + 2 * s : Nat) : Int) from ix_lin 40 2 s, show 41 + 2 * s = (40 + 2 * s) + 1 by omega]; exact ix_add _ 1
    have e42 : iI ((5740 + 17 * w : Nat) : Int) + (2 : Int32) + (2 : Int32) * iI (j : Int) = iI ((5742 + 17 * w + 2 * j : Nat) : Int) := by
      rw [show iI ((5740 + 17 * w : Nat) : Int) + (2 : Int32) = iI ((5742 + 17 * w : Nat) : Int) from (by rw [show 5742 + 17 * w = (5740 + 17 * w) + 2 by omega]; exact ix_add _ 2)]
      exact ix_lin (5742 + 17 * w) 2 j
    have efr : iI (tk : Int) + iI (at_ : Int) = iI ((tk : Int) + at_) := iI_add _ _
    -- what the model does ahead of the gestures
    have md40 : ∀ (k7 : Int32 → Int32 → Int32 → Ob → Prop) (Q : Ob → Prop), f_Md_lead_85 (f_Md_lead_40 k7 Q (f + 1)) Q (G + 1) (iI p) (iI t) (iI s) (iI ((5740 + 17 * w : Nat) : Int)) (iI j) (iI ((tk : Int) + at_)) (iI ((0 : Nat) : Int)) u → f_Md_lead_40 k7 Q (f + 1 + 1) (iI p) (iI t) (iI s) (iI ((5740 + 17 * w : Nat) : Int)) (iI j) u := by
      intro k7 Q h
      unfold f_Md_lead_40
      rw [cl_nat (by omega), hA, na, e41, e42]
      refine ⟨v_nat (by omega) (by decide), b_le (fun q => by omega) (fun _ => k_n ⟨v_nat (by omega) (by decide), v_nat (by omega) (by decide), ?_⟩)⟩
      rw [cl_nat (by omega), cl_nat (by omega), a41, at2]
      refine k_n ?_
      rw [efr]
      exact ⟨G + 1, h⟩
    have cl56 : ∀ (k37 : Int32 → Int32 → Ob → Prop) (Q : Ob → Prop) (o' : Ob), (∀ Q' : Ob → Prop, Q' o' → f_Le_findInItem (iI p) (iI s) (iI j) o r1 o1 la Q') → f_Le_find_56 r1 o1 la k37 Q (f + 1) (iI p) (iI s) (iI w) (iI ((j + 1 : Nat) : Int)) o' → f_Le_find_56 r1 o1 la k37 Q (f + 1 + 1) (iI p) (iI s) (iI w) (iI j) o := by
      intro k37 Q o' h1 h2
      unfold f_Le_find_56
      rw [cl_nat (by omega), n12, ej]
      exact ⟨v_nat hw (by decide), b_le (fun q => by omega) (fun _ => h1 _ h2)⟩
    by_cases hpast : (t : Int) < tk + at_
    · obtain ⟨o2, u2, L2, m2, c2, d2⟩ := ih (j + 1) N o u (by omega) hA hL (by omega)
      refine ⟨o2, u2, L2.mono (by omega), m2, fun k37 Q hk => cl56 k37 Q o (fun Q' hQ' => ?_) (c2 k37 Q hk), fun k7 Q hk => md40 k7 Q ?_⟩
      · unfold f_Le_findInItem
        rw [cl_nat (by omega), c3, c4, c1, e8]
        refine ⟨v_nat hs (by decide), k_n ⟨v_nat hs (by decide), v_nat (by omega) (by decide), ?_⟩⟩
        rw [cl_nat (by omega), i14, at2, esn]
        exact k_n (b_le (a := 0) (fun q => by omega) (fun _ => hQ'))
      · exact ld_past hG hw (by omega) ht aG hge (by omega) (by omega) G 0 u rfl hA _ Q (d2 k7 Q hk)
    · obtain ⟨o1', u1, L1, m1, g1, g2⟩ := ld_ges (r1 := r1) (o1 := o1) (d := (t : Int) - (tk + at_)) (fr := (tk : Int) + at_) hnp hG hw (show j < 8 by omega) hs hp ht g5 aG hge i13 (by omega) rfl (by omega) G 0 N o u rfl hA hL (by omega)
      obtain ⟨o2, u2, L2, m2, c2, d2⟩ := ih (j + 1) (N + 20) o1' u1 (by omega) (by rw [m1.2.2.1]; exact hA) (L1.mono (by omega)) (by omega)
      refine ⟨o2, u2, ?_, m1.tr m2, fun k37 Q hk => cl56 k37 Q o1' (fun Q' hQ' => ?_) (c2 k37 Q hk), fun k7 Q hk => md40 k7 Q ?_⟩
      · rw [show N + 20 * (f + 1) = N + 20 + 20 * f by omega]; exact L2
      · unfold f_Le_findInItem
        rw [cl_nat (by omega), c3, c4, c1, e8]
        refine ⟨v_nat hs (by decide), k_n ⟨v_nat hs (by decide), v_nat (by omega) (by decide), ?_⟩⟩
        rw [cl_nat (by omega), i14, at2, esn]
        exact k_n (b_le (a := 0) (fun _ => ⟨G + 1, g1 Q' hQ'⟩) (fun q => by omega))
      · exact g2 _ Q (d2 k7 Q hk)
/-- all that was said -/
theorem ld_said {S : Nat} (hnp : np ≤ 5) (hp : p < 5) (ht : t ≤ 200) (hL0 : RLa np la A) (c1 : gI o1 1 = iI t) (hS : S ≤ 20) (s2 : gI o1 2 = iI S) (a3 : A 3 = iI S) (hsa : ∀ i : Nat, i < S → ∃ w k : Nat, w < 8 ∧ k ≤ t ∧ gA o1 3 i = iI w ∧ gA o1 4 i = iI k ∧ A (40 + 2 * i) = iI w ∧ A (41 + 2 * i) = iI k) :
    ∀ (f s N : Nat) (o u : Ob), f + s = S → gA u 1 = A → LR N o u → N + 160 * f < 4000 → ∃ o' u', LR 4000 o' u' ∧ mdL u u' ∧ (∀ Q : Ob → Prop, f_Le_find_37 r1 o1 la Q 1 (iI p) (iI S) o' → f_Le_find_37 r1 o1 la Q (f + 1) (iI p) (iI s) o) ∧ (∀ Q : Ob → Prop, f_Md_lead_7 Q 1 (iI p) (iI t) (iI S) u' → f_Md_lead_7 Q (f + 1) (iI p) (iI t) (iI s) u) := by
  obtain ⟨-, -, -, -, -, ⟨G, hG, g5, aG, hge⟩, hwd⟩ := hL0
  intro f
  induction f with
  | zero =>
    intro s N o u hs hA hL hN
    have : s = S := by omega
    subst this
    exact ⟨o, u, hL.mono (by omega), mdL.rf u, fun _ h => h, fun _ h => h⟩
  | succ f ih =>
    intro s N o u hs hA hL hN
    obtain ⟨w, tk, w1, k1, g3, g4, a40, a41⟩ := hsa s (by omega)
    obtain ⟨n, hn, n12, na, hit⟩ := hwd w w1
    obtain ⟨o1', u1, L1, m1, x1, x2⟩ := ld_items (r1 := r1) (o1 := o1) (p := p) (s := s) hnp hG w1 (by omega) hp ht k1 g5 aG hge hn n12 na hit c1 g3 g4 a41 n 0 N o u rfl hA hL (by omega)
    obtain ⟨o2, u2, L2, m2, y1, y2⟩ := ih (s + 1) (N + 160) o1' u1 (by omega) (by rw [m1.2.2.1]; exact hA) (L1.mono (by omega)) (by omega)
    have e40 : (40 : Int32) + (2 : Int32) * iI (s : Int) = iI ((40 + 2 * s : Nat) : Int) := ix_lin 40 2 s
    have e17 : (5740 : Int32) + (17 : Int32) * iI (w : Int) = iI ((5740 + 17 * w : Nat) : Int) := ix_lin 5740 17 w
    refine ⟨o2, u2, L2, m1.tr m2, fun Q hQ => ?_, fun Q hQ => ?_⟩
    · unfold f_Le_find_37
      rw [s2, cl_nat (j := s) (by omega), g3]
      refine b_le (fun q => by omega) (fun _ => ⟨v_nat (by omega) (by decide), n + 1, ?_⟩)
      exact x1 _ Q (y1 Q hQ)
    · unfold f_Md_lead_7
      rw [hA, a3, e40, cl_nat (by omega), a40]
      refine b_le (fun q => by omega) (fun _ => ⟨v_nat (by omega) (by decide), k_n ?_⟩)
      rw [e17]
      exact ⟨n + 1, x2 _ Q (y2 Q hQ)⟩
end LD
