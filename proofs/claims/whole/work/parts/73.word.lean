-- a word's clause
section WC
variable {np n : Nat} {b : Nat → Nat} {ta : Ob} {r : Nat → Nat}
theorem L5.word {w : Nat} {la la' : Ob} {f f' : Nat → Int32} (h : L5 np la f) (hI : ∀ k, gI la' k = gI la k) (hA : ∀ k, k ≤ 11 → gA la' k = gA la k) (h12 : ∀ v, v ≠ w → gA la' 12 v = gA la 12 v) (hit : ∀ x, x < 8 * w ∨ 8 * w + 8 ≤ x → gA la' 13 x = gA la 13 x ∧ gA la' 14 x = gA la 14 x) (hf : ∀ i, i < 140 + 17 * w ∨ 156 + 17 * w < i → f' i = f i) (hW : W5 la' f' w) : L5 np la' f' := by
  obtain ⟨h1, h2, h3, h4, h5, ⟨g, g1, g2, g3, g4⟩, h7⟩ := h
  refine ⟨fun i hi => ?_, ?_, ?_, ?_, ?_, ⟨g, g1, (hI 5).trans g2, ?_, fun i hi => (g4 i hi).cg (fun k _ k2 => by rw [hA k k2]) (fun j _ _ => hf j (by omega))⟩, fun v hv => ?_⟩
  · rw [hf _ (by omega), hA 0 (by omega)]; exact h1 i hi
  · rw [hf _ (by omega), hI]; exact h2
  · rw [hf _ (by omega), hI]; exact h3
  · rw [hf _ (by omega), hI]; exact h4
  · rw [hf _ (by omega), hI]; exact h5
  · rw [hf _ (by omega)]; exact g3
  · by_cases e : v = w
    · subst e; exact hW
    · exact (h7 v hv).cg (h12 v e) (fun j hj => hit _ (by omega)) (fun j _ _ => hf j (by omega))
theorem upd_eta (f : Nat → Int32) (k : Nat) (v : Int32) (h : f k = v) : upd f k v = f := by
  funext i
  by_cases e : i = k
  · subst e; rw [upd_same, h]
  · rw [upd_ne _ _ _ _ e]
/-- an item more -/
theorem L5.item {w j l a : Nat} {la : Ob} {f : Nat → Int32} (hw : w < 8) (hj : j < 8) (hl : l ≤ 7) (ha : a ≤ 99) (h : L5 np la (upd f (140 + 17 * w) (iI j))) :
    L5 np (sA (sA (sA la 12 (upd (gA la 12) w (iI ((j + 1 : Nat) : Int)))) 13 (upd (gA la 13) (8 * w + j) (iI l))) 14 (upd (gA la 14) (8 * w + j) (iI a))) (upd (upd (upd f (141 + 17 * w + 2 * j) (iI l)) (142 + 17 * w + 2 * j) (iI a)) (140 + 17 * w) (iI ((j + 1 : Nat) : Int))) := by
  obtain ⟨m, m1, m2, m3, m4⟩ := h.2.2.2.2.2.2 w hw
  rw [upd_same] at m3
  have em : m = j := by
    have := (iI_eq (by omega) (by omega)).mp m3
    omega
  subst em
  refine h.word (w := w) (fun _ => rfl) (fun k hk => ?_) (fun v hv => ?_) (fun x hx => ⟨?_, ?_⟩) (fun i hi => ?_) ⟨m + 1, by omega, upd_same _ _ _, upd_same _ _ _, fun i hi => ?_⟩
  · rw [gA_sA_ne _ _ _ _ (by omega), gA_sA_ne _ _ _ _ (by omega), gA_sA_ne _ _ _ _ (by omega)]
  · show upd (gA la 12) w _ v = _
    exact upd_ne _ _ _ _ hv
  · show upd (gA la 13) _ _ x = _
    exact upd_ne _ _ _ _ (by omega)
  · show upd (gA la 14) _ _ x = _
    exact upd_ne _ _ _ _ (by omega)
  · rw [upd_ne _ _ _ _ (by omega), upd_ne _ _ _ _ (by omega), upd_ne _ _ _ _ (by omega), upd_ne _ _ _ _ (by omega)]
  · by_cases e : i = m
    · subst e
      have f1 : (upd (upd (upd f (141 + 17 * w + 2 * i) (iI l)) (142 + 17 * w + 2 * i) (iI a)) (140 + 17 * w) (iI ((i + 1 : Nat) : Int))) (141 + 17 * w + 2 * i) = iI l := by
        rw [upd_ne _ _ _ _ (by omega), upd_ne _ _ _ _ (by omega), upd_same]
      have f2 : (upd (upd (upd f (141 + 17 * w + 2 * i) (iI l)) (142 + 17 * w + 2 * i) (iI a)) (140 + 17 * w) (iI ((i + 1 : Nat) : Int))) (142 + 17 * w + 2 * i) = iI a := by
        rw [upd_ne _ _ _ _ (by omega), upd_same]
      unfold I5
      rw [f1, f2]
      exact ⟨⟨upd_same _ _ _, l, hl, rfl⟩, upd_same _ _ _, a, ha, rfl⟩
    · refine (m4 i (by omega)).cg ⟨?_, ?_⟩ ⟨?_, ?_⟩
      · show upd (gA la 13) _ _ _ = _
        exact upd_ne _ _ _ _ (by omega)
      · show upd (gA la 14) _ _ _ = _
        exact upd_ne _ _ _ _ (by omega)
      · rw [upd_ne _ _ _ _ (by omega), upd_ne _ _ _ _ (by omega), upd_ne _ _ _ _ (by omega), upd_ne _ _ _ _ (by omega)]
      · rw [upd_ne _ _ _ _ (by omega), upd_ne _ _ _ _ (by omega), upd_ne _ _ _ _ (by omega), upd_ne _ _ _ _ (by omega)]
theorem hg_sim {g l : Nat} {la u : Ob} (hg : g ≤ 20) (l5 : gI la 5 = iI g) (u4 : gA u 5 4 = iI g) (he : ∀ i, i < g → gA la 6 i = gA u 5 (10 + 6 * i)) : ∃ x : Int32, (x = 0 ∨ x = 1) ∧ (∀ K : Int32 → Prop, K x → f_La_hasGesture (iI l) la K) ∧ (∀ K : Int32 → Prop, K x → f_Md_hasGesture (iI l) u K) := by
  have lp : ∀ (d i : Nat), d + i = g → ∃ x : Int32, (x = 0 ∨ x = 1) ∧ (∀ K : Int32 → Prop, K x → f_La_hasGesture_2 la K (d + 1) (iI l) (iI i)) ∧ (∀ K : Int32 → Prop, K x → f_Md_hasGesture_2 u K (d + 1) (iI l) (iI i)) := by
    intro d
    induction d with
    | zero =>
      intro i hi
      have : i = g := by omega
      subst this
      refine ⟨0, Or.inl rfl, fun K hK => ?_, fun K hK => ?_⟩
      · unfold f_La_hasGesture_2
        rw [l5]
        exact k_t (Int32.le_refl _) hK
      · unfold f_Md_hasGesture_2
        rw [u4]
        exact k_t (Int32.le_refl _) hK
    | succ d ih =>
      intro i hi
      have ei : iI (i : Int) + (1 : Int32) = iI ((i + 1 : Nat) : Int) := ix_add i 1
      have ex : (10 : Int32) + (6 : Int32) * iI (i : Int) = iI ((10 + 6 * i : Nat) : Int) := by
        rw [show (6 : Int32) = iI 6 from rfl, show (10 : Int32) = iI 10 from rfl, iI_mul, iI_add]; congr 1
      have e := he i (by omega)
      by_cases q : gA u 5 (10 + 6 * i) = iI l
      · refine ⟨1, Or.inr rfl, fun K hK => ?_, fun K hK => ?_⟩
        · unfold f_La_hasGesture_2
          rw [l5, cl_nat (by omega), e]
          exact b_le (fun q => by omega) (fun _ => ⟨v_nat (by omega) (by decide), k_t q hK⟩)
        · unfold f_Md_hasGesture_2
          rw [u4, ex, cl_nat (by omega)]
          exact b_le (fun q => by omega) (fun _ => ⟨v_nat (by omega) (by decide), k_n (k_t q hK)⟩)
      · obtain ⟨x, x1, x2, x3⟩ := ih (i + 1) (by omega)
        refine ⟨x, x1, fun K hK => ?_, fun K hK => ?_⟩
        · unfold f_La_hasGesture_2
          rw [l5, cl_nat (by omega), e, ei]
          exact b_le (fun q => by omega) (fun _ => ⟨v_nat (by omega) (by decide), k_f q (x2 K hK)⟩)
        · unfold f_Md_hasGesture_2
          rw [u4, ex, cl_nat (by omega), ei]
          exact b_le (fun q => by omega) (fun _ => ⟨v_nat (by omega) (by decide), k_n (k_f q (x3 K hK))⟩)
  obtain ⟨x, x1, x2, x3⟩ := lp g 0 rfl
  exact ⟨x, x1, fun K hK => ⟨_, x2 K hK⟩, fun K hK => ⟨_, x3 K hK⟩⟩
theorem fl_40 {c la : Ob} {x1 x2 x3 : Int32} {w : Nat} {K : Ob → Ob → Prop} (h9 : ¬ gI c 9 = 0) (hK : K c la) : f_Re_readWord_40 r ta K (w + 1) x1 x2 x3 c la := by
  unfold f_Re_readWord_40
  exact k_c (fun _ => fl_semi h9 hK) (fun _ => k_c (fun _ => fl_semi h9 hK) (fun _ => k_f h9 (fl_semi h9 hK)))
theorem fl_26 {w j : Nat} {x3 z : Int32} {c u la : Ob} (hTB : TB b n ta) (hw : w < 8) (hj : j ≤ 8) (h : RR np b n c u z) (hz : z ≠ 0) : ∃ la', ∀ K : Ob → Ob → Prop, K c la' → f_Re_readItem_26 r ta K (iI w) (iI j) x3 c la := by
  have h9 := h.n9 hz
  by_cases q : j = 8
  · refine ⟨la, fun K hK => ?_⟩
    unfold f_Re_readItem_26
    exact b_lt (b := 8) (fun q => by omega) (fun _ => fl_fail h9 hK)
  · have ex : iI (w : Int) * (8 : Int32) + iI (j : Int) = iI ((8 * w + j : Nat) : Int) := by
      rw [show (8 : Int32) = iI 8 from rfl, iI_mul, iI_add]; congr 1; omega
    have v1 : vp_in (iI ((8 * w + j : Nat) : Int)) 64 := v_nat (by omega) (by decide)
    have v2 : vp_in (iI (w : Int)) 8 := v_nat hw (by decide)
    refine ⟨sA (sA (sA la 12 (upd (gA la 12) (iI (w : Int)).toNatClampNeg (iI (j : Int) + (1 : Int32)))) 13 (upd (gA la 13) (iI ((8 * w + j : Nat) : Int)).toNatClampNeg x3)) 14 (upd (gA la 14) (iI ((8 * w + j : Nat) : Int)).toNatClampNeg (gI c 6)), fun K hK => ?_⟩
    unfold f_Re_readItem_26
    rw [ex]
    exact b_lt (b := 8) (fun _ => fl_tok h9 (fl_word (by omega) hTB h hz ⟨v1, fl_num h9 ⟨v1, v2, hK⟩⟩)) (fun q => by omega)
theorem word_loop {w : Nat} (hTB : TB b n ta) (hw : w < 8) : ∀ (d j : Nat) (c la u : Ob), d + j = 8 → RR np b n c u 0 → L5 np la (upd (gA u 5) (140 + 17 * w) (iI j)) → ∃ c' la' z' u', RR np b n c' u' z' ∧ mH u u' ∧ pos c ≤ pos c' ∧ (z' = 0 → gI c' 5 ≠ 0 → pos c < pos c') ∧ (z' = 0 → L5 np (sI la' 4 (gI la' 4 + (1 : Int32))) (gA u' 5)) ∧ (∃ wf, ∀ K : Ob → Ob → Prop, K c' la' → f_Re_readWord_40 r ta K wf (iI w) (1 : Int32) (iI j) c la) ∧ (∃ wf, ∀ K : Int32 → Ob → Prop, K z' u' → f_Md_wordClause_41 (SM K) wf (iI ((140 + 17 * w : Nat) : Int)) (iI j) (1 : Int32) u) := by
  have qat : cdN (wdN 10) (slen 10) = 97 * 256 + 116 := by decide
  intro d
  induction d with
  | zero =>
    intro j c la u hj h hL
    have : j = 8 := by omega
    subst this
    obtain ⟨v1, c1, z1, -, r1, p1, y1, y1', -, f1⟩ := st_letter (r := r) hTB h
    obtain ⟨g, g1, g2, g3, g4⟩ := hL.2.2.2.2.2.1
    rw [upd_ne _ _ _ _ (by omega)] at g3
    have he : ∀ i, i < g → gA la 6 i = gA u 5 (10 + 6 * i) := fun i hi => by
      have := (g4 i hi).1.1
      rw [upd_ne _ _ _ _ (by omega)] at this
      exact this
    -- a flawed item
    have fin : ∀ (cc : Ob) (zz : Int32), zz ≠ 0 → RR np b n cc u zz → pos c ≤ pos cc → (∀ x3 : Int32, ∀ K : Ob → Ob → Prop, (∀ la', K cc la' → K cc la') → True) → True := fun _ _ _ _ _ _ => trivial
    by_cases hz : z1 = 0
    · subst hz
      obtain ⟨-, u12, l, l8, ev, u14⟩ := y1 rfl
      obtain ⟨x, x01, xc, xm⟩ := hg_sim (l := l) g1 g2 g3 he
      have hv : ¬ v1 = (-1 : Int32) := by
        rw [ev]; intro q
        have := (iI_eq (a := (l : Int)) (b := -1) (by omega) (by omega)).mp (by rw [q]; decide)
        omega
      rcases x01 with hx | hx
      · obtain ⟨c2, r2, p2, f2⟩ := st_fail (r := r) (3 : Int32) (by decide) r1
        rw [zf_0] at r2
        have n9 := r2.n9 (by decide)
        obtain ⟨la', h26⟩ := fl_26 (r := r) (la := la) (w := w) (j := 8) (x3 := v1) hTB hw (Nat.le_refl _) r2 (by decide)
        refine ⟨c2, la', 3, u, r2, mH.rf u, by omega, fun q => absurd q (by decide), fun q => absurd q (by decide), ⟨2, fun K hK => ?_⟩, ⟨1, fun K hK => ?_⟩⟩
        · unfold f_Re_readWord_40
          refine b_lt (a := 8) (fun q => by omega) (fun _ => k_f (by decide) (k_t h.g9 ?_))
          unfold f_Re_readItem
          refine f1 _ (k_f hv ?_)
          rw [ev]
          refine xc _ (k_t hx (f2 _ ?_))
          rw [← ev]
          exact h26 _ (fl_comma n9 (fun _ => fl_40 n9 hK))
        · unfold f_Md_wordClause_41
          rw [u14]
          exact k_f (by decide) (k_t u12 (xm _ (k_t hx (k_f (by decide) hK))))
      · obtain ⟨c2, r2, p2, f2⟩ := st_fail (r := r) (5 : Int32) (by decide) r1
        rw [zf_0] at r2
        have n9 := r2.n9 (by decide)
        refine ⟨c2, la, 5, u, r2, mH.rf u, by omega, fun q => absurd q (by decide), fun q => absurd q (by decide), ⟨2, fun K hK => ?_⟩, ⟨1, fun K hK => ?_⟩⟩
        · unfold f_Re_readWord_40
          refine b_lt (a := 8) (fun q => by omega) (fun _ => k_f (by decide) (k_t h.g9 ?_))
          unfold f_Re_readItem
          refine f1 _ (k_f hv ?_)
          rw [ev]
          refine xc _ (k_f (by rw [hx]; decide) ?_)
          unfold f_Re_readItem_26
          exact k_f (by decide) (f2 _ (fl_comma n9 (fun _ => fl_40 n9 hK)))
        · unfold f_Md_wordClause_41
          rw [u14]
          exact k_f (by decide) (k_t u12 (xm _ (k_f (by rw [hx]; decide) (k_t rfl (k_f (by decide) hK)))))
    · obtain ⟨ez, u12, ev⟩ := y1' rfl hz
      have n9 := r1.n9 hz
      obtain ⟨la', h26⟩ := fl_26 (r := r) (la := la) (w := w) (j := 8) (x3 := v1) hTB hw (Nat.le_refl _) r1 hz
      refine ⟨c1, la', z1, u, r1, mH.rf u, by omega, fun q => absurd q hz, fun q => absurd q hz, ⟨2, fun K hK => ?_⟩, ⟨1, fun K hK => ?_⟩⟩
      · unfold f_Re_readWord_40
        refine b_lt (a := 8) (fun q => by omega) (fun _ => k_f (by decide) (k_t h.g9 ?_))
        unfold f_Re_readItem
        exact f1 _ (k_t ev (h26 _ (fl_comma n9 (fun _ => fl_40 n9 hK))))
      · unfold f_Md_wordClause_41
        rw [ez] at hK
        exact k_f (by decide) (k_f u12 (k_f (by decide) hK))
  | succ d ih =>
    intro j c la u hj h hL
    obtain ⟨v1, c1, z1, -, r1, p1, y1, y1', -, f1⟩ := st_letter (r := r) hTB h
    obtain ⟨g, g1, g2, g3, g4⟩ := hL.2.2.2.2.2.1
    rw [upd_ne _ _ _ _ (by omega)] at g3
    have he : ∀ i, i < g → gA la 6 i = gA u 5 (10 + 6 * i) := fun i hi => by
      have := (g4 i hi).1.1
      rw [upd_ne _ _ _ _ (by omega)] at this
      exact this
    have ej : iI (j : Int) + (1 : Int32) = iI ((j + 1 : Nat) : Int) := ix_add j 1
    have ex : iI (w : Int) * (8 : Int32) + iI (j : Int) = iI ((8 * w + j : Nat) : Int) := by
      rw [show (8 : Int32) = iI 8 from rfl, iI_mul, iI_add]; congr 1; omega
    have v64 : vp_in (iI ((8 * w + j : Nat) : Int)) 64 := v_nat (by omega) (by decide)
    have v8 : vp_in (iI (w : Int)) 8 := v_nat hw (by decide)
    have nj8 : ¬ iI (j : Int) = (8 : Int32) := fun q => by have := (iI_eq (b := 8) (by omega) (by omega)).mp q; omega
    by_cases hz : z1 = 0
    · subst hz
      obtain ⟨-, u12, l, l8, ev, u14⟩ := y1 rfl
      obtain ⟨x, x01, xc, xm⟩ := hg_sim (l := l) g1 g2 g3 he
      have hv : ¬ v1 = (-1 : Int32) := by
        rw [ev]; intro q
        have := (iI_eq (a := (l : Int)) (b := -1) (by omega) (by omega)).mp (by rw [q]; decide)
        omega
      rcases x01 with hx | hx
      · obtain ⟨c2, r2, p2, f2⟩ := st_fail (r := r) (3 : Int32) (by decide) r1
        rw [zf_0] at r2
        have n9 := r2.n9 (by decide)
        obtain ⟨la', h26⟩ := fl_26 (r := r) (la := la) (w := w) (j := j) (x3 := v1) hTB hw (by omega) r2 (by decide)
        refine ⟨c2, la', 3, u, r2, mH.rf u, by omega, fun q => absurd q (by decide), fun q => absurd q (by decide), ⟨2, fun K hK => ?_⟩, ⟨1, fun K hK => ?_⟩⟩
        · unfold f_Re_readWord_40
          refine b_lt (a := 8) (fun q => by omega) (fun _ => k_f (by decide) (k_t h.g9 ?_))
          unfold f_Re_readItem
          refine f1 _ (k_f hv ?_)
          rw [ev]
          refine xc _ (k_t hx (f2 _ ?_))
          rw [← ev]
          exact h26 _ (fl_comma n9 (fun _ => fl_40 n9 hK))
        · unfold f_Md_wordClause_41
          rw [u14]
          exact k_f (by decide) (k_t u12 (xm _ (k_t hx (k_f (by decide) hK))))
      · -- a good letter
        obtain ⟨c2, u2, r2, m2, p2, -, f2, k2⟩ := st_tok (r := r) hTB (r1.sa (upd (gA u 5) (141 + 17 * w + 2 * j) (iI l)))
        obtain ⟨c3, z3, u3, r3, m3, p3, w3, f3, k3⟩ := st_word (r := r) (i := 10) (by omega) hTB r2
        obtain ⟨v4, c4, z4, u4, r4, m4, p4, w4, f4, k4⟩ := st_num (r := r) (lo := 0) (hi := 99) (ix := 142 + 17 * w + 2 * j) hTB (by omega) (by omega) (by omega) r3
        have mm : mH u u4 := m2.H5.tr (m3.H.tr m4.H5)
        rw [qat] at k3
        have x1 : iI ((140 + 17 * w : Nat) : Int) + (1 : Int32) + (2 : Int32) * iI (j : Int) = iI ((141 + 17 * w + 2 * j : Nat) : Int) := by
          rw [show (1 : Int32) = iI 1 from rfl, show (2 : Int32) = iI 2 from rfl, iI_mul, iI_add, iI_add]; congr 1; omega
        have x2 : iI ((140 + 17 * w : Nat) : Int) + (2 : Int32) + (2 : Int32) * iI (j : Int) = iI ((142 + 17 * w + 2 * j : Nat) : Int) := by
          rw [show (2 : Int32) = iI 2 from rfl, iI_mul, iI_add, iI_add]; congr 1; omega
        have cpre : ∀ (f : Nat) (K : Ob → Ob → Prop), f_Re_takeComma r c4 ta (fun z9 u10 => f_Re_readWord_40 r ta K f (iI w) z9 (iI ((j + 1 : Nat) : Int)) u10 (sA (sA (sA la 12 (upd (gA la 12) w (iI ((j + 1 : Nat) : Int)))) 13 (upd (gA la 13) (8 * w + j) v1)) 14 (upd (gA la 14) (8 * w + j) v4))) → f_Re_readWord_40 r ta K (f + 1) (iI w) (1 : Int32) (iI j) c la := by
          intro f K hK
          unfold f_Re_readWord_40
          rw [ej]
          refine b_lt (a := 8) (fun q => by omega) (fun _ => k_f (by decide) (k_t h.g9 ?_))
          unfold f_Re_readItem
          refine f1 _ (k_f hv ?_)
          have hx1 : ∀ K : Int32 → Prop, K x → f_La_hasGesture v1 la K := by rw [ev]; exact xc
          refine hx1 _ (k_f (by rw [hx]; decide) ?_)
          unfold f_Re_readItem_26
          rw [ex, ej, cl_nat (by omega), cl_nat (by omega)]
          exact b_lt (b := 8) (fun _ => f2 _ (f3 _ ⟨v64, f4 _ ⟨v64, v8, hK⟩⟩)) (fun q => by omega)
        have mpre : ∀ (f : Nat) (K : Int32 → Ob → Prop), f_Md_wordClause_130 (f_Md_wordClause_41 (SM K) f) (SM K) (iI ((140 + 17 * w : Nat) : Int)) (iI j) z4 u4 → f_Md_wordClause_41 (SM K) (f + 1) (iI ((140 + 17 * w : Nat) : Int)) (iI j) (1 : Int32) u := by
          intro f K hK
          have q4 := k4 (fun z18 u19 => f_Md_wordClause_130 (f_Md_wordClause_41 (SM K) f) (SM K) (iI ((140 + 17 * w : Nat) : Int)) (iI j) z18 u19) hK
          have q3 := k3 (fun z15 u16 => (z15 = 0 → f_Md_take (0 : Int32) (99 : Int32) (iI ((142 + 17 * w + 2 * j : Nat) : Int)) u16 (fun z18 u19 => f_Md_wordClause_130 (f_Md_wordClause_41 (SM K) f) (SM K) (iI ((140 + 17 * w : Nat) : Int)) (iI j) z18 u19)) ∧ (¬ z15 = 0 → f_Md_wordClause_130 (f_Md_wordClause_41 (SM K) f) (SM K) (iI ((140 + 17 * w : Nat) : Int)) (iI j) z15 u16)) q4
          unfold f_Md_wordClause_41
          rw [u14, x1, x2, cl_nat (j := 141 + 17 * w + 2 * j) (by omega)]
          exact k_f (by decide) (k_t u12 (xm _ (k_f (by rw [hx]; decide) (k_f nj8 ⟨v_nat (by omega) (by decide), (k2 _ (md_w2 (a := 97) (c := 116) (by decide) (by decide) (q3.1 rfl))).1 rfl⟩))))
        by_cases hz4 : z4 = 0
        · subst hz4
          obtain ⟨z30, a, -, a99, ev4, e4⟩ := w4 rfl
          have e4' : gA u4 5 = upd (upd (gA u 5) (141 + 17 * w + 2 * j) (iI l)) (142 + 17 * w + 2 * j) (iI a) := by
            rw [e4, m3.2.1, m2.2.1]; rfl
          have hL1 := hL.item (l := l) (a := a) hw (by omega) (by omega) a99
          rw [← e4', ← ev, ← ev4] at hL1
          have kd := r4.kd.1
          by_cases hk : gI c4 5 = 4
          · obtain ⟨c5, u5, r5, m5, p5, -, f5, k5⟩ := st_tok (r := r) hTB r4
            obtain ⟨c', la', z', u', s1, s2, s3, s4, s5, ⟨wf, s6⟩, ⟨wm, s7⟩⟩ := ih (j + 1) c5 _ u5 (by omega) r5 (by rw [m5.2.1]; exact hL1)
            refine ⟨c', la', z', u', s1, mm.tr (m5.H.tr s2), by omega, fun q q5 => by have := s4 q q5; omega, s5, ⟨wf + 1, fun K hK => cpre wf K ?_⟩, ⟨wm + 1, fun K hK => mpre wm K ?_⟩⟩
            · unfold f_Re_takeComma
              exact k_t hk (f5 _ (s6 K hK))
            · unfold f_Md_wordClause_130 f_Md_wordClause_156
              rw [ej]
              exact k_t rfl (k_t (kd.mp hk) (k_f (by decide) ((k5 _ (s7 K hK)).1 rfl)))
          · have ks := r4.kd.2.1
            -- no comma: the end of the clause
            have cend : ∀ (cd : Ob) (K : Ob → Ob → Prop), (∀ K' : Ob → Prop, K' cd → f_Re_takeSemicolon r c4 ta K') → K cd (sA (sA (sA la 12 (upd (gA la 12) w (iI ((j + 1 : Nat) : Int)))) 13 (upd (gA la 13) (8 * w + j) v1)) 14 (upd (gA la 14) (8 * w + j) v4)) → f_Re_readWord_40 r ta K (1 + 1) (iI w) (1 : Int32) (iI j) c la := by
              intro cd K hs hK
              refine cpre 1 K ?_
              unfold f_Re_takeComma
              refine k_f hk ?_
              show f_Re_readWord_40 r ta K 1 (iI w) (0 : Int32) (iI ((j + 1 : Nat) : Int)) c4 _
              unfold f_Re_readWord_40
              exact b_lt (a := 8) (fun q => by omega) (fun _ => k_t rfl (hs _ hK))
            have mend : ∀ K : Int32 → Ob → Prop, ((gI u4 12 = (59 : Int32) → SM K 0 (sA u4 5 (upd (gA u4 5) (140 + 17 * w) (iI ((j + 1 : Nat) : Int))))) ∧ (¬ gI u4 12 = (59 : Int32) → SM K 0 u4)) → f_Md_wordClause_41 (SM K) (1 + 1) (iI ((140 + 17 * w : Nat) : Int)) (iI j) (1 : Int32) u := by
              intro K hK
              refine mpre 1 K ?_
              unfold f_Md_wordClause_130 f_Md_wordClause_156
              rw [ej]
              refine k_t rfl (k_f (fun q => hk (kd.mpr q)) (k_t rfl ?_))
              unfold f_Md_wordClause_41
              rw [cl_nat (by omega)]
              exact k_t rfl ⟨fun q => ⟨v_nat (by omega) (by decide), hK.1 q⟩, hK.2⟩
            by_cases h59 : gI u4 12 = (59 : Int32)
            · obtain ⟨cd, zd, ud, rd, md, pd, sd, wd, fd, kd'⟩ := st_semi (r := r) hTB (r4.sa (upd (gA u4 5) (140 + 17 * w) (iI ((j + 1 : Nat) : Int))))
              refine ⟨cd, _, zd, ud, rd, mm.tr (mG.H5 (u := u4) (by rw [sA_sA] at md; exact md)), by omega, fun q q5 => by have := sd q q5; omega, fun q => ?_, ⟨1 + 1, fun K hK => cend cd K fd hK⟩, ⟨1 + 1, fun K hK => mend K (k_t h59 (kd' K hK))⟩⟩
              obtain ⟨-, -, ed⟩ := wd q
              rw [ed]
              exact hL1.cl
            · obtain ⟨cd, zd, ud, rd, md, pd, sd, wd, fd, kd'⟩ := st_semi (r := r) hTB r4
              refine ⟨cd, _, zd, ud, rd, mm.tr md.H5, by omega, fun q q5 => by have := sd q q5; omega, fun q => absurd (wd q).2.1 h59, ⟨1 + 1, fun K hK => cend cd K fd hK⟩, ⟨1 + 1, fun K hK => mend K (k_f h59 (kd' K hK))⟩⟩
        · have n9 := r4.n9 hz4
          refine ⟨c4, _, z4, u4, r4, mm, by omega, fun q => absurd q hz4, fun q => absurd q hz4, ⟨2, fun K hK => cpre 1 K (fl_comma n9 (fun _ => fl_40 n9 hK))⟩, ⟨2, fun K hK => mpre 1 K ?_⟩⟩
          unfold f_Md_wordClause_130
          exact k_f hz4 (k_f hz4 hK)
    · obtain ⟨ez, u12, ev⟩ := y1' rfl hz
      have n9 := r1.n9 hz
      obtain ⟨la', h26⟩ := fl_26 (r := r) (la := la) (w := w) (j := j) (x3 := v1) hTB hw (by omega) r1 hz
      refine ⟨c1, la', z1, u, r1, mH.rf u, by omega, fun q => absurd q hz, fun q => absurd q hz, ⟨2, fun K hK => ?_⟩, ⟨1, fun K hK => ?_⟩⟩
      · unfold f_Re_readWord_40
        refine b_lt (a := 8) (fun q => by omega) (fun _ => k_f (by decide) (k_t h.g9 ?_))
        unfold f_Re_readItem
        exact f1 _ (k_t ev (h26 _ (fl_comma n9 (fun _ => fl_40 n9 hK))))
      · unfold f_Md_wordClause_41
        rw [ez] at hK
        exact k_f (by decide) (k_f u12 (k_f (by decide) hK))
theorem cs_word {c u la : Ob} (hTB : TB b n ta) (h : RR np b n c u 0) (hL : L5 np la (gA u 5)) : ∃ c' la' z' u', RR np b n c' u' z' ∧ mH u u' ∧ pos c ≤ pos c' ∧ (z' = 0 → gI c' 5 ≠ 0 → pos c < pos c') ∧ (z' = 0 → L5 np (sI la' 4 (gI la' 4 + (1 : Int32))) (gA u' 5)) ∧ (∀ K : Ob → Ob → Prop, K c' la' → f_Re_readWord r c ta la K) ∧ (∀ K : Int32 → Ob → Prop, K z' u' → f_Md_nextToken u (fun u21 => f_Md_wordClause u21 (SM K))) := by
  obtain ⟨c1, u1, r1, m1, p1, -, f1, k1⟩ := st_tok (r := r) hTB h
  have e1 : gA u1 5 = gA u 5 := by rw [m1.2.1]
  obtain ⟨v2, c2, z2, hv2, r2, p2, w2, w2', -, f2⟩ := st_letter (r := r) hTB r1
  by_cases hz2 : z2 = 0
  · subst hz2
    obtain ⟨-, u12, l, l8, ev2, u14⟩ := w2 rfl
    have hv : ¬ v2 = (-1 : Int32) := by
      rw [ev2]; intro q
      have := (iI_eq (a := (l : Int)) (b := -1) (by omega) (by omega)).mp (by rw [q]; decide)
      omega
    obtain ⟨m, mm1, mm2, mm3, -⟩ := hL.2.2.2.2.2.2 l l8
    have v8 : vp_in (iI (l : Int)) 8 := v_nat l8 (by decide)
    have ex : (140 : Int32) + (17 : Int32) * iI (l : Int) = iI ((140 + 17 * l : Nat) : Int) := by
      rw [show (140 : Int32) = iI 140 from rfl, show (17 : Int32) = iI 17 from rfl, iI_mul, iI_add]; congr 1
    have v3 : vp_in (iI ((140 + 17 * l : Nat) : Int)) 300 := v_nat (by omega) (by decide)
    have mm3' : gA u1 5 (140 + 17 * l) = iI m := by rw [e1]; exact mm3
    by_cases hm : m = 0
    · subst hm
      obtain ⟨c3, u3, r3, m3, p3, -, f3, k3⟩ := st_tok (r := r) hTB r2
      have e3 : gA u3 5 = gA u 5 := by rw [m3.2.1, e1]
      obtain ⟨c', la', z', u', s1, s2, s3, s4, s5, ⟨wf, s6⟩, ⟨wm, s7⟩⟩ := word_loop (r := r) (w := l) hTB l8 8 0 c3 la u3 rfl r3 (by rw [e3, upd_eta _ _ _ mm3]; exact hL)
      refine ⟨c', la', z', u', s1, m1.H.tr (m3.H.tr s2), by omega, fun q q5 => by have := s4 q q5; omega, s5, fun K hK => ?_, fun K hK => (k1 _ ?_).1 rfl⟩
      · unfold f_Re_readWord
        refine f1 _ (f2 _ (k_f hv ?_))
        rw [ev2, cl_nat (by omega), mm2]
        exact ⟨v8, k_t (by decide) (f3 _ ⟨wf, s6 K hK⟩)⟩
      · unfold f_Md_wordClause
        rw [u14, ex, cl_nat (by omega)]
        exact k_t u12 ⟨v3, k_e mm3' (k_t (by decide) ((k3 _ ⟨wm, s7 K hK⟩).1 rfl))⟩
    · obtain ⟨c3, r3, p3, f3⟩ := st_fail (r := r) (4 : Int32) (by decide) r2
      rw [zf_0] at r3
      have n9 := r3.n9 (by decide)
      refine ⟨c3, la, 4, u1, r3, m1.H, by omega, fun q => absurd q (by decide), fun q => absurd q (by decide), fun K hK => ?_, fun K hK => (k1 _ ?_).1 rfl⟩
      · unfold f_Re_readWord
        refine f1 _ (f2 _ (k_f hv ?_))
        rw [ev2, cl_nat (by omega), mm2]
        exact ⟨v8, b_le (b := 0) (fun q => by omega) (fun _ => f3 _ (fl_tok n9 ⟨1, fl_40 n9 hK⟩))⟩
      · unfold f_Md_wordClause
        rw [u14, ex, cl_nat (by omega)]
        exact k_t u12 ⟨v3, k_e mm3' (b_le (b := 0) (fun q => by omega) (fun _ => k_f (by decide) hK))⟩
  · obtain ⟨ez, u12, ev⟩ := w2' rfl hz2
    refine ⟨c2, la, z2, u1, r2, m1.H, by omega, fun q => absurd q hz2, fun q => absurd q hz2, fun K hK => ?_, fun K hK => (k1 _ ?_).1 rfl⟩
    · unfold f_Re_readWord
      exact f1 _ (f2 _ (k_t ev hK))
    · unfold f_Md_wordClause
      rw [ez] at hK
      exact k_f u12 (k_f (by decide) hK)
end WC
