-- clauses, in step
def mH (u u' : Ob) : Prop := (∀ k, k < 10 ∨ 16 < k → gI u' k = gI u k) ∧ (∀ k, k ≠ 5 → gA u' k = gA u k) ∧ gB u' = gB u
theorem mH.rf (u : Ob) : mH u u := ⟨fun _ _ => rfl, fun _ _ => rfl, rfl⟩
theorem mH.tr {a c d : Ob} (h : mH a c) (g : mH c d) : mH a d := ⟨fun k hk => (g.1 k hk).trans (h.1 k hk), fun k hk => (g.2.1 k hk).trans (h.2.1 k hk), g.2.2.trans h.2.2⟩
theorem mG.H {u u' : Ob} (h : mG u u') : mH u u' := ⟨fun k hk => h.1 k (by omega), fun k _ => by rw [h.2.1], h.2.2⟩
theorem mG.H5 {u u' : Ob} {g : Nat → Int32} (h : mG (sA u 5 g) u') : mH u u' := ⟨fun k hk => h.1 k (by omega), fun k hk => by rw [h.2.1]; exact gA_sA_ne _ _ _ _ hk, h.2.2⟩
theorem oF : ∀ t : Nat, t < 16 → ∀ a : Nat, a < 4 → ((iI (t : Int) &&& iI ((2 ^ a : Nat) : Int)) = 0 ↔ ¬ ((iI (t : Int) >>> (iI (a : Int) &&& 31)) &&& (1 : Int32)) = 1) ∧ (t ||| 2 ^ a < 16) ∧ iI (t : Int) ||| iI ((2 ^ a : Nat) : Int) = iI ((t ||| 2 ^ a : Nat) : Int) ∧ iI (t : Int) ||| ((1 : Int32) <<< (iI (a : Int) &&& 31)) = iI ((t ||| 2 ^ a : Nat) : Int) := by decide
section CLS
variable {np n : Nat} {b : Nat → Nat} {ta : Ob} {r : Nat → Nat}
theorem fl_tok {c : Ob} {K : Ob → Prop} (h9 : ¬ gI c 9 = 0) (hK : K c) : f_Re_takeToken r c ta K := by
  unfold f_Re_takeToken
  exact k_f h9 hK
theorem fl_fail {a : Int32} {c : Ob} {K : Ob → Prop} (h9 : ¬ gI c 9 = 0) (hK : K c) : f_Re_fail a r c K := by
  unfold f_Re_fail
  exact k_f h9 hK
theorem fl_semi {c : Ob} {K : Ob → Prop} (h9 : ¬ gI c 9 = 0) (hK : K c) : f_Re_takeSemicolon r c ta K := by
  unfold f_Re_takeSemicolon
  exact k_c (fun _ => fl_tok h9 hK) (fun _ => fl_fail h9 (fl_tok h9 hK))
theorem fl_comma {c : Ob} {K : Int32 → Ob → Prop} (h9 : ¬ gI c 9 = 0) (hK : ∀ x, K x c) : f_Re_takeComma r c ta K := by
  unfold f_Re_takeComma
  exact k_c (fun _ => fl_tok h9 (hK 1)) (fun _ => hK 0)
theorem RR.n9 {c u : Ob} {z : Int32} (h : RR np b n c u z) (hz : z ≠ 0) : ¬ gI c 9 = 0 := by
  obtain ⟨-, -, -, s, e, k, -, -, -, -, hc⟩ := h
  rcases hc with ⟨z0, -⟩ | ⟨-, c9, -⟩
  · exact absurd z0 hz
  · rw [c9]; exact hz
theorem RR.g9 {c u : Ob} (h : RR np b n c u 0) : gI c 9 = 0 := by
  obtain ⟨-, -, -, s, e, k, -, -, -, -, hc⟩ := h
  rcases hc with ⟨-, c9, -⟩ | ⟨z0, -⟩
  · exact c9
  · exact absurd rfl z0
/-- the kind of the token, both ways -/
theorem RR.kd {c u : Ob} (h : RR np b n c u 0) : (gI c 5 = 4 ↔ gI u 12 = 44) ∧ (gI c 5 = 5 ↔ gI u 12 = 59) ∧ (gI c 5 = 0 ↔ gI u 12 = 0) := by
  obtain ⟨-, -, -, s, e, k, -, hk6, hT, ⟨-, -, h5⟩, hc⟩ := h
  rcases hc with ⟨-, -, -, -, hM, -⟩ | ⟨z0, -⟩
  · obtain ⟨-, m4, m5, m0, -⟩ := hM.one hk6 hT.ne1
    have e : ∀ x : Nat, x ≤ 6 → (iI (k : Int) = iI (x : Int) ↔ k = x) := fun x hx => ⟨fun q => by have := (iI_eq (by omega) (by omega)).mp q; omega, fun q => by rw [q]⟩
    rw [h5]
    exact ⟨(e 4 (by omega)).trans m4.symm, (e 5 (by omega)).trans m5.symm, (e 0 (by omega)).trans m0.symm⟩
  · exact absurd rfl z0
theorem num_cases {lo hi : Nat} {c u : Ob} (hhi : hi ≤ 100) (hlh : lo ≤ 100) (h : RR np b n c u 0) : (∃ w : Nat, lo ≤ w ∧ w ≤ hi ∧ gI c 6 = iI w ∧ gI u 12 = 1 ∧ gI u 13 = iI w ∧ ∀ K : Ob → Prop, K c → f_Re_checkNumber (iI lo) (iI hi) r c K) ∨ ∃ a : Int32, a ≠ 0 ∧ (∀ K : Ob → Prop, f_Re_fail a r c K → f_Re_checkNumber (iI lo) (iI hi) r c K) ∧ ((a = 1 ∧ gI u 12 ≠ 1) ∨ (a = 2 ∧ gI u 12 = 1 ∧ ∃ mv : Nat, gI u 13 = iI mv ∧ (mv < lo ∨ hi < mv) ∧ mv < 2000000)) := by
  obtain ⟨h1, h8, hU, s, e, k, hse, hk6, hT, ⟨h3, h4, h5⟩, hcase⟩ := h
  rcases hcase with ⟨z0, c9, c10, hC, hM, t, t1, t2, t3⟩ | ⟨z0, -⟩
  · obtain ⟨m1, -⟩ := hM.one hk6 hT.ne1
    by_cases hk : k = 3
    · have hd : ∀ i, i < e - s → 48 ≤ b (s + i) ∧ b (s + i) ≤ 57 := fun i hi => by
        rcases hT.2 with ⟨a, -⟩ | ⟨-, -, -, hx⟩
        · omega
        · rcases hx with ⟨-, g1, -⟩ | ⟨-, a, -⟩
          · have := g1 (s + i) (by omega) (by omega)
            rw [hk] at this
            have := kV_3.mp this
            omega
          · exact absurd hk a
      have hnr := nr_is hd (e - s) (Nat.le_refl _)
      have c6 := hC.2.2.2 hk
      obtain ⟨u12, u13⟩ := hM.2.2.2.1 hk
      generalize cvN b s (e - s) = cv at hnr c6
      generalize mvN b s (e - s) = mv at hnr u13
      unfold NR at hnr
      have e5 : gI c 5 = (3 : Int32) := by rw [h5, hk]; rfl
      by_cases hin : lo ≤ cv ∧ cv ≤ hi
      · have emv : mv = cv := by omega
        subst emv
        refine Or.inl ⟨mv, hin.1, hin.2, c6, u12, u13, fun K hK => ?_⟩
        unfold f_Re_checkNumber
        rw [c6]
        exact k_t e5 (b_lt (fun q => by omega) (fun _ => b_le (fun _ => hK) (fun q => by omega)))
      · refine Or.inr ⟨2, by decide, fun K hK => ?_, Or.inr ⟨rfl, u12, mv, u13, by omega, by omega⟩⟩
        unfold f_Re_checkNumber
        rw [c6]
        exact k_t e5 (b_lt (fun _ => hK) (fun q => b_le (fun q2 => by omega) (fun _ => hK)))
    · refine Or.inr ⟨1, by decide, fun K hK => ?_, Or.inl ⟨rfl, fun q => hk (m1.mp q)⟩⟩
      unfold f_Re_checkNumber
      refine k_f (fun q => hk ?_) hK
      rw [h5] at q
      have := (iI_eq (b := 3) (by omega) (by omega)).mp q
      omega
  · exact absurd rfl z0
theorem st_once {a : Nat} {c u : Ob} (ha : a < 4) (hTB : TB b n ta) (h : RR np b n c u 0) : ∃ c' z' u', RR np b n c' u' z' ∧ mH u u' ∧ gA u' 5 = gA u 5 ∧ pos c ≤ pos c' ∧ (∀ K : Ob → Prop, K c' → f_Re_takeOnce (iI ((2 ^ a : Nat) : Int)) r c ta K) ∧ (∀ (Q : Int32 → Ob → Prop) (B : Ob → Prop), (z' = 0 → B u') → (z' ≠ 0 → Q z' u') → ((((gI u 16) >>> (iI (a : Int) &&& 31)) &&& (1 : Int32)) = (1 : Int32) → Q (4 : Int32) u) ∧ (¬ (((gI u 16) >>> (iI (a : Int) &&& 31)) &&& (1 : Int32)) = (1 : Int32) → f_Md_nextToken (sI u 16 ((gI u 16) ||| ((1 : Int32) <<< (iI (a : Int) &&& 31)))) B)) := by
  have hRR := h
  obtain ⟨h1, h8, hU, s, e, k, hse, hk6, hT, ⟨h3, h4, h5⟩, hcase⟩ := h
  rcases hcase with ⟨z0, c9, c10, hC, hM, t, t1, t2, t3⟩ | ⟨z0, -⟩
  · obtain ⟨o1, o2, o3, o4⟩ := oF t t1 a ha
    by_cases q : ((iI (t : Int) >>> (iI (a : Int) &&& 31)) &&& (1 : Int32)) = 1
    · obtain ⟨c1, r1, p1, f1⟩ := st_fail (r := r) (4 : Int32) (by decide) hRR
      rw [zf_0] at r1
      have n9 := r1.n9 (by decide)
      refine ⟨sI c1 7 ((gI c1 7) ||| iI ((2 ^ a : Nat) : Int)), 4, u, ?_, mH.rf u, rfl, by show pos c ≤ pos c1; omega, fun K hK => ?_, fun Q B _ hQ => ?_⟩
      · obtain ⟨g1, g2, g3, s', e', k', g4, g5, g6, g7, hc⟩ := r1
        rcases hc with ⟨zz, -⟩ | hc
        · exact absurd zz (by decide)
        · exact ⟨g1, g2, g3, s', e', k', g4, g5, g6, g7, Or.inr hc⟩
      · unfold f_Re_takeOnce f_Re_takeOnce_14
        rw [t2]
        refine k_f (fun z => (o1.mp z) q) (f1 _ ?_)
        exact fl_tok n9 hK
      · rw [t3]
        exact k_t q (hQ (by decide))
    · have r0 : RR np b n (sI c 7 (iI ((t ||| 2 ^ a : Nat) : Int))) (sI u 16 (iI ((t ||| 2 ^ a : Nat) : Int))) 0 := ⟨h1, h8, hU, s, e, k, hse, hk6, hT, ⟨h3, h4, h5⟩, Or.inl ⟨rfl, c9, c10, hC, hM, _, o2, rfl, rfl⟩⟩
      obtain ⟨c', u', r', g', p', -, a1, a2⟩ := st_tok (r := r) hTB r0
      refine ⟨c', 0, u', r', ⟨fun k hk => (g'.1 k (by omega)).trans (gI_sI_ne _ _ _ _ (by omega)), fun k _ => by rw [g'.2.1]; rfl, g'.2.2⟩, by rw [g'.2.1]; rfl, p', fun K hK => ?_, fun Q B hB _ => ?_⟩
      · unfold f_Re_takeOnce f_Re_takeOnce_14
        rw [t2, o3]
        exact k_t (o1.mpr q) (a1 _ hK)
      · rw [t3, o4]
        exact k_f q ((a2 B (hB rfl)).1 rfl)
  · exact absurd rfl z0
theorem cs_part {a : Nat} {c u : Ob} (ha1 : 1 ≤ a) (ha : a < 4) (hTB : TB b n ta) (h : RR np b n c u 0) : ∃ v c' z' u', RR np b n c' u' z' ∧ mH u u' ∧ pos c ≤ pos c' ∧ (z' = 0 → gI c' 5 ≠ 0 → pos c < pos c') ∧ (z' = 0 → ∃ w : Nat, w ≤ 100 ∧ v = iI w ∧ gA u' 5 = upd (upd (gA u 5) a (iI w)) 0 ((upd (gA u 5) a (iI w)) 0 + (1 : Int32))) ∧ (∀ K : Int32 → Ob → Prop, K v c' → f_Re_readPart (iI ((2 ^ a : Nat) : Int)) r c ta K) ∧ (∀ K : Int32 → Ob → Prop, K z' u' → f_Md_once (iI a) (iI a) u (SM K)) := by
  obtain ⟨c1, z1, u1, r1, g1, e1, p1, a1, m1⟩ := st_once (r := r) ha hTB h
  obtain ⟨v, c2, z2, u2, r2, g2, p2, w2, a2, m2⟩ := st_num (r := r) (lo := 0) (hi := 100) (ix := a) hTB (by omega) (by omega) (by omega) r1
  obtain ⟨c3, z3, u3, r3, g3, p3, s3, w3, a3, m3⟩ := st_semi (r := r) hTB r2
  refine ⟨v, c3, z3, u3, r3, g1.tr (g2.H5.tr g3.H5), by omega, fun q q5 => by have := s3 q q5; omega, fun q => ?_, fun K hK => ?_, fun K hK => ?_⟩
  · obtain ⟨q2, -, e3⟩ := w3 q
    obtain ⟨q1, w, -, w1, ev, e2⟩ := w2 q2
    refine ⟨w, w1, ev, ?_⟩
    rw [e3, e2, e1]
  · unfold f_Re_readPart
    exact a1 _ (a2 _ (a3 _ hK))
  · have hz := m2 (SM K) (m3 K hK)
    unfold f_Md_once
    refine m1 (SM K) _ (fun q => ?_) (fun q => hz.2 q)
    refine k_f (fun e => ?_) (hz.1 q)
    have := (iI_eq (b := 0) (by omega) (by omega)).mp e
    omega
-- the rest
theorem fl_84 {c la : Ob} {x1 : Int32} {K : Ob → Ob → Prop} (h9 : ¬ gI c 9 = 0) (hK : K c la) : f_Re_readRest_84 r ta K x1 c la := by
  unfold f_Re_readRest_84
  exact k_c (fun _ => k_c (fun _ => fl_semi h9 hK) (fun _ => fl_fail h9 (fl_semi h9 hK))) (fun _ => fl_semi h9 hK)
theorem fl_11 {c la : Ob} {x1 x2 x3 : Int32} {w : Nat} {K : Ob → Ob → Prop} (h9 : ¬ gI c 9 = 0) (hK : K c la) : f_Re_readRest_11 r ta K (w + 1) x1 x2 x3 c la := by
  unfold f_Re_readRest_11
  exact k_c (fun _ => fl_84 h9 hK) (fun _ => k_c (fun _ => fl_84 h9 hK) (fun _ => k_f h9 (fl_84 h9 hK)))
theorem fl_69 {c la : Ob} {x1 x3 : Int32} {w : Nat} {K : Ob → Ob → Prop} (h9 : ¬ gI c 9 = 0) (hK : K c la) : f_Re_readRest_69 r ta (f_Re_readRest_11 r ta K (w + 1)) K x1 x3 c la := by
  unfold f_Re_readRest_69
  exact fl_tok h9 (fl_comma h9 (fun _ => fl_11 h9 hK))
theorem rest_end {j : Nat} {c u la : Ob} (hTB : TB b n ta) (h : RR np b n c u 0) (hnp : np ≤ 5) (hj : j ≤ np) (u0 : gI u 0 = iI np) : ∃ c' z' u', RR np b n c' u' z' ∧ mH u u' ∧ pos c ≤ pos c' ∧ (z' = 0 → gI c' 5 ≠ 0 → pos c < pos c') ∧ (z' = 0 → gA u' 5 = upd (gA u 5) 0 ((gA u 5 0) + (1 : Int32))) ∧ (∀ K : Ob → Ob → Prop, K c' la → f_Re_readRest_84 r ta K (iI j) c la) ∧ (∀ K : Int32 → Ob → Prop, K z' u' → (gI u 12 = (59 : Int32) → (gI u 0 ≤ iI j → SM K 0 u) ∧ (¬ gI u 0 ≤ iI j → SM K 5 u)) ∧ (¬ gI u 12 = (59 : Int32) → SM K 0 u)) := by
  have k5 := h.kd.2.1
  have c1 := h.1
  by_cases hk : gI c 5 = 5 ∧ j < np
  · obtain ⟨d1, r1, p1, f1⟩ := st_fail (r := r) (5 : Int32) (by decide) h
    rw [zf_0] at r1
    have n9 := r1.n9 (by decide)
    refine ⟨d1, 5, u, r1, mH.rf u, by omega, fun q => absurd q (by decide), fun q => absurd q (by decide), fun K hK => ?_, fun K hK => ?_⟩
    · unfold f_Re_readRest_84
      rw [c1]
      exact k_t hk.1 (b_le (fun q => by omega) (fun _ => f1 _ (fl_semi n9 hK)))
    · rw [u0]
      exact k_t (k5.mp hk.1) (b_le (fun q => by omega) (fun _ => k_f (by decide) hK))
  · obtain ⟨c', z', u', r', g', p', s', w', a', m'⟩ := st_semi (r := r) hTB h
    refine ⟨c', z', u', r', g'.H5, p', s', fun q => (w' q).2.2, fun K hK => ?_, fun K hK => ?_⟩
    · unfold f_Re_readRest_84
      rw [c1]
      exact k_c (fun q => b_le (fun _ => a' _ hK) (fun q2 => absurd ⟨q, by omega⟩ hk)) (fun _ => a' _ hK)
    · rw [u0]
      exact k_c (fun q => b_le (fun _ => m' K hK) (fun q2 => absurd ⟨k5.mpr q, by omega⟩ hk)) (fun _ => m' K hK)
theorem rest_loop (hTB : TB b n ta) (hnp : np ≤ 5) : ∀ (d j : Nat) (c la u : Ob), d + j = np → RR np b n c u 0 → gI u 0 = iI np → L5 np la (gA u 5) → ∃ c' la' z' u', RR np b n c' u' z' ∧ mH u u' ∧ pos c ≤ pos c' ∧ (z' = 0 → gI c' 5 ≠ 0 → pos c < pos c') ∧ (z' = 0 → L5 np (sI la' 4 (gI la' 4 + (1 : Int32))) (gA u' 5)) ∧ (∃ w, ∀ K : Ob → Ob → Prop, K c' la' → f_Re_readRest_11 r ta K w (iI j) (1 : Int32) (iI j) c la) ∧ (∃ w, ∀ K : Int32 → Ob → Prop, K z' u' → f_Md_rests_4 (SM K) w (iI j) (1 : Int32) u) := by
  intro d
  induction d with
  | zero =>
    intro j c la u hj h u0 hL
    have : j = np := by omega
    subst this
    have h1 := h.1
    rcases num_cases (r := r) (lo := 1) (hi := 12) (by omega) (by omega) h with ⟨w, w1, w2, c6, u12, u13, hc⟩ | ⟨a, ha, hc, hm⟩
    · obtain ⟨d1, r1, p1, f1⟩ := st_fail (r := r) (5 : Int32) (by decide) h
      rw [zf_0] at r1
      have n9 := r1.n9 (by decide)
      refine ⟨d1, la, 5, u, r1, mH.rf u, by omega, fun q => absurd q (by decide), fun q => absurd q (by decide), ⟨2, fun K hK => ?_⟩, ⟨1, fun K hK => ?_⟩⟩
      · unfold f_Re_readRest_11
        rw [h1]
        refine b_lt (fun q => by omega) (fun _ => k_f (by decide) (k_t h.g9 (hc _ ?_)))
        rw [h1]
        exact k_t rfl (f1 _ (fl_69 n9 hK))
      · unfold f_Md_rests_4
        rw [u0, u13]
        exact k_f (by decide) (k_t u12 (md_in (lo := 1) (hi := 12) (fun _ _ => k_f (by decide) (k_t rfl (k_f (by decide) hK))) (fun q => by omega) (by omega) (by omega) (by omega)))
    · obtain ⟨d1, r1, p1, f1⟩ := st_fail (r := r) a ha h
      rw [zf_0] at r1
      have n9 := r1.n9 ha
      refine ⟨d1, la, a, u, r1, mH.rf u, by omega, fun q => absurd q ha, fun q => absurd q ha, ⟨2, fun K hK => ?_⟩, ⟨1, fun K hK => ?_⟩⟩
      · unfold f_Re_readRest_11
        rw [h1]
        refine b_lt (fun q => by omega) (fun _ => k_f (by decide) (k_t h.g9 (hc _ (f1 _ ?_))))
        rw [r1.1]
        exact k_t rfl (fl_fail n9 (fl_69 n9 hK))
      · unfold f_Md_rests_4
        refine k_f (by decide) ?_
        rcases hm with ⟨ea, e12⟩ | ⟨ea, e12, mv, e13, mr, mb⟩
        · subst ea
          exact k_f e12 (k_f (by decide) hK)
        · subst ea
          rw [e13]
          exact k_t e12 (md_in (lo := 1) (hi := 12) (fun _ _ => by omega) (fun _ => k_t rfl (k_f (by decide) hK)) (by omega) (by omega) (by omega))
  | succ d ih =>
    intro j c la u hj h u0 hL
    have h1 := h.1
    have ej : iI (j : Int) + (1 : Int32) = iI ((j + 1 : Nat) : Int) := ix_add j 1
    have e5j : (5 : Int32) + iI (j : Int) = iI ((5 + j : Nat) : Int) := ix_add 5 j
    have nj : ¬ iI (j : Int) = iI (np : Int) := fun q => by have := (iI_eq (by omega) (by omega)).mp q; omega
    have v5 : vp_in (iI (j : Int)) 5 := v_nat (by omega) (by decide)
    rcases num_cases (r := r) (lo := 1) (hi := 12) (by omega) (by omega) h with ⟨w, w1, w2, c6, u12, u13, hc⟩ | ⟨a, ha, hc, hm⟩
    · obtain ⟨c1, u1, r1, g1, p1, -, a1, m1⟩ := st_tok (r := r) hTB (h.sa (upd (gA u 5) (5 + j) (iI (w : Int))))
      have e5 : gA u1 5 = upd (gA u 5) (5 + j) (iI (w : Int)) := by rw [g1.2.1]; rfl
      have u10 : gI u1 0 = iI np := by rw [g1.1 0 (by omega)]; exact u0
      have hL1 : L5 np (sA la 0 (upd (gA la 0) j (iI (w : Int)))) (gA u1 5) := by rw [e5]; exact hL.rest (by omega) ⟨w1, w2⟩
      have kd := r1.kd.1
      -- the class until after the number
      have cpre : ∀ (f : Nat) (K : Ob → Ob → Prop), f_Re_takeComma r c1 ta (fun z2 u3 => f_Re_readRest_11 r ta K f (iI ((j + 1 : Nat) : Int)) z2 (iI ((j + 1 : Nat) : Int)) u3 (sA la 0 (upd (gA la 0) j (iI (w : Int))))) → f_Re_readRest_11 r ta K (f + 1) (iI j) (1 : Int32) (iI j) c la := by
        intro f K hK
        unfold f_Re_readRest_11
        rw [h1, cl_nat (by omega), ej]
        refine b_lt (fun q => by omega) (fun _ => k_f (by decide) (k_t h.g9 (hc _ ?_)))
        rw [h1, c6]
        refine k_f nj ⟨v5, ?_⟩
        unfold f_Re_readRest_69
        rw [ej]
        exact a1 _ hK
      have mpre : ∀ (f : Nat) (K : Int32 → Ob → Prop), ((gI u1 12 = (44 : Int32) → f_Md_rests_77 (f_Md_rests_4 (SM K) f) (SM K) (iI ((j + 1 : Nat) : Int)) (1 : Int32) u1) ∧ (¬ gI u1 12 = (44 : Int32) → f_Md_rests_77 (f_Md_rests_4 (SM K) f) (SM K) (iI ((j + 1 : Nat) : Int)) (0 : Int32) u1)) → f_Md_rests_4 (SM K) (f + 1) (iI j) (1 : Int32) u := by
        intro f K hK
        unfold f_Md_rests_4
        rw [u0, u13, ej, e5j, cl_nat (by omega)]
        exact k_f (by decide) (k_t u12 (md_in (lo := 1) (hi := 12) (fun _ _ => k_f (by decide) (k_f nj ⟨v_nat (by omega) (by decide), (m1 _ hK).1 rfl⟩)) (fun q => by omega) (by omega) (by omega) (by omega)))
      by_cases hk : gI c1 5 = 4
      · obtain ⟨c2, u2, r2, g2, p2, -, a2, m2⟩ := st_tok (r := r) hTB r1
        obtain ⟨c', la', z', u', x1, x2, x3, x4, x5, ⟨wf, x6⟩, ⟨wm, x7⟩⟩ := ih (j + 1) c2 _ u2 (by omega) r2 (by rw [g2.1 0 (by omega)]; exact u10) (by rw [g2.2.1]; exact hL1)
        refine ⟨c', la', z', u', x1, g1.H5.tr (g2.H.tr x2), by omega, fun q q5 => by have := x4 q q5; omega, x5, ⟨wf + 1, fun K hK => cpre wf K ?_⟩, ⟨wm + 1, fun K hK => mpre wm K (k_t (kd.mp hk) ?_)⟩⟩
        · unfold f_Re_takeComma
          exact k_t hk (a2 _ (x6 K hK))
        · unfold f_Md_rests_77
          exact k_f (by decide) ((m2 _ (x7 K hK)).1 rfl)
      · obtain ⟨c', z', u', x1, x2, x3, x4, x5, x6, x7⟩ := rest_end (r := r) (j := j + 1) (la := sA la 0 (upd (gA la 0) j (iI (w : Int)))) hTB r1 hnp (by omega) u10
        refine ⟨c', sA la 0 (upd (gA la 0) j (iI (w : Int))), z', u', x1, g1.H5.tr x2, by omega, fun q q5 => by have := x4 q q5; omega, fun q => ?_, ⟨2, fun K hK => cpre 1 K ?_⟩, ⟨2, fun K hK => mpre 1 K (k_f (fun q => hk (kd.mpr q)) ?_)⟩⟩
        · rw [x5 q]; exact hL1.cl
        · unfold f_Re_takeComma
          refine k_f hk ?_
          show f_Re_readRest_11 r ta K 1 (iI ((j + 1 : Nat) : Int)) (0 : Int32) (iI ((j + 1 : Nat) : Int)) c1 (sA la 0 (upd (gA la 0) j (iI (w : Int))))
          unfold f_Re_readRest_11
          rw [r1.1]
          exact b_lt (fun q => by omega) (fun _ => k_t rfl (x6 K hK))
        · unfold f_Md_rests_77
          refine k_t rfl ?_
          unfold f_Md_rests_4
          exact k_t rfl (x7 K hK)
    · obtain ⟨d1, r1, p1, f1⟩ := st_fail (r := r) a ha h
      rw [zf_0] at r1
      have n9 := r1.n9 ha
      refine ⟨d1, sA la 0 (upd (gA la 0) j (gI d1 6)), a, u, r1, mH.rf u, by omega, fun q => absurd q ha, fun q => absurd q ha, ⟨2, fun K hK => ?_⟩, ⟨1, fun K hK => ?_⟩⟩
      · unfold f_Re_readRest_11
        rw [h1, cl_nat (by omega)]
        refine b_lt (fun q => by omega) (fun _ => k_f (by decide) (k_t h.g9 (hc _ (f1 _ ?_))))
        rw [r1.1]
        exact k_f nj ⟨v5, fl_69 n9 hK⟩
      · unfold f_Md_rests_4
        refine k_f (by decide) ?_
        rcases hm with ⟨ea, e12⟩ | ⟨ea, e12, mv, e13, mr, mb⟩
        · subst ea
          exact k_f e12 (k_f (by decide) hK)
        · subst ea
          rw [e13]
          exact k_t e12 (md_in (lo := 1) (hi := 12) (fun _ _ => by omega) (fun _ => k_t rfl (k_f (by decide) hK)) (by omega) (by omega) (by omega))
theorem cs_rest {c u la : Ob} (hTB : TB b n ta) (hnp : np ≤ 5) (h : RR np b n c u 0) (u0 : gI u 0 = iI np) (hL : L5 np la (gA u 5)) : ∃ c' la' z' u', RR np b n c' u' z' ∧ mH u u' ∧ pos c ≤ pos c' ∧ (z' = 0 → gI c' 5 ≠ 0 → pos c < pos c') ∧ (z' = 0 → L5 np (sI la' 4 (gI la' 4 + (1 : Int32))) (gA u' 5)) ∧ (∀ K : Ob → Ob → Prop, K c' la' → f_Re_readRest r c ta la K) ∧ (∀ K : Int32 → Ob → Prop, K z' u' → f_Md_once (0 : Int32) (0 : Int32) u (SM K)) := by
  obtain ⟨c1, z1, u1, r1, g1, e1, p1, a1, m1⟩ := st_once (r := r) (a := 0) (by omega) hTB h
  by_cases hz : z1 = 0
  · subst hz
    obtain ⟨c', la', z', u', x1, x2, x3, x4, x5, ⟨wf, x6⟩, ⟨wm, x7⟩⟩ := rest_loop (r := r) hTB hnp np 0 c1 la u1 rfl r1 (by rw [g1.1 0 (by omega)]; exact u0) (by rw [e1]; exact hL)
    refine ⟨c', la', z', u', x1, g1.tr x2, by omega, fun q q5 => by have := x4 q q5; omega, x5, fun K hK => ?_, fun K hK => ?_⟩
    · unfold f_Re_readRest
      exact a1 _ ⟨wf, x6 K hK⟩
    · unfold f_Md_once
      exact m1 (SM K) _ (fun _ => k_t rfl ⟨wm, x7 K hK⟩) (fun q => absurd rfl q)
  · have n9 := r1.n9 hz
    refine ⟨c1, la, z1, u1, r1, g1, by omega, fun q => absurd q hz, fun q => absurd q hz, fun K hK => ?_, fun K hK => ?_⟩
    · unfold f_Re_readRest
      exact a1 _ ⟨1, fl_11 n9 hK⟩
    · unfold f_Md_once
      exact m1 (SM K) _ (fun q => absurd q hz) (fun _ => k_f hz hK)
end CLS
