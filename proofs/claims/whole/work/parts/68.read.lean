-- reading in step
section RD
variable {np n : Nat} {b : Nat → Nat} {ta c u : Ob} {r : Nat → Nat} {z : Int32}
def RR (np : Nat) (b : Nat → Nat) (n : Nat) (c u : Ob) (z : Int32) : Prop := gI c 1 = iI np ∧ gI c 8 = 1 ∧ UB b n u ∧ ∃ s e k : Nat, s ≤ e ∧ k ≤ 6 ∧ TS b n s e k ∧ (gI c 3 = iI s ∧ gI c 4 = iI e ∧ gI c 5 = iI k) ∧ ((z = 0 ∧ gI c 9 = 0 ∧ gI c 10 = -1 ∧ CTk b s e k c ∧ MTk b s e k u ∧ ∃ t : Nat, t < 16 ∧ gI c 7 = iI t ∧ gI u 16 = iI t) ∨ (z ≠ 0 ∧ gI c 9 = z ∧ gI c 10 = gI u 11))
abbrev pos (c : Ob) : Nat := (gI c 4).toNatClampNeg
theorem RR.sa (h : RR np b n c u z) (f : Nat → Int32) : RR np b n c (sA u 5 f) z := h
theorem RR.pos (hn : n ≤ 400) (h : RR np b n c u z) : pos c ≤ n := by
  obtain ⟨-, -, -, s, e, k, -, -, hT, ⟨-, h4, -⟩, -⟩ := h
  show (gI c 4).toNatClampNeg ≤ n
  have := hT.1
  rw [h4, cl_nat (by omega)]
  exact this
theorem st_tok (hTB : TB b n ta) (h : RR np b n c u z) : ∃ c' u', RR np b n c' u' z ∧ mG u u' ∧ pos c ≤ pos c' ∧ (z = 0 → gI c' 5 ≠ 0 → pos c < pos c') ∧ (∀ K : Ob → Prop, K c' → f_Re_takeToken r c ta K) ∧ (∀ K : Ob → Prop, K u' → (z = 0 → f_Md_nextToken u K) ∧ (¬ z = 0 → K u)) := by
  have hn := hTB.1
  obtain ⟨h1, h8, hU, s, e, k, hse, hk6, hT, ⟨h3, h4, h5⟩, hcase⟩ := h
  have hen := hT.1
  have pc : pos c = e := by show (gI c 4).toNatClampNeg = e; rw [h4, cl_nat (by omega)]
  rcases hcase with ⟨z0, c9, c10, hC, hM, t, t1, t2, t3⟩ | ⟨z0, c9, c10⟩
  · obtain ⟨s', e', k', a1, a2, a3, a4, a5, a6⟩ := tok_ex b n e hen
    have he' := a4.1
    obtain ⟨c', b1, ⟨b2, b3, b4, b5, b6⟩, b7⟩ := cl_tok (r := r) hTB c9 h4 a1 a3 a4
    obtain ⟨u', d1, d2, d3⟩ := md_tok (k := k') hn (fun i hi => (hTB.2.2 i hi).1) a4 (by omega) (s' - e) e u (by omega) hU hM.2.1 a3
    have pc' : pos c' = e' := by show (gI c' 4).toNatClampNeg = e'; rw [b1.2.1, cl_nat (by omega)]
    refine ⟨c', u', ⟨b2.trans h1, b4.trans h8, hU.cg d2, s', e', k', a2, a6, a4, ⟨b1.1, b1.2.1, b1.2.2.1⟩, Or.inl ⟨z0, b5.trans c9, b6.trans c10, b1, d1, t, t1, b3.trans t2, (d2.1 16 (by omega)).trans t3⟩⟩, d2, by omega, fun _ q => ?_, b7, fun K hK => k_t z0 ⟨_, d3 K hK⟩⟩
    have : k' ≠ 0 := fun e0 => q (by rw [b1.2.2.1, e0]; rfl)
    have := a5 this
    omega
  · refine ⟨c, u, ⟨h1, h8, hU, s, e, k, hse, hk6, hT, ⟨h3, h4, h5⟩, Or.inr ⟨z0, c9, c10⟩⟩, mG.rf u, Nat.le_refl _, fun q => absurd q z0, fun K hK => ?_, fun K hK => k_f z0 hK⟩
    unfold f_Re_takeToken
    exact k_f (by rw [c9]; exact z0) hK
def zf (z a : Int32) : Int32 := if z = 0 then a else z
theorem zf_0 {a : Int32} : zf 0 a = a := by unfold zf; rw [if_pos rfl]
theorem zf_n {z a : Int32} (h : z ≠ 0) : zf z a = z := by unfold zf; rw [if_neg h]
theorem zf_ne {z a : Int32} (h : a ≠ 0) : zf z a ≠ 0 := by
  by_cases q : z = 0
  · rw [q, zf_0]; exact h
  · rw [zf_n q]; exact q
theorem st_fail (a : Int32) (ha : a ≠ 0) (h : RR np b n c u z) : ∃ c', RR np b n c' u (zf z a) ∧ pos c' = pos c ∧ ∀ K : Ob → Prop, K c' → f_Re_fail a r c K := by
  obtain ⟨h1, h8, hU, s, e, k, hse, hk6, hT, ⟨h3, h4, h5⟩, hcase⟩ := h
  rcases hcase with ⟨z0, c9, c10, hC, hM, t, t1, t2, t3⟩ | ⟨z0, c9, c10⟩
  · refine ⟨sI (sI c 9 a) 10 (gI c 3), ⟨h1, h8, hU, s, e, k, hse, hk6, hT, ⟨h3, h4, h5⟩, Or.inr ?_⟩, rfl, fun K hK => ?_⟩
    · rw [z0, zf_0]
      exact ⟨ha, rfl, h3.trans hM.1.symm⟩
    · unfold f_Re_fail
      exact k_t c9 hK
  · refine ⟨c, ⟨h1, h8, hU, s, e, k, hse, hk6, hT, ⟨h3, h4, h5⟩, Or.inr ?_⟩, rfl, fun K hK => ?_⟩
    · rw [zf_n z0]; exact ⟨z0, c9, c10⟩
    · unfold f_Re_fail
      exact k_f (by rw [c9]; exact z0) hK
theorem MTk.one {s e k : Nat} (h : MTk b s e k u) (hk : k ≤ 6) (hk1 : k ≠ 1) : (gI u 12 = 1 ↔ k = 3) ∧ (gI u 12 = 44 ↔ k = 4) ∧ (gI u 12 = 59 ↔ k = 5) ∧ (gI u 12 = 0 ↔ k = 0) ∧ (gI u 12 = 2 ↔ (k = 2 ∧ e - s = 1 ∧ 65 ≤ b s ∧ b s ≤ 72)) := by
  obtain ⟨-, -, m0, m3, m4, m5, m6, m2⟩ := h
  have hk' : k = 0 ∨ k = 2 ∨ k = 3 ∨ k = 4 ∨ k = 5 ∨ k = 6 := by omega
  rcases hk' with e0 | e0 | e0 | e0 | e0 | e0
  · rw [m0 e0]; subst e0; simp
  · subst e0
    rcases m2 rfl with ⟨a, q⟩ | ⟨a, a2, q, -⟩ | ⟨a, a2, q, -⟩
    · rw [q]; refine ⟨by simp, by simp, by simp, by simp, ⟨fun z => absurd z (by decide), fun z => by omega⟩⟩
    · rw [q]; refine ⟨by simp, by simp, by simp, by simp, ⟨fun _ => ⟨rfl, a, a2⟩, fun _ => rfl⟩⟩
    · rw [q]; refine ⟨by simp, by simp, by simp, by simp, ⟨fun z => absurd z (by decide), fun z => absurd z.2 a2⟩⟩
  · rw [(m3 e0).1]; subst e0; simp
  · rw [m4 e0]; subst e0; simp
  · rw [m5 e0]; subst e0; simp
  · rw [m6 e0]; subst e0; simp
theorem TS.ne1 {s e k : Nat} (h : TS b n s e k) : k ≠ 1 := by
  rcases h.2 with ⟨a, -⟩ | ⟨-, -, a, -⟩
  · omega
  · exact a
theorem st_num {lo hi ix : Nat} (hTB : TB b n ta) (hhi : hi ≤ 100) (hlh : lo ≤ 100) (hix : ix < 300) (h : RR np b n c u z) : ∃ v c' z' u', RR np b n c' u' z' ∧ mG (sA u 5 (gA u' 5)) u' ∧ pos c ≤ pos c' ∧ (z' = 0 → z = 0 ∧ ∃ w : Nat, lo ≤ w ∧ w ≤ hi ∧ v = iI w ∧ gA u' 5 = upd (gA u 5) ix (iI w)) ∧ (∀ K : Int32 → Ob → Prop, K v c' → f_Re_takeNumber (iI lo) (iI hi) r c ta K) ∧ (∀ K : Int32 → Ob → Prop, K z' u' → (z = 0 → f_Md_take (iI lo) (iI hi) (iI ix) u K) ∧ (¬ z = 0 → K z u)) := by
  have hn := hTB.1
  have hRR := h
  have eta : sA u 5 (gA u 5) = u := sA_eta u 5
  -- flawed, here or before
  have bad : ∀ (a : Int32), a ≠ 0 → (∀ K : Ob → Prop, (f_Re_fail a r c K) → f_Re_checkNumber (iI lo) (iI hi) r c K) → (∀ K : Int32 → Ob → Prop, K (zf z a) u → (z = 0 → f_Md_take (iI lo) (iI hi) (iI ix) u K) ∧ (¬ z = 0 → K z u)) → ∃ v c' z' u', RR np b n c' u' z' ∧ mG (sA u 5 (gA u' 5)) u' ∧ pos c ≤ pos c' ∧ (z' = 0 → z = 0 ∧ ∃ w : Nat, lo ≤ w ∧ w ≤ hi ∧ v = iI w ∧ gA u' 5 = upd (gA u 5) ix (iI w)) ∧ (∀ K : Int32 → Ob → Prop, K v c' → f_Re_takeNumber (iI lo) (iI hi) r c ta K) ∧ (∀ K : Int32 → Ob → Prop, K z' u' → (z = 0 → f_Md_take (iI lo) (iI hi) (iI ix) u K) ∧ (¬ z = 0 → K z u)) := by
    intro a ha h1 h2
    obtain ⟨c1, r1, p1, f1⟩ := st_fail (r := r) a ha hRR
    obtain ⟨c2, u2, r2, -, p2, -, f2, -⟩ := st_tok (r := r) hTB r1
    have hz := zf_ne (z := z) ha
    have r3 : RR np b n c1 u (zf z a) := r1
    refine ⟨gI c1 6, c1, zf z a, u, r1, by rw [eta]; exact mG.rf u, by omega, fun q => absurd q hz, fun K hK => ?_, h2⟩
    unfold f_Re_takeNumber
    refine h1 _ (f1 _ ?_)
    unfold f_Re_takeToken
    obtain ⟨-, -, -, s, e, k, -, -, -, -, hcase⟩ := r1
    rcases hcase with ⟨z0, -⟩ | ⟨-, c9, -⟩
    · exact absurd z0 hz
    · exact k_f (by rw [c9]; exact hz) hK
  obtain ⟨h1, h8, hU, s, e, k, hse, hk6, hT, ⟨h3, h4, h5⟩, hcase⟩ := h
  rcases hcase with ⟨z0, c9, c10, hC, hM, t, t1, t2, t3⟩ | ⟨z0, c9, c10⟩
  · obtain ⟨m1, -⟩ := hM.one hk6 hT.ne1
    by_cases hk : k = 3
    · have hd : ∀ i, i < e - s → 48 ≤ b (s + i) ∧ b (s + i) ≤ 57 := fun i hi => by
        rcases hT.2 with ⟨a, -⟩ | ⟨-, -, -, hx⟩
        · omega
        · rcases hx with ⟨-, g1, -⟩ | ⟨-, a, -⟩
          · have := g1 (s + i) (by omega) (by omega)
            rw [hk] at this
            have := kV_3.mp this
            omega
          · exact absurd hk a
      have hnr := nr_is hd (e - s) (Nat.le_refl _)
      have c6 := hC.2.2.2 hk
      obtain ⟨u12, u13⟩ := hM.2.2.2.1 hk
      generalize cvN b s (e - s) = cv at hnr c6
      generalize mvN b s (e - s) = mv at hnr u13
      unfold NR at hnr
      have e5 : gI c 5 = (3 : Int32) := by rw [h5, hk]; rfl
      by_cases hin : lo ≤ cv ∧ cv ≤ hi
      · have emv : mv = cv := by omega
        subst emv
        obtain ⟨c', u', r', g', p', -, f1, f2⟩ := st_tok (r := r) hTB (hRR.sa (upd (gA u 5) ix (iI (mv : Int))))
        have e5' : gA u' 5 = upd (gA u 5) ix (iI (mv : Int)) := by rw [g'.2.1]; rfl
        refine ⟨iI (mv : Int), c', z, u', r', by rw [e5']; exact g', p', fun _ => ⟨z0, mv, hin.1, hin.2, rfl, e5'⟩, fun K hK => ?_, fun K hK => k_t z0 ?_⟩
        · unfold f_Re_takeNumber f_Re_checkNumber
          rw [c6]
          refine k_t e5 (b_lt (fun q => by omega) (fun _ => b_le (fun _ => ?_) (fun q => by omega)))
          show f_Re_takeToken r c ta (fun u2 => K (gI c 6) u2)
          rw [c6]
          exact f1 _ hK
        · unfold f_Md_take
          rw [u13, cl_nat (by omega)]
          refine k_t u12 (md_in (fun _ _ => k_f (by decide) ⟨v_nat hix (by decide), ?_⟩) (fun q => by omega) (by omega) (by omega) (by omega))
          exact (f2 _ (by rw [← z0]; exact hK)).1 z0
      · refine bad 2 (by decide) (fun K hK => ?_) (fun K hK => k_t z0 ?_)
        · unfold f_Re_checkNumber
          rw [c6]
          exact k_t e5 (b_lt (fun _ => hK) (fun q => b_le (fun q2 => by omega) (fun _ => hK)))
        · unfold f_Md_take
          rw [u13]
          rw [z0, zf_0] at hK
          exact k_t u12 (md_in (fun a c => by omega) (fun _ => k_t rfl hK) (by omega) (by omega) (by omega))
    · refine bad 1 (by decide) (fun K hK => ?_) (fun K hK => k_t z0 ?_)
      · unfold f_Re_checkNumber
        refine k_f (fun q => hk ?_) hK
        rw [h5] at q
        have := (iI_eq (b := 3) (by omega) (by omega)).mp q
        omega
      · unfold f_Md_take
        rw [z0, zf_0] at hK
        exact k_f (fun q => hk (m1.mp q)) hK
  · refine bad 1 (by decide) (fun K hK => ?_) (fun K hK => k_f z0 (by rw [zf_n z0] at hK; exact hK))
    have hKc : K c := by
      unfold f_Re_fail at hK
      exact hK.2 (by rw [c9]; exact z0)
    unfold f_Re_checkNumber f_Re_fail
    refine k_c (fun _ => k_c (fun _ => k_f (by rw [c9]; exact z0) hKc) (fun _ => k_c (fun _ => hKc) (fun _ => k_f (by rw [c9]; exact z0) hKc))) (fun _ => k_f (by rw [c9]; exact z0) hKc)
end RD
