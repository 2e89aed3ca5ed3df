-- a clause, a text
section TX
variable {np n : Nat} {b : Nat → Nat} {ta : Ob} {r : Nat → Nat}
theorem cs_clause {c u la : Ob} (hTB : TB b n ta) (hnp : np ≤ 5) (hnp1 : 1 ≤ np) (h : RR np b n c u 0) (u0 : gI u 0 = iI np) (hL : L5 np la (gA u 5)) : ∃ c' la' z' u', RR np b n c' u' z' ∧ mH u u' ∧ pos c ≤ pos c' ∧ (z' = 0 → gI c' 5 ≠ 0 → pos c < pos c') ∧ (z' = 0 → L5 np la' (gA u' 5)) ∧ (∀ K : Ob → Ob → Prop, K c' la' → f_Re_readClause r c ta la K) ∧ (∀ K : Int32 → Ob → Prop, K z' u' → f_Md_clause u (SM K)) := by
  have hRR := h
  obtain ⟨h1, h8, hU, s, e, k, hse, hk6, hT, ⟨h3, h4, h5⟩, hcase⟩ := h
  have hM : MTk b s e k u := by
    rcases hcase with ⟨-, -, -, -, hM, -⟩ | ⟨z0, -⟩
    · exact hM
    · exact absurd rfl z0
  have hb := fun i (hi : i < n) => (hTB.2.2 i hi).1
  have cN : ∀ (i : Nat) (A B : Prop), i < 11 → ¬ WM b s e k i → A → f_Re_isWord i r c ta (fun z => (z = 0 → A) ∧ (¬ z = 0 → B)) := fun i A B hi hw hA => cl_isWord hi hTB hse hT.1 hk6 h3 h4 h5 (fun q => absurd q hw) (fun _ => k_t rfl hA)
  have cY : ∀ (i : Nat) (A B : Prop), i < 11 → WM b s e k i → B → f_Re_isWord i r c ta (fun z => (z = 0 → A) ∧ (¬ z = 0 → B)) := fun i A B hi hw hB => cl_isWord hi hTB hse hT.1 hk6 h3 h4 h5 (fun _ => k_f (by decide) hB) (fun q => absurd hw q)
  have mN : ∀ (i C : Nat) (A B : Prop), i < 11 → cdN (wdN i) (slen i) = C → ¬ WM b s e k i → A → f_Md_isWord (iL (C : Int)) u (fun z => (z = 0 → A) ∧ (¬ z = 0 → B)) := fun i C A B hi hC hw hA => by
    rw [← hC]
    exact md_isWord hi hb hT hk6 hM (fun q => absurd q hw) (fun _ => k_t rfl hA)
  have mY : ∀ (i C : Nat) (A B : Prop), i < 11 → cdN (wdN i) (slen i) = C → WM b s e k i → B → f_Md_isWord (iL (C : Int)) u (fun z => (z = 0 → A) ∧ (¬ z = 0 → B)) := fun i C A B hi hC hw hB => by
    rw [← hC]
    exact md_isWord hi hb hT hk6 hM (fun _ => k_f (by decide) hB) (fun q => absurd hw q)
  have q0 : cdN (wdN 0) (slen 0) = ((114 * 256 + 101) * 256 + 115) * 256 + 116 := by decide
  have q1 : cdN (wdN 1) (slen 1) = ((108 * 256 + 111) * 256 + 115) * 256 + 115 := by decide
  have q2 : cdN (wdN 2) (slen 2) = ((108 * 256 + 105) * 256 + 112) * 256 + 115 := by decide
  have q3 : cdN (wdN 3) (slen 3) = ((98 * 256 + 97) * 256 + 99) * 256 + 107 := by decide
  have q9 : cdN (wdN 9) (slen 9) = ((119 * 256 + 111) * 256 + 114) * 256 + 100 := by decide
  have q4 : ((iL (((((103 * 256 + 101) * 256 + 115) * 256 + 116 : Nat)) : Int) <<< ((24 : Int32).toInt64 &&& 63)) ||| (iL ((117 * 256 + 114 : Nat) : Int) <<< ((8 : Int32).toInt64 &&& 63))) ||| (101 : Int64) = iL ((cdN (wdN 4) (slen 4) : Nat) : Int) := by decide
  -- the model's questions
  have m0 : ∀ (A : Int64 → Prop), A (iL (((((114 * 256 + 101) * 256 + 115) * 256 + 116 : Nat)) : Int)) → f_Md_w4 (114 : Int32) (101 : Int32) (115 : Int32) (116 : Int32) A := fun A hA => md_w4 (a := 114) (c := 101) (d := 115) (e := 116) (by decide) (by decide) (by decide) (by decide) hA
  have m1 : ∀ (A : Int64 → Prop), A (iL (((((108 * 256 + 111) * 256 + 115) * 256 + 115 : Nat)) : Int)) → f_Md_w4 (108 : Int32) (111 : Int32) (115 : Int32) (115 : Int32) A := fun A hA => md_w4 (a := 108) (c := 111) (d := 115) (e := 115) (by decide) (by decide) (by decide) (by decide) hA
  have m2 : ∀ (A : Int64 → Prop), A (iL (((((108 * 256 + 105) * 256 + 112) * 256 + 115 : Nat)) : Int)) → f_Md_w4 (108 : Int32) (105 : Int32) (112 : Int32) (115 : Int32) A := fun A hA => md_w4 (a := 108) (c := 105) (d := 112) (e := 115) (by decide) (by decide) (by decide) (by decide) hA
  have m3 : ∀ (A : Int64 → Prop), A (iL (((((98 * 256 + 97) * 256 + 99) * 256 + 107 : Nat)) : Int)) → f_Md_w4 (98 : Int32) (97 : Int32) (99 : Int32) (107 : Int32) A := fun A hA => md_w4 (a := 98) (c := 97) (d := 99) (e := 107) (by decide) (by decide) (by decide) (by decide) hA
  have m4 : ∀ (A : Int64 → Prop), A (iL (((((103 * 256 + 101) * 256 + 115) * 256 + 116 : Nat)) : Int)) → f_Md_w4 (103 : Int32) (101 : Int32) (115 : Int32) (116 : Int32) A := fun A hA => md_w4 (a := 103) (c := 101) (d := 115) (e := 116) (by decide) (by decide) (by decide) (by decide) hA
  have m4' : ∀ (A : Int64 → Prop), A (iL ((117 * 256 + 114 : Nat) : Int)) → f_Md_w2 (117 : Int32) (114 : Int32) A := fun A hA => md_w2 (a := 117) (c := 114) (by decide) (by decide) hA
  have m9 : ∀ (A : Int64 → Prop), A (iL (((((119 * 256 + 111) * 256 + 114) * 256 + 100 : Nat)) : Int)) → f_Md_w4 (119 : Int32) (111 : Int32) (114 : Int32) (100 : Int32) A := fun A hA => md_w4 (a := 119) (c := 111) (d := 114) (e := 100) (by decide) (by decide) (by decide) (by decide) hA
  by_cases w0 : WM b s e k 0
  · obtain ⟨c', la', z', u', x1, x2, x3, x4, x5, x6, x7⟩ := cs_rest (r := r) hTB hnp hRR u0 hL
    refine ⟨c', _, z', u', x1, x2, x3, x4, x5, fun K hK => ?_, fun K hK => ?_⟩
    · unfold f_Re_readClause
      exact cY 0 _ _ (by omega) w0 (x6 _ hK)
    · unfold f_Md_clause
      exact m0 _ (mY 0 _ _ _ (by omega) q0 w0 (x7 K hK))
  · by_cases w1 : WM b s e k 1
    · obtain ⟨v, c', z', u', x1, x2, x3, x4, x5, x6, x7⟩ := cs_part (r := r) (a := 1) (by omega) (by omega) hTB hRR
      refine ⟨c', sI (sI la 1 v) 4 (gI (sI la 1 v) 4 + (1 : Int32)), z', u', x1, x2, x3, x4, fun q => ?_, fun K hK => ?_, fun K hK => ?_⟩
      · obtain ⟨w, hw, ev, eu⟩ := x5 q
        rw [eu, ev]
        exact (hL.part (by omega) hw).cl
      · unfold f_Re_readClause
        exact cN 0 _ _ (by omega) w0 (cY 1 _ _ (by omega) w1 (x6 _ hK))
      · unfold f_Md_clause
        exact m0 _ (mN 0 _ _ _ (by omega) q0 w0 (m1 _ (mY 1 _ _ _ (by omega) q1 w1 (x7 K hK))))
    · by_cases w2 : WM b s e k 2
      · obtain ⟨v, c', z', u', x1, x2, x3, x4, x5, x6, x7⟩ := cs_part (r := r) (a := 2) (by omega) (by omega) hTB hRR
        refine ⟨c', sI (sI la 2 v) 4 (gI (sI la 2 v) 4 + (1 : Int32)), z', u', x1, x2, x3, x4, fun q => ?_, fun K hK => ?_, fun K hK => ?_⟩
        · obtain ⟨w, hw, ev, eu⟩ := x5 q
          rw [eu, ev]
          exact (hL.part (by omega) hw).cl
        · unfold f_Re_readClause
          exact cN 0 _ _ (by omega) w0 (cN 1 _ _ (by omega) w1 (cY 2 _ _ (by omega) w2 (x6 _ hK)))
        · unfold f_Md_clause
          exact m0 _ (mN 0 _ _ _ (by omega) q0 w0 (m1 _ (mN 1 _ _ _ (by omega) q1 w1 (m2 _ (mY 2 _ _ _ (by omega) q2 w2 (x7 K hK))))))
      · by_cases w3 : WM b s e k 3
        · obtain ⟨v, c', z', u', x1, x2, x3, x4, x5, x6, x7⟩ := cs_part (r := r) (a := 3) (by omega) (by omega) hTB hRR
          refine ⟨c', sI (sI la 3 v) 4 (gI (sI la 3 v) 4 + (1 : Int32)), z', u', x1, x2, x3, x4, fun q => ?_, fun K hK => ?_, fun K hK => ?_⟩
          · obtain ⟨w, hw, ev, eu⟩ := x5 q
            rw [eu, ev]
            exact (hL.part (by omega) hw).cl
          · unfold f_Re_readClause
            exact cN 0 _ _ (by omega) w0 (cN 1 _ _ (by omega) w1 (cN 2 _ _ (by omega) w2 (cY 3 _ _ (by omega) w3 (x6 _ hK))))
          · unfold f_Md_clause
            exact m0 _ (mN 0 _ _ _ (by omega) q0 w0 (m1 _ (mN 1 _ _ _ (by omega) q1 w1 (m2 _ (mN 2 _ _ _ (by omega) q2 w2 (m3 _ (mY 3 _ _ _ (by omega) q3 w3 (x7 K hK))))))))
        · -- the model, past the four
          have pre : ∀ K : Int32 → Ob → Prop, f_Md_isWord (iL ((cdN (wdN 4) (slen 4) : Nat) : Int)) u (fun z16 => (z16 = 0 → (f_Md_w4 (119 : Int32) (111 : Int32) (114 : Int32) (100 : Int32) (fun z18 => f_Md_isWord z18 u (fun z19 => (z19 = 0 → (SM K (1 : Int32) u)) ∧ (¬ z19 = 0 → (f_Md_nextToken u (fun u21 => f_Md_wordClause u21 (fun z22 u23 => SM K z22 u23)))))))) ∧ (¬ z16 = 0 → (((gA u 5 4) = (20 : Int32) → (SM K (5 : Int32) u)) ∧ (¬ (gA u 5 4) = (20 : Int32) → (f_Md_nextToken u (fun u25 => f_Md_gesture u25 (fun z26 u27 => SM K z26 u27))))))) → f_Md_clause u (SM K) := by
            intro K hK
            rw [← q4] at hK
            unfold f_Md_clause
            exact m0 _ (mN 0 _ _ _ (by omega) q0 w0 (m1 _ (mN 1 _ _ _ (by omega) q1 w1 (m2 _ (mN 2 _ _ _ (by omega) q2 w2 (m3 _ (mN 3 _ _ _ (by omega) q3 w3 (m4 _ (m4' _ (k_n hK))))))))))
          by_cases w4 : WM b s e k 4
          · obtain ⟨c', la', z', u', x1, x2, x3, x4, x5, x6, x7⟩ := cs_gest (r := r) hTB hnp hnp1 hRR u0 hL
            refine ⟨c', _, z', u', x1, x2, x3, x4, x5, fun K hK => ?_, fun K hK => pre K (mY 4 _ _ _ (by omega) rfl w4 (x7 K hK))⟩
            unfold f_Re_readClause
            exact cN 0 _ _ (by omega) w0 (cN 1 _ _ (by omega) w1 (cN 2 _ _ (by omega) w2 (cN 3 _ _ (by omega) w3 (cY 4 _ _ (by omega) w4 (x6 _ hK)))))
          · by_cases w9 : WM b s e k 9
            · obtain ⟨c', la', z', u', x1, x2, x3, x4, x5, x6, x7⟩ := cs_word (r := r) hTB hRR hL
              refine ⟨c', _, z', u', x1, x2, x3, x4, x5, fun K hK => ?_, fun K hK => pre K (mN 4 _ _ _ (by omega) rfl w4 (m9 _ (mY 9 _ _ _ (by omega) q9 w9 (x7 K hK))))⟩
              unfold f_Re_readClause
              exact cN 0 _ _ (by omega) w0 (cN 1 _ _ (by omega) w1 (cN 2 _ _ (by omega) w2 (cN 3 _ _ (by omega) w3 (cN 4 _ _ (by omega) w4 (cY 9 _ _ (by omega) w9 (x6 _ hK))))))
            · obtain ⟨d1, r1, p1, f1⟩ := st_fail (r := r) (1 : Int32) (by decide) hRR
              rw [zf_0] at r1
              refine ⟨d1, sI la 4 (gI la 4 + (1 : Int32)), 1, u, r1, mH.rf u, by omega, fun q => absurd q (by decide), fun q => absurd q (by decide), fun K hK => ?_, fun K hK => pre K (mN 4 _ _ _ (by omega) rfl w4 (m9 _ (mN 9 _ _ _ (by omega) q9 w9 (k_f (by decide) hK))))⟩
              unfold f_Re_readClause
              exact cN 0 _ _ (by omega) w0 (cN 1 _ _ (by omega) w1 (cN 2 _ _ (by omega) w2 (cN 3 _ _ (by omega) w3 (cN 4 _ _ (by omega) w4 (cN 9 _ _ (by omega) w9 (f1 _ hK))))))
theorem text_loop {q0 : Nat → Nat} {h5 : Nat} {o0 o4 mo : Ob} {r1 r3 r4 : Nat → Nat} (hTB : TB b n ta) (hnp : np ≤ 5) (hnp1 : 1 ≤ np) : ∀ (d i : Nat) (c la u : Ob), d + i = 400 → RR np b n c u 0 → gI u 0 = iI np → L5 np la (gA u 5) → (gI c 5 ≠ 0 → i < pos c) → ∃ c' la' z' u', RR np b n c' u' z' ∧ mH u u' ∧ (z' = 0 → L5 np la' (gA u' 5)) ∧ (∃ w, ∀ Q : Int32 → Ob → Ob → (Nat → Nat) → Ob → Ob → Prop, f_PV_text_45 q0 h5 o0 r1 r4 o4 Q c' ta r3 mo la' → f_PV_text_15 q0 h5 o0 r1 r4 o4 Q w (iI i) c ta r3 mo la) ∧ (∃ w, ∀ Q : Int32 → Ob → Prop, Q z' u' → f_Md_readText_18 Q w u) := by
  have hn := hTB.1
  intro d
  induction d with
  | zero =>
    intro i c la u hi h u0 hL hp
    have : i = 400 := by omega
    subst this
    have hpos := h.pos hn
    have hk : gI c 5 = 0 := by
      by_cases q : gI c 5 = 0
      · exact q
      · have := hp q
        omega
    refine ⟨c, la, 0, u, h, mH.rf u, fun _ => hL, ⟨1, fun Q hQ => ?_⟩, ⟨1, fun Q hQ => ?_⟩⟩
    · unfold f_PV_text_15
      exact k_t (by decide) hQ
    · unfold f_Md_readText_18
      exact k_t (h.kd.2.2.mp hk) hQ
  | succ d ih =>
    intro i c la u hi h u0 hL hp
    have ei : iI (i : Int) + (1 : Int32) = iI ((i + 1 : Nat) : Int) := ix_add i 1
    by_cases hk : gI c 5 = 0
    · refine ⟨c, la, 0, u, h, mH.rf u, fun _ => hL, ⟨1, fun Q hQ => ?_⟩, ⟨1, fun Q hQ => ?_⟩⟩
      · unfold f_PV_text_15 f_Re_goesOn
        exact b_le (a := 400) (fun q => by omega) (fun _ => k_t hk (k_t rfl hQ))
      · unfold f_Md_readText_18
        exact k_t (h.kd.2.2.mp hk) hQ
    · have hpc := hp hk
      obtain ⟨c1, la1, z1, u1, x1, x2, x3, x4, x5, x6, x7⟩ := cs_clause (r := up r1 2 h5) hTB hnp hnp1 h u0 hL
      have cpre : ∀ (w : Nat) (Q : Int32 → Ob → Ob → (Nat → Nat) → Ob → Ob → Prop), f_PV_text_15 q0 h5 o0 r1 r4 o4 Q w (iI ((i + 1 : Nat) : Int)) c1 ta r3 mo la1 → f_PV_text_15 q0 h5 o0 r1 r4 o4 Q (w + 1) (iI i) c ta r3 mo la := by
        intro w Q hQ
        unfold f_PV_text_15 f_Re_goesOn
        rw [ei]
        exact b_le (a := 400) (fun q => by omega) (fun _ => k_f hk (k_t h.g9 (k_f (by decide) (x6 _ hQ))))
      have mpre : ∀ (w : Nat) (Q : Int32 → Ob → Prop), (z1 = 0 → f_Md_readText_18 Q w u1) → (z1 ≠ 0 → Q z1 u1) → f_Md_readText_18 Q (w + 1) u := by
        intro w Q hq1 hq2
        have eK : SM (fun z => if z = 0 then f_Md_readText_18 Q w else Q z) = (fun z2 u3 => (z2 = 0 → (((gI u3 12) = (59 : Int32) → (f_Md_nextToken (sA u3 5 (upd (gA u3 5) 0 (((gA u3 5) 0) + (1 : Int32)))) (fun u6 => (f_Md_readText_18 Q w) u6))) ∧ (¬ (gI u3 12) = (59 : Int32) → (Q (1 : Int32) u3)))) ∧ (¬ z2 = 0 → (Q z2 u3))) := by
          funext z2 u3
          have k0 : (if (0 : Int32) = 0 then f_Md_readText_18 Q w else Q 0) = f_Md_readText_18 Q w := if_pos rfl
          have k1 : (if (1 : Int32) = 0 then f_Md_readText_18 Q w else Q 1) = Q 1 := if_neg (by decide)
          unfold SM
          simp only [k0, k1]
          apply propext
          refine ⟨fun hh => ⟨hh.1, fun q => ?_⟩, fun hh => ⟨hh.1, fun q => ?_⟩⟩
          · have := hh.2 q
            rw [if_neg q] at this
            exact this
          · rw [if_neg q]
            exact hh.2 q
        have := x7 (fun z => if z = 0 then f_Md_readText_18 Q w else Q z) (by
          by_cases q : z1 = 0
          · rw [if_pos q]; exact hq1 q
          · rw [if_neg q]; exact hq2 q)
        rw [eK] at this
        unfold f_Md_readText_18
        exact k_f (fun q => hk (h.kd.2.2.mpr q)) this
      by_cases hz : z1 = 0
      · subst hz
        obtain ⟨c', la', z', u', y1, y2, y3, ⟨wf, y4⟩, ⟨wm, y5⟩⟩ := ih (i + 1) c1 la1 u1 (by omega) x1 (by rw [x2.1 0 (by omega)]; exact u0) (x5 rfl) (fun q => by have := x4 rfl q; omega)
        exact ⟨c', la', z', u', y1, x2.tr y2, y3, ⟨wf + 1, fun Q hQ => cpre wf Q (y4 Q hQ)⟩, ⟨wm + 1, fun Q hQ => mpre wm Q (fun _ => y5 Q hQ) (fun q => absurd rfl q)⟩⟩
      · have n9 := x1.n9 hz
        refine ⟨c1, la1, z1, u1, x1, x2, fun q => absurd q hz, ⟨1 + 1, fun Q hQ => cpre 1 Q ?_⟩, ⟨1 + 1, fun Q hQ => mpre 1 Q (fun q => absurd q hz) (fun _ => hQ)⟩⟩
        unfold f_PV_text_15 f_Re_goesOn
        exact k_c (fun _ => hQ) (fun _ => k_c (fun _ => k_t rfl hQ) (fun _ => k_f n9 (k_t rfl hQ)))
end TX
