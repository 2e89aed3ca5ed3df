-- a gesture's clause
theorem md_w2 {a c : Nat} {K : Int64 → Prop} (ha : a < 256) (hc : c < 256) (hK : K (iL ((a * 256 + c : Nat) : Int))) : f_Md_w2 (iI a) (iI c) K := by
  unfold f_Md_w2
  rw [iI_toL (by omega) (by omega)]
  refine k_n ?_
  rw [lsh (by omega) hc]
  exact hK
theorem md_w4 {a c d e : Nat} {K : Int64 → Prop} (ha : a < 256) (hc : c < 256) (hd : d < 256) (he : e < 256) (hK : K (iL ((((a * 256 + c) * 256 + d) * 256 + e : Nat) : Int))) : f_Md_w4 (iI a) (iI c) (iI d) (iI e) K := by
  unfold f_Md_w4
  rw [iI_toL (z := (a : Int)) (by omega) (by omega)]
  refine k_n ?_
  rw [lsh (by omega) hc]
  refine k_n ?_
  rw [lsh (by omega) hd]
  refine k_n ?_
  rw [lsh (by omega) he]
  exact hK
section GC
variable {np n : Nat} {b : Nat → Nat} {ta : Ob} {r : Nat → Nat}
theorem fl_num {lo hi : Int32} {c : Ob} {K : Int32 → Ob → Prop} (h9 : ¬ gI c 9 = 0) (hK : K (gI c 6) c) : f_Re_takeNumber lo hi r c ta K := by
  unfold f_Re_takeNumber f_Re_checkNumber
  have t : f_Re_takeToken r c ta (fun u2 => K (gI c 6) u2) := fl_tok h9 hK
  exact k_c (fun _ => k_c (fun _ => fl_fail h9 t) (fun _ => k_c (fun _ => t) (fun _ => fl_fail h9 t))) (fun _ => fl_fail h9 t)
theorem fl_word {i : Nat} {c u : Ob} {z : Int32} {K : Ob → Prop} (hi : i < 11) (hTB : TB b n ta) (h : RR np b n c u z) (hz : z ≠ 0) (hK : K c) : f_Re_takeWord i r c ta K := by
  have h9 := h.n9 hz
  obtain ⟨-, -, -, s, e, k, hse, hk6, hT, ⟨h3, h4, h5⟩, -⟩ := h
  unfold f_Re_takeWord
  exact cl_isWord hi hTB hse hT.1 hk6 h3 h4 h5 (fun _ => k_f (by decide) (fl_tok h9 hK)) (fun _ => k_t rfl (fl_fail h9 (fl_tok h9 hK)))
theorem L5.gest {g l p w s h t : Nat} {la : Ob} {f : Nat → Int32} (hL : L5 np la f) (hg : gI la 5 = iI g) (hg20 : g < 20) (hl : l ≤ 7) (hp : p ≤ np - 1) (hw : 1 ≤ w ∧ w ≤ 12) (hs : 1 ≤ s ∧ s ≤ 6) (hh : 1 ≤ h ∧ h ≤ 50) (ht : t ≤ 9) :
    L5 np (sA (sA (sA (sA (sA (sA (sI la 5 (iI ((g + 1 : Nat) : Int))) 6 (upd (gA la 6) g (iI l))) 7 (upd (gA la 7) g (iI p))) 8 (upd (gA la 8) g (iI w))) 9 (upd (gA la 9) g (iI s))) 10 (upd (gA la 10) g (iI h))) 11 (upd (gA la 11) g (iI t))) (upd (upd (upd (upd (upd (upd (upd f (10 + 6 * g) (iI l)) (11 + 6 * g) (iI p)) (12 + 6 * g) (iI w)) (13 + 6 * g) (iI s)) (14 + 6 * g) (iI h)) (15 + 6 * g) (iI t)) 4 (iI ((g + 1 : Nat) : Int))) := by
  have ho : ∀ i, i ≠ 4 → (i < 10 + 6 * g ∨ 15 + 6 * g < i) → upd (upd (upd (upd (upd (upd (upd f (10 + 6 * g) (iI l)) (11 + 6 * g) (iI p)) (12 + 6 * g) (iI w)) (13 + 6 * g) (iI s)) (14 + 6 * g) (iI h)) (15 + 6 * g) (iI t)) 4 (iI ((g + 1 : Nat) : Int)) i = f i := fun i h4 hi => by
    rw [upd_ne _ _ _ _ h4, upd_ne _ _ _ _ (by omega), upd_ne _ _ _ _ (by omega), upd_ne _ _ _ _ (by omega), upd_ne _ _ _ _ (by omega), upd_ne _ _ _ _ (by omega), upd_ne _ _ _ _ (by omega)]
  obtain ⟨h1, h2, h3, h4, h5, ⟨g', g1, g2, g3, g4⟩, h7⟩ := hL
  have eg : g' = g := by
    rw [g2] at hg
    have := (iI_eq (by omega) (by omega)).mp hg
    omega
  subst eg
  refine ⟨fun i hi => ?_, ?_, ?_, ?_, ?_, ⟨g' + 1, by omega, rfl, upd_same _ _ _, fun i hi => ?_⟩, fun v hv => (h7 v hv).cg rfl (fun _ _ => ⟨rfl, rfl⟩) (fun j _ _ => ho j (by omega) (by omega))⟩
  · rw [ho _ (by omega) (by omega)]; exact h1 i hi
  · rw [ho _ (by omega) (by omega)]; exact h2
  · rw [ho _ (by omega) (by omega)]; exact h3
  · rw [ho _ (by omega) (by omega)]; exact h4
  · rw [ho _ (by omega) (by omega)]; exact h5
  · by_cases e : i = g'
    · subst e
      have f0 : upd (upd (upd (upd (upd (upd (upd f (10 + 6 * i) (iI l)) (11 + 6 * i) (iI p)) (12 + 6 * i) (iI w)) (13 + 6 * i) (iI s)) (14 + 6 * i) (iI h)) (15 + 6 * i) (iI t)) 4 (iI ((i + 1 : Nat) : Int)) (10 + 6 * i) = iI l := by
        rw [upd_ne _ _ _ _ (by omega), upd_ne _ _ _ _ (by omega), upd_ne _ _ _ _ (by omega), upd_ne _ _ _ _ (by omega), upd_ne _ _ _ _ (by omega), upd_ne _ _ _ _ (by omega), upd_same]
      have f1 : upd (upd (upd (upd (upd (upd (upd f (10 + 6 * i) (iI l)) (11 + 6 * i) (iI p)) (12 + 6 * i) (iI w)) (13 + 6 * i) (iI s)) (14 + 6 * i) (iI h)) (15 + 6 * i) (iI t)) 4 (iI ((i + 1 : Nat) : Int)) (11 + 6 * i) = iI p := by
        rw [upd_ne _ _ _ _ (by omega), upd_ne _ _ _ _ (by omega), upd_ne _ _ _ _ (by omega), upd_ne _ _ _ _ (by omega), upd_ne _ _ _ _ (by omega), upd_same]
      have f2 : upd (upd (upd (upd (upd (upd (upd f (10 + 6 * i) (iI l)) (11 + 6 * i) (iI p)) (12 + 6 * i) (iI w)) (13 + 6 * i) (iI s)) (14 + 6 * i) (iI h)) (15 + 6 * i) (iI t)) 4 (iI ((i + 1 : Nat) : Int)) (12 + 6 * i) = iI w := by
        rw [upd_ne _ _ _ _ (by omega), upd_ne _ _ _ _ (by omega), upd_ne _ _ _ _ (by omega), upd_ne _ _ _ _ (by omega), upd_same]
      have f3 : upd (upd (upd (upd (upd (upd (upd f (10 + 6 * i) (iI l)) (11 + 6 * i) (iI p)) (12 + 6 * i) (iI w)) (13 + 6 * i) (iI s)) (14 + 6 * i) (iI h)) (15 + 6 * i) (iI t)) 4 (iI ((i + 1 : Nat) : Int)) (13 + 6 * i) = iI s := by
        rw [upd_ne _ _ _ _ (by omega), upd_ne _ _ _ _ (by omega), upd_ne _ _ _ _ (by omega), upd_same]
      have f4 : upd (upd (upd (upd (upd (upd (upd f (10 + 6 * i) (iI l)) (11 + 6 * i) (iI p)) (12 + 6 * i) (iI w)) (13 + 6 * i) (iI s)) (14 + 6 * i) (iI h)) (15 + 6 * i) (iI t)) 4 (iI ((i + 1 : Nat) : Int)) (14 + 6 * i) = iI h := by
        rw [upd_ne _ _ _ _ (by omega), upd_ne _ _ _ _ (by omega), upd_same]
      have f5 : upd (upd (upd (upd (upd (upd (upd f (10 + 6 * i) (iI l)) (11 + 6 * i) (iI p)) (12 + 6 * i) (iI w)) (13 + 6 * i) (iI s)) (14 + 6 * i) (iI h)) (15 + 6 * i) (iI t)) 4 (iI ((i + 1 : Nat) : Int)) (15 + 6 * i) = iI t := by
        rw [upd_ne _ _ _ _ (by omega), upd_same]
      unfold G5
      rw [f0, f1, f2, f3, f4, f5]
      exact ⟨⟨upd_same _ _ _, l, hl, rfl⟩, ⟨upd_same _ _ _, p, hp, rfl⟩, ⟨upd_same _ _ _, w, hw.1, hw.2, rfl⟩, ⟨upd_same _ _ _, s, hs.1, hs.2, rfl⟩, ⟨upd_same _ _ _, h, hh.1, hh.2, rfl⟩, upd_same _ _ _, t, ht, rfl⟩
    · refine (g4 i (by omega)).cg (fun k k1 k2 => ?_) (fun j _ _ => ho j (by omega) (by omega))
      have hk : k = 6 ∨ k = 7 ∨ k = 8 ∨ k = 9 ∨ k = 10 ∨ k = 11 := by omega
      rcases hk with rfl | rfl | rfl | rfl | rfl | rfl
      all_goals exact upd_ne _ _ _ _ e
theorem cs_gest {c u la : Ob} (hTB : TB b n ta) (hnp : np ≤ 5) (hnp1 : 1 ≤ np) (h : RR np b n c u 0) (u0 : gI u 0 = iI np) (hL : L5 np la (gA u 5)) : ∃ c' la' z' u', RR np b n c' u' z' ∧ mH u u' ∧ pos c ≤ pos c' ∧ (z' = 0 → gI c' 5 ≠ 0 → pos c < pos c') ∧ (z' = 0 → L5 np (sI la' 4 (gI la' 4 + (1 : Int32))) (gA u' 5)) ∧ (∀ K : Ob → Ob → Prop, K c' la' → f_Re_readGesture r c ta la K) ∧ (∀ K : Int32 → Ob → Prop, K z' u' → ((gA u 5 4) = (20 : Int32) → SM K (5 : Int32) u) ∧ (¬ (gA u 5 4) = (20 : Int32) → f_Md_nextToken u (fun u25 => f_Md_gesture u25 (SM K)))) := by
  obtain ⟨g, g1, g2, g3, -⟩ := hL.2.2.2.2.2.1
  by_cases hg : g = 20
  · obtain ⟨d1, r1, p1, f1⟩ := st_fail (r := r) (5 : Int32) (by decide) h
    rw [zf_0] at r1
    refine ⟨d1, la, 5, u, r1, mH.rf u, by omega, fun q => absurd q (by decide), fun q => absurd q (by decide), fun K hK => ?_, fun K hK => ?_⟩
    · unfold f_Re_readGesture
      rw [g2]
      exact b_lt (b := 20) (fun q => by omega) (fun _ => f1 _ hK)
    · rw [g3, hg]
      exact k_t rfl (k_f (by decide) hK)
  · have n20 : ¬ gA u 5 4 = (20 : Int32) := by
      rw [g3]
      intro q
      have := (iI_eq (b := 20) (by omega) (by omega)).mp q
      omega
    have vg : vp_in (iI (g : Int)) 20 := v_nat (by omega) (by decide)
    have eg1 : iI (g : Int) + (1 : Int32) = iI ((g + 1 : Nat) : Int) := ix_add g 1
    obtain ⟨c1, u1, r1, m1, p1, -, f1, k1⟩ := st_tok (r := r) hTB h
    have e1 : gA u1 5 = gA u 5 := by rw [m1.2.1]
    have u10 : gI u1 0 = iI np := by rw [m1.1 0 (by omega)]; exact u0
    obtain ⟨v2, c2, z2, hv2, r2, p2, w2, w2', -, f2⟩ := st_letter (r := r) hTB r1
    have ex : (10 : Int32) + (6 : Int32) * (gA u1 5 4) = iI ((10 + 6 * g : Nat) : Int) := by
      rw [e1, g3, show (6 : Int32) = iI 6 from rfl, show (10 : Int32) = iI 10 from rfl, iI_mul, iI_add]; congr 1
    by_cases hz2 : z2 = 0
    · subst hz2
      obtain ⟨-, u12, l, l8, ev2, u14⟩ := w2 rfl
      obtain ⟨c3, u3, r3, m3, p3, -, f3, k3⟩ := st_tok (r := r) hTB (r2.sa (upd (gA u1 5) (10 + 6 * g) (iI l)))
      have e3 : gA u3 5 = upd (gA u 5) (10 + 6 * g) (iI l) := by rw [m3.2.1, ← e1]; rfl
      have u30 : gI u3 0 = iI np := by rw [m3.1 0 (by omega)]; exact u10
      have enp : iI (np : Int) - (1 : Int32) = iI ((np - 1 : Nat) : Int) := by rw [show (1 : Int32) = iI 1 from rfl, iI_sub]; congr 1; omega
      obtain ⟨v4, c4, z4, u4, r4, m4, p4, w4, f4, k4⟩ := st_num (r := r) (lo := 0) (hi := np - 1) (ix := 11 + 6 * g) hTB (by omega) (by omega) (by omega) r3
      obtain ⟨c5, z5, u5, r5, m5, p5, w5, f5, k5⟩ := st_word (r := r) (i := 5) (by omega) hTB r4
      obtain ⟨v6, c6, z6, u6, r6, m6, p6, w6, f6, k6⟩ := st_num (r := r) (lo := 1) (hi := 12) (ix := 12 + 6 * g) hTB (by omega) (by omega) (by omega) r5
      obtain ⟨c7, z7, u7, r7, m7, p7, w7, f7, k7⟩ := st_word (r := r) (i := 6) (by omega) hTB r6
      obtain ⟨v8, c8, z8, u8, r8, m8, p8, w8, f8, k8⟩ := st_num (r := r) (lo := 1) (hi := 6) (ix := 13 + 6 * g) hTB (by omega) (by omega) (by omega) r7
      obtain ⟨c9, z9, u9, r9, m9, p9, w9, f9, k9⟩ := st_word (r := r) (i := 7) (by omega) hTB r8
      obtain ⟨va, ca, za, ua, ra, ma, pa, wa, fa, ka⟩ := st_num (r := r) (lo := 1) (hi := 50) (ix := 14 + 6 * g) hTB (by omega) (by omega) (by omega) r9
      obtain ⟨cb, zb, ub, rb, mb, pb, wb, fb, kb_⟩ := st_word (r := r) (i := 8) (by omega) hTB ra
      obtain ⟨vc, cc, zc, uc, rc, mc, pc, wc, fc, kc⟩ := st_num (r := r) (lo := 0) (hi := 9) (ix := 15 + 6 * g) hTB (by omega) (by omega) (by omega) rb
      have mm : mH u uc := m1.H.tr (m3.H5.tr (m4.H5.tr (m5.H.tr (m6.H5.tr (m7.H.tr (m8.H5.tr (m9.H.tr (ma.H5.tr (mb.H.tr mc.H5)))))))))
      have q5 : cdN (wdN 5) (slen 5) = 116 * 256 + 111 := by decide
      have q6 : cdN (wdN 6) (slen 6) = 98 * 256 + 121 := by decide
      have q7 : cdN (wdN 7) (slen 7) = ((104 * 256 + 111) * 256 + 108) * 256 + 100 := by decide
      have q8 : (iL (((((115 * 256 + 116) * 256 + 114) * 256 + 111 : Nat)) : Int) <<< ((16 : Int32).toInt64 &&& 63)) ||| iL ((110 * 256 + 103 : Nat) : Int) = iL ((cdN (wdN 8) (slen 8) : Nat) : Int) := by decide
      rw [q5] at k5
      rw [q6] at k7
      rw [q7] at k9
      -- the class, to its semicolon
      have cls : ∀ (cd : Ob) (K : Ob → Ob → Prop), (∀ K' : Ob → Prop, K' cd → f_Re_takeSemicolon r cc ta K') → K cd (sA (sA (sA (sA (sA (sA (sI la 5 (iI ((g + 1 : Nat) : Int))) 6 (upd (gA la 6) g v2)) 7 (upd (gA la 7) g v4)) 8 (upd (gA la 8) g v6)) 9 (upd (gA la 9) g v8)) 10 (upd (gA la 10) g va)) 11 (upd (gA la 11) g vc)) → f_Re_readGesture r c ta la K := by
        intro cd K hs hK
        unfold f_Re_readGesture
        rw [g2, eg1, cl_nat (by omega)]
        refine b_lt (b := 20) (fun _ => f1 _ (f2 _ ⟨vg, f3 _ ?_⟩)) (fun q => by omega)
        show f_Re_takeNumber (0 : Int32) (gI c3 1 - (1 : Int32)) r c3 ta _
        rw [r3.1, enp]
        exact f4 _ ⟨vg, f5 _ (f6 _ ⟨vg, f7 _ (f8 _ ⟨vg, f9 _ (fa _ ⟨vg, fb _ (fc _ ⟨vg, hs _ hK⟩)⟩)⟩)⟩)⟩
      -- the model, to its end
      have mdl : ∀ K : Int32 → Ob → Prop, f_Md_gesture_195 (SM K) zc uc → ((gA u 5 4) = (20 : Int32) → SM K (5 : Int32) u) ∧ (¬ (gA u 5 4) = (20 : Int32) → f_Md_nextToken u (fun u25 => f_Md_gesture u25 (SM K))) := by
        intro K hK
        have x2 : iI ((10 + 6 * g : Nat) : Int) + (2 : Int32) = iI ((12 + 6 * g : Nat) : Int) := by rw [show (2 : Int32) = iI 2 from rfl, iI_add]; congr 1; omega
        have x3 : iI ((10 + 6 * g : Nat) : Int) + (3 : Int32) = iI ((13 + 6 * g : Nat) : Int) := by rw [show (3 : Int32) = iI 3 from rfl, iI_add]; congr 1; omega
        have x4 : iI ((10 + 6 * g : Nat) : Int) + (4 : Int32) = iI ((14 + 6 * g : Nat) : Int) := by rw [show (4 : Int32) = iI 4 from rfl, iI_add]; congr 1; omega
        have x5 : iI ((10 + 6 * g : Nat) : Int) + (5 : Int32) = iI ((15 + 6 * g : Nat) : Int) := by rw [show (5 : Int32) = iI 5 from rfl, iI_add]; congr 1; omega
        have x1 : iI ((10 + 6 * g : Nat) : Int) + (1 : Int32) = iI ((11 + 6 * g : Nat) : Int) := by rw [show (1 : Int32) = iI 1 from rfl, iI_add]; congr 1; omega
        have h180 : f_Md_gesture_180 (SM K) (iI ((10 + 6 * g : Nat) : Int)) zb ub := by
          unfold f_Md_gesture_180
          rw [x5]
          exact kc (fun z3 u4 => f_Md_gesture_195 (SM K) z3 u4) hK
        have h149 : f_Md_gesture_149 (SM K) (iI ((10 + 6 * g : Nat) : Int)) za ua := by
          have := kb_ (fun z9 u10 => f_Md_gesture_180 (SM K) (iI ((10 + 6 * g : Nat) : Int)) z9 u10) h180
          unfold f_Md_gesture_149
          refine ⟨fun q => md_w4 (a := 115) (c := 116) (d := 114) (e := 111) (by decide) (by decide) (by decide) (by decide) (md_w2 (a := 110) (c := 103) (by decide) (by decide) (k_e q8 (this.1 q))), this.2⟩
        have h134 : f_Md_gesture_134 (SM K) (iI ((10 + 6 * g : Nat) : Int)) z9 u9 := by
          unfold f_Md_gesture_134
          rw [x4]
          exact ka (fun z u => f_Md_gesture_149 (SM K) (iI ((10 + 6 * g : Nat) : Int)) z u) h149
        have h114 : f_Md_gesture_114 (SM K) (iI ((10 + 6 * g : Nat) : Int)) z8 u8 := by
          have := k9 (fun z u => f_Md_gesture_134 (SM K) (iI ((10 + 6 * g : Nat) : Int)) z u) h134
          unfold f_Md_gesture_114
          exact ⟨fun q => md_w4 (a := 104) (c := 111) (d := 108) (e := 100) (by decide) (by decide) (by decide) (by decide) (this.1 q), this.2⟩
        have h99 : f_Md_gesture_99 (SM K) (iI ((10 + 6 * g : Nat) : Int)) z7 u7 := by
          unfold f_Md_gesture_99
          rw [x3]
          exact k8 (fun z u => f_Md_gesture_114 (SM K) (iI ((10 + 6 * g : Nat) : Int)) z u) h114
        have h83 : f_Md_gesture_83 (SM K) (iI ((10 + 6 * g : Nat) : Int)) z6 u6 := by
          have := k7 (fun z u => f_Md_gesture_99 (SM K) (iI ((10 + 6 * g : Nat) : Int)) z u) h99
          unfold f_Md_gesture_83
          exact ⟨fun q => md_w2 (a := 98) (c := 121) (by decide) (by decide) (this.1 q), this.2⟩
        have h68 : f_Md_gesture_68 (SM K) (iI ((10 + 6 * g : Nat) : Int)) z5 u5 := by
          unfold f_Md_gesture_68
          rw [x2]
          exact k6 (fun z u => f_Md_gesture_83 (SM K) (iI ((10 + 6 * g : Nat) : Int)) z u) h83
        have hto := k5 (fun z u => f_Md_gesture_68 (SM K) (iI ((10 + 6 * g : Nat) : Int)) z u) h68
        have htk : f_Md_take (0 : Int32) (gI u3 0 - (1 : Int32)) (iI ((11 + 6 * g : Nat) : Int)) u3 (fun z32 u33 => (z32 = 0 → f_Md_w2 (116 : Int32) (111 : Int32) (fun z35 => f_Md_need z35 u33 (fun z36 u37 => f_Md_gesture_68 (SM K) (iI ((10 + 6 * g : Nat) : Int)) z36 u37))) ∧ (¬ z32 = 0 → f_Md_gesture_68 (SM K) (iI ((10 + 6 * g : Nat) : Int)) z32 u33)) := by
          rw [u30, enp]
          exact (k4 _ ⟨fun q => md_w2 (a := 116) (c := 111) (by decide) (by decide) (hto.1 q), hto.2⟩).1 rfl
        refine k_f n20 ((k1 _ ?_).1 rfl)
        unfold f_Md_gesture
        rw [ex, cl_nat (by omega), u14]
        refine k_t u12 ⟨v_nat (by omega) (by decide), (k3 _ ?_).1 rfl⟩
        exact k_e x1 htk
      by_cases hzc : zc = 0
      · subst hzc
        obtain ⟨zb0, t, -, t9, evc, ec⟩ := wc rfl
        obtain ⟨za0⟩ := wb zb0
        obtain ⟨z90, hh, hh1, hh2, eva, ea⟩ := wa (wb zb0)
        obtain ⟨z70, s, s1, s2, ev8, e8⟩ := w8 (w9 z90)
        obtain ⟨z50, w, wl1, wl2, ev6, e6⟩ := w6 (w7 z70)
        obtain ⟨-, p, -, pp, ev4, e4⟩ := w4 (w5 z50)
        have e5' : gA u5 5 = gA u4 5 := by rw [m5.2.1]
        have e7' : gA u7 5 = gA u6 5 := by rw [m7.2.1]
        have e9' : gA u9 5 = gA u8 5 := by rw [m9.2.1]
        have eb' : gA ub 5 = gA ua 5 := by rw [mb.2.1]
        have ef : gA uc 5 = upd (upd (upd (upd (upd (upd (gA u 5) (10 + 6 * g) (iI l)) (11 + 6 * g) (iI p)) (12 + 6 * g) (iI w)) (13 + 6 * g) (iI s)) (14 + 6 * g) (iI hh)) (15 + 6 * g) (iI t) := by
          rw [ec, eb', ea, e9', e8, e7', e6, e5', e4, e3]
        have e4c : gA uc 5 4 = iI g := by
          rw [ef, upd_ne _ _ _ _ (by omega), upd_ne _ _ _ _ (by omega), upd_ne _ _ _ _ (by omega), upd_ne _ _ _ _ (by omega), upd_ne _ _ _ _ (by omega), upd_ne _ _ _ _ (by omega)]
          exact g3
        have hLg := hL.gest (l := l) (p := p) (w := w) (s := s) (h := hh) (t := t) g2 (by omega) (by omega) pp ⟨wl1, wl2⟩ ⟨s1, s2⟩ ⟨hh1, hh2⟩ t9
        rw [← ef] at hLg
        obtain ⟨cd, zd, ud, rd, md, pd, sd, wd, fd, kd⟩ := st_semi (r := r) hTB (rc.sa (upd (gA uc 5) 4 (iI ((g + 1 : Nat) : Int))))
        refine ⟨cd, _, zd, ud, rd, mm.tr (mG.H5 (u := uc) (by rw [sA_sA] at md; exact md)), by omega, fun q q5 => by have := sd q q5; omega, fun q => ?_, fun K hK => cls cd K fd hK, fun K hK => mdl K ?_⟩
        · obtain ⟨-, -, ed⟩ := wd q
          rw [ed, ev2, ev4, ev6, ev8, eva, evc]
          exact hLg.cl
        · unfold f_Md_gesture_195
          rw [e4c, eg1]
          exact k_t rfl (kd K hK)
      · have n9 := rc.n9 hzc
        refine ⟨cc, _, zc, uc, rc, mm, by omega, fun q => absurd q hzc, fun q => absurd q hzc, fun K hK => cls cc K (fun K' hK' => fl_semi n9 hK') hK, fun K hK => mdl K ?_⟩
        unfold f_Md_gesture_195
        exact k_f hzc (k_f hzc hK)
    · obtain ⟨ez, u12, ev⟩ := w2' rfl hz2
      have n9 := r2.n9 hz2
      refine ⟨c2, sA (sA (sA (sA (sA (sA (sI la 5 (iI ((g + 1 : Nat) : Int))) 6 (upd (gA la 6) g v2)) 7 (upd (gA la 7) g (gI c2 6))) 8 (upd (gA la 8) g (gI c2 6))) 9 (upd (gA la 9) g (gI c2 6))) 10 (upd (gA la 10) g (gI c2 6))) 11 (upd (gA la 11) g (gI c2 6)), z2, u1, r2, m1.H, by omega, fun q => absurd q hz2, fun q => absurd q hz2, fun K hK => ?_, fun K hK => k_f n20 ((k1 _ ?_).1 rfl)⟩
      · unfold f_Re_readGesture
        rw [g2, eg1, cl_nat (by omega)]
        refine b_lt (b := 20) (fun _ => f1 _ (f2 _ ⟨vg, fl_tok n9 (fl_num n9 ⟨vg, ?_⟩)⟩)) (fun q => by omega)
        exact fl_word (by omega) hTB r2 hz2 (fl_num n9 ⟨vg, fl_word (by omega) hTB r2 hz2 (fl_num n9 ⟨vg, fl_word (by omega) hTB r2 hz2 (fl_num n9 ⟨vg, fl_word (by omega) hTB r2 hz2 (fl_num n9 ⟨vg, fl_semi n9 hK⟩)⟩)⟩)⟩)
      · unfold f_Md_gesture
        refine k_f u12 (k_f (by decide) ?_)
        rw [ez] at hK
        exact hK
end GC
