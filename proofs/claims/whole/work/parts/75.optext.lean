-- text, both ways
theorem md_43 {o : Ob} {f A0 : Nat → Int32} (hf : gA o 5 = f) : ∀ (d i : Nat) (g : Nat → Int32), d + i = 300 → (∀ j, j < i → g (5600 + j) = f j) → (∀ x, x < 5600 ∨ 5600 + i ≤ x → g x = A0 x) → ∃ g' : Nat → Int32, (∀ j, j < 300 → g' (5600 + j) = f j) ∧ (∀ x, x < 5600 ∨ 5900 ≤ x → g' x = A0 x) ∧ ∀ Q : Int32 → Ob → Prop, Q ((upd g' 3 (0 : Int32)) 5600) (sA o 1 (upd g' 3 (0 : Int32))) → f_Md_text_43 Q (d + 1) (iI i) (sA o 1 g) := by
  intro d
  induction d with
  | zero =>
    intro i g hi h1 h2
    have : i = 300 := by omega
    subst this
    refine ⟨g, h1, h2, fun Q hQ => ?_⟩
    unfold f_Md_text_43
    rw [sA_sA]
    exact k_t (by decide) hQ
  | succ d ih =>
    intro i g hi h1 h2
    have ei : iI (i : Int) + (1 : Int32) = iI ((i + 1 : Nat) : Int) := ix_add i 1
    have ex : (5600 : Int32) + iI (i : Int) = iI ((5600 + i : Nat) : Int) := ix_add 5600 i
    obtain ⟨g', a1, a2, a3⟩ := ih (i + 1) (upd g (5600 + i) (f i)) (by omega) (fun j hj => by
      by_cases e : j = i
      · subst e; exact upd_same _ _ _
      · rw [upd_ne _ _ _ _ (by omega)]; exact h1 j (by omega)) (fun x hx => by
      rw [upd_ne _ _ _ _ (by omega)]; exact h2 x (by omega))
    refine ⟨g', a1, a2, fun Q hQ => ?_⟩
    unfold f_Md_text_43
    rw [ei, ex, cl_nat (by omega), cl_nat (by omega), sA_sA, sA_sA, show gA (sA o 1 g) 5 = gA o 5 from rfl, hf]
    exact b_le (a := 300) (fun q => by omega) (fun _ => ⟨v_nat (by omega) (by decide), v_nat (by omega) (by decide), a3 Q hQ⟩)
/-- what of the model stays when a text is read -/
def mT (m v : Ob) : Prop := (∀ k, k < 7 ∨ 16 < k → gI v k = gI m k) ∧ (∀ k, k ≠ 1 → k ≠ 5 → gA v k = gA m k) ∧ gB v = gB m
section OT
variable {np : Nat} {ta re mo m la o0 o4 : Ob} {q0 r1 r3 r4 : Nat → Nat} {h5 : Nat} {K : Ob → Ob → (Nat → Nat) → Ob → Ob → Ob → Prop}
theorem op_text (hnp : np ≤ 5) (hnp1 : 1 ≤ np) (hm : gI m 0 = iI np) (hre : gI re 1 = iI np) (hTa : RTa ta m) (hs : ∀ Q : Nat → Prop, Q h5 → f_PV_spareLaw q0 o0 r3 mo r4 o4 Q)
    (bad : ∀ re' la' v, gI re' 1 = iI np → RRe re' v → gI v 7 = 0 → mT m v → gA v 1 = gA m 1 → K re' (sI ta 1 (0 : Int32)) r3 mo la' v)
    (good : ∀ re' la' v, gI re' 1 = iI np → RRe re' v → gI v 7 = 0 → mT m v → RLa np la' (gA v 1) → gA v 1 3 = 0 → (∀ x, x ≠ 3 → (x < 5600 ∨ 5900 ≤ x) → gA v 1 x = gA m 1 x) → K re' (sI ta 1 (0 : Int32)) (up r3 0 h5) (sI mo 2 (0 : Int32)) la' v) :
    f_PV_text q0 h5 o0 r1 re ta r3 mo r4 o4 la (fun z re' ta' r3' mo' la' => f_Md_text m (fun z2 v => (z = z2 → K re' ta' r3' mo' la' v) ∧ (¬ z = z2 → False))) := by
  obtain ⟨n, hn, ta1, m7, hby⟩ := hTa
  have hx : ∀ i : Nat, ∃ c : Nat, i < n → c < 256 ∧ gA m 6 i = iI (c : Int) ∧ gA ta 0 i = (iI (c : Int)).toInt8.toInt32 := fun i => by
    by_cases q : i < n
    · obtain ⟨c, c1, c2, c3⟩ := hby i q
      exact ⟨c, fun _ => ⟨c1, c2, c3⟩⟩
    · exact ⟨0, fun z => absurd z q⟩
  obtain ⟨b, hb⟩ : ∃ b : Nat → Nat, ∀ i, i < n → b i < 256 ∧ gA m 6 i = iI ((b i : Nat) : Int) ∧ gA ta 0 i = (iI ((b i : Nat) : Int)).toInt8.toInt32 := ⟨fun i => Classical.choose (hx i), fun i hi => Classical.choose_spec (hx i) hi⟩
  have hTB : TB b n ta := ⟨hn, ta1, fun i hi => ⟨(hb i hi).1, by rw [(hb i hi).2.2]; exact sb_is (hb i hi).1⟩⟩
  have hb256 := fun i (hi : i < n) => (hb i hi).1
  obtain ⟨la1, hl1, fclear⟩ := cl_clear la
  obtain ⟨f1, hf1, fplain⟩ := md_plain m
  have hU : UB b n (sI (sI (sA m 5 f1) 10 (0 : Int32)) 16 (0 : Int32)) := ⟨m7, fun i hi => (hb i hi).2.1⟩
  obtain ⟨s, e, k, t1, t2, t3, t4, t5, t6⟩ := tok_ex b n 0 (Nat.zero_le _)
  obtain ⟨c1, b1, ⟨b2, b3, b4, b5, b6⟩, b7⟩ := cl_tok (r := up r1 2 h5) (c := sI (sI (sI (sI (sI re 4 (0 : Int32)) 7 (0 : Int32)) 8 (1 : Int32)) 9 (0 : Int32)) 10 (-1 : Int32)) hTB rfl (show _ = iI ((0 : Nat) : Int) from rfl) t1 t3 t4
  obtain ⟨u1, d1, d2, d3⟩ := md_tok (k := k) hn hb256 t4 (by have := t4.1; omega) s 0 (sI (sI (sA m 5 f1) 10 (0 : Int32)) 16 (0 : Int32)) (by omega) hU (show _ = iI ((0 : Nat) : Int) from rfl) t3
  have hRR : RR np b n c1 u1 0 := ⟨b2.trans hre, b4, hU.cg d2, s, e, k, t2, t6, t4, ⟨b1.1, b1.2.1, b1.2.2.1⟩, Or.inl ⟨rfl, b5, b6, b1, d1, 0, by omega, b3, (d2.1 16 (by omega))⟩⟩
  have u10 : gI u1 0 = iI np := (d2.1 0 (by omega)).trans hm
  have hL1 : L5 np la1 (gA u1 5) := by
    rw [d2.2.1]
    exact L5_begin hl1 hf1
  have hpos : gI c1 5 ≠ 0 → 0 < pos c1 := fun q => by
    have hk : k ≠ 0 := fun e0 => q (by rw [b1.2.2.1, e0]; rfl)
    have := t5 hk
    have he := t4.1
    show 0 < (gI c1 4).toNatClampNeg
    rw [b1.2.1, cl_nat (by omega)]
    exact this
  obtain ⟨c2, la2, z2, u2, y1, y2, y3, ⟨wf, y4⟩, ⟨wm, y5⟩⟩ := text_loop (q0 := q0) (h5 := h5) (o0 := o0) (o4 := o4) (mo := mo) (r1 := r1) (r3 := r3) (r4 := r4) hTB hnp hnp1 400 0 c1 la1 u1 rfl hRR u10 hL1 hpos
  have c21 : gI c2 1 = iI np := y1.1
  have c28 : gI c2 8 = 1 := y1.2.1
  -- the model's frame
  have fr : mH m u2 := by
    refine mH.tr ⟨fun j hj => ?_, fun j hj => ?_, ?_⟩ y2
    · rw [d2.1 j (by omega), gI_sI_ne _ _ _ _ (by omega), gI_sI_ne _ _ _ _ (by omega)]
      rfl
    · rw [d2.2.1]
      show gA (sA m 5 f1) j = _
      exact gA_sA_ne _ _ _ _ hj
    · rw [d2.2.2]; rfl
  have md : ∀ Q : Int32 → Ob → Prop, ((z2 = 0 → f_Md_text_27 Q (sI (sI u2 8 z2) 9 (-1 : Int32))) ∧ (¬ z2 = 0 → f_Md_text_27 Q (sI (sI u2 8 z2) 9 (gI u2 11)))) → f_Md_text m Q := by
    intro Q hQ
    unfold f_Md_text f_Md_readText f_Md_nextToken
    exact fplain _ ⟨_, d3 _ ⟨wm, y5 _ hQ⟩⟩
  unfold f_PV_text f_Re_begin
  refine hs _ ⟨rfl, fclear _ (b7 _ ⟨wf, y4 _ ?_⟩)⟩
  unfold f_PV_text_45
  by_cases hz : z2 = 0
  · subst hz
    have c29 := y1.g9
    have c2a : gI c2 10 = -1 := by
      obtain ⟨-, -, -, s', e', k', -, -, -, -, hc⟩ := y1
      rcases hc with ⟨-, -, q, -⟩ | ⟨q, -⟩
      · exact q
      · exact absurd rfl q
    have hL2 := y3 rfl
    obtain ⟨g', a1, a2, a3⟩ := md_43 (o := sI (sI (sI u2 8 (0 : Int32)) 9 (-1 : Int32)) 7 (0 : Int32)) (f := gA u2 5) (A0 := gA m 1) rfl 300 0 (gA u2 1) rfl (fun j hj => by omega) (fun x _ => by rw [fr.2.1 1 (by decide)])
    have e56 : (upd g' 3 (0 : Int32)) 5600 = gI la2 4 := by
      rw [upd_ne _ _ _ _ (by decide)]
      have := a1 0 (by decide)
      exact this.trans hL2.2.2.2.2.1.symm
    refine k_t c29 (md _ (k_t rfl ?_))
    unfold f_Md_text_27
    refine k_t rfl ⟨300 + 1, ?_⟩
    have hrun := a3 (fun z2 v => (gI la2 4 = z2 → K c2 (sI ta 1 (0 : Int32)) (up r3 0 h5) (sI mo 2 (0 : Int32)) la2 v) ∧ (¬ gI la2 4 = z2 → False)) (by
      rw [e56]
      refine k_q rfl (good c2 la2 _ c21 (Or.inr ⟨c28, c29, c2a⟩) rfl ⟨fun j hj => ?_, fun j h1 h2 => ?_, fr.2.2⟩ (hL2.R (fun i hi => ?_)) (upd_same g' 3 (0 : Int32)) (fun x h3 hx => ?_))
      · show gI (sI (sI (sI u2 8 (0 : Int32)) 9 (-1 : Int32)) 7 (0 : Int32)) j = _
        rw [gI_sI_ne _ _ _ _ (by omega), gI_sI_ne _ _ _ _ (by omega), gI_sI_ne _ _ _ _ (by omega)]
        exact fr.1 j (by omega)
      · rw [gA_sA_ne _ _ _ _ h1]
        exact fr.2.1 j h2
      · show upd g' 3 (0 : Int32) (5600 + i) = _
        rw [upd_ne _ _ _ _ (by omega)]
        exact a1 i hi
      · show upd g' 3 (0 : Int32) x = _
        rw [upd_ne _ _ _ _ h3]
        exact a2 x hx)
    have eta : sA (sI (sI (sI u2 8 (0 : Int32)) 9 (-1 : Int32)) 7 (0 : Int32)) 1 (gA u2 1) = sI (sI (sI u2 8 (0 : Int32)) 9 (-1 : Int32)) 7 (0 : Int32) := sA_eta (sI (sI (sI u2 8 (0 : Int32)) 9 (-1 : Int32)) 7 (0 : Int32)) 1
    rw [eta] at hrun
    exact hrun
  · have n9 := y1.n9 hz
    obtain ⟨c29, c2a⟩ : gI c2 9 = z2 ∧ gI c2 10 = gI u2 11 := by
      obtain ⟨-, -, -, s', e', k', -, -, -, -, hc⟩ := y1
      rcases hc with ⟨q, -⟩ | ⟨-, q1, q2⟩
      · exact absurd q hz
      · exact ⟨q1, q2⟩
    refine k_f n9 (md _ (k_f hz ?_))
    unfold f_Md_text_27
    refine k_f hz (k_q rfl (bad c2 la2 _ c21 (Or.inr ⟨c28, c29, c2a⟩) rfl ⟨fun j hj => ?_, fun j h1 h2 => fr.2.1 j h2, fr.2.2⟩ (fr.2.1 1 (by decide))))
    rw [gI_sI_ne _ _ _ _ (by omega), gI_sI_ne _ _ _ _ (by omega), gI_sI_ne _ _ _ _ (by omega)]
    exact fr.1 j (by omega)
end OT
