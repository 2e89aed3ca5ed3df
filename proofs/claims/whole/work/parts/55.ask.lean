theorem SHL.cg {np : Nat} {n r r' : Nat → Nat} {o o' : Ob} (h : SHL np n r o) (e0 : gI o' 0 = gI o 0) (e8 : gI o' 8 = gI o 8) (e1 : gA o' 1 = gA o 1) (e2 : gA o' 2 = gA o 2) (e3 : gA o' 3 = gA o 3) (e4 : gA o' 4 = gA o 4) (r1 : r' 109 = r 109) (r2 : r' 111 ≤ 8192) : SHL np n r' o' := by
  obtain ⟨s0, s1, s2, s3, s4, s5, s6, s7⟩ := h
  exact ⟨e0.trans s0, s1, by rw [e1]; exact s2, by rw [e2, e3, e4]; exact s3, e8.trans s4, by omega, by omega, r2⟩
theorem byte_is (b : Int) (h : -100 ≤ b ∧ b ≤ 19) : vp_nar .byte ((iI b).toInt8.toInt32) = iI b := by
  rw [pk_vb]
  have key : ∀ k : Nat, k < 120 → (iI ((k : Int) - 100)).toInt8.toInt32 = iI ((k : Int) - 100) := by decide
  have := key (b + 100).toNat (by omega)
  rw [show (((b + 100).toNat : Nat) : Int) - 100 = b by omega] at this
  exact this
theorem bxs_bd (n : Nat → Nat) (np k tn : Nat) : -100 ≤ bxs n np k tn ∧ bxs n np k tn ≤ 19 := by
  have := bx_bd (shp n np k) np tn
  unfold bxs
  omega
theorem sh_fillBoxes {np tn : Nat} {n r : Nat → Nat} {o : Ob} {Q : Ob → Prop} (hnp : np ≤ 5) (htn : tn < 5) (h : SHL np n r o)
    (hQ : ∀ o', SHL np n r o' → (∀ k, gI o' k = gI o k) → (∀ k, k ≠ 5 → k ≠ 9 → gA o' k = gA o k) → (∀ x, x < tn * TT (szN n) np 0 ∨ tn * TT (szN n) np 0 + TT (szN n) np 0 ≤ x → gA o' 9 x = gA o 9 x) → (∀ k, k < TT (szN n) np 0 → gA o' 9 (tn * TT (szN n) np 0 + k) = iI (bxs n np k tn)) → Q o') : f_Sh_fillBoxes (iI tn) r o Q := by
  have hok := h.2.1
  have T0 := okS_le hok hnp (i := 0) (by omega)
  generalize hT : TT (szN n) np 0 = T at hQ T0
  have h5T : 5 * T ≤ r 109 := by rw [← hT]; exact h.2.2.2.2.2.1
  have h109 : r 109 ≤ 5120 := h.2.2.2.2.2.2.1
  have htT : tn * T ≤ 4 * T := Nat.mul_le_mul_right T (by omega)
  have keep : ∀ u : Ob, (∀ k, gI u k = gI o k) → (∀ k, k ≠ 5 → k ≠ 9 → gA u k = gA o k) → SHL np n r u := fun u a b => h.cg (a 0) (a 8) (b 1 (by decide) (by decide)) (b 2 (by decide) (by decide)) (b 3 (by decide) (by decide)) (b 4 (by decide) (by decide)) rfl h.2.2.2.2.2.2.2
  -- one shape
  have l12 : ∀ (k : Nat) (k2 : Int32 → Int32 → Ob → Prop), k < T → ∀ (f i : Nat) (u : Ob), f + i = np → (∀ k, gI u k = gI o k) → (∀ k, k ≠ 5 → k ≠ 9 → gA u k = gA o k) → (∀ j, j < i → gA u 5 j = shp n np k j) →
      (∀ u', (∀ k, gI u' k = gI o k) → (∀ k, k ≠ 5 → k ≠ 9 → gA u' k = gA o k) → gA u' 9 = upd (gA u 9) (tn * T + k) (iI (bxs n np k tn)) → k2 (iI tn) (iI ((k + 1 : Nat) : Int)) u') → f_Sh_fillBoxes_12 r k2 Q (f + 1) (iI tn) (iI k) (iI i) u := by
    intro k k2 hk f
    induction f with
    | zero =>
      intro i u hi g1 g2 g3 hk2
      have : i = np := by omega
      subst this
      unfold f_Sh_fillBoxes_12
      have u0 : gI u 0 = iI i := by rw [g1]; exact h.1
      have u8 : gI u 8 = iI (T : Int) := by rw [g1, h.2.2.2.2.1, hT]
      have ek : iI (k : Int) + (1 : Int32) = iI ((k + 1 : Nat) : Int) := ix_add k 1
      have ei : iI (tn : Int) * iI (T : Int) + iI (k : Int) = iI ((tn * T + k : Nat) : Int) := by rw [iI_mul, iI_add]; congr 1
      rw [u0, u8, ek, ei, cl_nat (by omega)]
      have hw : ∀ j, j < i → okW (gA u 5 j) := fun j hj => by rw [g3 j hj]; exact shp_ok hok k j hj
      refine k_t (Int32.le_refl _) (to_boxOf hnp hw (by omega) (fun _ => ⟨v_nat (by omega) (by omega), ?_⟩) (fun q => by omega))
      have eb : bx (gA u 5) i (tn : Int) = bxs n i k tn := bx_congr _ (fun j hj => g3 j hj)
      rw [eb, byte_is _ (bxs_bd n i k tn)]
      exact hk2 _ (fun j => g1 j) (fun j j1 j2 => by rw [gA_sA_ne _ _ _ _ j2]; exact g2 j j1 j2) rfl
    | succ f ih =>
      intro i u hi g1 g2 g3 hk2
      unfold f_Sh_fillBoxes_12
      have u0 : gI u 0 = iI np := by rw [g1]; exact h.1
      have ei : iI (i : Int) + (1 : Int32) = iI ((i + 1 : Nat) : Int) := ix_add i 1
      rw [u0, ei, cl_nat (by omega)]
      refine b_le (fun q => by omega) (fun _ => sh_widthIn hnp (keep u g1 g2) (by rw [hT]; exact hk) (show i < np by omega) ⟨v_nat (by omega) (by decide), ?_⟩)
      refine ih (i + 1) _ (by omega) (fun j => g1 j) (fun j j1 j2 => by rw [gA_sA_ne _ _ _ _ j1]; exact g2 j j1 j2) (fun j hj => ?_) hk2
      show upd (gA u 5) i (shp n np k i) j = _
      by_cases hji : j = i
      · subst hji; exact upd_same _ _ _
      · rw [upd_ne _ _ _ _ hji]; exact g3 j (by omega)
  have l2 : ∀ (f k : Nat) (u : Ob), f + k = T → (∀ k, gI u k = gI o k) → (∀ k, k ≠ 5 → k ≠ 9 → gA u k = gA o k) → (∀ x, x < tn * T ∨ tn * T + T ≤ x → gA u 9 x = gA o 9 x) → (∀ j, j < k → gA u 9 (tn * T + j) = iI (bxs n np j tn)) → f_Sh_fillBoxes_2 r Q (f + 1) (iI tn) (iI k) u := by
    intro f
    induction f with
    | zero =>
      intro k u hk g1 g2 g3 g4
      have : k = T := by omega
      subst this
      unfold f_Sh_fillBoxes_2
      rw [g1 8, h.2.2.2.2.1, hT]
      exact k_t (Int32.le_refl _) (hQ u (keep u g1 g2) g1 g2 g3 g4)
    | succ f ih =>
      intro k u hk g1 g2 g3 g4
      unfold f_Sh_fillBoxes_2
      rw [g1 8, h.2.2.2.2.1, hT]
      refine b_le (fun q => by omega) (fun _ => ⟨np + 1, l12 k _ (by omega) np 0 u rfl g1 g2 (fun j hj => by omega) (fun u' a1 a2 a3 => ?_)⟩)
      refine ih (k + 1) u' (by omega) a1 a2 (fun x hx => ?_) (fun j hj => ?_)
      · rw [a3, upd_ne _ _ _ _ (by omega)]; exact g3 x hx
      · rw [a3]
        by_cases hjk : j = k
        · subst hjk; exact upd_same _ _ _
        · rw [upd_ne _ _ _ _ (by omega)]; exact g4 j (by omega)
  unfold f_Sh_fillBoxes
  exact ⟨T + 1, l2 T 0 o rfl (fun _ => rfl) (fun _ _ _ => rfl) (fun _ _ => rfl) (fun j hj => by omega)⟩
def SHA (np : Nat) (n : Nat → Nat) (lo hi : Nat → Int) (r : Nat → Nat) (o : Ob) : Prop := SHL np n r o ∧ SBX np n o ∧ (∀ tn, tn < 5 → gA o 6 tn = iI (lo tn) ∧ gA o 7 tn = iI (hi tn)) ∧ (∀ tn, tn < 5 → lo tn ≤ hi tn → ∀ k, k < TT (szN n) np 0 → gA o 9 (tn * TT (szN n) np 0 + k) = iI (bxs n np k tn))
theorem SHA.R {np : Nat} {n : Nat → Nat} {lo hi : Nat → Int} {r : Nat → Nat} {o : Ob} (h : SHA np n lo hi r o) : RSh np r o := ⟨h.1.1, h.1.2.2.2.2.2.2.1, h.1.2.2.2.2.2.2.2, Or.inr ⟨n, h.1, h.2.1⟩⟩
theorem bx_bit : ∀ b : Nat, b < 32 → ∀ j : Nat, j < 5 → ((iI (b : Int) &&& ((1 : Int32) <<< (iI (j : Int) &&& 31)) = 0 ↔ bN b j = 0) ∧ ∃ b' : Nat, b' < 32 ∧ iI (b : Int) ||| ((1 : Int32) <<< (iI (j : Int) &&& 31)) = iI (b' : Int) ∧ ∀ tn, tn < 5 → (bN b' tn = 1 ↔ tn = j ∨ bN b tn = 1)) := by
  have h1 : ∀ b : Nat, b < 32 → ∀ j : Nat, j < 5 → (iI (b : Int) &&& ((1 : Int32) <<< (iI (j : Int) &&& 31)) = 0 ↔ bN b j = 0) := by decide
  have h2 : ∀ b : Nat, b < 32 → ∀ j : Nat, j < 5 → (b ||| 2 ^ j < 32 ∧ iI (b : Int) ||| ((1 : Int32) <<< (iI (j : Int) &&& 31)) = iI ((b ||| 2 ^ j : Nat) : Int) ∧ ∀ tn, tn < 5 → (bN (b ||| 2 ^ j) tn = 1 ↔ tn = j ∨ bN b tn = 1)) := by decide
  exact fun b hb j hj => ⟨h1 b hb j hj, _, h2 b hb j hj⟩
theorem sh_ask {np lk tm sd : Nat} {n r r1 : Nat → Nat} {o mo he : Ob} {A : Nat → Int32} {Q : (Nat → Nat) → Ob → Prop} (hnp : np ≤ 5) (hnp1 : 1 ≤ np) (hR : RSh np r o) (hok : okS np n) (hg : ∀ i, i < np → gA mo 10 i = iI (n i)) (h12 : gI mo 12 = iI lk) (hH : RHe he A tm) (hlk : lk ≤ tm) (htm : tm ≤ 100) (hsd : sd < 8)
    (hQ : ∀ lo hi r' o', TD A lk sd lo hi → SHA np n lo hi r' o' → r' 11 = r 11 → r' 111 = r 111 → gA o' 11 = gA o 11 → Q r' o') : f_Sh_ask (iI sd) r o r1 mo he Q := by
  unfold f_Sh_ask
  refine sh_layOut hnp hnp1 hR hok hg (fun r' u hS hB e1 e2 e3 => ?_)
  rw [h12]
  obtain ⟨lo, hi, f6, f7, hT, hf, run⟩ := he_fill (o1 := gA u 6) (o2 := gA u 7) hH hlk htm hsd
  refine run _ ?_
  have T0 := okS_le hok hnp (i := 0) (by omega)
  have lp : ∀ (f j : Nat) (v : Ob), f + j = 5 → SHL np n r' v → gA v 11 = gA o 11 → (∀ tn, tn < 5 → gA v 6 tn = iI (lo tn) ∧ gA v 7 tn = iI (hi tn)) → (∃ b : Nat, b < 32 ∧ gI v 10 = iI b ∧ (∀ tn, tn < j → lo tn ≤ hi tn → bN b tn = 1) ∧ ∀ tn, tn < 5 → bN b tn = 1 → ∀ k, k < TT (szN n) np 0 → gA v 9 (tn * TT (szN n) np 0 + k) = iI (bxs n np k tn)) → f_Sh_ask_28 r1 mo he Q (f + 1) 1 5120 (iI j) r' v := by
    intro f
    induction f with
    | zero =>
      intro j v hj g1 g2 g3 g4
      have : j = 5 := by omega
      subst this
      obtain ⟨b, b1, b2, b3, b4⟩ := g4
      unfold f_Sh_ask_28
      exact k_t (by decide) ⟨by decide, by decide, hQ lo hi r' v hT ⟨g1, ⟨b, b1, b2, b4⟩, g3, fun tn ht hlh => b4 tn ht (b3 tn ht hlh)⟩ e1 e2 g2⟩
    | succ f ih =>
      intro j v hj g1 g2 g3 g4
      obtain ⟨b, b1, b2, b3, b4⟩ := g4
      have bd := hT.bd (tn := j) (by omega)
      have ej : iI (j : Int) + (1 : Int32) = iI ((j + 1 : Nat) : Int) := ix_add j 1
      have v5 : vp_in (iI (j : Int)) 5 := v_nat (by omega) (by decide)
      obtain ⟨k1, b', k2, k3, k4⟩ := bx_bit b b1 j (by omega)
      unfold f_Sh_ask_28
      rw [ej, cl_nat (by omega), (g3 j (by omega)).1, (g3 j (by omega)).2, b2]
      refine b_le (a := 5) (fun q => by omega) (fun _ => ⟨v5, v5, b_lt (fun q => ?_) (fun q => ?_)⟩)
      · refine ih (j + 1) v (by omega) g1 g2 g3 ⟨b, b1, b2, fun tn ht hlh => ?_, b4⟩
        by_cases htj : tn = j
        · subst htj; omega
        · exact b3 tn (by omega) hlh
      · refine k_c (fun hz => ⟨by decide, by decide, ?_⟩) (fun hz => ?_)
        · refine sh_fillBoxes hnp (by omega) g1 (fun v' w1 w2 w3 w4 w5 => ?_)
          rw [w2 10, b2, k3]
          refine k_n (ih (j + 1) _ (by omega) (w1.cg rfl rfl rfl rfl rfl rfl rfl g1.2.2.2.2.2.2.2) (by show gA v' 11 = _; rw [w3 11 (by decide) (by decide)]; exact g2) (fun tn ht => by show gA v' 6 tn = _ ∧ gA v' 7 tn = _; rw [w3 6 (by decide) (by decide), w3 7 (by decide) (by decide)]; exact g3 tn ht) ⟨b', k2, rfl, fun tn ht hlh => ?_, fun tn ht hb k hk => ?_⟩)
          · by_cases htj : tn = j
            · exact (k4 tn (by omega)).mpr (Or.inl htj)
            · exact (k4 tn (by omega)).mpr (Or.inr (b3 tn (by omega) hlh))
          · show gA v' 9 _ = _
            by_cases htj : tn = j
            · subst htj; exact w5 k hk
            · have hbt : bN b tn = 1 := by
                rcases (k4 tn ht).mp hb with h | h
                · exact absurd h htj
                · exact h
              rw [w4 _ ?_]
              · exact b4 tn ht hbt k hk
              · rcases Nat.lt_or_gt_of_ne htj with h | h
                · left
                  have := Nat.mul_le_mul_right (TT (szN n) np 0) (show tn + 1 ≤ j by omega)
                  rw [Nat.succ_mul] at this
                  omega
                · right
                  have := Nat.mul_le_mul_right (TT (szN n) np 0) (show j + 1 ≤ tn by omega)
                  rw [Nat.succ_mul] at this
                  omega
        · refine ih (j + 1) v (by omega) g1 g2 g3 ⟨b, b1, b2, fun tn ht hlh => ?_, b4⟩
          by_cases htj : tn = j
          · subst htj
            rcases bN_01 b tn with h | h
            · exact absurd (k1.mpr h) hz
            · exact h
          · exact b3 tn (by omega) hlh
  obtain ⟨b, b1, b2, b3⟩ := hB
  exact ⟨6, lp 5 0 _ rfl (hS.cg rfl rfl rfl rfl rfl rfl rfl hS.2.2.2.2.2.2.2) e3 hf ⟨b, b1, b2, fun tn ht => by omega, b3⟩⟩
/-- a shape makes what was told -/
def FT (lo hi b : Nat → Int) : Prop := ∀ tn : Nat, tn < 5 → lo tn ≤ hi tn → lo tn ≤ b tn ∧ b tn ≤ hi tn
theorem sh_fits {np k : Nat} {n r : Nat → Nat} {lo hi : Nat → Int} {o : Ob} {Q : Int32 → Prop} (hnp : np ≤ 5) (h : SHA np n lo hi r o) (hbd : ∀ tn, tn < 5 → (-20 ≤ lo tn ∧ lo tn ≤ 19) ∧ (-20 ≤ hi tn ∧ hi tn ≤ 19)) (hk : k < TT (szN n) np 0) (h1 : FT lo hi (bxs n np k) → Q 1) (h0 : ¬ FT lo hi (bxs n np k) → Q 0) : f_Sh_fits (iI k) r o Q := by
  obtain ⟨hS, -, hlh, hbx⟩ := h
  have T0 := okS_le hS.2.1 hnp (i := 0) (by omega)
  have h8 := hS.2.2.2.2.1
  have h5 := hS.2.2.2.2.2.1
  have h109 := hS.2.2.2.2.2.2.1
  generalize hT : TT (szN n) np 0 = T at *
  have lp : ∀ (f j : Nat), f + j = 5 → (∀ tn, tn < j → lo tn ≤ hi tn → lo tn ≤ bxs n np k tn ∧ bxs n np k tn ≤ hi tn) → f_Sh_fits_2 r o Q (f + 1) (iI k) (iI j) := by
    intro f
    induction f with
    | zero =>
      intro j hj hok
      have : j = 5 := by omega
      subst this
      unfold f_Sh_fits_2
      exact k_t (by decide) (h1 hok)
    | succ f ih =>
      intro j hj hok
      have bd := hbd j (by omega)
      have bb := bxs_bd n np k j
      have ej : iI (j : Int) + (1 : Int32) = iI ((j + 1 : Nat) : Int) := ix_add j 1
      have v5 : vp_in (iI (j : Int)) 5 := v_nat (by omega) (by decide)
      have hjT : j * T ≤ 4 * T := Nat.mul_le_mul_right T (by omega)
      have ei : iI (j : Int) * iI (T : Int) + iI (k : Int) = iI ((j * T + k : Nat) : Int) := by rw [iI_mul, iI_add]; congr 1
      unfold f_Sh_fits_2
      rw [ej, h8, ei, cl_nat (j := j) (by omega), cl_nat (by omega), (hlh j (by omega)).1, (hlh j (by omega)).2]
      refine b_le (a := 5) (fun q => by omega) (fun _ => ⟨v5, v5, b_lt (fun q => ih (j + 1) (by omega) (fun tn ht hl => ?_)) (fun q => ⟨v_nat (by omega) (by omega), k_e (hbx j (by omega) (by omega) k hk) ⟨v5, ?_⟩⟩)⟩)
      · by_cases htj : tn = j
        · subst htj; omega
        · exact hok tn (by omega) hl
      · refine b_lt (fun g => h0 (fun hF => ?_)) (fun g => ⟨v5, b_le (fun g2 => ih (j + 1) (by omega) (fun tn ht hl => ?_)) (fun g2 => h0 (fun hF => ?_))⟩)
        · have := hF j (by omega) (by omega)
          omega
        · by_cases htj : tn = j
          · subst htj; omega
          · exact hok tn (by omega) hl
        · have := hF j (by omega) (by omega)
          omega
  unfold f_Sh_fits
  exact ⟨6, lp 5 0 rfl (fun tn ht => by omega)⟩
