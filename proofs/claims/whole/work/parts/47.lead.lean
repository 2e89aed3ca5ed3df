-- by what a piece is led: the class's way and the model's, gesture by gesture
def LB (N : Nat) (st sum cnt sp sd it cl : Int) : Prop := (-1 ≤ st ∧ st ≤ 9) ∧ (0 ≤ cnt ∧ cnt ≤ N) ∧ (cnt ≤ sum ∧ sum ≤ 12 * cnt) ∧ (1 ≤ sp ∧ sp ≤ 6) ∧ (-1 ≤ sd ∧ sd ≤ 19) ∧ (-1 ≤ it ∧ it ≤ 7) ∧ (-1 ≤ cl ∧ cl ≤ 19) ∧ (st = -1 → cnt = 0 ∧ sp = 1 ∧ sd = -1 ∧ it = -1 ∧ cl = -1) ∧ (0 ≤ st → 1 ≤ cnt)
def LC (o : Ob) (st sum cnt sp sd it cl : Int) : Prop := gI o 5 = iI st ∧ gI o 6 = iI sum ∧ gI o 7 = iI cnt ∧ gI o 1 = iI sp ∧ gI o 2 = iI sd ∧ gI o 3 = iI it ∧ gI o 4 = iI cl
def LM (u : Ob) (st sum cnt sp sd it cl : Int) : Prop := gI u 17 = iI st ∧ (0 ≤ st → gI u 18 = iI sum ∧ gI u 19 = iI cnt ∧ gI u 20 = iI sp ∧ gI u 21 = iI sd ∧ gI u 22 = iI it ∧ gI u 23 = iI cl)
def LR (N : Nat) (o u : Ob) : Prop := ∃ st sum cnt sp sd it cl : Int, LB N st sum cnt sp sd it cl ∧ LC o st sum cnt sp sd it cl ∧ LM u st sum cnt sp sd it cl
theorem LR.mono {N N' : Nat} {o u : Ob} (h : LR N o u) (hN : N ≤ N') : LR N' o u := by
  obtain ⟨st, sum, cnt, sp, sd, it, cl, hb, h2⟩ := h
  exact ⟨st, sum, cnt, sp, sd, it, cl, by unfold LB at hb ⊢; omega, h2⟩
def mdL (m u : Ob) : Prop := (∀ k, k < 17 ∨ 23 < k → gI u k = gI m k) ∧ gL u = gL m ∧ gA u = gA m ∧ gB u = gB m
theorem mdL.rf (m : Ob) : mdL m m := ⟨fun _ _ => rfl, rfl, rfl, rfl⟩
theorem mdL.tr {a b c : Ob} (h : mdL a b) (g : mdL b c) : mdL a c := ⟨fun k hk => (g.1 k hk).trans (h.1 k hk), g.2.1.trans h.2.1, g.2.2.1.trans h.2.2.1, g.2.2.2.trans h.2.2.2⟩
theorem mdL.si {m u : Ob} (h : mdL m u) (k : Nat) (v : Int32) (hk : 17 ≤ k ∧ k ≤ 23) : mdL m (sI u k v) := by
  refine ⟨fun j hj => ?_, h.2.1, h.2.2.1, h.2.2.2⟩
  rw [gI_sI_ne _ _ _ _ (by omega)]; exact h.1 j hj
theorem ld_want {N : Nat} {o u la : Ob} {S Wd Sp : Int} {i s j : Nat} (h : LR N o u) (hN : N < 4000) (hS : 0 ≤ S ∧ S ≤ 9) (hWd : 1 ≤ Wd ∧ Wd ≤ 12) (hSp : 1 ≤ Sp ∧ Sp ≤ 6) (hi : i < 20) (hs : s < 20) (hj : j < 8)
    (c11 : gA la 11 i = iI S) (c8 : gA la 8 i = iI Wd) (c9 : gA la 9 i = iI Sp) (a5 : gA u 1 (5615 + 6 * i) = iI S) (a2 : gA u 1 (5612 + 6 * i) = iI Wd) (a3 : gA u 1 (5613 + 6 * i) = iI Sp) :
    ∃ o' u', LR (N + 1) o' u' ∧ mdL u u' ∧ (∀ (r1 : Nat → Nat) (o1 : Ob) (k : Int32 → Int32 → Int32 → Int32 → Int32 → Int32 → Ob → Prop) (Q : Ob → Prop) (x2 x6 x7 : Int32), k x2 (iI s) (iI j) x6 x7 (iI ((i + 1 : Nat) : Int)) o' → f_Le_findInItem_112 r1 o1 la k Q x2 (iI s) (iI j) x6 x7 (iI i) 1 o) ∧ (∀ Q : Ob → Prop, Q u' → f_Md_wants (iI i) (iI s) (iI j) u Q) := by
  obtain ⟨st, sum, cnt, sp, sd, it, cl, hb, ⟨o5, o6, o7, o1, o2, o3, o4⟩, u17, hu⟩ := h
  have en : iI (i : Int) + (1 : Int32) = iI ((i + 1 : Nat) : Int) := ix_add i 1
  have ei : (5610 : Int32) + (6 : Int32) * iI (i : Int) = iI ((5610 + 6 * i : Nat) : Int) := ix_lin 5610 6 i
  have e5 : iI ((5610 + 6 * i : Nat) : Int) + (5 : Int32) = iI ((5615 + 6 * i : Nat) : Int) := by
    rw [show 5615 + 6 * i = (5610 + 6 * i) + 5 by omega]; exact ix_add _ 5
  have e2 : iI ((5610 + 6 * i : Nat) : Int) + (2 : Int32) = iI ((5612 + 6 * i : Nat) : Int) := by
    rw [show 5612 + 6 * i = (5610 + 6 * i) + 2 by omega]; exact ix_add _ 2
  have e3 : iI ((5610 + 6 * i : Nat) : Int) + (3 : Int32) = iI ((5613 + 6 * i : Nat) : Int) := by
    rw [show 5613 + 6 * i = (5610 + 6 * i) + 3 by omega]; exact ix_add _ 3
  have vi : vp_in (iI (i : Int)) 20 := v_nat hi (by decide)
  unfold LB at hb
  rcases Int.lt_trichotomy S st with hlt | heq | hgt
  · refine ⟨o, u, ⟨st, sum, cnt, sp, sd, it, cl, by unfold LB; omega, ⟨o5, o6, o7, o1, o2, o3, o4⟩, u17, hu⟩, mdL.rf u, fun r1 o1' k Q x2 x6 x7 hk => ?_, fun Q hQ => ?_⟩
    · unfold f_Le_findInItem_112 f_Le_findInItem_176
      rw [cl_nat (by omega), c11, o5, en]
      refine k_f (by decide) ⟨vi, b_le (fun _ => k_f (by decide) ⟨vi, b_eq (fun q => by omega) (fun _ => hk)⟩) (fun q => by omega)⟩
    · unfold f_Md_wants
      rw [ei, e5]
      refine k_n ⟨v_nat (by omega) (by decide), ?_⟩
      rw [cl_nat (by omega), a5, u17]
      exact b_le (fun q => by omega) (fun _ => hQ)
  · subst heq
    obtain ⟨u18, u19, u20, u21, u22, u23⟩ := hu (by omega)
    have emx : (if iI sp < iI Sp then iI Sp else iI sp) = iI (max sp Sp) := by
      by_cases h : sp < Sp
      · rw [if_pos ((iI_lt (by omega) (by omega)).mpr h)]; congr 1; omega
      · rw [if_neg (fun q => h ((iI_lt (by omega) (by omega)).mp q))]; congr 1; omega
    refine ⟨sI (sI (sI o 1 (iI (max sp Sp))) 6 (iI (sum + Wd))) 7 (iI (cnt + 1)), if Sp ≤ sp then sI (sI u 18 (iI (sum + Wd))) 19 (iI (cnt + 1)) else sI (sI (sI u 18 (iI (sum + Wd))) 19 (iI (cnt + 1))) 20 (iI Sp), ⟨S, sum + Wd, cnt + 1, max sp Sp, sd, it, cl, by unfold LB; omega, ⟨o5, rfl, rfl, rfl, o2, o3, o4⟩, ?_⟩, ?_, fun r1 o1' k Q x2 x6 x7 hk => ?_, fun Q hQ => ?_⟩
    · by_cases h : Sp ≤ sp
      · rw [if_pos h]
        refine ⟨u17, fun _ => ⟨rfl, rfl, ?_, u21, u22, u23⟩⟩
        show gI u 20 = _
        rw [u20]; congr 1; omega
      · rw [if_neg h]
        refine ⟨u17, fun _ => ⟨rfl, rfl, ?_, u21, u22, u23⟩⟩
        show iI Sp = _
        congr 1; omega
    · by_cases h : Sp ≤ sp
      · rw [if_pos h]; exact ((mdL.rf u).si _ _ (by omega)).si _ _ (by omega)
      · rw [if_neg h]; exact (((mdL.rf u).si _ _ (by omega)).si _ _ (by omega)).si _ _ (by omega)
    · unfold f_Le_findInItem_112 f_Le_findInItem_176
      have ec : iI cnt + (1 : Int32) = iI (cnt + 1) := iI_add _ 1
      rw [cl_nat (by omega), c11, c8, c9, o5, o6, o7, o1, en, emx, iI_add, ec]
      exact k_f (by decide) ⟨vi, k_t (Int32.le_refl _) (k_f (by decide) ⟨vi, k_t rfl ⟨vi, vi, k_n hk⟩⟩)⟩
    · unfold f_Md_wants f_Md_wants_86
      have ec : iI cnt + (1 : Int32) = iI (cnt + 1) := iI_add _ 1
      rw [ei, e5, e2, e3]
      refine k_n ⟨v_nat (by omega) (by decide), ?_⟩
      rw [cl_nat (by omega), a5, u17]
      refine k_t (Int32.le_refl _) (k_n ⟨v_nat (by omega) (by decide), ?_⟩)
      rw [cl_nat (by omega), a5]
      refine k_t (Int32.le_refl _) ⟨v_nat (by omega) (by decide), ?_⟩
      rw [cl_nat (by omega), cl_nat (by omega), a2, a3, u18, u19, u20, iI_add, ec]
      refine k_n ⟨v_nat (by omega) (by decide), b_le (fun q => ?_) (fun q => ⟨v_nat (by omega) (by decide), ?_⟩)⟩
      · rw [if_pos q] at hQ; exact hQ
      · rw [if_neg q] at hQ; exact hQ
  · refine ⟨sI (sI (sI (sI (sI (sI (sI (sI (sI (sI o 1 (1 : Int32)) 2 (iI s)) 3 (iI j)) 4 (iI i)) 5 (iI S)) 6 (0 : Int32)) 7 (0 : Int32)) 1 (iI Sp)) 6 (iI Wd)) 7 (1 : Int32), sI (sI (sI (sI (sI (sI (sI (sI (sI (sI u 17 (iI S)) 18 (0 : Int32)) 19 (0 : Int32)) 20 (0 : Int32)) 21 (iI s)) 22 (iI j)) 23 (iI i)) 18 (iI Wd)) 19 (1 : Int32)) 20 (iI Sp), ⟨S, Wd, 1, Sp, s, j, i, by unfold LB; omega, ⟨rfl, rfl, rfl, rfl, rfl, rfl, rfl⟩, rfl, fun _ => ⟨rfl, rfl, rfl, rfl, rfl, rfl⟩⟩, ?_, fun r1 o1' k Q x2 x6 x7 hk => ?_, fun Q hQ => ?_⟩
    · exact ((((((((((mdL.rf u).si _ _ (by omega)).si _ _ (by omega)).si _ _ (by omega)).si _ _ (by omega)).si _ _ (by omega)).si _ _ (by omega)).si _ _ (by omega)).si _ _ (by omega)).si _ _ (by omega)).si _ _ (by omega)
    · unfold f_Le_findInItem_112 f_Le_findInItem_176
      rw [cl_nat (by omega), c11, c8, c9, o5, en]
      refine k_f (by decide) ⟨vi, b_le (fun q => by omega) (fun _ => ⟨vi, k_f (by decide) ⟨vi, k_t rfl ⟨vi, vi, k_e (v := iI Sp) ?_ ?_⟩⟩⟩)⟩
      · show (if iI 1 < iI Sp then iI Sp else iI 1) = iI Sp
        by_cases h : 1 < Sp
        · rw [if_pos ((iI_lt (a := 1) (by omega) (by omega)).mpr h)]
        · rw [if_neg (fun q => h ((iI_lt (a := 1) (by omega) (by omega)).mp q))]
          congr 1; omega
      · have ew : (0 : Int32) + iI Wd = iI Wd := Int32.zero_add _
        have e0 : (0 : Int32) + (1 : Int32) = 1 := rfl
        have := hk
        show k x2 (iI s) (iI j) x6 x7 (iI ((i + 1 : Nat) : Int)) (sI (sI (sI _ 1 (iI Sp)) 6 ((0 : Int32) + iI Wd)) 7 ((0 : Int32) + (1 : Int32)))
        rw [ew, e0]
        exact hk
    · unfold f_Md_wants f_Md_wants_86
      rw [ei, e5, e2, e3]
      refine k_n ⟨v_nat (by omega) (by decide), ?_⟩
      rw [cl_nat (by omega), a5, u17]
      refine b_le (fun _ => k_n ⟨v_nat (by omega) (by decide), ?_⟩) (fun q => by omega)
      rw [cl_nat (by omega), a5]
      refine b_le (fun q => by omega) (fun _ => k_n ⟨v_nat (by omega) (by decide), ⟨v_nat (by omega) (by decide), ?_⟩⟩)
      rw [cl_nat (by omega), cl_nat (by omega), cl_nat (by omega)]
      refine k_e (v := iI Wd) ?_ ⟨v_nat (by omega) (by decide), ?_⟩
      · show (0 : Int32) + gA u 1 (5612 + 6 * i) = _
        rw [a2, Int32.zero_add]
      · show (gA u 1 (5613 + 6 * i) ≤ iI 0 → _) ∧ (¬ gA u 1 (5613 + 6 * i) ≤ iI 0 → _)
        rw [a3]
        refine b_le (fun q => by omega) (fun _ => ⟨v_nat (by omega) (by decide), ?_⟩)
        show Q (sI (sI (sI _ 18 (iI Wd)) 19 ((0 : Int32) + (1 : Int32))) 20 (gA u 1 (5613 + 6 * i)))
        rw [a3, show (0 : Int32) + (1 : Int32) = 1 from rfl, a5]
        exact hQ
