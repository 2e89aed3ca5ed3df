-- tokens, both ways
section TK
variable {b : Nat → Nat} {n : Nat} {ta : Ob} {r : Nat → Nat}
def TS (b : Nat → Nat) (n s e k : Nat) : Prop := e ≤ n ∧ ((k = 0 ∧ s = n ∧ e = n) ∨ (s < e ∧ k = kb b s ∧ k ≠ 1 ∧ (((k = 2 ∨ k = 3) ∧ (∀ i, s ≤ i → i < e → kb b i = k) ∧ (e < n → kb b e ≠ k)) ∨ (k ≠ 2 ∧ k ≠ 3 ∧ e = s + 1))))
def CTk (b : Nat → Nat) (s e k : Nat) (c : Ob) : Prop := gI c 3 = iI s ∧ gI c 4 = iI e ∧ gI c 5 = iI k ∧ (k = 3 → gI c 6 = iI ((cvN b s (e - s) : Nat) : Int))
def MTk (b : Nat → Nat) (s e k : Nat) (u : Ob) : Prop := gI u 11 = iI s ∧ gI u 10 = iI e ∧ (k = 0 → gI u 12 = 0) ∧ (k = 3 → gI u 12 = 1 ∧ gI u 13 = iI ((mvN b s (e - s) : Nat) : Int)) ∧ (k = 4 → gI u 12 = 44) ∧ (k = 5 → gI u 12 = 59) ∧ (k = 6 → gI u 12 = 3) ∧ (k = 2 → (7 < e - s ∧ gI u 12 = 3) ∨ (e - s = 1 ∧ (65 ≤ b s ∧ b s ≤ 72) ∧ gI u 12 = 2 ∧ gI u 14 = iI ((b s : Int) - 65)) ∨ (e - s ≤ 7 ∧ ¬ (e - s = 1 ∧ 65 ≤ b s ∧ b s ≤ 72) ∧ gI u 12 = 4 ∧ gL u 15 = iL ((cdN (fun i => b (s + i)) (e - s) : Nat) : Int)))
theorem kb_le (b : Nat → Nat) (i : Nat) : kb b i ≤ 6 ∧ 1 ≤ kb b i := by
  unfold kb kV
  repeat' split
  all_goals omega
theorem tok_ex (b : Nat → Nat) (n p : Nat) (hp : p ≤ n) : ∃ s e k, p ≤ s ∧ s ≤ e ∧ (∀ i, p ≤ i → i < s → kb b i = 1) ∧ TS b n s e k ∧ (k ≠ 0 → p < e) ∧ k ≤ 6 := by
  obtain ⟨s, s1, s2, s3, s4⟩ := run_ex (fun i => kb b i = 1) n (n - p) p (by omega)
  have k9 := kb_le b s
  by_cases hs : s = n
  · subst hs
    exact ⟨s, s, 0, s1, Nat.le_refl _, s3, ⟨Nat.le_refl _, Or.inl ⟨rfl, rfl, rfl⟩⟩, fun q => absurd rfl q, by omega⟩
  · by_cases h23 : kb b s = 2 ∨ kb b s = 3
    · obtain ⟨e, e1, e2, e3, e4⟩ := run_ex (fun i => kb b i = kb b s) n (n - (s + 1)) (s + 1) (by omega)
      refine ⟨s, e, kb b s, s1, by omega, s3, ⟨e2, Or.inr ⟨by omega, rfl, s4 (by omega), Or.inl ⟨h23, fun i a c => ?_, e4⟩⟩⟩, fun _ => by omega, by omega⟩
      by_cases q : i = s
      · subst q; rfl
      · exact e3 i (by omega) c
    · exact ⟨s, s + 1, kb b s, s1, by omega, s3, ⟨by omega, Or.inr ⟨by omega, rfl, s4 (by omega), Or.inr ⟨fun q => h23 (Or.inl q), fun q => h23 (Or.inr q), rfl⟩⟩⟩, fun _ => by omega, by omega⟩
theorem cl_99 (h : TB b n ta) {s e k : Nat} {o : Ob} {K : Ob → Prop} (o3 : gI o 3 = iI s) (o5 : gI o 5 = iI k) (he : e ≤ n) (hse : s < e) (hk6 : k ≤ 6) (hrun : k = 2 ∨ k = 3 → (∀ i, s ≤ i → i < e → kb b i = k) ∧ (e < n → kb b e ≠ k)) (hone : ¬ (k = 2 ∨ k = 3) → e = s + 1) (hK : f_Re_takeToken_184 r ta K (sI o 4 (iI e))) : f_Re_takeToken_99 r ta K o := by
  have hn := h.1
  have es : iI (s : Int) + (1 : Int32) = iI ((s + 1 : Nat) : Int) := ix_add s 1
  unfold f_Re_takeToken_99
  rw [o3, o5, h.2.1, es]
  have y7 : (if iI (n : Int) < iI ((s + 1 : Nat) : Int) then iI (n : Int) else iI ((s + 1 : Nat) : Int)) = iI ((s + 1 : Nat) : Int) := by
    rw [if_neg (fun z => by have := (iI_lt (by omega) (by omega)).mp z; omega)]
  refine k_e y7 ?_
  by_cases h2 : k = 2
  · obtain ⟨h3, h4⟩ := hrun (Or.inl h2)
    exact k_t (by rw [h2]; rfl) ⟨_, cl_135 h he hk6 h4 o5 hK (e - (s + 1)) (s + 1) (by omega) (fun i a c => h3 i (by omega) c)⟩
  · refine k_f (fun z => h2 (by have := (iI_eq (b := 2) (by omega) (by omega)).mp z; omega)) ?_
    by_cases h3 : k = 3
    · obtain ⟨h4, h5⟩ := hrun (Or.inr h3)
      exact k_t (by rw [h3]; rfl) ⟨_, cl_135 h he hk6 h5 o5 hK (e - (s + 1)) (s + 1) (by omega) (fun i a c => h4 i (by omega) c)⟩
    · refine k_f (fun z => h3 (by have := (iI_eq (b := 3) (by omega) (by omega)).mp z; omega)) ?_
      rw [← hone (by omega)]
      exact hK
theorem cl_tok (h : TB b n ta) {p s e k : Nat} {c : Ob} (c9 : gI c 9 = 0) (c4 : gI c 4 = iI p) (hps : p ≤ s) (hbl : ∀ i, p ≤ i → i < s → kb b i = 1) (hT : TS b n s e k) :
    ∃ c', CTk b s e k c' ∧ (gI c' 1 = gI c 1 ∧ gI c' 7 = gI c 7 ∧ gI c' 8 = gI c 8 ∧ gI c' 9 = gI c 9 ∧ gI c' 10 = gI c 10) ∧ ∀ K : Ob → Prop, K c' → f_Re_takeToken r c ta K := by
  have hn := h.1
  obtain ⟨he, hT⟩ := hT
  rcases hT with ⟨hk, hs, hen⟩ | ⟨hse, hk, hk1, hT⟩
  · subst hk
    subst hs
    refine ⟨sI (sI (sI c 3 (iI s)) 5 0) 4 (iI s), ⟨rfl, by rw [hen]; rfl, rfl, fun q => absurd q (by decide)⟩, ⟨rfl, rfl, rfl, rfl, rfl⟩, fun K hK => ?_⟩
    unfold f_Re_takeToken
    refine k_t c9 ⟨s - p + 1, ?_⟩
    rw [c4]
    refine cl_16 h (Nat.le_refl _) (fun q => by omega) ?_ (s - p) p (by omega) hbl
    have es : iI (s : Int) + (1 : Int32) = iI ((s + 1 : Nat) : Int) := ix_add s 1
    unfold f_Re_takeToken_62
    rw [show gI (sI c 3 (iI (s : Int))) 3 = iI (s : Int) from rfl, h.2.1]
    refine k_t (Int32.le_refl _) ?_
    unfold f_Re_takeToken_99
    rw [show gI (sI (sI c 3 (iI (s : Int))) 5 (0 : Int32)) 3 = iI (s : Int) from rfl, h.2.1, es]
    refine k_e (v := iI (s : Int)) (by rw [if_pos ((iI_lt (by omega) (by omega)).mpr (by omega))]) (k_f (by show ¬ (0 : Int32) = 2; decide) (k_f (by show ¬ (0 : Int32) = 3; decide) ?_))
    unfold f_Re_takeToken_184
    exact k_f (by show ¬ (0 : Int32) = 3; decide) hK
  · have k9 := kb_le b s
    have hrun : k = 2 ∨ k = 3 → (∀ i, s ≤ i → i < e → kb b i = k) ∧ (e < n → kb b e ≠ k) := fun q => by
      rcases hT with ⟨-, a, c⟩ | ⟨a, c, -⟩
      · exact ⟨a, c⟩
      · rcases q with q | q
        · exact absurd q a
        · exact absurd q c
    have hone : ¬ (k = 2 ∨ k = 3) → e = s + 1 := fun q => by
      rcases hT with ⟨a, -⟩ | ⟨-, -, a⟩
      · exact absurd a q
      · exact a
    have go : ∀ K : Ob → Prop, f_Re_takeToken_184 r ta K (sI (sI (sI c 3 (iI s)) 5 (iI k)) 4 (iI e)) → f_Re_takeToken r c ta K := by
      intro K hK
      unfold f_Re_takeToken
      refine k_t c9 ⟨s - p + 1, ?_⟩
      rw [c4]
      refine cl_16 h (by omega) (fun q => by rw [← hk]; exact hk1) ?_ (s - p) p (by omega) hbl
      unfold f_Re_takeToken_62
      rw [show gI (sI c 3 (iI (s : Int))) 3 = iI (s : Int) from rfl, h.2.1, cl_nat (by omega)]
      refine b_le (fun q => by omega) (fun _ => ⟨v_nat (by omega) (by decide), h.kind (by omega) ?_⟩)
      rw [← hk]
      exact cl_99 h rfl rfl he hse (by omega) hrun hone hK
    by_cases h3 : k = 3
    · obtain ⟨g1, g2⟩ := hrun (Or.inr h3)
      have hd : ∀ i, i < e - s → 48 ≤ b (s + i) ∧ b (s + i) ≤ 57 := fun i hi => by
        have := g1 (s + i) (by omega) (by omega)
        rw [h3] at this
        have := kV_3.mp this
        omega
      refine ⟨sI (sI (sI (sI c 3 (iI s)) 5 (iI k)) 4 (iI e)) 6 (iI ((cvN b s (e - s) : Nat) : Int)), ⟨rfl, rfl, rfl, fun _ => rfl⟩, ⟨rfl, rfl, rfl, rfl, rfl⟩, fun K hK => go K ?_⟩
      unfold f_Re_takeToken_184
      refine k_t (by show iI (k : Int) = 3; rw [h3]; rfl) ?_
      unfold f_Re_readDigits
      have := cl_dig (r := r) h (s := s) (L := e - s) (by omega) hd (c := sI (sI (sI c 3 (iI s)) 5 (iI k)) 4 (iI e)) (K := K) (by show iI (e : Int) = _; congr 1; omega) hK (e - s) 0 (by omega)
      exact ⟨_, this⟩
    · refine ⟨sI (sI (sI c 3 (iI s)) 5 (iI k)) 4 (iI e), ⟨rfl, rfl, rfl, fun q => absurd q h3⟩, ⟨rfl, rfl, rfl, rfl, rfl⟩, fun K hK => go K ?_⟩
      unfold f_Re_takeToken_184
      refine k_f (fun z => h3 ?_) hK
      have z' : iI (k : Int) = 3 := z
      have := (iI_eq (b := 3) (by omega) (by omega)).mp z'
      omega
-- the model
def mG (u u' : Ob) : Prop := (∀ k, k < 10 ∨ 16 ≤ k → gI u' k = gI u k) ∧ gA u' = gA u ∧ gB u' = gB u
theorem mG.rf (u : Ob) : mG u u := ⟨fun _ _ => rfl, rfl, rfl⟩
theorem mG.tr {a c d : Ob} (h : mG a c) (g : mG c d) : mG a d := ⟨fun k hk => (g.1 k hk).trans (h.1 k hk), g.2.1.trans h.2.1, g.2.2.trans h.2.2⟩
theorem mG.si {u v : Ob} (h : mG u v) {k : Nat} (hk : 10 ≤ k ∧ k < 16) (x : Int32) : mG u (sI v k x) := ⟨fun j hj => by rw [gI_sI_ne _ _ _ _ (by omega)]; exact h.1 j hj, h.2.1, h.2.2⟩
theorem mG.sl {u v : Ob} (h : mG u v) (k : Nat) (x : Int64) : mG u (sL v k x) := ⟨h.1, h.2.1, h.2.2⟩
theorem UB.cg {u u' : Ob} (h : UB b n u) (g : mG u u') : UB b n u' := ⟨(g.1 7 (by omega)).trans h.1, by rw [g.2.1]; exact h.2⟩
theorem mt_85 {s L : Nat} (hn : n ≤ 400) (hL : s + L ≤ n) (hd : ∀ i, i < L → kb b (s + i) = 3) (hend : s + L < n → kb b (s + L) ≠ 3) (hb : ∀ i, i < n → b i < 256) : ∀ (d i : Nat) (o : Ob), d + i = L → gI o 10 = iI ((s + i : Nat) : Int) → gI o 13 = iI ((mvN b s i : Nat) : Int) → UB b n o →
    ∃ o', gI o' 10 = iI ((s + L : Nat) : Int) ∧ gI o' 13 = iI ((mvN b s L : Nat) : Int) ∧ mG o o' ∧ gI o' 11 = gI o 11 ∧ gI o' 12 = gI o 12 ∧ ∀ K : Ob → Prop, K o' → f_Md_nextToken_85 K (d + 1) o := by
  have hdd : ∀ i, i < L → 48 ≤ b (s + i) ∧ b (s + i) ≤ 57 := fun i hi => by
    have := kV_3.mp (hd i hi)
    omega
  intro d
  induction d with
  | zero =>
    intro i o hi o10 o13 hU
    have : i = L := by omega
    subst this
    refine ⟨o, o10, o13, mG.rf o, rfl, rfl, fun K hK => ?_⟩
    unfold f_Md_nextToken_85
    rw [o10]
    refine md_see hn hU (by omega) (fun q => md_digit (by omega) (fun z => absurd (kV_3.mp z) (by omega)) (fun _ => k_t rfl hK)) (fun q => ?_)
    have := hb (s + i) q
    exact md_digit (by omega) (fun z => absurd z (hend q)) (fun _ => k_t rfl hK)
  | succ d ih =>
    intro i o hi o10 o13 hU
    have h1 := hdd i (by omega)
    have ep : iI ((s + i : Nat) : Int) + (1 : Int32) = iI ((s + (i + 1) : Nat) : Int) := ix_add (s + i) 1
    have hnr := nr_is hdd i (by omega)
    have hmb : mvN b s i < 2000000 := by unfold NR at hnr; omega
    have em : mvN b s (i + 1) = if 100000 ≤ mvN b s i then mvN b s i else 10 * mvN b s i + b (s + i) - 48 := rfl
    have pre : ∀ K : Ob → Prop, ((100000 : Int32) ≤ gI o 13 → f_Md_nextToken_131 (f_Md_nextToken_85 K (d + 1)) K o) ∧ (¬ (100000 : Int32) ≤ gI o 13 → f_Md_see (gI o 10) o (fun z5 => ∀ y6 : Int32, y6 = (((10 : Int32) * gI o 13) + z5) - (48 : Int32) → f_Md_nextToken_131 (f_Md_nextToken_85 K (d + 1)) K (sI o 13 y6))) → f_Md_nextToken_85 K (d + 1 + 1) o := by
      intro K hK
      rw [o10] at hK
      unfold f_Md_nextToken_85
      rw [o10]
      exact md_see hn hU (by omega) (fun q => by omega) (fun q => md_digit (by omega) (fun _ => k_f (by decide) hK) (fun z => absurd (hd i (by omega)) z))
    by_cases g : 100000 ≤ mvN b s i
    · rw [if_pos g] at em
      obtain ⟨o', a1, a2, a3, a4, a5, a6⟩ := ih (i + 1) (sI o 10 (iI ((s + (i + 1) : Nat) : Int))) (by omega) rfl (by rw [em]; exact o13) (hU.cg ((mG.rf o).si (by omega) _))
      refine ⟨o', a1, a2, ((mG.rf o).si (by omega) _).tr a3, a4, a5, fun K hK => pre K ?_⟩
      rw [o13]
      refine b_le (a := 100000) (fun _ => ?_) (fun q => by omega)
      unfold f_Md_nextToken_131
      rw [o10, ep]
      exact a6 K hK
    · rw [if_neg g] at em
      have ey : (((10 : Int32) * iI ((mvN b s i : Nat) : Int)) + iI ((b (s + i) : Nat) : Int)) - (48 : Int32) = iI ((mvN b s (i + 1) : Nat) : Int) := by
        rw [show (10 : Int32) = iI 10 from rfl, show (48 : Int32) = iI 48 from rfl, iI_mul, iI_add, iI_sub]; congr 1; omega
      obtain ⟨o', a1, a2, a3, a4, a5, a6⟩ := ih (i + 1) (sI (sI o 13 (iI ((mvN b s (i + 1) : Nat) : Int))) 10 (iI ((s + (i + 1) : Nat) : Int))) (by omega) rfl rfl (hU.cg (((mG.rf o).si (by omega) _).si (by omega) _))
      refine ⟨o', a1, a2, (((mG.rf o).si (by omega) _).si (by omega) _).tr a3, a4, a5, fun K hK => pre K ?_⟩
      rw [o13, o10]
      refine b_le (a := 100000) (fun q => by omega) (fun _ => md_see hn hU (by omega) (fun q => by omega) (fun q => k_e ey ?_))
      unfold f_Md_nextToken_131
      rw [show gI (sI o 13 (iI ((mvN b s (i + 1) : Nat) : Int))) 10 = gI o 10 from rfl, o10, ep]
      exact a6 K hK
theorem mt_156 {s L : Nat} (hn : n ≤ 400) (hL : s + L ≤ n) (hL1 : 1 ≤ L) (hd : ∀ i, i < L → kb b (s + i) = 2) (hend : s + L < n → kb b (s + L) ≠ 2) (hb : ∀ i, i < n → b i < 256) : ∀ (d i : Nat) (o : Ob), d + i = L → gI o 10 = iI ((s + i : Nat) : Int) → gI o 11 = iI s → gL o 15 = iL ((cdN (fun i => b (s + i)) (min i 7) : Nat) : Int) → UB b n o →
    ∃ o', MTk b s (s + L) 2 o' ∧ mG o o' ∧ ∀ K : Ob → Prop, K o' → f_Md_nextToken_156 K (d + 1) (iI ((b s : Nat) : Int)) o := by
  have b0 := hb s (by omega)
  have e65 : iI ((b s : Nat) : Int) - (65 : Int32) = iI ((b s : Int) - 65) := iI_sub _ 65
  intro d
  induction d with
  | zero =>
    intro i o hi o10 o11 o15 hU
    have : i = L := by omega
    subst this
    have ed : iI ((s + i : Nat) : Int) - iI (s : Int) = iI (i : Int) := by rw [iI_sub]; congr 1; omega
    have esub : s + i - s = i := by omega
    have pre : ∀ K : Ob → Prop, ((iI (i : Int)) ≤ (7 : Int32) → ((iI (i : Int)) = (1 : Int32) → f_Md_isIn (iI ((b s : Int) - 65)) (0 : Int32) (7 : Int32) (fun z12 => (z12 = 0 → K (sI (sI o 12 (4 : Int32)) 14 (iI ((b s : Int) - 65)))) ∧ (¬ z12 = 0 → K (sI (sI o 12 (2 : Int32)) 14 (iI ((b s : Int) - 65)))))) ∧ (¬ (iI (i : Int)) = (1 : Int32) → K (sI (sI o 12 (4 : Int32)) 14 (iI ((b s : Int) - 65))))) ∧ (¬ (iI (i : Int)) ≤ (7 : Int32) → K (sI (sI o 12 (3 : Int32)) 14 (iI ((b s : Int) - 65)))) → f_Md_nextToken_156 K (0 + 1) (iI ((b s : Nat) : Int)) o := by
      intro K hK
      unfold f_Md_nextToken_156
      rw [o10, o11, ed, e65]
      refine md_see hn hU (by omega) (fun q => md_letter (by omega) (fun z => absurd (kV_2.mp z) (by omega)) (fun _ => k_t rfl hK)) (fun q => ?_)
      have := hb (s + i) q
      exact md_letter (by omega) (fun z => absurd z (hend q)) (fun _ => k_t rfl hK)
    by_cases h7 : 7 < i
    · refine ⟨sI (sI o 12 (3 : Int32)) 14 (iI ((b s : Int) - 65)), ⟨o11, o10, fun q => absurd q (by decide), fun q => absurd q (by decide), fun q => absurd q (by decide), fun q => absurd q (by decide), fun q => absurd q (by decide), fun _ => Or.inl ⟨by omega, rfl⟩⟩, ((mG.rf o).si (by omega) _).si (by omega) _, fun K hK => pre K (b_le (b := 7) (fun q => by omega) (fun _ => hK))⟩
    · rw [Nat.min_eq_left (by omega)] at o15
      by_cases h1 : i = 1 ∧ 65 ≤ b s ∧ b s ≤ 72
      · refine ⟨sI (sI o 12 (2 : Int32)) 14 (iI ((b s : Int) - 65)), ⟨o11, o10, fun q => absurd q (by decide), fun q => absurd q (by decide), fun q => absurd q (by decide), fun q => absurd q (by decide), fun q => absurd q (by decide), fun _ => Or.inr (Or.inl ⟨by omega, h1.2, rfl, rfl⟩)⟩, ((mG.rf o).si (by omega) _).si (by omega) _, fun K hK => pre K (b_le (b := 7) (fun _ => b_eq (b := 1) (fun _ => ?_) (fun q => by omega)) (fun q => by omega))⟩
        exact md_in (lo := 0) (hi := 7) (fun _ _ => k_f (by decide) hK) (fun q => by omega) (by omega) (by omega) (by omega)
      · refine ⟨sI (sI o 12 (4 : Int32)) 14 (iI ((b s : Int) - 65)), ⟨o11, o10, fun q => absurd q (by decide), fun q => absurd q (by decide), fun q => absurd q (by decide), fun q => absurd q (by decide), fun q => absurd q (by decide), fun _ => Or.inr (Or.inr ⟨by omega, by rw [esub]; exact h1, rfl, by rw [esub]; exact o15⟩)⟩, ((mG.rf o).si (by omega) _).si (by omega) _, fun K hK => pre K (b_le (b := 7) (fun _ => b_eq (b := 1) (fun q => ?_) (fun _ => hK)) (fun q => by omega))⟩
        exact md_in (lo := 0) (hi := 7) (fun a c => by omega) (fun _ => k_t rfl hK) (by omega) (by omega) (by omega)
  | succ d ih =>
    intro i o hi o10 o11 o15 hU
    have ed : iI ((s + i : Nat) : Int) - iI (s : Int) = iI (i : Int) := by rw [iI_sub]; congr 1; omega
    have ep : iI ((s + i : Nat) : Int) + (1 : Int32) = iI ((s + (i + 1) : Nat) : Int) := ix_add (s + i) 1
    have hbi := hb (s + i) (by omega)
    have pre : ∀ K : Ob → Prop, ((7 : Int32) ≤ iI (i : Int) → f_Md_nextToken_205 (f_Md_nextToken_156 K (d + 1)) K (iI ((b s : Nat) : Int)) o) ∧ (¬ (7 : Int32) ≤ iI (i : Int) → f_Md_see (iI ((s + i : Nat) : Int)) o (fun z15 => ∀ y16 : Int64, y16 = (((gL o 15) <<< ((8 : Int32).toInt64 &&& 63)) ||| (z15.toInt64)) → f_Md_nextToken_205 (f_Md_nextToken_156 K (d + 1)) K (iI ((b s : Nat) : Int)) (sL o 15 y16))) → f_Md_nextToken_156 K (d + 1 + 1) (iI ((b s : Nat) : Int)) o := by
      intro K hK
      unfold f_Md_nextToken_156
      rw [o10, o11, ed]
      exact md_see hn hU (by omega) (fun q => by omega) (fun q => md_letter (by omega) (fun _ => k_f (by decide) hK) (fun z => absurd (hd i (by omega)) z))
    by_cases h7 : 7 ≤ i
    · obtain ⟨o', a1, a2, a3⟩ := ih (i + 1) (sI o 10 (iI ((s + (i + 1) : Nat) : Int))) (by omega) rfl o11 (by rw [Nat.min_eq_right (by omega)] at o15 ⊢; exact o15) (hU.cg ((mG.rf o).si (by omega) _))
      refine ⟨o', a1, ((mG.rf o).si (by omega) _).tr a2, fun K hK => pre K (b_le (a := 7) (fun _ => ?_) (fun q => by omega))⟩
      unfold f_Md_nextToken_205
      rw [o10, ep]
      exact a3 K hK
    · rw [Nat.min_eq_left (by omega)] at o15
      have hcd := cdN_bd (f := fun i => b (s + i)) i (fun j hj => hb (s + j) (by omega))
      have h6 : 256 ^ i ≤ 256 ^ 6 := Nat.pow_le_pow_right (by decide) (by omega)
      have hcd6 : cdN (fun i => b (s + i)) i < 281474976710656 := by
        have : (256 : Nat) ^ 6 = 281474976710656 := by decide
        omega
      have ey : ((gL o 15) <<< ((8 : Int32).toInt64 &&& 63)) ||| ((iI ((b (s + i) : Nat) : Int)).toInt64) = iL ((cdN (fun i => b (s + i)) (i + 1) : Nat) : Int) := by
        rw [o15]; exact lsh hcd6 hbi
      obtain ⟨o', a1, a2, a3⟩ := ih (i + 1) (sI (sL o 15 (iL ((cdN (fun i => b (s + i)) (i + 1) : Nat) : Int))) 10 (iI ((s + (i + 1) : Nat) : Int))) (by omega) rfl o11 (by rw [Nat.min_eq_left (by omega)]; rfl) (hU.cg (((mG.rf o).sl 15 _).si (by omega) _))
      refine ⟨o', a1, (((mG.rf o).sl 15 _).si (by omega) _).tr a2, fun K hK => pre K (b_le (a := 7) (fun q => by omega) (fun _ => md_see hn hU (by omega) (fun q => by omega) (fun q => k_e ey ?_)))⟩
      unfold f_Md_nextToken_205
      rw [show gI (sL o 15 (iL ((cdN (fun i => b (s + i)) (i + 1) : Nat) : Int))) 10 = gI o 10 from rfl, o10, ep]
      exact a3 K hK
end TK
