-- the model's next token
section TN3
variable {b : Nat → Nat} {n : Nat} {ta : Ob} {r : Nat → Nat}
theorem md_at {s d : Nat} {o : Ob} {K : Ob → Prop} (hn : n ≤ 400) (hs : s < n) (hU : UB b n o) (hb : b s < 256) (o10 : gI o 10 = iI s) (h1 : kb b s ≠ 1)
    (hdig : kb b s = 3 → ∃ w, f_Md_nextToken_85 K w (sI (sI (sI o 11 (iI s)) 12 (1 : Int32)) 13 (0 : Int32)))
    (hlet : kb b s = 2 → ∃ w, f_Md_nextToken_156 K w (iI ((b s : Nat) : Int)) (sL (sI o 11 (iI s)) 15 (0 : Int64)))
    (hc : kb b s = 4 → K (sI (sI (sI o 11 (iI s)) 12 (44 : Int32)) 10 (iI ((s + 1 : Nat) : Int))))
    (hm : kb b s = 5 → K (sI (sI (sI o 11 (iI s)) 12 (59 : Int32)) 10 (iI ((s + 1 : Nat) : Int))))
    (ho : kb b s = 6 → K (sI (sI (sI o 11 (iI s)) 12 (3 : Int32)) 10 (iI ((s + 1 : Nat) : Int)))) : f_Md_nextToken_0 K (d + 1) o := by
  have es : iI (s : Int) + (1 : Int32) = iI ((s + 1 : Nat) : Int) := ix_add s 1
  have n32 : ((b s : Nat) : Int) ≠ 32 := fun z => h1 (kV_1.mpr (Or.inr z))
  have n10 : ((b s : Nat) : Int) ≠ 10 := fun z => h1 (kV_1.mpr (Or.inl z))
  have l303 : ∀ z : Int32, K (sI (sI (sI o 11 (iI s)) 12 z) 10 (iI ((s + 1 : Nat) : Int))) → f_Md_nextToken_303 K (sI (sI o 11 (iI s)) 12 z) := by
    intro z hK
    unfold f_Md_nextToken_303
    rw [show gI (sI (sI o 11 (iI (s : Int))) 12 z) 10 = gI o 10 from rfl, o10, es]
    exact hK
  unfold f_Md_nextToken_0
  rw [o10]
  refine md_see hn hU (by omega) (fun q => by omega) (fun _ => b_eq (b := 32) (fun q => absurd q n32) (fun _ => ?_))
  refine md_see hn hU (by omega) (fun q => by omega) (fun _ => b_eq (b := 10) (fun q => absurd q n10) (fun _ => ?_))
  refine md_see (u := sI o 11 (iI s)) hn hU (by omega) (fun q => by omega) (fun _ => b_le (a := 0) (fun _ => ?_) (fun q => by omega))
  refine md_digit (by omega) (fun z => k_f (by decide) (hdig z)) (fun z3 => k_t rfl (md_letter (by omega) (fun z => k_f (by decide) (hlet z)) (fun z2 => k_t rfl ?_)))
  rcases kV_456 z2 z3 h1 with ⟨k4, v⟩ | ⟨k5, v⟩ | ⟨k6, v, w⟩
  · rw [v]
    exact k_t rfl (l303 _ (hc k4))
  · rw [v]
    exact k_f (by decide) (k_t rfl (l303 _ (hm k5)))
  · exact b_eq (b := 44) (fun q => absurd q v) (fun _ => b_eq (b := 59) (fun q => absurd q w) (fun _ => l303 _ (ho k6)))
theorem md_tokat {s e k d : Nat} {o : Ob} (hn : n ≤ 400) (hb : ∀ i, i < n → b i < 256) (hU : UB b n o) (o10 : gI o 10 = iI s) (hT : TS b n s e k) : ∃ u', MTk b s e k u' ∧ mG o u' ∧ ∀ K : Ob → Prop, K u' → f_Md_nextToken_0 K (d + 1) o := by
  obtain ⟨he, hT⟩ := hT
  have nn : ∀ {a c : Nat} {P : Prop}, a ≠ c → a = c → P := fun h q => absurd q h
  rcases hT with ⟨hk, hs, hen⟩ | ⟨hse, hk, hk1, hT⟩
  · subst hk
    subst hs
    refine ⟨sI (sI o 11 (iI s)) 12 (0 : Int32), ⟨rfl, by rw [hen]; exact o10, fun _ => rfl, nn (by decide), nn (by decide), nn (by decide), nn (by decide), nn (by decide)⟩, ((mG.rf o).si (by omega) _).si (by omega) _, fun K hK => ?_⟩
    unfold f_Md_nextToken_0
    rw [o10]
    refine md_see hn hU (by omega) (fun _ => k_f (by decide) ?_) (fun q => by omega)
    refine md_see hn hU (by omega) (fun _ => k_f (by decide) ?_) (fun q => by omega)
    exact md_see (u := sI o 11 (iI s)) hn hU (by omega) (fun _ => k_f (by decide) hK) (fun q => by omega)
  · have hkk : kb b s = k := hk.symm
    have hbs := hb s (by omega)
    rcases hT with ⟨h23, g1, g2⟩ | ⟨h2, h3, he1⟩
    · rcases h23 with h2 | h3
      · subst h2
        obtain ⟨u', a1, a2, a3⟩ := mt_156 (b := b) (n := n) (s := s) (L := e - s) hn (by omega) (by omega) (fun i hi => g1 (s + i) (by omega) (by omega)) (fun q => by rw [show s + (e - s) = e by omega]; exact g2 (by omega)) hb (e - s) 0 (sL (sI o 11 (iI s)) 15 (0 : Int64)) rfl o10 rfl rfl (hU.cg (((mG.rf o).si (by omega) _).sl 15 _))
        rw [show s + (e - s) = e by omega] at a1
        refine ⟨u', a1, (((mG.rf o).si (by omega) _).sl 15 _).tr a2, fun K hK => md_at hn (by omega) hU hbs o10 (by rw [hkk]; exact hk1) (fun z => ?_) (fun _ => ⟨_, a3 K hK⟩) (fun z => ?_) (fun z => ?_) (fun z => ?_)⟩
        all_goals omega
      · subst h3
        obtain ⟨u', a1, a2, a3, a4, a5, a6⟩ := mt_85 (b := b) (n := n) (s := s) (L := e - s) hn (by omega) (fun i hi => g1 (s + i) (by omega) (by omega)) (fun q => by rw [show s + (e - s) = e by omega]; exact g2 (by omega)) hb (e - s) 0 (sI (sI (sI o 11 (iI s)) 12 (1 : Int32)) 13 (0 : Int32)) rfl o10 rfl (hU.cg ((((mG.rf o).si (by omega) _).si (by omega) _).si (by omega) _))
        rw [show s + (e - s) = e by omega] at a1
        refine ⟨u', ⟨a4, a1, nn (by decide), fun _ => ⟨a5, a2⟩, nn (by decide), nn (by decide), nn (by decide), nn (by decide)⟩, ((((mG.rf o).si (by omega) _).si (by omega) _).si (by omega) _).tr a3, fun K hK => md_at hn (by omega) hU hbs o10 (by rw [hkk]; exact hk1) (fun _ => ⟨_, a6 K hK⟩) (fun z => ?_) (fun z => ?_) (fun z => ?_) (fun z => ?_)⟩
        all_goals omega
    · subst he1
      have k6 := kb_le b s
      have k456 : k = 4 ∨ k = 5 ∨ k = 6 := by omega
      rcases k456 with e4 | e4 | e4
      · subst e4
        refine ⟨sI (sI (sI o 11 (iI s)) 12 (44 : Int32)) 10 (iI ((s + 1 : Nat) : Int)), ⟨rfl, rfl, nn (by decide), nn (by decide), fun _ => rfl, nn (by decide), nn (by decide), nn (by decide)⟩, (((mG.rf o).si (by omega) _).si (by omega) _).si (by omega) _, fun K hK => md_at hn (by omega) hU hbs o10 (by rw [hkk]; exact hk1) (fun z => ?_) (fun z => ?_) (fun _ => hK) (fun z => ?_) (fun z => ?_)⟩
        all_goals omega
      · subst e4
        refine ⟨sI (sI (sI o 11 (iI s)) 12 (59 : Int32)) 10 (iI ((s + 1 : Nat) : Int)), ⟨rfl, rfl, nn (by decide), nn (by decide), nn (by decide), fun _ => rfl, nn (by decide), nn (by decide)⟩, (((mG.rf o).si (by omega) _).si (by omega) _).si (by omega) _, fun K hK => md_at hn (by omega) hU hbs o10 (by rw [hkk]; exact hk1) (fun z => ?_) (fun z => ?_) (fun z => ?_) (fun _ => hK) (fun z => ?_)⟩
        all_goals omega
      · subst e4
        refine ⟨sI (sI (sI o 11 (iI s)) 12 (3 : Int32)) 10 (iI ((s + 1 : Nat) : Int)), ⟨rfl, rfl, nn (by decide), nn (by decide), nn (by decide), nn (by decide), fun _ => rfl, nn (by decide)⟩, (((mG.rf o).si (by omega) _).si (by omega) _).si (by omega) _, fun K hK => md_at hn (by omega) hU hbs o10 (by rw [hkk]; exact hk1) (fun z => ?_) (fun z => ?_) (fun z => ?_) (fun z => ?_) (fun _ => hK)⟩
        all_goals omega
theorem md_tok {s e k : Nat} (hn : n ≤ 400) (hb : ∀ i, i < n → b i < 256) (hT : TS b n s e k) (hsn : s ≤ n) : ∀ (d p : Nat) (o : Ob), d + p = s → UB b n o → gI o 10 = iI p → (∀ i, p ≤ i → i < s → kb b i = 1) → ∃ u', MTk b s e k u' ∧ mG o u' ∧ ∀ K : Ob → Prop, K u' → f_Md_nextToken_0 K (d + 1) o := by
  intro d
  induction d with
  | zero =>
    intro p o hp hU o10 hbl
    have : p = s := by omega
    subst this
    exact md_tokat hn hb hU o10 hT
  | succ d ih =>
    intro p o hp hU o10 hbl
    have ep : iI (p : Int) + (1 : Int32) = iI ((p + 1 : Nat) : Int) := ix_add p 1
    obtain ⟨u', a1, a2, a3⟩ := ih (p + 1) (sI o 10 (iI ((p + 1 : Nat) : Int))) (by omega) (hU.cg ((mG.rf o).si (by omega) _)) rfl (fun i x y => hbl i (by omega) y)
    refine ⟨u', a1, ((mG.rf o).si (by omega) _).tr a2, fun K hK => ?_⟩
    have hbp := hb p (by omega)
    have l26 : f_Md_nextToken_26 (f_Md_nextToken_0 K (d + 1)) K o := by
      unfold f_Md_nextToken_26
      rw [o10, ep]
      exact a3 K hK
    have hbk := kV_1.mp (hbl p (Nat.le_refl _) (by omega))
    unfold f_Md_nextToken_0
    rw [o10]
    refine md_see hn hU (by omega) (fun q => by omega) (fun _ => b_eq (b := 32) (fun _ => l26) (fun q => ?_))
    exact md_see hn hU (by omega) (fun q => by omega) (fun _ => b_eq (b := 10) (fun _ => l26) (fun q2 => by omega))
end TN3
