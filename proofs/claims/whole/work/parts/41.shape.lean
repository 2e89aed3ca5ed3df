def s5 (a b c d e : Int32) : Nat → Int32 := fun i => if i = 0 then a else if i = 1 then b else if i = 2 then c else if i = 3 then d else e
abbrev u5 (f : Nat → Int32) (a b c d e : Int32) : Nat → Int32 := upd (upd (upd (upd (upd f 0 a) 1 b) 2 c) 3 d) 4 e
theorem u5_at (f : Nat → Int32) (a b c d e : Int32) (i : Nat) (hi : i < 5) : u5 f a b c d e i = s5 a b c d e i := by
  match i, hi with
  | 0, _ => rfl
  | 1, _ => rfl
  | 2, _ => rfl
  | 3, _ => rfl
  | 4, _ => rfl
theorem okW_iff (z : Int) (hz : -2147483648 ≤ z ∧ z < 2147483648) : okW (iI z) ↔ 1 ≤ z ∧ z ≤ 12 := by
  constructor
  · rintro ⟨w, h1, h2, e⟩
    have := (iI_eq hz (by omega)).mp e
    omega
  · intro h
    exact ⟨z.toNat, by omega, by omega, by congr 1; omega⟩
theorem pv_ask {np : Nat} {a b c d e : Int32} {o : Ob} {Q : Int32 → Ob → Prop} (hp : gI o 0 = iI np) (hn : np ≤ 5) (h1 : (∀ i, i < np → okW (s5 a b c d e i)) → Q 1 (sA o 13 (u5 (gA o 13) a b c d e))) (h0 : ¬ (∀ i, i < np → okW (s5 a b c d e i)) → Q 0 (sA o 13 (u5 (gA o 13) a b c d e))) : f_PV_askShape a b c d e o Q := by
  unfold f_PV_askShape
  have step : ∀ (f k : Nat), f + k = np → (∀ i, i < k → okW (s5 a b c d e i)) → f_PV_askShape_40 Q (f + 1) (iI k) (sA o 13 (u5 (gA o 13) a b c d e)) := by
    intro f
    induction f with
    | zero =>
      intro k hk hok
      have : k = np := by omega
      subst this
      unfold f_PV_askShape_40
      have hp' : gI (sA o 13 (u5 (gA o 13) a b c d e)) 0 = iI k := hp
      rw [hp']
      exact b_le (fun _ => h1 hok) (fun q => by omega)
    | succ f ih =>
      intro k hk hok
      unfold f_PV_askShape_40
      have hp' : gI (sA o 13 (u5 (gA o 13) a b c d e)) 0 = iI np := hp
      rw [hp']
      refine b_le (fun q => by omega) (fun _ => ⟨v_nat (by omega) (by decide), ?_⟩)
      have ea : gA (sA o 13 (u5 (gA o 13) a b c d e)) 13 (iI (k : Int)).toNatClampNeg = s5 a b c d e k := by
        rw [cl_nat (by omega)]
        exact u5_at _ _ _ _ _ _ k (by omega)
      have en : iI (k : Int) + (1 : Int32) = iI ((k + 1 : Nat) : Int) := ix_add k 1
      rw [ea, en]
      obtain ⟨z, z1, z2, ez⟩ := iI_ex (s5 a b c d e k)
      have hk2 : ¬ (1 ≤ z ∧ z ≤ 12) → ¬ (∀ i, i < np → okW (s5 a b c d e i)) := by
        intro q h
        have := h k (by omega)
        rw [ez, okW_iff z ⟨z1, z2⟩] at this
        exact q this
      rw [ez]
      refine b_lt (b := 1) (fun q => h0 (hk2 (by omega))) (fun q => ⟨v_nat (by omega) (by decide), b_le (b := 12) (fun g => ?_) (fun g => h0 (hk2 (by omega)))⟩)
      refine ih (k + 1) (by omega) (fun i hi => ?_)
      by_cases hik : i = k
      · subst hik; rw [ez]; exact (okW_iff z ⟨z1, z2⟩).mpr (by omega)
      · exact hok i (by omega)
  exact ⟨np + 1, step np 0 (by omega) (fun i hi => by omega)⟩
theorem md_ask {np : Nat} {a b c d e : Int32} {o : Ob} {Q : Int32 → Ob → Prop} (hp : gI o 0 = iI np) (hn : np ≤ 5) (h1 : (∀ i, i < np → okW (s5 a b c d e i)) → Q 1 (sA o 38 (u5 (gA o 38) a b c d e))) (h0 : ¬ (∀ i, i < np → okW (s5 a b c d e i)) → Q 0 (sA o 38 (u5 (gA o 38) a b c d e))) : f_Md_isShape a b c d e o Q := by
  unfold f_Md_isShape
  have step : ∀ (f k : Nat), f + k = np → (∀ i, i < k → okW (s5 a b c d e i)) → f_Md_isShape_40 Q (f + 1) (iI k) (sA o 38 (u5 (gA o 38) a b c d e)) := by
    intro f
    induction f with
    | zero =>
      intro k hk hok
      have : k = np := by omega
      subst this
      unfold f_Md_isShape_40
      have hp' : gI (sA o 38 (u5 (gA o 38) a b c d e)) 0 = iI k := hp
      rw [hp']
      exact b_le (fun _ => h1 hok) (fun q => by omega)
    | succ f ih =>
      intro k hk hok
      unfold f_Md_isShape_40
      have hp' : gI (sA o 38 (u5 (gA o 38) a b c d e)) 0 = iI np := hp
      rw [hp']
      refine b_le (fun q => by omega) (fun _ => ⟨v_nat (by omega) (by decide), ?_⟩)
      have ea : gA (sA o 38 (u5 (gA o 38) a b c d e)) 38 (iI (k : Int)).toNatClampNeg = s5 a b c d e k := by
        rw [cl_nat (by omega)]
        exact u5_at _ _ _ _ _ _ k (by omega)
      have en : iI (k : Int) + (1 : Int32) = iI ((k + 1 : Nat) : Int) := ix_add k 1
      rw [ea, en]
      obtain ⟨z, z1, z2, ez⟩ := iI_ex (s5 a b c d e k)
      have hk2 : ¬ (1 ≤ z ∧ z ≤ 12) → ¬ (∀ i, i < np → okW (s5 a b c d e i)) := by
        intro q h
        have := h k (by omega)
        rw [ez, okW_iff z ⟨z1, z2⟩] at this
        exact q this
      rw [ez]
      refine md_in (lo := 1) (hi := 12) (fun g1 g2 => k_f (by decide) ?_) (fun q => k_t rfl (h0 (hk2 (by omega)))) ⟨z1, z2⟩ (by omega) (by omega)
      refine ih (k + 1) (by omega) (fun i hi => ?_)
      by_cases hik : i = k
      · subst hik; rw [ez]; exact (okW_iff z ⟨z1, z2⟩).mpr (by omega)
      · exact hok i (by omega)
  exact ⟨np + 1, step np 0 (by omega) (fun i hi => by omega)⟩
theorem op_above {np : Nat} {a b c d e x : Int32} {o0 m : Ob} {K : Ob → Ob → Prop} (hp : gI o0 0 = iI np) (hm : gI m 0 = iI np) (hn : np ≤ 5) (hK : ∀ f g, K (sA o0 13 f) (sA m 38 g)) (hK0 : ∀ g, K o0 (sA m 38 g)) :
    f_PV_above a b c d e x o0 (fun z u => f_Md_above a b c d e x m (fun z2 v => (z = z2 → K u v) ∧ (¬ z = z2 → False))) := by
  obtain ⟨z, z1, z2, rfl⟩ := iI_ex x
  unfold f_PV_above
  rw [show (-20 : Int32) = iI (-20) by decide]
  have out : ∀ o, (∀ g, K o (sA m 38 g)) → z < -20 ∨ 20 < z → f_Md_above a b c d e (iI z) m (fun z2 v => ((-1 : Int32) = z2 → K o v) ∧ (¬ (-1 : Int32) = z2 → False)) := by
    intro o hK0 q
    unfold f_Md_above
    refine md_ask hm hn (fun h => k_f (by decide) ?_) (fun h => k_t rfl (k_q rfl (hK0 _)))
    rw [show (-20 : Int32) = iI (-20) by decide]
    exact md_in (hi := 20) (fun _ _ => by omega) (fun _ => k_t rfl (k_q rfl (hK0 _))) ⟨z1, z2⟩ (by omega) (by omega)
  refine b_lt (fun q => out o0 hK0 (Or.inl q)) (fun q1 => b_lt (a := 20) (fun q => out o0 hK0 (Or.inr q)) (fun q2 => ?_))
  refine pv_ask hp hn (fun hs => k_f (by decide) ?_) (fun hs => k_t rfl ?_)
  · have hs1 : ∀ k, k < np → okW (gA (sA o0 13 (u5 (gA o0 13) a b c d e)) 13 k) := fun k hk => by
      show okW (u5 (gA o0 13) a b c d e k)
      rw [u5_at _ _ _ _ _ _ k (by omega)]; exact hs k hk
    have hp' : gI (sA o0 13 (u5 (gA o0 13) a b c d e)) 0 = iI np := hp
    rw [hp']
    refine to_count (by omega) hn hs1 ?_
    unfold f_Md_above
    refine md_ask hm hn (fun _ => k_f (by decide) ?_) (fun h => absurd hs h)
    rw [show (-20 : Int32) = iI (-20) by decide]
    refine md_in (hi := 20) (fun _ _ => k_f (by decide) ?_) (fun _ => by omega) ⟨z1, z2⟩ (by omega) (by omega)
    have hs2 : ∀ k, k < np → okW (gA (sA m 38 (u5 (gA m 38) a b c d e)) 38 k) := fun k hk => by
      show okW (u5 (gA m 38) a b c d e k)
      rw [u5_at _ _ _ _ _ _ k (by omega)]; exact hs k hk
    refine md_above (np := np) hm (by omega) hn hs2 (k_q ?_ (hK _ _))
    congr 2
    refine cnt_congr z (fun k hk => ?_)
    show u5 (gA o0 13) a b c d e k = u5 (gA m 38) a b c d e k
    rw [u5_at _ _ _ _ _ _ k (by omega), u5_at _ _ _ _ _ _ k (by omega)]
  · unfold f_Md_above
    exact md_ask hm hn (fun h => absurd h hs) (fun _ => k_t rfl (k_q rfl (hK _ _)))
theorem bx_congr {o o' : Nat → Int32} {np : Nat} (k : Int) (h : ∀ k, k < np → o k = o' k) : bx o np k = bx o' np k := by
  have : cnt o np = cnt o' np := funext (fun x => cnt_congr x h)
  unfold bx
  rw [this]
theorem op_tone {np : Nat} {a b c d e x : Int32} {o0 m : Ob} {K : Ob → Ob → Prop} (hp : gI o0 0 = iI np) (hm : gI m 0 = iI np) (hn : np ≤ 5) (hK : ∀ f g, K (sA o0 13 f) (sA m 38 g)) :
    f_PV_tone a b c d e x o0 (fun z u => f_Md_tone a b c d e x m (fun z2 v => (z = z2 → K u v) ∧ (¬ z = z2 → False))) := by
  obtain ⟨z, z1, z2, rfl⟩ := iI_ex x
  unfold f_PV_tone f_Md_tone
  refine pv_ask hp hn (fun hs => k_f (by decide) ?_) (fun hs => k_t rfl ?_)
  · have hs1 : ∀ k, k < np → okW (gA (sA o0 13 (u5 (gA o0 13) a b c d e)) 13 k) := fun k hk => by
      show okW (u5 (gA o0 13) a b c d e k)
      rw [u5_at _ _ _ _ _ _ k (by omega)]; exact hs k hk
    have hs2 : ∀ k, k < np → okW (gA (sA m 38 (u5 (gA m 38) a b c d e)) 38 k) := fun k hk => by
      show okW (u5 (gA m 38) a b c d e k)
      rw [u5_at _ _ _ _ _ _ k (by omega)]; exact hs k hk
    have same : ∀ k, k < np → gA (sA o0 13 (u5 (gA o0 13) a b c d e)) 13 k = gA (sA m 38 (u5 (gA m 38) a b c d e)) 38 k := fun k hk => by
      show u5 (gA o0 13) a b c d e k = u5 (gA m 38) a b c d e k
      rw [u5_at _ _ _ _ _ _ k (by omega), u5_at _ _ _ _ _ _ k (by omega)]
    have hp' : gI (sA o0 13 (u5 (gA o0 13) a b c d e)) 0 = iI np := hp
    rw [hp']
    refine to_boxOf hn hs1 ⟨z1, z2⟩ (fun q => ?_) (fun q => ?_)
    · refine md_ask hm hn (fun _ => k_f (by decide) ?_) (fun h => absurd hs h)
      refine md_isPiece (np := np) hm hn (fun j hj ez => k_f (by decide) ?_) (fun hno => k_t rfl (k_q ?_ (hK _ _)))
      · have hzj := (iI_eq ⟨z1, z2⟩ (by omega)).mp ez
        refine md_boxOf (np := np) hm hn hs2 (by omega) (k_q ?_ (hK _ _))
        rw [bx_congr z same]
      · have hz2 : (np : Int) ≤ z := by
          rcases Int.lt_or_le z np with h | h
          · exact absurd (by congr 1; omega) (hno z.toNat (by omega))
          · exact h
        have hc : cnt (gA (sA o0 13 (u5 (gA o0 13) a b c d e)) 13) np (-20) ≤ np := cN_le _ _ _ _ _
        rw [bx_no hs1 (by omega)]
        decide
    · refine md_ask hm hn (fun _ => k_f (by decide) ?_) (fun h => absurd hs h)
      refine md_isPiece (np := np) hm hn (fun j hj ez => ?_) (fun hno => k_t rfl (k_q rfl (hK _ _)))
      have hzj := (iI_eq ⟨z1, z2⟩ (by omega)).mp ez
      omega
  · exact md_ask hm hn (fun h => absurd h hs) (fun _ => k_t rfl (k_q rfl (hK _ _)))
