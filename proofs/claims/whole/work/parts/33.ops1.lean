theorem ixn {c j : Nat} {x : Int32} (hx : x = iI (j : Int)) (y : Int32) (hy : y = iI (c : Int)) : y + x = iI ((c + j : Nat) : Int) := by rw [hx, hy]; exact ix_add c j
theorem op_fault {a : Int32} {o0 o2 m : Ob} {r2 : Nat → Nat} {K : Prop} (hR : RRe o2 m) (hK : K) :
    f_PV_fault a o0 r2 o2 (fun z => f_Md_fault a m (fun z2 => (z = z2 → K) ∧ (¬ z = z2 → False))) := by
  unfold f_PV_fault f_Md_fault
  rcases hR with ⟨h8, hf, hp⟩ | ⟨h8, hf, hp⟩
  · refine k_t h8 (k_c (fun _ => k_q hf.symm hK) (fun _ => k_c (fun _ => k_q hp.symm hK) (fun _ => k_q rfl hK)))
  · refine k_f (by rw [h8]; decide) (k_c (fun h => ?_) (fun h => k_c (fun g => ?_) (fun g => ?_)))
    · exact k_t h (k_q hf hK)
    · exact k_f h (k_t g (k_q hp hK))
    · exact k_f h (k_f g (k_q rfl hK))
theorem op_end {a : Int32} {o0 o1 m : Ob} {K : Ob → Ob → Prop} (hT : RTa o1 m) (hK : ∀ u v, RTa u v → (∀ k, k ≠ 7 → gI v k = gI m k) → gL v = gL m → gA v = gA m → gB v = gB m → K u v) :
    f_PV_end a o0 o1 (fun z u => f_Md_end a m (fun z2 v => (z = z2 → K u v) ∧ (¬ z = z2 → False))) := by
  obtain ⟨n, hn, h1, h2, hb⟩ := hT
  have same : RTa o1 m := ⟨n, hn, h1, h2, hb⟩
  obtain ⟨z, z1, z2, rfl⟩ := iI_ex a
  unfold f_PV_end f_Md_end
  rw [h1, h2]
  refine b_lt (b := 0) (fun q => ?_) (fun q => b_le (fun g => ?_) (fun g => ?_))
  · refine md_in (lo := 0) (fun a b => by omega) (fun _ => ?_) (by omega) (by omega) (by omega)
    exact k_t rfl (k_q rfl (hK _ _ same (fun _ _ => rfl) rfl rfl rfl))
  · refine md_in (lo := 0) (fun a b => ?_) (fun _ => by omega) (by omega) (by omega) (by omega)
    refine k_f (by decide) (k_q rfl (hK _ _ ⟨z.toNat, by omega, ?_, ?_, fun i hi => hb i (by omega)⟩ (fun k hk => gI_sI_ne _ _ _ _ hk) rfl rfl rfl))
    · show iI z = _; congr 1; omega
    · show iI z = _; congr 1; omega
  · refine md_in (lo := 0) (fun a b => by omega) (fun _ => ?_) (by omega) (by omega) (by omega)
    exact k_t rfl (k_q rfl (hK _ _ same (fun _ _ => rfl) rfl rfl rfl))
theorem op_law {np : Nat} {a : Int32} {o0 o3 la m : Ob} {r3 : Nat → Nat} {K : Prop} (hp : gI o0 0 = iI np) (hm : gI m 0 = iI np) (hn : np ≤ 5) (hL : RLa np la (gA m 1)) (hK : K) :
    f_PV_law a o0 r3 o3 la (fun z => f_Md_law a m (fun z2 => (z = z2 → K) ∧ (¬ z = z2 → False))) := by
  obtain ⟨hr, h1, h2, h3, h4, ⟨g, hg, hg1, hg2, -⟩, -⟩ := hL
  unfold f_PV_law f_Md_law
  refine pv_isPiece hp hn (fun j hj ha => ?_) (fun hno => ?_)
  · refine k_f (by decide) ⟨by rw [ha]; exact v_nat (by omega) (by decide), ?_⟩
    refine md_isPiece hm hn (fun _ _ _ => ?_) (fun hno => absurd ha (hno j hj))
    have e : ((5605 : Int32) + a) = iI ((5605 + j : Nat) : Int) := ixn (c := 5605) ha _ rfl
    refine k_f (by decide) ⟨by rw [e]; exact v_nat (by omega) (by decide), k_n (k_q ?_ hK)⟩
    rw [e, ha, cl_nat (by omega), cl_nat (by omega)]
    exact (hr j (by omega)).2
  · refine k_t rfl ?_
    refine k_c (fun c1 => ?_) (fun c1 => k_c (fun c2 => ?_) (fun c2 => k_c (fun c3 => ?_) (fun c3 => k_c (fun c4 => ?_) (fun c4 => ?_))))
    · exact md_isPiece hm hn (fun j hj ha => absurd ha (hno j hj)) (fun _ => k_t rfl (k_t c1 (k_q h1.1 hK)))
    · exact md_isPiece hm hn (fun j hj ha => absurd ha (hno j hj)) (fun _ => k_t rfl (k_f c1 (k_t c2 (k_q h2.1 hK))))
    · exact md_isPiece hm hn (fun j hj ha => absurd ha (hno j hj)) (fun _ => k_t rfl (k_f c1 (k_f c2 (k_t c3 (k_q h3.1 hK)))))
    · exact md_isPiece hm hn (fun j hj ha => absurd ha (hno j hj)) (fun _ => k_t rfl (k_f c1 (k_f c2 (k_f c3 (k_t c4 (k_q (hg1.trans hg2.symm) hK))))))
    · exact md_isPiece hm hn (fun j hj ha => absurd ha (hno j hj)) (fun _ => k_t rfl (k_f c1 (k_f c2 (k_f c3 (k_f c4 (k_q rfl hK))))))
/-- the long answers -/
theorem k_l {a b : Int64} {A : Prop} (e : a = b) (h : A) : (lg_cmp a b = 0 → A) ∧ (¬ lg_cmp a b = 0 → False) := by
  subst e
  exact ⟨fun _ => h, fun n => n (by simp [lg_cmp])⟩
theorem op_wave {np : Nat} {a b : Int32} {o0 o3 m : Ob} {r3 : Nat → Nat} {K : Prop} (hp : gI o0 0 = iI np) (hm : gI m 0 = iI np) (hn : np ≤ 5) (hW : RWa np o3 (gB m 3)) (hK : K) :
    f_PV_wave a b o0 r3 o3 (fun z => f_Md_wave a b m (fun z2 => (lg_cmp z z2 = 0 → K) ∧ (¬ lg_cmp z z2 = 0 → False))) := by
  unfold f_PV_wave f_Md_wave
  refine pv_isPiece hp hn (fun j hj ha => ?_) (fun hno => ?_)
  · refine k_f (by decide) ?_
    have e5 : ((5 : Int32) + a) = iI ((5 + j : Nat) : Int) := ixn (c := 5) ha _ rfl
    have e0 : ((0 : Int32) + a) = iI ((0 + j : Nat) : Int) := ixn (c := 0) ha _ rfl
    refine k_c (fun hb => ?_) (fun hb => ?_)
    · refine ⟨by rw [ha]; exact v_nat (by omega) (by decide), ?_⟩
      refine md_isPiece hm hn (fun _ _ _ => ?_) (fun hno => absurd ha (hno j hj))
      refine k_f (by decide) (k_t hb ⟨by rw [e5]; exact v_nat (by omega) (by decide), k_l ?_ hK⟩)
      rw [e5, ha, cl_nat (by omega), cl_nat (by omega)]
      exact (hW.1 j hj).2
    · refine ⟨by rw [ha]; exact v_nat (by omega) (by decide), ?_⟩
      refine md_isPiece hm hn (fun _ _ _ => ?_) (fun hno => absurd ha (hno j hj))
      refine k_f (by decide) (k_f hb ⟨by rw [e0]; exact v_nat (by omega) (by decide), k_l ?_ hK⟩)
      rw [e0, ha, cl_nat (by omega), cl_nat (by omega), Nat.zero_add]
      exact (hW.1 j hj).1
  · refine k_t rfl ?_
    exact md_isPiece hm hn (fun j hj ha => absurd ha (hno j hj)) (fun _ => k_t rfl (k_l rfl hK))
theorem op_left {np : Nat} {a : Int32} {o0 o3 m : Ob} {r3 : Nat → Nat} {K : Prop} (hp : gI o0 0 = iI np) (hm : gI m 0 = iI np) (hn : np ≤ 5) (hn2 : 2 ≤ np) (hW : RWa np o3 (gB m 3)) (hK : K) :
    f_PV_left a o0 r3 o3 (fun z => f_Md_left a m (fun z2 => (lg_cmp z z2 = 0 → K) ∧ (¬ lg_cmp z z2 = 0 → False))) := by
  obtain ⟨z, z1, z2, rfl⟩ := iI_ex a
  unfold f_PV_left f_Md_left
  rw [hp, hm]
  have e1 : iI (np : Int) - (1 : Int32) = iI ((np : Int) - 1) := iI_sub _ 1
  have e2 : iI (np : Int) - (2 : Int32) = iI ((np : Int) - 2) := iI_sub _ 2
  rw [e1, e2]
  have no : z < 0 ∨ (np : Int) - 1 ≤ z → f_PV_left_24 o0 r3 o3 (fun z3 => f_Md_isIn (iI z) (iI 0) (iI ((np : Int) - 2)) (fun z1 => (z1 = 0 → ((iI z = (10 : Int32) → ((lg_cmp z3 ((gB m 3) 14) = 0 → K) ∧ (¬ lg_cmp z3 ((gB m 3) 14) = 0 → False))) ∧ (¬ iI z = (10 : Int32) → ((iI z = (11 : Int32) → ((lg_cmp z3 ((gB m 3) 15) = 0 → K) ∧ (¬ lg_cmp z3 ((gB m 3) 15) = 0 → False))) ∧ (¬ iI z = (11 : Int32) → ((lg_cmp z3 (-1 : Int64) = 0 → K) ∧ (¬ lg_cmp z3 (-1 : Int64) = 0 → False))))))) ∧ (¬ z1 = 0 → ((vp_in ((10 : Int32) + iI z) 2016) ∧ (∀ y6 : Int64, y6 = ((gB m 3) (((10 : Int32) + iI z).toNatClampNeg)) → ((lg_cmp z3 y6 = 0 → K) ∧ (¬ lg_cmp z3 y6 = 0 → False))))))) (iI z) := by
    intro q
    unfold f_PV_left_24
    refine k_c (fun c1 => ?_) (fun c1 => k_c (fun c2 => ?_) (fun c2 => ?_))
    · exact md_in (fun a b => by omega) (fun _ => k_t rfl (k_t c1 (k_l hW.2.2.1 hK))) (by omega) (by omega) (by omega)
    · exact md_in (fun a b => by omega) (fun _ => k_t rfl (k_f c1 (k_t c2 (k_l hW.2.2.2 hK)))) (by omega) (by omega) (by omega)
    · exact md_in (fun a b => by omega) (fun _ => k_t rfl (k_f c1 (k_f c2 (k_l rfl hK)))) (by omega) (by omega) (by omega)
  refine b_lt (b := 0) (fun q => no (Or.inl q)) (fun q => b_le (fun g => no (Or.inr g)) (fun g => ?_))
  have ez : iI z = iI ((z.toNat : Nat) : Int) := by congr 1; omega
  refine ⟨v_in (by omega) (by decide), md_in (lo := 0) (fun a b => ?_) (fun _ => by omega) (by omega) (by omega) (by omega)⟩
  have e10 : ((10 : Int32) + iI z) = iI ((10 + z.toNat : Nat) : Int) := ixn (c := 10) ez _ rfl
  refine k_f (by decide) ⟨by rw [e10]; exact v_nat (by omega) (by decide), k_n (k_l ?_ hK)⟩
  rw [e10, cl_nat (by omega), iI_cl (by omega) (by omega)]
  exact hW.2.1 z.toNat (by omega)
theorem op_sound {a : Int32} {o0 o3 m : Ob} {r3 : Nat → Nat} {t : Nat} {K : Prop} (hC : RCl o3 (gA m 1) t) (hS : RSn (gB o0 7) (gB m 3) t) (hK : K) :
    f_PV_sound a o0 r3 o3 (fun z => f_Md_sound a m (fun z2 => (lg_cmp z z2 = 0 → K) ∧ (¬ lg_cmp z z2 = 0 → False))) := by
  obtain ⟨c1, c2, c3⟩ := hC
  obtain ⟨z, z1, z2, rfl⟩ := iI_ex a
  unfold f_PV_sound f_Md_sound
  rw [c1, c2]
  have e1 : iI (t : Int) * (10 : Int32) = iI ((t : Int) * 10) := iI_mul _ 10
  have e2 : (10 : Int32) * iI (t : Int) - (1 : Int32) = iI (10 * (t : Int) - 1) := by rw [show (10 : Int32) * iI (t : Int) = iI (10 * (t : Int)) from iI_mul 10 _]; exact iI_sub _ 1
  rw [e1, e2]
  refine b_lt (b := 0) (fun q => ?_) (fun q => b_lt (fun g => ?_) (fun g => ?_))
  · exact md_in (lo := 0) (fun a b => by omega) (fun _ => k_t rfl (k_l rfl hK)) (by omega) (by omega) (by omega)
  · refine ⟨v_in (by omega) (by decide), md_in (lo := 0) (fun a b => ?_) (fun _ => by omega) (by omega) (by omega) (by omega)⟩
    have ez : iI z = iI ((z.toNat : Nat) : Int) := by congr 1; omega
    have e16 : ((16 : Int32) + iI z) = iI ((16 + z.toNat : Nat) : Int) := ixn (c := 16) ez _ rfl
    refine k_f (by decide) ⟨by rw [e16]; exact v_nat (by omega) (by decide), k_n (k_l ?_ hK)⟩
    rw [e16, cl_nat (by omega), iI_cl (by omega) (by omega)]
    exact hS z.toNat (by omega)
  · exact md_in (lo := 0) (fun a b => by omega) (fun _ => k_t rfl (k_l rfl hK)) (by omega) (by omega) (by omega)
theorem op_foldsOf {a : Int32} {o0 o3 o4 m : Ob} {r3 : Nat → Nat} {K : Prop} (hF : RFo o4 (gA m 1)) (hK : K) :
    f_PV_foldsOf a o0 r3 o3 o4 (fun z => f_Md_foldsOf a m (fun z2 => (z = z2 → K) ∧ (¬ z = z2 → False))) := by
  obtain ⟨⟨h0, h1, -, -, -, h5, h6⟩, -⟩ := hF
  obtain ⟨z, z1, z2, rfl⟩ := iI_ex a
  unfold f_PV_foldsOf f_Md_foldsOf
  have go : ∀ (j : Nat) (v : Int32), j < 4 → z = j → v = (gA m 1) (7 + j) → f_Md_isIn (iI z) (iI 0) (iI 3) (fun z1 => (z1 = 0 → ((v = (-100 : Int32) → K) ∧ (¬ v = (-100 : Int32) → False))) ∧ (¬ z1 = 0 → ((vp_in ((7 : Int32) + iI z) 6100) ∧ ((v = ((gA m 1) (((7 : Int32) + iI z).toNatClampNeg)) → K) ∧ (¬ v = ((gA m 1) (((7 : Int32) + iI z).toNatClampNeg)) → False))))) := by
    intro j v hj hz hv
    have e7 : ((7 : Int32) + iI z) = iI ((7 + j : Nat) : Int) := ixn (c := 7) (by rw [hz]) _ rfl
    refine md_in (fun a b => ?_) (fun _ => by omega) (by omega) (by omega) (by omega)
    refine k_f (by decide) ⟨by rw [e7]; exact v_nat (by omega) (by decide), k_q ?_ hK⟩
    rw [e7, cl_nat (by omega)]
    exact hv
  refine b_eq (b := 0) (fun q => go 0 _ (by omega) q h0) (fun q0 => b_eq (b := 1) (fun q => go 1 _ (by omega) q h1) (fun q1 => b_eq (b := 2) (fun q => go 2 _ (by omega) q h5) (fun q2 => b_eq (b := 3) (fun q => go 3 _ (by omega) q h6) (fun q3 => ?_))))
  exact md_in (lo := 0) (hi := 3) (fun a b => by omega) (fun _ => k_t rfl (k_q rfl hK)) (by omega) (by omega) (by omega)
