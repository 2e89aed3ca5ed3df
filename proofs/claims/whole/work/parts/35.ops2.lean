theorem op_look {a : Int32} {o0 o3 m : Ob} {r3 : Nat → Nat} {tm : Nat} {K : Ob → Ob → Prop} (hT : RTi o3 (gA m 1) tm) (h0 : K o3 m) (h1 : ∀ lk : Nat, lk ≤ tm → K (sI o3 12 (iI lk)) (sA m 1 (upd (gA m 1) 2 (iI lk)))) :
    f_PV_look a o0 r3 o3 (fun z u => f_Md_look a m (fun z2 v => (z = z2 → K u v) ∧ (¬ z = z2 → False))) := by
  obtain ⟨t1, t2, t3, -⟩ := hT
  obtain ⟨z, z1, z2, rfl⟩ := iI_ex a
  unfold f_PV_look f_Md_look
  rw [t1, t2]
  refine b_lt (b := 0) (fun q => ?_) (fun q => b_le (fun g => ?_) (fun g => ?_))
  · exact md_in (lo := 0) (fun a b => by omega) (fun _ => k_t rfl (k_q rfl h0)) (by omega) (by omega) (by omega)
  · refine md_in (lo := 0) (fun a b => k_f (by decide) (k_q rfl ?_)) (fun _ => by omega) (by omega) (by omega) (by omega)
    have e : z = ((z.toNat : Nat) : Int) := by omega
    rw [e]
    exact h1 z.toNat (by omega)
  · exact md_in (lo := 0) (fun a b => by omega) (fun _ => k_t rfl (k_q rfl h0)) (by omega) (by omega) (by omega)
theorem pv_isBreath {z : Int} {Q : Int32 → Prop} (hz : -2147483648 ≤ z ∧ z < 2147483648) (h1 : 0 ≤ z → z ≤ 40 → Q 1) (h0 : z < 0 ∨ 40 < z → Q 0) : f_PV_isBreath (iI z) Q := by
  unfold f_PV_isBreath
  refine b_lt (b := 0) (fun q => h0 (Or.inl q)) (fun q => ?_)
  refine b_lt (a := 40) (fun g => h0 (by omega)) (fun g => h1 (by omega) (by omega))
theorem pv_isSound {z : Int} {Q : Int32 → Prop} (hz : -2147483648 ≤ z ∧ z < 2147483648) (h1 : 0 ≤ z → z ≤ 7 → Q 1) (h0 : z < 0 ∨ 7 < z → Q 0) : f_PV_isSound (iI z) Q := by
  unfold f_PV_isSound
  refine b_lt (b := 0) (fun q => h0 (Or.inl q)) (fun q => ?_)
  refine b_le (a := 8) (fun g => h0 (by omega)) (fun g => h1 (by omega) (by omega))
theorem op_folds {a b c : Int32} {o0 o3 o4 m : Ob} {r3 : Nat → Nat} {K : Ob → Ob → Prop} (h0 : K o4 m)
    (h1 : ∀ x y w : Nat, x ≤ 40 → 1 ≤ y → y ≤ 20 → 1 ≤ w → w ≤ 20 → K (sI (sI (sI o4 2 (iI x)) 3 (iI y)) 4 (iI w)) (sA m 1 (upd (upd (upd (gA m 1) 4 (iI x)) 5 (iI y)) 6 (iI w)))) :
    f_PV_folds a b c o0 r3 o3 o4 (fun z u => f_Md_folds a b c m (fun z2 v => (z = z2 → K u v) ∧ (¬ z = z2 → False))) := by
  obtain ⟨x, x1, x2, rfl⟩ := iI_ex a
  obtain ⟨y, y1, y2, rfl⟩ := iI_ex b
  obtain ⟨w, w1, w2, rfl⟩ := iI_ex c
  unfold f_PV_folds f_Md_folds
  -- the model's answer, said once
  have no : ¬ ((0 ≤ x ∧ x ≤ 40) ∧ (1 ≤ y ∧ y ≤ 20) ∧ (1 ≤ w ∧ w ≤ 20)) → f_Md_isIn (iI x) (0 : Int32) (40 : Int32) (fun z1 => (z1 = 0 → ((((0 : Int32) = (0 : Int32) → K o4 m) ∧ (¬ (0 : Int32) = (0 : Int32) → False)))) ∧ (¬ z1 = 0 → (f_Md_isIn (iI y) (1 : Int32) (20 : Int32) (fun z3 => (z3 = 0 → ((((0 : Int32) = (0 : Int32) → K o4 m) ∧ (¬ (0 : Int32) = (0 : Int32) → False)))) ∧ (¬ z3 = 0 → (f_Md_isIn (iI w) (1 : Int32) (20 : Int32) (fun z5 => (z5 = 0 → ((((0 : Int32) = (0 : Int32) → K o4 m) ∧ (¬ (0 : Int32) = (0 : Int32) → False)))) ∧ (¬ z5 = 0 → ((((0 : Int32) = (1 : Int32) → K o4 (sA m 1 (upd (upd (upd (gA m 1) 4 (iI x)) 5 (iI y)) 6 (iI w)))) ∧ (¬ (0 : Int32) = (1 : Int32) → False))))))))))) := by
    intro q
    refine md_in (lo := 0) (hi := 40) (fun a1 a2 => ?_) (fun _ => k_t rfl (k_q rfl h0)) (by omega) (by omega) (by omega)
    refine k_f (by decide) (md_in (lo := 1) (hi := 20) (fun b1 b2 => ?_) (fun _ => k_t rfl (k_q rfl h0)) (by omega) (by omega) (by omega))
    refine k_f (by decide) (md_in (lo := 1) (hi := 20) (fun c1 c2 => ?_) (fun _ => k_t rfl (k_q rfl h0)) (by omega) (by omega) (by omega))
    omega
  refine pv_isBreath (by omega) (fun a1 a2 => k_f (by decide) ?_) (fun q => k_t rfl (no (by omega)))
  refine b_lt (b := 1) (fun q => no (by omega)) (fun q1 => ?_)
  refine b_lt (a := 20) (fun q => no (by omega)) (fun q2 => ?_)
  refine b_lt (b := 1) (fun q => no (by omega)) (fun q3 => ?_)
  refine b_le (b := 20) (fun q4 => ?_) (fun q => no (by omega))
  refine md_in (lo := 0) (hi := 40) (fun a1 a2 => ?_) (fun _ => by omega) (by omega) (by omega) (by omega)
  refine k_f (by decide) (md_in (lo := 1) (hi := 20) (fun b1 b2 => ?_) (fun _ => by omega) (by omega) (by omega) (by omega))
  refine k_f (by decide) (md_in (lo := 1) (hi := 20) (fun c1 c2 => ?_) (fun _ => by omega) (by omega) (by omega) (by omega))
  refine k_f (by decide) (k_q rfl ?_)
  have ex : x = ((x.toNat : Nat) : Int) := by omega
  have ey : y = ((y.toNat : Nat) : Int) := by omega
  have ew : w = ((w.toNat : Nat) : Int) := by omega
  rw [ex, ey, ew]
  exact h1 _ _ _ (by omega) (by omega) (by omega) (by omega) (by omega)
