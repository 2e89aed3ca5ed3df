-- bytes: the class keeps them signed, the model from 0 to 255
theorem low8 (y : Int32) : y.toInt8 = (y &&& (255 : Int32)).toInt8 := by
  apply Int8.toBitVec_inj.mp
  have e : ((255 : Int32).toBitVec).signExtend 8 = BitVec.allOnes 8 := by decide
  rw [Int32.toBitVec_toInt8, Int32.toBitVec_toInt8, Int32.toBitVec_and, BitVec.signExtend_and, e, BitVec.and_allOnes]
theorem and255 (y : Int32) : ∃ c : Nat, c < 256 ∧ y &&& (255 : Int32) = iI c := by
  obtain ⟨j, hj, e⟩ := pk_andE y (m := (255 : Int32)) 8 rfl
  exact ⟨j, hj, e⟩
/-- the bytes that a tape has, as the numbers that they were cut from -/
def tpC (ta : Ob) (n : Nat) (Y : Nat → Int32) : Prop := gI ta 1 = iI n ∧ ∀ i : Nat, i < n → gA ta 0 i = (Y i).toInt8.toInt32
def tpM (m : Ob) (n : Nat) (Y : Nat → Int32) : Prop := gI m 7 = iI n ∧ ∀ i : Nat, i < n → gA m 6 i = Y i &&& (255 : Int32)
theorem tp_of {ta m : Ob} (h : RTa ta m) : ∃ (n : Nat) (Y : Nat → Int32), n ≤ 400 ∧ tpC ta n Y ∧ tpM m n Y := by
  obtain ⟨n, hn, h1, h2, h3⟩ := h
  refine ⟨n, gA m 6, hn, ⟨h1, fun i hi => ?_⟩, ⟨h2, fun i hi => ?_⟩⟩
  · obtain ⟨c, hc, e1, e2⟩ := h3 i hi
    rw [e1, e2]
  · obtain ⟨c, hc, e1, e2⟩ := h3 i hi
    rw [e1]
    have : ∀ c : Nat, c < 256 → iI (c : Int) = iI (c : Int) &&& (255 : Int32) := by decide +kernel
    exact this c hc
theorem tp_to {ta m : Ob} {n : Nat} {Y : Nat → Int32} (hn : n ≤ 400) (h1 : tpC ta n Y) (h2 : tpM m n Y) : RTa ta m := by
  refine ⟨n, hn, h1.1, h2.1, fun i hi => ?_⟩
  obtain ⟨c, hc, e⟩ := and255 (Y i)
  exact ⟨c, hc, by rw [h2.2 i hi, e], by rw [h1.2 i hi, low8, e]⟩
def push4 (Y : Nat → Int32) (n : Nat) (x : Int32) : Nat → Int32 := fun i => if i < n then Y i else x >>> (iI (24 - 8 * ((i - n : Nat) : Int)) &&& 31)
/-- what feeding leaves as it is of the model -/
def mdT (m u : Ob) : Prop := (∀ k, k ≠ 7 → gI u k = gI m k) ∧ gL u = gL m ∧ (∀ k, k ≠ 6 → gA u k = gA m k) ∧ gB u = gB m
theorem mdT.rf (m : Ob) : mdT m m := ⟨fun _ _ => rfl, rfl, fun _ _ => rfl, rfl⟩
theorem mdT.tr {a b c : Ob} (h : mdT a b) (g : mdT b c) : mdT a c := ⟨fun k hk => (g.1 k hk).trans (h.1 k hk), g.2.1.trans h.2.1, fun k hk => (g.2.2.1 k hk).trans (h.2.2.1 k hk), g.2.2.2.trans h.2.2.2⟩
theorem mdT.push (m : Ob) (v : Int32) (f : Nat → Int32) : mdT m (sA (sI m 7 v) 6 f) := by
  refine ⟨fun k hk => ?_, rfl, fun k hk => ?_, rfl⟩
  · show gI (sI m 7 v) k = _
    exact gI_sI_ne _ _ _ _ hk
  · rw [gA_sA_ne _ _ _ _ hk]; rfl
theorem e8 (k : Nat) : iI (24 - 8 * (k : Int)) + (-8 : Int32) = iI (24 - 8 * ((k + 1 : Nat) : Int)) := by
  rw [show (-8 : Int32) = iI (-8) by decide, iI_add]; congr 1; omega
theorem push4_at (Y : Nat → Int32) (n k : Nat) (x : Int32) : push4 Y n x (n + k) = x >>> (iI (24 - 8 * (k : Int)) &&& 31) := by
  unfold push4
  rw [if_neg (by omega)]
  congr 3; omega
theorem ta_add {x : Int32} {ta : Ob} {n : Nat} {Y : Nat → Int32} {Q : Ob → Prop} (h : tpC ta n Y) (hn : n + 4 ≤ 400) (hq : ∀ u, tpC u (n + 4) (push4 Y n x) → Q u) : f_Ta_add x ta Q := by
  have step : ∀ (d k : Nat) (u : Ob), d + k = 4 → tpC u (n + k) (push4 Y n x) → f_Ta_add_16 Q (d + 1) x (iI (24 - 8 * (k : Int))) u := by
    intro d
    induction d with
    | zero =>
      intro k u hk hu
      have : k = 4 := by omega
      subst this
      unfold f_Ta_add_16
      exact b_lt (b := 0) (fun _ => hq u hu) (fun q => by omega)
    | succ d ih =>
      intro k u hk hu
      obtain ⟨u1, u2⟩ := id hu
      unfold f_Ta_add_16
      have c1 : (gI u 1).toNatClampNeg = n + k := by rw [u1]; exact cl_nat (by omega)
      rw [c1, e8]
      refine b_lt (b := 0) (fun q => by omega) (fun _ => ⟨by rw [u1]; exact v_nat (by omega) (by decide), ?_⟩)
      refine ih (k + 1) _ (by omega) ⟨?_, fun i hi => ?_⟩
      · show gI u 1 + (1 : Int32) = _
        rw [u1]; exact ix_add (n + k) 1
      · show upd (gA u 0) (n + k) _ i = _
        by_cases hin : i = n + k
        · subst hin
          rw [upd_same, pk_vb, push4_at]
        · rw [upd_ne _ _ _ _ hin]
          exact u2 i (by omega)
  obtain ⟨h1, h2⟩ := id h
  unfold f_Ta_add
  rw [h1]
  have e4 : iI (n : Int) + (4 : Int32) = iI ((n + 4 : Nat) : Int) := ix_add n 4
  rw [e4]
  refine b_le (b := 400) (fun _ => ⟨5, ?_⟩) (fun q => by omega)
  refine step 4 0 ta rfl ⟨h1, fun i hi => ?_⟩
  rw [h2 i hi]
  unfold push4
  rw [if_pos (by omega)]
theorem md_four {x : Int32} {m : Ob} {n : Nat} {Y : Nat → Int32} {Q : Ob → Prop} (h : tpM m n Y) (hn : n + 4 ≤ 400) (hq : ∀ u, tpM u (n + 4) (push4 Y n x) → mdT m u → Q u) : f_Md_four x m Q := by
  have step : ∀ (d k : Nat) (u : Ob), d + k = 4 → tpM u (n + k) (push4 Y n x) → mdT m u → f_Md_four_3 Q (d + 1) x (iI (24 - 8 * (k : Int))) u := by
    intro d
    induction d with
    | zero =>
      intro k u hk hu hm
      have : k = 4 := by omega
      subst this
      unfold f_Md_four_3
      exact b_lt (b := 0) (fun _ => hq u hu hm) (fun q => by omega)
    | succ d ih =>
      intro k u hk hu hm
      obtain ⟨u1, u2⟩ := id hu
      unfold f_Md_four_3
      have c1 : (gI u 7).toNatClampNeg = n + k := by rw [u1]; exact cl_nat (by omega)
      rw [c1, e8]
      refine b_lt (b := 0) (fun q => by omega) (fun _ => ⟨by rw [u1]; exact v_nat (by omega) (by decide), ?_⟩)
      refine ih (k + 1) _ (by omega) ⟨?_, fun i hi => ?_⟩ (hm.tr (mdT.push u _ _))
      · show gI u 7 + (1 : Int32) = _
        rw [u1]; exact ix_add (n + k) 1
      · show upd (gA u 6) (n + k) _ i = _
        by_cases hin : i = n + k
        · subst hin
          rw [upd_same, push4_at]
        · rw [upd_ne _ _ _ _ hin]
          exact u2 i (by omega)
  obtain ⟨h1, h2⟩ := id h
  unfold f_Md_four
  refine ⟨5, step 4 0 m rfl ⟨h1, fun i hi => ?_⟩ (mdT.rf m)⟩
  rw [h2 i hi]
  unfold push4
  rw [if_pos (by omega)]
theorem op_feed {a b c d e : Int32} {o0 o1 m : Ob} {K : Ob → Ob → Prop} (hT : RTa o1 m) (hK : ∀ u v, RTa u v → mdT m v → K u v) :
    f_PV_feed a b c d e o0 o1 (fun z u => f_Md_feed a b c d e m (fun z2 v => (z = z2 → K u v) ∧ (¬ z = z2 → False))) := by
  obtain ⟨n, Y, hn, hc, hm⟩ := tp_of hT
  unfold f_PV_feed f_Md_feed
  rw [hc.1, hm.1]
  have e20 : iI (n : Int) + (20 : Int32) = iI ((n + 20 : Nat) : Int) := ix_add n 20
  rw [e20]
  refine b_le (b := 400) (fun q => ?_) (fun q => ?_)
  · refine ta_add hc (by omega) (fun u1 c1 => ta_add c1 (by omega) (fun u2 c2 => ta_add c2 (by omega) (fun u3 c3 => ta_add c3 (by omega) (fun u4 c4 => ta_add c4 (by omega) (fun u5 c5 => ?_)))))
    refine b_le (b := 400) (fun _ => ?_) (fun q => by omega)
    refine md_four hm (by omega) (fun v1 d1 t1 => md_four d1 (by omega) (fun v2 d2 t2 => md_four d2 (by omega) (fun v3 d3 t3 => md_four d3 (by omega) (fun v4 d4 t4 => md_four d4 (by omega) (fun v5 d5 t5 => ?_)))))
    exact k_q (c5.1.trans d5.1.symm) (hK _ _ (tp_to (by omega) c5 d5) ((((t1.tr t2).tr t3).tr t4).tr t5))
  · refine b_le (b := 400) (fun q => by omega) (fun _ => ?_)
    exact k_q rfl (hK _ _ hT (mdT.rf m))
