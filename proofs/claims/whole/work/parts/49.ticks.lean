-- a piece led on a tick
theorem up_up {α : Type} (f : Nat → α) (k : Nat) (a b : α) : up (up f k a) k b = up f k b := by
  funext j
  unfold up
  cases Nat.beq j k <;> rfl
theorem sA_sA (o : Ob) (k : Nat) (f g : Nat → Int32) : sA (sA o k f) k g = sA o k g := by
  simp only [sA, up_up]
theorem sB_sB (o : Ob) (k : Nat) (f g : Nat → Int64) : sB (sB o k f) k g = sB o k g := by
  simp only [sB, up_up]
theorem sI_sI (o : Ob) (k : Nat) (f g : Int32) : sI (sI o k f) k g = sI o k g := by
  simp only [sI, up_up]
def clampW (x a sp : Int) : Int := x + max (-sp) (min sp (a - x))
theorem iI_clamp {x a sp : Int} (hx : -1000 ≤ x ∧ x ≤ 1000) (ha : -1000 ≤ a ∧ a ≤ 1000) (hs : 1 ≤ sp ∧ sp ≤ 1000) : iI x + (if -iI sp < (if iI a - iI x < iI sp then iI a - iI x else iI sp) then (if iI a - iI x < iI sp then iI a - iI x else iI sp) else -iI sp) = iI (clampW x a sp) := by
  rw [iI_sub, iI_neg]
  have e1 : (if iI (a - x) < iI sp then iI (a - x) else iI sp) = iI (min sp (a - x)) := by
    by_cases h : a - x < sp
    · rw [if_pos ((iI_lt (by omega) (by omega)).mpr h)]; congr 1; omega
    · rw [if_neg (fun q => h ((iI_lt (by omega) (by omega)).mp q))]; congr 1; omega
  rw [e1]
  have e2 : (if iI (-sp) < iI (min sp (a - x)) then iI (min sp (a - x)) else iI (-sp)) = iI (max (-sp) (min sp (a - x))) := by
    by_cases h : -sp < min sp (a - x)
    · rw [if_pos ((iI_lt (by omega) (by omega)).mpr h)]; congr 1; omega
    · rw [if_neg (fun q => h ((iI_lt (by omega) (by omega)).mp q))]; congr 1; omega
  rw [e2, iI_add]
  rfl
/-- the model's five entries of a lead -/
def A5 (f : Nat → Int32) (k : Nat) (a b c d e : Int32) : Nat → Int32 := upd (upd (upd (upd (upd f k a) (k + 1) b) (k + 2) c) (k + 3) d) (k + 4) e
theorem A5_ne (f : Nat → Int32) (k : Nat) (a b c d e : Int32) (i : Nat) (h : i < k ∨ k + 4 < i) : A5 f k a b c d e i = f i := by
  unfold A5
  rw [upd_ne _ _ _ _ (by omega), upd_ne _ _ _ _ (by omega), upd_ne _ _ _ _ (by omega), upd_ne _ _ _ _ (by omega), upd_ne _ _ _ _ (by omega)]
theorem A5_0 (f : Nat → Int32) (k : Nat) (a b c d e : Int32) : A5 f k a b c d e k = a := by
  unfold A5
  rw [upd_ne _ _ _ _ (by omega), upd_ne _ _ _ _ (by omega), upd_ne _ _ _ _ (by omega), upd_ne _ _ _ _ (by omega), upd_same]
theorem A5_1 (f : Nat → Int32) (k : Nat) (a b c d e : Int32) : A5 f k a b c d e (k + 1) = b := by
  unfold A5
  rw [upd_ne _ _ _ _ (by omega), upd_ne _ _ _ _ (by omega), upd_ne _ _ _ _ (by omega), upd_same]
theorem A5_2 (f : Nat → Int32) (k : Nat) (a b c d e : Int32) : A5 f k a b c d e (k + 2) = c := by
  unfold A5
  rw [upd_ne _ _ _ _ (by omega), upd_ne _ _ _ _ (by omega), upd_same]
theorem A5_3 (f : Nat → Int32) (k : Nat) (a b c d e : Int32) : A5 f k a b c d e (k + 3) = d := by
  unfold A5
  rw [upd_ne _ _ _ _ (by omega), upd_same]
theorem A5_4 (f : Nat → Int32) (k : Nat) (a b c d e : Int32) : A5 f k a b c d e (k + 4) = e := by
  unfold A5
  rw [upd_same]
/-- the tail of the model's lead -/
theorem md_209 {u : Ob} {Q : Ob → Prop} {p t : Nat} {b : Int32} {x aim sp : Int} {s i c : Int32} (hp : p < 5) (ht : t < 200) (hb : b = 0 ∨ b = 1) (hw : gA u 1 (20 + p) = iI x) (hx : -1000 ≤ x ∧ x ≤ 1000) (ha : -1000 ≤ aim ∧ aim ≤ 1000) (hsp : 1 ≤ sp ∧ sp ≤ 1000)
    (h0 : b = 0 → gA u 1 (5605 + p) = iI aim ∧ sp = 1 ∧ s = (-1 : Int32) ∧ i = (-1 : Int32) ∧ c = (-1 : Int32)) (h1 : b = 1 → (¬ gI u 19 = 0) ∧ gI u 18 / gI u 19 = iI aim ∧ gI u 20 = iI sp ∧ gI u 21 = s ∧ gI u 22 = i ∧ gI u 23 = c)
    (hQ : Q (sA u 1 (A5 (upd (gA u 1) (20 + p) (iI (clampW x aim sp))) (520 + 25 * t + 5 * p) (iI (clampW x aim sp)) (iI aim) s i c))) : f_Md_lead_209 Q (iI p) (iI t) b u := by
  have e20 : (20 : Int32) + iI (p : Int) = iI ((20 + p : Nat) : Int) := ix_add 20 p
  have e05 : (5605 : Int32) + iI (p : Int) = iI ((5605 + p : Nat) : Int) := ix_add 5605 p
  have e52 : (520 : Int32) + (25 : Int32) * iI (t : Int) + (5 : Int32) * iI (p : Int) = iI ((520 + 25 * t + 5 * p : Nat) : Int) := by
    rw [show (520 : Int32) + (25 : Int32) * iI (t : Int) = iI ((520 + 25 * t : Nat) : Int) from ix_lin 520 25 t]; exact ix_lin (520 + 25 * t) 5 p
  have k1 : iI ((520 + 25 * t + 5 * p : Nat) : Int) + (1 : Int32) = iI ((520 + 25 * t + 5 * p + 1 : Nat) : Int) := ix_add _ 1
  have k2 : iI ((520 + 25 * t + 5 * p : Nat) : Int) + (2 : Int32) = iI ((520 + 25 * t + 5 * p + 2 : Nat) : Int) := ix_add _ 2
  have k3 : iI ((520 + 25 * t + 5 * p : Nat) : Int) + (3 : Int32) = iI ((520 + 25 * t + 5 * p + 3 : Nat) : Int) := ix_add _ 3
  have k4 : iI ((520 + 25 * t + 5 * p : Nat) : Int) + (4 : Int32) = iI ((520 + 25 * t + 5 * p + 4 : Nat) : Int) := ix_add _ 4
  -- from the width on
  have s305 : f_Md_lead_305 Q (iI p) (iI t) b (iI aim) (sA u 1 (upd (gA u 1) (20 + p) (iI (clampW x aim sp)))) := by
    unfold f_Md_lead_305
    rw [e52, e20]
    refine k_n ⟨v_nat (by omega) (by decide), ?_⟩
    rw [cl_nat (by omega), cl_nat (by omega), k1, k2, cl_nat (by omega), cl_nat (by omega)]
    refine k_e (v := iI (clampW x aim sp)) (upd_same _ _ _) ⟨v_nat (by omega) (by decide), v_nat (by omega) (by decide), ?_⟩
    rcases hb with rfl | rfl
    · obtain ⟨-, -, rfl, rfl, rfl⟩ := h0 rfl
      refine k_t rfl ⟨v_nat (by omega) (by decide), ?_⟩
      unfold f_Md_lead_367 f_Md_lead_388
      rw [k3, k4, cl_nat (by omega), cl_nat (by omega)]
      rw [sA_sA, sA_sA, sA_sA]
      exact k_t rfl ⟨v_nat (by omega) (by decide), k_t rfl ⟨v_nat (by omega) (by decide), hQ⟩⟩
    · obtain ⟨-, -, -, g21, g22, g23⟩ := h1 rfl
      refine k_f (by decide) ⟨v_nat (by omega) (by decide), ?_⟩
      unfold f_Md_lead_367 f_Md_lead_388
      rw [k3, k4, cl_nat (by omega), cl_nat (by omega)]
      refine k_f (by decide) ⟨v_nat (by omega) (by decide), k_f (by decide) ⟨v_nat (by omega) (by decide), ?_⟩⟩
      have e1 : gI (sA u 1 (upd (gA u 1) (20 + p) (iI (clampW x aim sp)))) 21 = s := g21
      rw [e1, sA_sA, sA_sA, sA_sA]
      rw [← g22, ← g23] at hQ
      exact hQ
  have s251 : f_Md_lead_251 Q (iI p) (iI t) b (iI aim) (iI sp) u := by
    unfold f_Md_lead_251
    rw [e20, cl_nat (by omega), hw]
    refine ⟨v_nat (by omega) (by decide), k_n ⟨v_nat (by omega) (by decide), k_n ?_⟩⟩
    have ed : iI aim - iI x = iI (aim - x) := iI_sub _ _
    have ens : -iI sp = iI (-sp) := iI_neg _
    rw [ed, ens, iI_add, iI_add, iI_add]
    refine b_le (fun q1 => b_le (fun q2 => ⟨v_nat (by omega) (by decide), ?_⟩) (fun q2 => ⟨v_nat (by omega) (by decide), ?_⟩)) (fun q1 => ⟨v_nat (by omega) (by decide), ?_⟩)
    · rw [show x + (aim - x) = clampW x aim sp by unfold clampW; omega]; exact s305
    · rw [show x + -sp = clampW x aim sp by unfold clampW; omega]; exact s305
    · rw [show x + sp = clampW x aim sp by unfold clampW; omega]; exact s305
  unfold f_Md_lead_209
  rcases hb with rfl | rfl
  · obtain ⟨g1, rfl, -⟩ := h0 rfl
    rw [e05, cl_nat (by omega), g1]
    refine k_t rfl ⟨v_nat (by omega) (by decide), k_n ?_⟩
    unfold f_Md_lead_237
    exact k_t rfl s251
  · obtain ⟨g1, g2, g3, -⟩ := h1 rfl
    refine k_f (by decide) ⟨g1, ?_⟩
    rw [g2]
    unfold f_Md_lead_237
    rw [g3]
    exact k_f (by decide) s251
theorem mdL.V {m u : Ob} (h : mdL m u) : mdV m u := ⟨fun k hk => h.1 k (by omega), by rw [h.2.2.1], by rw [h.2.2.1], by rw [h.2.2.2]⟩
/-- one piece, one tick -/
theorem lead_sim {np p t : Nat} {le mo la m : Ob} {r1 : Nat → Nat} {x : Int} (hnp : np ≤ 5) (hp : p < np) (ht : t < 200) (hC : RCl mo (gA m 1) t) (hS : RSa mo (gA m 1) t) (hL : RLa np la (gA m 1)) (hx : 1 ≤ x ∧ x ≤ 12) (hwx : gA m 1 (20 + p) = iI x) :
    ∃ (le' m' : Ob) (aim sp sd it cl : Int), (1 ≤ aim ∧ aim ≤ 12) ∧ (1 ≤ sp ∧ sp ≤ 6) ∧ (-1 ≤ sd ∧ sd ≤ 19) ∧ (-1 ≤ it ∧ it ≤ 7) ∧ (-1 ≤ cl ∧ cl ≤ 19) ∧ gI le' 0 = iI aim ∧ gI le' 1 = iI sp ∧ gI le' 2 = iI sd ∧ gI le' 3 = iI it ∧ gI le' 4 = iI cl ∧
      gA m' 1 = A5 (upd (gA m 1) (20 + p) (iI (clampW x aim sp))) (520 + 25 * t + 5 * p) (iI (clampW x aim sp)) (iI aim) (iI sd) (iI it) (iI cl) ∧ mdV m m' ∧ gB m' = gB m ∧ (∀ Q : Ob → Prop, Q le' → f_Le_find (iI p) le r1 mo la Q) ∧ (∀ Q : Ob → Prop, Q m' → f_Md_lead (iI p) (iI t) m Q) := by
  obtain ⟨c1, -, -⟩ := hC
  obtain ⟨S, s1, s2, s3, s4⟩ := hS
  obtain ⟨o', u', hLR, hmd, rc, rm⟩ := ld_said (r1 := r1) (p := p) (t := t) hnp (by omega) (by omega) hL c1 s3 s1 s2 s4 S 0 0 (sI (sI (sI (sI (sI (sI (sI le 1 (1 : Int32)) 2 (-1 : Int32)) 3 (-1 : Int32)) 4 (-1 : Int32)) 5 (-1 : Int32)) 6 (0 : Int32)) 7 (0 : Int32)) (sI m 17 (-1 : Int32)) (by omega) rfl
    ⟨-1, 0, 0, 1, -1, -1, -1, by unfold LB; omega, ⟨by show (-1 : Int32) = _; decide, rfl, rfl, rfl, by show (-1 : Int32) = _; decide, by show (-1 : Int32) = _; decide, by show (-1 : Int32) = _; decide⟩, by show (-1 : Int32) = _; decide, fun h => by omega⟩ (by omega)
  obtain ⟨st, sum, cnt, sp, sd, it, cl, hb, ⟨o5, o6, o7, o1, o2, o3, o4⟩, u17, hu⟩ := hLR
  unfold LB at hb
  have hA : gA u' 1 = gA m 1 := by rw [hmd.2.2.1]; rfl
  have hV : mdV m u' := by
    refine ⟨fun k hk => ?_, ?_, ?_, ?_⟩
    · rw [hmd.1 k (by omega), gI_sI_ne _ _ _ _ (by omega)]
    · rw [hmd.2.2.1]; rfl
    · rw [hmd.2.2.1]; rfl
    · rw [hmd.2.2.2]; rfl
  have hB : gB u' = gB m := by rw [hmd.2.2.2]; rfl
  obtain ⟨hre, -⟩ := hL
  obtain ⟨⟨rs, rs1, rs2, rs3⟩, rs4⟩ := hre p (by omega)
  by_cases hst : st = -1
  · obtain ⟨z1, z2, z3, z4, z5⟩ := hb.2.2.2.2.2.2.2.1 hst
    refine ⟨sI o' 0 (iI rs), sA u' 1 (A5 (upd (gA u' 1) (20 + p) (iI (clampW x rs sp))) (520 + 25 * t + 5 * p) (iI (clampW x rs sp)) (iI rs) (iI sd) (iI it) (iI cl)), rs, sp, sd, it, cl, by omega, by omega, by omega, by omega, by omega, rfl, o1, o2, o3, o4, ?_, ?_, ?_, fun Q hQ => ?_, fun Q hQ => ?_⟩
    · show A5 _ _ _ _ _ _ _ = _
      rw [hA]
    · exact ⟨hV.1, hV.2.1, hV.2.2.1, hV.2.2.2⟩
    · exact hB
    · unfold f_Le_find
      refine ⟨S + 1, rc Q ?_⟩
      unfold f_Le_find_37
      rw [s1, o7, cl_nat (by omega), rs4, rs3]
      exact k_t (Int32.le_refl _) (b_le (b := 0) (fun _ => ⟨v_nat (by omega) (by decide), hQ⟩) (fun q => by omega))
    · unfold f_Md_lead
      refine ⟨S + 1, rm Q ?_⟩
      unfold f_Md_lead_7
      rw [hA, s2, u17]
      refine k_t (Int32.le_refl _) (b_lt (b := 0) (fun _ => ?_) (fun q => by omega))
      refine md_209 (x := x) (aim := rs) (sp := sp) (s := iI sd) (i := iI it) (c := iI cl) (by omega) ht (Or.inl rfl) (by rw [hA]; exact hwx) (by omega) (by omega) (by omega) (fun _ => ⟨by rw [hA]; exact rs3, z2, ?_, ?_, ?_⟩) (fun h => absurd h (by decide)) hQ
      · rw [z3]; decide
      · rw [z4]; decide
      · rw [z5]; decide
  · have hst0 : 0 ≤ st := by omega
    have hc1 := hb.2.2.2.2.2.2.2.2 hst0
    obtain ⟨u18, u19, u20, u21, u22, u23⟩ := hu hst0
    have hq1 : 1 ≤ sum.tdiv cnt ∧ sum.tdiv cnt ≤ 12 := by
      rw [Int.tdiv_eq_ediv_of_nonneg (by omega)]
      constructor
      · exact Int.le_ediv_of_mul_le (by omega) (by omega)
      · have := Int.ediv_le_ediv (c := cnt) (by omega) hb.2.2.1.2
        rw [Int.mul_ediv_cancel _ (by omega)] at this
        exact this
    have ed : iI sum / iI cnt = iI (sum.tdiv cnt) := iI_div (by omega) (by omega)
    refine ⟨sI o' 0 (iI (sum.tdiv cnt)), sA u' 1 (A5 (upd (gA u' 1) (20 + p) (iI (clampW x (sum.tdiv cnt) sp))) (520 + 25 * t + 5 * p) (iI (clampW x (sum.tdiv cnt) sp)) (iI (sum.tdiv cnt)) (iI sd) (iI it) (iI cl)), sum.tdiv cnt, sp, sd, it, cl, hq1, by omega, by omega, by omega, by omega, rfl, o1, o2, o3, o4, ?_, ?_, ?_, fun Q hQ => ?_, fun Q hQ => ?_⟩
    · show A5 _ _ _ _ _ _ _ = _
      rw [hA]
    · exact ⟨hV.1, hV.2.1, hV.2.2.1, hV.2.2.2⟩
    · exact hB
    · unfold f_Le_find
      refine ⟨S + 1, rc Q ?_⟩
      unfold f_Le_find_37
      rw [s1, o7, o6, ed]
      refine k_t (Int32.le_refl _) (b_le (b := 0) (fun q => by omega) (fun _ => ⟨fun q => ?_, hQ⟩))
      have := (iI_eq (b := 0) (by omega) (by omega)).mp q
      omega
    · unfold f_Md_lead
      refine ⟨S + 1, rm Q ?_⟩
      unfold f_Md_lead_7
      rw [hA, s2, u17]
      refine k_t (Int32.le_refl _) (b_lt (b := 0) (fun q => by omega) (fun _ => ?_))
      refine md_209 (x := x) (aim := sum.tdiv cnt) (sp := sp) (s := iI sd) (i := iI it) (c := iI cl) (by omega) ht (Or.inr rfl) (by rw [hA]; exact hwx) (by omega) (by omega) (by omega) (fun h => absurd h (by decide)) (fun _ => ⟨fun q => ?_, by rw [u18, u19]; exact ed, u20, u21, u22, u23⟩) hQ
      rw [u19] at q
      have := (iI_eq (b := 0) (by omega) (by omega)).mp q
      omega
/-- what is packed -/
theorem le_packed {o : Ob} {w a s i c : Int} {Q : Int32 → Prop} (hw : -1 ≤ w ∧ w ≤ 60) (ha : -1 ≤ a ∧ a ≤ 60) (hs : -1 ≤ s ∧ s ≤ 60) (hi : -1 ≤ i ∧ i ≤ 60) (hc : -1 ≤ c ∧ c ≤ 60) (e0 : gI o 0 = iI a) (e2 : gI o 2 = iI s) (e3 : gI o 3 = iI i) (e4 : gI o 4 = iI c) (hq : Q (iI (pk5 w a s i c))) : f_Le_packed (iI w) o Q := by
  have sh : ∀ z : Int, 0 ≤ z → z < 33554432 → iI z <<< ((6 : Int32) &&& 31) = iI (z * 64) := by
    intro z z1 z2
    have e : iI z = nI z.toNat := by rw [iI_nI]; congr 1; omega
    rw [e, pk_shlN ((6 : Int32) &&& 31) 6 (by decide) (by omega), iI_nI]; congr 1; omega
  unfold f_Le_packed
  rw [e0, e2, e3, e4]
  have p1 : iI c + (1 : Int32) = iI (c + 1) := iI_add _ 1
  rw [p1, sh _ (by omega) (by omega)]
  refine k_n ?_
  have p2 : iI ((c + 1) * 64) + iI i + (1 : Int32) = iI ((c + 1) * 64 + (i + 1)) := by
    rw [iI_add, show (1 : Int32) = iI 1 from rfl, iI_add]; congr 1; omega
  rw [p2, sh _ (by omega) (by omega)]
  refine k_n ?_
  have p3 : iI (((c + 1) * 64 + (i + 1)) * 64) + iI s + (1 : Int32) = iI (((c + 1) * 64 + (i + 1)) * 64 + (s + 1)) := by
    rw [iI_add, show (1 : Int32) = iI 1 from rfl, iI_add]; congr 1; omega
  rw [p3, sh _ (by omega) (by omega)]
  refine k_n ?_
  have p4 : iI ((((c + 1) * 64 + (i + 1)) * 64 + (s + 1)) * 64) + iI a + (1 : Int32) = iI ((((c + 1) * 64 + (i + 1)) * 64 + (s + 1)) * 64 + (a + 1)) := by
    rw [iI_add, show (1 : Int32) = iI 1 from rfl, iI_add]; congr 1; omega
  rw [p4, sh _ (by omega) (by omega)]
  refine k_n ?_
  have p5 : iI (((((c + 1) * 64 + (i + 1)) * 64 + (s + 1)) * 64 + (a + 1)) * 64) + iI w + (1 : Int32) = iI (pk5 w a s i c) := by
    rw [iI_add, show (1 : Int32) = iI 1 from rfl, iI_add]; congr 1; unfold pk5; omega
  rw [p5]
  exact hq
