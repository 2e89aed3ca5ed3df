-- say, hear, led
theorem k_e {α : Type} {e v : α} {P : α → Prop} (h : e = v) (p : P v) : ∀ y, y = e → P y := fun _ hy => (hy.trans h) ▸ p
theorem ix_lin (c k j : Nat) : iI (c : Int) + iI (k : Int) * iI (j : Int) = iI ((c + k * j : Nat) : Int) := by
  rw [iI_mul, iI_add]; congr 1
theorem md_say {x : Int} {m : Ob} {s t : Nat} {Q : Int32 → Ob → Prop} (hx : -2147483648 ≤ x ∧ x < 2147483648) (e3 : gA m 1 3 = iI s) (e0 : gA m 1 0 = iI t) (hs : s ≤ 20)
    (no : (x < 0 ∨ 7 < x) ∨ (∀ w : Nat, x = w → gA m 1 (5740 + 17 * w) = 0) ∨ s = 20 → Q (-1) m)
    (yes : ∀ w : Nat, w < 8 → x = w → gA m 1 (5740 + 17 * w) ≠ 0 → s < 20 → Q (iI ((s + 1 : Nat) : Int)) (sA m 1 (upd (upd (upd (gA m 1) (40 + 2 * s) (iI w)) (41 + 2 * s) (iI t)) 3 (iI ((s + 1 : Nat) : Int))))) : f_Md_say (iI x) m Q := by
  unfold f_Md_say
  refine md_in (lo := 0) (hi := 7) (fun a b => k_f (by decide) ?_) (fun q => k_t rfl (no (Or.inl q))) hx (by omega) (by omega)
  obtain ⟨w, rfl⟩ : ∃ w : Nat, x = w := ⟨x.toNat, by omega⟩
  have ei : (5740 : Int32) + (17 : Int32) * iI (w : Int) = iI ((5740 + 17 * w : Nat) : Int) := ix_lin 5740 17 w
  have e4 : (40 : Int32) + (2 : Int32) * iI (s : Int) = iI ((40 + 2 * s : Nat) : Int) := ix_lin 40 2 s
  have e41 : iI ((40 + 2 * s : Nat) : Int) + (1 : Int32) = iI ((41 + 2 * s : Nat) : Int) := by
    rw [show ((41 + 2 * s : Nat)) = (40 + 2 * s) + 1 by omega]; exact ix_add (40 + 2 * s) 1
  rw [ei]
  refine ⟨v_nat (by omega) (by decide), k_n ?_⟩
  rw [cl_nat (by omega), e3]
  refine k_c (fun h => no (Or.inr (Or.inl (fun w' hw' => ?_)))) (fun h => ?_)
  · have : w' = w := by omega
    subst this; exact h
  refine b_eq (b := 20) (fun q => no (Or.inr (Or.inr (by omega)))) (fun q => ?_)
  rw [e4]
  refine ⟨v_nat (by omega) (by decide), ?_⟩
  rw [cl_nat (by omega)]
  refine k_e (v := iI (s : Int)) (by rw [upd_ne _ _ _ _ (by omega)]; exact e3) ?_
  rw [e4, e41]
  refine k_e (v := iI ((41 + 2 * s : Nat) : Int)) rfl ?_
  refine k_e (v := iI (t : Int)) (by rw [upd_ne _ _ _ _ (by omega)]; exact e0) ?_
  rw [cl_nat (by omega)]
  refine ⟨v_nat (by omega) (by decide), ?_⟩
  refine k_e (v := iI (s : Int)) (by rw [upd_ne _ _ _ _ (by omega), upd_ne _ _ _ _ (by omega)]; exact e3) ?_
  have es : iI (s : Int) + (1 : Int32) = iI ((s + 1 : Nat) : Int) := ix_add s 1
  rw [es]
  refine k_e (v := iI ((s + 1 : Nat) : Int)) (upd_same _ _ _) ?_
  exact yes w (by omega) rfl h (by omega)
theorem op_say {a : Int32} {o0 o3 la m : Ob} {r3 : Nat → Nat} {t : Nat} {K : Ob → Ob → Prop} (hC : RCl o3 (gA m 1) t) (hS : RSa o3 (gA m 1) t) (hW : ∀ w : Nat, w < 8 → RWd la (gA m 1) w) (h0 : K o3 m)
    (h1 : ∀ s w : Nat, s < 20 → w < 8 → gI o3 2 = iI s → gA m 1 3 = iI s → K (sA (sA (sI o3 2 (iI ((s + 1 : Nat) : Int))) 3 (upd (gA o3 3) s (iI w))) 4 (upd (gA o3 4) s (iI t))) (sA m 1 (upd (upd (upd (gA m 1) (40 + 2 * s) (iI w)) (41 + 2 * s) (iI t)) 3 (iI ((s + 1 : Nat) : Int))))) :
    f_PV_say a o0 r3 o3 la (fun z u => f_Md_say a m (fun z2 v => (z = z2 → K u v) ∧ (¬ z = z2 → False))) := by
  obtain ⟨c1, c2, c3⟩ := hC
  obtain ⟨s, s1, s2, s3, -⟩ := hS
  obtain ⟨x, x1, x2, rfl⟩ := iI_ex a
  have no : (x < 0 ∨ 7 < x) ∨ (∀ w : Nat, x = w → gA m 1 (5740 + 17 * w) = 0) ∨ s = 20 → f_Md_say (iI x) m (fun z2 v => ((-1 : Int32) = z2 → K o3 v) ∧ (¬ (-1 : Int32) = z2 → False)) := by
    intro q
    refine md_say ⟨x1, x2⟩ s2 c2 s3 (fun _ => k_q rfl h0) (fun w hw e g1 g2 => ?_)
    rcases q with q | q | q
    · omega
    · exact absurd (q w e) g1
    · omega
  unfold f_PV_say
  rw [s1, c1]
  refine b_lt (b := 0) (fun q => no (Or.inl (Or.inl q))) (fun q1 => b_le (a := 8) (fun q => no (Or.inl (Or.inr (by omega)))) (fun q2 => ?_))
  obtain ⟨w, rfl⟩ : ∃ w : Nat, x = w := ⟨x.toNat, by omega⟩
  obtain ⟨n, n1, n2, n3, -⟩ := hW w (by omega)
  refine ⟨v_nat (by omega) (by decide), ?_⟩
  rw [cl_nat (by omega), n2]
  refine b_eq (b := 0) (fun q => no (Or.inr (Or.inl (fun w' hw' => ?_)))) (fun q => ?_)
  · have : w' = w := by omega
    subst this; rw [n3, q]; rfl
  refine b_lt (b := 20) (fun g => ?_) (fun g => no (Or.inr (Or.inr (by omega))))
  refine ⟨v_nat (by omega) (by decide), v_nat (by omega) (by decide), ?_⟩
  rw [cl_nat (by omega)]
  have es : iI (s : Int) + (1 : Int32) = iI ((s + 1 : Nat) : Int) := ix_add s 1
  rw [es]
  refine md_say ⟨x1, x2⟩ s2 c2 s3 (fun q' => ?_) (fun w' hw e g1 g2 => ?_)
  · rcases q' with q' | q' | q'
    · omega
    · have := q' w rfl
      rw [n3] at this
      exact absurd ((iI_eq (b := 0) (by omega) (by omega)).mp this) q
    · omega
  · have : w' = w := by omega
    subst this
    exact k_q rfl (h1 s w' (by omega) hw s1 s2)
def okH (a b c d : Int) (tm : Nat) : Prop := (0 ≤ a ∧ a ≤ 7) ∧ (0 ≤ b ∧ b ≤ 4) ∧ -20 ≤ c ∧ c ≤ d ∧ d ≤ 19 ∧ tm < 100
def A4 (f : Nat → Int32) (k : Nat) (a b c d : Int32) : Nat → Int32 := upd (upd (upd (upd f k a) (k + 1) b) (k + 2) c) (k + 3) d
theorem A4_ne (f : Nat → Int32) (k : Nat) (a b c d : Int32) (i : Nat) (h : i < k ∨ k + 3 < i) : A4 f k a b c d i = f i := by
  unfold A4
  rw [upd_ne _ _ _ _ (by omega), upd_ne _ _ _ _ (by omega), upd_ne _ _ _ _ (by omega), upd_ne _ _ _ _ (by omega)]
theorem A4_0 (f : Nat → Int32) (k : Nat) (a b c d : Int32) : A4 f k a b c d k = a := by
  unfold A4
  rw [upd_ne _ _ _ _ (by omega), upd_ne _ _ _ _ (by omega), upd_ne _ _ _ _ (by omega), upd_same]
theorem A4_1 (f : Nat → Int32) (k : Nat) (a b c d : Int32) : A4 f k a b c d (k + 1) = b := by
  unfold A4
  rw [upd_ne _ _ _ _ (by omega), upd_ne _ _ _ _ (by omega), upd_same]
theorem A4_2 (f : Nat → Int32) (k : Nat) (a b c d : Int32) : A4 f k a b c d (k + 2) = c := by
  unfold A4
  rw [upd_ne _ _ _ _ (by omega), upd_same]
theorem A4_3 (f : Nat → Int32) (k : Nat) (a b c d : Int32) : A4 f k a b c d (k + 3) = d := by
  unfold A4
  rw [upd_same]
theorem md_hear {a b c d : Int} {m : Ob} {tm : Nat} {Q : Int32 → Ob → Prop} (ha : -2147483648 ≤ a ∧ a < 2147483648) (hb : -2147483648 ≤ b ∧ b < 2147483648) (hc : -2147483648 ≤ c ∧ c < 2147483648) (hd : -2147483648 ≤ d ∧ d < 2147483648) (e1 : gA m 1 1 = iI tm) (ht : tm ≤ 100)
    (no : ¬ okH a b c d tm → Q (-1) m)
    (yes : okH a b c d tm → Q (iI ((tm + 1 : Nat) : Int)) (sA m 1 (upd (upd (A4 (gA m 1) (100 + 4 * tm) (iI a) (iI b) (iI c) (iI d)) 1 (iI ((tm + 1 : Nat) : Int))) 2 (iI ((tm + 1 : Nat) : Int))))) : f_Md_hear (iI a) (iI b) (iI c) (iI d) m Q := by
  unfold f_Md_hear
  rw [show (-20 : Int32) = iI (-20) by decide, e1]
  refine md_in (lo := 0) (hi := 7) (fun a1 a2 => k_f (by decide) ?_) (fun q => k_t rfl (no (fun h => by unfold okH at h; omega))) ha (by omega) (by omega)
  refine md_in (lo := 0) (hi := 4) (fun b1 b2 => k_f (by decide) ?_) (fun q => k_t rfl (no (fun h => by unfold okH at h; omega))) hb (by omega) (by omega)
  refine md_in (hi := 19) (fun c1 c2 => k_f (by decide) ?_) (fun q => k_t rfl (no (fun h => by unfold okH at h; omega))) hc (by omega) (by omega)
  refine md_in (hi := 19) (fun d1 d2 => k_f (by decide) ?_) (fun q => k_t rfl (no (fun h => by unfold okH at h; omega))) hd hc (by omega)
  refine b_eq (b := 100) (fun q => no (fun h => by unfold okH at h; omega)) (fun q => ?_)
  have e4 : (100 : Int32) + (4 : Int32) * iI (tm : Int) = iI ((100 + 4 * tm : Nat) : Int) := ix_lin 100 4 tm
  refine k_e (v := iI ((100 + 4 * tm : Nat) : Int)) e4 ?_
  have f1 : iI ((100 + 4 * tm : Nat) : Int) + (1 : Int32) = iI ((100 + 4 * tm + 1 : Nat) : Int) := ix_add (100 + 4 * tm) 1
  have f2 : iI ((100 + 4 * tm : Nat) : Int) + (2 : Int32) = iI ((100 + 4 * tm + 2 : Nat) : Int) := ix_add (100 + 4 * tm) 2
  have f3 : iI ((100 + 4 * tm : Nat) : Int) + (3 : Int32) = iI ((100 + 4 * tm + 3 : Nat) : Int) := ix_add (100 + 4 * tm) 3
  rw [f1, f2, f3, cl_nat (by omega), cl_nat (by omega), cl_nat (by omega), cl_nat (by omega)]
  refine ⟨v_nat (by omega) (by decide), v_nat (by omega) (by decide), v_nat (by omega) (by decide), v_nat (by omega) (by decide), ?_⟩
  refine k_e (v := iI (tm : Int)) ((A4_ne (gA m 1) (100 + 4 * tm) (iI a) (iI b) (iI c) (iI d) 1 (by omega)).trans e1) ?_
  have es : iI (tm : Int) + (1 : Int32) = iI ((tm + 1 : Nat) : Int) := ix_add tm 1
  rw [es]
  refine k_e (v := iI ((tm + 1 : Nat) : Int)) (upd_same _ _ _) ?_
  refine k_e (v := iI ((tm + 1 : Nat) : Int)) (by rw [upd_ne _ _ _ _ (by decide), upd_same]) ?_
  exact yes ⟨⟨a1, a2⟩, ⟨b1, b2⟩, c1, d1, d2, by omega⟩
theorem op_hear {a b c d : Int32} {o0 o3 he m : Ob} {r3 : Nat → Nat} {tm : Nat} {K : Ob → Ob → Ob → Prop} (hT : RTi o3 (gA m 1) tm) (h0 : K o3 he m)
    (h1 : ∀ (sd tn : Nat) (f t : Int), sd < 8 → tn < 5 → -20 ≤ f → f ≤ t → t ≤ 19 → tm < 100 → K (sI (sI o3 11 (iI ((tm + 1 : Nat) : Int))) 12 (iI ((tm + 1 : Nat) : Int))) (sA (sA (sA he 0 (upd (gA he 0) tm (iI (5 * sd + tn)))) 1 (upd (gA he 1) tm (iI f))) 2 (upd (gA he 2) tm (iI t))) (sA m 1 (upd (upd (A4 (gA m 1) (100 + 4 * tm) (iI sd) (iI tn) (iI f) (iI t)) 1 (iI ((tm + 1 : Nat) : Int))) 2 (iI ((tm + 1 : Nat) : Int))))) :
    f_PV_hear a b c d o0 r3 o3 he (fun z u v => f_Md_hear a b c d m (fun z2 w => (z = z2 → K u v w) ∧ (¬ z = z2 → False))) := by
  obtain ⟨t1, t2, t3, -⟩ := hT
  obtain ⟨x, x1, x2, rfl⟩ := iI_ex a
  obtain ⟨y, y1, y2, rfl⟩ := iI_ex b
  obtain ⟨f, f1, f2, rfl⟩ := iI_ex c
  obtain ⟨g, g1, g2, rfl⟩ := iI_ex d
  have no : ¬ okH x y f g tm → f_Md_hear (iI x) (iI y) (iI f) (iI g) m (fun z2 v => ((-1 : Int32) = z2 → K o3 he v) ∧ (¬ (-1 : Int32) = z2 → False)) := fun q =>
    md_hear ⟨x1, x2⟩ ⟨y1, y2⟩ ⟨f1, f2⟩ ⟨g1, g2⟩ t2 t3 (fun _ => k_q rfl h0) (fun h => absurd h q)
  unfold f_PV_hear
  rw [t1, show (-20 : Int32) = iI (-20) by decide]
  refine pv_isSound ⟨x1, x2⟩ (fun a1 a2 => k_f (by decide) ?_) (fun q => k_t rfl (no (fun h => by unfold okH at h; omega)))
  refine b_lt (b := 0) (fun q => no (fun h => by unfold okH at h; omega)) (fun b1 => b_le (a := 5) (fun q => no (fun h => by unfold okH at h; omega)) (fun b2 => ?_))
  refine b_lt (b := 100) (fun c1 => ?_) (fun q => no (fun h => by unfold okH at h; omega))
  refine b_lt (fun q => no (fun h => by unfold okH at h; omega)) (fun d1 => b_le (a := 20) (fun q => no (fun h => by unfold okH at h; omega)) (fun d2 => ?_))
  refine b_le (fun d3 => ?_) (fun q => no (fun h => by unfold okH at h; omega))
  unfold f_He_put
  refine b_lt (b := 0) (fun q => by omega) (fun _ => b_lt (b := 100) (fun _ => ?_) (fun q => by omega))
  refine ⟨v_nat (by omega) (by decide), v_nat (by omega) (by decide), v_nat (by omega) (by decide), ?_⟩
  have es : iI (tm : Int) + (1 : Int32) = iI ((tm + 1 : Nat) : Int) := ix_add tm 1
  have ep : iI x * (5 : Int32) + iI y = iI (5 * ((x.toNat : Nat) : Int) + ((y.toNat : Nat) : Int)) := by
    rw [show (5 : Int32) = iI 5 from rfl, iI_mul, iI_add]; congr 1; omega
  rw [cl_nat (by omega), es, ep]
  refine md_hear ⟨x1, x2⟩ ⟨y1, y2⟩ ⟨f1, f2⟩ ⟨g1, g2⟩ t2 t3 (fun h => absurd ⟨⟨a1, a2⟩, ⟨by omega, by omega⟩, by omega, d3, by omega, by omega⟩ h) (fun _ => k_q rfl ?_)
  have := h1 x.toNat y.toNat f g (by omega) (by omega) (by omega) d3 (by omega) (by omega)
  rw [show ((x.toNat : Nat) : Int) = x by omega, show ((y.toNat : Nat) : Int) = y by omega] at this
  rw [show ((x.toNat : Nat) : Int) = x by omega, show ((y.toNat : Nat) : Int) = y by omega]
  exact this
def pkc (w a s i c : Int) (l : Nat) : Int := if l = 0 then w else if l = 1 then a else if l = 2 then s else if l = 3 then i else c
theorem led_un {w a s i c : Int} (hw : -1 ≤ w ∧ w ≤ 60) (ha : -1 ≤ a ∧ a ≤ 60) (hs : -1 ≤ s ∧ s ≤ 60) (hi : -1 ≤ i ∧ i ≤ 60) (hc : -1 ≤ c ∧ c ≤ 60) (l : Nat) (hl : l ≤ 4) : ((iI (pk5 w a s i c) >>> ((iI (l : Int) * (6 : Int32)) &&& 31)) &&& (63 : Int32)) - (1 : Int32) = iI (pkc w a s i c l) := by
  obtain ⟨N, hN⟩ : ∃ N : Nat, (N : Int) = pk5 w a s i c := ⟨(pk5 w a s i c).toNat, by unfold pk5; omega⟩
  have e : iI (pk5 w a s i c) = nI N := by rw [iI_nI, hN]
  have hb : N < 2 ^ 31 := by unfold pk5 at hN; omega
  unfold pk5 at hN
  rw [e]
  have fin : ∀ (k : Nat) (z : Int), k ≤ 24 → N / 2 ^ k % 2 ^ 6 = (z + 1).toNat → 0 ≤ z + 1 → (nI (N / 2 ^ k) &&& (63 : Int32)) - (1 : Int32) = iI z := by
    intro k z hk hz h0
    have h1 : N / 2 ^ k ≤ N := Nat.div_le_self _ _
    rw [pk_andN (n := N / 2 ^ k) (by omega) (m := (63 : Int32)) 6 rfl, hz, iI_nI]
    have : iI (((z + 1).toNat : Nat) : Int) - (1 : Int32) = iI ((((z + 1).toNat : Nat) : Int) - 1) := iI_sub _ 1
    rw [this]; congr 1; omega
  match l, hl with
  | 0, _ => rw [pk_shrN hb _ 0 (by decide)]; exact fin 0 w (by omega) (by omega) (by omega)
  | 1, _ => rw [pk_shrN hb _ 6 (by decide)]; exact fin 6 a (by omega) (by omega) (by omega)
  | 2, _ => rw [pk_shrN hb _ 12 (by decide)]; exact fin 12 s (by omega) (by omega) (by omega)
  | 3, _ => rw [pk_shrN hb _ 18 (by decide)]; exact fin 18 i (by omega) (by omega) (by omega)
  | 4, _ => rw [pk_shrN hb _ 24 (by decide)]; exact fin 24 c (by omega) (by omega) (by omega)
theorem op_led {np : Nat} {a b c : Int32} {o0 o3 m : Ob} {r3 : Nat → Nat} {t : Nat} {K : Prop} (hp : gI o0 0 = iI np) (hm : gI m 0 = iI np) (hn : np ≤ 5) (hC : RCl o3 (gA m 1) t) (hL : RLd np (gA o0 6) (gA m 1) t) (hK : K) :
    f_PV_led a b c o0 r3 o3 (fun z => f_Md_led a b c m (fun z2 => (z = z2 → K) ∧ (¬ z = z2 → False))) := by
  obtain ⟨c1, c2, c3⟩ := hC
  obtain ⟨x, x1, x2, rfl⟩ := iI_ex a
  obtain ⟨z, z1, z2, rfl⟩ := iI_ex c
  have e1 : iI (t : Int) - (1 : Int32) = iI ((t : Int) - 1) := iI_sub _ 1
  have md : ∀ Q : Int32 → Prop, ((x < 0 ∨ (t : Int) ≤ x ∨ (∀ j : Nat, j < np → b ≠ iI j) ∨ z < 0 ∨ 4 < z) → Q (-1)) → (∀ k j l : Nat, k < t → j < np → l ≤ 4 → x = k → b = iI j → z = l → Q (gA m 1 (520 + 25 * k + 5 * j + l))) → f_Md_led (iI x) b (iI z) m Q := by
    intro Q no yes
    unfold f_Md_led
    rw [c2, e1]
    refine md_in (lo := 0) (fun a1 a2 => k_f (by decide) ?_) (fun q => k_t rfl (no (by omega))) ⟨x1, x2⟩ (by omega) (by omega)
    refine md_isPiece hm hn (fun j hj hb => k_f (by decide) ?_) (fun q => k_t rfl (no (Or.inr (Or.inr (Or.inl q)))))
    refine md_in (lo := 0) (hi := 4) (fun a3 a4 => k_f (by decide) ?_) (fun q => k_t rfl (no (by omega))) ⟨z1, z2⟩ (by omega) (by omega)
    have ei : (520 : Int32) + (25 : Int32) * iI x + (5 : Int32) * b = iI ((520 + 25 * x.toNat + 5 * j : Nat) : Int) := by
      rw [hb, show (520 : Int32) = iI 520 from rfl, show (25 : Int32) = iI 25 from rfl, show (5 : Int32) = iI 5 from rfl, iI_mul, iI_mul, iI_add, iI_add]
      congr 1; omega
    have ez : iI z = iI ((z.toNat : Nat) : Int) := by congr 1; omega
    refine k_e ei ?_
    have e2 : iI ((520 + 25 * x.toNat + 5 * j : Nat) : Int) + iI z = iI ((520 + 25 * x.toNat + 5 * j + z.toNat : Nat) : Int) := by rw [ez]; exact ix_add _ _
    rw [e2, cl_nat (by omega)]
    exact ⟨v_nat (by omega) (by decide), yes x.toNat j z.toNat (by omega) hj (by omega) (by omega) hb (by omega)⟩
  have no : (x < 0 ∨ (t : Int) ≤ x ∨ (∀ j : Nat, j < np → b ≠ iI j) ∨ z < 0 ∨ 4 < z) → f_Md_led (iI x) b (iI z) m (fun z2 => ((-1 : Int32) = z2 → K) ∧ (¬ (-1 : Int32) = z2 → False)) := by
    intro q
    refine md _ (fun _ => k_q rfl hK) (fun k j l h1 h2 h3 h4 h5 h6 => ?_)
    rcases q with q | q | q | q | q
    · omega
    · omega
    · exact absurd h5 (q j h2)
    · omega
    · omega
  unfold f_PV_led
  rw [c1]
  refine b_lt (b := 0) (fun q => no (Or.inl q)) (fun q1 => b_le (fun q => no (Or.inr (Or.inl q))) (fun q2 => ?_))
  refine pv_isPiece hp hn (fun j hj hb => k_f (by decide) ?_) (fun q => k_t rfl (no (Or.inr (Or.inr (Or.inl q)))))
  refine b_lt (b := 0) (fun q => no (by omega)) (fun q3 => b_le (b := 4) (fun q4 => ?_) (fun q => no (by omega)))
  have ei : iI x * (5 : Int32) + b = iI ((5 * x.toNat + j : Nat) : Int) := by
    rw [hb, show (5 : Int32) = iI 5 from rfl, iI_mul, iI_add]; congr 1; omega
  rw [ei, cl_nat (by omega)]
  refine ⟨v_nat (by omega) (by decide), k_n ?_⟩
  obtain ⟨w, a', s, i, cc, hw, ha, hs, hi, hc, e, A0, A1, A2, A3, A4⟩ := hL x.toNat (by omega) j hj
  unfold f_Le_unpacked
  refine k_n ?_
  have ez : iI z = iI ((z.toNat : Nat) : Int) := by congr 1; omega
  rw [e, ez, led_un hw ha hs hi hc z.toNat (by omega), ← ez]
  refine md _ (fun q => ?_) (fun k j' l h1 h2 h3 h4 h5 h6 => k_q ?_ hK)
  · rcases q with q | q | q | q | q
    · omega
    · omega
    · exact absurd hb (q j hj)
    · omega
    · omega
  · have hj2 : j' = j := by
      have := (iI_eq (a := (j' : Int)) (b := (j : Int)) (by omega) (by omega)).mp (h5.symm.trans hb)
      omega
    have hk : x.toNat = k := by omega
    have hl : z.toNat = l := by omega
    subst hj2 hk hl
    match z.toNat, h3 with
    | 0, _ => exact A0.symm
    | 1, _ => rw [show 520 + 25 * x.toNat + 5 * j' + 1 = 521 + 25 * x.toNat + 5 * j' by omega]; exact A1.symm
    | 2, _ => rw [show 520 + 25 * x.toNat + 5 * j' + 2 = 522 + 25 * x.toNat + 5 * j' by omega]; exact A2.symm
    | 3, _ => rw [show 520 + 25 * x.toNat + 5 * j' + 3 = 523 + 25 * x.toNat + 5 * j' by omega]; exact A3.symm
    | 4, _ => rw [show 520 + 25 * x.toNat + 5 * j' + 4 = 524 + 25 * x.toNat + 5 * j' by omega]; exact A4.symm
