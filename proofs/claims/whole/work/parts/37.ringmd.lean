/-- what the search for a ring leaves as it is of the model -/
def mdR (m u : Ob) : Prop := (∀ k, k < 24 ∨ (27 < k ∧ k < 34) ∨ 37 < k → gI u k = gI m k) ∧ gL u = gL m ∧ (∀ k, k < 31 ∨ 33 < k → gA u k = gA m k) ∧ gB u = gB m
theorem mdR.rf (m : Ob) : mdR m m := ⟨fun _ _ => rfl, rfl, fun _ _ => rfl, rfl⟩
theorem mdR.si {m u : Ob} (h : mdR m u) (k : Nat) (v : Int32) (hk : (24 ≤ k ∧ k ≤ 27) ∨ (34 ≤ k ∧ k ≤ 37)) : mdR m (sI u k v) := by
  refine ⟨fun j hj => ?_, h.2.1, h.2.2.1, h.2.2.2⟩
  rw [gI_sI_ne _ _ _ _ (by omega)]
  exact h.1 j hj
theorem gA_sA_ne (o : Ob) (k j : Nat) (v : Nat → Int32) (h : j ≠ k) : gA (sA o k v) j = gA o j := by
  have : Nat.beq j k = false := beq_ne h
  simp [gA, sA, up, this]
theorem mdR.sa {m u : Ob} (h : mdR m u) (k : Nat) (v : Nat → Int32) (hk : 31 ≤ k ∧ k ≤ 33) : mdR m (sA u k v) := by
  refine ⟨h.1, h.2.1, fun j hj => ?_, h.2.2.2⟩
  rw [gA_sA_ne _ _ _ _ (by omega)]
  exact h.2.2.1 j hj
theorem mdR.fo {m u v : Ob} (h : mdR m u) (g : mdF u v) : mdR m v := by
  refine ⟨fun k hk => (g.1 k (by omega) (by omega) (by omega) (by omega)).trans (h.1 k hk), g.2.1.trans h.2.1, fun k hk => ?_, g.2.2.2.trans h.2.2.2⟩
  rw [g.2.2.1]
  exact h.2.2.1 k hk
section RINGM
variable {b st w : Int}
set_option maxHeartbeats 1000000 in
theorem md_57 {Q : Ob → Prop} {n j : Nat} {m0 : Ob} (hb : 0 ≤ b ∧ b ≤ 40) (hs : 1 ≤ st ∧ st ≤ 20) (hw : 1 ≤ w ∧ w ≤ 20) (hj : j < n) (hn : n ≤ 969) (he : fN b st w j = fN b st w n) (hd : ∀ k, k < n → ∀ i, i < k → fN b st w i ≠ fN b st w k) (e5 : gA m0 1 5 = iI st) (e6 : gA m0 1 6 = iI w)
    (hq : ∀ u, mdR m0 u → gI u 34 = iI j → gI u 35 = iI ((n : Int) - j) → gI u 36 = iI (fM b st w n - fM b st w j) → gI u 37 = iI (fS b st w n - fS b st w j) → Q u) :
    ∀ (d k : Nat) (u : Ob), d + k = n → mdR m0 u → gI u 24 = iI (fw b st w k).1 → gI u 25 = iI (fw b st w k).2 → (∀ i, i < k → gA u 31 (fN b st w i) = iI ((i : Int) + 1) ∧ gA u 32 (fN b st w i) = iI (fS b st w i) ∧ gA u 33 (fN b st w i) = iI (fM b st w i)) → (∀ s, s < 969 → (∀ i, i < k → fN b st w i ≠ s) → gA u 31 s = 0) → f_Md_findRing_57 Q (d + 1) (iI b) (iI k) (iI (fS b st w k)) (iI (fM b st w k)) (iI (fN b st w k : Nat)) u := by
  intro d
  induction d with
  | zero =>
    intro k u hk hu u4 u5 h1 h2
    have : k = n := by omega
    subst this
    have hlt := (fN_lt b st w k).1
    obtain ⟨a1, a2, a3⟩ := h1 j hj
    rw [he] at a1 a2 a3
    unfold f_Md_findRing_57
    refine ⟨v_nat hlt (by decide), ?_⟩
    rw [cl_nat (by omega), a1, a2, a3]
    refine b_eq (b := 0) (fun q => by omega) (fun _ => ⟨v_nat hlt (by decide), ?_⟩)
    have es : iI ((j : Int) + 1) - (1 : Int32) = iI (j : Int) := by rw [show (1 : Int32) = iI 1 from rfl, iI_sub]; congr 1; omega
    rw [es, iI_sub, iI_sub, iI_sub]
    refine k_n ⟨v_nat hlt (by decide), v_nat hlt (by decide), ?_⟩
    exact hq _ ((((hu.si _ _ (by omega)).si _ _ (by omega)).si _ _ (by omega)).si _ _ (by omega)) rfl rfl rfl rfl
  | succ d ih =>
    intro k u hk hu u4 u5 h1 h2
    have hlt := (fN_lt b st w k).1
    have bd := fw_bd b st w k
    unfold f_Md_findRing_57
    refine ⟨v_nat hlt (by decide), ?_⟩
    rw [cl_nat (by omega), h2 _ hlt (fun i hi => hd k (by omega) i hi)]
    refine k_t rfl ⟨v_nat hlt (by decide), v_nat hlt (by decide), v_nat hlt (by decide), ?_⟩
    have g1 : gA u 1 = gA m0 1 := hu.2.2.1 1 (by omega)
    have hu2 := ((hu.sa 31 (upd (gA u 31) (fN b st w k) (iI (k : Int) + (1 : Int32))) (by omega)).sa 32 (upd (gA u 32) (fN b st w k) (iI (fS b st w k))) (by omega)).sa 33 (upd (gA u 33) (fN b st w k) (iI (fM b st w k))) (by omega)
    refine md_foldStep (g := (fw b st w k).1) (p := (fw b st w k).2) (st := st) (w := w) hb hs hw bd.1 bd.2 u4 u5 ?_ ?_ (fun v hv v4 v5 v6 v7 => ?_)
    · show gA u 1 5 = _
      rw [g1]; exact e5
    · show gA u 1 6 = _
      rw [g1]; exact e6
    have ev31 : gA v 31 = upd (gA u 31) (fN b st w k) (iI (k : Int) + (1 : Int32)) := by rw [hv.2.2.1]; rfl
    have ev32 : gA v 32 = upd (gA u 32) (fN b st w k) (iI (fS b st w k)) := by rw [hv.2.2.1]; rfl
    have ev33 : gA v 33 = upd (gA u 33) (fN b st w k) (iI (fM b st w k)) := by rw [hv.2.2.1]; rfl
    have next : f_Md_findRing_57 Q (d + 1) (iI b) (iI ((k + 1 : Nat) : Int)) (iI (fS b st w (k + 1))) (iI (fM b st w (k + 1))) (iI (fN b st w (k + 1) : Nat)) v := by
      refine ih (k + 1) v (by omega) (hu2.fo hv) v4 v5 (fun i hi => ?_) (fun s hs1 hs2 => ?_)
      · rw [ev31, ev32, ev33]
        by_cases hik : i = k
        · subst hik
          rw [upd_same, upd_same, upd_same]
          exact ⟨iI_add _ 1, rfl, rfl⟩
        · have hne := hd k (by omega) i (by omega)
          rw [upd_ne _ _ _ _ hne, upd_ne _ _ _ _ hne, upd_ne _ _ _ _ hne]
          exact h1 i (by omega)
      · rw [ev31, upd_ne _ _ _ _ (fun q => hs2 k (by omega) q.symm)]
        exact h2 s hs1 (fun i hi => hs2 i (by omega))
    have e1 : iI (k : Int) + (1 : Int32) = iI ((k + 1 : Nat) : Int) := ix_add k 1
    have eN : (19 : Int32) * gI v 24 + gI v 25 + (9 : Int32) = iI (fN b st w (k + 1) : Nat) := by
      rw [v4, v5, (fN_lt b st w (k + 1)).2, show (19 : Int32) = iI 19 from rfl, show (9 : Int32) = iI 9 from rfl, iI_mul, iI_add, iI_add]
      rfl
    have eS : iI (fS b st w k) + gI v 26 = iI (fS b st w (k + 1)) := by rw [v6, iI_add]; rfl
    rw [v7, eS]
    refine b_eq (b := 0) (fun q => ?_) (fun q => ?_) (by unfold fmN; split <;> omega) (by omega)
    · unfold f_Md_findRing_123
      rw [eN, e1]
      refine k_n ?_
      have eM : iI (fM b st w k) + (0 : Int32) = iI (fM b st w (k + 1)) := by
        rw [show (0 : Int32) = iI 0 from rfl, iI_add]; congr 1; simp only [fM]; omega
      rw [eM]
      exact next
    · unfold f_Md_findRing_123
      rw [eN, e1]
      refine k_n ?_
      have eM : iI (fM b st w k) + (1 : Int32) = iI (fM b st w (k + 1)) := by
        rw [show (1 : Int32) = iI 1 from rfl, iI_add]; congr 1; simp only [fM]
        have : fmN b st w (fw b st w k).1 (fw b st w k).2 = 0 ∨ fmN b st w (fw b st w k).1 (fw b st w k).2 = 1 := by unfold fmN; split <;> omega
        omega
      rw [eM]
      exact next
theorem md_2 {Q : Ob → Prop} {x1 : Int32} {m0 : Ob} (hq : ∀ u, mdR m0 u → (∀ s, s < 969 → gA u 31 s = 0) → ∀ y14 : Int32, y14 = ((((19 : Int32) * (10 : Int32)) + (0 : Int32)) + (9 : Int32)) → ((∃ w, f_Md_findRing_57 Q w x1 (0 : Int32) (0 : Int32) (0 : Int32) y14 (sI (sI u 24 (10 : Int32)) 25 (0 : Int32))))) :
    ∀ (d k : Nat) (u : Ob), d + k = 969 → mdR m0 u → (∀ s, s < k → gA u 31 s = 0) → f_Md_findRing_2 Q (d + 1) x1 (iI k) u := by
  intro d
  induction d with
  | zero =>
    intro k u hk hu h
    have : k = 969 := by omega
    subst this
    unfold f_Md_findRing_2
    exact b_le (a := 969) (fun _ => hq u hu h) (fun q => by omega)
  | succ d ih =>
    intro k u hk hu h
    unfold f_Md_findRing_2
    refine b_le (a := 969) (fun q => by omega) (fun _ => ⟨v_nat (by omega) (by decide), ?_⟩)
    have e : iI (k : Int) + (1 : Int32) = iI ((k + 1 : Nat) : Int) := ix_add k 1
    rw [e, cl_nat (by omega)]
    refine ih (k + 1) _ (by omega) (hu.sa _ _ (by omega)) (fun s hs => ?_)
    show upd (gA u 31) k (0 : Int32) s = _
    by_cases hsk : s = k
    · subst hsk; exact upd_same _ _ _
    · rw [upd_ne _ _ _ _ hsk]; exact h s (by omega)
theorem md_findRing {Q : Ob → Prop} {n j : Nat} {m : Ob} (hb : 0 ≤ b ∧ b ≤ 40) (hs : 1 ≤ st ∧ st ≤ 20) (hw : 1 ≤ w ∧ w ≤ 20) (hj : j < n) (hn : n ≤ 969) (he : fN b st w j = fN b st w n) (hd : ∀ k, k < n → ∀ i, i < k → fN b st w i ≠ fN b st w k) (e5 : gA m 1 5 = iI st) (e6 : gA m 1 6 = iI w)
    (hq : ∀ u, mdR m u → gI u 34 = iI j → gI u 35 = iI ((n : Int) - j) → gI u 36 = iI (fM b st w n - fM b st w j) → gI u 37 = iI (fS b st w n - fS b st w j) → Q u) : f_Md_findRing (iI b) m Q := by
  unfold f_Md_findRing
  refine ⟨970, md_2 (fun u hu h => ?_) 969 0 m rfl (mdR.rf m) (fun s hs => by omega)⟩
  refine k_n ⟨n + 1, ?_⟩
  exact md_57 hb hs hw hj hn he hd e5 e6 hq n 0 _ (by omega) ((hu.si _ _ (by omega)).si _ _ (by omega)) rfl rfl (fun i hi => by omega) (fun s hs1 _ => h s hs1)
end RINGM
/-- the answers of rhythm -/
theorem op_rhythm {a c : Int32} {o0 o3 o4 rh fo m : Ob} {r3 : Nat → Nat} {K : Ob → Ob → Ob → Prop} (hF : RFo o4 (gA m 1)) (hK0 : K rh fo m) (hK : ∀ u v m', gI u 0 = gI rh 0 → mdR m m' → K u v m') :
    f_PV_rhythm a c o0 r3 o3 o4 rh fo (fun z u v => f_Md_rhythm a c m (fun z2 m' => (z = z2 → K u v m') ∧ (¬ z = z2 → False))) := by
  obtain ⟨⟨-, -, -, f3, f4, -, -⟩, -, -, -, ⟨st, s1, s2, es⟩, ⟨w, w1, w2, ew⟩⟩ := hF
  obtain ⟨x, x1, x2, rfl⟩ := iI_ex a
  obtain ⟨y, y1, y2, rfl⟩ := iI_ex c
  unfold f_PV_rhythm
  refine pv_isBreath ⟨x1, x2⟩ (fun b1 b2 => k_f (by decide) ?_) (fun q => k_t rfl ?_)
  · refine b_lt (b := 0) (fun q => ?_) (fun q1 => b_le (b := 3) (fun q2 => ?_) (fun q => ?_))
    · unfold f_Md_rhythm
      refine md_in (lo := 0) (hi := 40) (fun _ _ => k_f (by decide) ?_) (fun _ => by omega) (by omega) (by omega) (by omega)
      exact md_in (lo := 0) (hi := 3) (fun _ _ => by omega) (fun _ => k_t rfl (k_q rfl hK0)) (by omega) (by omega) (by omega)
    · rw [f3, f4, es, ew]
      obtain ⟨n, j, hj, hn, he, hd⟩ := ring_ex x st w
      refine rh_find ⟨b1, b2⟩ (by omega) (by omega) hj hn he hd (fun u v u0 u2 u3 u4 u5 => ?_)
      have mdgo : ∀ (z : Int32), (y = 0 → z = iI j) → (y = 1 → z = iI ((n : Int) - j)) → (y = 2 → z = iI (fM x st w n - fM x st w j)) → (y = 3 → z = iI (fS x st w n - fS x st w j)) → f_Md_rhythm (iI x) (iI y) m (fun z2 m' => (z = z2 → K u v m') ∧ (¬ z = z2 → False)) := by
        intro z h0 h1 h2 h3
        unfold f_Md_rhythm
        refine md_in (lo := 0) (hi := 40) (fun _ _ => k_f (by decide) ?_) (fun _ => by omega) (by omega) (by omega) (by omega)
        refine md_in (lo := 0) (hi := 3) (fun _ _ => k_f (by decide) ?_) (fun _ => by omega) (by omega) (by omega) (by omega)
        refine md_findRing ⟨b1, b2⟩ (by omega) (by omega) hj hn he hd es ew (fun m' hm m4 m5 m6 m7 => ?_)
        refine b_eq (b := 0) (fun q => k_q (by rw [m4]; exact h0 q) (hK u v m' u0 hm)) (fun q3 => b_eq (b := 1) (fun q => k_q (by rw [m5]; exact h1 q) (hK u v m' u0 hm)) (fun q4 => b_eq (b := 2) (fun q => k_q (by rw [m6]; exact h2 q) (hK u v m' u0 hm)) (fun q5 => k_q (by rw [m7]; exact h3 (by omega)) (hK u v m' u0 hm))))
      refine b_eq (b := 0) (fun q => mdgo _ (fun _ => u2) (fun h => by omega) (fun h => by omega) (fun h => by omega)) (fun q3 => b_eq (b := 1) (fun q => mdgo _ (fun h => by omega) (fun _ => u3) (fun h => by omega) (fun h => by omega)) (fun q4 => b_eq (b := 2) (fun q => mdgo _ (fun h => by omega) (fun h => by omega) (fun _ => u4) (fun h => by omega)) (fun q5 => mdgo _ (fun h => by omega) (fun h => by omega) (fun h => by omega) (fun _ => u5))))
    · unfold f_Md_rhythm
      refine md_in (lo := 0) (hi := 40) (fun _ _ => k_f (by decide) ?_) (fun _ => by omega) (by omega) (by omega) (by omega)
      exact md_in (lo := 0) (hi := 3) (fun _ _ => by omega) (fun _ => k_t rfl (k_q rfl hK0)) (by omega) (by omega) (by omega)
  · unfold f_Md_rhythm
    exact md_in (lo := 0) (hi := 40) (fun _ _ => by omega) (fun _ => k_t rfl (k_q rfl hK0)) (by omega) (by omega) (by omega)
