theorem arrK {s : State} {args : Array Value} {ty : FieldType} (hty : ∀ C, ty ≠ .object C) (h : (Cond.arrayClass ty).before args s = true) : ∃ cA : ClassId, ArrOfT s cA ty ∧ va_RA s cA ty := by
  obtain ⟨cA, kA, comp, h1, h2, h3⟩ := Cond.arrayClass_spec h
  refine ⟨cA, fun N z => ⟨(fun k h => by cases h), kA, h2, comp, h3⟩, ?_⟩
  cases ty with
  | object C => exact absurd rfl (hty C)
  | _ => exact h1
theorem arrO {s : State} {args : Array Value} {C : String} (h : (Cond.arrayOver (.object C)).before args s = true) : ∃ cA : ClassId, ArrOfT s cA (.object C) ∧ va_RA s cA (.object C) := by
  obtain ⟨comp, cA, kA, h1, -, h2, h3, h4⟩ := Cond.arrayOver_spec h
  exact ⟨cA, fun N z => ⟨(fun k h => by cases h), kA, h2, comp, h3⟩, kA, comp, h2, h3, h1, h4⟩
theorem nx_mem : ∀ w ∈ nxL, w ∈ tables_1 := by
  intro w hw
  have h : nxL.map some = [37, 197, 301, 317, 366, 371].map (fun i => tables_1[i]?) := by decide +kernel
  have h1 : some w ∈ nxL.map some := List.mem_map_of_mem hw
  rw [h] at h1
  obtain ⟨i, -, hi⟩ := List.mem_map.mp h1
  exact List.mem_of_getElem? hi
theorem sr_mem : ∀ i, i < 11 → Cond.stringRef "PipeVoice$Reader" (sIdx.getD i 0) (sTxt.getD i "") ∈ tables_1 := by
  intro i hi
  have h : ∀ i, i < 11 → tables_1[[526, 603, 612, 613, 614, 623, 628, 629, 630, 631, 644].getD i 0]? = some (Cond.stringRef "PipeVoice$Reader" (sIdx.getD i 0) (sTxt.getD i "")) := by decide +kernel
  exact List.mem_of_getElem? (h i hi)
set_option maxHeartbeats 4000000 in
set_option maxRecDepth 100000 in
theorem str_of {s : State} {b : Nat} {A : Nat → Prop} (hts : ∀ w ∈ lw_tbl, w.before #[Value.ref b] s = true) (hgv : (Jvm.Cond.and given_1 narrow_1).before #[Value.ref b] s = true) (hA : ∀ a : Nat, a < s.heap.size → ¬ A a) : ∃ K : Ks, SX K A s s.heap ∧ VX K s := by
  have hs := flat_of_before _ hgv
  have ht : ∀ w ∈ tables_1, w.before #[Value.ref b] s = true := fun w hw => hts w (List.mem_append_right _ hw)
  have m1 : ∀ i, i < 11 → Cond.exactly (.string "PipeVoice$Reader" (sIdx.getD i 0)) "java/lang/String" ∈ flatC (Jvm.Cond.and given_1 narrow_1) := by decide +kernel
  have m2 : ∀ i, i < 11 → Cond.eq (.field (.string "PipeVoice$Reader" (sIdx.getD i 0)) "java/lang/String" "coder" "B") (.int 0) ∈ flatC (Jvm.Cond.and given_1 narrow_1) := by decide +kernel
  have m3 : ∀ i, i < 11 → Cond.arrayOf (.field (.string "PipeVoice$Reader" (sIdx.getD i 0)) "java/lang/String" "value" "[B") .byte ∈ flatC (Jvm.Cond.and given_1 narrow_1) := by decide +kernel
  have m4 : ∀ i, i < 11 → Cond.eq (.length (.field (.string "PipeVoice$Reader" (sIdx.getD i 0)) "java/lang/String" "value" "[B")) (.int (Int32.ofNat (sLen.getD i 0))) ∈ flatC (Jvm.Cond.and given_1 narrow_1) := by decide +kernel
  have m5 : ∀ i, i < 11 → ∀ j, j < sLen.getD i 0 → Cond.eq (.elem (.field (.string "PipeVoice$Reader" (sIdx.getD i 0)) "java/lang/String" "value" "[B") (.int (Int32.ofNat j))) (.int ((sByt.getD i []).getD j 0)) ∈ flatC (Jvm.Cond.and given_1 narrow_1) := by decide +kernel
  have m6 : ∀ i, i < 11 → ∀ j, j < 11 → i ≠ j → Cond.not (Cond.eq (.string "PipeVoice$Reader" (sIdx.getD i 0)) (.string "PipeVoice$Reader" (sIdx.getD j 0))) ∈ flatC (Jvm.Cond.and given_1 narrow_1) ∨ Cond.not (Cond.eq (.string "PipeVoice$Reader" (sIdx.getD j 0)) (.string "PipeVoice$Reader" (sIdx.getD i 0))) ∈ flatC (Jvm.Cond.and given_1 narrow_1) := by decide +kernel
  obtain ⟨adK, adV, h1, h2⟩ := vk_Sof (N := 11) (tm := fun i => .string "PipeVoice$Reader" (sIdx.getD i 0)) (len := sLen) (byt := sByt) (A := A) (args := #[Value.ref b]) (by decide) (fun i hi => hs _ (m1 i hi)) (fun i hi => hs _ (m2 i hi)) (fun i hi => hs _ (m3 i hi)) (fun i hi => hs _ (m4 i hi)) (fun i hi j hj => hs _ (m5 i hi j hj)) (fun i j hi hj hij => (m6 i hi j hj hij).imp (fun h => hs _ h) (fun h => hs _ h)) hA
  refine ⟨(adK, adV), ⟨h1, ?_, ?_⟩, fun i hi => ?_⟩
  · exact va_Zof (ht _ (List.mem_of_getElem? (i := 540) (by decide +kernel))) (ht _ (List.mem_of_getElem? (i := 14) (by decide +kernel))) (va_eqi (hs (.eq (.static "java/lang/String" "COMPACT_STRINGS" "Z") (.int 1)) (by decide +kernel))) hA
  · exact va_Zqof (ht _ (List.mem_of_getElem? (i := 556) (by decide +kernel))) (ht _ (List.mem_of_getElem? (i := 16) (by decide +kernel))) (hs (.isRef (.static "jdk/internal/util/Preconditions" "SIOOBE_FORMATTER" "Ljava/util/function/BiFunction;")) (by decide +kernel)) hA
  · have hr : (Cond.stringRef "PipeVoice$Reader" (sIdx.getD i 0) (sTxt.getD i "")).before #[Value.ref b] s = true := ht _ (sr_mem i hi)
    exact vk_R.of hr (h2 i hi)
set_option maxHeartbeats 4000000 in
set_option maxRecDepth 100000 in
/-- the law, from its entry, out of what the pure texts say -/
theorem whole_start_of {p : Program} {e : Env} {s : State} {m : MethodId} {below : List Frame} {meth : Method} {c : Code} (l : Launch) {b L : Nat} {xs : Nat → Int32} (hL : L ≤ 3585) (C0 : lw_At p s m meth c b L xs) (hpure : f_Lw_law L xs) : W p l e room_1 s m #[Value.ref b] below meth c s.heap [] 0 0 (lw_Z below #[Value.ref b] s) (entryFrame m ([Value.ref b] : List Value).toArray 4) := by
  obtain ⟨hx, hb, hr, hml, hown, hts, hX, hbl, hlocks, hgv⟩ := id C0
  have hg : ∀ w ∈ gw_tbl, w.before #[Value.ref b] s = true := fun w hw => hts w (List.mem_filter.mp hw).1
  have ht : ∀ w ∈ tables_1, w.before #[Value.ref b] s = true := fun w hw => hts w (List.mem_append_right _ hw)
  have hA : ∀ q : Nat, s.heap.size ≤ q → (fun q : Nat => s.heap.size ≤ q) q := fun _ h => h
  obtain ⟨K, hSX, hVX⟩ := str_of (A := fun q : Nat => s.heap.size ≤ q) hts hgv (fun a ha h => absurd h (Nat.not_le.mpr ha))
  obtain ⟨c0, i0, k0⟩ := u_known (C := R_PV) (T := T_PV) (N := 14) (n := 14) hg i_PV (ht (.instantiable R_PV 14) (List.mem_of_getElem? (i := 22) (by decide +kernel)))
  obtain ⟨c1, i1, k1⟩ := u_known (C := R_Fo) (T := T_Fo) (N := 7) (n := 7) hg i_Fo (ht (.instantiable R_Fo 7) (List.mem_of_getElem? (i := 196) (by decide +kernel)))
  obtain ⟨c2, i2, k2⟩ := u_known (C := R_He) (T := T_He) (N := 3) (n := 3) hg i_He (ht (.instantiable R_He 3) (List.mem_of_getElem? (i := 300) (by decide +kernel)))
  obtain ⟨c3, i3, k3⟩ := u_known (C := R_La) (T := T_La) (N := 15) (n := 15) hg i_La (ht (.instantiable R_La 15) (List.mem_of_getElem? (i := 54) (by decide +kernel)))
  obtain ⟨c4, i4, k4⟩ := u_known (C := R_Le) (T := T_Le) (N := 8) (n := 8) hg i_Le (ht (.instantiable R_Le 8) (List.mem_of_getElem? (i := 316) (by decide +kernel)))
  obtain ⟨c5, i5, k5⟩ := u_known (C := R_Mo) (T := T_Mo) (N := 13) (n := 13) hg i_Mo (ht (.instantiable R_Mo 13) (List.mem_of_getElem? (i := 190) (by decide +kernel)))
  obtain ⟨c6, i6, k6⟩ := u_known (C := R_Pi) (T := T_Pi) (N := 3) (n := 3) hg i_Pi (ht (.instantiable R_Pi 3) (List.mem_of_getElem? (i := 349) (by decide +kernel)))
  obtain ⟨c7, i7, k7⟩ := u_known (C := R_Re) (T := T_Re) (N := 11) (n := 11) hg i_Re (ht (.instantiable R_Re 11) (List.mem_of_getElem? (i := 147) (by decide +kernel)))
  obtain ⟨c8, i8, k8⟩ := u_known (C := R_Rh) (T := T_Rh) (N := 6) (n := 6) hg i_Rh (ht (.instantiable R_Rh 6) (List.mem_of_getElem? (i := 365) (by decide +kernel)))
  obtain ⟨c9, i9, k9⟩ := u_known (C := R_Sh) (T := T_Sh) (N := 12) (n := 12) hg i_Sh (ht (.instantiable R_Sh 12) (List.mem_of_getElem? (i := 396) (by decide +kernel)))
  obtain ⟨c10, i10, k10⟩ := u_known (C := R_Ta) (T := T_Ta) (N := 2) (n := 2) hg i_Ta (ht (.instantiable R_Ta 2) (List.mem_of_getElem? (i := 36) (by decide +kernel)))
  obtain ⟨c11, i11, k11⟩ := u_known (C := R_Md) (T := T_Md) (N := 45) (n := 45) hg i_Md (ht (.instantiable R_Md 45) (List.mem_of_getElem? (i := 958) (by decide +kernel)))
  obtain ⟨dC, dI, hKc⟩ : ∃ (dC : Nat → ClassId) (dI : Nat → Nat → Nat), ∀ (k : Nat) (q : vw_C), CL[k]? = some q → u_Kn s q.1 q.2.1 q.2.2 (dC k) (dI k) := by
    refine ⟨fun k => match k with | 0 => c0 | 1 => c1 | 2 => c2 | 3 => c3 | 4 => c4 | 5 => c5 | 6 => c6 | 7 => c7 | 8 => c8 | 9 => c9 | 10 => c10 | _ => c11, fun k => match k with | 0 => i0 | 1 => i1 | 2 => i2 | 3 => i3 | 4 => i4 | 5 => i5 | 6 => i6 | 7 => i7 | 8 => i8 | 9 => i9 | 10 => i10 | _ => i11, ?_⟩
    intro k q hq
    match k, hq with
    | 0, hq => cases hq; exact k0
    | 1, hq => cases hq; exact k1
    | 2, hq => cases hq; exact k2
    | 3, hq => cases hq; exact k3
    | 4, hq => cases hq; exact k4
    | 5, hq => cases hq; exact k5
    | 6, hq => cases hq; exact k6
    | 7, hq => cases hq; exact k7
    | 8, hq => cases hq; exact k8
    | 9, hq => cases hq; exact k9
    | 10, hq => cases hq; exact k10
    | 11, hq => cases hq; exact k11
    | k + 12, hq => simp [CL] at hq
  obtain ⟨a0, ha0⟩ := arrK (ty := .int) (by intro C h; cases h) (hg _ wa_int)
  obtain ⟨a1, ha1⟩ := arrK (ty := .long) (by intro C h; cases h) (hg _ wa_long)
  obtain ⟨a2, ha2⟩ := arrK (ty := .byte) (by intro C h; cases h) (hg _ wa_byte)
  obtain ⟨a3, ha3⟩ := arrK (ty := .boolean) (by intro C h; cases h) (hg _ wa_boolean)
  obtain ⟨a4, ha4⟩ := arrO (C := "PipeVoice$Law") (ht _ (List.mem_of_getElem? (i := 53) (by decide +kernel)))
  obtain ⟨cc, hcc0, hcc1, hcc2, hcc3, hcc4⟩ : ∃ cc : Nat → ClassId, cc 0 = a0 ∧ cc 1 = a1 ∧ cc 2 = a2 ∧ cc 3 = a3 ∧ cc 4 = a4 := ⟨fun k => match k with | 0 => a0 | 1 => a1 | 2 => a2 | 3 => a3 | _ => a4, rfl, rfl, rfl, rfl, rfl⟩
  have hK : KK ((dC, dI), cc, K) s := by
    refine ⟨hKc, ?_⟩
    intro k q hq
    match k, hq with
    | 0, hq => cases hq; show ArrOfT s (cc 0) _ ∧ va_RA s (cc 0) _; rw [hcc0]; exact ha0
    | 1, hq => cases hq; show ArrOfT s (cc 1) _ ∧ va_RA s (cc 1) _; rw [hcc1]; exact ha1
    | 2, hq => cases hq; show ArrOfT s (cc 2) _ ∧ va_RA s (cc 2) _; rw [hcc2]; exact ha2
    | 3, hq => cases hq; show ArrOfT s (cc 3) _ ∧ va_RA s (cc 3) _; rw [hcc3]; exact ha3
    | 4, hq => cases hq; show ArrOfT s (cc 4) _ ∧ va_RA s (cc 4) _; rw [hcc4]; exact ha4
    | k + 5, hq => simp at hq
  have hNX : NX s := fun w hw => va_Nw.of (by
    have : ∀ w ∈ nxL, w.onTables = true := by decide +kernel
    exact this w hw) (ht w (nx_mem w hw))
  have C : Cx p s m #[Value.ref b] meth c R_Lw b_Lw_law 4 ret ((dC, dI), cc, K) (fun q : Nat => s.heap.size ≤ q) := ⟨hx, hb, hml, hown, hr, hg, hK, hA, hlocks, hSX, hVX, hNX⟩
  have hl := lv_entry ([.ref b]) (n := 4) (Nat.le_of_ble_eq_true rfl)
  rw [lg_entry_eq]
  generalize (lg_sl ([.ref b]) ++ List.replicate (4 - (lg_sl ([.ref b])).length) Slot.unset).toArray = ls at hl ⊢
  have hl : lv_has ls 4 [(0, .ref b)] := hl
  have hP : va_P (dC, dI) CL [] s.heap := fun k q h => by simp at h
  have hD : va_D (fun q : Nat => s.heap.size ≤ q) [] := ⟨fun i j p q h => by simp at h, fun k q h => by simp at h⟩
  exact t_Lw_law (G := ((dC, dI), cc, K)) hL C0 C (fun _ h => h) ls s.heap [] hl hP hD va_S.rf hpure
