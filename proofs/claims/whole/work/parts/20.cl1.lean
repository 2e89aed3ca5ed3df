abbrev b_Mt_floorDiv : ByteArray := prog_16_method_49_code
def y_Mt_floorDiv : MethodName := ⟨R_Mt, "floorDiv", "(JJ)J"⟩
abbrev w_Mt_floorDiv : List Cond := Cond.code y_Mt_floorDiv b_Mt_floorDiv 6 (some .long) :: gw_tbl
theorem d_Mt_floorDiv_0 : decode b_Mt_floorDiv 0 = .ok (.lload_n 0, 1) := by decide +kernel
theorem d_Mt_floorDiv_1 : decode b_Mt_floorDiv 1 = .ok (.lload_n 2, 1) := by decide +kernel
theorem d_Mt_floorDiv_2 : decode b_Mt_floorDiv 2 = .ok (.ldiv, 1) := by decide +kernel
theorem d_Mt_floorDiv_3 : decode b_Mt_floorDiv 3 = .ok (.lstore 4, 2) := by decide +kernel
theorem d_Mt_floorDiv_5 : decode b_Mt_floorDiv 5 = .ok (.lload_n 0, 1) := by decide +kernel
theorem d_Mt_floorDiv_6 : decode b_Mt_floorDiv 6 = .ok (.lload_n 2, 1) := by decide +kernel
theorem d_Mt_floorDiv_7 : decode b_Mt_floorDiv 7 = .ok (.lxor, 1) := by decide +kernel
theorem d_Mt_floorDiv_8 : decode b_Mt_floorDiv 8 = .ok (.lconst 0, 1) := by decide +kernel
theorem d_Mt_floorDiv_9 : decode b_Mt_floorDiv 9 = .ok (.lcmp, 1) := by decide +kernel
theorem d_Mt_floorDiv_10 : decode b_Mt_floorDiv 10 = .ok (.ifCond .ge 17, 3) := by decide +kernel
theorem d_Mt_floorDiv_13 : decode b_Mt_floorDiv 13 = .ok (.lload 4, 2) := by decide +kernel
theorem d_Mt_floorDiv_15 : decode b_Mt_floorDiv 15 = .ok (.lload_n 2, 1) := by decide +kernel
theorem d_Mt_floorDiv_16 : decode b_Mt_floorDiv 16 = .ok (.lmul, 1) := by decide +kernel
theorem d_Mt_floorDiv_17 : decode b_Mt_floorDiv 17 = .ok (.lload_n 0, 1) := by decide +kernel
theorem d_Mt_floorDiv_18 : decode b_Mt_floorDiv 18 = .ok (.lcmp, 1) := by decide +kernel
theorem d_Mt_floorDiv_19 : decode b_Mt_floorDiv 19 = .ok (.ifCond .eq 8, 3) := by decide +kernel
theorem d_Mt_floorDiv_22 : decode b_Mt_floorDiv 22 = .ok (.lload 4, 2) := by decide +kernel
theorem d_Mt_floorDiv_24 : decode b_Mt_floorDiv 24 = .ok (.lconst 1, 1) := by decide +kernel
theorem d_Mt_floorDiv_25 : decode b_Mt_floorDiv 25 = .ok (.lsub, 1) := by decide +kernel
theorem d_Mt_floorDiv_26 : decode b_Mt_floorDiv 26 = .ok (.lreturn, 1) := by decide +kernel
theorem d_Mt_floorDiv_27 : decode b_Mt_floorDiv 27 = .ok (.lload 4, 2) := by decide +kernel
theorem d_Mt_floorDiv_29 : decode b_Mt_floorDiv 29 = .ok (.lreturn, 1) := by decide +kernel
def f_Mt_floorDiv (a0 : Int64) (a1 : Int64) (Q : Int64 → Prop) : Prop := (¬ a1 = 0) ∧ ((0 ≤ (lg_cmp (a0 ^^^ a1) (0 : Int64)) → (Q (a0 / a1))) ∧ (¬ 0 ≤ (lg_cmp (a0 ^^^ a1) (0 : Int64)) → (((lg_cmp ((a0 / a1) * a1) a0) = 0 → (Q (a0 / a1))) ∧ (¬ (lg_cmp ((a0 / a1) * a1) a0) = 0 → (Q ((a0 / a1) - (1 : Int64)))))))
abbrev rm_Mt_floorDiv : Room := { frames := 0, cells := 0, slots := 0, locals := 0 }
set_option maxHeartbeats 4000000 in
set_option maxRecDepth 100000 in
theorem c_Mt_floorDiv {l : Launch} {G : Gl} {a0 : Int64} {a1 : Int64} {Q : Int64 → Prop} (sz : Nat) (h : f_Mt_floorDiv a0 a1 Q) : Met l y_Mt_floorDiv w_Mt_floorDiv rm_Mt_floorDiv (PcW G [.long a0, .long a1] sz ([])) (va_Ql (fun (r : Int64) (u : Unit) => Q r) (fun (u : Unit) t => BW G (va_A ([]) sz) ([]) t) (va_A ([]) sz)) 0 0 (va_A ([]) sz) := by
  refine Met.ofWF (cc := b_Mt_floorDiv) (maxL := 6) (ret := (some .long)) (by decide +kernel) rfl ?_
  intro p e s m args below meth c s₁ B hml hv
  obtain ⟨rfl, hsz, hP, hK, hD0, hE⟩ := hv
  have hx := B.exec
  have hb := B.bytes
  have hr := B.returns
  have hts0 := atoms_spec (ws := w_Mt_floorDiv) B.pre
  have hts : ∀ w ∈ gw_tbl, w.before ([.long a0, .long a1]).toArray s = true := fun w hw => hts0 w (List.mem_cons_of_mem _ hw)
  have hown : s.vm.findClass R_Mt = some m.cls := findClass_of_methodNamed B.named
  have hlocks := B.notSynchronized
  subst hsz
  have hD := hD0.self (sz := s.heap.size)
  generalize hAe : va_A ([]) s.heap.size = A at hD hE ⊢
  have hA : ∀ q : Nat, s.heap.size ≤ q → A q := fun q h => by rw [← hAe]; exact Or.inr h
  have hS : va_S A s.heap s.heap [] := va_S.rf
  have C : Cx p s m ([.long a0, .long a1]).toArray meth c R_Mt b_Mt_floorDiv 6 (some .long) G A := ⟨hx, hb, hml, hown, hr, hts, hK, hA, hlocks, hE⟩
  have hl := lv_entry ([.long a0, .long a1]) (n := 6) (Nat.le_of_ble_eq_true rfl)
  rw [lg_entry_eq]
  generalize (lg_sl ([.long a0, .long a1]) ++ List.replicate (6 - (lg_sl ([.long a0, .long a1])).length) Slot.unset).toArray = ls at hl ⊢
  have hl : lv_has ls 6 [(0, .long a0), (2, .long a1)] := hl
  have hD : va_D A [] := hD
  unfold f_Mt_floorDiv at h
  suffices key : ∀ (H : Heap) (locs : List Loc), va_P G.1 CL [] H → va_S A s.heap H locs → W p l e rm_Mt_floorDiv s m ([.long a0, .long a1]).toArray below meth c H locs 0 0 (MQ below (va_Ql (fun (r : Int64) (u : Unit) => Q r) (fun (u : Unit) t => BW G A ([]) t) A) ([.long a0, .long a1]).toArray s 0 0 A) (F0 m 0 ls []) from key s.heap [] hP hS
  intro H locs hP hS
  refine lv_lload_n hx hb d_Mt_floorDiv_0 rfl (lv_at hl 0 rfl) ?_
  refine lv_lload_n hx hb d_Mt_floorDiv_1 rfl (lv_at hl 1 rfl) ?_
  have g1 := h.1
  have h := h.2
  refine lv_ldiv hx hb d_Mt_floorDiv_2 g1 ?_
  refine lv_lstore (lv' := [(4, .long (a0 / a1)), (0, .long a0), (2, .long a1)]) hx hb d_Mt_floorDiv_3 hl (by decide) rfl (fun ls hl => ?_)
  refine lv_lload_n hx hb d_Mt_floorDiv_5 rfl (lv_at hl 1 rfl) ?_
  refine lv_lload_n hx hb d_Mt_floorDiv_6 rfl (lv_at hl 2 rfl) ?_
  refine lv_lxor hx hb d_Mt_floorDiv_7 ?_
  refine lv_lconst (v := (0 : Int64)) hx hb d_Mt_floorDiv_8 (by decide) ?_
  refine W.lcmp hx hb d_Mt_floorDiv_9 ?_
  refine lv_if_ge (tgt := 27) hx hb d_Mt_floorDiv_10 (by decide) (fun c2 => ?_) (fun c2 => ?_)
  · have h := h.1 c2
    refine lv_lload hx hb d_Mt_floorDiv_27 (lv_at hl 0 rfl) ?_
    have hP : va_P G.1 CL ([]) H := hP
    have hD : va_D A ([]) := hD
    exact W.lret (v := (a0 / a1)) hx hb hr (fun t ht hW => ⟨⟨(a0 / a1), (), rfl, h, by rw [ht]; exact hP, va_K.moved hW.alike hK, hD⟩, hS.F ht⟩) hS.2.2 d_Mt_floorDiv_29
  · have h := h.2 c2
    refine lv_lload hx hb d_Mt_floorDiv_13 (lv_at hl 0 rfl) ?_
    refine lv_lload_n hx hb d_Mt_floorDiv_15 rfl (lv_at hl 2 rfl) ?_
    refine lv_lmul hx hb d_Mt_floorDiv_16 ?_
    refine lv_lload_n hx hb d_Mt_floorDiv_17 rfl (lv_at hl 1 rfl) ?_
    refine W.lcmp hx hb d_Mt_floorDiv_18 ?_
    refine lv_if_eq (tgt := 27) hx hb d_Mt_floorDiv_19 (by decide) (fun c3 => ?_) (fun c3 => ?_)
    · have h := h.1 c3
      refine lv_lload hx hb d_Mt_floorDiv_27 (lv_at hl 0 rfl) ?_
      have hP : va_P G.1 CL ([]) H := hP
      have hD : va_D A ([]) := hD
      exact W.lret (v := (a0 / a1)) hx hb hr (fun t ht hW => ⟨⟨(a0 / a1), (), rfl, h, by rw [ht]; exact hP, va_K.moved hW.alike hK, hD⟩, hS.F ht⟩) hS.2.2 d_Mt_floorDiv_29
    · have h := h.2 c3
      refine lv_lload hx hb d_Mt_floorDiv_22 (lv_at hl 0 rfl) ?_
      refine lv_lconst (v := (1 : Int64)) hx hb d_Mt_floorDiv_24 (by decide) ?_
      refine lv_lsub hx hb d_Mt_floorDiv_25 ?_
      have hP : va_P G.1 CL ([]) H := hP
      have hD : va_D A ([]) := hD
      exact W.lret (v := ((a0 / a1) - (1 : Int64))) hx hb hr (fun t ht hW => ⟨⟨((a0 / a1) - (1 : Int64)), (), rfl, h, by rw [ht]; exact hP, va_K.moved hW.alike hK, hD⟩, hS.F ht⟩) hS.2.2 d_Mt_floorDiv_26
abbrev b_Mt_floorMod : ByteArray := prog_16_method_52_code
def y_Mt_floorMod : MethodName := ⟨R_Mt, "floorMod", "(JJ)J"⟩
abbrev w_Mt_floorMod : List Cond := Cond.code y_Mt_floorMod b_Mt_floorMod 6 (some .long) :: gw_tbl
theorem d_Mt_floorMod_0 : decode b_Mt_floorMod 0 = .ok (.lload_n 0, 1) := by decide +kernel
theorem d_Mt_floorMod_1 : decode b_Mt_floorMod 1 = .ok (.lload_n 2, 1) := by decide +kernel
theorem d_Mt_floorMod_2 : decode b_Mt_floorMod 2 = .ok (.lrem, 1) := by decide +kernel
theorem d_Mt_floorMod_3 : decode b_Mt_floorMod 3 = .ok (.lstore 4, 2) := by decide +kernel
theorem d_Mt_floorMod_5 : decode b_Mt_floorMod 5 = .ok (.lload_n 0, 1) := by decide +kernel
theorem d_Mt_floorMod_6 : decode b_Mt_floorMod 6 = .ok (.lload_n 2, 1) := by decide +kernel
theorem d_Mt_floorMod_7 : decode b_Mt_floorMod 7 = .ok (.lxor, 1) := by decide +kernel
theorem d_Mt_floorMod_8 : decode b_Mt_floorMod 8 = .ok (.lconst 0, 1) := by decide +kernel
theorem d_Mt_floorMod_9 : decode b_Mt_floorMod 9 = .ok (.lcmp, 1) := by decide +kernel
theorem d_Mt_floorMod_10 : decode b_Mt_floorMod 10 = .ok (.ifCond .ge 15, 3) := by decide +kernel
theorem d_Mt_floorMod_13 : decode b_Mt_floorMod 13 = .ok (.lload 4, 2) := by decide +kernel
theorem d_Mt_floorMod_15 : decode b_Mt_floorMod 15 = .ok (.lconst 0, 1) := by decide +kernel
theorem d_Mt_floorMod_16 : decode b_Mt_floorMod 16 = .ok (.lcmp, 1) := by decide +kernel
theorem d_Mt_floorMod_17 : decode b_Mt_floorMod 17 = .ok (.ifCond .eq 8, 3) := by decide +kernel
theorem d_Mt_floorMod_20 : decode b_Mt_floorMod 20 = .ok (.lload 4, 2) := by decide +kernel
theorem d_Mt_floorMod_22 : decode b_Mt_floorMod 22 = .ok (.lload_n 2, 1) := by decide +kernel
theorem d_Mt_floorMod_23 : decode b_Mt_floorMod 23 = .ok (.ladd, 1) := by decide +kernel
theorem d_Mt_floorMod_24 : decode b_Mt_floorMod 24 = .ok (.lreturn, 1) := by decide +kernel
theorem d_Mt_floorMod_25 : decode b_Mt_floorMod 25 = .ok (.lload 4, 2) := by decide +kernel
theorem d_Mt_floorMod_27 : decode b_Mt_floorMod 27 = .ok (.lreturn, 1) := by decide +kernel
def f_Mt_floorMod (a0 : Int64) (a1 : Int64) (Q : Int64 → Prop) : Prop := (¬ a1 = 0) ∧ ((0 ≤ (lg_cmp (a0 ^^^ a1) (0 : Int64)) → (Q (a0 - a0 / a1 * a1))) ∧ (¬ 0 ≤ (lg_cmp (a0 ^^^ a1) (0 : Int64)) → (((lg_cmp (a0 - a0 / a1 * a1) (0 : Int64)) = 0 → (Q (a0 - a0 / a1 * a1))) ∧ (¬ (lg_cmp (a0 - a0 / a1 * a1) (0 : Int64)) = 0 → (Q ((a0 - a0 / a1 * a1) + a1))))))
abbrev rm_Mt_floorMod : Room := { frames := 0, cells := 0, slots := 0, locals := 0 }
set_option maxHeartbeats 4000000 in
set_option maxRecDepth 100000 in
theorem c_Mt_floorMod {l : Launch} {G : Gl} {a0 : Int64} {a1 : Int64} {Q : Int64 → Prop} (sz : Nat) (h : f_Mt_floorMod a0 a1 Q) : Met l y_Mt_floorMod w_Mt_floorMod rm_Mt_floorMod (PcW G [.long a0, .long a1] sz ([])) (va_Ql (fun (r : Int64) (u : Unit) => Q r) (fun (u : Unit) t => BW G (va_A ([]) sz) ([]) t) (va_A ([]) sz)) 0 0 (va_A ([]) sz) := by
  refine Met.ofWF (cc := b_Mt_floorMod) (maxL := 6) (ret := (some .long)) (by decide +kernel) rfl ?_
  intro p e s m args below meth c s₁ B hml hv
  obtain ⟨rfl, hsz, hP, hK, hD0, hE⟩ := hv
  have hx := B.exec
  have hb := B.bytes
  have hr := B.returns
  have hts0 := atoms_spec (ws := w_Mt_floorMod) B.pre
  have hts : ∀ w ∈ gw_tbl, w.before ([.long a0, .long a1]).toArray s = true := fun w hw => hts0 w (List.mem_cons_of_mem _ hw)
  have hown : s.vm.findClass R_Mt = some m.cls := findClass_of_methodNamed B.named
  have hlocks := B.notSynchronized
  subst hsz
  have hD := hD0.self (sz := s.heap.size)
  generalize hAe : va_A ([]) s.heap.size = A at hD hE ⊢
  have hA : ∀ q : Nat, s.heap.size ≤ q → A q := fun q h => by rw [← hAe]; exact Or.inr h
  have hS : va_S A s.heap s.heap [] := va_S.rf
  have C : Cx p s m ([.long a0, .long a1]).toArray meth c R_Mt b_Mt_floorMod 6 (some .long) G A := ⟨hx, hb, hml, hown, hr, hts, hK, hA, hlocks, hE⟩
  have hl := lv_entry ([.long a0, .long a1]) (n := 6) (Nat.le_of_ble_eq_true rfl)
  rw [lg_entry_eq]
  generalize (lg_sl ([.long a0, .long a1]) ++ List.replicate (6 - (lg_sl ([.long a0, .long a1])).length) Slot.unset).toArray = ls at hl ⊢
  have hl : lv_has ls 6 [(0, .long a0), (2, .long a1)] := hl
  have hD : va_D A [] := hD
  unfold f_Mt_floorMod at h
  suffices key : ∀ (H : Heap) (locs : List Loc), va_P G.1 CL [] H → va_S A s.heap H locs → W p l e rm_Mt_floorMod s m ([.long a0, .long a1]).toArray below meth c H locs 0 0 (MQ below (va_Ql (fun (r : Int64) (u : Unit) => Q r) (fun (u : Unit) t => BW G A ([]) t) A) ([.long a0, .long a1]).toArray s 0 0 A) (F0 m 0 ls []) from key s.heap [] hP hS
  intro H locs hP hS
  refine lv_lload_n hx hb d_Mt_floorMod_0 rfl (lv_at hl 0 rfl) ?_
  refine lv_lload_n hx hb d_Mt_floorMod_1 rfl (lv_at hl 1 rfl) ?_
  have g1 := h.1
  have h := h.2
  refine lv_lrem hx hb d_Mt_floorMod_2 g1 ?_
  refine lv_lstore (lv' := [(4, .long (a0 - a0 / a1 * a1)), (0, .long a0), (2, .long a1)]) hx hb d_Mt_floorMod_3 hl (by decide) rfl (fun ls hl => ?_)
  refine lv_lload_n hx hb d_Mt_floorMod_5 rfl (lv_at hl 1 rfl) ?_
  refine lv_lload_n hx hb d_Mt_floorMod_6 rfl (lv_at hl 2 rfl) ?_
  refine lv_lxor hx hb d_Mt_floorMod_7 ?_
  refine lv_lconst (v := (0 : Int64)) hx hb d_Mt_floorMod_8 (by decide) ?_
  refine W.lcmp hx hb d_Mt_floorMod_9 ?_
  refine lv_if_ge (tgt := 25) hx hb d_Mt_floorMod_10 (by decide) (fun c2 => ?_) (fun c2 => ?_)
  · have h := h.1 c2
    refine lv_lload hx hb d_Mt_floorMod_25 (lv_at hl 0 rfl) ?_
    have hP : va_P G.1 CL ([]) H := hP
    have hD : va_D A ([]) := hD
    exact W.lret (v := (a0 - a0 / a1 * a1)) hx hb hr (fun t ht hW => ⟨⟨(a0 - a0 / a1 * a1), (), rfl, h, by rw [ht]; exact hP, va_K.moved hW.alike hK, hD⟩, hS.F ht⟩) hS.2.2 d_Mt_floorMod_27
  · have h := h.2 c2
    refine lv_lload hx hb d_Mt_floorMod_13 (lv_at hl 0 rfl) ?_
    refine lv_lconst (v := (0 : Int64)) hx hb d_Mt_floorMod_15 (by decide) ?_
    refine W.lcmp hx hb d_Mt_floorMod_16 ?_
    refine lv_if_eq (tgt := 25) hx hb d_Mt_floorMod_17 (by decide) (fun c3 => ?_) (fun c3 => ?_)
    · have h := h.1 c3
      refine lv_lload hx hb d_Mt_floorMod_25 (lv_at hl 0 rfl) ?_
      have hP : va_P G.1 CL ([]) H := hP
      have hD : va_D A ([]) := hD
      exact W.lret (v := (a0 - a0 / a1 * a1)) hx hb hr (fun t ht hW => ⟨⟨(a0 - a0 / a1 * a1), (), rfl, h, by rw [ht]; exact hP, va_K.moved hW.alike hK, hD⟩, hS.F ht⟩) hS.2.2 d_Mt_floorMod_27
    · have h := h.2 c3
      refine lv_lload hx hb d_Mt_floorMod_20 (lv_at hl 0 rfl) ?_
      refine lv_lload_n hx hb d_Mt_floorMod_22 rfl (lv_at hl 2 rfl) ?_
      refine lv_ladd hx hb d_Mt_floorMod_23 ?_
      have hP : va_P G.1 CL ([]) H := hP
      have hD : va_D A ([]) := hD
      exact W.lret (v := ((a0 - a0 / a1 * a1) + a1)) hx hb hr (fun t ht hW => ⟨⟨((a0 - a0 / a1 * a1) + a1), (), rfl, h, by rw [ht]; exact hP, va_K.moved hW.alike hK, hD⟩, hS.F ht⟩) hS.2.2 d_Mt_floorMod_24
abbrev b_Ig_bitCount : ByteArray := prog_15_method_49_code
def y_Ig_bitCount : MethodName := ⟨R_Ig, "bitCount", "(I)I"⟩
abbrev w_Ig_bitCount : List Cond := Cond.code y_Ig_bitCount b_Ig_bitCount 1 (some .int) :: gw_tbl
theorem d_Ig_bitCount_0 : decode b_Ig_bitCount 0 = .ok (.iload_n 0, 1) := by decide +kernel
theorem d_Ig_bitCount_1 : decode b_Ig_bitCount 1 = .ok (.iload_n 0, 1) := by decide +kernel
theorem d_Ig_bitCount_2 : decode b_Ig_bitCount 2 = .ok (.iconst 1, 1) := by decide +kernel
theorem d_Ig_bitCount_3 : decode b_Ig_bitCount 3 = .ok (.iushr, 1) := by decide +kernel
theorem d_Ig_bitCount_4 : decode b_Ig_bitCount 4 = .ok (.ldc_w 265, 3) := by decide +kernel
theorem d_Ig_bitCount_7 : decode b_Ig_bitCount 7 = .ok (.iand, 1) := by decide +kernel
theorem d_Ig_bitCount_8 : decode b_Ig_bitCount 8 = .ok (.isub, 1) := by decide +kernel
theorem d_Ig_bitCount_9 : decode b_Ig_bitCount 9 = .ok (.istore_n 0, 1) := by decide +kernel
theorem d_Ig_bitCount_10 : decode b_Ig_bitCount 10 = .ok (.iload_n 0, 1) := by decide +kernel
theorem d_Ig_bitCount_11 : decode b_Ig_bitCount 11 = .ok (.ldc_w 266, 3) := by decide +kernel
theorem d_Ig_bitCount_14 : decode b_Ig_bitCount 14 = .ok (.iand, 1) := by decide +kernel
theorem d_Ig_bitCount_15 : decode b_Ig_bitCount 15 = .ok (.iload_n 0, 1) := by decide +kernel
theorem d_Ig_bitCount_16 : decode b_Ig_bitCount 16 = .ok (.iconst 2, 1) := by decide +kernel
theorem d_Ig_bitCount_17 : decode b_Ig_bitCount 17 = .ok (.iushr, 1) := by decide +kernel
theorem d_Ig_bitCount_18 : decode b_Ig_bitCount 18 = .ok (.ldc_w 266, 3) := by decide +kernel
theorem d_Ig_bitCount_21 : decode b_Ig_bitCount 21 = .ok (.iand, 1) := by decide +kernel
theorem d_Ig_bitCount_22 : decode b_Ig_bitCount 22 = .ok (.iadd, 1) := by decide +kernel
theorem d_Ig_bitCount_23 : decode b_Ig_bitCount 23 = .ok (.istore_n 0, 1) := by decide +kernel
theorem d_Ig_bitCount_24 : decode b_Ig_bitCount 24 = .ok (.iload_n 0, 1) := by decide +kernel
theorem d_Ig_bitCount_25 : decode b_Ig_bitCount 25 = .ok (.iload_n 0, 1) := by decide +kernel
theorem d_Ig_bitCount_26 : decode b_Ig_bitCount 26 = .ok (.iconst 4, 1) := by decide +kernel
theorem d_Ig_bitCount_27 : decode b_Ig_bitCount 27 = .ok (.iushr, 1) := by decide +kernel
theorem d_Ig_bitCount_28 : decode b_Ig_bitCount 28 = .ok (.iadd, 1) := by decide +kernel
theorem d_Ig_bitCount_29 : decode b_Ig_bitCount 29 = .ok (.ldc_w 267, 3) := by decide +kernel
theorem d_Ig_bitCount_32 : decode b_Ig_bitCount 32 = .ok (.iand, 1) := by decide +kernel
theorem d_Ig_bitCount_33 : decode b_Ig_bitCount 33 = .ok (.istore_n 0, 1) := by decide +kernel
theorem d_Ig_bitCount_34 : decode b_Ig_bitCount 34 = .ok (.iload_n 0, 1) := by decide +kernel
theorem d_Ig_bitCount_35 : decode b_Ig_bitCount 35 = .ok (.iload_n 0, 1) := by decide +kernel
theorem d_Ig_bitCount_36 : decode b_Ig_bitCount 36 = .ok (.bipush 8, 2) := by decide +kernel
theorem d_Ig_bitCount_38 : decode b_Ig_bitCount 38 = .ok (.iushr, 1) := by decide +kernel
theorem d_Ig_bitCount_39 : decode b_Ig_bitCount 39 = .ok (.iadd, 1) := by decide +kernel
theorem d_Ig_bitCount_40 : decode b_Ig_bitCount 40 = .ok (.istore_n 0, 1) := by decide +kernel
theorem d_Ig_bitCount_41 : decode b_Ig_bitCount 41 = .ok (.iload_n 0, 1) := by decide +kernel
theorem d_Ig_bitCount_42 : decode b_Ig_bitCount 42 = .ok (.iload_n 0, 1) := by decide +kernel
theorem d_Ig_bitCount_43 : decode b_Ig_bitCount 43 = .ok (.bipush 16, 2) := by decide +kernel
theorem d_Ig_bitCount_45 : decode b_Ig_bitCount 45 = .ok (.iushr, 1) := by decide +kernel
theorem d_Ig_bitCount_46 : decode b_Ig_bitCount 46 = .ok (.iadd, 1) := by decide +kernel
theorem d_Ig_bitCount_47 : decode b_Ig_bitCount 47 = .ok (.istore_n 0, 1) := by decide +kernel
theorem d_Ig_bitCount_48 : decode b_Ig_bitCount 48 = .ok (.iload_n 0, 1) := by decide +kernel
theorem d_Ig_bitCount_49 : decode b_Ig_bitCount 49 = .ok (.bipush 63, 2) := by decide +kernel
theorem d_Ig_bitCount_51 : decode b_Ig_bitCount 51 = .ok (.iand, 1) := by decide +kernel
theorem d_Ig_bitCount_52 : decode b_Ig_bitCount 52 = .ok (.ireturn, 1) := by decide +kernel
theorem wc_Ig_265 : Cond.constant R_Ig 265 (1431655765) ∈ gw_tbl := gw_tb (List.mem_of_getElem? (i := 811) (by decide +kernel)) rfl
theorem wc_Ig_266 : Cond.constant R_Ig 266 (858993459) ∈ gw_tbl := gw_tb (List.mem_of_getElem? (i := 812) (by decide +kernel)) rfl
theorem wc_Ig_267 : Cond.constant R_Ig 267 (252645135) ∈ gw_tbl := gw_tb (List.mem_of_getElem? (i := 813) (by decide +kernel)) rfl
def f_Ig_bitCount (a0 : Int32) (Q : Int32 → Prop) : Prop := ∀ y1 : Int32, y1 = ((a0.toUInt32 >>> ((1 : Int32).toUInt32 &&& Int32.toUInt32 31)).toInt32) → (∀ y2 : Int32, y2 = ((a0 - (y1 &&& (1431655765 : Int32))) &&& (858993459 : Int32)) → (∀ y3 : Int32, y3 = (((a0 - (y1 &&& (1431655765 : Int32))).toUInt32 >>> ((2 : Int32).toUInt32 &&& Int32.toUInt32 31)).toInt32) → (∀ y4 : Int32, y4 = (((y2 + (y3 &&& (858993459 : Int32))).toUInt32 >>> ((4 : Int32).toUInt32 &&& Int32.toUInt32 31)).toInt32) → (∀ y5 : Int32, y5 = (((y2 + (y3 &&& (858993459 : Int32))) + y4) &&& (252645135 : Int32)) → (∀ y6 : Int32, y6 = ((y5.toUInt32 >>> ((8 : Int32).toUInt32 &&& Int32.toUInt32 31)).toInt32) → (∀ y7 : Int32, y7 = (((y5 + y6).toUInt32 >>> ((16 : Int32).toUInt32 &&& Int32.toUInt32 31)).toInt32) → (Q (((y5 + y6) + y7) &&& (63 : Int32)))))))))
abbrev rm_Ig_bitCount : Room := { frames := 0, cells := 0, slots := 0, locals := 0 }
set_option maxHeartbeats 4000000 in
set_option maxRecDepth 100000 in
theorem c_Ig_bitCount {l : Launch} {G : Gl} {a0 : Int32} {Q : Int32 → Prop} (sz : Nat) (h : f_Ig_bitCount a0 Q) : Met l y_Ig_bitCount w_Ig_bitCount rm_Ig_bitCount (PcW G [.int a0] sz ([])) (va_Qi (fun (r : Int32) (u : Unit) => Q r) (fun (u : Unit) t => BW G (va_A ([]) sz) ([]) t) (va_A ([]) sz)) 0 0 (va_A ([]) sz) := by
  refine Met.ofW (cc := b_Ig_bitCount) (maxL := 1) (ret := (some .int)) (by decide +kernel) rfl ?_
  intro p e s m args below meth c s₁ B hml hv
  obtain ⟨rfl, hsz, hP, hK, hD0, hE⟩ := hv
  have hx := B.exec
  have hb := B.bytes
  have hr := B.returns
  have hts0 := atoms_spec (ws := w_Ig_bitCount) B.pre
  have hts : ∀ w ∈ gw_tbl, w.before ([.int a0]).toArray s = true := fun w hw => hts0 w (List.mem_cons_of_mem _ hw)
  have hown : s.vm.findClass R_Ig = some m.cls := findClass_of_methodNamed B.named
  have hlocks := B.notSynchronized
  subst hsz
  have hD := hD0.self (sz := s.heap.size)
  generalize hAe : va_A ([]) s.heap.size = A at hD hE ⊢
  have hA : ∀ q : Nat, s.heap.size ≤ q → A q := fun q h => by rw [← hAe]; exact Or.inr h
  have hS : va_S A s.heap s.heap [] := va_S.rf
  have C : Cx p s m ([.int a0]).toArray meth c R_Ig b_Ig_bitCount 1 (some .int) G A := ⟨hx, hb, hml, hown, hr, hts, hK, hA, hlocks, hE⟩
  have hl := lv_entry ([.int a0]) (n := 1) (Nat.le_of_ble_eq_true rfl)
  rw [lg_entry_eq]
  generalize (lg_sl ([.int a0]) ++ List.replicate (1 - (lg_sl ([.int a0])).length) Slot.unset).toArray = ls at hl ⊢
  have hl : lv_has ls 1 [(0, .int a0)] := hl
  have hD : va_D A [] := hD
  unfold f_Ig_bitCount at h
  suffices key : ∀ (H : Heap) (locs : List Loc), va_P G.1 CL [] H → va_S A s.heap H locs → W p l e rm_Ig_bitCount s m ([.int a0]).toArray below meth c H locs 0 0 (MQ below (va_Qi (fun (r : Int32) (u : Unit) => Q r) (fun (u : Unit) t => BW G A ([]) t) A) ([.int a0]).toArray s 0 0 A) (F0 m 0 ls []) from key s.heap [] hP hS
  intro H locs hP hS
  refine lv_iload_n hx hb d_Ig_bitCount_0 rfl (lv_at hl 0 rfl) ?_
  refine lv_iload_n hx hb d_Ig_bitCount_1 rfl (lv_at hl 0 rfl) ?_
  refine lv_iconst (v := (1 : Int32)) hx hb d_Ig_bitCount_2 (by decide) ?_
  refine lv_iushr (v := ((a0.toUInt32 >>> ((1 : Int32).toUInt32 &&& Int32.toUInt32 31)).toInt32)) hx hb d_Ig_bitCount_3 rfl ?_
  refine lv_topi (fun y1 ey1 => ?_)
  have h := h y1 ey1
  refine lv_ldcw hx hb hown (hts _ wc_Ig_265) d_Ig_bitCount_4 ?_
  refine lv_iand hx hb d_Ig_bitCount_7 ?_
  refine lv_isub hx hb d_Ig_bitCount_8 ?_
  refine lv_istore_n (lv' := [(0, .int (a0 - (y1 &&& (1431655765 : Int32))))]) hx hb d_Ig_bitCount_9 rfl hl (by decide) rfl (fun ls hl => ?_)
  refine lv_iload_n hx hb d_Ig_bitCount_10 rfl (lv_at hl 0 rfl) ?_
  refine lv_ldcw hx hb hown (hts _ wc_Ig_266) d_Ig_bitCount_11 ?_
  refine lv_iand hx hb d_Ig_bitCount_14 ?_
  refine lv_topi (fun y2 ey2 => ?_)
  have h := h y2 ey2
  refine lv_iload_n hx hb d_Ig_bitCount_15 rfl (lv_at hl 0 rfl) ?_
  refine lv_iconst (v := (2 : Int32)) hx hb d_Ig_bitCount_16 (by decide) ?_
  refine lv_iushr (v := (((a0 - (y1 &&& (1431655765 : Int32))).toUInt32 >>> ((2 : Int32).toUInt32 &&& Int32.toUInt32 31)).toInt32)) hx hb d_Ig_bitCount_17 rfl ?_
  refine lv_topi (fun y3 ey3 => ?_)
  have h := h y3 ey3
  refine lv_ldcw hx hb hown (hts _ wc_Ig_266) d_Ig_bitCount_18 ?_
  refine lv_iand hx hb d_Ig_bitCount_21 ?_
  refine lv_iadd hx hb d_Ig_bitCount_22 ?_
  refine lv_istore_n (lv' := [(0, .int (y2 + (y3 &&& (858993459 : Int32))))]) hx hb d_Ig_bitCount_23 rfl hl (by decide) rfl (fun ls hl => ?_)
  refine lv_iload_n hx hb d_Ig_bitCount_24 rfl (lv_at hl 0 rfl) ?_
  refine lv_iload_n hx hb d_Ig_bitCount_25 rfl (lv_at hl 0 rfl) ?_
  refine lv_iconst (v := (4 : Int32)) hx hb d_Ig_bitCount_26 (by decide) ?_
  refine lv_iushr (v := (((y2 + (y3 &&& (858993459 : Int32))).toUInt32 >>> ((4 : Int32).toUInt32 &&& Int32.toUInt32 31)).toInt32)) hx hb d_Ig_bitCount_27 rfl ?_
  refine lv_topi (fun y4 ey4 => ?_)
  have h := h y4 ey4
  refine lv_iadd hx hb d_Ig_bitCount_28 ?_
  refine lv_ldcw hx hb hown (hts _ wc_Ig_267) d_Ig_bitCount_29 ?_
  refine lv_iand hx hb d_Ig_bitCount_32 ?_
  refine lv_topi (fun y5 ey5 => ?_)
  have h := h y5 ey5
  refine lv_istore_n (lv' := [(0, .int y5)]) hx hb d_Ig_bitCount_33 rfl hl (by decide) rfl (fun ls hl => ?_)
  refine lv_iload_n hx hb d_Ig_bitCount_34 rfl (lv_at hl 0 rfl) ?_
  refine lv_iload_n hx hb d_Ig_bitCount_35 rfl (lv_at hl 0 rfl) ?_
  refine lv_bipush (v := (8 : Int32)) hx hb d_Ig_bitCount_36 (by decide) ?_
  refine lv_iushr (v := ((y5.toUInt32 >>> ((8 : Int32).toUInt32 &&& Int32.toUInt32 31)).toInt32)) hx hb d_Ig_bitCount_38 rfl ?_
  refine lv_topi (fun y6 ey6 => ?_)
  have h := h y6 ey6
  refine lv_iadd hx hb d_Ig_bitCount_39 ?_
  refine lv_istore_n (lv' := [(0, .int (y5 + y6))]) hx hb d_Ig_bitCount_40 rfl hl (by decide) rfl (fun ls hl => ?_)
  refine lv_iload_n hx hb d_Ig_bitCount_41 rfl (lv_at hl 0 rfl) ?_
  refine lv_iload_n hx hb d_Ig_bitCount_42 rfl (lv_at hl 0 rfl) ?_
  refine lv_bipush (v := (16 : Int32)) hx hb d_Ig_bitCount_43 (by decide) ?_
  refine lv_iushr (v := (((y5 + y6).toUInt32 >>> ((16 : Int32).toUInt32 &&& Int32.toUInt32 31)).toInt32)) hx hb d_Ig_bitCount_45 rfl ?_
  refine lv_topi (fun y7 ey7 => ?_)
  have h := h y7 ey7
  refine lv_iadd hx hb d_Ig_bitCount_46 ?_
  refine lv_istore_n (lv' := [(0, .int ((y5 + y6) + y7))]) hx hb d_Ig_bitCount_47 rfl hl (by decide) rfl (fun ls hl => ?_)
  refine lv_iload_n hx hb d_Ig_bitCount_48 rfl (lv_at hl 0 rfl) ?_
  refine lv_bipush (v := (63 : Int32)) hx hb d_Ig_bitCount_49 (by decide) ?_
  refine lv_iand hx hb d_Ig_bitCount_51 ?_
  have hP : va_P G.1 CL ([]) H := hP
  have hD : va_D A ([]) := hD
  exact W.iret (v := (((y5 + y6) + y7) &&& (63 : Int32))) hx hb hr (fun t ht hW => ⟨⟨(((y5 + y6) + y7) &&& (63 : Int32)), (), rfl, h, by rw [ht]; exact hP, va_K.moved hW.alike hK, hD⟩, hS.F ht⟩) hS.2.2 d_Ig_bitCount_52
abbrev b_Fo_copy : ByteArray := prog_2_method_2_code
def y_Fo_copy : MethodName := ⟨R_Fo, "copy", "(LPipeVoice$Folds;)V"⟩
abbrev w_Fo_copy : List Cond := Cond.code y_Fo_copy b_Fo_copy 2 none :: gw_tbl
theorem d_Fo_copy_0 : decode b_Fo_copy 0 = .ok (.aload_n 0, 1) := by decide +kernel
theorem d_Fo_copy_1 : decode b_Fo_copy 1 = .ok (.aload_n 1, 1) := by decide +kernel
theorem d_Fo_copy_2 : decode b_Fo_copy 2 = .ok (.getfield 11, 3) := by decide +kernel
theorem d_Fo_copy_5 : decode b_Fo_copy 5 = .ok (.putfield 11, 3) := by decide +kernel
theorem d_Fo_copy_8 : decode b_Fo_copy 8 = .ok (.aload_n 0, 1) := by decide +kernel
theorem d_Fo_copy_9 : decode b_Fo_copy 9 = .ok (.aload_n 1, 1) := by decide +kernel
theorem d_Fo_copy_10 : decode b_Fo_copy 10 = .ok (.getfield 21, 3) := by decide +kernel
theorem d_Fo_copy_13 : decode b_Fo_copy 13 = .ok (.putfield 21, 3) := by decide +kernel
theorem d_Fo_copy_16 : decode b_Fo_copy 16 = .ok (.aload_n 0, 1) := by decide +kernel
theorem d_Fo_copy_17 : decode b_Fo_copy 17 = .ok (.aload_n 1, 1) := by decide +kernel
theorem d_Fo_copy_18 : decode b_Fo_copy 18 = .ok (.getfield 24, 3) := by decide +kernel
theorem d_Fo_copy_21 : decode b_Fo_copy 21 = .ok (.putfield 24, 3) := by decide +kernel
theorem d_Fo_copy_24 : decode b_Fo_copy 24 = .ok (.aload_n 0, 1) := by decide +kernel
theorem d_Fo_copy_25 : decode b_Fo_copy 25 = .ok (.aload_n 1, 1) := by decide +kernel
theorem d_Fo_copy_26 : decode b_Fo_copy 26 = .ok (.getfield 15, 3) := by decide +kernel
theorem d_Fo_copy_29 : decode b_Fo_copy 29 = .ok (.putfield 15, 3) := by decide +kernel
theorem d_Fo_copy_32 : decode b_Fo_copy 32 = .ok (.aload_n 0, 1) := by decide +kernel
theorem d_Fo_copy_33 : decode b_Fo_copy 33 = .ok (.aload_n 1, 1) := by decide +kernel
theorem d_Fo_copy_34 : decode b_Fo_copy 34 = .ok (.getfield 18, 3) := by decide +kernel
theorem d_Fo_copy_37 : decode b_Fo_copy 37 = .ok (.putfield 18, 3) := by decide +kernel
theorem d_Fo_copy_40 : decode b_Fo_copy 40 = .ok (.aload_n 0, 1) := by decide +kernel
theorem d_Fo_copy_41 : decode b_Fo_copy 41 = .ok (.aload_n 1, 1) := by decide +kernel
theorem d_Fo_copy_42 : decode b_Fo_copy 42 = .ok (.getfield 27, 3) := by decide +kernel
theorem d_Fo_copy_45 : decode b_Fo_copy 45 = .ok (.putfield 27, 3) := by decide +kernel
theorem d_Fo_copy_48 : decode b_Fo_copy 48 = .ok (.aload_n 0, 1) := by decide +kernel
theorem d_Fo_copy_49 : decode b_Fo_copy 49 = .ok (.aload_n 1, 1) := by decide +kernel
theorem d_Fo_copy_50 : decode b_Fo_copy 50 = .ok (.getfield 30, 3) := by decide +kernel
theorem d_Fo_copy_53 : decode b_Fo_copy 53 = .ok (.putfield 30, 3) := by decide +kernel
theorem d_Fo_copy_56 : decode b_Fo_copy 56 = .ok (.return_, 1) := by decide +kernel
theorem wf_Fo_11 : Cond.fieldLink R_Fo 11 R_Fo "gap" "I" ∈ gw_tbl := gw_tb (List.mem_of_getElem? (i := 201) (by decide +kernel)) rfl
theorem wf_Fo_21 : Cond.fieldLink R_Fo 21 R_Fo "pace" "I" ∈ gw_tbl := gw_tb (List.mem_of_getElem? (i := 203) (by decide +kernel)) rfl
theorem wf_Fo_24 : Cond.fieldLink R_Fo 24 R_Fo "breath" "I" ∈ gw_tbl := gw_tb (List.mem_of_getElem? (i := 205) (by decide +kernel)) rfl
theorem wf_Fo_15 : Cond.fieldLink R_Fo 15 R_Fo "stiff" "I" ∈ gw_tbl := gw_tb (List.mem_of_getElem? (i := 207) (by decide +kernel)) rfl
theorem wf_Fo_18 : Cond.fieldLink R_Fo 18 R_Fo "weight" "I" ∈ gw_tbl := gw_tb (List.mem_of_getElem? (i := 209) (by decide +kernel)) rfl
theorem wf_Fo_27 : Cond.fieldLink R_Fo 27 R_Fo "strain" "I" ∈ gw_tbl := gw_tb (List.mem_of_getElem? (i := 211) (by decide +kernel)) rfl
theorem wf_Fo_30 : Cond.fieldLink R_Fo 30 R_Fo "met" "I" ∈ gw_tbl := gw_tb (List.mem_of_getElem? (i := 214) (by decide +kernel)) rfl
def f_Fo_copy (o0 : Ob) (o1 : Ob) (Q : Ob → Prop) : Prop := Q (sI (sI (sI (sI (sI (sI (sI o0 0 (gI o1 0)) 1 (gI o1 1)) 2 (gI o1 2)) 3 (gI o1 3)) 4 (gI o1 4)) 5 (gI o1 5)) 6 (gI o1 6))
abbrev rm_Fo_copy : Room := { frames := 0, cells := 0, slots := 0, locals := 0 }
set_option maxHeartbeats 4000000 in
set_option maxRecDepth 100000 in
theorem c_Fo_copy {l : Launch} {G : Gl} {h0 : Nat} {h1 : Nat} {q0 : Nat → Nat} {q1 : Nat → Nat} {o0 : Ob} {o1 : Ob} {Q : Ob → Prop} (sz : Nat) (h : f_Fo_copy o0 o1 Q) : Met l y_Fo_copy w_Fo_copy rm_Fo_copy (PcW G [.ref h0, .ref h1] sz (cw_Fo G h0 q0 o0 ++ (cw_Fo G h1 q1 o1))) (va_Qv (fun (u : Ob) => Q u) (fun (u : Ob) t => BW G (va_A (cw_Fo G h0 q0 o0 ++ (cw_Fo G h1 q1 o1)) sz) (cw_Fo G h0 q0 u ++ (cw_Fo G h1 q1 o1)) t) (va_A (cw_Fo G h0 q0 o0 ++ (cw_Fo G h1 q1 o1)) sz)) 0 0 (va_A (cw_Fo G h0 q0 o0 ++ (cw_Fo G h1 q1 o1)) sz) := by
  refine Met.ofW (cc := b_Fo_copy) (maxL := 2) (ret := none) (by decide +kernel) rfl ?_
  intro p e s m args below meth c s₁ B hml hv
  obtain ⟨rfl, hsz, hP, hK, hD0, hE⟩ := hv
  have hx := B.exec
  have hb := B.bytes
  have hr := B.returns
  have hts0 := atoms_spec (ws := w_Fo_copy) B.pre
  have hts : ∀ w ∈ gw_tbl, w.before ([.ref h0, .ref h1]).toArray s = true := fun w hw => hts0 w (List.mem_cons_of_mem _ hw)
  have hown : s.vm.findClass R_Fo = some m.cls := findClass_of_methodNamed B.named
  have hlocks := B.notSynchronized
  subst hsz
  have hD := hD0.self (sz := s.heap.size)
  generalize hAe : va_A (cw_Fo G h0 q0 o0 ++ (cw_Fo G h1 q1 o1)) s.heap.size = A at hD hE ⊢
  have hA : ∀ q : Nat, s.heap.size ≤ q → A q := fun q h => by rw [← hAe]; exact Or.inr h
  have hS : va_S A s.heap s.heap [] := va_S.rf
  have C : Cx p s m ([.ref h0, .ref h1]).toArray meth c R_Fo b_Fo_copy 2 none G A := ⟨hx, hb, hml, hown, hr, hts, hK, hA, hlocks, hE⟩
  have hl := lv_entry ([.ref h0, .ref h1]) (n := 2) (Nat.le_of_ble_eq_true rfl)
  rw [lg_entry_eq]
  generalize (lg_sl ([.ref h0, .ref h1]) ++ List.replicate (2 - (lg_sl ([.ref h0, .ref h1])).length) Slot.unset).toArray = ls at hl ⊢
  have hl : lv_has ls 2 [(0, .ref h0), (1, .ref h1)] := hl
  have hD : va_D A [(h0, .inr (1, [.int (gI o0 0), .int (gI o0 1), .int (gI o0 2), .int (gI o0 3), .int (gI o0 4), .int (gI o0 5), .int (gI o0 6)])), (h1, .inr (1, [.int (gI o1 0), .int (gI o1 1), .int (gI o1 2), .int (gI o1 3), .int (gI o1 4), .int (gI o1 5), .int (gI o1 6)]))] := hD
  unfold f_Fo_copy at h
  suffices key : ∀ (H : Heap) (locs : List Loc), va_P G.1 CL [(h0, .inr (1, [.int (gI o0 0), .int (gI o0 1), .int (gI o0 2), .int (gI o0 3), .int (gI o0 4), .int (gI o0 5), .int (gI o0 6)])), (h1, .inr (1, [.int (gI o1 0), .int (gI o1 1), .int (gI o1 2), .int (gI o1 3), .int (gI o1 4), .int (gI o1 5), .int (gI o1 6)]))] H → va_S A s.heap H locs → W p l e rm_Fo_copy s m ([.ref h0, .ref h1]).toArray below meth c H locs 0 0 (MQ below (va_Qv (fun (u : Ob) => Q u) (fun (u : Ob) t => BW G A (cw_Fo G h0 q0 u ++ (cw_Fo G h1 q1 o1)) t) A) ([.ref h0, .ref h1]).toArray s 0 0 A) (F0 m 0 ls []) from key s.heap [] hP hS
  intro H locs hP hS
  refine lv_aload_n hx hb d_Fo_copy_0 rfl (lv_at hl 0 rfl) ?_
  refine lv_aload_n hx hb d_Fo_copy_1 rfl (lv_at hl 1 rfl) ?_
  refine va_get (D := G.1) (ci := 1) (v := .int (gI o1 0)) (C := R_Fo) (T := T_Fo) (N := 7) hx hb hts i_Fo hown hK hP 1 rfl rfl 0 (by decide) (hts _ wf_Fo_11) (fun _ h9 => h9) rfl d_Fo_copy_2 ?_
  refine va_put (D := G.1) (ci := 1) (v := .int (gI o1 0)) (ty := .int) (C := R_Fo) (T := T_Fo) (N := 7) hx hb hts i_Fo ty_Fo ty_Fo_ok nm_Fo hown hK hP hD hS 0 rfl rfl 0 (by decide) (hts _ wf_Fo_11) (fun _ h9 => h9) rfl (ty_Fo_ok 0 (by decide)) rfl rfl (Nat.le_of_ble_eq_true rfl) d_Fo_copy_5 (fun H locs hP hD hS => ?_)
  have hP : va_P G.1 CL [(h0, .inr (1, [.int (gI o1 0), .int (gI o0 1), .int (gI o0 2), .int (gI o0 3), .int (gI o0 4), .int (gI o0 5), .int (gI o0 6)])), (h1, .inr (1, [.int (gI o1 0), .int (gI o1 1), .int (gI o1 2), .int (gI o1 3), .int (gI o1 4), .int (gI o1 5), .int (gI o1 6)]))] H := hP
  have hD : va_D A [(h0, .inr (1, [.int (gI o1 0), .int (gI o0 1), .int (gI o0 2), .int (gI o0 3), .int (gI o0 4), .int (gI o0 5), .int (gI o0 6)])), (h1, .inr (1, [.int (gI o1 0), .int (gI o1 1), .int (gI o1 2), .int (gI o1 3), .int (gI o1 4), .int (gI o1 5), .int (gI o1 6)]))] := hD
  refine lv_aload_n hx hb d_Fo_copy_8 rfl (lv_at hl 0 rfl) ?_
  refine lv_aload_n hx hb d_Fo_copy_9 rfl (lv_at hl 1 rfl) ?_
  refine va_get (D := G.1) (ci := 1) (v := .int (gI o1 1)) (C := R_Fo) (T := T_Fo) (N := 7) hx hb hts i_Fo hown hK hP 1 rfl rfl 1 (by decide) (hts _ wf_Fo_21) (fun _ h9 => h9) rfl d_Fo_copy_10 ?_
  refine va_put (D := G.1) (ci := 1) (v := .int (gI o1 1)) (ty := .int) (C := R_Fo) (T := T_Fo) (N := 7) hx hb hts i_Fo ty_Fo ty_Fo_ok nm_Fo hown hK hP hD hS 0 rfl rfl 1 (by decide) (hts _ wf_Fo_21) (fun _ h9 => h9) rfl (ty_Fo_ok 1 (by decide)) rfl rfl (Nat.le_of_ble_eq_true rfl) d_Fo_copy_13 (fun H locs hP hD hS => ?_)
  have hP : va_P G.1 CL [(h0, .inr (1, [.int (gI o1 0), .int (gI o1 1), .int (gI o0 2), .int (gI o0 3), .int (gI o0 4), .int (gI o0 5), .int (gI o0 6)])), (h1, .inr (1, [.int (gI o1 0), .int (gI o1 1), .int (gI o1 2), .int (gI o1 3), .int (gI o1 4), .int (gI o1 5), .int (gI o1 6)]))] H := hP
  have hD : va_D A [(h0, .inr (1, [.int (gI o1 0), .int (gI o1 1), .int (gI o0 2), .int (gI o0 3), .int (gI o0 4), .int (gI o0 5), .int (gI o0 6)])), (h1, .inr (1, [.int (gI o1 0), .int (gI o1 1), .int (gI o1 2), .int (gI o1 3), .int (gI o1 4), .int (gI o1 5), .int (gI o1 6)]))] := hD
  refine lv_aload_n hx hb d_Fo_copy_16 rfl (lv_at hl 0 rfl) ?_
  refine lv_aload_n hx hb d_Fo_copy_17 rfl (lv_at hl 1 rfl) ?_
  refine va_get (D := G.1) (ci := 1) (v := .int (gI o1 2)) (C := R_Fo) (T := T_Fo) (N := 7) hx hb hts i_Fo hown hK hP 1 rfl rfl 2 (by decide) (hts _ wf_Fo_24) (fun _ h9 => h9) rfl d_Fo_copy_18 ?_
  refine va_put (D := G.1) (ci := 1) (v := .int (gI o1 2)) (ty := .int) (C := R_Fo) (T := T_Fo) (N := 7) hx hb hts i_Fo ty_Fo ty_Fo_ok nm_Fo hown hK hP hD hS 0 rfl rfl 2 (by decide) (hts _ wf_Fo_24) (fun _ h9 => h9) rfl (ty_Fo_ok 2 (by decide)) rfl rfl (Nat.le_of_ble_eq_true rfl) d_Fo_copy_21 (fun H locs hP hD hS => ?_)
  have hP : va_P G.1 CL [(h0, .inr (1, [.int (gI o1 0), .int (gI o1 1), .int (gI o1 2), .int (gI o0 3), .int (gI o0 4), .int (gI o0 5), .int (gI o0 6)])), (h1, .inr (1, [.int (gI o1 0), .int (gI o1 1), .int (gI o1 2), .int (gI o1 3), .int (gI o1 4), .int (gI o1 5), .int (gI o1 6)]))] H := hP
  have hD : va_D A [(h0, .inr (1, [.int (gI o1 0), .int (gI o1 1), .int (gI o1 2), .int (gI o0 3), .int (gI o0 4), .int (gI o0 5), .int (gI o0 6)])), (h1, .inr (1, [.int (gI o1 0), .int (gI o1 1), .int (gI o1 2), .int (gI o1 3), .int (gI o1 4), .int (gI o1 5), .int (gI o1 6)]))] := hD
  refine lv_aload_n hx hb d_Fo_copy_24 rfl (lv_at hl 0 rfl) ?_
  refine lv_aload_n hx hb d_Fo_copy_25 rfl (lv_at hl 1 rfl) ?_
  refine va_get (D := G.1) (ci := 1) (v := .int (gI o1 3)) (C := R_Fo) (T := T_Fo) (N := 7) hx hb hts i_Fo hown hK hP 1 rfl rfl 3 (by decide) (hts _ wf_Fo_15) (fun _ h9 => h9) rfl d_Fo_copy_26 ?_
  refine va_put (D := G.1) (ci := 1) (v := .int (gI o1 3)) (ty := .int) (C := R_Fo) (T := T_Fo) (N := 7) hx hb hts i_Fo ty_Fo ty_Fo_ok nm_Fo hown hK hP hD hS 0 rfl rfl 3 (by decide) (hts _ wf_Fo_15) (fun _ h9 => h9) rfl (ty_Fo_ok 3 (by decide)) rfl rfl (Nat.le_of_ble_eq_true rfl) d_Fo_copy_29 (fun H locs hP hD hS => ?_)
  have hP : va_P G.1 CL [(h0, .inr (1, [.int (gI o1 0), .int (gI o1 1), .int (gI o1 2), .int (gI o1 3), .int (gI o0 4), .int (gI o0 5), .int (gI o0 6)])), (h1, .inr (1, [.int (gI o1 0), .int (gI o1 1), .int (gI o1 2), .int (gI o1 3), .int (gI o1 4), .int (gI o1 5), .int (gI o1 6)]))] H := hP
  have hD : va_D A [(h0, .inr (1, [.int (gI o1 0), .int (gI o1 1), .int (gI o1 2), .int (gI o1 3), .int (gI o0 4), .int (gI o0 5), .int (gI o0 6)])), (h1, .inr (1, [.int (gI o1 0), .int (gI o1 1), .int (gI o1 2), .int (gI o1 3), .int (gI o1 4), .int (gI o1 5), .int (gI o1 6)]))] := hD
  refine lv_aload_n hx hb d_Fo_copy_32 rfl (lv_at hl 0 rfl) ?_
  refine lv_aload_n hx hb d_Fo_copy_33 rfl (lv_at hl 1 rfl) ?_
  refine va_get (D := G.1) (ci := 1) (v := .int (gI o1 4)) (C := R_Fo) (T := T_Fo) (N := 7) hx hb hts i_Fo hown hK hP 1 rfl rfl 4 (by decide) (hts _ wf_Fo_18) (fun _ h9 => h9) rfl d_Fo_copy_34 ?_
  refine va_put (D := G.1) (ci := 1) (v := .int (gI o1 4)) (ty := .int) (C := R_Fo) (T := T_Fo) (N := 7) hx hb hts i_Fo ty_Fo ty_Fo_ok nm_Fo hown hK hP hD hS 0 rfl rfl 4 (by decide) (hts _ wf_Fo_18) (fun _ h9 => h9) rfl (ty_Fo_ok 4 (by decide)) rfl rfl (Nat.le_of_ble_eq_true rfl) d_Fo_copy_37 (fun H locs hP hD hS => ?_)
  have hP : va_P G.1 CL [(h0, .inr (1, [.int (gI o1 0), .int (gI o1 1), .int (gI o1 2), .int (gI o1 3), .int (gI o1 4), .int (gI o0 5), .int (gI o0 6)])), (h1, .inr (1, [.int (gI o1 0), .int (gI o1 1), .int (gI o1 2), .int (gI o1 3), .int (gI o1 4), .int (gI o1 5), .int (gI o1 6)]))] H := hP
  have hD : va_D A [(h0, .inr (1, [.int (gI o1 0), .int (gI o1 1), .int (gI o1 2), .int (gI o1 3), .int (gI o1 4), .int (gI o0 5), .int (gI o0 6)])), (h1, .inr (1, [.int (gI o1 0), .int (gI o1 1), .int (gI o1 2), .int (gI o1 3), .int (gI o1 4), .int (gI o1 5), .int (gI o1 6)]))] := hD
  refine lv_aload_n hx hb d_Fo_copy_40 rfl (lv_at hl 0 rfl) ?_
  refine lv_aload_n hx hb d_Fo_copy_41 rfl (lv_at hl 1 rfl) ?_
  refine va_get (D := G.1) (ci := 1) (v := .int (gI o1 5)) (C := R_Fo) (T := T_Fo) (N := 7) hx hb hts i_Fo hown hK hP 1 rfl rfl 5 (by decide) (hts _ wf_Fo_27) (fun _ h9 => h9) rfl d_Fo_copy_42 ?_
  refine va_put (D := G.1) (ci := 1) (v := .int (gI o1 5)) (ty := .int) (C := R_Fo) (T := T_Fo) (N := 7) hx hb hts i_Fo ty_Fo ty_Fo_ok nm_Fo hown hK hP hD hS 0 rfl rfl 5 (by decide) (hts _ wf_Fo_27) (fun _ h9 => h9) rfl (ty_Fo_ok 5 (by decide)) rfl rfl (Nat.le_of_ble_eq_true rfl) d_Fo_copy_45 (fun H locs hP hD hS => ?_)
  have hP : va_P G.1 CL [(h0, .inr (1, [.int (gI o1 0), .int (gI o1 1), .int (gI o1 2), .int (gI o1 3), .int (gI o1 4), .int (gI o1 5), .int (gI o0 6)])), (h1, .inr (1, [.int (gI o1 0), .int (gI o1 1), .int (gI o1 2), .int (gI o1 3), .int (gI o1 4), .int (gI o1 5), .int (gI o1 6)]))] H := hP
  have hD : va_D A [(h0, .inr (1, [.int (gI o1 0), .int (gI o1 1), .int (gI o1 2), .int (gI o1 3), .int (gI o1 4), .int (gI o1 5), .int (gI o0 6)])), (h1, .inr (1, [.int (gI o1 0), .int (gI o1 1), .int (gI o1 2), .int (gI o1 3), .int (gI o1 4), .int (gI o1 5), .int (gI o1 6)]))] := hD
  refine lv_aload_n hx hb d_Fo_copy_48 rfl (lv_at hl 0 rfl) ?_
  refine lv_aload_n hx hb d_Fo_copy_49 rfl (lv_at hl 1 rfl) ?_
  refine va_get (D := G.1) (ci := 1) (v := .int (gI o1 6)) (C := R_Fo) (T := T_Fo) (N := 7) hx hb hts i_Fo hown hK hP 1 rfl rfl 6 (by decide) (hts _ wf_Fo_30) (fun _ h9 => h9) rfl d_Fo_copy_50 ?_
  refine va_put (D := G.1) (ci := 1) (v := .int (gI o1 6)) (ty := .int) (C := R_Fo) (T := T_Fo) (N := 7) hx hb hts i_Fo ty_Fo ty_Fo_ok nm_Fo hown hK hP hD hS 0 rfl rfl 6 (by decide) (hts _ wf_Fo_30) (fun _ h9 => h9) rfl (ty_Fo_ok 6 (by decide)) rfl rfl (Nat.le_of_ble_eq_true rfl) d_Fo_copy_53 (fun H locs hP hD hS => ?_)
  have hP : va_P G.1 CL [(h0, .inr (1, [.int (gI o1 0), .int (gI o1 1), .int (gI o1 2), .int (gI o1 3), .int (gI o1 4), .int (gI o1 5), .int (gI o1 6)])), (h1, .inr (1, [.int (gI o1 0), .int (gI o1 1), .int (gI o1 2), .int (gI o1 3), .int (gI o1 4), .int (gI o1 5), .int (gI o1 6)]))] H := hP
  have hD : va_D A [(h0, .inr (1, [.int (gI o1 0), .int (gI o1 1), .int (gI o1 2), .int (gI o1 3), .int (gI o1 4), .int (gI o1 5), .int (gI o1 6)])), (h1, .inr (1, [.int (gI o1 0), .int (gI o1 1), .int (gI o1 2), .int (gI o1 3), .int (gI o1 4), .int (gI o1 5), .int (gI o1 6)]))] := hD
  have hP : va_P G.1 CL (cw_Fo G h0 q0 (sI (sI (sI (sI (sI (sI (sI o0 0 (gI o1 0)) 1 (gI o1 1)) 2 (gI o1 2)) 3 (gI o1 3)) 4 (gI o1 4)) 5 (gI o1 5)) 6 (gI o1 6)) ++ (cw_Fo G h1 q1 o1)) H := hP
  have hD : va_D A (cw_Fo G h0 q0 (sI (sI (sI (sI (sI (sI (sI o0 0 (gI o1 0)) 1 (gI o1 1)) 2 (gI o1 2)) 3 (gI o1 3)) 4 (gI o1 4)) 5 (gI o1 5)) 6 (gI o1 6)) ++ (cw_Fo G h1 q1 o1)) := hD
  exact W.vret hx hb hr (fun t ht hW => ⟨⟨(sI (sI (sI (sI (sI (sI (sI o0 0 (gI o1 0)) 1 (gI o1 1)) 2 (gI o1 2)) 3 (gI o1 3)) 4 (gI o1 4)) 5 (gI o1 5)) 6 (gI o1 6)), rfl, h, by rw [ht]; exact hP, va_K.moved hW.alike hK, hD⟩, hS.F ht⟩) hS.2.2 d_Fo_copy_56
abbrev b_Fo_startCount : ByteArray := prog_2_method_4_code
def y_Fo_startCount : MethodName := ⟨R_Fo, "startCount", "()V"⟩
abbrev w_Fo_startCount : List Cond := Cond.code y_Fo_startCount b_Fo_startCount 1 none :: gw_tbl
theorem d_Fo_startCount_0 : decode b_Fo_startCount 0 = .ok (.aload_n 0, 1) := by decide +kernel
theorem d_Fo_startCount_1 : decode b_Fo_startCount 1 = .ok (.iconst 0, 1) := by decide +kernel
theorem d_Fo_startCount_2 : decode b_Fo_startCount 2 = .ok (.putfield 27, 3) := by decide +kernel
theorem d_Fo_startCount_5 : decode b_Fo_startCount 5 = .ok (.aload_n 0, 1) := by decide +kernel
theorem d_Fo_startCount_6 : decode b_Fo_startCount 6 = .ok (.iconst 0, 1) := by decide +kernel
theorem d_Fo_startCount_7 : decode b_Fo_startCount 7 = .ok (.putfield 30, 3) := by decide +kernel
theorem d_Fo_startCount_10 : decode b_Fo_startCount 10 = .ok (.return_, 1) := by decide +kernel
def f_Fo_startCount (o0 : Ob) (Q : Ob → Prop) : Prop := Q (sI (sI o0 5 (0 : Int32)) 6 (0 : Int32))
abbrev rm_Fo_startCount : Room := { frames := 0, cells := 0, slots := 0, locals := 0 }
set_option maxHeartbeats 4000000 in
set_option maxRecDepth 100000 in
theorem c_Fo_startCount {l : Launch} {G : Gl} {h0 : Nat} {q0 : Nat → Nat} {o0 : Ob} {Q : Ob → Prop} (sz : Nat) (h : f_Fo_startCount o0 Q) : Met l y_Fo_startCount w_Fo_startCount rm_Fo_startCount (PcW G [.ref h0] sz (cw_Fo G h0 q0 o0)) (va_Qv (fun (u : Ob) => Q u) (fun (u : Ob) t => BW G (va_A (cw_Fo G h0 q0 o0) sz) (cw_Fo G h0 q0 u) t) (va_A (cw_Fo G h0 q0 o0) sz)) 0 0 (va_A (cw_Fo G h0 q0 o0) sz) := by
  refine Met.ofW (cc := b_Fo_startCount) (maxL := 1) (ret := none) (by decide +kernel) rfl ?_
  intro p e s m args below meth c s₁ B hml hv
  obtain ⟨rfl, hsz, hP, hK, hD0, hE⟩ := hv
  have hx := B.exec
  have hb := B.bytes
  have hr := B.returns
  have hts0 := atoms_spec (ws := w_Fo_startCount) B.pre
  have hts : ∀ w ∈ gw_tbl, w.before ([.ref h0]).toArray s = true := fun w hw => hts0 w (List.mem_cons_of_mem _ hw)
  have hown : s.vm.findClass R_Fo = some m.cls := findClass_of_methodNamed B.named
  have hlocks := B.notSynchronized
  subst hsz
  have hD := hD0.self (sz := s.heap.size)
  generalize hAe : va_A (cw_Fo G h0 q0 o0) s.heap.size = A at hD hE ⊢
  have hA : ∀ q : Nat, s.heap.size ≤ q → A q := fun q h => by rw [← hAe]; exact Or.inr h
  have hS : va_S A s.heap s.heap [] := va_S.rf
  have C : Cx p s m ([.ref h0]).toArray meth c R_Fo b_Fo_startCount 1 none G A := ⟨hx, hb, hml, hown, hr, hts, hK, hA, hlocks, hE⟩
  have hl := lv_entry ([.ref h0]) (n := 1) (Nat.le_of_ble_eq_true rfl)
  rw [lg_entry_eq]
  generalize (lg_sl ([.ref h0]) ++ List.replicate (1 - (lg_sl ([.ref h0])).length) Slot.unset).toArray = ls at hl ⊢
  have hl : lv_has ls 1 [(0, .ref h0)] := hl
  have hD : va_D A [(h0, .inr (1, [.int (gI o0 0), .int (gI o0 1), .int (gI o0 2), .int (gI o0 3), .int (gI o0 4), .int (gI o0 5), .int (gI o0 6)]))] := hD
  unfold f_Fo_startCount at h
  suffices key : ∀ (H : Heap) (locs : List Loc), va_P G.1 CL [(h0, .inr (1, [.int (gI o0 0), .int (gI o0 1), .int (gI o0 2), .int (gI o0 3), .int (gI o0 4), .int (gI o0 5), .int (gI o0 6)]))] H → va_S A s.heap H locs → W p l e rm_Fo_startCount s m ([.ref h0]).toArray below meth c H locs 0 0 (MQ below (va_Qv (fun (u : Ob) => Q u) (fun (u : Ob) t => BW G A (cw_Fo G h0 q0 u) t) A) ([.ref h0]).toArray s 0 0 A) (F0 m 0 ls []) from key s.heap [] hP hS
  intro H locs hP hS
  refine lv_aload_n hx hb d_Fo_startCount_0 rfl (lv_at hl 0 rfl) ?_
  refine lv_iconst (v := (0 : Int32)) hx hb d_Fo_startCount_1 (by decide) ?_
  refine va_put (D := G.1) (ci := 1) (v := .int (0 : Int32)) (ty := .int) (C := R_Fo) (T := T_Fo) (N := 7) hx hb hts i_Fo ty_Fo ty_Fo_ok nm_Fo hown hK hP hD hS 0 rfl rfl 5 (by decide) (hts _ wf_Fo_27) (fun _ h9 => h9) rfl (ty_Fo_ok 5 (by decide)) rfl rfl (Nat.le_of_ble_eq_true rfl) d_Fo_startCount_2 (fun H locs hP hD hS => ?_)
  have hP : va_P G.1 CL [(h0, .inr (1, [.int (gI o0 0), .int (gI o0 1), .int (gI o0 2), .int (gI o0 3), .int (gI o0 4), .int (0 : Int32), .int (gI o0 6)]))] H := hP
  have hD : va_D A [(h0, .inr (1, [.int (gI o0 0), .int (gI o0 1), .int (gI o0 2), .int (gI o0 3), .int (gI o0 4), .int (0 : Int32), .int (gI o0 6)]))] := hD
  refine lv_aload_n hx hb d_Fo_startCount_5 rfl (lv_at hl 0 rfl) ?_
  refine lv_iconst (v := (0 : Int32)) hx hb d_Fo_startCount_6 (by decide) ?_
  refine va_put (D := G.1) (ci := 1) (v := .int (0 : Int32)) (ty := .int) (C := R_Fo) (T := T_Fo) (N := 7) hx hb hts i_Fo ty_Fo ty_Fo_ok nm_Fo hown hK hP hD hS 0 rfl rfl 6 (by decide) (hts _ wf_Fo_30) (fun _ h9 => h9) rfl (ty_Fo_ok 6 (by decide)) rfl rfl (Nat.le_of_ble_eq_true rfl) d_Fo_startCount_7 (fun H locs hP hD hS => ?_)
  have hP : va_P G.1 CL [(h0, .inr (1, [.int (gI o0 0), .int (gI o0 1), .int (gI o0 2), .int (gI o0 3), .int (gI o0 4), .int (0 : Int32), .int (0 : Int32)]))] H := hP
  have hD : va_D A [(h0, .inr (1, [.int (gI o0 0), .int (gI o0 1), .int (gI o0 2), .int (gI o0 3), .int (gI o0 4), .int (0 : Int32), .int (0 : Int32)]))] := hD
  have hP : va_P G.1 CL (cw_Fo G h0 q0 (sI (sI o0 5 (0 : Int32)) 6 (0 : Int32))) H := hP
  have hD : va_D A (cw_Fo G h0 q0 (sI (sI o0 5 (0 : Int32)) 6 (0 : Int32))) := hD
  exact W.vret hx hb hr (fun t ht hW => ⟨⟨(sI (sI o0 5 (0 : Int32)) 6 (0 : Int32)), rfl, h, by rw [ht]; exact hP, va_K.moved hW.alike hK, hD⟩, hS.F ht⟩) hS.2.2 d_Fo_startCount_10
abbrev b_Fo_begin : ByteArray := prog_2_method_3_code
def y_Fo_begin : MethodName := ⟨R_Fo, "begin", "(III)V"⟩
abbrev w_Fo_begin : List Cond := Cond.code y_Fo_begin b_Fo_begin 4 none :: gw_tbl
theorem d_Fo_begin_0 : decode b_Fo_begin 0 = .ok (.aload_n 0, 1) := by decide +kernel
theorem d_Fo_begin_1 : decode b_Fo_begin 1 = .ok (.bipush 10, 2) := by decide +kernel
theorem d_Fo_begin_3 : decode b_Fo_begin 3 = .ok (.putfield 11, 3) := by decide +kernel
theorem d_Fo_begin_6 : decode b_Fo_begin 6 = .ok (.aload_n 0, 1) := by decide +kernel
theorem d_Fo_begin_7 : decode b_Fo_begin 7 = .ok (.iconst 0, 1) := by decide +kernel
theorem d_Fo_begin_8 : decode b_Fo_begin 8 = .ok (.putfield 21, 3) := by decide +kernel
theorem d_Fo_begin_11 : decode b_Fo_begin 11 = .ok (.aload_n 0, 1) := by decide +kernel
theorem d_Fo_begin_12 : decode b_Fo_begin 12 = .ok (.iload_n 1, 1) := by decide +kernel
theorem d_Fo_begin_13 : decode b_Fo_begin 13 = .ok (.putfield 24, 3) := by decide +kernel
theorem d_Fo_begin_16 : decode b_Fo_begin 16 = .ok (.aload_n 0, 1) := by decide +kernel
theorem d_Fo_begin_17 : decode b_Fo_begin 17 = .ok (.iload_n 2, 1) := by decide +kernel
theorem d_Fo_begin_18 : decode b_Fo_begin 18 = .ok (.putfield 15, 3) := by decide +kernel
theorem d_Fo_begin_21 : decode b_Fo_begin 21 = .ok (.aload_n 0, 1) := by decide +kernel
theorem d_Fo_begin_22 : decode b_Fo_begin 22 = .ok (.iload_n 3, 1) := by decide +kernel
theorem d_Fo_begin_23 : decode b_Fo_begin 23 = .ok (.putfield 18, 3) := by decide +kernel
theorem d_Fo_begin_26 : decode b_Fo_begin 26 = .ok (.aload_n 0, 1) := by decide +kernel
theorem d_Fo_begin_27 : decode b_Fo_begin 27 = .ok (.invokevirtual 33, 3) := by decide +kernel
theorem d_Fo_begin_30 : decode b_Fo_begin 30 = .ok (.return_, 1) := by decide +kernel
theorem wv_Fo_33 : wV R_Fo 33 y_Fo_startCount b_Fo_startCount 1 none 0 := ⟨⟨gw_tb (List.mem_of_getElem? (i := 766) (by decide +kernel)) rfl, gw_tb (List.mem_of_getElem? (i := 7) (by decide +kernel)) rfl, gw_tb (List.mem_of_getElem? (i := 769) (by decide +kernel)) rfl, by decide, by decide, by decide +kernel⟩, gw_tb (List.mem_of_getElem? (i := 767) (by decide +kernel)) rfl, gw_tb (List.mem_of_getElem? (i := 768) (by decide +kernel)) rfl⟩
def f_Fo_begin (a0 : Int32) (a1 : Int32) (a2 : Int32) (o0 : Ob) (Q : Ob → Prop) : Prop := f_Fo_startCount (sI (sI (sI (sI (sI o0 0 (10 : Int32)) 1 (0 : Int32)) 2 a0) 3 a1) 4 a2) (fun u1 => Q u1)
abbrev rm_Fo_begin : Room := { frames := 1, cells := 0, slots := 0, locals := 20 }
set_option maxHeartbeats 4000000 in
set_option maxRecDepth 100000 in
theorem c_Fo_begin {l : Launch} {G : Gl} {h0 : Nat} {q0 : Nat → Nat} {a0 : Int32} {a1 : Int32} {a2 : Int32} {o0 : Ob} {Q : Ob → Prop} (sz : Nat) (h : f_Fo_begin a0 a1 a2 o0 Q) : Met l y_Fo_begin w_Fo_begin rm_Fo_begin (PcW G [.ref h0, .int a0, .int a1, .int a2] sz (cw_Fo G h0 q0 o0)) (va_Qv (fun (u : Ob) => Q u) (fun (u : Ob) t => BW G (va_A (cw_Fo G h0 q0 o0) sz) (cw_Fo G h0 q0 u) t) (va_A (cw_Fo G h0 q0 o0) sz)) 0 0 (va_A (cw_Fo G h0 q0 o0) sz) := by
  refine Met.ofW (cc := b_Fo_begin) (maxL := 4) (ret := none) (by decide +kernel) rfl ?_
  intro p e s m args below meth c s₁ B hml hv
  obtain ⟨rfl, hsz, hP, hK, hD0, hE⟩ := hv
  have hx := B.exec
  have hb := B.bytes
  have hr := B.returns
  have hts0 := atoms_spec (ws := w_Fo_begin) B.pre
  have hts : ∀ w ∈ gw_tbl, w.before ([.ref h0, .int a0, .int a1, .int a2]).toArray s = true := fun w hw => hts0 w (List.mem_cons_of_mem _ hw)
  have hown : s.vm.findClass R_Fo = some m.cls := findClass_of_methodNamed B.named
  have hlocks := B.notSynchronized
  subst hsz
  have hD := hD0.self (sz := s.heap.size)
  generalize hAe : va_A (cw_Fo G h0 q0 o0) s.heap.size = A at hD hE ⊢
  have hA : ∀ q : Nat, s.heap.size ≤ q → A q := fun q h => by rw [← hAe]; exact Or.inr h
  have hS : va_S A s.heap s.heap [] := va_S.rf
  have C : Cx p s m ([.ref h0, .int a0, .int a1, .int a2]).toArray meth c R_Fo b_Fo_begin 4 none G A := ⟨hx, hb, hml, hown, hr, hts, hK, hA, hlocks, hE⟩
  have hl := lv_entry ([.ref h0, .int a0, .int a1, .int a2]) (n := 4) (Nat.le_of_ble_eq_true rfl)
  rw [lg_entry_eq]
  generalize (lg_sl ([.ref h0, .int a0, .int a1, .int a2]) ++ List.replicate (4 - (lg_sl ([.ref h0, .int a0, .int a1, .int a2])).length) Slot.unset).toArray = ls at hl ⊢
  have hl : lv_has ls 4 [(0, .ref h0), (1, .int a0), (2, .int a1), (3, .int a2)] := hl
  have hD : va_D A [(h0, .inr (1, [.int (gI o0 0), .int (gI o0 1), .int (gI o0 2), .int (gI o0 3), .int (gI o0 4), .int (gI o0 5), .int (gI o0 6)]))] := hD
  unfold f_Fo_begin at h
  suffices key : ∀ (H : Heap) (locs : List Loc), va_P G.1 CL [(h0, .inr (1, [.int (gI o0 0), .int (gI o0 1), .int (gI o0 2), .int (gI o0 3), .int (gI o0 4), .int (gI o0 5), .int (gI o0 6)]))] H → va_S A s.heap H locs → W p l e rm_Fo_begin s m ([.ref h0, .int a0, .int a1, .int a2]).toArray below meth c H locs 0 0 (MQ below (va_Qv (fun (u : Ob) => Q u) (fun (u : Ob) t => BW G A (cw_Fo G h0 q0 u) t) A) ([.ref h0, .int a0, .int a1, .int a2]).toArray s 0 0 A) (F0 m 0 ls []) from key s.heap [] hP hS
  intro H locs hP hS
  refine lv_aload_n hx hb d_Fo_begin_0 rfl (lv_at hl 0 rfl) ?_
  refine lv_bipush (v := (10 : Int32)) hx hb d_Fo_begin_1 (by decide) ?_
  refine va_put (D := G.1) (ci := 1) (v := .int (10 : Int32)) (ty := .int) (C := R_Fo) (T := T_Fo) (N := 7) hx hb hts i_Fo ty_Fo ty_Fo_ok nm_Fo hown hK hP hD hS 0 rfl rfl 0 (by decide) (hts _ wf_Fo_11) (fun _ h9 => h9) rfl (ty_Fo_ok 0 (by decide)) rfl rfl (Nat.le_of_ble_eq_true rfl) d_Fo_begin_3 (fun H locs hP hD hS => ?_)
  have hP : va_P G.1 CL [(h0, .inr (1, [.int (10 : Int32), .int (gI o0 1), .int (gI o0 2), .int (gI o0 3), .int (gI o0 4), .int (gI o0 5), .int (gI o0 6)]))] H := hP
  have hD : va_D A [(h0, .inr (1, [.int (10 : Int32), .int (gI o0 1), .int (gI o0 2), .int (gI o0 3), .int (gI o0 4), .int (gI o0 5), .int (gI o0 6)]))] := hD
  refine lv_aload_n hx hb d_Fo_begin_6 rfl (lv_at hl 0 rfl) ?_
  refine lv_iconst (v := (0 : Int32)) hx hb d_Fo_begin_7 (by decide) ?_
  refine va_put (D := G.1) (ci := 1) (v := .int (0 : Int32)) (ty := .int) (C := R_Fo) (T := T_Fo) (N := 7) hx hb hts i_Fo ty_Fo ty_Fo_ok nm_Fo hown hK hP hD hS 0 rfl rfl 1 (by decide) (hts _ wf_Fo_21) (fun _ h9 => h9) rfl (ty_Fo_ok 1 (by decide)) rfl rfl (Nat.le_of_ble_eq_true rfl) d_Fo_begin_8 (fun H locs hP hD hS => ?_)
  have hP : va_P G.1 CL [(h0, .inr (1, [.int (10 : Int32), .int (0 : Int32), .int (gI o0 2), .int (gI o0 3), .int (gI o0 4), .int (gI o0 5), .int (gI o0 6)]))] H := hP
  have hD : va_D A [(h0, .inr (1, [.int (10 : Int32), .int (0 : Int32), .int (gI o0 2), .int (gI o0 3), .int (gI o0 4), .int (gI o0 5), .int (gI o0 6)]))] := hD
  refine lv_aload_n hx hb d_Fo_begin_11 rfl (lv_at hl 0 rfl) ?_
  refine lv_iload_n hx hb d_Fo_begin_12 rfl (lv_at hl 1 rfl) ?_
  refine va_put (D := G.1) (ci := 1) (v := .int a0) (ty := .int) (C := R_Fo) (T := T_Fo) (N := 7) hx hb hts i_Fo ty_Fo ty_Fo_ok nm_Fo hown hK hP hD hS 0 rfl rfl 2 (by decide) (hts _ wf_Fo_24) (fun _ h9 => h9) rfl (ty_Fo_ok 2 (by decide)) rfl rfl (Nat.le_of_ble_eq_true rfl) d_Fo_begin_13 (fun H locs hP hD hS => ?_)
  have hP : va_P G.1 CL [(h0, .inr (1, [.int (10 : Int32), .int (0 : Int32), .int a0, .int (gI o0 3), .int (gI o0 4), .int (gI o0 5), .int (gI o0 6)]))] H := hP
  have hD : va_D A [(h0, .inr (1, [.int (10 : Int32), .int (0 : Int32), .int a0, .int (gI o0 3), .int (gI o0 4), .int (gI o0 5), .int (gI o0 6)]))] := hD
  refine lv_aload_n hx hb d_Fo_begin_16 rfl (lv_at hl 0 rfl) ?_
  refine lv_iload_n hx hb d_Fo_begin_17 rfl (lv_at hl 2 rfl) ?_
  refine va_put (D := G.1) (ci := 1) (v := .int a1) (ty := .int) (C := R_Fo) (T := T_Fo) (N := 7) hx hb hts i_Fo ty_Fo ty_Fo_ok nm_Fo hown hK hP hD hS 0 rfl rfl 3 (by decide) (hts _ wf_Fo_15) (fun _ h9 => h9) rfl (ty_Fo_ok 3 (by decide)) rfl rfl (Nat.le_of_ble_eq_true rfl) d_Fo_begin_18 (fun H locs hP hD hS => ?_)
  have hP : va_P G.1 CL [(h0, .inr (1, [.int (10 : Int32), .int (0 : Int32), .int a0, .int a1, .int (gI o0 4), .int (gI o0 5), .int (gI o0 6)]))] H := hP
  have hD : va_D A [(h0, .inr (1, [.int (10 : Int32), .int (0 : Int32), .int a0, .int a1, .int (gI o0 4), .int (gI o0 5), .int (gI o0 6)]))] := hD
  refine lv_aload_n hx hb d_Fo_begin_21 rfl (lv_at hl 0 rfl) ?_
  refine lv_iload_n hx hb d_Fo_begin_22 rfl (lv_at hl 3 rfl) ?_
  refine va_put (D := G.1) (ci := 1) (v := .int a2) (ty := .int) (C := R_Fo) (T := T_Fo) (N := 7) hx hb hts i_Fo ty_Fo ty_Fo_ok nm_Fo hown hK hP hD hS 0 rfl rfl 4 (by decide) (hts _ wf_Fo_18) (fun _ h9 => h9) rfl (ty_Fo_ok 4 (by decide)) rfl rfl (Nat.le_of_ble_eq_true rfl) d_Fo_begin_23 (fun H locs hP hD hS => ?_)
  have hP : va_P G.1 CL [(h0, .inr (1, [.int (10 : Int32), .int (0 : Int32), .int a0, .int a1, .int a2, .int (gI o0 5), .int (gI o0 6)]))] H := hP
  have hD : va_D A [(h0, .inr (1, [.int (10 : Int32), .int (0 : Int32), .int a0, .int a1, .int a2, .int (gI o0 5), .int (gI o0 6)]))] := hD
  refine lv_aload_n hx hb d_Fo_begin_26 rfl (lv_at hl 0 rfl) ?_
  refine cl_Vv (b := b_Fo_begin) (As := []) (rest := []) (ws := [(h0, .inr (1, [.int (10 : Int32), .int (0 : Int32), .int a0, .int a1, .int a2, .int (gI o0 5), .int (gI o0 6)]))]) (wr := []) (w2 := fun (u : Ob) => [(h0, .inr (1, [.int (gI u 0), .int (gI u 1), .int (gI u 2), .int (gI u 3), .int (gI u 4), .int (gI u 5), .int (gI u 6)]))]) C (c_Fo_startCount (h0 := h0) (q0 := q0) H.size h) wv_Fo_33 ⟨Nat.le_of_ble_eq_true rfl, Nat.le_of_ble_eq_true rfl⟩ hP hD hS 0 rfl rfl [0] [] rfl rfl (by decide) (by decide) (by decide) [0] (by decide) (fun u => rfl) rfl hl.1 rfl (lv_room (Nat.le_of_ble_eq_true rfl)) d_Fo_begin_27 ⟨Nat.le_of_ble_eq_true rfl, Nat.le_of_ble_eq_true rfl⟩ rfl rfl (fun u H locs h hP hD hS => ?_)
  generalize u = u1 at h hP hD
  have hP : va_P G.1 CL [(h0, .inr (1, [.int (gI u1 0), .int (gI u1 1), .int (gI u1 2), .int (gI u1 3), .int (gI u1 4), .int (gI u1 5), .int (gI u1 6)]))] H := hP
  have hD : va_D A [(h0, .inr (1, [.int (gI u1 0), .int (gI u1 1), .int (gI u1 2), .int (gI u1 3), .int (gI u1 4), .int (gI u1 5), .int (gI u1 6)]))] := hD
  have hP : va_P G.1 CL (cw_Fo G h0 q0 u1) H := hP
  have hD : va_D A (cw_Fo G h0 q0 u1) := hD
  exact W.vret hx hb hr (fun t ht hW => ⟨⟨u1, rfl, h, by rw [ht]; exact hP, va_K.moved hW.alike hK, hD⟩, hS.F ht⟩) hS.2.2 d_Fo_begin_30
abbrev b_Fo_pass : ByteArray := prog_2_method_5_code
def y_Fo_pass : MethodName := ⟨R_Fo, "pass", "()V"⟩
abbrev w_Fo_pass : List Cond := Cond.code y_Fo_pass b_Fo_pass 2 none :: gw_tbl
theorem d_Fo_pass_0 : decode b_Fo_pass 0 = .ok (.aload_n 0, 1) := by decide +kernel
theorem d_Fo_pass_1 : decode b_Fo_pass 1 = .ok (.getfield 18, 3) := by decide +kernel
theorem d_Fo_pass_4 : decode b_Fo_pass 4 = .ok (.iconst 1, 1) := by decide +kernel
theorem d_Fo_pass_5 : decode b_Fo_pass 5 = .ok (.if_icmp .ge 4, 3) := by decide +kernel
theorem d_Fo_pass_8 : decode b_Fo_pass 8 = .ok (.return_, 1) := by decide +kernel
theorem d_Fo_pass_9 : decode b_Fo_pass 9 = .ok (.aload_n 0, 1) := by decide +kernel
theorem d_Fo_pass_10 : decode b_Fo_pass 10 = .ok (.dup, 1) := by decide +kernel
theorem d_Fo_pass_11 : decode b_Fo_pass 11 = .ok (.getfield 21, 3) := by decide +kernel
theorem d_Fo_pass_14 : decode b_Fo_pass 14 = .ok (.aload_n 0, 1) := by decide +kernel
theorem d_Fo_pass_15 : decode b_Fo_pass 15 = .ok (.getfield 24, 3) := by decide +kernel
theorem d_Fo_pass_18 : decode b_Fo_pass 18 = .ok (.aload_n 0, 1) := by decide +kernel
theorem d_Fo_pass_19 : decode b_Fo_pass 19 = .ok (.getfield 15, 3) := by decide +kernel
theorem d_Fo_pass_22 : decode b_Fo_pass 22 = .ok (.aload_n 0, 1) := by decide +kernel
theorem d_Fo_pass_23 : decode b_Fo_pass 23 = .ok (.getfield 11, 3) := by decide +kernel
theorem d_Fo_pass_26 : decode b_Fo_pass 26 = .ok (.imul, 1) := by decide +kernel
theorem d_Fo_pass_27 : decode b_Fo_pass 27 = .ok (.bipush 10, 2) := by decide +kernel
theorem d_Fo_pass_29 : decode b_Fo_pass 29 = .ok (.idiv, 1) := by decide +kernel
theorem d_Fo_pass_30 : decode b_Fo_pass 30 = .ok (.isub, 1) := by decide +kernel
theorem d_Fo_pass_31 : decode b_Fo_pass 31 = .ok (.aload_n 0, 1) := by decide +kernel
theorem d_Fo_pass_32 : decode b_Fo_pass 32 = .ok (.getfield 18, 3) := by decide +kernel
theorem d_Fo_pass_35 : decode b_Fo_pass 35 = .ok (.idiv, 1) := by decide +kernel
theorem d_Fo_pass_36 : decode b_Fo_pass 36 = .ok (.iadd, 1) := by decide +kernel
theorem d_Fo_pass_37 : decode b_Fo_pass 37 = .ok (.putfield 21, 3) := by decide +kernel
theorem d_Fo_pass_40 : decode b_Fo_pass 40 = .ok (.aload_n 0, 1) := by decide +kernel
theorem d_Fo_pass_41 : decode b_Fo_pass 41 = .ok (.bipush (-9), 2) := by decide +kernel
theorem d_Fo_pass_43 : decode b_Fo_pass 43 = .ok (.bipush 9, 2) := by decide +kernel
theorem d_Fo_pass_45 : decode b_Fo_pass 45 = .ok (.aload_n 0, 1) := by decide +kernel
theorem d_Fo_pass_46 : decode b_Fo_pass 46 = .ok (.getfield 21, 3) := by decide +kernel
theorem d_Fo_pass_49 : decode b_Fo_pass 49 = .ok (.invokestatic 36, 3) := by decide +kernel
theorem d_Fo_pass_52 : decode b_Fo_pass 52 = .ok (.invokestatic 42, 3) := by decide +kernel
theorem d_Fo_pass_55 : decode b_Fo_pass 55 = .ok (.putfield 21, 3) := by decide +kernel
theorem d_Fo_pass_58 : decode b_Fo_pass 58 = .ok (.aload_n 0, 1) := by decide +kernel
theorem d_Fo_pass_59 : decode b_Fo_pass 59 = .ok (.getfield 11, 3) := by decide +kernel
theorem d_Fo_pass_62 : decode b_Fo_pass 62 = .ok (.aload_n 0, 1) := by decide +kernel
theorem d_Fo_pass_63 : decode b_Fo_pass 63 = .ok (.getfield 21, 3) := by decide +kernel
theorem d_Fo_pass_66 : decode b_Fo_pass 66 = .ok (.iadd, 1) := by decide +kernel
theorem d_Fo_pass_67 : decode b_Fo_pass 67 = .ok (.istore_n 1, 1) := by decide +kernel
theorem d_Fo_pass_68 : decode b_Fo_pass 68 = .ok (.iload_n 1, 1) := by decide +kernel
theorem d_Fo_pass_69 : decode b_Fo_pass 69 = .ok (.ifCond .ge 45, 3) := by decide +kernel
theorem d_Fo_pass_72 : decode b_Fo_pass 72 = .ok (.aload_n 0, 1) := by decide +kernel
theorem d_Fo_pass_73 : decode b_Fo_pass 73 = .ok (.iconst 0, 1) := by decide +kernel
theorem d_Fo_pass_74 : decode b_Fo_pass 74 = .ok (.putfield 11, 3) := by decide +kernel
theorem d_Fo_pass_77 : decode b_Fo_pass 77 = .ok (.aload_n 0, 1) := by decide +kernel
theorem d_Fo_pass_78 : decode b_Fo_pass 78 = .ok (.dup, 1) := by decide +kernel
theorem d_Fo_pass_79 : decode b_Fo_pass 79 = .ok (.getfield 27, 3) := by decide +kernel
theorem d_Fo_pass_82 : decode b_Fo_pass 82 = .ok (.aload_n 0, 1) := by decide +kernel
theorem d_Fo_pass_83 : decode b_Fo_pass 83 = .ok (.getfield 21, 3) := by decide +kernel
theorem d_Fo_pass_86 : decode b_Fo_pass 86 = .ok (.isub, 1) := by decide +kernel
theorem d_Fo_pass_87 : decode b_Fo_pass 87 = .ok (.putfield 27, 3) := by decide +kernel
theorem d_Fo_pass_90 : decode b_Fo_pass 90 = .ok (.aload_n 0, 1) := by decide +kernel
theorem d_Fo_pass_91 : decode b_Fo_pass 91 = .ok (.dup, 1) := by decide +kernel
theorem d_Fo_pass_92 : decode b_Fo_pass 92 = .ok (.getfield 30, 3) := by decide +kernel
theorem d_Fo_pass_95 : decode b_Fo_pass 95 = .ok (.iconst 1, 1) := by decide +kernel
theorem d_Fo_pass_96 : decode b_Fo_pass 96 = .ok (.iadd, 1) := by decide +kernel
theorem d_Fo_pass_97 : decode b_Fo_pass 97 = .ok (.putfield 30, 3) := by decide +kernel
theorem d_Fo_pass_100 : decode b_Fo_pass 100 = .ok (.aload_n 0, 1) := by decide +kernel
theorem d_Fo_pass_101 : decode b_Fo_pass 101 = .ok (.aload_n 0, 1) := by decide +kernel
theorem d_Fo_pass_102 : decode b_Fo_pass 102 = .ok (.getfield 21, 3) := by decide +kernel
theorem d_Fo_pass_105 : decode b_Fo_pass 105 = .ok (.ineg, 1) := by decide +kernel
theorem d_Fo_pass_106 : decode b_Fo_pass 106 = .ok (.iconst 2, 1) := by decide +kernel
theorem d_Fo_pass_107 : decode b_Fo_pass 107 = .ok (.idiv, 1) := by decide +kernel
theorem d_Fo_pass_108 : decode b_Fo_pass 108 = .ok (.putfield 21, 3) := by decide +kernel
theorem d_Fo_pass_111 : decode b_Fo_pass 111 = .ok (.goto 28, 3) := by decide +kernel
theorem d_Fo_pass_114 : decode b_Fo_pass 114 = .ok (.iload_n 1, 1) := by decide +kernel
theorem d_Fo_pass_115 : decode b_Fo_pass 115 = .ok (.bipush 50, 2) := by decide +kernel
theorem d_Fo_pass_117 : decode b_Fo_pass 117 = .ok (.if_icmp .le 17, 3) := by decide +kernel
theorem d_Fo_pass_120 : decode b_Fo_pass 120 = .ok (.aload_n 0, 1) := by decide +kernel
theorem d_Fo_pass_121 : decode b_Fo_pass 121 = .ok (.bipush 50, 2) := by decide +kernel
theorem d_Fo_pass_123 : decode b_Fo_pass 123 = .ok (.putfield 11, 3) := by decide +kernel
theorem d_Fo_pass_126 : decode b_Fo_pass 126 = .ok (.aload_n 0, 1) := by decide +kernel
theorem d_Fo_pass_127 : decode b_Fo_pass 127 = .ok (.iconst 0, 1) := by decide +kernel
theorem d_Fo_pass_128 : decode b_Fo_pass 128 = .ok (.putfield 21, 3) := by decide +kernel
theorem d_Fo_pass_131 : decode b_Fo_pass 131 = .ok (.goto 8, 3) := by decide +kernel
theorem d_Fo_pass_134 : decode b_Fo_pass 134 = .ok (.aload_n 0, 1) := by decide +kernel
theorem d_Fo_pass_135 : decode b_Fo_pass 135 = .ok (.iload_n 1, 1) := by decide +kernel
theorem d_Fo_pass_136 : decode b_Fo_pass 136 = .ok (.putfield 11, 3) := by decide +kernel
theorem d_Fo_pass_139 : decode b_Fo_pass 139 = .ok (.return_, 1) := by decide +kernel
theorem wm_Fo_36 : Cond.methodLink R_Fo 36 ⟨"java/lang/Math", "min", "(II)I"⟩ ∈ gw_tbl := gw_tb (List.mem_of_getElem? (i := 697) (by decide +kernel)) rfl
theorem wms_min : Cond.static ⟨"java/lang/Math", "min", "(II)I"⟩ ∈ gw_tbl := gw_tb (List.mem_of_getElem? (i := 30) (by decide +kernel)) rfl
theorem wmi : Cond.initialized "java/lang/Math" ∈ gw_tbl := gw_tb (List.mem_of_getElem? (i := 2) (by decide +kernel)) rfl
theorem wmc_min : Cond.code ⟨"java/lang/Math", "min", "(II)I"⟩ prog_16_method_69_code 2 (some .int) ∈ gw_tbl := gw_tb (List.mem_of_getElem? (i := 31) (by decide +kernel)) rfl
theorem wm_Fo_42 : Cond.methodLink R_Fo 42 ⟨"java/lang/Math", "max", "(II)I"⟩ ∈ gw_tbl := gw_tb (List.mem_of_getElem? (i := 698) (by decide +kernel)) rfl
theorem wms_max : Cond.static ⟨"java/lang/Math", "max", "(II)I"⟩ ∈ gw_tbl := gw_tb (List.mem_of_getElem? (i := 33) (by decide +kernel)) rfl
theorem wmc_max : Cond.code ⟨"java/lang/Math", "max", "(II)I"⟩ prog_16_method_65_code 2 (some .int) ∈ gw_tbl := gw_tb (List.mem_of_getElem? (i := 34) (by decide +kernel)) rfl
def f_Fo_pass (o0 : Ob) (Q : Ob → Prop) : Prop := ((1 : Int32) ≤ (gI o0 4) → (∀ y2 : Int32, y2 = ((gI o0 2) - (((gI o0 3) * (gI o0 0)) / (10 : Int32))) → ((¬ (gI o0 4) = 0) ∧ (∀ y4 : Int32, y4 = (if ((gI o0 1) + (y2 / (gI o0 4))) < (9 : Int32) then ((gI o0 1) + (y2 / (gI o0 4))) else (9 : Int32)) → (∀ y5 : Int32, y5 = (if (-9 : Int32) < y4 then y4 else (-9 : Int32)) → ((0 ≤ ((gI o0 0) + y5) → ((((gI o0 0) + y5) ≤ (50 : Int32) → (Q (sI (sI o0 0 ((gI o0 0) + y5)) 1 y5))) ∧ (¬ ((gI o0 0) + y5) ≤ (50 : Int32) → (Q (sI (sI o0 0 (50 : Int32)) 1 (0 : Int32)))))) ∧ (¬ 0 ≤ ((gI o0 0) + y5) → (Q (sI (sI (sI (sI o0 0 (0 : Int32)) 1 ((-y5) / (2 : Int32))) 5 ((gI o0 5) - y5)) 6 ((gI o0 6) + (1 : Int32))))))))))) ∧ (¬ (1 : Int32) ≤ (gI o0 4) → (Q o0))
abbrev rm_Fo_pass : Room := { frames := 1, cells := 0, slots := 0, locals := 30 }
set_option maxHeartbeats 4000000 in
set_option maxRecDepth 100000 in
theorem c_Fo_pass {l : Launch} {G : Gl} {h0 : Nat} {q0 : Nat → Nat} {o0 : Ob} {Q : Ob → Prop} (sz : Nat) (h : f_Fo_pass o0 Q) : Met l y_Fo_pass w_Fo_pass rm_Fo_pass (PcW G [.ref h0] sz (cw_Fo G h0 q0 o0)) (va_Qv (fun (u : Ob) => Q u) (fun (u : Ob) t => BW G (va_A (cw_Fo G h0 q0 o0) sz) (cw_Fo G h0 q0 u) t) (va_A (cw_Fo G h0 q0 o0) sz)) 0 0 (va_A (cw_Fo G h0 q0 o0) sz) := by
  refine Met.ofW (cc := b_Fo_pass) (maxL := 2) (ret := none) (by decide +kernel) rfl ?_
  intro p e s m args below meth c s₁ B hml hv
  obtain ⟨rfl, hsz, hP, hK, hD0, hE⟩ := hv
  have hx := B.exec
  have hb := B.bytes
  have hr := B.returns
  have hts0 := atoms_spec (ws := w_Fo_pass) B.pre
  have hts : ∀ w ∈ gw_tbl, w.before ([.ref h0]).toArray s = true := fun w hw => hts0 w (List.mem_cons_of_mem _ hw)
  have hown : s.vm.findClass R_Fo = some m.cls := findClass_of_methodNamed B.named
  have hlocks := B.notSynchronized
  subst hsz
  have hD := hD0.self (sz := s.heap.size)
  generalize hAe : va_A (cw_Fo G h0 q0 o0) s.heap.size = A at hD hE ⊢
  have hA : ∀ q : Nat, s.heap.size ≤ q → A q := fun q h => by rw [← hAe]; exact Or.inr h
  have hS : va_S A s.heap s.heap [] := va_S.rf
  have C : Cx p s m ([.ref h0]).toArray meth c R_Fo b_Fo_pass 2 none G A := ⟨hx, hb, hml, hown, hr, hts, hK, hA, hlocks, hE⟩
  have hl := lv_entry ([.ref h0]) (n := 2) (Nat.le_of_ble_eq_true rfl)
  rw [lg_entry_eq]
  generalize (lg_sl ([.ref h0]) ++ List.replicate (2 - (lg_sl ([.ref h0])).length) Slot.unset).toArray = ls at hl ⊢
  have hl : lv_has ls 2 [(0, .ref h0)] := hl
  have hD : va_D A [(h0, .inr (1, [.int (gI o0 0), .int (gI o0 1), .int (gI o0 2), .int (gI o0 3), .int (gI o0 4), .int (gI o0 5), .int (gI o0 6)]))] := hD
  unfold f_Fo_pass at h
  suffices key : ∀ (H : Heap) (locs : List Loc), va_P G.1 CL [(h0, .inr (1, [.int (gI o0 0), .int (gI o0 1), .int (gI o0 2), .int (gI o0 3), .int (gI o0 4), .int (gI o0 5), .int (gI o0 6)]))] H → va_S A s.heap H locs → W p l e rm_Fo_pass s m ([.ref h0]).toArray below meth c H locs 0 0 (MQ below (va_Qv (fun (u : Ob) => Q u) (fun (u : Ob) t => BW G A (cw_Fo G h0 q0 u) t) A) ([.ref h0]).toArray s 0 0 A) (F0 m 0 ls []) from key s.heap [] hP hS
  intro H locs hP hS
  refine lv_aload_n hx hb d_Fo_pass_0 rfl (lv_at hl 0 rfl) ?_
  refine va_get (D := G.1) (ci := 1) (v := .int (gI o0 4)) (C := R_Fo) (T := T_Fo) (N := 7) hx hb hts i_Fo hown hK hP 0 rfl rfl 4 (by decide) (hts _ wf_Fo_18) (fun _ h9 => h9) rfl d_Fo_pass_1 ?_
  refine lv_iconst (v := (1 : Int32)) hx hb d_Fo_pass_4 (by decide) ?_
  refine lv_icmp_ge (tgt := 9) hx hb d_Fo_pass_5 (by decide) (fun c1 => ?_) (fun c1 => ?_)
  · have h := h.1 c1
    refine lv_aload_n hx hb d_Fo_pass_9 rfl (lv_at hl 0 rfl) ?_
    refine lv_dup hx hb d_Fo_pass_10 rfl ?_
    refine va_get (D := G.1) (ci := 1) (v := .int (gI o0 1)) (C := R_Fo) (T := T_Fo) (N := 7) hx hb hts i_Fo hown hK hP 0 rfl rfl 1 (by decide) (hts _ wf_Fo_21) (fun _ h9 => h9) rfl d_Fo_pass_11 ?_
    refine lv_aload_n hx hb d_Fo_pass_14 rfl (lv_at hl 0 rfl) ?_
    refine va_get (D := G.1) (ci := 1) (v := .int (gI o0 2)) (C := R_Fo) (T := T_Fo) (N := 7) hx hb hts i_Fo hown hK hP 0 rfl rfl 2 (by decide) (hts _ wf_Fo_24) (fun _ h9 => h9) rfl d_Fo_pass_15 ?_
    refine lv_aload_n hx hb d_Fo_pass_18 rfl (lv_at hl 0 rfl) ?_
    refine va_get (D := G.1) (ci := 1) (v := .int (gI o0 3)) (C := R_Fo) (T := T_Fo) (N := 7) hx hb hts i_Fo hown hK hP 0 rfl rfl 3 (by decide) (hts _ wf_Fo_15) (fun _ h9 => h9) rfl d_Fo_pass_19 ?_
    refine lv_aload_n hx hb d_Fo_pass_22 rfl (lv_at hl 0 rfl) ?_
    refine va_get (D := G.1) (ci := 1) (v := .int (gI o0 0)) (C := R_Fo) (T := T_Fo) (N := 7) hx hb hts i_Fo hown hK hP 0 rfl rfl 0 (by decide) (hts _ wf_Fo_11) (fun _ h9 => h9) rfl d_Fo_pass_23 ?_
    refine lv_imul hx hb d_Fo_pass_26 ?_
    refine lv_bipush (v := (10 : Int32)) hx hb d_Fo_pass_27 (by decide) ?_
    refine lv_idiv hx hb d_Fo_pass_29 (by decide) ?_
    refine lv_isub hx hb d_Fo_pass_30 ?_
    refine lv_topi (fun y2 ey2 => ?_)
    have h := h y2 ey2
    refine lv_aload_n hx hb d_Fo_pass_31 rfl (lv_at hl 0 rfl) ?_
    refine va_get (D := G.1) (ci := 1) (v := .int (gI o0 4)) (C := R_Fo) (T := T_Fo) (N := 7) hx hb hts i_Fo hown hK hP 0 rfl rfl 4 (by decide) (hts _ wf_Fo_18) (fun _ h9 => h9) rfl d_Fo_pass_32 ?_
    have g3 := h.1
    have h := h.2
    refine lv_idiv hx hb d_Fo_pass_35 g3 ?_
    refine lv_iadd hx hb d_Fo_pass_36 ?_
    refine va_put (D := G.1) (ci := 1) (v := .int ((gI o0 1) + (y2 / (gI o0 4)))) (ty := .int) (C := R_Fo) (T := T_Fo) (N := 7) hx hb hts i_Fo ty_Fo ty_Fo_ok nm_Fo hown hK hP hD hS 0 rfl rfl 1 (by decide) (hts _ wf_Fo_21) (fun _ h9 => h9) rfl (ty_Fo_ok 1 (by decide)) rfl rfl (Nat.le_of_ble_eq_true rfl) d_Fo_pass_37 (fun H locs hP hD hS => ?_)
    have hP : va_P G.1 CL [(h0, .inr (1, [.int (gI o0 0), .int ((gI o0 1) + (y2 / (gI o0 4))), .int (gI o0 2), .int (gI o0 3), .int (gI o0 4), .int (gI o0 5), .int (gI o0 6)]))] H := hP
    have hD : va_D A [(h0, .inr (1, [.int (gI o0 0), .int ((gI o0 1) + (y2 / (gI o0 4))), .int (gI o0 2), .int (gI o0 3), .int (gI o0 4), .int (gI o0 5), .int (gI o0 6)]))] := hD
    refine lv_aload_n hx hb d_Fo_pass_40 rfl (lv_at hl 0 rfl) ?_
    refine lv_bipush (v := (-9 : Int32)) hx hb d_Fo_pass_41 (by decide) ?_
    refine lv_bipush (v := (9 : Int32)) hx hb d_Fo_pass_43 (by decide) ?_
    refine lv_aload_n hx hb d_Fo_pass_45 rfl (lv_at hl 0 rfl) ?_
    refine va_get (D := G.1) (ci := 1) (v := .int ((gI o0 1) + (y2 / (gI o0 4)))) (C := R_Fo) (T := T_Fo) (N := 7) hx hb hts i_Fo hown hK hP 0 rfl rfl 1 (by decide) (hts _ wf_Fo_21) (fun _ h9 => h9) rfl d_Fo_pass_46 ?_
    refine va_mmin hx hb (hml.trans hl.1.symm) hown (hts _ wm_Fo_36) (hts _ wms_min) (hts _ wmi) (hts _ wmc_min) (Nat.le_of_ble_eq_true rfl) (Nat.le_of_ble_eq_true rfl) (Nat.le_of_ble_eq_true rfl) (Nat.le_of_ble_eq_true rfl) d_Fo_pass_49 ?_
    refine lv_topi (fun y4 ey4 => ?_)
    have h := h y4 ey4
    refine va_mmax hx hb (hml.trans hl.1.symm) hown (hts _ wm_Fo_42) (hts _ wms_max) (hts _ wmi) (hts _ wmc_max) (Nat.le_of_ble_eq_true rfl) (Nat.le_of_ble_eq_true rfl) (Nat.le_of_ble_eq_true rfl) (Nat.le_of_ble_eq_true rfl) d_Fo_pass_52 ?_
    refine lv_topi (fun y5 ey5 => ?_)
    have h := h y5 ey5
    refine va_put (D := G.1) (ci := 1) (v := .int y5) (ty := .int) (C := R_Fo) (T := T_Fo) (N := 7) hx hb hts i_Fo ty_Fo ty_Fo_ok nm_Fo hown hK hP hD hS 0 rfl rfl 1 (by decide) (hts _ wf_Fo_21) (fun _ h9 => h9) rfl (ty_Fo_ok 1 (by decide)) rfl rfl (Nat.le_of_ble_eq_true rfl) d_Fo_pass_55 (fun H locs hP hD hS => ?_)
    have hP : va_P G.1 CL [(h0, .inr (1, [.int (gI o0 0), .int y5, .int (gI o0 2), .int (gI o0 3), .int (gI o0 4), .int (gI o0 5), .int (gI o0 6)]))] H := hP
    have hD : va_D A [(h0, .inr (1, [.int (gI o0 0), .int y5, .int (gI o0 2), .int (gI o0 3), .int (gI o0 4), .int (gI o0 5), .int (gI o0 6)]))] := hD
    refine lv_aload_n hx hb d_Fo_pass_58 rfl (lv_at hl 0 rfl) ?_
    refine va_get (D := G.1) (ci := 1) (v := .int (gI o0 0)) (C := R_Fo) (T := T_Fo) (N := 7) hx hb hts i_Fo hown hK hP 0 rfl rfl 0 (by decide) (hts _ wf_Fo_11) (fun _ h9 => h9) rfl d_Fo_pass_59 ?_
    refine lv_aload_n hx hb d_Fo_pass_62 rfl (lv_at hl 0 rfl) ?_
    refine va_get (D := G.1) (ci := 1) (v := .int y5) (C := R_Fo) (T := T_Fo) (N := 7) hx hb hts i_Fo hown hK hP 0 rfl rfl 1 (by decide) (hts _ wf_Fo_21) (fun _ h9 => h9) rfl d_Fo_pass_63 ?_
    refine lv_iadd hx hb d_Fo_pass_66 ?_
    refine lv_istore_n (lv' := [(1, .int ((gI o0 0) + y5)), (0, .ref h0)]) hx hb d_Fo_pass_67 rfl hl (by decide) rfl (fun ls hl => ?_)
    refine lv_iload_n hx hb d_Fo_pass_68 rfl (lv_at hl 0 rfl) ?_
    refine lv_if_ge (tgt := 114) hx hb d_Fo_pass_69 (by decide) (fun c6 => ?_) (fun c6 => ?_)
    · have h := h.1 c6
      refine lv_iload_n hx hb d_Fo_pass_114 rfl (lv_at hl 0 rfl) ?_
      refine lv_bipush (v := (50 : Int32)) hx hb d_Fo_pass_115 (by decide) ?_
      refine lv_icmp_le (tgt := 134) hx hb d_Fo_pass_117 (by decide) (fun c7 => ?_) (fun c7 => ?_)
      · have h := h.1 c7
        refine lv_aload_n hx hb d_Fo_pass_134 rfl (lv_at hl 1 rfl) ?_
        refine lv_iload_n hx hb d_Fo_pass_135 rfl (lv_at hl 0 rfl) ?_
        refine va_put (D := G.1) (ci := 1) (v := .int ((gI o0 0) + y5)) (ty := .int) (C := R_Fo) (T := T_Fo) (N := 7) hx hb hts i_Fo ty_Fo ty_Fo_ok nm_Fo hown hK hP hD hS 0 rfl rfl 0 (by decide) (hts _ wf_Fo_11) (fun _ h9 => h9) rfl (ty_Fo_ok 0 (by decide)) rfl rfl (Nat.le_of_ble_eq_true rfl) d_Fo_pass_136 (fun H locs hP hD hS => ?_)
        have hP : va_P G.1 CL [(h0, .inr (1, [.int ((gI o0 0) + y5), .int y5, .int (gI o0 2), .int (gI o0 3), .int (gI o0 4), .int (gI o0 5), .int (gI o0 6)]))] H := hP
        have hD : va_D A [(h0, .inr (1, [.int ((gI o0 0) + y5), .int y5, .int (gI o0 2), .int (gI o0 3), .int (gI o0 4), .int (gI o0 5), .int (gI o0 6)]))] := hD
        have hP : va_P G.1 CL (cw_Fo G h0 q0 (sI (sI o0 0 ((gI o0 0) + y5)) 1 y5)) H := hP
        have hD : va_D A (cw_Fo G h0 q0 (sI (sI o0 0 ((gI o0 0) + y5)) 1 y5)) := hD
        exact W.vret hx hb hr (fun t ht hW => ⟨⟨(sI (sI o0 0 ((gI o0 0) + y5)) 1 y5), rfl, h, by rw [ht]; exact hP, va_K.moved hW.alike hK, hD⟩, hS.F ht⟩) hS.2.2 d_Fo_pass_139
      · have h := h.2 c7
        refine lv_aload_n hx hb d_Fo_pass_120 rfl (lv_at hl 1 rfl) ?_
        refine lv_bipush (v := (50 : Int32)) hx hb d_Fo_pass_121 (by decide) ?_
        refine va_put (D := G.1) (ci := 1) (v := .int (50 : Int32)) (ty := .int) (C := R_Fo) (T := T_Fo) (N := 7) hx hb hts i_Fo ty_Fo ty_Fo_ok nm_Fo hown hK hP hD hS 0 rfl rfl 0 (by decide) (hts _ wf_Fo_11) (fun _ h9 => h9) rfl (ty_Fo_ok 0 (by decide)) rfl rfl (Nat.le_of_ble_eq_true rfl) d_Fo_pass_123 (fun H locs hP hD hS => ?_)
        have hP : va_P G.1 CL [(h0, .inr (1, [.int (50 : Int32), .int y5, .int (gI o0 2), .int (gI o0 3), .int (gI o0 4), .int (gI o0 5), .int (gI o0 6)]))] H := hP
        have hD : va_D A [(h0, .inr (1, [.int (50 : Int32), .int y5, .int (gI o0 2), .int (gI o0 3), .int (gI o0 4), .int (gI o0 5), .int (gI o0 6)]))] := hD
        refine lv_aload_n hx hb d_Fo_pass_126 rfl (lv_at hl 1 rfl) ?_
        refine lv_iconst (v := (0 : Int32)) hx hb d_Fo_pass_127 (by decide) ?_
        refine va_put (D := G.1) (ci := 1) (v := .int (0 : Int32)) (ty := .int) (C := R_Fo) (T := T_Fo) (N := 7) hx hb hts i_Fo ty_Fo ty_Fo_ok nm_Fo hown hK hP hD hS 0 rfl rfl 1 (by decide) (hts _ wf_Fo_21) (fun _ h9 => h9) rfl (ty_Fo_ok 1 (by decide)) rfl rfl (Nat.le_of_ble_eq_true rfl) d_Fo_pass_128 (fun H locs hP hD hS => ?_)
        have hP : va_P G.1 CL [(h0, .inr (1, [.int (50 : Int32), .int (0 : Int32), .int (gI o0 2), .int (gI o0 3), .int (gI o0 4), .int (gI o0 5), .int (gI o0 6)]))] H := hP
        have hD : va_D A [(h0, .inr (1, [.int (50 : Int32), .int (0 : Int32), .int (gI o0 2), .int (gI o0 3), .int (gI o0 4), .int (gI o0 5), .int (gI o0 6)]))] := hD
        refine lv_goto (tgt := 139) hx hb d_Fo_pass_131 (by decide) ?_
        have hP : va_P G.1 CL (cw_Fo G h0 q0 (sI (sI o0 0 (50 : Int32)) 1 (0 : Int32))) H := hP
        have hD : va_D A (cw_Fo G h0 q0 (sI (sI o0 0 (50 : Int32)) 1 (0 : Int32))) := hD
        exact W.vret hx hb hr (fun t ht hW => ⟨⟨(sI (sI o0 0 (50 : Int32)) 1 (0 : Int32)), rfl, h, by rw [ht]; exact hP, va_K.moved hW.alike hK, hD⟩, hS.F ht⟩) hS.2.2 d_Fo_pass_139
    · have h := h.2 c6
      refine lv_aload_n hx hb d_Fo_pass_72 rfl (lv_at hl 1 rfl) ?_
      refine lv_iconst (v := (0 : Int32)) hx hb d_Fo_pass_73 (by decide) ?_
      refine va_put (D := G.1) (ci := 1) (v := .int (0 : Int32)) (ty := .int) (C := R_Fo) (T := T_Fo) (N := 7) hx hb hts i_Fo ty_Fo ty_Fo_ok nm_Fo hown hK hP hD hS 0 rfl rfl 0 (by decide) (hts _ wf_Fo_11) (fun _ h9 => h9) rfl (ty_Fo_ok 0 (by decide)) rfl rfl (Nat.le_of_ble_eq_true rfl) d_Fo_pass_74 (fun H locs hP hD hS => ?_)
      have hP : va_P G.1 CL [(h0, .inr (1, [.int (0 : Int32), .int y5, .int (gI o0 2), .int (gI o0 3), .int (gI o0 4), .int (gI o0 5), .int (gI o0 6)]))] H := hP
      have hD : va_D A [(h0, .inr (1, [.int (0 : Int32), .int y5, .int (gI o0 2), .int (gI o0 3), .int (gI o0 4), .int (gI o0 5), .int (gI o0 6)]))] := hD
      refine lv_aload_n hx hb d_Fo_pass_77 rfl (lv_at hl 1 rfl) ?_
      refine lv_dup hx hb d_Fo_pass_78 rfl ?_
      refine va_get (D := G.1) (ci := 1) (v := .int (gI o0 5)) (C := R_Fo) (T := T_Fo) (N := 7) hx hb hts i_Fo hown hK hP 0 rfl rfl 5 (by decide) (hts _ wf_Fo_27) (fun _ h9 => h9) rfl d_Fo_pass_79 ?_
      refine lv_aload_n hx hb d_Fo_pass_82 rfl (lv_at hl 1 rfl) ?_
      refine va_get (D := G.1) (ci := 1) (v := .int y5) (C := R_Fo) (T := T_Fo) (N := 7) hx hb hts i_Fo hown hK hP 0 rfl rfl 1 (by decide) (hts _ wf_Fo_21) (fun _ h9 => h9) rfl d_Fo_pass_83 ?_
      refine lv_isub hx hb d_Fo_pass_86 ?_
      refine va_put (D := G.1) (ci := 1) (v := .int ((gI o0 5) - y5)) (ty := .int) (C := R_Fo) (T := T_Fo) (N := 7) hx hb hts i_Fo ty_Fo ty_Fo_ok nm_Fo hown hK hP hD hS 0 rfl rfl 5 (by decide) (hts _ wf_Fo_27) (fun _ h9 => h9) rfl (ty_Fo_ok 5 (by decide)) rfl rfl (Nat.le_of_ble_eq_true rfl) d_Fo_pass_87 (fun H locs hP hD hS => ?_)
      have hP : va_P G.1 CL [(h0, .inr (1, [.int (0 : Int32), .int y5, .int (gI o0 2), .int (gI o0 3), .int (gI o0 4), .int ((gI o0 5) - y5), .int (gI o0 6)]))] H := hP
      have hD : va_D A [(h0, .inr (1, [.int (0 : Int32), .int y5, .int (gI o0 2), .int (gI o0 3), .int (gI o0 4), .int ((gI o0 5) - y5), .int (gI o0 6)]))] := hD
      refine lv_aload_n hx hb d_Fo_pass_90 rfl (lv_at hl 1 rfl) ?_
      refine lv_dup hx hb d_Fo_pass_91 rfl ?_
      refine va_get (D := G.1) (ci := 1) (v := .int (gI o0 6)) (C := R_Fo) (T := T_Fo) (N := 7) hx hb hts i_Fo hown hK hP 0 rfl rfl 6 (by decide) (hts _ wf_Fo_30) (fun _ h9 => h9) rfl d_Fo_pass_92 ?_
      refine lv_iconst (v := (1 : Int32)) hx hb d_Fo_pass_95 (by decide) ?_
      refine lv_iadd hx hb d_Fo_pass_96 ?_
      refine va_put (D := G.1) (ci := 1) (v := .int ((gI o0 6) + (1 : Int32))) (ty := .int) (C := R_Fo) (T := T_Fo) (N := 7) hx hb hts i_Fo ty_Fo ty_Fo_ok nm_Fo hown hK hP hD hS 0 rfl rfl 6 (by decide) (hts _ wf_Fo_30) (fun _ h9 => h9) rfl (ty_Fo_ok 6 (by decide)) rfl rfl (Nat.le_of_ble_eq_true rfl) d_Fo_pass_97 (fun H locs hP hD hS => ?_)
      have hP : va_P G.1 CL [(h0, .inr (1, [.int (0 : Int32), .int y5, .int (gI o0 2), .int (gI o0 3), .int (gI o0 4), .int ((gI o0 5) - y5), .int ((gI o0 6) + (1 : Int32))]))] H := hP
      have hD : va_D A [(h0, .inr (1, [.int (0 : Int32), .int y5, .int (gI o0 2), .int (gI o0 3), .int (gI o0 4), .int ((gI o0 5) - y5), .int ((gI o0 6) + (1 : Int32))]))] := hD
      refine lv_aload_n hx hb d_Fo_pass_100 rfl (lv_at hl 1 rfl) ?_
      refine lv_aload_n hx hb d_Fo_pass_101 rfl (lv_at hl 1 rfl) ?_
      refine va_get (D := G.1) (ci := 1) (v := .int y5) (C := R_Fo) (T := T_Fo) (N := 7) hx hb hts i_Fo hown hK hP 0 rfl rfl 1 (by decide) (hts _ wf_Fo_21) (fun _ h9 => h9) rfl d_Fo_pass_102 ?_
      refine lv_ineg hx hb d_Fo_pass_105 ?_
      refine lv_iconst (v := (2 : Int32)) hx hb d_Fo_pass_106 (by decide) ?_
      refine lv_idiv hx hb d_Fo_pass_107 (by decide) ?_
      refine va_put (D := G.1) (ci := 1) (v := .int ((-y5) / (2 : Int32))) (ty := .int) (C := R_Fo) (T := T_Fo) (N := 7) hx hb hts i_Fo ty_Fo ty_Fo_ok nm_Fo hown hK hP hD hS 0 rfl rfl 1 (by decide) (hts _ wf_Fo_21) (fun _ h9 => h9) rfl (ty_Fo_ok 1 (by decide)) rfl rfl (Nat.le_of_ble_eq_true rfl) d_Fo_pass_108 (fun H locs hP hD hS => ?_)
      have hP : va_P G.1 CL [(h0, .inr (1, [.int (0 : Int32), .int ((-y5) / (2 : Int32)), .int (gI o0 2), .int (gI o0 3), .int (gI o0 4), .int ((gI o0 5) - y5), .int ((gI o0 6) + (1 : Int32))]))] H := hP
      have hD : va_D A [(h0, .inr (1, [.int (0 : Int32), .int ((-y5) / (2 : Int32)), .int (gI o0 2), .int (gI o0 3), .int (gI o0 4), .int ((gI o0 5) - y5), .int ((gI o0 6) + (1 : Int32))]))] := hD
      refine lv_goto (tgt := 139) hx hb d_Fo_pass_111 (by decide) ?_
      have hP : va_P G.1 CL (cw_Fo G h0 q0 (sI (sI (sI (sI o0 0 (0 : Int32)) 1 ((-y5) / (2 : Int32))) 5 ((gI o0 5) - y5)) 6 ((gI o0 6) + (1 : Int32)))) H := hP
      have hD : va_D A (cw_Fo G h0 q0 (sI (sI (sI (sI o0 0 (0 : Int32)) 1 ((-y5) / (2 : Int32))) 5 ((gI o0 5) - y5)) 6 ((gI o0 6) + (1 : Int32)))) := hD
      exact W.vret hx hb hr (fun t ht hW => ⟨⟨(sI (sI (sI (sI o0 0 (0 : Int32)) 1 ((-y5) / (2 : Int32))) 5 ((gI o0 5) - y5)) 6 ((gI o0 6) + (1 : Int32))), rfl, h, by rw [ht]; exact hP, va_K.moved hW.alike hK, hD⟩, hS.F ht⟩) hS.2.2 d_Fo_pass_139
  · have h := h.2 c1
    have hP : va_P G.1 CL (cw_Fo G h0 q0 o0) H := hP
    have hD : va_D A (cw_Fo G h0 q0 o0) := hD
    exact W.vret hx hb hr (fun t ht hW => ⟨⟨o0, rfl, h, by rw [ht]; exact hP, va_K.moved hW.alike hK, hD⟩, hS.F ht⟩) hS.2.2 d_Fo_pass_8
abbrev b_Fo_source : ByteArray := prog_2_method_6_code
def y_Fo_source : MethodName := ⟨R_Fo, "source", "()I"⟩
abbrev w_Fo_source : List Cond := Cond.code y_Fo_source b_Fo_source 1 (some .int) :: gw_tbl
theorem d_Fo_source_0 : decode b_Fo_source 0 = .ok (.aload_n 0, 1) := by decide +kernel
theorem d_Fo_source_1 : decode b_Fo_source 1 = .ok (.getfield 24, 3) := by decide +kernel
theorem d_Fo_source_4 : decode b_Fo_source 4 = .ok (.aload_n 0, 1) := by decide +kernel
theorem d_Fo_source_5 : decode b_Fo_source 5 = .ok (.getfield 11, 3) := by decide +kernel
theorem d_Fo_source_8 : decode b_Fo_source 8 = .ok (.imul, 1) := by decide +kernel
theorem d_Fo_source_9 : decode b_Fo_source 9 = .ok (.bipush 10, 2) := by decide +kernel
theorem d_Fo_source_11 : decode b_Fo_source 11 = .ok (.idiv, 1) := by decide +kernel
theorem d_Fo_source_12 : decode b_Fo_source 12 = .ok (.ireturn, 1) := by decide +kernel
def f_Fo_source (o0 : Ob) (Q : Int32 → Prop) : Prop := Q (((gI o0 2) * (gI o0 0)) / (10 : Int32))
abbrev rm_Fo_source : Room := { frames := 0, cells := 0, slots := 0, locals := 0 }
set_option maxHeartbeats 4000000 in
set_option maxRecDepth 100000 in
theorem c_Fo_source {l : Launch} {G : Gl} {h0 : Nat} {q0 : Nat → Nat} {o0 : Ob} {Q : Int32 → Prop} (sz : Nat) (h : f_Fo_source o0 Q) : Met l y_Fo_source w_Fo_source rm_Fo_source (PcW G [.ref h0] sz (cw_Fo G h0 q0 o0)) (va_Qi (fun (r : Int32) (u : Unit) => Q r) (fun (u : Unit) t => BW G (va_A (cw_Fo G h0 q0 o0) sz) (cw_Fo G h0 q0 o0) t) (va_A (cw_Fo G h0 q0 o0) sz)) 0 0 (va_A (cw_Fo G h0 q0 o0) sz) := by
  refine Met.ofW (cc := b_Fo_source) (maxL := 1) (ret := (some .int)) (by decide +kernel) rfl ?_
  intro p e s m args below meth c s₁ B hml hv
  obtain ⟨rfl, hsz, hP, hK, hD0, hE⟩ := hv
  have hx := B.exec
  have hb := B.bytes
  have hr := B.returns
  have hts0 := atoms_spec (ws := w_Fo_source) B.pre
  have hts : ∀ w ∈ gw_tbl, w.before ([.ref h0]).toArray s = true := fun w hw => hts0 w (List.mem_cons_of_mem _ hw)
  have hown : s.vm.findClass R_Fo = some m.cls := findClass_of_methodNamed B.named
  have hlocks := B.notSynchronized
  subst hsz
  have hD := hD0.self (sz := s.heap.size)
  generalize hAe : va_A (cw_Fo G h0 q0 o0) s.heap.size = A at hD hE ⊢
  have hA : ∀ q : Nat, s.heap.size ≤ q → A q := fun q h => by rw [← hAe]; exact Or.inr h
  have hS : va_S A s.heap s.heap [] := va_S.rf
  have C : Cx p s m ([.ref h0]).toArray meth c R_Fo b_Fo_source 1 (some .int) G A := ⟨hx, hb, hml, hown, hr, hts, hK, hA, hlocks, hE⟩
  have hl := lv_entry ([.ref h0]) (n := 1) (Nat.le_of_ble_eq_true rfl)
  rw [lg_entry_eq]
  generalize (lg_sl ([.ref h0]) ++ List.replicate (1 - (lg_sl ([.ref h0])).length) Slot.unset).toArray = ls at hl ⊢
  have hl : lv_has ls 1 [(0, .ref h0)] := hl
  have hD : va_D A [(h0, .inr (1, [.int (gI o0 0), .int (gI o0 1), .int (gI o0 2), .int (gI o0 3), .int (gI o0 4), .int (gI o0 5), .int (gI o0 6)]))] := hD
  unfold f_Fo_source at h
  suffices key : ∀ (H : Heap) (locs : List Loc), va_P G.1 CL [(h0, .inr (1, [.int (gI o0 0), .int (gI o0 1), .int (gI o0 2), .int (gI o0 3), .int (gI o0 4), .int (gI o0 5), .int (gI o0 6)]))] H → va_S A s.heap H locs → W p l e rm_Fo_source s m ([.ref h0]).toArray below meth c H locs 0 0 (MQ below (va_Qi (fun (r : Int32) (u : Unit) => Q r) (fun (u : Unit) t => BW G A (cw_Fo G h0 q0 o0) t) A) ([.ref h0]).toArray s 0 0 A) (F0 m 0 ls []) from key s.heap [] hP hS
  intro H locs hP hS
  refine lv_aload_n hx hb d_Fo_source_0 rfl (lv_at hl 0 rfl) ?_
  refine va_get (D := G.1) (ci := 1) (v := .int (gI o0 2)) (C := R_Fo) (T := T_Fo) (N := 7) hx hb hts i_Fo hown hK hP 0 rfl rfl 2 (by decide) (hts _ wf_Fo_24) (fun _ h9 => h9) rfl d_Fo_source_1 ?_
  refine lv_aload_n hx hb d_Fo_source_4 rfl (lv_at hl 0 rfl) ?_
  refine va_get (D := G.1) (ci := 1) (v := .int (gI o0 0)) (C := R_Fo) (T := T_Fo) (N := 7) hx hb hts i_Fo hown hK hP 0 rfl rfl 0 (by decide) (hts _ wf_Fo_11) (fun _ h9 => h9) rfl d_Fo_source_5 ?_
  refine lv_imul hx hb d_Fo_source_8 ?_
  refine lv_bipush (v := (10 : Int32)) hx hb d_Fo_source_9 (by decide) ?_
  refine lv_idiv hx hb d_Fo_source_11 (by decide) ?_
  have hP : va_P G.1 CL (cw_Fo G h0 q0 o0) H := hP
  have hD : va_D A (cw_Fo G h0 q0 o0) := hD
  exact W.iret (v := (((gI o0 2) * (gI o0 0)) / (10 : Int32))) hx hb hr (fun t ht hW => ⟨⟨(((gI o0 2) * (gI o0 0)) / (10 : Int32)), (), rfl, h, by rw [ht]; exact hP, va_K.moved hW.alike hK, hD⟩, hS.F ht⟩) hS.2.2 d_Fo_source_12
abbrev b_Fo_state : ByteArray := prog_2_method_7_code
def y_Fo_state : MethodName := ⟨R_Fo, "state", "()I"⟩
abbrev w_Fo_state : List Cond := Cond.code y_Fo_state b_Fo_state 1 (some .int) :: gw_tbl
theorem d_Fo_state_0 : decode b_Fo_state 0 = .ok (.aload_n 0, 1) := by decide +kernel
theorem d_Fo_state_1 : decode b_Fo_state 1 = .ok (.getfield 11, 3) := by decide +kernel
theorem d_Fo_state_4 : decode b_Fo_state 4 = .ok (.bipush 19, 2) := by decide +kernel
theorem d_Fo_state_6 : decode b_Fo_state 6 = .ok (.imul, 1) := by decide +kernel
theorem d_Fo_state_7 : decode b_Fo_state 7 = .ok (.aload_n 0, 1) := by decide +kernel
theorem d_Fo_state_8 : decode b_Fo_state 8 = .ok (.getfield 21, 3) := by decide +kernel
theorem d_Fo_state_11 : decode b_Fo_state 11 = .ok (.iadd, 1) := by decide +kernel
theorem d_Fo_state_12 : decode b_Fo_state 12 = .ok (.bipush 9, 2) := by decide +kernel
theorem d_Fo_state_14 : decode b_Fo_state 14 = .ok (.iadd, 1) := by decide +kernel
theorem d_Fo_state_15 : decode b_Fo_state 15 = .ok (.ireturn, 1) := by decide +kernel
def f_Fo_state (o0 : Ob) (Q : Int32 → Prop) : Prop := ∀ y1 : Int32, y1 = ((((gI o0 0) * (19 : Int32)) + (gI o0 1)) + (9 : Int32)) → (Q y1)
abbrev rm_Fo_state : Room := { frames := 0, cells := 0, slots := 0, locals := 0 }
set_option maxHeartbeats 4000000 in
set_option maxRecDepth 100000 in
theorem c_Fo_state {l : Launch} {G : Gl} {h0 : Nat} {q0 : Nat → Nat} {o0 : Ob} {Q : Int32 → Prop} (sz : Nat) (h : f_Fo_state o0 Q) : Met l y_Fo_state w_Fo_state rm_Fo_state (PcW G [.ref h0] sz (cw_Fo G h0 q0 o0)) (va_Qi (fun (r : Int32) (u : Unit) => Q r) (fun (u : Unit) t => BW G (va_A (cw_Fo G h0 q0 o0) sz) (cw_Fo G h0 q0 o0) t) (va_A (cw_Fo G h0 q0 o0) sz)) 0 0 (va_A (cw_Fo G h0 q0 o0) sz) := by
  refine Met.ofW (cc := b_Fo_state) (maxL := 1) (ret := (some .int)) (by decide +kernel) rfl ?_
  intro p e s m args below meth c s₁ B hml hv
  obtain ⟨rfl, hsz, hP, hK, hD0, hE⟩ := hv
  have hx := B.exec
  have hb := B.bytes
  have hr := B.returns
  have hts0 := atoms_spec (ws := w_Fo_state) B.pre
  have hts : ∀ w ∈ gw_tbl, w.before ([.ref h0]).toArray s = true := fun w hw => hts0 w (List.mem_cons_of_mem _ hw)
  have hown : s.vm.findClass R_Fo = some m.cls := findClass_of_methodNamed B.named
  have hlocks := B.notSynchronized
  subst hsz
  have hD := hD0.self (sz := s.heap.size)
  generalize hAe : va_A (cw_Fo G h0 q0 o0) s.heap.size = A at hD hE ⊢
  have hA : ∀ q : Nat, s.heap.size ≤ q → A q := fun q h => by rw [← hAe]; exact Or.inr h
  have hS : va_S A s.heap s.heap [] := va_S.rf
  have C : Cx p s m ([.ref h0]).toArray meth c R_Fo b_Fo_state 1 (some .int) G A := ⟨hx, hb, hml, hown, hr, hts, hK, hA, hlocks, hE⟩
  have hl := lv_entry ([.ref h0]) (n := 1) (Nat.le_of_ble_eq_true rfl)
  rw [lg_entry_eq]
  generalize (lg_sl ([.ref h0]) ++ List.replicate (1 - (lg_sl ([.ref h0])).length) Slot.unset).toArray = ls at hl ⊢
  have hl : lv_has ls 1 [(0, .ref h0)] := hl
  have hD : va_D A [(h0, .inr (1, [.int (gI o0 0), .int (gI o0 1), .int (gI o0 2), .int (gI o0 3), .int (gI o0 4), .int (gI o0 5), .int (gI o0 6)]))] := hD
  unfold f_Fo_state at h
  suffices key : ∀ (H : Heap) (locs : List Loc), va_P G.1 CL [(h0, .inr (1, [.int (gI o0 0), .int (gI o0 1), .int (gI o0 2), .int (gI o0 3), .int (gI o0 4), .int (gI o0 5), .int (gI o0 6)]))] H → va_S A s.heap H locs → W p l e rm_Fo_state s m ([.ref h0]).toArray below meth c H locs 0 0 (MQ below (va_Qi (fun (r : Int32) (u : Unit) => Q r) (fun (u : Unit) t => BW G A (cw_Fo G h0 q0 o0) t) A) ([.ref h0]).toArray s 0 0 A) (F0 m 0 ls []) from key s.heap [] hP hS
  intro H locs hP hS
  refine lv_aload_n hx hb d_Fo_state_0 rfl (lv_at hl 0 rfl) ?_
  refine va_get (D := G.1) (ci := 1) (v := .int (gI o0 0)) (C := R_Fo) (T := T_Fo) (N := 7) hx hb hts i_Fo hown hK hP 0 rfl rfl 0 (by decide) (hts _ wf_Fo_11) (fun _ h9 => h9) rfl d_Fo_state_1 ?_
  refine lv_bipush (v := (19 : Int32)) hx hb d_Fo_state_4 (by decide) ?_
  refine lv_imul hx hb d_Fo_state_6 ?_
  refine lv_aload_n hx hb d_Fo_state_7 rfl (lv_at hl 0 rfl) ?_
  refine va_get (D := G.1) (ci := 1) (v := .int (gI o0 1)) (C := R_Fo) (T := T_Fo) (N := 7) hx hb hts i_Fo hown hK hP 0 rfl rfl 1 (by decide) (hts _ wf_Fo_21) (fun _ h9 => h9) rfl d_Fo_state_8 ?_
  refine lv_iadd hx hb d_Fo_state_11 ?_
  refine lv_bipush (v := (9 : Int32)) hx hb d_Fo_state_12 (by decide) ?_
  refine lv_iadd hx hb d_Fo_state_14 ?_
  refine lv_topi (fun y1 ey1 => ?_)
  have h := h y1 ey1
  have hP : va_P G.1 CL (cw_Fo G h0 q0 o0) H := hP
  have hD : va_D A (cw_Fo G h0 q0 o0) := hD
  exact W.iret (v := y1) hx hb hr (fun t ht hW => ⟨⟨y1, (), rfl, h, by rw [ht]; exact hP, va_K.moved hW.alike hK, hD⟩, hS.F ht⟩) hS.2.2 d_Fo_state_15
abbrev b_He_put : ByteArray := prog_3_method_2_code
def y_He_put : MethodName := ⟨R_He, "put", "(IIII)V"⟩
abbrev w_He_put : List Cond := Cond.code y_He_put b_He_put 5 none :: gw_tbl
theorem d_He_put_0 : decode b_He_put 0 = .ok (.iload_n 1, 1) := by decide +kernel
theorem d_He_put_1 : decode b_He_put 1 = .ok (.ifCond .lt 9, 3) := by decide +kernel
theorem d_He_put_4 : decode b_He_put 4 = .ok (.iload_n 1, 1) := by decide +kernel
theorem d_He_put_5 : decode b_He_put 5 = .ok (.bipush 100, 2) := by decide +kernel
theorem d_He_put_7 : decode b_He_put 7 = .ok (.if_icmp .lt 4, 3) := by decide +kernel
theorem d_He_put_10 : decode b_He_put 10 = .ok (.return_, 1) := by decide +kernel
theorem d_He_put_11 : decode b_He_put 11 = .ok (.aload_n 0, 1) := by decide +kernel
theorem d_He_put_12 : decode b_He_put 12 = .ok (.getfield 9, 3) := by decide +kernel
theorem d_He_put_15 : decode b_He_put 15 = .ok (.iload_n 1, 1) := by decide +kernel
theorem d_He_put_16 : decode b_He_put 16 = .ok (.iload_n 2, 1) := by decide +kernel
theorem d_He_put_17 : decode b_He_put 17 = .ok (.iastore, 1) := by decide +kernel
theorem d_He_put_18 : decode b_He_put 18 = .ok (.aload_n 0, 1) := by decide +kernel
theorem d_He_put_19 : decode b_He_put 19 = .ok (.getfield 15, 3) := by decide +kernel
theorem d_He_put_22 : decode b_He_put 22 = .ok (.iload_n 1, 1) := by decide +kernel
theorem d_He_put_23 : decode b_He_put 23 = .ok (.iload_n 3, 1) := by decide +kernel
theorem d_He_put_24 : decode b_He_put 24 = .ok (.iastore, 1) := by decide +kernel
theorem d_He_put_25 : decode b_He_put 25 = .ok (.aload_n 0, 1) := by decide +kernel
theorem d_He_put_26 : decode b_He_put 26 = .ok (.getfield 18, 3) := by decide +kernel
theorem d_He_put_29 : decode b_He_put 29 = .ok (.iload_n 1, 1) := by decide +kernel
theorem d_He_put_30 : decode b_He_put 30 = .ok (.iload 4, 2) := by decide +kernel
theorem d_He_put_32 : decode b_He_put 32 = .ok (.iastore, 1) := by decide +kernel
theorem d_He_put_33 : decode b_He_put 33 = .ok (.return_, 1) := by decide +kernel
theorem wf_He_9 : Cond.fieldLink R_He 9 R_He "which" "[I" ∈ gw_tbl := gw_tb (List.mem_of_getElem? (i := 305) (by decide +kernel)) rfl
theorem wf_He_15 : Cond.fieldLink R_He 15 R_He "from" "[I" ∈ gw_tbl := gw_tb (List.mem_of_getElem? (i := 306) (by decide +kernel)) rfl
theorem wf_He_18 : Cond.fieldLink R_He 18 R_He "to" "[I" ∈ gw_tbl := gw_tb (List.mem_of_getElem? (i := 307) (by decide +kernel)) rfl
def f_He_put (a0 : Int32) (a1 : Int32) (a2 : Int32) (a3 : Int32) (o0 : Ob) (Q : Ob → Prop) : Prop := (a0 < 0 → (Q o0)) ∧ (¬ a0 < 0 → ((a0 < (100 : Int32) → ((vp_in a0 100) ∧ ((vp_in a0 100) ∧ ((vp_in a0 100) ∧ (Q (sA (sA (sA o0 0 (upd (gA o0 0) a0.toNatClampNeg a1)) 1 (upd (gA o0 1) a0.toNatClampNeg a2)) 2 (upd (gA o0 2) a0.toNatClampNeg a3))))))) ∧ (¬ a0 < (100 : Int32) → (Q o0))))
abbrev rm_He_put : Room := { frames := 0, cells := 0, slots := 0, locals := 0 }
set_option maxHeartbeats 4000000 in
set_option maxRecDepth 100000 in
theorem c_He_put {l : Launch} {G : Gl} {h0 : Nat} {q0 : Nat → Nat} {a0 : Int32} {a1 : Int32} {a2 : Int32} {a3 : Int32} {o0 : Ob} {Q : Ob → Prop} (sz : Nat) (h : f_He_put a0 a1 a2 a3 o0 Q) : Met l y_He_put w_He_put rm_He_put (PcW G [.ref h0, .int a0, .int a1, .int a2, .int a3] sz (cw_He G h0 q0 o0)) (va_Qv (fun (u : Ob) => Q u) (fun (u : Ob) t => BW G (va_A (cw_He G h0 q0 o0) sz) (cw_He G h0 q0 u) t) (va_A (cw_He G h0 q0 o0) sz)) 0 0 (va_A (cw_He G h0 q0 o0) sz) := by
  refine Met.ofW (cc := b_He_put) (maxL := 5) (ret := none) (by decide +kernel) rfl ?_
  intro p e s m args below meth c s₁ B hml hv
  obtain ⟨rfl, hsz, hP, hK, hD0, hE⟩ := hv
  have hx := B.exec
  have hb := B.bytes
  have hr := B.returns
  have hts0 := atoms_spec (ws := w_He_put) B.pre
  have hts : ∀ w ∈ gw_tbl, w.before ([.ref h0, .int a0, .int a1, .int a2, .int a3]).toArray s = true := fun w hw => hts0 w (List.mem_cons_of_mem _ hw)
  have hown : s.vm.findClass R_He = some m.cls := findClass_of_methodNamed B.named
  have hlocks := B.notSynchronized
  subst hsz
  have hD := hD0.self (sz := s.heap.size)
  generalize hAe : va_A (cw_He G h0 q0 o0) s.heap.size = A at hD hE ⊢
  have hA : ∀ q : Nat, s.heap.size ≤ q → A q := fun q h => by rw [← hAe]; exact Or.inr h
  have hS : va_S A s.heap s.heap [] := va_S.rf
  have C : Cx p s m ([.ref h0, .int a0, .int a1, .int a2, .int a3]).toArray meth c R_He b_He_put 5 none G A := ⟨hx, hb, hml, hown, hr, hts, hK, hA, hlocks, hE⟩
  have hl := lv_entry ([.ref h0, .int a0, .int a1, .int a2, .int a3]) (n := 5) (Nat.le_of_ble_eq_true rfl)
  rw [lg_entry_eq]
  generalize (lg_sl ([.ref h0, .int a0, .int a1, .int a2, .int a3]) ++ List.replicate (5 - (lg_sl ([.ref h0, .int a0, .int a1, .int a2, .int a3])).length) Slot.unset).toArray = ls at hl ⊢
  have hl : lv_has ls 5 [(0, .ref h0), (1, .int a0), (2, .int a1), (3, .int a2), (4, .int a3)] := hl
  have hD : va_D A [(h0, .inr (2, [.ref (q0 0), .ref (q0 1), .ref (q0 2)])), kI G (q0 0) 100 (gA o0 0), kI G (q0 1) 100 (gA o0 1), kI G (q0 2) 100 (gA o0 2)] := hD
  unfold f_He_put at h
  suffices key : ∀ (H : Heap) (locs : List Loc), va_P G.1 CL [(h0, .inr (2, [.ref (q0 0), .ref (q0 1), .ref (q0 2)])), kI G (q0 0) 100 (gA o0 0), kI G (q0 1) 100 (gA o0 1), kI G (q0 2) 100 (gA o0 2)] H → va_S A s.heap H locs → W p l e rm_He_put s m ([.ref h0, .int a0, .int a1, .int a2, .int a3]).toArray below meth c H locs 0 0 (MQ below (va_Qv (fun (u : Ob) => Q u) (fun (u : Ob) t => BW G A (cw_He G h0 q0 u) t) A) ([.ref h0, .int a0, .int a1, .int a2, .int a3]).toArray s 0 0 A) (F0 m 0 ls []) from key s.heap [] hP hS
  intro H locs hP hS
  refine lv_iload_n hx hb d_He_put_0 rfl (lv_at hl 1 rfl) ?_
  refine lv_if_lt (tgt := 10) hx hb d_He_put_1 (by decide) (fun c1 => ?_) (fun c1 => ?_)
  · have h := h.1 c1
    have hP : va_P G.1 CL (cw_He G h0 q0 o0) H := hP
    have hD : va_D A (cw_He G h0 q0 o0) := hD
    exact W.vret hx hb hr (fun t ht hW => ⟨⟨o0, rfl, h, by rw [ht]; exact hP, va_K.moved hW.alike hK, hD⟩, hS.F ht⟩) hS.2.2 d_He_put_10
  · have h := h.2 c1
    refine lv_iload_n hx hb d_He_put_4 rfl (lv_at hl 1 rfl) ?_
    refine lv_bipush (v := (100 : Int32)) hx hb d_He_put_5 (by decide) ?_
    refine lv_icmp_lt (tgt := 11) hx hb d_He_put_7 (by decide) (fun c2 => ?_) (fun c2 => ?_)
    · have h := h.1 c2
      refine lv_aload_n hx hb d_He_put_11 rfl (lv_at hl 0 rfl) ?_
      refine va_get (D := G.1) (ci := 2) (v := .ref (q0 0)) (C := R_He) (T := T_He) (N := 3) hx hb hts i_He hown hK hP 0 rfl rfl 0 (by decide) (hts _ wf_He_9) (fun _ h9 => h9) rfl d_He_put_12 ?_
      refine lv_iload_n hx hb d_He_put_15 rfl (lv_at hl 1 rfl) ?_
      refine lv_iload_n hx hb d_He_put_16 rfl (lv_at hl 2 rfl) ?_
      have g3 := h.1
      have h := h.2
      refine xa_iast hx hb hK hP hD hS 1 0 rfl rfl g3 (k := a0.toNatClampNeg) rfl d_He_put_17 (fun H locs hP hD hS => ?_)
      have hP : va_P G.1 CL [(h0, .inr (2, [.ref (q0 0), .ref (q0 1), .ref (q0 2)])), kI G (q0 0) 100 (upd (gA o0 0) a0.toNatClampNeg a1), kI G (q0 1) 100 (gA o0 1), kI G (q0 2) 100 (gA o0 2)] H := hP
      have hD : va_D A [(h0, .inr (2, [.ref (q0 0), .ref (q0 1), .ref (q0 2)])), kI G (q0 0) 100 (upd (gA o0 0) a0.toNatClampNeg a1), kI G (q0 1) 100 (gA o0 1), kI G (q0 2) 100 (gA o0 2)] := hD
      refine lv_aload_n hx hb d_He_put_18 rfl (lv_at hl 0 rfl) ?_
      refine va_get (D := G.1) (ci := 2) (v := .ref (q0 1)) (C := R_He) (T := T_He) (N := 3) hx hb hts i_He hown hK hP 0 rfl rfl 1 (by decide) (hts _ wf_He_15) (fun _ h9 => h9) rfl d_He_put_19 ?_
      refine lv_iload_n hx hb d_He_put_22 rfl (lv_at hl 1 rfl) ?_
      refine lv_iload_n hx hb d_He_put_23 rfl (lv_at hl 3 rfl) ?_
      have g4 := h.1
      have h := h.2
      refine xa_iast hx hb hK hP hD hS 2 0 rfl rfl g4 (k := a0.toNatClampNeg) rfl d_He_put_24 (fun H locs hP hD hS => ?_)
      have hP : va_P G.1 CL [(h0, .inr (2, [.ref (q0 0), .ref (q0 1), .ref (q0 2)])), kI G (q0 0) 100 (upd (gA o0 0) a0.toNatClampNeg a1), kI G (q0 1) 100 (upd (gA o0 1) a0.toNatClampNeg a2), kI G (q0 2) 100 (gA o0 2)] H := hP
      have hD : va_D A [(h0, .inr (2, [.ref (q0 0), .ref (q0 1), .ref (q0 2)])), kI G (q0 0) 100 (upd (gA o0 0) a0.toNatClampNeg a1), kI G (q0 1) 100 (upd (gA o0 1) a0.toNatClampNeg a2), kI G (q0 2) 100 (gA o0 2)] := hD
      refine lv_aload_n hx hb d_He_put_25 rfl (lv_at hl 0 rfl) ?_
      refine va_get (D := G.1) (ci := 2) (v := .ref (q0 2)) (C := R_He) (T := T_He) (N := 3) hx hb hts i_He hown hK hP 0 rfl rfl 2 (by decide) (hts _ wf_He_18) (fun _ h9 => h9) rfl d_He_put_26 ?_
      refine lv_iload_n hx hb d_He_put_29 rfl (lv_at hl 1 rfl) ?_
      refine lv_iload hx hb d_He_put_30 (lv_at hl 4 rfl) ?_
      have g5 := h.1
      have h := h.2
      refine xa_iast hx hb hK hP hD hS 3 0 rfl rfl g5 (k := a0.toNatClampNeg) rfl d_He_put_32 (fun H locs hP hD hS => ?_)
      have hP : va_P G.1 CL [(h0, .inr (2, [.ref (q0 0), .ref (q0 1), .ref (q0 2)])), kI G (q0 0) 100 (upd (gA o0 0) a0.toNatClampNeg a1), kI G (q0 1) 100 (upd (gA o0 1) a0.toNatClampNeg a2), kI G (q0 2) 100 (upd (gA o0 2) a0.toNatClampNeg a3)] H := hP
      have hD : va_D A [(h0, .inr (2, [.ref (q0 0), .ref (q0 1), .ref (q0 2)])), kI G (q0 0) 100 (upd (gA o0 0) a0.toNatClampNeg a1), kI G (q0 1) 100 (upd (gA o0 1) a0.toNatClampNeg a2), kI G (q0 2) 100 (upd (gA o0 2) a0.toNatClampNeg a3)] := hD
      have hP : va_P G.1 CL (cw_He G h0 q0 (sA (sA (sA o0 0 (upd (gA o0 0) a0.toNatClampNeg a1)) 1 (upd (gA o0 1) a0.toNatClampNeg a2)) 2 (upd (gA o0 2) a0.toNatClampNeg a3))) H := hP
      have hD : va_D A (cw_He G h0 q0 (sA (sA (sA o0 0 (upd (gA o0 0) a0.toNatClampNeg a1)) 1 (upd (gA o0 1) a0.toNatClampNeg a2)) 2 (upd (gA o0 2) a0.toNatClampNeg a3))) := hD
      exact W.vret hx hb hr (fun t ht hW => ⟨⟨(sA (sA (sA o0 0 (upd (gA o0 0) a0.toNatClampNeg a1)) 1 (upd (gA o0 1) a0.toNatClampNeg a2)) 2 (upd (gA o0 2) a0.toNatClampNeg a3)), rfl, h, by rw [ht]; exact hP, va_K.moved hW.alike hK, hD⟩, hS.F ht⟩) hS.2.2 d_He_put_33
    · have h := h.2 c2
      have hP : va_P G.1 CL (cw_He G h0 q0 o0) H := hP
      have hD : va_D A (cw_He G h0 q0 o0) := hD
      exact W.vret hx hb hr (fun t ht hW => ⟨⟨o0, rfl, h, by rw [ht]; exact hP, va_K.moved hW.alike hK, hD⟩, hS.F ht⟩) hS.2.2 d_He_put_10
abbrev b_He_fill : ByteArray := prog_3_method_3_code
def y_He_fill : MethodName := ⟨R_He, "fill", "(II[I[I)V"⟩
abbrev w_He_fill : List Cond := Cond.code y_He_fill b_He_fill 7 none :: gw_tbl
theorem d_He_fill_0 : decode b_He_fill 0 = .ok (.iconst 0, 1) := by decide +kernel
theorem d_He_fill_1 : decode b_He_fill 1 = .ok (.istore 5, 2) := by decide +kernel
theorem d_He_fill_3 : decode b_He_fill 3 = .ok (.iload 5, 2) := by decide +kernel
theorem d_He_fill_5 : decode b_He_fill 5 = .ok (.iconst 5, 1) := by decide +kernel
theorem d_He_fill_6 : decode b_He_fill 6 = .ok (.if_icmp .ge 20, 3) := by decide +kernel
theorem d_He_fill_9 : decode b_He_fill 9 = .ok (.aload_n 3, 1) := by decide +kernel
theorem d_He_fill_10 : decode b_He_fill 10 = .ok (.iload 5, 2) := by decide +kernel
theorem d_He_fill_12 : decode b_He_fill 12 = .ok (.iconst 0, 1) := by decide +kernel
theorem d_He_fill_13 : decode b_He_fill 13 = .ok (.iastore, 1) := by decide +kernel
theorem d_He_fill_14 : decode b_He_fill 14 = .ok (.aload 4, 2) := by decide +kernel
theorem d_He_fill_16 : decode b_He_fill 16 = .ok (.iload 5, 2) := by decide +kernel
theorem d_He_fill_18 : decode b_He_fill 18 = .ok (.iconst (-1), 1) := by decide +kernel
theorem d_He_fill_19 : decode b_He_fill 19 = .ok (.iastore, 1) := by decide +kernel
theorem d_He_fill_20 : decode b_He_fill 20 = .ok (.iinc 5 1, 3) := by decide +kernel
theorem d_He_fill_23 : decode b_He_fill 23 = .ok (.goto (-20), 3) := by decide +kernel
theorem d_He_fill_26 : decode b_He_fill 26 = .ok (.iconst 0, 1) := by decide +kernel
theorem d_He_fill_27 : decode b_He_fill 27 = .ok (.istore 5, 2) := by decide +kernel
theorem d_He_fill_29 : decode b_He_fill 29 = .ok (.iload 5, 2) := by decide +kernel
theorem d_He_fill_31 : decode b_He_fill 31 = .ok (.iload_n 2, 1) := by decide +kernel
theorem d_He_fill_32 : decode b_He_fill 32 = .ok (.if_icmp .ge 63, 3) := by decide +kernel
theorem d_He_fill_35 : decode b_He_fill 35 = .ok (.iload 5, 2) := by decide +kernel
theorem d_He_fill_37 : decode b_He_fill 37 = .ok (.bipush 100, 2) := by decide +kernel
theorem d_He_fill_39 : decode b_He_fill 39 = .ok (.if_icmp .ge 56, 3) := by decide +kernel
theorem d_He_fill_42 : decode b_He_fill 42 = .ok (.aload_n 0, 1) := by decide +kernel
theorem d_He_fill_43 : decode b_He_fill 43 = .ok (.getfield 9, 3) := by decide +kernel
theorem d_He_fill_46 : decode b_He_fill 46 = .ok (.iload 5, 2) := by decide +kernel
theorem d_He_fill_48 : decode b_He_fill 48 = .ok (.iaload, 1) := by decide +kernel
theorem d_He_fill_49 : decode b_He_fill 49 = .ok (.iload_n 1, 1) := by decide +kernel
theorem d_He_fill_50 : decode b_He_fill 50 = .ok (.iconst 5, 1) := by decide +kernel
theorem d_He_fill_51 : decode b_He_fill 51 = .ok (.imul, 1) := by decide +kernel
theorem d_He_fill_52 : decode b_He_fill 52 = .ok (.isub, 1) := by decide +kernel
theorem d_He_fill_53 : decode b_He_fill 53 = .ok (.istore 6, 2) := by decide +kernel
theorem d_He_fill_55 : decode b_He_fill 55 = .ok (.iload 6, 2) := by decide +kernel
theorem d_He_fill_57 : decode b_He_fill 57 = .ok (.ifCond .lt 32, 3) := by decide +kernel
theorem d_He_fill_60 : decode b_He_fill 60 = .ok (.iload 6, 2) := by decide +kernel
theorem d_He_fill_62 : decode b_He_fill 62 = .ok (.iconst 5, 1) := by decide +kernel
theorem d_He_fill_63 : decode b_He_fill 63 = .ok (.if_icmp .ge 26, 3) := by decide +kernel
theorem d_He_fill_66 : decode b_He_fill 66 = .ok (.aload_n 3, 1) := by decide +kernel
theorem d_He_fill_67 : decode b_He_fill 67 = .ok (.iload 6, 2) := by decide +kernel
theorem d_He_fill_69 : decode b_He_fill 69 = .ok (.aload_n 0, 1) := by decide +kernel
theorem d_He_fill_70 : decode b_He_fill 70 = .ok (.getfield 15, 3) := by decide +kernel
theorem d_He_fill_73 : decode b_He_fill 73 = .ok (.iload 5, 2) := by decide +kernel
theorem d_He_fill_75 : decode b_He_fill 75 = .ok (.iaload, 1) := by decide +kernel
theorem d_He_fill_76 : decode b_He_fill 76 = .ok (.iastore, 1) := by decide +kernel
theorem d_He_fill_77 : decode b_He_fill 77 = .ok (.aload 4, 2) := by decide +kernel
theorem d_He_fill_79 : decode b_He_fill 79 = .ok (.iload 6, 2) := by decide +kernel
theorem d_He_fill_81 : decode b_He_fill 81 = .ok (.aload_n 0, 1) := by decide +kernel
theorem d_He_fill_82 : decode b_He_fill 82 = .ok (.getfield 18, 3) := by decide +kernel
theorem d_He_fill_85 : decode b_He_fill 85 = .ok (.iload 5, 2) := by decide +kernel
theorem d_He_fill_87 : decode b_He_fill 87 = .ok (.iaload, 1) := by decide +kernel
theorem d_He_fill_88 : decode b_He_fill 88 = .ok (.iastore, 1) := by decide +kernel
theorem d_He_fill_89 : decode b_He_fill 89 = .ok (.iinc 5 1, 3) := by decide +kernel
theorem d_He_fill_92 : decode b_He_fill 92 = .ok (.goto (-63), 3) := by decide +kernel
theorem d_He_fill_95 : decode b_He_fill 95 = .ok (.return_, 1) := by decide +kernel
def f_He_fill_29 (o0 : Ob) (Q : (Nat → Int32) → (Nat → Int32) → Prop) : Nat → Int32 → Int32 → Int32 → (Nat → Int32) → (Nat → Int32) → Prop
  | 0, _, _, _, _, _ => False
  | n + 1, x1, x2, x5, o1, o2 => (x2 ≤ x5 → (Q o1 o2)) ∧ (¬ x2 ≤ x5 → (((100 : Int32) ≤ x5 → (Q o1 o2)) ∧ (¬ (100 : Int32) ≤ x5 → ((vp_in x5 100) ∧ (∀ y4 : Int32, y4 = (((gA o0 0) x5.toNatClampNeg) - (x1 * (5 : Int32))) → ((y4 < 0 → ((f_He_fill_29 o0 Q n) x1 x2 (x5 + (1 : Int32)) o1 o2)) ∧ (¬ y4 < 0 → (((5 : Int32) ≤ y4 → ((f_He_fill_29 o0 Q n) x1 x2 (x5 + (1 : Int32)) o1 o2)) ∧ (¬ (5 : Int32) ≤ y4 → ((vp_in x5 100) ∧ ((vp_in y4 5) ∧ ((vp_in x5 100) ∧ ((vp_in y4 5) ∧ ((f_He_fill_29 o0 Q n) x1 x2 (x5 + (1 : Int32)) (upd o1 y4.toNatClampNeg ((gA o0 1) x5.toNatClampNeg)) (upd o2 y4.toNatClampNeg ((gA o0 2) x5.toNatClampNeg))))))))))))))))
def f_He_fill_3 (o0 : Ob) (Q : (Nat → Int32) → (Nat → Int32) → Prop) : Nat → Int32 → Int32 → Int32 → (Nat → Int32) → (Nat → Int32) → Prop
  | 0, _, _, _, _, _ => False
  | n + 1, x1, x2, x5, o1, o2 => ((5 : Int32) ≤ x5 → ((∃ w, f_He_fill_29 o0 Q w x1 x2 (0 : Int32) o1 o2))) ∧ (¬ (5 : Int32) ≤ x5 → ((vp_in x5 5) ∧ ((vp_in x5 5) ∧ ((f_He_fill_3 o0 Q n) x1 x2 (x5 + (1 : Int32)) (upd o1 x5.toNatClampNeg (0 : Int32)) (upd o2 x5.toNatClampNeg (-1 : Int32))))))
def f_He_fill (a0 : Int32) (a1 : Int32) (o0 : Ob) (o1 : (Nat → Int32)) (o2 : (Nat → Int32)) (Q : (Nat → Int32) → (Nat → Int32) → Prop) : Prop := (∃ w, f_He_fill_3 o0 Q w a0 a1 (0 : Int32) o1 o2)
abbrev rm_He_fill : Room := { frames := 0, cells := 0, slots := 0, locals := 0 }
set_option maxHeartbeats 4000000 in
set_option maxRecDepth 100000 in
theorem t_He_fill_29 {p : Program} {l : Launch} {e : Env} {s : State} {m : MethodId} {args : Array Value} {below : List Frame} {meth : Method} {c : Code} {A : Nat → Prop} {G : Gl} {h0 : Nat} {h1 : Nat} {h2 : Nat} {q0 : Nat → Nat} (o0 : Ob) (Q : (Nat → Int32) → (Nat → Int32) → Prop) (C : Cx p s m args meth c R_He b_He_fill 7 none G A) :
    ∀ (n : Nat) (x1 : Int32) (x2 : Int32) (x5 : Int32) (o1 : (Nat → Int32)) (o2 : (Nat → Int32)) (ls : Array Slot) (H : Heap) (locs : List Loc), lv_has ls 7 [(0, .ref h0), (1, .int x1), (2, .int x2), (3, .ref h1), (4, .ref h2), (5, .int x5)] → va_P G.1 CL (cw_He G h0 q0 o0 ++ ([kI G h1 5 o1] ++ ([kI G h2 5 o2]))) H → va_D A (cw_He G h0 q0 o0 ++ ([kI G h1 5 o1] ++ ([kI G h2 5 o2]))) → va_S A s.heap H locs → f_He_fill_29 o0 Q n x1 x2 x5 o1 o2 → W p l e rm_He_fill s m args below meth c H locs 0 0 (MQ below (va_Qv (fun (u : (Nat → Int32) × (Nat → Int32)) => Q u.1 u.2) (fun (u : (Nat → Int32) × (Nat → Int32)) t => BW G A (cw_He G h0 q0 o0 ++ ([kI G h1 5 u.1] ++ ([kI G h2 5 u.2]))) t) A) args s 0 0 A) (F0 m 29 ls []) := by
  obtain ⟨hx, hb, hml, hown, hr, hts, hK, hA, hlocks, hE⟩ := id C
  intro n
  induction n with
  | zero => intro x1 x2 x5 o1 o2 ls H locs hl hP hD hS h; exact absurd h id
  | succ n ih =>
    intro x1 x2 x5 o1 o2 ls H locs hl hP hD hS h
    have hP : va_P G.1 CL [(h0, .inr (2, [.ref (q0 0), .ref (q0 1), .ref (q0 2)])), kI G (q0 0) 100 (gA o0 0), kI G (q0 1) 100 (gA o0 1), kI G (q0 2) 100 (gA o0 2), kI G h1 5 o1, kI G h2 5 o2] H := hP
    have hD : va_D A [(h0, .inr (2, [.ref (q0 0), .ref (q0 1), .ref (q0 2)])), kI G (q0 0) 100 (gA o0 0), kI G (q0 1) 100 (gA o0 1), kI G (q0 2) 100 (gA o0 2), kI G h1 5 o1, kI G h2 5 o2] := hD
    unfold f_He_fill_29 at h
    refine lv_iload hx hb d_He_fill_29 (lv_at hl 5 rfl) ?_
    refine lv_iload_n hx hb d_He_fill_31 rfl (lv_at hl 2 rfl) ?_
    refine lv_icmp_ge (tgt := 95) hx hb d_He_fill_32 (by decide) (fun c1 => ?_) (fun c1 => ?_)
    · have h := h.1 c1
      have hP : va_P G.1 CL (cw_He G h0 q0 o0 ++ ([kI G h1 5 o1] ++ ([kI G h2 5 o2]))) H := hP
      have hD : va_D A (cw_He G h0 q0 o0 ++ ([kI G h1 5 o1] ++ ([kI G h2 5 o2]))) := hD
      exact W.vret hx hb hr (fun t ht hW => ⟨⟨(o1, o2), rfl, h, by rw [ht]; exact hP, va_K.moved hW.alike hK, hD⟩, hS.F ht⟩) hS.2.2 d_He_fill_95
    · have h := h.2 c1
      refine lv_iload hx hb d_He_fill_35 (lv_at hl 5 rfl) ?_
      refine lv_bipush (v := (100 : Int32)) hx hb d_He_fill_37 (by decide) ?_
      refine lv_icmp_ge (tgt := 95) hx hb d_He_fill_39 (by decide) (fun c2 => ?_) (fun c2 => ?_)
      · have h := h.1 c2
        have hP : va_P G.1 CL (cw_He G h0 q0 o0 ++ ([kI G h1 5 o1] ++ ([kI G h2 5 o2]))) H := hP
        have hD : va_D A (cw_He G h0 q0 o0 ++ ([kI G h1 5 o1] ++ ([kI G h2 5 o2]))) := hD
        exact W.vret hx hb hr (fun t ht hW => ⟨⟨(o1, o2), rfl, h, by rw [ht]; exact hP, va_K.moved hW.alike hK, hD⟩, hS.F ht⟩) hS.2.2 d_He_fill_95
      · have h := h.2 c2
        refine lv_aload_n hx hb d_He_fill_42 rfl (lv_at hl 0 rfl) ?_
        refine va_get (D := G.1) (ci := 2) (v := .ref (q0 0)) (C := R_He) (T := T_He) (N := 3) hx hb hts i_He hown hK hP 0 rfl rfl 0 (by decide) (hts _ wf_He_9) (fun _ h9 => h9) rfl d_He_fill_43 ?_
        refine lv_iload hx hb d_He_fill_46 (lv_at hl 5 rfl) ?_
        have g3 := h.1
        have h := h.2
        refine xa_iald hx hb hK hP 1 0 rfl rfl g3 (k := x5.toNatClampNeg) rfl d_He_fill_48 ?_
        refine lv_iload_n hx hb d_He_fill_49 rfl (lv_at hl 1 rfl) ?_
        refine lv_iconst (v := (5 : Int32)) hx hb d_He_fill_50 (by decide) ?_
        refine lv_imul hx hb d_He_fill_51 ?_
        refine lv_isub hx hb d_He_fill_52 ?_
        refine lv_topi (fun y4 ey4 => ?_)
        have h := h y4 ey4
        refine lv_istore (lv' := [(6, .int y4), (0, .ref h0), (1, .int x1), (2, .int x2), (3, .ref h1), (4, .ref h2), (5, .int x5)]) hx hb d_He_fill_53 hl (by decide) rfl (fun ls hl => ?_)
        refine lv_iload hx hb d_He_fill_55 (lv_at hl 0 rfl) ?_
        refine lv_if_lt (tgt := 89) hx hb d_He_fill_57 (by decide) (fun c5 => ?_) (fun c5 => ?_)
        · have h := h.1 c5
          refine lv_iinc (v := (x5 + (1 : Int32))) (lv' := [(5, .int (x5 + (1 : Int32))), (6, .int y4), (0, .ref h0), (1, .int x1), (2, .int x2), (3, .ref h1), (4, .ref h2)]) hx hb d_He_fill_89 hl (k := 6) rfl rfl (by decide) rfl (fun ls hl => ?_)
          refine lv_goto (tgt := 29) hx hb d_He_fill_92 (by decide) ?_
          have hl := lv_sub (l' := [(0, .ref h0), (1, .int x1), (2, .int x2), (3, .ref h1), (4, .ref h2), (5, .int (x5 + (1 : Int32)))]) hl [2, 3, 4, 5, 6, 0] rfl
          have hP : va_P G.1 CL (cw_He G h0 q0 o0 ++ ([kI G h1 5 o1] ++ ([kI G h2 5 o2]))) H := hP
          have hD : va_D A (cw_He G h0 q0 o0 ++ ([kI G h1 5 o1] ++ ([kI G h2 5 o2]))) := hD
          exact ih x1 x2 (x5 + (1 : Int32)) o1 o2 ls H locs hl hP hD hS h
        · have h := h.2 c5
          refine lv_iload hx hb d_He_fill_60 (lv_at hl 0 rfl) ?_
          refine lv_iconst (v := (5 : Int32)) hx hb d_He_fill_62 (by decide) ?_
          refine lv_icmp_ge (tgt := 89) hx hb d_He_fill_63 (by decide) (fun c6 => ?_) (fun c6 => ?_)
          · have h := h.1 c6
            refine lv_iinc (v := (x5 + (1 : Int32))) (lv' := [(5, .int (x5 + (1 : Int32))), (6, .int y4), (0, .ref h0), (1, .int x1), (2, .int x2), (3, .ref h1), (4, .ref h2)]) hx hb d_He_fill_89 hl (k := 6) rfl rfl (by decide) rfl (fun ls hl => ?_)
            refine lv_goto (tgt := 29) hx hb d_He_fill_92 (by decide) ?_
            have hl := lv_sub (l' := [(0, .ref h0), (1, .int x1), (2, .int x2), (3, .ref h1), (4, .ref h2), (5, .int (x5 + (1 : Int32)))]) hl [2, 3, 4, 5, 6, 0] rfl
            have hP : va_P G.1 CL (cw_He G h0 q0 o0 ++ ([kI G h1 5 o1] ++ ([kI G h2 5 o2]))) H := hP
            have hD : va_D A (cw_He G h0 q0 o0 ++ ([kI G h1 5 o1] ++ ([kI G h2 5 o2]))) := hD
            exact ih x1 x2 (x5 + (1 : Int32)) o1 o2 ls H locs hl hP hD hS h
          · have h := h.2 c6
            refine lv_aload_n hx hb d_He_fill_66 rfl (lv_at hl 4 rfl) ?_
            refine lv_iload hx hb d_He_fill_67 (lv_at hl 0 rfl) ?_
            refine lv_aload_n hx hb d_He_fill_69 rfl (lv_at hl 1 rfl) ?_
            refine va_get (D := G.1) (ci := 2) (v := .ref (q0 1)) (C := R_He) (T := T_He) (N := 3) hx hb hts i_He hown hK hP 0 rfl rfl 1 (by decide) (hts _ wf_He_15) (fun _ h9 => h9) rfl d_He_fill_70 ?_
            refine lv_iload hx hb d_He_fill_73 (lv_at hl 6 rfl) ?_
            have g7 := h.1
            have h := h.2
            refine xa_iald hx hb hK hP 2 0 rfl rfl g7 (k := x5.toNatClampNeg) rfl d_He_fill_75 ?_
            have g8 := h.1
            have h := h.2
            refine xa_iast hx hb hK hP hD hS 4 0 rfl rfl g8 (k := y4.toNatClampNeg) rfl d_He_fill_76 (fun H locs hP hD hS => ?_)
            have hP : va_P G.1 CL [(h0, .inr (2, [.ref (q0 0), .ref (q0 1), .ref (q0 2)])), kI G (q0 0) 100 (gA o0 0), kI G (q0 1) 100 (gA o0 1), kI G (q0 2) 100 (gA o0 2), kI G h1 5 (upd o1 y4.toNatClampNeg ((gA o0 1) x5.toNatClampNeg)), kI G h2 5 o2] H := hP
            have hD : va_D A [(h0, .inr (2, [.ref (q0 0), .ref (q0 1), .ref (q0 2)])), kI G (q0 0) 100 (gA o0 0), kI G (q0 1) 100 (gA o0 1), kI G (q0 2) 100 (gA o0 2), kI G h1 5 (upd o1 y4.toNatClampNeg ((gA o0 1) x5.toNatClampNeg)), kI G h2 5 o2] := hD
            refine lv_aload hx hb d_He_fill_77 (lv_at hl 5 rfl) ?_
            refine lv_iload hx hb d_He_fill_79 (lv_at hl 0 rfl) ?_
            refine lv_aload_n hx hb d_He_fill_81 rfl (lv_at hl 1 rfl) ?_
            refine va_get (D := G.1) (ci := 2) (v := .ref (q0 2)) (C := R_He) (T := T_He) (N := 3) hx hb hts i_He hown hK hP 0 rfl rfl 2 (by decide) (hts _ wf_He_18) (fun _ h9 => h9) rfl d_He_fill_82 ?_
            refine lv_iload hx hb d_He_fill_85 (lv_at hl 6 rfl) ?_
            have g9 := h.1
            have h := h.2
            refine xa_iald hx hb hK hP 3 0 rfl rfl g9 (k := x5.toNatClampNeg) rfl d_He_fill_87 ?_
            have g10 := h.1
            have h := h.2
            refine xa_iast hx hb hK hP hD hS 5 0 rfl rfl g10 (k := y4.toNatClampNeg) rfl d_He_fill_88 (fun H locs hP hD hS => ?_)
            have hP : va_P G.1 CL [(h0, .inr (2, [.ref (q0 0), .ref (q0 1), .ref (q0 2)])), kI G (q0 0) 100 (gA o0 0), kI G (q0 1) 100 (gA o0 1), kI G (q0 2) 100 (gA o0 2), kI G h1 5 (upd o1 y4.toNatClampNeg ((gA o0 1) x5.toNatClampNeg)), kI G h2 5 (upd o2 y4.toNatClampNeg ((gA o0 2) x5.toNatClampNeg))] H := hP
            have hD : va_D A [(h0, .inr (2, [.ref (q0 0), .ref (q0 1), .ref (q0 2)])), kI G (q0 0) 100 (gA o0 0), kI G (q0 1) 100 (gA o0 1), kI G (q0 2) 100 (gA o0 2), kI G h1 5 (upd o1 y4.toNatClampNeg ((gA o0 1) x5.toNatClampNeg)), kI G h2 5 (upd o2 y4.toNatClampNeg ((gA o0 2) x5.toNatClampNeg))] := hD
            refine lv_iinc (v := (x5 + (1 : Int32))) (lv' := [(5, .int (x5 + (1 : Int32))), (6, .int y4), (0, .ref h0), (1, .int x1), (2, .int x2), (3, .ref h1), (4, .ref h2)]) hx hb d_He_fill_89 hl (k := 6) rfl rfl (by decide) rfl (fun ls hl => ?_)
            refine lv_goto (tgt := 29) hx hb d_He_fill_92 (by decide) ?_
            have hl := lv_sub (l' := [(0, .ref h0), (1, .int x1), (2, .int x2), (3, .ref h1), (4, .ref h2), (5, .int (x5 + (1 : Int32)))]) hl [2, 3, 4, 5, 6, 0] rfl
            have hP : va_P G.1 CL (cw_He G h0 q0 o0 ++ ([kI G h1 5 (upd o1 y4.toNatClampNeg ((gA o0 1) x5.toNatClampNeg))] ++ ([kI G h2 5 (upd o2 y4.toNatClampNeg ((gA o0 2) x5.toNatClampNeg))]))) H := hP
            have hD : va_D A (cw_He G h0 q0 o0 ++ ([kI G h1 5 (upd o1 y4.toNatClampNeg ((gA o0 1) x5.toNatClampNeg))] ++ ([kI G h2 5 (upd o2 y4.toNatClampNeg ((gA o0 2) x5.toNatClampNeg))]))) := hD
            exact ih x1 x2 (x5 + (1 : Int32)) (upd o1 y4.toNatClampNeg ((gA o0 1) x5.toNatClampNeg)) (upd o2 y4.toNatClampNeg ((gA o0 2) x5.toNatClampNeg)) ls H locs hl hP hD hS h
set_option maxHeartbeats 4000000 in
set_option maxRecDepth 100000 in
theorem t_He_fill_3 {p : Program} {l : Launch} {e : Env} {s : State} {m : MethodId} {args : Array Value} {below : List Frame} {meth : Method} {c : Code} {A : Nat → Prop} {G : Gl} {h0 : Nat} {h1 : Nat} {h2 : Nat} {q0 : Nat → Nat} (o0 : Ob) (Q : (Nat → Int32) → (Nat → Int32) → Prop) (C : Cx p s m args meth c R_He b_He_fill 7 none G A) :
    ∀ (n : Nat) (x1 : Int32) (x2 : Int32) (x5 : Int32) (o1 : (Nat → Int32)) (o2 : (Nat → Int32)) (ls : Array Slot) (H : Heap) (locs : List Loc), lv_has ls 7 [(0, .ref h0), (1, .int x1), (2, .int x2), (3, .ref h1), (4, .ref h2), (5, .int x5)] → va_P G.1 CL (cw_He G h0 q0 o0 ++ ([kI G h1 5 o1] ++ ([kI G h2 5 o2]))) H → va_D A (cw_He G h0 q0 o0 ++ ([kI G h1 5 o1] ++ ([kI G h2 5 o2]))) → va_S A s.heap H locs → f_He_fill_3 o0 Q n x1 x2 x5 o1 o2 → W p l e rm_He_fill s m args below meth c H locs 0 0 (MQ below (va_Qv (fun (u : (Nat → Int32) × (Nat → Int32)) => Q u.1 u.2) (fun (u : (Nat → Int32) × (Nat → Int32)) t => BW G A (cw_He G h0 q0 o0 ++ ([kI G h1 5 u.1] ++ ([kI G h2 5 u.2]))) t) A) args s 0 0 A) (F0 m 3 ls []) := by
  obtain ⟨hx, hb, hml, hown, hr, hts, hK, hA, hlocks, hE⟩ := id C
  intro n
  induction n with
  | zero => intro x1 x2 x5 o1 o2 ls H locs hl hP hD hS h; exact absurd h id
  | succ n ih =>
    intro x1 x2 x5 o1 o2 ls H locs hl hP hD hS h
    have hP : va_P G.1 CL [(h0, .inr (2, [.ref (q0 0), .ref (q0 1), .ref (q0 2)])), kI G (q0 0) 100 (gA o0 0), kI G (q0 1) 100 (gA o0 1), kI G (q0 2) 100 (gA o0 2), kI G h1 5 o1, kI G h2 5 o2] H := hP
    have hD : va_D A [(h0, .inr (2, [.ref (q0 0), .ref (q0 1), .ref (q0 2)])), kI G (q0 0) 100 (gA o0 0), kI G (q0 1) 100 (gA o0 1), kI G (q0 2) 100 (gA o0 2), kI G h1 5 o1, kI G h2 5 o2] := hD
    unfold f_He_fill_3 at h
    refine lv_iload hx hb d_He_fill_3 (lv_at hl 5 rfl) ?_
    refine lv_iconst (v := (5 : Int32)) hx hb d_He_fill_5 (by decide) ?_
    refine lv_icmp_ge (tgt := 26) hx hb d_He_fill_6 (by decide) (fun c11 => ?_) (fun c11 => ?_)
    · have h := h.1 c11
      refine lv_iconst (v := (0 : Int32)) hx hb d_He_fill_26 (by decide) ?_
      refine lv_istore (lv' := [(5, .int (0 : Int32)), (0, .ref h0), (1, .int x1), (2, .int x2), (3, .ref h1), (4, .ref h2)]) hx hb d_He_fill_27 hl (by decide) rfl (fun ls hl => ?_)
      have hl := lv_sub (l' := [(0, .ref h0), (1, .int x1), (2, .int x2), (3, .ref h1), (4, .ref h2), (5, .int (0 : Int32))]) hl [1, 2, 3, 4, 5, 0] rfl
      have hP : va_P G.1 CL (cw_He G h0 q0 o0 ++ ([kI G h1 5 o1] ++ ([kI G h2 5 o2]))) H := hP
      have hD : va_D A (cw_He G h0 q0 o0 ++ ([kI G h1 5 o1] ++ ([kI G h2 5 o2]))) := hD
      obtain ⟨w, h⟩ := h
      exact t_He_fill_29 o0 Q C w x1 x2 (0 : Int32) o1 o2 ls _ locs hl hP hD hS h
    · have h := h.2 c11
      refine lv_aload_n hx hb d_He_fill_9 rfl (lv_at hl 3 rfl) ?_
      refine lv_iload hx hb d_He_fill_10 (lv_at hl 5 rfl) ?_
      refine lv_iconst (v := (0 : Int32)) hx hb d_He_fill_12 (by decide) ?_
      have g12 := h.1
      have h := h.2
      refine xa_iast hx hb hK hP hD hS 4 0 rfl rfl g12 (k := x5.toNatClampNeg) rfl d_He_fill_13 (fun H locs hP hD hS => ?_)
      have hP : va_P G.1 CL [(h0, .inr (2, [.ref (q0 0), .ref (q0 1), .ref (q0 2)])), kI G (q0 0) 100 (gA o0 0), kI G (q0 1) 100 (gA o0 1), kI G (q0 2) 100 (gA o0 2), kI G h1 5 (upd o1 x5.toNatClampNeg (0 : Int32)), kI G h2 5 o2] H := hP
      have hD : va_D A [(h0, .inr (2, [.ref (q0 0), .ref (q0 1), .ref (q0 2)])), kI G (q0 0) 100 (gA o0 0), kI G (q0 1) 100 (gA o0 1), kI G (q0 2) 100 (gA o0 2), kI G h1 5 (upd o1 x5.toNatClampNeg (0 : Int32)), kI G h2 5 o2] := hD
      refine lv_aload hx hb d_He_fill_14 (lv_at hl 4 rfl) ?_
      refine lv_iload hx hb d_He_fill_16 (lv_at hl 5 rfl) ?_
      refine lv_iconst (v := (-1 : Int32)) hx hb d_He_fill_18 (by decide) ?_
      have g13 := h.1
      have h := h.2
      refine xa_iast hx hb hK hP hD hS 5 0 rfl rfl g13 (k := x5.toNatClampNeg) rfl d_He_fill_19 (fun H locs hP hD hS => ?_)
      have hP : va_P G.1 CL [(h0, .inr (2, [.ref (q0 0), .ref (q0 1), .ref (q0 2)])), kI G (q0 0) 100 (gA o0 0), kI G (q0 1) 100 (gA o0 1), kI G (q0 2) 100 (gA o0 2), kI G h1 5 (upd o1 x5.toNatClampNeg (0 : Int32)), kI G h2 5 (upd o2 x5.toNatClampNeg (-1 : Int32))] H := hP
      have hD : va_D A [(h0, .inr (2, [.ref (q0 0), .ref (q0 1), .ref (q0 2)])), kI G (q0 0) 100 (gA o0 0), kI G (q0 1) 100 (gA o0 1), kI G (q0 2) 100 (gA o0 2), kI G h1 5 (upd o1 x5.toNatClampNeg (0 : Int32)), kI G h2 5 (upd o2 x5.toNatClampNeg (-1 : Int32))] := hD
      refine lv_iinc (v := (x5 + (1 : Int32))) (lv' := [(5, .int (x5 + (1 : Int32))), (0, .ref h0), (1, .int x1), (2, .int x2), (3, .ref h1), (4, .ref h2)]) hx hb d_He_fill_20 hl (k := 5) rfl rfl (by decide) rfl (fun ls hl => ?_)
      refine lv_goto (tgt := 3) hx hb d_He_fill_23 (by decide) ?_
      have hl := lv_sub (l' := [(0, .ref h0), (1, .int x1), (2, .int x2), (3, .ref h1), (4, .ref h2), (5, .int (x5 + (1 : Int32)))]) hl [1, 2, 3, 4, 5, 0] rfl
      have hP : va_P G.1 CL (cw_He G h0 q0 o0 ++ ([kI G h1 5 (upd o1 x5.toNatClampNeg (0 : Int32))] ++ ([kI G h2 5 (upd o2 x5.toNatClampNeg (-1 : Int32))]))) H := hP
      have hD : va_D A (cw_He G h0 q0 o0 ++ ([kI G h1 5 (upd o1 x5.toNatClampNeg (0 : Int32))] ++ ([kI G h2 5 (upd o2 x5.toNatClampNeg (-1 : Int32))]))) := hD
      exact ih x1 x2 (x5 + (1 : Int32)) (upd o1 x5.toNatClampNeg (0 : Int32)) (upd o2 x5.toNatClampNeg (-1 : Int32)) ls H locs hl hP hD hS h
set_option maxHeartbeats 4000000 in
set_option maxRecDepth 100000 in
theorem c_He_fill {l : Launch} {G : Gl} {h0 : Nat} {h1 : Nat} {h2 : Nat} {q0 : Nat → Nat} {a0 : Int32} {a1 : Int32} {o0 : Ob} {o1 : (Nat → Int32)} {o2 : (Nat → Int32)} {Q : (Nat → Int32) → (Nat → Int32) → Prop} (sz : Nat) (h : f_He_fill a0 a1 o0 o1 o2 Q) : Met l y_He_fill w_He_fill rm_He_fill (PcW G [.ref h0, .int a0, .int a1, .ref h1, .ref h2] sz (cw_He G h0 q0 o0 ++ ([kI G h1 5 o1] ++ ([kI G h2 5 o2])))) (va_Qv (fun (u : (Nat → Int32) × (Nat → Int32)) => Q u.1 u.2) (fun (u : (Nat → Int32) × (Nat → Int32)) t => BW G (va_A (cw_He G h0 q0 o0 ++ ([kI G h1 5 o1] ++ ([kI G h2 5 o2]))) sz) (cw_He G h0 q0 o0 ++ ([kI G h1 5 u.1] ++ ([kI G h2 5 u.2]))) t) (va_A (cw_He G h0 q0 o0 ++ ([kI G h1 5 o1] ++ ([kI G h2 5 o2]))) sz)) 0 0 (va_A (cw_He G h0 q0 o0 ++ ([kI G h1 5 o1] ++ ([kI G h2 5 o2]))) sz) := by
  refine Met.ofW (cc := b_He_fill) (maxL := 7) (ret := none) (by decide +kernel) rfl ?_
  intro p e s m args below meth c s₁ B hml hv
  obtain ⟨rfl, hsz, hP, hK, hD0, hE⟩ := hv
  have hx := B.exec
  have hb := B.bytes
  have hr := B.returns
  have hts0 := atoms_spec (ws := w_He_fill) B.pre
  have hts : ∀ w ∈ gw_tbl, w.before ([.ref h0, .int a0, .int a1, .ref h1, .ref h2]).toArray s = true := fun w hw => hts0 w (List.mem_cons_of_mem _ hw)
  have hown : s.vm.findClass R_He = some m.cls := findClass_of_methodNamed B.named
  have hlocks := B.notSynchronized
  subst hsz
  have hD := hD0.self (sz := s.heap.size)
  generalize hAe : va_A (cw_He G h0 q0 o0 ++ ([kI G h1 5 o1] ++ ([kI G h2 5 o2]))) s.heap.size = A at hD hE ⊢
  have hA : ∀ q : Nat, s.heap.size ≤ q → A q := fun q h => by rw [← hAe]; exact Or.inr h
  have hS : va_S A s.heap s.heap [] := va_S.rf
  have C : Cx p s m ([.ref h0, .int a0, .int a1, .ref h1, .ref h2]).toArray meth c R_He b_He_fill 7 none G A := ⟨hx, hb, hml, hown, hr, hts, hK, hA, hlocks, hE⟩
  have hl := lv_entry ([.ref h0, .int a0, .int a1, .ref h1, .ref h2]) (n := 7) (Nat.le_of_ble_eq_true rfl)
  rw [lg_entry_eq]
  generalize (lg_sl ([.ref h0, .int a0, .int a1, .ref h1, .ref h2]) ++ List.replicate (7 - (lg_sl ([.ref h0, .int a0, .int a1, .ref h1, .ref h2])).length) Slot.unset).toArray = ls at hl ⊢
  have hl : lv_has ls 7 [(0, .ref h0), (1, .int a0), (2, .int a1), (3, .ref h1), (4, .ref h2)] := hl
  have hD : va_D A [(h0, .inr (2, [.ref (q0 0), .ref (q0 1), .ref (q0 2)])), kI G (q0 0) 100 (gA o0 0), kI G (q0 1) 100 (gA o0 1), kI G (q0 2) 100 (gA o0 2), kI G h1 5 o1, kI G h2 5 o2] := hD
  unfold f_He_fill at h
  suffices key : ∀ (H : Heap) (locs : List Loc), va_P G.1 CL [(h0, .inr (2, [.ref (q0 0), .ref (q0 1), .ref (q0 2)])), kI G (q0 0) 100 (gA o0 0), kI G (q0 1) 100 (gA o0 1), kI G (q0 2) 100 (gA o0 2), kI G h1 5 o1, kI G h2 5 o2] H → va_S A s.heap H locs → W p l e rm_He_fill s m ([.ref h0, .int a0, .int a1, .ref h1, .ref h2]).toArray below meth c H locs 0 0 (MQ below (va_Qv (fun (u : (Nat → Int32) × (Nat → Int32)) => Q u.1 u.2) (fun (u : (Nat → Int32) × (Nat → Int32)) t => BW G A (cw_He G h0 q0 o0 ++ ([kI G h1 5 u.1] ++ ([kI G h2 5 u.2]))) t) A) ([.ref h0, .int a0, .int a1, .ref h1, .ref h2]).toArray s 0 0 A) (F0 m 0 ls []) from key s.heap [] hP hS
  intro H locs hP hS
  refine lv_iconst (v := (0 : Int32)) hx hb d_He_fill_0 (by decide) ?_
  refine lv_istore (lv' := [(5, .int (0 : Int32)), (0, .ref h0), (1, .int a0), (2, .int a1), (3, .ref h1), (4, .ref h2)]) hx hb d_He_fill_1 hl (by decide) rfl (fun ls hl => ?_)
  have hl := lv_sub (l' := [(0, .ref h0), (1, .int a0), (2, .int a1), (3, .ref h1), (4, .ref h2), (5, .int (0 : Int32))]) hl [1, 2, 3, 4, 5, 0] rfl
  have hP : va_P G.1 CL (cw_He G h0 q0 o0 ++ ([kI G h1 5 o1] ++ ([kI G h2 5 o2]))) H := hP
  have hD : va_D A (cw_He G h0 q0 o0 ++ ([kI G h1 5 o1] ++ ([kI G h2 5 o2]))) := hD
  obtain ⟨w, h⟩ := h
  exact t_He_fill_3 o0 Q C w a0 a1 (0 : Int32) o1 o2 ls _ locs hl hP hD hS h
abbrev b_La_clear : ByteArray := prog_4_method_2_code
def y_La_clear : MethodName := ⟨R_La, "clear", "()V"⟩
abbrev w_La_clear : List Cond := Cond.code y_La_clear b_La_clear 2 none :: gw_tbl
theorem d_La_clear_0 : decode b_La_clear 0 = .ok (.iconst 0, 1) := by decide +kernel
theorem d_La_clear_1 : decode b_La_clear 1 = .ok (.istore_n 1, 1) := by decide +kernel
theorem d_La_clear_2 : decode b_La_clear 2 = .ok (.iload_n 1, 1) := by decide +kernel
theorem d_La_clear_3 : decode b_La_clear 3 = .ok (.iconst 5, 1) := by decide +kernel
theorem d_La_clear_4 : decode b_La_clear 4 = .ok (.if_icmp .ge 17, 3) := by decide +kernel
theorem d_La_clear_7 : decode b_La_clear 7 = .ok (.aload_n 0, 1) := by decide +kernel
theorem d_La_clear_8 : decode b_La_clear 8 = .ok (.getfield 9, 3) := by decide +kernel
theorem d_La_clear_11 : decode b_La_clear 11 = .ok (.iload_n 1, 1) := by decide +kernel
theorem d_La_clear_12 : decode b_La_clear 12 = .ok (.bipush 6, 2) := by decide +kernel
theorem d_La_clear_14 : decode b_La_clear 14 = .ok (.iastore, 1) := by decide +kernel
theorem d_La_clear_15 : decode b_La_clear 15 = .ok (.iinc 1 1, 3) := by decide +kernel
theorem d_La_clear_18 : decode b_La_clear 18 = .ok (.goto (-16), 3) := by decide +kernel
theorem d_La_clear_21 : decode b_La_clear 21 = .ok (.iconst 0, 1) := by decide +kernel
theorem d_La_clear_22 : decode b_La_clear 22 = .ok (.istore_n 1, 1) := by decide +kernel
theorem d_La_clear_23 : decode b_La_clear 23 = .ok (.iload_n 1, 1) := by decide +kernel
theorem d_La_clear_24 : decode b_La_clear 24 = .ok (.bipush 8, 2) := by decide +kernel
theorem d_La_clear_26 : decode b_La_clear 26 = .ok (.if_icmp .ge 16, 3) := by decide +kernel
theorem d_La_clear_29 : decode b_La_clear 29 = .ok (.aload_n 0, 1) := by decide +kernel
theorem d_La_clear_30 : decode b_La_clear 30 = .ok (.getfield 33, 3) := by decide +kernel
theorem d_La_clear_33 : decode b_La_clear 33 = .ok (.iload_n 1, 1) := by decide +kernel
theorem d_La_clear_34 : decode b_La_clear 34 = .ok (.iconst 0, 1) := by decide +kernel
theorem d_La_clear_35 : decode b_La_clear 35 = .ok (.iastore, 1) := by decide +kernel
theorem d_La_clear_36 : decode b_La_clear 36 = .ok (.iinc 1 1, 3) := by decide +kernel
theorem d_La_clear_39 : decode b_La_clear 39 = .ok (.goto (-16), 3) := by decide +kernel
theorem d_La_clear_42 : decode b_La_clear 42 = .ok (.aload_n 0, 1) := by decide +kernel
theorem d_La_clear_43 : decode b_La_clear 43 = .ok (.iconst 0, 1) := by decide +kernel
theorem d_La_clear_44 : decode b_La_clear 44 = .ok (.putfield 45, 3) := by decide +kernel
theorem d_La_clear_47 : decode b_La_clear 47 = .ok (.aload_n 0, 1) := by decide +kernel
theorem d_La_clear_48 : decode b_La_clear 48 = .ok (.bipush 100, 2) := by decide +kernel
theorem d_La_clear_50 : decode b_La_clear 50 = .ok (.putfield 49, 3) := by decide +kernel
theorem d_La_clear_53 : decode b_La_clear 53 = .ok (.aload_n 0, 1) := by decide +kernel
theorem d_La_clear_54 : decode b_La_clear 54 = .ok (.bipush 100, 2) := by decide +kernel
theorem d_La_clear_56 : decode b_La_clear 56 = .ok (.putfield 52, 3) := by decide +kernel
theorem d_La_clear_59 : decode b_La_clear 59 = .ok (.aload_n 0, 1) := by decide +kernel
theorem d_La_clear_60 : decode b_La_clear 60 = .ok (.iconst 0, 1) := by decide +kernel
theorem d_La_clear_61 : decode b_La_clear 61 = .ok (.putfield 55, 3) := by decide +kernel
theorem d_La_clear_64 : decode b_La_clear 64 = .ok (.aload_n 0, 1) := by decide +kernel
theorem d_La_clear_65 : decode b_La_clear 65 = .ok (.iconst 0, 1) := by decide +kernel
theorem d_La_clear_66 : decode b_La_clear 66 = .ok (.putfield 58, 3) := by decide +kernel
theorem d_La_clear_69 : decode b_La_clear 69 = .ok (.return_, 1) := by decide +kernel
theorem wf_La_9 : Cond.fieldLink R_La 9 R_La "rest" "[I" ∈ gw_tbl := gw_tb (List.mem_of_getElem? (i := 63) (by decide +kernel)) rfl
theorem wf_La_45 : Cond.fieldLink R_La 45 R_La "loss" "I" ∈ gw_tbl := gw_tb (List.mem_of_getElem? (i := 67) (by decide +kernel)) rfl
theorem wf_La_49 : Cond.fieldLink R_La 49 R_La "lips" "I" ∈ gw_tbl := gw_tb (List.mem_of_getElem? (i := 71) (by decide +kernel)) rfl
theorem wf_La_52 : Cond.fieldLink R_La 52 R_La "back" "I" ∈ gw_tbl := gw_tb (List.mem_of_getElem? (i := 76) (by decide +kernel)) rfl
theorem wf_La_55 : Cond.fieldLink R_La 55 R_La "clauses" "I" ∈ gw_tbl := gw_tb (List.mem_of_getElem? (i := 79) (by decide +kernel)) rfl
theorem wf_La_58 : Cond.fieldLink R_La 58 R_La "gestures" "I" ∈ gw_tbl := gw_tb (List.mem_of_getElem? (i := 82) (by decide +kernel)) rfl
theorem wf_La_33 : Cond.fieldLink R_La 33 R_La "itemsOf" "[I" ∈ gw_tbl := gw_tb (List.mem_of_getElem? (i := 104) (by decide +kernel)) rfl
def f_La_clear_23 (Q : Ob → Prop) : Nat → Int32 → Ob → Prop
  | 0, _, _ => False
  | n + 1, x1, o0 => ((8 : Int32) ≤ x1 → (Q (sI (sI (sI (sI (sI o0 1 (0 : Int32)) 2 (100 : Int32)) 3 (100 : Int32)) 4 (0 : Int32)) 5 (0 : Int32)))) ∧ (¬ (8 : Int32) ≤ x1 → ((vp_in x1 8) ∧ ((f_La_clear_23 Q n) (x1 + (1 : Int32)) (sA o0 12 (upd (gA o0 12) x1.toNatClampNeg (0 : Int32))))))
def f_La_clear_2 (Q : Ob → Prop) : Nat → Int32 → Ob → Prop
  | 0, _, _ => False
  | n + 1, x1, o0 => ((5 : Int32) ≤ x1 → ((∃ w, f_La_clear_23 Q w (0 : Int32) o0))) ∧ (¬ (5 : Int32) ≤ x1 → ((vp_in x1 5) ∧ ((f_La_clear_2 Q n) (x1 + (1 : Int32)) (sA o0 0 (upd (gA o0 0) x1.toNatClampNeg (6 : Int32))))))
def f_La_clear (o0 : Ob) (Q : Ob → Prop) : Prop := (∃ w, f_La_clear_2 Q w (0 : Int32) o0)
abbrev rm_La_clear : Room := { frames := 0, cells := 0, slots := 0, locals := 0 }
set_option maxHeartbeats 4000000 in
set_option maxRecDepth 100000 in
theorem t_La_clear_23 {p : Program} {l : Launch} {e : Env} {s : State} {m : MethodId} {args : Array Value} {below : List Frame} {meth : Method} {c : Code} {A : Nat → Prop} {G : Gl} {h0 : Nat} {q0 : Nat → Nat} (Q : Ob → Prop) (C : Cx p s m args meth c R_La b_La_clear 2 none G A) :
    ∀ (n : Nat) (x1 : Int32) (o0 : Ob) (ls : Array Slot) (H : Heap) (locs : List Loc), lv_has ls 2 [(0, .ref h0), (1, .int x1)] → va_P G.1 CL (cw_La G h0 q0 o0) H → va_D A (cw_La G h0 q0 o0) → va_S A s.heap H locs → f_La_clear_23 Q n x1 o0 → W p l e rm_La_clear s m args below meth c H locs 0 0 (MQ below (va_Qv (fun (u : Ob) => Q u) (fun (u : Ob) t => BW G A (cw_La G h0 q0 u) t) A) args s 0 0 A) (F0 m 23 ls []) := by
  obtain ⟨hx, hb, hml, hown, hr, hts, hK, hA, hlocks, hE⟩ := id C
  intro n
  induction n with
  | zero => intro x1 o0 ls H locs hl hP hD hS h; exact absurd h id
  | succ n ih =>
    intro x1 o0 ls H locs hl hP hD hS h
    have hP : va_P G.1 CL [(h0, .inr (3, [.ref (q0 0), .int (gI o0 1), .int (gI o0 2), .int (gI o0 3), .int (gI o0 4), .int (gI o0 5), .ref (q0 6), .ref (q0 7), .ref (q0 8), .ref (q0 9), .ref (q0 10), .ref (q0 11), .ref (q0 12), .ref (q0 13), .ref (q0 14)])), kI G (q0 0) 5 (gA o0 0), kI G (q0 6) 20 (gA o0 6), kI G (q0 7) 20 (gA o0 7), kI G (q0 8) 20 (gA o0 8), kI G (q0 9) 20 (gA o0 9), kI G (q0 10) 20 (gA o0 10), kI G (q0 11) 20 (gA o0 11), kI G (q0 12) 8 (gA o0 12), kI G (q0 13) 64 (gA o0 13), kI G (q0 14) 64 (gA o0 14)] H := hP
    have hD : va_D A [(h0, .inr (3, [.ref (q0 0), .int (gI o0 1), .int (gI o0 2), .int (gI o0 3), .int (gI o0 4), .int (gI o0 5), .ref (q0 6), .ref (q0 7), .ref (q0 8), .ref (q0 9), .ref (q0 10), .ref (q0 11), .ref (q0 12), .ref (q0 13), .ref (q0 14)])), kI G (q0 0) 5 (gA o0 0), kI G (q0 6) 20 (gA o0 6), kI G (q0 7) 20 (gA o0 7), kI G (q0 8) 20 (gA o0 8), kI G (q0 9) 20 (gA o0 9), kI G (q0 10) 20 (gA o0 10), kI G (q0 11) 20 (gA o0 11), kI G (q0 12) 8 (gA o0 12), kI G (q0 13) 64 (gA o0 13), kI G (q0 14) 64 (gA o0 14)] := hD
    unfold f_La_clear_23 at h
    refine lv_iload_n hx hb d_La_clear_23 rfl (lv_at hl 1 rfl) ?_
    refine lv_bipush (v := (8 : Int32)) hx hb d_La_clear_24 (by decide) ?_
    refine lv_icmp_ge (tgt := 42) hx hb d_La_clear_26 (by decide) (fun c1 => ?_) (fun c1 => ?_)
    · have h := h.1 c1
      refine lv_aload_n hx hb d_La_clear_42 rfl (lv_at hl 0 rfl) ?_
      refine lv_iconst (v := (0 : Int32)) hx hb d_La_clear_43 (by decide) ?_
      refine va_put (D := G.1) (ci := 3) (v := .int (0 : Int32)) (ty := .int) (C := R_La) (T := T_La) (N := 15) hx hb hts i_La ty_La ty_La_ok nm_La hown hK hP hD hS 0 rfl rfl 1 (by decide) (hts _ wf_La_45) (fun _ h9 => h9) rfl (ty_La_ok 1 (by decide)) rfl rfl (Nat.le_of_ble_eq_true rfl) d_La_clear_44 (fun H locs hP hD hS => ?_)
      have hP : va_P G.1 CL [(h0, .inr (3, [.ref (q0 0), .int (0 : Int32), .int (gI o0 2), .int (gI o0 3), .int (gI o0 4), .int (gI o0 5), .ref (q0 6), .ref (q0 7), .ref (q0 8), .ref (q0 9), .ref (q0 10), .ref (q0 11), .ref (q0 12), .ref (q0 13), .ref (q0 14)])), kI G (q0 0) 5 (gA o0 0), kI G (q0 6) 20 (gA o0 6), kI G (q0 7) 20 (gA o0 7), kI G (q0 8) 20 (gA o0 8), kI G (q0 9) 20 (gA o0 9), kI G (q0 10) 20 (gA o0 10), kI G (q0 11) 20 (gA o0 11), kI G (q0 12) 8 (gA o0 12), kI G (q0 13) 64 (gA o0 13), kI G (q0 14) 64 (gA o0 14)] H := hP
      have hD : va_D A [(h0, .inr (3, [.ref (q0 0), .int (0 : Int32), .int (gI o0 2), .int (gI o0 3), .int (gI o0 4), .int (gI o0 5), .ref (q0 6), .ref (q0 7), .ref (q0 8), .ref (q0 9), .ref (q0 10), .ref (q0 11), .ref (q0 12), .ref (q0 13), .ref (q0 14)])), kI G (q0 0) 5 (gA o0 0), kI G (q0 6) 20 (gA o0 6), kI G (q0 7) 20 (gA o0 7), kI G (q0 8) 20 (gA o0 8), kI G (q0 9) 20 (gA o0 9), kI G (q0 10) 20 (gA o0 10), kI G (q0 11) 20 (gA o0 11), kI G (q0 12) 8 (gA o0 12), kI G (q0 13) 64 (gA o0 13), kI G (q0 14) 64 (gA o0 14)] := hD
      refine lv_aload_n hx hb d_La_clear_47 rfl (lv_at hl 0 rfl) ?_
      refine lv_bipush (v := (100 : Int32)) hx hb d_La_clear_48 (by decide) ?_
      refine va_put (D := G.1) (ci := 3) (v := .int (100 : Int32)) (ty := .int) (C := R_La) (T := T_La) (N := 15) hx hb hts i_La ty_La ty_La_ok nm_La hown hK hP hD hS 0 rfl rfl 2 (by decide) (hts _ wf_La_49) (fun _ h9 => h9) rfl (ty_La_ok 2 (by decide)) rfl rfl (Nat.le_of_ble_eq_true rfl) d_La_clear_50 (fun H locs hP hD hS => ?_)
      have hP : va_P G.1 CL [(h0, .inr (3, [.ref (q0 0), .int (0 : Int32), .int (100 : Int32), .int (gI o0 3), .int (gI o0 4), .int (gI o0 5), .ref (q0 6), .ref (q0 7), .ref (q0 8), .ref (q0 9), .ref (q0 10), .ref (q0 11), .ref (q0 12), .ref (q0 13), .ref (q0 14)])), kI G (q0 0) 5 (gA o0 0), kI G (q0 6) 20 (gA o0 6), kI G (q0 7) 20 (gA o0 7), kI G (q0 8) 20 (gA o0 8), kI G (q0 9) 20 (gA o0 9), kI G (q0 10) 20 (gA o0 10), kI G (q0 11) 20 (gA o0 11), kI G (q0 12) 8 (gA o0 12), kI G (q0 13) 64 (gA o0 13), kI G (q0 14) 64 (gA o0 14)] H := hP
      have hD : va_D A [(h0, .inr (3, [.ref (q0 0), .int (0 : Int32), .int (100 : Int32), .int (gI o0 3), .int (gI o0 4), .int (gI o0 5), .ref (q0 6), .ref (q0 7), .ref (q0 8), .ref (q0 9), .ref (q0 10), .ref (q0 11), .ref (q0 12), .ref (q0 13), .ref (q0 14)])), kI G (q0 0) 5 (gA o0 0), kI G (q0 6) 20 (gA o0 6), kI G (q0 7) 20 (gA o0 7), kI G (q0 8) 20 (gA o0 8), kI G (q0 9) 20 (gA o0 9), kI G (q0 10) 20 (gA o0 10), kI G (q0 11) 20 (gA o0 11), kI G (q0 12) 8 (gA o0 12), kI G (q0 13) 64 (gA o0 13), kI G (q0 14) 64 (gA o0 14)] := hD
      refine lv_aload_n hx hb d_La_clear_53 rfl (lv_at hl 0 rfl) ?_
      refine lv_bipush (v := (100 : Int32)) hx hb d_La_clear_54 (by decide) ?_
      refine va_put (D := G.1) (ci := 3) (v := .int (100 : Int32)) (ty := .int) (C := R_La) (T := T_La) (N := 15) hx hb hts i_La ty_La ty_La_ok nm_La hown hK hP hD hS 0 rfl rfl 3 (by decide) (hts _ wf_La_52) (fun _ h9 => h9) rfl (ty_La_ok 3 (by decide)) rfl rfl (Nat.le_of_ble_eq_true rfl) d_La_clear_56 (fun H locs hP hD hS => ?_)
      have hP : va_P G.1 CL [(h0, .inr (3, [.ref (q0 0), .int (0 : Int32), .int (100 : Int32), .int (100 : Int32), .int (gI o0 4), .int (gI o0 5), .ref (q0 6), .ref (q0 7), .ref (q0 8), .ref (q0 9), .ref (q0 10), .ref (q0 11), .ref (q0 12), .ref (q0 13), .ref (q0 14)])), kI G (q0 0) 5 (gA o0 0), kI G (q0 6) 20 (gA o0 6), kI G (q0 7) 20 (gA o0 7), kI G (q0 8) 20 (gA o0 8), kI G (q0 9) 20 (gA o0 9), kI G (q0 10) 20 (gA o0 10), kI G (q0 11) 20 (gA o0 11), kI G (q0 12) 8 (gA o0 12), kI G (q0 13) 64 (gA o0 13), kI G (q0 14) 64 (gA o0 14)] H := hP
      have hD : va_D A [(h0, .inr (3, [.ref (q0 0), .int (0 : Int32), .int (100 : Int32), .int (100 : Int32), .int (gI o0 4), .int (gI o0 5), .ref (q0 6), .ref (q0 7), .ref (q0 8), .ref (q0 9), .ref (q0 10), .ref (q0 11), .ref (q0 12), .ref (q0 13), .ref (q0 14)])), kI G (q0 0) 5 (gA o0 0), kI G (q0 6) 20 (gA o0 6), kI G (q0 7) 20 (gA o0 7), kI G (q0 8) 20 (gA o0 8), kI G (q0 9) 20 (gA o0 9), kI G (q0 10) 20 (gA o0 10), kI G (q0 11) 20 (gA o0 11), kI G (q0 12) 8 (gA o0 12), kI G (q0 13) 64 (gA o0 13), kI G (q0 14) 64 (gA o0 14)] := hD
      refine lv_aload_n hx hb d_La_clear_59 rfl (lv_at hl 0 rfl) ?_
      refine lv_iconst (v := (0 : Int32)) hx hb d_La_clear_60 (by decide) ?_
      refine va_put (D := G.1) (ci := 3) (v := .int (0 : Int32)) (ty := .int) (C := R_La) (T := T_La) (N := 15) hx hb hts i_La ty_La ty_La_ok nm_La hown hK hP hD hS 0 rfl rfl 4 (by decide) (hts _ wf_La_55) (fun _ h9 => h9) rfl (ty_La_ok 4 (by decide)) rfl rfl (Nat.le_of_ble_eq_true rfl) d_La_clear_61 (fun H locs hP hD hS => ?_)
      have hP : va_P G.1 CL [(h0, .inr (3, [.ref (q0 0), .int (0 : Int32), .int (100 : Int32), .int (100 : Int32), .int (0 : Int32), .int (gI o0 5), .ref (q0 6), .ref (q0 7), .ref (q0 8), .ref (q0 9), .ref (q0 10), .ref (q0 11), .ref (q0 12), .ref (q0 13), .ref (q0 14)])), kI G (q0 0) 5 (gA o0 0), kI G (q0 6) 20 (gA o0 6), kI G (q0 7) 20 (gA o0 7), kI G (q0 8) 20 (gA o0 8), kI G (q0 9) 20 (gA o0 9), kI G (q0 10) 20 (gA o0 10), kI G (q0 11) 20 (gA o0 11), kI G (q0 12) 8 (gA o0 12), kI G (q0 13) 64 (gA o0 13), kI G (q0 14) 64 (gA o0 14)] H := hP
      have hD : va_D A [(h0, .inr (3, [.ref (q0 0), .int (0 : Int32), .int (100 : Int32), .int (100 : Int32), .int (0 : Int32), .int (gI o0 5), .ref (q0 6), .ref (q0 7), .ref (q0 8), .ref (q0 9), .ref (q0 10), .ref (q0 11), .ref (q0 12), .ref (q0 13), .ref (q0 14)])), kI G (q0 0) 5 (gA o0 0), kI G (q0 6) 20 (gA o0 6), kI G (q0 7) 20 (gA o0 7), kI G (q0 8) 20 (gA o0 8), kI G (q0 9) 20 (gA o0 9), kI G (q0 10) 20 (gA o0 10), kI G (q0 11) 20 (gA o0 11), kI G (q0 12) 8 (gA o0 12), kI G (q0 13) 64 (gA o0 13), kI G (q0 14) 64 (gA o0 14)] := hD
      refine lv_aload_n hx hb d_La_clear_64 rfl (lv_at hl 0 rfl) ?_
      refine lv_iconst (v := (0 : Int32)) hx hb d_La_clear_65 (by decide) ?_
      refine va_put (D := G.1) (ci := 3) (v := .int (0 : Int32)) (ty := .int) (C := R_La) (T := T_La) (N := 15) hx hb hts i_La ty_La ty_La_ok nm_La hown hK hP hD hS 0 rfl rfl 5 (by decide) (hts _ wf_La_58) (fun _ h9 => h9) rfl (ty_La_ok 5 (by decide)) rfl rfl (Nat.le_of_ble_eq_true rfl) d_La_clear_66 (fun H locs hP hD hS => ?_)
      have hP : va_P G.1 CL [(h0, .inr (3, [.ref (q0 0), .int (0 : Int32), .int (100 : Int32), .int (100 : Int32), .int (0 : Int32), .int (0 : Int32), .ref (q0 6), .ref (q0 7), .ref (q0 8), .ref (q0 9), .ref (q0 10), .ref (q0 11), .ref (q0 12), .ref (q0 13), .ref (q0 14)])), kI G (q0 0) 5 (gA o0 0), kI G (q0 6) 20 (gA o0 6), kI G (q0 7) 20 (gA o0 7), kI G (q0 8) 20 (gA o0 8), kI G (q0 9) 20 (gA o0 9), kI G (q0 10) 20 (gA o0 10), kI G (q0 11) 20 (gA o0 11), kI G (q0 12) 8 (gA o0 12), kI G (q0 13) 64 (gA o0 13), kI G (q0 14) 64 (gA o0 14)] H := hP
      have hD : va_D A [(h0, .inr (3, [.ref (q0 0), .int (0 : Int32), .int (100 : Int32), .int (100 : Int32), .int (0 : Int32), .int (0 : Int32), .ref (q0 6), .ref (q0 7), .ref (q0 8), .ref (q0 9), .ref (q0 10), .ref (q0 11), .ref (q0 12), .ref (q0 13), .ref (q0 14)])), kI G (q0 0) 5 (gA o0 0), kI G (q0 6) 20 (gA o0 6), kI G (q0 7) 20 (gA o0 7), kI G (q0 8) 20 (gA o0 8), kI G (q0 9) 20 (gA o0 9), kI G (q0 10) 20 (gA o0 10), kI G (q0 11) 20 (gA o0 11), kI G (q0 12) 8 (gA o0 12), kI G (q0 13) 64 (gA o0 13), kI G (q0 14) 64 (gA o0 14)] := hD
      have hP : va_P G.1 CL (cw_La G h0 q0 (sI (sI (sI (sI (sI o0 1 (0 : Int32)) 2 (100 : Int32)) 3 (100 : Int32)) 4 (0 : Int32)) 5 (0 : Int32))) H := hP
      have hD : va_D A (cw_La G h0 q0 (sI (sI (sI (sI (sI o0 1 (0 : Int32)) 2 (100 : Int32)) 3 (100 : Int32)) 4 (0 : Int32)) 5 (0 : Int32))) := hD
      exact W.vret hx hb hr (fun t ht hW => ⟨⟨(sI (sI (sI (sI (sI o0 1 (0 : Int32)) 2 (100 : Int32)) 3 (100 : Int32)) 4 (0 : Int32)) 5 (0 : Int32)), rfl, h, by rw [ht]; exact hP, va_K.moved hW.alike hK, hD⟩, hS.F ht⟩) hS.2.2 d_La_clear_69
    · have h := h.2 c1
      refine lv_aload_n hx hb d_La_clear_29 rfl (lv_at hl 0 rfl) ?_
      refine va_get (D := G.1) (ci := 3) (v := .ref (q0 12)) (C := R_La) (T := T_La) (N := 15) hx hb hts i_La hown hK hP 0 rfl rfl 12 (by decide) (hts _ wf_La_33) (fun _ h9 => h9) rfl d_La_clear_30 ?_
      refine lv_iload_n hx hb d_La_clear_33 rfl (lv_at hl 1 rfl) ?_
      refine lv_iconst (v := (0 : Int32)) hx hb d_La_clear_34 (by decide) ?_
      have g2 := h.1
      have h := h.2
      refine xa_iast hx hb hK hP hD hS 8 0 rfl rfl g2 (k := x1.toNatClampNeg) rfl d_La_clear_35 (fun H locs hP hD hS => ?_)
      have hP : va_P G.1 CL [(h0, .inr (3, [.ref (q0 0), .int (gI o0 1), .int (gI o0 2), .int (gI o0 3), .int (gI o0 4), .int (gI o0 5), .ref (q0 6), .ref (q0 7), .ref (q0 8), .ref (q0 9), .ref (q0 10), .ref (q0 11), .ref (q0 12), .ref (q0 13), .ref (q0 14)])), kI G (q0 0) 5 (gA o0 0), kI G (q0 6) 20 (gA o0 6), kI G (q0 7) 20 (gA o0 7), kI G (q0 8) 20 (gA o0 8), kI G (q0 9) 20 (gA o0 9), kI G (q0 10) 20 (gA o0 10), kI G (q0 11) 20 (gA o0 11), kI G (q0 12) 8 (upd (gA o0 12) x1.toNatClampNeg (0 : Int32)), kI G (q0 13) 64 (gA o0 13), kI G (q0 14) 64 (gA o0 14)] H := hP
      have hD : va_D A [(h0, .inr (3, [.ref (q0 0), .int (gI o0 1), .int (gI o0 2), .int (gI o0 3), .int (gI o0 4), .int (gI o0 5), .ref (q0 6), .ref (q0 7), .ref (q0 8), .ref (q0 9), .ref (q0 10), .ref (q0 11), .ref (q0 12), .ref (q0 13), .ref (q0 14)])), kI G (q0 0) 5 (gA o0 0), kI G (q0 6) 20 (gA o0 6), kI G (q0 7) 20 (gA o0 7), kI G (q0 8) 20 (gA o0 8), kI G (q0 9) 20 (gA o0 9), kI G (q0 10) 20 (gA o0 10), kI G (q0 11) 20 (gA o0 11), kI G (q0 12) 8 (upd (gA o0 12) x1.toNatClampNeg (0 : Int32)), kI G (q0 13) 64 (gA o0 13), kI G (q0 14) 64 (gA o0 14)] := hD
      refine lv_iinc (v := (x1 + (1 : Int32))) (lv' := [(1, .int (x1 + (1 : Int32))), (0, .ref h0)]) hx hb d_La_clear_36 hl (k := 1) rfl rfl (by decide) rfl (fun ls hl => ?_)
      refine lv_goto (tgt := 23) hx hb d_La_clear_39 (by decide) ?_
      have hl := lv_sub (l' := [(0, .ref h0), (1, .int (x1 + (1 : Int32)))]) hl [1, 0] rfl
      have hP : va_P G.1 CL (cw_La G h0 q0 (sA o0 12 (upd (gA o0 12) x1.toNatClampNeg (0 : Int32)))) H := hP
      have hD : va_D A (cw_La G h0 q0 (sA o0 12 (upd (gA o0 12) x1.toNatClampNeg (0 : Int32)))) := hD
      exact ih (x1 + (1 : Int32)) (sA o0 12 (upd (gA o0 12) x1.toNatClampNeg (0 : Int32))) ls H locs hl hP hD hS h
set_option maxHeartbeats 4000000 in
set_option maxRecDepth 100000 in
theorem t_La_clear_2 {p : Program} {l : Launch} {e : Env} {s : State} {m : MethodId} {args : Array Value} {below : List Frame} {meth : Method} {c : Code} {A : Nat → Prop} {G : Gl} {h0 : Nat} {q0 : Nat → Nat} (Q : Ob → Prop) (C : Cx p s m args meth c R_La b_La_clear 2 none G A) :
    ∀ (n : Nat) (x1 : Int32) (o0 : Ob) (ls : Array Slot) (H : Heap) (locs : List Loc), lv_has ls 2 [(0, .ref h0), (1, .int x1)] → va_P G.1 CL (cw_La G h0 q0 o0) H → va_D A (cw_La G h0 q0 o0) → va_S A s.heap H locs → f_La_clear_2 Q n x1 o0 → W p l e rm_La_clear s m args below meth c H locs 0 0 (MQ below (va_Qv (fun (u : Ob) => Q u) (fun (u : Ob) t => BW G A (cw_La G h0 q0 u) t) A) args s 0 0 A) (F0 m 2 ls []) := by
  obtain ⟨hx, hb, hml, hown, hr, hts, hK, hA, hlocks, hE⟩ := id C
  intro n
  induction n with
  | zero => intro x1 o0 ls H locs hl hP hD hS h; exact absurd h id
  | succ n ih =>
    intro x1 o0 ls H locs hl hP hD hS h
    have hP : va_P G.1 CL [(h0, .inr (3, [.ref (q0 0), .int (gI o0 1), .int (gI o0 2), .int (gI o0 3), .int (gI o0 4), .int (gI o0 5), .ref (q0 6), .ref (q0 7), .ref (q0 8), .ref (q0 9), .ref (q0 10), .ref (q0 11), .ref (q0 12), .ref (q0 13), .ref (q0 14)])), kI G (q0 0) 5 (gA o0 0), kI G (q0 6) 20 (gA o0 6), kI G (q0 7) 20 (gA o0 7), kI G (q0 8) 20 (gA o0 8), kI G (q0 9) 20 (gA o0 9), kI G (q0 10) 20 (gA o0 10), kI G (q0 11) 20 (gA o0 11), kI G (q0 12) 8 (gA o0 12), kI G (q0 13) 64 (gA o0 13), kI G (q0 14) 64 (gA o0 14)] H := hP
    have hD : va_D A [(h0, .inr (3, [.ref (q0 0), .int (gI o0 1), .int (gI o0 2), .int (gI o0 3), .int (gI o0 4), .int (gI o0 5), .ref (q0 6), .ref (q0 7), .ref (q0 8), .ref (q0 9), .ref (q0 10), .ref (q0 11), .ref (q0 12), .ref (q0 13), .ref (q0 14)])), kI G (q0 0) 5 (gA o0 0), kI G (q0 6) 20 (gA o0 6), kI G (q0 7) 20 (gA o0 7), kI G (q0 8) 20 (gA o0 8), kI G (q0 9) 20 (gA o0 9), kI G (q0 10) 20 (gA o0 10), kI G (q0 11) 20 (gA o0 11), kI G (q0 12) 8 (gA o0 12), kI G (q0 13) 64 (gA o0 13), kI G (q0 14) 64 (gA o0 14)] := hD
    unfold f_La_clear_2 at h
    refine lv_iload_n hx hb d_La_clear_2 rfl (lv_at hl 1 rfl) ?_
    refine lv_iconst (v := (5 : Int32)) hx hb d_La_clear_3 (by decide) ?_
    refine lv_icmp_ge (tgt := 21) hx hb d_La_clear_4 (by decide) (fun c3 => ?_) (fun c3 => ?_)
    · have h := h.1 c3
      refine lv_iconst (v := (0 : Int32)) hx hb d_La_clear_21 (by decide) ?_
      refine lv_istore_n (lv' := [(1, .int (0 : Int32)), (0, .ref h0)]) hx hb d_La_clear_22 rfl hl (by decide) rfl (fun ls hl => ?_)
      have hl := lv_sub (l' := [(0, .ref h0), (1, .int (0 : Int32))]) hl [1, 0] rfl
      have hP : va_P G.1 CL (cw_La G h0 q0 o0) H := hP
      have hD : va_D A (cw_La G h0 q0 o0) := hD
      obtain ⟨w, h⟩ := h
      exact t_La_clear_23 Q C w (0 : Int32) o0 ls _ locs hl hP hD hS h
    · have h := h.2 c3
      refine lv_aload_n hx hb d_La_clear_7 rfl (lv_at hl 0 rfl) ?_
      refine va_get (D := G.1) (ci := 3) (v := .ref (q0 0)) (C := R_La) (T := T_La) (N := 15) hx hb hts i_La hown hK hP 0 rfl rfl 0 (by decide) (hts _ wf_La_9) (fun _ h9 => h9) rfl d_La_clear_8 ?_
      refine lv_iload_n hx hb d_La_clear_11 rfl (lv_at hl 1 rfl) ?_
      refine lv_bipush (v := (6 : Int32)) hx hb d_La_clear_12 (by decide) ?_
      have g4 := h.1
      have h := h.2
      refine xa_iast hx hb hK hP hD hS 1 0 rfl rfl g4 (k := x1.toNatClampNeg) rfl d_La_clear_14 (fun H locs hP hD hS => ?_)
      have hP : va_P G.1 CL [(h0, .inr (3, [.ref (q0 0), .int (gI o0 1), .int (gI o0 2), .int (gI o0 3), .int (gI o0 4), .int (gI o0 5), .ref (q0 6), .ref (q0 7), .ref (q0 8), .ref (q0 9), .ref (q0 10), .ref (q0 11), .ref (q0 12), .ref (q0 13), .ref (q0 14)])), kI G (q0 0) 5 (upd (gA o0 0) x1.toNatClampNeg (6 : Int32)), kI G (q0 6) 20 (gA o0 6), kI G (q0 7) 20 (gA o0 7), kI G (q0 8) 20 (gA o0 8), kI G (q0 9) 20 (gA o0 9), kI G (q0 10) 20 (gA o0 10), kI G (q0 11) 20 (gA o0 11), kI G (q0 12) 8 (gA o0 12), kI G (q0 13) 64 (gA o0 13), kI G (q0 14) 64 (gA o0 14)] H := hP
      have hD : va_D A [(h0, .inr (3, [.ref (q0 0), .int (gI o0 1), .int (gI o0 2), .int (gI o0 3), .int (gI o0 4), .int (gI o0 5), .ref (q0 6), .ref (q0 7), .ref (q0 8), .ref (q0 9), .ref (q0 10), .ref (q0 11), .ref (q0 12), .ref (q0 13), .ref (q0 14)])), kI G (q0 0) 5 (upd (gA o0 0) x1.toNatClampNeg (6 : Int32)), kI G (q0 6) 20 (gA o0 6), kI G (q0 7) 20 (gA o0 7), kI G (q0 8) 20 (gA o0 8), kI G (q0 9) 20 (gA o0 9), kI G (q0 10) 20 (gA o0 10), kI G (q0 11) 20 (gA o0 11), kI G (q0 12) 8 (gA o0 12), kI G (q0 13) 64 (gA o0 13), kI G (q0 14) 64 (gA o0 14)] := hD
      refine lv_iinc (v := (x1 + (1 : Int32))) (lv' := [(1, .int (x1 + (1 : Int32))), (0, .ref h0)]) hx hb d_La_clear_15 hl (k := 1) rfl rfl (by decide) rfl (fun ls hl => ?_)
      refine lv_goto (tgt := 2) hx hb d_La_clear_18 (by decide) ?_
      have hl := lv_sub (l' := [(0, .ref h0), (1, .int (x1 + (1 : Int32)))]) hl [1, 0] rfl
      have hP : va_P G.1 CL (cw_La G h0 q0 (sA o0 0 (upd (gA o0 0) x1.toNatClampNeg (6 : Int32)))) H := hP
      have hD : va_D A (cw_La G h0 q0 (sA o0 0 (upd (gA o0 0) x1.toNatClampNeg (6 : Int32)))) := hD
      exact ih (x1 + (1 : Int32)) (sA o0 0 (upd (gA o0 0) x1.toNatClampNeg (6 : Int32))) ls H locs hl hP hD hS h
set_option maxHeartbeats 4000000 in
set_option maxRecDepth 100000 in
theorem c_La_clear {l : Launch} {G : Gl} {h0 : Nat} {q0 : Nat → Nat} {o0 : Ob} {Q : Ob → Prop} (sz : Nat) (h : f_La_clear o0 Q) : Met l y_La_clear w_La_clear rm_La_clear (PcW G [.ref h0] sz (cw_La G h0 q0 o0)) (va_Qv (fun (u : Ob) => Q u) (fun (u : Ob) t => BW G (va_A (cw_La G h0 q0 o0) sz) (cw_La G h0 q0 u) t) (va_A (cw_La G h0 q0 o0) sz)) 0 0 (va_A (cw_La G h0 q0 o0) sz) := by
  refine Met.ofW (cc := b_La_clear) (maxL := 2) (ret := none) (by decide +kernel) rfl ?_
  intro p e s m args below meth c s₁ B hml hv
  obtain ⟨rfl, hsz, hP, hK, hD0, hE⟩ := hv
  have hx := B.exec
  have hb := B.bytes
  have hr := B.returns
  have hts0 := atoms_spec (ws := w_La_clear) B.pre
  have hts : ∀ w ∈ gw_tbl, w.before ([.ref h0]).toArray s = true := fun w hw => hts0 w (List.mem_cons_of_mem _ hw)
  have hown : s.vm.findClass R_La = some m.cls := findClass_of_methodNamed B.named
  have hlocks := B.notSynchronized
  subst hsz
  have hD := hD0.self (sz := s.heap.size)
  generalize hAe : va_A (cw_La G h0 q0 o0) s.heap.size = A at hD hE ⊢
  have hA : ∀ q : Nat, s.heap.size ≤ q → A q := fun q h => by rw [← hAe]; exact Or.inr h
  have hS : va_S A s.heap s.heap [] := va_S.rf
  have C : Cx p s m ([.ref h0]).toArray meth c R_La b_La_clear 2 none G A := ⟨hx, hb, hml, hown, hr, hts, hK, hA, hlocks, hE⟩
  have hl := lv_entry ([.ref h0]) (n := 2) (Nat.le_of_ble_eq_true rfl)
  rw [lg_entry_eq]
  generalize (lg_sl ([.ref h0]) ++ List.replicate (2 - (lg_sl ([.ref h0])).length) Slot.unset).toArray = ls at hl ⊢
  have hl : lv_has ls 2 [(0, .ref h0)] := hl
  have hD : va_D A [(h0, .inr (3, [.ref (q0 0), .int (gI o0 1), .int (gI o0 2), .int (gI o0 3), .int (gI o0 4), .int (gI o0 5), .ref (q0 6), .ref (q0 7), .ref (q0 8), .ref (q0 9), .ref (q0 10), .ref (q0 11), .ref (q0 12), .ref (q0 13), .ref (q0 14)])), kI G (q0 0) 5 (gA o0 0), kI G (q0 6) 20 (gA o0 6), kI G (q0 7) 20 (gA o0 7), kI G (q0 8) 20 (gA o0 8), kI G (q0 9) 20 (gA o0 9), kI G (q0 10) 20 (gA o0 10), kI G (q0 11) 20 (gA o0 11), kI G (q0 12) 8 (gA o0 12), kI G (q0 13) 64 (gA o0 13), kI G (q0 14) 64 (gA o0 14)] := hD
  unfold f_La_clear at h
  suffices key : ∀ (H : Heap) (locs : List Loc), va_P G.1 CL [(h0, .inr (3, [.ref (q0 0), .int (gI o0 1), .int (gI o0 2), .int (gI o0 3), .int (gI o0 4), .int (gI o0 5), .ref (q0 6), .ref (q0 7), .ref (q0 8), .ref (q0 9), .ref (q0 10), .ref (q0 11), .ref (q0 12), .ref (q0 13), .ref (q0 14)])), kI G (q0 0) 5 (gA o0 0), kI G (q0 6) 20 (gA o0 6), kI G (q0 7) 20 (gA o0 7), kI G (q0 8) 20 (gA o0 8), kI G (q0 9) 20 (gA o0 9), kI G (q0 10) 20 (gA o0 10), kI G (q0 11) 20 (gA o0 11), kI G (q0 12) 8 (gA o0 12), kI G (q0 13) 64 (gA o0 13), kI G (q0 14) 64 (gA o0 14)] H → va_S A s.heap H locs → W p l e rm_La_clear s m ([.ref h0]).toArray below meth c H locs 0 0 (MQ below (va_Qv (fun (u : Ob) => Q u) (fun (u : Ob) t => BW G A (cw_La G h0 q0 u) t) A) ([.ref h0]).toArray s 0 0 A) (F0 m 0 ls []) from key s.heap [] hP hS
  intro H locs hP hS
  refine lv_iconst (v := (0 : Int32)) hx hb d_La_clear_0 (by decide) ?_
  refine lv_istore_n (lv' := [(1, .int (0 : Int32)), (0, .ref h0)]) hx hb d_La_clear_1 rfl hl (by decide) rfl (fun ls hl => ?_)
  have hl := lv_sub (l' := [(0, .ref h0), (1, .int (0 : Int32))]) hl [1, 0] rfl
  have hP : va_P G.1 CL (cw_La G h0 q0 o0) H := hP
  have hD : va_D A (cw_La G h0 q0 o0) := hD
  obtain ⟨w, h⟩ := h
  exact t_La_clear_2 Q C w (0 : Int32) o0 ls _ locs hl hP hD hS h
abbrev b_La_hasGesture : ByteArray := prog_4_method_3_code
def y_La_hasGesture : MethodName := ⟨R_La, "hasGesture", "(I)Z"⟩
abbrev w_La_hasGesture : List Cond := Cond.code y_La_hasGesture b_La_hasGesture 3 (some .boolean) :: gw_tbl
theorem d_La_hasGesture_0 : decode b_La_hasGesture 0 = .ok (.iconst 0, 1) := by decide +kernel
theorem d_La_hasGesture_1 : decode b_La_hasGesture 1 = .ok (.istore_n 2, 1) := by decide +kernel
theorem d_La_hasGesture_2 : decode b_La_hasGesture 2 = .ok (.iload_n 2, 1) := by decide +kernel
theorem d_La_hasGesture_3 : decode b_La_hasGesture 3 = .ok (.aload_n 0, 1) := by decide +kernel
theorem d_La_hasGesture_4 : decode b_La_hasGesture 4 = .ok (.getfield 58, 3) := by decide +kernel
theorem d_La_hasGesture_7 : decode b_La_hasGesture 7 = .ok (.if_icmp .ge 21, 3) := by decide +kernel
theorem d_La_hasGesture_10 : decode b_La_hasGesture 10 = .ok (.aload_n 0, 1) := by decide +kernel
theorem d_La_hasGesture_11 : decode b_La_hasGesture 11 = .ok (.getfield 15, 3) := by decide +kernel
theorem d_La_hasGesture_14 : decode b_La_hasGesture 14 = .ok (.iload_n 2, 1) := by decide +kernel
theorem d_La_hasGesture_15 : decode b_La_hasGesture 15 = .ok (.iaload, 1) := by decide +kernel
theorem d_La_hasGesture_16 : decode b_La_hasGesture 16 = .ok (.iload_n 1, 1) := by decide +kernel
theorem d_La_hasGesture_17 : decode b_La_hasGesture 17 = .ok (.if_icmp .ne 5, 3) := by decide +kernel
theorem d_La_hasGesture_20 : decode b_La_hasGesture 20 = .ok (.iconst 1, 1) := by decide +kernel
theorem d_La_hasGesture_21 : decode b_La_hasGesture 21 = .ok (.ireturn, 1) := by decide +kernel
theorem d_La_hasGesture_22 : decode b_La_hasGesture 22 = .ok (.iinc 2 1, 3) := by decide +kernel
theorem d_La_hasGesture_25 : decode b_La_hasGesture 25 = .ok (.goto (-23), 3) := by decide +kernel
theorem d_La_hasGesture_28 : decode b_La_hasGesture 28 = .ok (.iconst 0, 1) := by decide +kernel
theorem d_La_hasGesture_29 : decode b_La_hasGesture 29 = .ok (.ireturn, 1) := by decide +kernel
theorem wf_La_15 : Cond.fieldLink R_La 15 R_La "letters" "[I" ∈ gw_tbl := gw_tb (List.mem_of_getElem? (i := 86) (by decide +kernel)) rfl
def f_La_hasGesture_2 (o0 : Ob) (Q : Int32 → Prop) : Nat → Int32 → Int32 → Prop
  | 0, _, _ => False
  | n + 1, x1, x2 => ((gI o0 5) ≤ x2 → (Q (0 : Int32))) ∧ (¬ (gI o0 5) ≤ x2 → ((vp_in x2 20) ∧ ((((gA o0 6) x2.toNatClampNeg) = x1 → (Q (1 : Int32))) ∧ (¬ ((gA o0 6) x2.toNatClampNeg) = x1 → ((f_La_hasGesture_2 o0 Q n) x1 (x2 + (1 : Int32)))))))
def f_La_hasGesture (a0 : Int32) (o0 : Ob) (Q : Int32 → Prop) : Prop := (∃ w, f_La_hasGesture_2 o0 Q w a0 (0 : Int32))
abbrev rm_La_hasGesture : Room := { frames := 0, cells := 0, slots := 0, locals := 0 }
set_option maxHeartbeats 4000000 in
set_option maxRecDepth 100000 in
theorem t_La_hasGesture_2 {p : Program} {l : Launch} {e : Env} {s : State} {m : MethodId} {args : Array Value} {below : List Frame} {meth : Method} {c : Code} {A : Nat → Prop} {G : Gl} {h0 : Nat} {q0 : Nat → Nat} (o0 : Ob) (Q : Int32 → Prop) (C : Cx p s m args meth c R_La b_La_hasGesture 3 (some .boolean) G A) :
    ∀ (n : Nat) (x1 : Int32) (x2 : Int32) (ls : Array Slot) (H : Heap) (locs : List Loc), lv_has ls 3 [(0, .ref h0), (1, .int x1), (2, .int x2)] → va_P G.1 CL (cw_La G h0 q0 o0) H → va_D A (cw_La G h0 q0 o0) → va_S A s.heap H locs → f_La_hasGesture_2 o0 Q n x1 x2 → W p l e rm_La_hasGesture s m args below meth c H locs 0 0 (MQ below (va_Qi (fun (r : Int32) (u : Unit) => Q r) (fun (u : Unit) t => BW G A (cw_La G h0 q0 o0) t) A) args s 0 0 A) (F0 m 2 ls []) := by
  obtain ⟨hx, hb, hml, hown, hr, hts, hK, hA, hlocks, hE⟩ := id C
  intro n
  induction n with
  | zero => intro x1 x2 ls H locs hl hP hD hS h; exact absurd h id
  | succ n ih =>
    intro x1 x2 ls H locs hl hP hD hS h
    have hP : va_P G.1 CL [(h0, .inr (3, [.ref (q0 0), .int (gI o0 1), .int (gI o0 2), .int (gI o0 3), .int (gI o0 4), .int (gI o0 5), .ref (q0 6), .ref (q0 7), .ref (q0 8), .ref (q0 9), .ref (q0 10), .ref (q0 11), .ref (q0 12), .ref (q0 13), .ref (q0 14)])), kI G (q0 0) 5 (gA o0 0), kI G (q0 6) 20 (gA o0 6), kI G (q0 7) 20 (gA o0 7), kI G (q0 8) 20 (gA o0 8), kI G (q0 9) 20 (gA o0 9), kI G (q0 10) 20 (gA o0 10), kI G (q0 11) 20 (gA o0 11), kI G (q0 12) 8 (gA o0 12), kI G (q0 13) 64 (gA o0 13), kI G (q0 14) 64 (gA o0 14)] H := hP
    have hD : va_D A [(h0, .inr (3, [.ref (q0 0), .int (gI o0 1), .int (gI o0 2), .int (gI o0 3), .int (gI o0 4), .int (gI o0 5), .ref (q0 6), .ref (q0 7), .ref (q0 8), .ref (q0 9), .ref (q0 10), .ref (q0 11), .ref (q0 12), .ref (q0 13), .ref (q0 14)])), kI G (q0 0) 5 (gA o0 0), kI G (q0 6) 20 (gA o0 6), kI G (q0 7) 20 (gA o0 7), kI G (q0 8) 20 (gA o0 8), kI G (q0 9) 20 (gA o0 9), kI G (q0 10) 20 (gA o0 10), kI G (q0 11) 20 (gA o0 11), kI G (q0 12) 8 (gA o0 12), kI G (q0 13) 64 (gA o0 13), kI G (q0 14) 64 (gA o0 14)] := hD
    unfold f_La_hasGesture_2 at h
    refine lv_iload_n hx hb d_La_hasGesture_2 rfl (lv_at hl 2 rfl) ?_
    refine lv_aload_n hx hb d_La_hasGesture_3 rfl (lv_at hl 0 rfl) ?_
    refine va_get (D := G.1) (ci := 3) (v := .int (gI o0 5)) (C := R_La) (T := T_La) (N := 15) hx hb hts i_La hown hK hP 0 rfl rfl 5 (by decide) (hts _ wf_La_58) (fun _ h9 => h9) rfl d_La_hasGesture_4 ?_
    refine lv_icmp_ge (tgt := 28) hx hb d_La_hasGesture_7 (by decide) (fun c1 => ?_) (fun c1 => ?_)
    · have h := h.1 c1
      refine lv_iconst (v := (0 : Int32)) hx hb d_La_hasGesture_28 (by decide) ?_
      have hP : va_P G.1 CL (cw_La G h0 q0 o0) H := hP
      have hD : va_D A (cw_La G h0 q0 o0) := hD
      exact W.zret (v := (0 : Int32)) hx hb hr rfl (fun t ht hW => ⟨⟨(0 : Int32), (), rfl, h, by rw [ht]; exact hP, va_K.moved hW.alike hK, hD⟩, hS.F ht⟩) hS.2.2 d_La_hasGesture_29
    · have h := h.2 c1
      refine lv_aload_n hx hb d_La_hasGesture_10 rfl (lv_at hl 0 rfl) ?_
      refine va_get (D := G.1) (ci := 3) (v := .ref (q0 6)) (C := R_La) (T := T_La) (N := 15) hx hb hts i_La hown hK hP 0 rfl rfl 6 (by decide) (hts _ wf_La_15) (fun _ h9 => h9) rfl d_La_hasGesture_11 ?_
      refine lv_iload_n hx hb d_La_hasGesture_14 rfl (lv_at hl 2 rfl) ?_
      have g2 := h.1
      have h := h.2
      refine xa_iald hx hb hK hP 2 0 rfl rfl g2 (k := x2.toNatClampNeg) rfl d_La_hasGesture_15 ?_
      refine lv_iload_n hx hb d_La_hasGesture_16 rfl (lv_at hl 1 rfl) ?_
      refine lv_icmp_ne (tgt := 22) hx hb d_La_hasGesture_17 (by decide) (fun c3 => ?_) (fun c3 => ?_)
      · have h := h.2 c3
        refine lv_iinc (v := (x2 + (1 : Int32))) (lv' := [(2, .int (x2 + (1 : Int32))), (0, .ref h0), (1, .int x1)]) hx hb d_La_hasGesture_22 hl (k := 2) rfl rfl (by decide) rfl (fun ls hl => ?_)
        refine lv_goto (tgt := 2) hx hb d_La_hasGesture_25 (by decide) ?_
        have hl := lv_sub (l' := [(0, .ref h0), (1, .int x1), (2, .int (x2 + (1 : Int32)))]) hl [1, 2, 0] rfl
        have hP : va_P G.1 CL (cw_La G h0 q0 o0) H := hP
        have hD : va_D A (cw_La G h0 q0 o0) := hD
        exact ih x1 (x2 + (1 : Int32)) ls H locs hl hP hD hS h
      · have h := h.1 c3
        refine lv_iconst (v := (1 : Int32)) hx hb d_La_hasGesture_20 (by decide) ?_
        have hP : va_P G.1 CL (cw_La G h0 q0 o0) H := hP
        have hD : va_D A (cw_La G h0 q0 o0) := hD
        exact W.zret (v := (1 : Int32)) hx hb hr rfl (fun t ht hW => ⟨⟨(1 : Int32), (), rfl, h, by rw [ht]; exact hP, va_K.moved hW.alike hK, hD⟩, hS.F ht⟩) hS.2.2 d_La_hasGesture_21
set_option maxHeartbeats 4000000 in
set_option maxRecDepth 100000 in
theorem c_La_hasGesture {l : Launch} {G : Gl} {h0 : Nat} {q0 : Nat → Nat} {a0 : Int32} {o0 : Ob} {Q : Int32 → Prop} (sz : Nat) (h : f_La_hasGesture a0 o0 Q) : Met l y_La_hasGesture w_La_hasGesture rm_La_hasGesture (PcW G [.ref h0, .int a0] sz (cw_La G h0 q0 o0)) (va_Qi (fun (r : Int32) (u : Unit) => Q r) (fun (u : Unit) t => BW G (va_A (cw_La G h0 q0 o0) sz) (cw_La G h0 q0 o0) t) (va_A (cw_La G h0 q0 o0) sz)) 0 0 (va_A (cw_La G h0 q0 o0) sz) := by
  refine Met.ofW (cc := b_La_hasGesture) (maxL := 3) (ret := (some .boolean)) (by decide +kernel) rfl ?_
  intro p e s m args below meth c s₁ B hml hv
  obtain ⟨rfl, hsz, hP, hK, hD0, hE⟩ := hv
  have hx := B.exec
  have hb := B.bytes
  have hr := B.returns
  have hts0 := atoms_spec (ws := w_La_hasGesture) B.pre
  have hts : ∀ w ∈ gw_tbl, w.before ([.ref h0, .int a0]).toArray s = true := fun w hw => hts0 w (List.mem_cons_of_mem _ hw)
  have hown : s.vm.findClass R_La = some m.cls := findClass_of_methodNamed B.named
  have hlocks := B.notSynchronized
  subst hsz
  have hD := hD0.self (sz := s.heap.size)
  generalize hAe : va_A (cw_La G h0 q0 o0) s.heap.size = A at hD hE ⊢
  have hA : ∀ q : Nat, s.heap.size ≤ q → A q := fun q h => by rw [← hAe]; exact Or.inr h
  have hS : va_S A s.heap s.heap [] := va_S.rf
  have C : Cx p s m ([.ref h0, .int a0]).toArray meth c R_La b_La_hasGesture 3 (some .boolean) G A := ⟨hx, hb, hml, hown, hr, hts, hK, hA, hlocks, hE⟩
  have hl := lv_entry ([.ref h0, .int a0]) (n := 3) (Nat.le_of_ble_eq_true rfl)
  rw [lg_entry_eq]
  generalize (lg_sl ([.ref h0, .int a0]) ++ List.replicate (3 - (lg_sl ([.ref h0, .int a0])).length) Slot.unset).toArray = ls at hl ⊢
  have hl : lv_has ls 3 [(0, .ref h0), (1, .int a0)] := hl
  have hD : va_D A [(h0, .inr (3, [.ref (q0 0), .int (gI o0 1), .int (gI o0 2), .int (gI o0 3), .int (gI o0 4), .int (gI o0 5), .ref (q0 6), .ref (q0 7), .ref (q0 8), .ref (q0 9), .ref (q0 10), .ref (q0 11), .ref (q0 12), .ref (q0 13), .ref (q0 14)])), kI G (q0 0) 5 (gA o0 0), kI G (q0 6) 20 (gA o0 6), kI G (q0 7) 20 (gA o0 7), kI G (q0 8) 20 (gA o0 8), kI G (q0 9) 20 (gA o0 9), kI G (q0 10) 20 (gA o0 10), kI G (q0 11) 20 (gA o0 11), kI G (q0 12) 8 (gA o0 12), kI G (q0 13) 64 (gA o0 13), kI G (q0 14) 64 (gA o0 14)] := hD
  unfold f_La_hasGesture at h
  suffices key : ∀ (H : Heap) (locs : List Loc), va_P G.1 CL [(h0, .inr (3, [.ref (q0 0), .int (gI o0 1), .int (gI o0 2), .int (gI o0 3), .int (gI o0 4), .int (gI o0 5), .ref (q0 6), .ref (q0 7), .ref (q0 8), .ref (q0 9), .ref (q0 10), .ref (q0 11), .ref (q0 12), .ref (q0 13), .ref (q0 14)])), kI G (q0 0) 5 (gA o0 0), kI G (q0 6) 20 (gA o0 6), kI G (q0 7) 20 (gA o0 7), kI G (q0 8) 20 (gA o0 8), kI G (q0 9) 20 (gA o0 9), kI G (q0 10) 20 (gA o0 10), kI G (q0 11) 20 (gA o0 11), kI G (q0 12) 8 (gA o0 12), kI G (q0 13) 64 (gA o0 13), kI G (q0 14) 64 (gA o0 14)] H → va_S A s.heap H locs → W p l e rm_La_hasGesture s m ([.ref h0, .int a0]).toArray below meth c H locs 0 0 (MQ below (va_Qi (fun (r : Int32) (u : Unit) => Q r) (fun (u : Unit) t => BW G A (cw_La G h0 q0 o0) t) A) ([.ref h0, .int a0]).toArray s 0 0 A) (F0 m 0 ls []) from key s.heap [] hP hS
  intro H locs hP hS
  refine lv_iconst (v := (0 : Int32)) hx hb d_La_hasGesture_0 (by decide) ?_
  refine lv_istore_n (lv' := [(2, .int (0 : Int32)), (0, .ref h0), (1, .int a0)]) hx hb d_La_hasGesture_1 rfl hl (by decide) rfl (fun ls hl => ?_)
  have hl := lv_sub (l' := [(0, .ref h0), (1, .int a0), (2, .int (0 : Int32))]) hl [1, 2, 0] rfl
  have hP : va_P G.1 CL (cw_La G h0 q0 o0) H := hP
  have hD : va_D A (cw_La G h0 q0 o0) := hD
  obtain ⟨w, h⟩ := h
  exact t_La_hasGesture_2 o0 Q C w a0 (0 : Int32) ls _ locs hl hP hD hS h
abbrev b_Le_findInItem : ByteArray := prog_5_method_3_code
def y_Le_findInItem : MethodName := ⟨R_Le, "findInItem", "(LPipeVoice$Moment;III)V"⟩
abbrev w_Le_findInItem : List Cond := Cond.code y_Le_findInItem b_Le_findInItem 10 none :: gw_tbl
theorem d_Le_findInItem_0 : decode b_Le_findInItem 0 = .ok (.aload_n 1, 1) := by decide +kernel
theorem d_Le_findInItem_1 : decode b_Le_findInItem 1 = .ok (.getfield 40, 3) := by decide +kernel
theorem d_Le_findInItem_4 : decode b_Le_findInItem 4 = .ok (.astore 5, 2) := by decide +kernel
theorem d_Le_findInItem_6 : decode b_Le_findInItem 6 = .ok (.aload_n 1, 1) := by decide +kernel
theorem d_Le_findInItem_7 : decode b_Le_findInItem 7 = .ok (.getfield 36, 3) := by decide +kernel
theorem d_Le_findInItem_10 : decode b_Le_findInItem 10 = .ok (.iload_n 3, 1) := by decide +kernel
theorem d_Le_findInItem_11 : decode b_Le_findInItem 11 = .ok (.iaload, 1) := by decide +kernel
theorem d_Le_findInItem_12 : decode b_Le_findInItem 12 = .ok (.bipush 8, 2) := by decide +kernel
theorem d_Le_findInItem_14 : decode b_Le_findInItem 14 = .ok (.imul, 1) := by decide +kernel
theorem d_Le_findInItem_15 : decode b_Le_findInItem 15 = .ok (.iload 4, 2) := by decide +kernel
theorem d_Le_findInItem_17 : decode b_Le_findInItem 17 = .ok (.iadd, 1) := by decide +kernel
theorem d_Le_findInItem_18 : decode b_Le_findInItem 18 = .ok (.istore 6, 2) := by decide +kernel
theorem d_Le_findInItem_20 : decode b_Le_findInItem 20 = .ok (.aload_n 1, 1) := by decide +kernel
theorem d_Le_findInItem_21 : decode b_Le_findInItem 21 = .ok (.getfield 59, 3) := by decide +kernel
theorem d_Le_findInItem_24 : decode b_Le_findInItem 24 = .ok (.aload_n 1, 1) := by decide +kernel
theorem d_Le_findInItem_25 : decode b_Le_findInItem 25 = .ok (.getfield 62, 3) := by decide +kernel
theorem d_Le_findInItem_28 : decode b_Le_findInItem 28 = .ok (.iload_n 3, 1) := by decide +kernel
theorem d_Le_findInItem_29 : decode b_Le_findInItem 29 = .ok (.iaload, 1) := by decide +kernel
theorem d_Le_findInItem_30 : decode b_Le_findInItem 30 = .ok (.isub, 1) := by decide +kernel
theorem d_Le_findInItem_31 : decode b_Le_findInItem 31 = .ok (.aload 5, 2) := by decide +kernel
theorem d_Le_findInItem_33 : decode b_Le_findInItem 33 = .ok (.getfield 65, 3) := by decide +kernel
theorem d_Le_findInItem_36 : decode b_Le_findInItem 36 = .ok (.iload 6, 2) := by decide +kernel
theorem d_Le_findInItem_38 : decode b_Le_findInItem 38 = .ok (.iaload, 1) := by decide +kernel
theorem d_Le_findInItem_39 : decode b_Le_findInItem 39 = .ok (.isub, 1) := by decide +kernel
theorem d_Le_findInItem_40 : decode b_Le_findInItem 40 = .ok (.istore 7, 2) := by decide +kernel
theorem d_Le_findInItem_42 : decode b_Le_findInItem 42 = .ok (.iload 7, 2) := by decide +kernel
theorem d_Le_findInItem_44 : decode b_Le_findInItem 44 = .ok (.ifCond .ge 4, 3) := by decide +kernel
theorem d_Le_findInItem_47 : decode b_Le_findInItem 47 = .ok (.return_, 1) := by decide +kernel
theorem d_Le_findInItem_48 : decode b_Le_findInItem 48 = .ok (.iconst 0, 1) := by decide +kernel
theorem d_Le_findInItem_49 : decode b_Le_findInItem 49 = .ok (.istore 8, 2) := by decide +kernel
theorem d_Le_findInItem_51 : decode b_Le_findInItem 51 = .ok (.iload 8, 2) := by decide +kernel
theorem d_Le_findInItem_53 : decode b_Le_findInItem 53 = .ok (.aload 5, 2) := by decide +kernel
theorem d_Le_findInItem_55 : decode b_Le_findInItem 55 = .ok (.getfield 68, 3) := by decide +kernel
theorem d_Le_findInItem_58 : decode b_Le_findInItem 58 = .ok (.if_icmp .ge 190, 3) := by decide +kernel
theorem d_Le_findInItem_61 : decode b_Le_findInItem 61 = .ok (.aload 5, 2) := by decide +kernel
theorem d_Le_findInItem_63 : decode b_Le_findInItem 63 = .ok (.getfield 71, 3) := by decide +kernel
theorem d_Le_findInItem_66 : decode b_Le_findInItem 66 = .ok (.iload 8, 2) := by decide +kernel
theorem d_Le_findInItem_68 : decode b_Le_findInItem 68 = .ok (.iaload, 1) := by decide +kernel
theorem d_Le_findInItem_69 : decode b_Le_findInItem 69 = .ok (.aload 5, 2) := by decide +kernel
theorem d_Le_findInItem_71 : decode b_Le_findInItem 71 = .ok (.getfield 74, 3) := by decide +kernel
theorem d_Le_findInItem_74 : decode b_Le_findInItem 74 = .ok (.iload 6, 2) := by decide +kernel
theorem d_Le_findInItem_76 : decode b_Le_findInItem 76 = .ok (.iaload, 1) := by decide +kernel
theorem d_Le_findInItem_77 : decode b_Le_findInItem 77 = .ok (.if_icmp .ne 32, 3) := by decide +kernel
theorem d_Le_findInItem_80 : decode b_Le_findInItem 80 = .ok (.aload 5, 2) := by decide +kernel
theorem d_Le_findInItem_82 : decode b_Le_findInItem 82 = .ok (.getfield 77, 3) := by decide +kernel
theorem d_Le_findInItem_85 : decode b_Le_findInItem 85 = .ok (.iload 8, 2) := by decide +kernel
theorem d_Le_findInItem_87 : decode b_Le_findInItem 87 = .ok (.iaload, 1) := by decide +kernel
theorem d_Le_findInItem_88 : decode b_Le_findInItem 88 = .ok (.iload_n 2, 1) := by decide +kernel
theorem d_Le_findInItem_89 : decode b_Le_findInItem 89 = .ok (.if_icmp .ne 20, 3) := by decide +kernel
theorem d_Le_findInItem_92 : decode b_Le_findInItem 92 = .ok (.iload 7, 2) := by decide +kernel
theorem d_Le_findInItem_94 : decode b_Le_findInItem 94 = .ok (.aload 5, 2) := by decide +kernel
theorem d_Le_findInItem_96 : decode b_Le_findInItem 96 = .ok (.getfield 80, 3) := by decide +kernel
theorem d_Le_findInItem_99 : decode b_Le_findInItem 99 = .ok (.iload 8, 2) := by decide +kernel
theorem d_Le_findInItem_101 : decode b_Le_findInItem 101 = .ok (.iaload, 1) := by decide +kernel
theorem d_Le_findInItem_102 : decode b_Le_findInItem 102 = .ok (.if_icmp .ge 7, 3) := by decide +kernel
theorem d_Le_findInItem_105 : decode b_Le_findInItem 105 = .ok (.iconst 1, 1) := by decide +kernel
theorem d_Le_findInItem_106 : decode b_Le_findInItem 106 = .ok (.goto 4, 3) := by decide +kernel
theorem d_Le_findInItem_109 : decode b_Le_findInItem 109 = .ok (.iconst 0, 1) := by decide +kernel
theorem d_Le_findInItem_110 : decode b_Le_findInItem 110 = .ok (.istore 9, 2) := by decide +kernel
theorem d_Le_findInItem_112 : decode b_Le_findInItem 112 = .ok (.iload 9, 2) := by decide +kernel
theorem d_Le_findInItem_114 : decode b_Le_findInItem 114 = .ok (.ifCond .eq 62, 3) := by decide +kernel
theorem d_Le_findInItem_117 : decode b_Le_findInItem 117 = .ok (.aload 5, 2) := by decide +kernel
theorem d_Le_findInItem_119 : decode b_Le_findInItem 119 = .ok (.getfield 83, 3) := by decide +kernel
theorem d_Le_findInItem_122 : decode b_Le_findInItem 122 = .ok (.iload 8, 2) := by decide +kernel
theorem d_Le_findInItem_124 : decode b_Le_findInItem 124 = .ok (.iaload, 1) := by decide +kernel
theorem d_Le_findInItem_125 : decode b_Le_findInItem 125 = .ok (.aload_n 0, 1) := by decide +kernel
theorem d_Le_findInItem_126 : decode b_Le_findInItem 126 = .ok (.getfield 9, 3) := by decide +kernel
theorem d_Le_findInItem_129 : decode b_Le_findInItem 129 = .ok (.if_icmp .le 47, 3) := by decide +kernel
theorem d_Le_findInItem_132 : decode b_Le_findInItem 132 = .ok (.aload_n 0, 1) := by decide +kernel
theorem d_Le_findInItem_133 : decode b_Le_findInItem 133 = .ok (.aload 5, 2) := by decide +kernel
theorem d_Le_findInItem_135 : decode b_Le_findInItem 135 = .ok (.getfield 83, 3) := by decide +kernel
theorem d_Le_findInItem_138 : decode b_Le_findInItem 138 = .ok (.iload 8, 2) := by decide +kernel
theorem d_Le_findInItem_140 : decode b_Le_findInItem 140 = .ok (.iaload, 1) := by decide +kernel
theorem d_Le_findInItem_141 : decode b_Le_findInItem 141 = .ok (.putfield 9, 3) := by decide +kernel
theorem d_Le_findInItem_144 : decode b_Le_findInItem 144 = .ok (.aload_n 0, 1) := by decide +kernel
theorem d_Le_findInItem_145 : decode b_Le_findInItem 145 = .ok (.iload_n 3, 1) := by decide +kernel
theorem d_Le_findInItem_146 : decode b_Le_findInItem 146 = .ok (.putfield 18, 3) := by decide +kernel
theorem d_Le_findInItem_149 : decode b_Le_findInItem 149 = .ok (.aload_n 0, 1) := by decide +kernel
theorem d_Le_findInItem_150 : decode b_Le_findInItem 150 = .ok (.iload 4, 2) := by decide +kernel
theorem d_Le_findInItem_152 : decode b_Le_findInItem 152 = .ok (.putfield 21, 3) := by decide +kernel
theorem d_Le_findInItem_155 : decode b_Le_findInItem 155 = .ok (.aload_n 0, 1) := by decide +kernel
theorem d_Le_findInItem_156 : decode b_Le_findInItem 156 = .ok (.iload 8, 2) := by decide +kernel
theorem d_Le_findInItem_158 : decode b_Le_findInItem 158 = .ok (.putfield 24, 3) := by decide +kernel
theorem d_Le_findInItem_161 : decode b_Le_findInItem 161 = .ok (.aload_n 0, 1) := by decide +kernel
theorem d_Le_findInItem_162 : decode b_Le_findInItem 162 = .ok (.iconst 0, 1) := by decide +kernel
theorem d_Le_findInItem_163 : decode b_Le_findInItem 163 = .ok (.putfield 27, 3) := by decide +kernel
theorem d_Le_findInItem_166 : decode b_Le_findInItem 166 = .ok (.aload_n 0, 1) := by decide +kernel
theorem d_Le_findInItem_167 : decode b_Le_findInItem 167 = .ok (.iconst 0, 1) := by decide +kernel
theorem d_Le_findInItem_168 : decode b_Le_findInItem 168 = .ok (.putfield 30, 3) := by decide +kernel
theorem d_Le_findInItem_171 : decode b_Le_findInItem 171 = .ok (.aload_n 0, 1) := by decide +kernel
theorem d_Le_findInItem_172 : decode b_Le_findInItem 172 = .ok (.iconst 1, 1) := by decide +kernel
theorem d_Le_findInItem_173 : decode b_Le_findInItem 173 = .ok (.putfield 15, 3) := by decide +kernel
theorem d_Le_findInItem_176 : decode b_Le_findInItem 176 = .ok (.iload 9, 2) := by decide +kernel
theorem d_Le_findInItem_178 : decode b_Le_findInItem 178 = .ok (.ifCond .eq 64, 3) := by decide +kernel
theorem d_Le_findInItem_181 : decode b_Le_findInItem 181 = .ok (.aload 5, 2) := by decide +kernel
theorem d_Le_findInItem_183 : decode b_Le_findInItem 183 = .ok (.getfield 83, 3) := by decide +kernel
theorem d_Le_findInItem_186 : decode b_Le_findInItem 186 = .ok (.iload 8, 2) := by decide +kernel
theorem d_Le_findInItem_188 : decode b_Le_findInItem 188 = .ok (.iaload, 1) := by decide +kernel
theorem d_Le_findInItem_189 : decode b_Le_findInItem 189 = .ok (.aload_n 0, 1) := by decide +kernel
theorem d_Le_findInItem_190 : decode b_Le_findInItem 190 = .ok (.getfield 9, 3) := by decide +kernel
theorem d_Le_findInItem_193 : decode b_Le_findInItem 193 = .ok (.if_icmp .ne 49, 3) := by decide +kernel
theorem d_Le_findInItem_196 : decode b_Le_findInItem 196 = .ok (.aload_n 0, 1) := by decide +kernel
theorem d_Le_findInItem_197 : decode b_Le_findInItem 197 = .ok (.dup, 1) := by decide +kernel
theorem d_Le_findInItem_198 : decode b_Le_findInItem 198 = .ok (.getfield 27, 3) := by decide +kernel
theorem d_Le_findInItem_201 : decode b_Le_findInItem 201 = .ok (.aload 5, 2) := by decide +kernel
theorem d_Le_findInItem_203 : decode b_Le_findInItem 203 = .ok (.getfield 86, 3) := by decide +kernel
theorem d_Le_findInItem_206 : decode b_Le_findInItem 206 = .ok (.iload 8, 2) := by decide +kernel
theorem d_Le_findInItem_208 : decode b_Le_findInItem 208 = .ok (.iaload, 1) := by decide +kernel
theorem d_Le_findInItem_209 : decode b_Le_findInItem 209 = .ok (.iadd, 1) := by decide +kernel
theorem d_Le_findInItem_210 : decode b_Le_findInItem 210 = .ok (.putfield 27, 3) := by decide +kernel
theorem d_Le_findInItem_213 : decode b_Le_findInItem 213 = .ok (.aload_n 0, 1) := by decide +kernel
theorem d_Le_findInItem_214 : decode b_Le_findInItem 214 = .ok (.dup, 1) := by decide +kernel
theorem d_Le_findInItem_215 : decode b_Le_findInItem 215 = .ok (.getfield 30, 3) := by decide +kernel
theorem d_Le_findInItem_218 : decode b_Le_findInItem 218 = .ok (.iconst 1, 1) := by decide +kernel
theorem d_Le_findInItem_219 : decode b_Le_findInItem 219 = .ok (.iadd, 1) := by decide +kernel
theorem d_Le_findInItem_220 : decode b_Le_findInItem 220 = .ok (.putfield 30, 3) := by decide +kernel
theorem d_Le_findInItem_223 : decode b_Le_findInItem 223 = .ok (.aload_n 0, 1) := by decide +kernel
theorem d_Le_findInItem_224 : decode b_Le_findInItem 224 = .ok (.aload_n 0, 1) := by decide +kernel
theorem d_Le_findInItem_225 : decode b_Le_findInItem 225 = .ok (.getfield 15, 3) := by decide +kernel
theorem d_Le_findInItem_228 : decode b_Le_findInItem 228 = .ok (.aload 5, 2) := by decide +kernel
theorem d_Le_findInItem_230 : decode b_Le_findInItem 230 = .ok (.getfield 89, 3) := by decide +kernel
theorem d_Le_findInItem_233 : decode b_Le_findInItem 233 = .ok (.iload 8, 2) := by decide +kernel
theorem d_Le_findInItem_235 : decode b_Le_findInItem 235 = .ok (.iaload, 1) := by decide +kernel
theorem d_Le_findInItem_236 : decode b_Le_findInItem 236 = .ok (.invokestatic 91, 3) := by decide +kernel
theorem d_Le_findInItem_239 : decode b_Le_findInItem 239 = .ok (.putfield 15, 3) := by decide +kernel
theorem d_Le_findInItem_242 : decode b_Le_findInItem 242 = .ok (.iinc 8 1, 3) := by decide +kernel
theorem d_Le_findInItem_245 : decode b_Le_findInItem 245 = .ok (.goto (-194), 3) := by decide +kernel
theorem d_Le_findInItem_248 : decode b_Le_findInItem 248 = .ok (.return_, 1) := by decide +kernel
theorem wf_Le_40 : Cond.fieldLink R_Le 40 R_Mo "law" "LPipeVoice$Law;" ∈ gw_tbl := gw_tb (List.mem_of_getElem? (i := 235) (by decide +kernel)) rfl
theorem wf_Le_36 : Cond.fieldLink R_Le 36 R_Mo "saidWord" "[I" ∈ gw_tbl := gw_tb (List.mem_of_getElem? (i := 244) (by decide +kernel)) rfl
theorem wf_Le_59 : Cond.fieldLink R_Le 59 R_Mo "clock" "I" ∈ gw_tbl := gw_tb (List.mem_of_getElem? (i := 238) (by decide +kernel)) rfl
theorem wf_Le_62 : Cond.fieldLink R_Le 62 R_Mo "saidTick" "[I" ∈ gw_tbl := gw_tb (List.mem_of_getElem? (i := 247) (by decide +kernel)) rfl
theorem wf_Le_65 : Cond.fieldLink R_Le 65 R_La "itemAt" "[I" ∈ gw_tbl := gw_tb (List.mem_of_getElem? (i := 112) (by decide +kernel)) rfl
theorem wf_Le_68 : Cond.fieldLink R_Le 68 R_La "gestures" "I" ∈ gw_tbl := gw_tb (List.mem_of_getElem? (i := 83) (by decide +kernel)) rfl
theorem wf_Le_71 : Cond.fieldLink R_Le 71 R_La "letters" "[I" ∈ gw_tbl := gw_tb (List.mem_of_getElem? (i := 87) (by decide +kernel)) rfl
theorem wf_Le_74 : Cond.fieldLink R_Le 74 R_La "itemLetter" "[I" ∈ gw_tbl := gw_tb (List.mem_of_getElem? (i := 109) (by decide +kernel)) rfl
theorem wf_Le_77 : Cond.fieldLink R_Le 77 R_La "piece" "[I" ∈ gw_tbl := gw_tb (List.mem_of_getElem? (i := 90) (by decide +kernel)) rfl
theorem wf_Le_80 : Cond.fieldLink R_Le 80 R_La "hold" "[I" ∈ gw_tbl := gw_tb (List.mem_of_getElem? (i := 99) (by decide +kernel)) rfl
theorem wf_Le_83 : Cond.fieldLink R_Le 83 R_La "strength" "[I" ∈ gw_tbl := gw_tb (List.mem_of_getElem? (i := 102) (by decide +kernel)) rfl
theorem wf_Le_9 : Cond.fieldLink R_Le 9 R_Le "strongest" "I" ∈ gw_tbl := gw_tb (List.mem_of_getElem? (i := 328) (by decide +kernel)) rfl
theorem wf_Le_18 : Cond.fieldLink R_Le 18 R_Le "said" "I" ∈ gw_tbl := gw_tb (List.mem_of_getElem? (i := 325) (by decide +kernel)) rfl
theorem wf_Le_21 : Cond.fieldLink R_Le 21 R_Le "item" "I" ∈ gw_tbl := gw_tb (List.mem_of_getElem? (i := 326) (by decide +kernel)) rfl
theorem wf_Le_24 : Cond.fieldLink R_Le 24 R_Le "clause" "I" ∈ gw_tbl := gw_tb (List.mem_of_getElem? (i := 327) (by decide +kernel)) rfl
theorem wf_Le_27 : Cond.fieldLink R_Le 27 R_Le "sum" "I" ∈ gw_tbl := gw_tb (List.mem_of_getElem? (i := 329) (by decide +kernel)) rfl
theorem wf_Le_30 : Cond.fieldLink R_Le 30 R_Le "count" "I" ∈ gw_tbl := gw_tb (List.mem_of_getElem? (i := 330) (by decide +kernel)) rfl
theorem wf_Le_15 : Cond.fieldLink R_Le 15 R_Le "speed" "I" ∈ gw_tbl := gw_tb (List.mem_of_getElem? (i := 323) (by decide +kernel)) rfl
theorem wf_Le_86 : Cond.fieldLink R_Le 86 R_La "width" "[I" ∈ gw_tbl := gw_tb (List.mem_of_getElem? (i := 93) (by decide +kernel)) rfl
theorem wf_Le_89 : Cond.fieldLink R_Le 89 R_La "speed" "[I" ∈ gw_tbl := gw_tb (List.mem_of_getElem? (i := 96) (by decide +kernel)) rfl
theorem wm_Le_91 : Cond.methodLink R_Le 91 ⟨"java/lang/Math", "max", "(II)I"⟩ ∈ gw_tbl := gw_tb (List.mem_of_getElem? (i := 684) (by decide +kernel)) rfl
def f_Le_findInItem_176 (r1 : (Nat → Nat)) (o1 : Ob) (o2 : Ob) (k51 : Int32 → Int32 → Int32 → Int32 → Int32 → Int32 → Ob → Prop) (Q : Ob → Prop) (x2 : Int32) (x3 : Int32) (x4 : Int32) (x6 : Int32) (x7 : Int32) (x8 : Int32) (x9 : Int32) (o0 : Ob) : Prop := (x9 = 0 → (k51 x2 x3 x4 x6 x7 (x8 + (1 : Int32)) o0)) ∧ (¬ x9 = 0 → ((vp_in x8 20) ∧ ((((gA o2 11) x8.toNatClampNeg) = (gI o0 5) → ((vp_in x8 20) ∧ ((vp_in x8 20) ∧ (∀ y6 : Int32, y6 = (if (gI o0 1) < ((gA o2 9) x8.toNatClampNeg) then ((gA o2 9) x8.toNatClampNeg) else (gI o0 1)) → (k51 x2 x3 x4 x6 x7 (x8 + (1 : Int32)) (sI (sI (sI o0 1 y6) 6 ((gI o0 6) + ((gA o2 8) x8.toNatClampNeg))) 7 ((gI o0 7) + (1 : Int32)))))))) ∧ (¬ ((gA o2 11) x8.toNatClampNeg) = (gI o0 5) → (k51 x2 x3 x4 x6 x7 (x8 + (1 : Int32)) o0)))))
def f_Le_findInItem_112 (r1 : (Nat → Nat)) (o1 : Ob) (o2 : Ob) (k51 : Int32 → Int32 → Int32 → Int32 → Int32 → Int32 → Ob → Prop) (Q : Ob → Prop) (x2 : Int32) (x3 : Int32) (x4 : Int32) (x6 : Int32) (x7 : Int32) (x8 : Int32) (x9 : Int32) (o0 : Ob) : Prop := (x9 = 0 → (f_Le_findInItem_176 r1 o1 o2 k51 Q x2 x3 x4 x6 x7 x8 x9 o0)) ∧ (¬ x9 = 0 → ((vp_in x8 20) ∧ ((((gA o2 11) x8.toNatClampNeg) ≤ (gI o0 5) → (f_Le_findInItem_176 r1 o1 o2 k51 Q x2 x3 x4 x6 x7 x8 x9 o0)) ∧ (¬ ((gA o2 11) x8.toNatClampNeg) ≤ (gI o0 5) → ((vp_in x8 20) ∧ (f_Le_findInItem_176 r1 o1 o2 k51 Q x2 x3 x4 x6 x7 x8 x9 (sI (sI (sI (sI (sI (sI (sI o0 1 (1 : Int32)) 2 x3) 3 x4) 4 x8) 5 ((gA o2 11) x8.toNatClampNeg)) 6 (0 : Int32)) 7 (0 : Int32))))))))
def f_Le_findInItem_109 (r1 : (Nat → Nat)) (o1 : Ob) (o2 : Ob) (k51 : Int32 → Int32 → Int32 → Int32 → Int32 → Int32 → Ob → Prop) (Q : Ob → Prop) (x2 : Int32) (x3 : Int32) (x4 : Int32) (x6 : Int32) (x7 : Int32) (x8 : Int32) (o0 : Ob) : Prop := f_Le_findInItem_112 r1 o1 o2 k51 Q x2 x3 x4 x6 x7 x8 (0 : Int32) o0
def f_Le_findInItem_51 (r1 : (Nat → Nat)) (o1 : Ob) (o2 : Ob) (Q : Ob → Prop) : Nat → Int32 → Int32 → Int32 → Int32 → Int32 → Int32 → Ob → Prop
  | 0, _, _, _, _, _, _, _ => False
  | n + 1, x2, x3, x4, x6, x7, x8, o0 => ((gI o2 5) ≤ x8 → (Q o0)) ∧ (¬ (gI o2 5) ≤ x8 → ((vp_in x8 20) ∧ ((vp_in x6 64) ∧ ((((gA o2 6) x8.toNatClampNeg) = ((gA o2 13) x6.toNatClampNeg) → ((vp_in x8 20) ∧ ((((gA o2 7) x8.toNatClampNeg) = x2 → ((vp_in x8 20) ∧ ((((gA o2 10) x8.toNatClampNeg) ≤ x7 → (f_Le_findInItem_109 r1 o1 o2 (f_Le_findInItem_51 r1 o1 o2 Q n) Q x2 x3 x4 x6 x7 x8 o0)) ∧ (¬ ((gA o2 10) x8.toNatClampNeg) ≤ x7 → (f_Le_findInItem_112 r1 o1 o2 (f_Le_findInItem_51 r1 o1 o2 Q n) Q x2 x3 x4 x6 x7 x8 (1 : Int32) o0))))) ∧ (¬ ((gA o2 7) x8.toNatClampNeg) = x2 → (f_Le_findInItem_109 r1 o1 o2 (f_Le_findInItem_51 r1 o1 o2 Q n) Q x2 x3 x4 x6 x7 x8 o0))))) ∧ (¬ ((gA o2 6) x8.toNatClampNeg) = ((gA o2 13) x6.toNatClampNeg) → (f_Le_findInItem_109 r1 o1 o2 (f_Le_findInItem_51 r1 o1 o2 Q n) Q x2 x3 x4 x6 x7 x8 o0))))))
def f_Le_findInItem (a1 : Int32) (a2 : Int32) (a3 : Int32) (o0 : Ob) (r1 : (Nat → Nat)) (o1 : Ob) (o2 : Ob) (Q : Ob → Prop) : Prop := (vp_in a2 20) ∧ (∀ y20 : Int32, y20 = ((((gA o1 3) a2.toNatClampNeg) * (8 : Int32)) + a3) → ((vp_in a2 20) ∧ ((vp_in y20 64) ∧ (∀ y23 : Int32, y23 = (((gI o1 1) - ((gA o1 4) a2.toNatClampNeg)) - ((gA o2 14) y20.toNatClampNeg)) → ((0 ≤ y23 → ((∃ w, f_Le_findInItem_51 r1 o1 o2 Q w a1 a2 a3 y20 y23 (0 : Int32) o0))) ∧ (¬ 0 ≤ y23 → (Q o0)))))))
abbrev rm_Le_findInItem : Room := { frames := 1, cells := 0, slots := 0, locals := 30 }
set_option maxHeartbeats 4000000 in
set_option maxRecDepth 100000 in
theorem t_Le_findInItem_176 {p : Program} {l : Launch} {e : Env} {s : State} {m : MethodId} {args : Array Value} {below : List Frame} {meth : Method} {c : Code} {A : Nat → Prop} {G : Gl} {h0 : Nat} {h1 : Nat} {q0 : Nat → Nat} {q1 : Nat → Nat} {q2 : Nat → Nat} (r1 : (Nat → Nat)) (o1 : Ob) (o2 : Ob) (k51 : Int32 → Int32 → Int32 → Int32 → Int32 → Int32 → Ob → Prop) (Q : Ob → Prop) (C : Cx p s m args meth c R_Le b_Le_findInItem 10 none G A)
    (hk51 : ∀ (x2 : Int32) (x3 : Int32) (x4 : Int32) (x6 : Int32) (x7 : Int32) (x8 : Int32) (o0 : Ob) (ls : Array Slot) (H : Heap) (locs : List Loc), lv_has ls 10 [(0, .ref h0), (2, .int x2), (3, .int x3), (4, .int x4), (5, .ref (r1 0)), (6, .int x6), (7, .int x7), (8, .int x8)] → va_P G.1 CL (cw_Le G h0 q0 o0 ++ (cw_Mo G h1 q1 r1 o1 ++ (cw_La G (r1 0) q2 o2))) H → va_D A (cw_Le G h0 q0 o0 ++ (cw_Mo G h1 q1 r1 o1 ++ (cw_La G (r1 0) q2 o2))) → va_S A s.heap H locs → k51 x2 x3 x4 x6 x7 x8 o0 → W p l e rm_Le_findInItem s m args below meth c H locs 0 0 (MQ below (va_Qv (fun (u : Ob) => Q u) (fun (u : Ob) t => BW G A (cw_Le G h0 q0 u ++ (cw_Mo G h1 q1 r1 o1 ++ (cw_La G (r1 0) q2 o2))) t) A) args s 0 0 A) (F0 m 51 ls [])) :
    ∀ (x2 : Int32) (x3 : Int32) (x4 : Int32) (x6 : Int32) (x7 : Int32) (x8 : Int32) (x9 : Int32) (o0 : Ob) (ls : Array Slot) (H : Heap) (locs : List Loc), lv_has ls 10 [(0, .ref h0), (2, .int x2), (3, .int x3), (4, .int x4), (5, .ref (r1 0)), (6, .int x6), (7, .int x7), (8, .int x8), (9, .int x9)] → va_P G.1 CL (cw_Le G h0 q0 o0 ++ (cw_Mo G h1 q1 r1 o1 ++ (cw_La G (r1 0) q2 o2))) H → va_D A (cw_Le G h0 q0 o0 ++ (cw_Mo G h1 q1 r1 o1 ++ (cw_La G (r1 0) q2 o2))) → va_S A s.heap H locs → f_Le_findInItem_176 r1 o1 o2 k51 Q x2 x3 x4 x6 x7 x8 x9 o0 → W p l e rm_Le_findInItem s m args below meth c H locs 0 0 (MQ below (va_Qv (fun (u : Ob) => Q u) (fun (u : Ob) t => BW G A (cw_Le G h0 q0 u ++ (cw_Mo G h1 q1 r1 o1 ++ (cw_La G (r1 0) q2 o2))) t) A) args s 0 0 A) (F0 m 176 ls []) := by
  obtain ⟨hx, hb, hml, hown, hr, hts, hK, hA, hlocks, hE⟩ := id C
  intro x2 x3 x4 x6 x7 x8 x9 o0 ls H locs hl hP hD hS h
  have hP : va_P G.1 CL [(h0, .inr (4, [.int (gI o0 0), .int (gI o0 1), .int (gI o0 2), .int (gI o0 3), .int (gI o0 4), .int (gI o0 5), .int (gI o0 6), .int (gI o0 7)])), (h1, .inr (5, [.ref (r1 0), .int (gI o1 1), .int (gI o1 2), .ref (q1 3), .ref (q1 4), .ref (q1 5), .ref (q1 6), .ref (q1 7), .ref (q1 8), .ref (q1 9), .ref (q1 10), .int (gI o1 11), .int (gI o1 12)])), kI G (q1 3) 20 (gA o1 3), kI G (q1 4) 20 (gA o1 4), kI G (q1 5) 5 (gA o1 5), kJ G (q1 6) 5 (gB o1 6), kJ G (q1 7) 5 (gB o1 7), kJ G (q1 8) 6 (gB o1 8), kI G (q1 10) 5 (gA o1 10), ((r1 0), .inr (3, [.ref (q2 0), .int (gI o2 1), .int (gI o2 2), .int (gI o2 3), .int (gI o2 4), .int (gI o2 5), .ref (q2 6), .ref (q2 7), .ref (q2 8), .ref (q2 9), .ref (q2 10), .ref (q2 11), .ref (q2 12), .ref (q2 13), .ref (q2 14)])), kI G (q2 0) 5 (gA o2 0), kI G (q2 6) 20 (gA o2 6), kI G (q2 7) 20 (gA o2 7), kI G (q2 8) 20 (gA o2 8), kI G (q2 9) 20 (gA o2 9), kI G (q2 10) 20 (gA o2 10), kI G (q2 11) 20 (gA o2 11), kI G (q2 12) 8 (gA o2 12), kI G (q2 13) 64 (gA o2 13), kI G (q2 14) 64 (gA o2 14)] H := hP
  have hD : va_D A [(h0, .inr (4, [.int (gI o0 0), .int (gI o0 1), .int (gI o0 2), .int (gI o0 3), .int (gI o0 4), .int (gI o0 5), .int (gI o0 6), .int (gI o0 7)])), (h1, .inr (5, [.ref (r1 0), .int (gI o1 1), .int (gI o1 2), .ref (q1 3), .ref (q1 4), .ref (q1 5), .ref (q1 6), .ref (q1 7), .ref (q1 8), .ref (q1 9), .ref (q1 10), .int (gI o1 11), .int (gI o1 12)])), kI G (q1 3) 20 (gA o1 3), kI G (q1 4) 20 (gA o1 4), kI G (q1 5) 5 (gA o1 5), kJ G (q1 6) 5 (gB o1 6), kJ G (q1 7) 5 (gB o1 7), kJ G (q1 8) 6 (gB o1 8), kI G (q1 10) 5 (gA o1 10), ((r1 0), .inr (3, [.ref (q2 0), .int (gI o2 1), .int (gI o2 2), .int (gI o2 3), .int (gI o2 4), .int (gI o2 5), .ref (q2 6), .ref (q2 7), .ref (q2 8), .ref (q2 9), .ref (q2 10), .ref (q2 11), .ref (q2 12), .ref (q2 13), .ref (q2 14)])), kI G (q2 0) 5 (gA o2 0), kI G (q2 6) 20 (gA o2 6), kI G (q2 7) 20 (gA o2 7), kI G (q2 8) 20 (gA o2 8), kI G (q2 9) 20 (gA o2 9), kI G (q2 10) 20 (gA o2 10), kI G (q2 11) 20 (gA o2 11), kI G (q2 12) 8 (gA o2 12), kI G (q2 13) 64 (gA o2 13), kI G (q2 14) 64 (gA o2 14)] := hD
  unfold f_Le_findInItem_176 at h
  refine lv_iload hx hb d_Le_findInItem_176 (lv_at hl 8 rfl) ?_
  refine lv_if_eq (tgt := 242) hx hb d_Le_findInItem_178 (by decide) (fun c1 => ?_) (fun c1 => ?_)
  · have h := h.1 c1
    refine lv_iinc (v := (x8 + (1 : Int32))) (lv' := [(8, .int (x8 + (1 : Int32))), (0, .ref h0), (2, .int x2), (3, .int x3), (4, .int x4), (5, .ref (r1 0)), (6, .int x6), (7, .int x7), (9, .int x9)]) hx hb d_Le_findInItem_242 hl (k := 7) rfl rfl (by decide) rfl (fun ls hl => ?_)
    refine lv_goto (tgt := 51) hx hb d_Le_findInItem_245 (by decide) ?_
    have hl := lv_sub (l' := [(0, .ref h0), (2, .int x2), (3, .int x3), (4, .int x4), (5, .ref (r1 0)), (6, .int x6), (7, .int x7), (8, .int (x8 + (1 : Int32)))]) hl [1, 2, 3, 4, 5, 6, 7, 0] rfl
    have hP : va_P G.1 CL (cw_Le G h0 q0 o0 ++ (cw_Mo G h1 q1 r1 o1 ++ (cw_La G (r1 0) q2 o2))) H := hP
    have hD : va_D A (cw_Le G h0 q0 o0 ++ (cw_Mo G h1 q1 r1 o1 ++ (cw_La G (r1 0) q2 o2))) := hD
    exact hk51 x2 x3 x4 x6 x7 (x8 + (1 : Int32)) o0 ls H locs hl hP hD hS h
  · have h := h.2 c1
    refine lv_aload hx hb d_Le_findInItem_181 (lv_at hl 4 rfl) ?_
    refine va_get (D := G.1) (ci := 3) (v := .ref (q2 11)) (C := R_La) (T := T_La) (N := 15) hx hb hts i_La hown hK hP 9 rfl rfl 11 (by decide) (hts _ wf_Le_83) (fun _ h9 => h9) rfl d_Le_findInItem_183 ?_
    refine lv_iload hx hb d_Le_findInItem_186 (lv_at hl 7 rfl) ?_
    have g2 := h.1
    have h := h.2
    refine xa_iald hx hb hK hP 16 0 rfl rfl g2 (k := x8.toNatClampNeg) rfl d_Le_findInItem_188 ?_
    refine lv_aload_n hx hb d_Le_findInItem_189 rfl (lv_at hl 0 rfl) ?_
    refine va_get (D := G.1) (ci := 4) (v := .int (gI o0 5)) (C := R_Le) (T := T_Le) (N := 8) hx hb hts i_Le hown hK hP 0 rfl rfl 5 (by decide) (hts _ wf_Le_9) (fun _ h9 => h9) rfl d_Le_findInItem_190 ?_
    refine lv_icmp_ne (tgt := 242) hx hb d_Le_findInItem_193 (by decide) (fun c3 => ?_) (fun c3 => ?_)
    · have h := h.2 c3
      refine lv_iinc (v := (x8 + (1 : Int32))) (lv' := [(8, .int (x8 + (1 : Int32))), (0, .ref h0), (2, .int x2), (3, .int x3), (4, .int x4), (5, .ref (r1 0)), (6, .int x6), (7, .int x7), (9, .int x9)]) hx hb d_Le_findInItem_242 hl (k := 7) rfl rfl (by decide) rfl (fun ls hl => ?_)
      refine lv_goto (tgt := 51) hx hb d_Le_findInItem_245 (by decide) ?_
      have hl := lv_sub (l' := [(0, .ref h0), (2, .int x2), (3, .int x3), (4, .int x4), (5, .ref (r1 0)), (6, .int x6), (7, .int x7), (8, .int (x8 + (1 : Int32)))]) hl [1, 2, 3, 4, 5, 6, 7, 0] rfl
      have hP : va_P G.1 CL (cw_Le G h0 q0 o0 ++ (cw_Mo G h1 q1 r1 o1 ++ (cw_La G (r1 0) q2 o2))) H := hP
      have hD : va_D A (cw_Le G h0 q0 o0 ++ (cw_Mo G h1 q1 r1 o1 ++ (cw_La G (r1 0) q2 o2))) := hD
      exact hk51 x2 x3 x4 x6 x7 (x8 + (1 : Int32)) o0 ls H locs hl hP hD hS h
    · have h := h.1 c3
      refine lv_aload_n hx hb d_Le_findInItem_196 rfl (lv_at hl 0 rfl) ?_
      refine lv_dup hx hb d_Le_findInItem_197 rfl ?_
      refine va_get (D := G.1) (ci := 4) (v := .int (gI o0 6)) (C := R_Le) (T := T_Le) (N := 8) hx hb hts i_Le hown hK hP 0 rfl rfl 6 (by decide) (hts _ wf_Le_27) (fun _ h9 => h9) rfl d_Le_findInItem_198 ?_
      refine lv_aload hx hb d_Le_findInItem_201 (lv_at hl 4 rfl) ?_
      refine va_get (D := G.1) (ci := 3) (v := .ref (q2 8)) (C := R_La) (T := T_La) (N := 15) hx hb hts i_La hown hK hP 9 rfl rfl 8 (by decide) (hts _ wf_Le_86) (fun _ h9 => h9) rfl d_Le_findInItem_203 ?_
      refine lv_iload hx hb d_Le_findInItem_206 (lv_at hl 7 rfl) ?_
      have g4 := h.1
      have h := h.2
      refine xa_iald hx hb hK hP 13 0 rfl rfl g4 (k := x8.toNatClampNeg) rfl d_Le_findInItem_208 ?_
      refine lv_iadd hx hb d_Le_findInItem_209 ?_
      refine va_put (D := G.1) (ci := 4) (v := .int ((gI o0 6) + ((gA o2 8) x8.toNatClampNeg))) (ty := .int) (C := R_Le) (T := T_Le) (N := 8) hx hb hts i_Le ty_Le ty_Le_ok nm_Le hown hK hP hD hS 0 rfl rfl 6 (by decide) (hts _ wf_Le_27) (fun _ h9 => h9) rfl (ty_Le_ok 6 (by decide)) rfl rfl (Nat.le_of_ble_eq_true rfl) d_Le_findInItem_210 (fun H locs hP hD hS => ?_)
      have hP : va_P G.1 CL [(h0, .inr (4, [.int (gI o0 0), .int (gI o0 1), .int (gI o0 2), .int (gI o0 3), .int (gI o0 4), .int (gI o0 5), .int ((gI o0 6) + ((gA o2 8) x8.toNatClampNeg)), .int (gI o0 7)])), (h1, .inr (5, [.ref (r1 0), .int (gI o1 1), .int (gI o1 2), .ref (q1 3), .ref (q1 4), .ref (q1 5), .ref (q1 6), .ref (q1 7), .ref (q1 8), .ref (q1 9), .ref (q1 10), .int (gI o1 11), .int (gI o1 12)])), kI G (q1 3) 20 (gA o1 3), kI G (q1 4) 20 (gA o1 4), kI G (q1 5) 5 (gA o1 5), kJ G (q1 6) 5 (gB o1 6), kJ G (q1 7) 5 (gB o1 7), kJ G (q1 8) 6 (gB o1 8), kI G (q1 10) 5 (gA o1 10), ((r1 0), .inr (3, [.ref (q2 0), .int (gI o2 1), .int (gI o2 2), .int (gI o2 3), .int (gI o2 4), .int (gI o2 5), .ref (q2 6), .ref (q2 7), .ref (q2 8), .ref (q2 9), .ref (q2 10), .ref (q2 11), .ref (q2 12), .ref (q2 13), .ref (q2 14)])), kI G (q2 0) 5 (gA o2 0), kI G (q2 6) 20 (gA o2 6), kI G (q2 7) 20 (gA o2 7), kI G (q2 8) 20 (gA o2 8), kI G (q2 9) 20 (gA o2 9), kI G (q2 10) 20 (gA o2 10), kI G (q2 11) 20 (gA o2 11), kI G (q2 12) 8 (gA o2 12), kI G (q2 13) 64 (gA o2 13), kI G (q2 14) 64 (gA o2 14)] H := hP
      have hD : va_D A [(h0, .inr (4, [.int (gI o0 0), .int (gI o0 1), .int (gI o0 2), .int (gI o0 3), .int (gI o0 4), .int (gI o0 5), .int ((gI o0 6) + ((gA o2 8) x8.toNatClampNeg)), .int (gI o0 7)])), (h1, .inr (5, [.ref (r1 0), .int (gI o1 1), .int (gI o1 2), .ref (q1 3), .ref (q1 4), .ref (q1 5), .ref (q1 6), .ref (q1 7), .ref (q1 8), .ref (q1 9), .ref (q1 10), .int (gI o1 11), .int (gI o1 12)])), kI G (q1 3) 20 (gA o1 3), kI G (q1 4) 20 (gA o1 4), kI G (q1 5) 5 (gA o1 5), kJ G (q1 6) 5 (gB o1 6), kJ G (q1 7) 5 (gB o1 7), kJ G (q1 8) 6 (gB o1 8), kI G (q1 10) 5 (gA o1 10), ((r1 0), .inr (3, [.ref (q2 0), .int (gI o2 1), .int (gI o2 2), .int (gI o2 3), .int (gI o2 4), .int (gI o2 5), .ref (q2 6), .ref (q2 7), .ref (q2 8), .ref (q2 9), .ref (q2 10), .ref (q2 11), .ref (q2 12), .ref (q2 13), .ref (q2 14)])), kI G (q2 0) 5 (gA o2 0), kI G (q2 6) 20 (gA o2 6), kI G (q2 7) 20 (gA o2 7), kI G (q2 8) 20 (gA o2 8), kI G (q2 9) 20 (gA o2 9), kI G (q2 10) 20 (gA o2 10), kI G (q2 11) 20 (gA o2 11), kI G (q2 12) 8 (gA o2 12), kI G (q2 13) 64 (gA o2 13), kI G (q2 14) 64 (gA o2 14)] := hD
      refine lv_aload_n hx hb d_Le_findInItem_213 rfl (lv_at hl 0 rfl) ?_
      refine lv_dup hx hb d_Le_findInItem_214 rfl ?_
      refine va_get (D := G.1) (ci := 4) (v := .int (gI o0 7)) (C := R_Le) (T := T_Le) (N := 8) hx hb hts i_Le hown hK hP 0 rfl rfl 7 (by decide) (hts _ wf_Le_30) (fun _ h9 => h9) rfl d_Le_findInItem_215 ?_
      refine lv_iconst (v := (1 : Int32)) hx hb d_Le_findInItem_218 (by decide) ?_
      refine lv_iadd hx hb d_Le_findInItem_219 ?_
      refine va_put (D := G.1) (ci := 4) (v := .int ((gI o0 7) + (1 : Int32))) (ty := .int) (C := R_Le) (T := T_Le) (N := 8) hx hb hts i_Le ty_Le ty_Le_ok nm_Le hown hK hP hD hS 0 rfl rfl 7 (by decide) (hts _ wf_Le_30) (fun _ h9 => h9) rfl (ty_Le_ok 7 (by decide)) rfl rfl (Nat.le_of_ble_eq_true rfl) d_Le_findInItem_220 (fun H locs hP hD hS => ?_)
      have hP : va_P G.1 CL [(h0, .inr (4, [.int (gI o0 0), .int (gI o0 1), .int (gI o0 2), .int (gI o0 3), .int (gI o0 4), .int (gI o0 5), .int ((gI o0 6) + ((gA o2 8) x8.toNatClampNeg)), .int ((gI o0 7) + (1 : Int32))])), (h1, .inr (5, [.ref (r1 0), .int (gI o1 1), .int (gI o1 2), .ref (q1 3), .ref (q1 4), .ref (q1 5), .ref (q1 6), .ref (q1 7), .ref (q1 8), .ref (q1 9), .ref (q1 10), .int (gI o1 11), .int (gI o1 12)])), kI G (q1 3) 20 (gA o1 3), kI G (q1 4) 20 (gA o1 4), kI G (q1 5) 5 (gA o1 5), kJ G (q1 6) 5 (gB o1 6), kJ G (q1 7) 5 (gB o1 7), kJ G (q1 8) 6 (gB o1 8), kI G (q1 10) 5 (gA o1 10), ((r1 0), .inr (3, [.ref (q2 0), .int (gI o2 1), .int (gI o2 2), .int (gI o2 3), .int (gI o2 4), .int (gI o2 5), .ref (q2 6), .ref (q2 7), .ref (q2 8), .ref (q2 9), .ref (q2 10), .ref (q2 11), .ref (q2 12), .ref (q2 13), .ref (q2 14)])), kI G (q2 0) 5 (gA o2 0), kI G (q2 6) 20 (gA o2 6), kI G (q2 7) 20 (gA o2 7), kI G (q2 8) 20 (gA o2 8), kI G (q2 9) 20 (gA o2 9), kI G (q2 10) 20 (gA o2 10), kI G (q2 11) 20 (gA o2 11), kI G (q2 12) 8 (gA o2 12), kI G (q2 13) 64 (gA o2 13), kI G (q2 14) 64 (gA o2 14)] H := hP
      have hD : va_D A [(h0, .inr (4, [.int (gI o0 0), .int (gI o0 1), .int (gI o0 2), .int (gI o0 3), .int (gI o0 4), .int (gI o0 5), .int ((gI o0 6) + ((gA o2 8) x8.toNatClampNeg)), .int ((gI o0 7) + (1 : Int32))])), (h1, .inr (5, [.ref (r1 0), .int (gI o1 1), .int (gI o1 2), .ref (q1 3), .ref (q1 4), .ref (q1 5), .ref (q1 6), .ref (q1 7), .ref (q1 8), .ref (q1 9), .ref (q1 10), .int (gI o1 11), .int (gI o1 12)])), kI G (q1 3) 20 (gA o1 3), kI G (q1 4) 20 (gA o1 4), kI G (q1 5) 5 (gA o1 5), kJ G (q1 6) 5 (gB o1 6), kJ G (q1 7) 5 (gB o1 7), kJ G (q1 8) 6 (gB o1 8), kI G (q1 10) 5 (gA o1 10), ((r1 0), .inr (3, [.ref (q2 0), .int (gI o2 1), .int (gI o2 2), .int (gI o2 3), .int (gI o2 4), .int (gI o2 5), .ref (q2 6), .ref (q2 7), .ref (q2 8), .ref (q2 9), .ref (q2 10), .ref (q2 11), .ref (q2 12), .ref (q2 13), .ref (q2 14)])), kI G (q2 0) 5 (gA o2 0), kI G (q2 6) 20 (gA o2 6), kI G (q2 7) 20 (gA o2 7), kI G (q2 8) 20 (gA o2 8), kI G (q2 9) 20 (gA o2 9), kI G (q2 10) 20 (gA o2 10), kI G (q2 11) 20 (gA o2 11), kI G (q2 12) 8 (gA o2 12), kI G (q2 13) 64 (gA o2 13), kI G (q2 14) 64 (gA o2 14)] := hD
      refine lv_aload_n hx hb d_Le_findInItem_223 rfl (lv_at hl 0 rfl) ?_
      refine lv_aload_n hx hb d_Le_findInItem_224 rfl (lv_at hl 0 rfl) ?_
      refine va_get (D := G.1) (ci := 4) (v := .int (gI o0 1)) (C := R_Le) (T := T_Le) (N := 8) hx hb hts i_Le hown hK hP 0 rfl rfl 1 (by decide) (hts _ wf_Le_15) (fun _ h9 => h9) rfl d_Le_findInItem_225 ?_
      refine lv_aload hx hb d_Le_findInItem_228 (lv_at hl 4 rfl) ?_
      refine va_get (D := G.1) (ci := 3) (v := .ref (q2 9)) (C := R_La) (T := T_La) (N := 15) hx hb hts i_La hown hK hP 9 rfl rfl 9 (by decide) (hts _ wf_Le_89) (fun _ h9 => h9) rfl d_Le_findInItem_230 ?_
      refine lv_iload hx hb d_Le_findInItem_233 (lv_at hl 7 rfl) ?_
      have g5 := h.1
      have h := h.2
      refine xa_iald hx hb hK hP 14 0 rfl rfl g5 (k := x8.toNatClampNeg) rfl d_Le_findInItem_235 ?_
      refine va_mmax hx hb (hml.trans hl.1.symm) hown (hts _ wm_Le_91) (hts _ wms_max) (hts _ wmi) (hts _ wmc_max) (Nat.le_of_ble_eq_true rfl) (Nat.le_of_ble_eq_true rfl) (Nat.le_of_ble_eq_true rfl) (Nat.le_of_ble_eq_true rfl) d_Le_findInItem_236 ?_
      refine lv_topi (fun y6 ey6 => ?_)
      have h := h y6 ey6
      refine va_put (D := G.1) (ci := 4) (v := .int y6) (ty := .int) (C := R_Le) (T := T_Le) (N := 8) hx hb hts i_Le ty_Le ty_Le_ok nm_Le hown hK hP hD hS 0 rfl rfl 1 (by decide) (hts _ wf_Le_15) (fun _ h9 => h9) rfl (ty_Le_ok 1 (by decide)) rfl rfl (Nat.le_of_ble_eq_true rfl) d_Le_findInItem_239 (fun H locs hP hD hS => ?_)
      have hP : va_P G.1 CL [(h0, .inr (4, [.int (gI o0 0), .int y6, .int (gI o0 2), .int (gI o0 3), .int (gI o0 4), .int (gI o0 5), .int ((gI o0 6) + ((gA o2 8) x8.toNatClampNeg)), .int ((gI o0 7) + (1 : Int32))])), (h1, .inr (5, [.ref (r1 0), .int (gI o1 1), .int (gI o1 2), .ref (q1 3), .ref (q1 4), .ref (q1 5), .ref (q1 6), .ref (q1 7), .ref (q1 8), .ref (q1 9), .ref (q1 10), .int (gI o1 11), .int (gI o1 12)])), kI G (q1 3) 20 (gA o1 3), kI G (q1 4) 20 (gA o1 4), kI G (q1 5) 5 (gA o1 5), kJ G (q1 6) 5 (gB o1 6), kJ G (q1 7) 5 (gB o1 7), kJ G (q1 8) 6 (gB o1 8), kI G (q1 10) 5 (gA o1 10), ((r1 0), .inr (3, [.ref (q2 0), .int (gI o2 1), .int (gI o2 2), .int (gI o2 3), .int (gI o2 4), .int (gI o2 5), .ref (q2 6), .ref (q2 7), .ref (q2 8), .ref (q2 9), .ref (q2 10), .ref (q2 11), .ref (q2 12), .ref (q2 13), .ref (q2 14)])), kI G (q2 0) 5 (gA o2 0), kI G (q2 6) 20 (gA o2 6), kI G (q2 7) 20 (gA o2 7), kI G (q2 8) 20 (gA o2 8), kI G (q2 9) 20 (gA o2 9), kI G (q2 10) 20 (gA o2 10), kI G (q2 11) 20 (gA o2 11), kI G (q2 12) 8 (gA o2 12), kI G (q2 13) 64 (gA o2 13), kI G (q2 14) 64 (gA o2 14)] H := hP
      have hD : va_D A [(h0, .inr (4, [.int (gI o0 0), .int y6, .int (gI o0 2), .int (gI o0 3), .int (gI o0 4), .int (gI o0 5), .int ((gI o0 6) + ((gA o2 8) x8.toNatClampNeg)), .int ((gI o0 7) + (1 : Int32))])), (h1, .inr (5, [.ref (r1 0), .int (gI o1 1), .int (gI o1 2), .ref (q1 3), .ref (q1 4), .ref (q1 5), .ref (q1 6), .ref (q1 7), .ref (q1 8), .ref (q1 9), .ref (q1 10), .int (gI o1 11), .int (gI o1 12)])), kI G (q1 3) 20 (gA o1 3), kI G (q1 4) 20 (gA o1 4), kI G (q1 5) 5 (gA o1 5), kJ G (q1 6) 5 (gB o1 6), kJ G (q1 7) 5 (gB o1 7), kJ G (q1 8) 6 (gB o1 8), kI G (q1 10) 5 (gA o1 10), ((r1 0), .inr (3, [.ref (q2 0), .int (gI o2 1), .int (gI o2 2), .int (gI o2 3), .int (gI o2 4), .int (gI o2 5), .ref (q2 6), .ref (q2 7), .ref (q2 8), .ref (q2 9), .ref (q2 10), .ref (q2 11), .ref (q2 12), .ref (q2 13), .ref (q2 14)])), kI G (q2 0) 5 (gA o2 0), kI G (q2 6) 20 (gA o2 6), kI G (q2 7) 20 (gA o2 7), kI G (q2 8) 20 (gA o2 8), kI G (q2 9) 20 (gA o2 9), kI G (q2 10) 20 (gA o2 10), kI G (q2 11) 20 (gA o2 11), kI G (q2 12) 8 (gA o2 12), kI G (q2 13) 64 (gA o2 13), kI G (q2 14) 64 (gA o2 14)] := hD
      refine lv_iinc (v := (x8 + (1 : Int32))) (lv' := [(8, .int (x8 + (1 : Int32))), (0, .ref h0), (2, .int x2), (3, .int x3), (4, .int x4), (5, .ref (r1 0)), (6, .int x6), (7, .int x7), (9, .int x9)]) hx hb d_Le_findInItem_242 hl (k := 7) rfl rfl (by decide) rfl (fun ls hl => ?_)
      refine lv_goto (tgt := 51) hx hb d_Le_findInItem_245 (by decide) ?_
      have hl := lv_sub (l' := [(0, .ref h0), (2, .int x2), (3, .int x3), (4, .int x4), (5, .ref (r1 0)), (6, .int x6), (7, .int x7), (8, .int (x8 + (1 : Int32)))]) hl [1, 2, 3, 4, 5, 6, 7, 0] rfl
      have hP : va_P G.1 CL (cw_Le G h0 q0 (sI (sI (sI o0 1 y6) 6 ((gI o0 6) + ((gA o2 8) x8.toNatClampNeg))) 7 ((gI o0 7) + (1 : Int32))) ++ (cw_Mo G h1 q1 r1 o1 ++ (cw_La G (r1 0) q2 o2))) H := hP
      have hD : va_D A (cw_Le G h0 q0 (sI (sI (sI o0 1 y6) 6 ((gI o0 6) + ((gA o2 8) x8.toNatClampNeg))) 7 ((gI o0 7) + (1 : Int32))) ++ (cw_Mo G h1 q1 r1 o1 ++ (cw_La G (r1 0) q2 o2))) := hD
      exact hk51 x2 x3 x4 x6 x7 (x8 + (1 : Int32)) (sI (sI (sI o0 1 y6) 6 ((gI o0 6) + ((gA o2 8) x8.toNatClampNeg))) 7 ((gI o0 7) + (1 : Int32))) ls H locs hl hP hD hS h
set_option maxHeartbeats 4000000 in
set_option maxRecDepth 100000 in
theorem t_Le_findInItem_112 {p : Program} {l : Launch} {e : Env} {s : State} {m : MethodId} {args : Array Value} {below : List Frame} {meth : Method} {c : Code} {A : Nat → Prop} {G : Gl} {h0 : Nat} {h1 : Nat} {q0 : Nat → Nat} {q1 : Nat → Nat} {q2 : Nat → Nat} (r1 : (Nat → Nat)) (o1 : Ob) (o2 : Ob) (k51 : Int32 → Int32 → Int32 → Int32 → Int32 → Int32 → Ob → Prop) (Q : Ob → Prop) (C : Cx p s m args meth c R_Le b_Le_findInItem 10 none G A)
    (hk51 : ∀ (x2 : Int32) (x3 : Int32) (x4 : Int32) (x6 : Int32) (x7 : Int32) (x8 : Int32) (o0 : Ob) (ls : Array Slot) (H : Heap) (locs : List Loc), lv_has ls 10 [(0, .ref h0), (2, .int x2), (3, .int x3), (4, .int x4), (5, .ref (r1 0)), (6, .int x6), (7, .int x7), (8, .int x8)] → va_P G.1 CL (cw_Le G h0 q0 o0 ++ (cw_Mo G h1 q1 r1 o1 ++ (cw_La G (r1 0) q2 o2))) H → va_D A (cw_Le G h0 q0 o0 ++ (cw_Mo G h1 q1 r1 o1 ++ (cw_La G (r1 0) q2 o2))) → va_S A s.heap H locs → k51 x2 x3 x4 x6 x7 x8 o0 → W p l e rm_Le_findInItem s m args below meth c H locs 0 0 (MQ below (va_Qv (fun (u : Ob) => Q u) (fun (u : Ob) t => BW G A (cw_Le G h0 q0 u ++ (cw_Mo G h1 q1 r1 o1 ++ (cw_La G (r1 0) q2 o2))) t) A) args s 0 0 A) (F0 m 51 ls [])) :
    ∀ (x2 : Int32) (x3 : Int32) (x4 : Int32) (x6 : Int32) (x7 : Int32) (x8 : Int32) (x9 : Int32) (o0 : Ob) (ls : Array Slot) (H : Heap) (locs : List Loc), lv_has ls 10 [(0, .ref h0), (2, .int x2), (3, .int x3), (4, .int x4), (5, .ref (r1 0)), (6, .int x6), (7, .int x7), (8, .int x8), (9, .int x9)] → va_P G.1 CL (cw_Le G h0 q0 o0 ++ (cw_Mo G h1 q1 r1 o1 ++ (cw_La G (r1 0) q2 o2))) H → va_D A (cw_Le G h0 q0 o0 ++ (cw_Mo G h1 q1 r1 o1 ++ (cw_La G (r1 0) q2 o2))) → va_S A s.heap H locs → f_Le_findInItem_112 r1 o1 o2 k51 Q x2 x3 x4 x6 x7 x8 x9 o0 → W p l e rm_Le_findInItem s m args below meth c H locs 0 0 (MQ below (va_Qv (fun (u : Ob) => Q u) (fun (u : Ob) t => BW G A (cw_Le G h0 q0 u ++ (cw_Mo G h1 q1 r1 o1 ++ (cw_La G (r1 0) q2 o2))) t) A) args s 0 0 A) (F0 m 112 ls []) := by
  obtain ⟨hx, hb, hml, hown, hr, hts, hK, hA, hlocks, hE⟩ := id C
  intro x2 x3 x4 x6 x7 x8 x9 o0 ls H locs hl hP hD hS h
  have hP : va_P G.1 CL [(h0, .inr (4, [.int (gI o0 0), .int (gI o0 1), .int (gI o0 2), .int (gI o0 3), .int (gI o0 4), .int (gI o0 5), .int (gI o0 6), .int (gI o0 7)])), (h1, .inr (5, [.ref (r1 0), .int (gI o1 1), .int (gI o1 2), .ref (q1 3), .ref (q1 4), .ref (q1 5), .ref (q1 6), .ref (q1 7), .ref (q1 8), .ref (q1 9), .ref (q1 10), .int (gI o1 11), .int (gI o1 12)])), kI G (q1 3) 20 (gA o1 3), kI G (q1 4) 20 (gA o1 4), kI G (q1 5) 5 (gA o1 5), kJ G (q1 6) 5 (gB o1 6), kJ G (q1 7) 5 (gB o1 7), kJ G (q1 8) 6 (gB o1 8), kI G (q1 10) 5 (gA o1 10), ((r1 0), .inr (3, [.ref (q2 0), .int (gI o2 1), .int (gI o2 2), .int (gI o2 3), .int (gI o2 4), .int (gI o2 5), .ref (q2 6), .ref (q2 7), .ref (q2 8), .ref (q2 9), .ref (q2 10), .ref (q2 11), .ref (q2 12), .ref (q2 13), .ref (q2 14)])), kI G (q2 0) 5 (gA o2 0), kI G (q2 6) 20 (gA o2 6), kI G (q2 7) 20 (gA o2 7), kI G (q2 8) 20 (gA o2 8), kI G (q2 9) 20 (gA o2 9), kI G (q2 10) 20 (gA o2 10), kI G (q2 11) 20 (gA o2 11), kI G (q2 12) 8 (gA o2 12), kI G (q2 13) 64 (gA o2 13), kI G (q2 14) 64 (gA o2 14)] H := hP
  have hD : va_D A [(h0, .inr (4, [.int (gI o0 0), .int (gI o0 1), .int (gI o0 2), .int (gI o0 3), .int (gI o0 4), .int (gI o0 5), .int (gI o0 6), .int (gI o0 7)])), (h1, .inr (5, [.ref (r1 0), .int (gI o1 1), .int (gI o1 2), .ref (q1 3), .ref (q1 4), .ref (q1 5), .ref (q1 6), .ref (q1 7), .ref (q1 8), .ref (q1 9), .ref (q1 10), .int (gI o1 11), .int (gI o1 12)])), kI G (q1 3) 20 (gA o1 3), kI G (q1 4) 20 (gA o1 4), kI G (q1 5) 5 (gA o1 5), kJ G (q1 6) 5 (gB o1 6), kJ G (q1 7) 5 (gB o1 7), kJ G (q1 8) 6 (gB o1 8), kI G (q1 10) 5 (gA o1 10), ((r1 0), .inr (3, [.ref (q2 0), .int (gI o2 1), .int (gI o2 2), .int (gI o2 3), .int (gI o2 4), .int (gI o2 5), .ref (q2 6), .ref (q2 7), .ref (q2 8), .ref (q2 9), .ref (q2 10), .ref (q2 11), .ref (q2 12), .ref (q2 13), .ref (q2 14)])), kI G (q2 0) 5 (gA o2 0), kI G (q2 6) 20 (gA o2 6), kI G (q2 7) 20 (gA o2 7), kI G (q2 8) 20 (gA o2 8), kI G (q2 9) 20 (gA o2 9), kI G (q2 10) 20 (gA o2 10), kI G (q2 11) 20 (gA o2 11), kI G (q2 12) 8 (gA o2 12), kI G (q2 13) 64 (gA o2 13), kI G (q2 14) 64 (gA o2 14)] := hD
  unfold f_Le_findInItem_112 at h
  refine lv_iload hx hb d_Le_findInItem_112 (lv_at hl 8 rfl) ?_
  refine lv_if_eq (tgt := 176) hx hb d_Le_findInItem_114 (by decide) (fun c7 => ?_) (fun c7 => ?_)
  · have h := h.1 c7
    have hl := lv_sub (l' := [(0, .ref h0), (2, .int x2), (3, .int x3), (4, .int x4), (5, .ref (r1 0)), (6, .int x6), (7, .int x7), (8, .int x8), (9, .int x9)]) hl [0, 1, 2, 3, 4, 5, 6, 7, 8] rfl
    have hP : va_P G.1 CL (cw_Le G h0 q0 o0 ++ (cw_Mo G h1 q1 r1 o1 ++ (cw_La G (r1 0) q2 o2))) H := hP
    have hD : va_D A (cw_Le G h0 q0 o0 ++ (cw_Mo G h1 q1 r1 o1 ++ (cw_La G (r1 0) q2 o2))) := hD
    exact t_Le_findInItem_176 r1 o1 o2 k51 Q C hk51 x2 x3 x4 x6 x7 x8 x9 o0 ls _ locs hl hP hD hS h
  · have h := h.2 c7
    refine lv_aload hx hb d_Le_findInItem_117 (lv_at hl 4 rfl) ?_
    refine va_get (D := G.1) (ci := 3) (v := .ref (q2 11)) (C := R_La) (T := T_La) (N := 15) hx hb hts i_La hown hK hP 9 rfl rfl 11 (by decide) (hts _ wf_Le_83) (fun _ h9 => h9) rfl d_Le_findInItem_119 ?_
    refine lv_iload hx hb d_Le_findInItem_122 (lv_at hl 7 rfl) ?_
    have g8 := h.1
    have h := h.2
    refine xa_iald hx hb hK hP 16 0 rfl rfl g8 (k := x8.toNatClampNeg) rfl d_Le_findInItem_124 ?_
    refine lv_aload_n hx hb d_Le_findInItem_125 rfl (lv_at hl 0 rfl) ?_
    refine va_get (D := G.1) (ci := 4) (v := .int (gI o0 5)) (C := R_Le) (T := T_Le) (N := 8) hx hb hts i_Le hown hK hP 0 rfl rfl 5 (by decide) (hts _ wf_Le_9) (fun _ h9 => h9) rfl d_Le_findInItem_126 ?_
    refine lv_icmp_le (tgt := 176) hx hb d_Le_findInItem_129 (by decide) (fun c9 => ?_) (fun c9 => ?_)
    · have h := h.1 c9
      have hl := lv_sub (l' := [(0, .ref h0), (2, .int x2), (3, .int x3), (4, .int x4), (5, .ref (r1 0)), (6, .int x6), (7, .int x7), (8, .int x8), (9, .int x9)]) hl [0, 1, 2, 3, 4, 5, 6, 7, 8] rfl
      have hP : va_P G.1 CL (cw_Le G h0 q0 o0 ++ (cw_Mo G h1 q1 r1 o1 ++ (cw_La G (r1 0) q2 o2))) H := hP
      have hD : va_D A (cw_Le G h0 q0 o0 ++ (cw_Mo G h1 q1 r1 o1 ++ (cw_La G (r1 0) q2 o2))) := hD
      exact t_Le_findInItem_176 r1 o1 o2 k51 Q C hk51 x2 x3 x4 x6 x7 x8 x9 o0 ls _ locs hl hP hD hS h
    · have h := h.2 c9
      refine lv_aload_n hx hb d_Le_findInItem_132 rfl (lv_at hl 0 rfl) ?_
      refine lv_aload hx hb d_Le_findInItem_133 (lv_at hl 4 rfl) ?_
      refine va_get (D := G.1) (ci := 3) (v := .ref (q2 11)) (C := R_La) (T := T_La) (N := 15) hx hb hts i_La hown hK hP 9 rfl rfl 11 (by decide) (hts _ wf_Le_83) (fun _ h9 => h9) rfl d_Le_findInItem_135 ?_
      refine lv_iload hx hb d_Le_findInItem_138 (lv_at hl 7 rfl) ?_
      have g10 := h.1
      have h := h.2
      refine xa_iald hx hb hK hP 16 0 rfl rfl g10 (k := x8.toNatClampNeg) rfl d_Le_findInItem_140 ?_
      refine va_put (D := G.1) (ci := 4) (v := .int ((gA o2 11) x8.toNatClampNeg)) (ty := .int) (C := R_Le) (T := T_Le) (N := 8) hx hb hts i_Le ty_Le ty_Le_ok nm_Le hown hK hP hD hS 0 rfl rfl 5 (by decide) (hts _ wf_Le_9) (fun _ h9 => h9) rfl (ty_Le_ok 5 (by decide)) rfl rfl (Nat.le_of_ble_eq_true rfl) d_Le_findInItem_141 (fun H locs hP hD hS => ?_)
      have hP : va_P G.1 CL [(h0, .inr (4, [.int (gI o0 0), .int (gI o0 1), .int (gI o0 2), .int (gI o0 3), .int (gI o0 4), .int ((gA o2 11) x8.toNatClampNeg), .int (gI o0 6), .int (gI o0 7)])), (h1, .inr (5, [.ref (r1 0), .int (gI o1 1), .int (gI o1 2), .ref (q1 3), .ref (q1 4), .ref (q1 5), .ref (q1 6), .ref (q1 7), .ref (q1 8), .ref (q1 9), .ref (q1 10), .int (gI o1 11), .int (gI o1 12)])), kI G (q1 3) 20 (gA o1 3), kI G (q1 4) 20 (gA o1 4), kI G (q1 5) 5 (gA o1 5), kJ G (q1 6) 5 (gB o1 6), kJ G (q1 7) 5 (gB o1 7), kJ G (q1 8) 6 (gB o1 8), kI G (q1 10) 5 (gA o1 10), ((r1 0), .inr (3, [.ref (q2 0), .int (gI o2 1), .int (gI o2 2), .int (gI o2 3), .int (gI o2 4), .int (gI o2 5), .ref (q2 6), .ref (q2 7), .ref (q2 8), .ref (q2 9), .ref (q2 10), .ref (q2 11), .ref (q2 12), .ref (q2 13), .ref (q2 14)])), kI G (q2 0) 5 (gA o2 0), kI G (q2 6) 20 (gA o2 6), kI G (q2 7) 20 (gA o2 7), kI G (q2 8) 20 (gA o2 8), kI G (q2 9) 20 (gA o2 9), kI G (q2 10) 20 (gA o2 10), kI G (q2 11) 20 (gA o2 11), kI G (q2 12) 8 (gA o2 12), kI G (q2 13) 64 (gA o2 13), kI G (q2 14) 64 (gA o2 14)] H := hP
      have hD : va_D A [(h0, .inr (4, [.int (gI o0 0), .int (gI o0 1), .int (gI o0 2), .int (gI o0 3), .int (gI o0 4), .int ((gA o2 11) x8.toNatClampNeg), .int (gI o0 6), .int (gI o0 7)])), (h1, .inr (5, [.ref (r1 0), .int (gI o1 1), .int (gI o1 2), .ref (q1 3), .ref (q1 4), .ref (q1 5), .ref (q1 6), .ref (q1 7), .ref (q1 8), .ref (q1 9), .ref (q1 10), .int (gI o1 11), .int (gI o1 12)])), kI G (q1 3) 20 (gA o1 3), kI G (q1 4) 20 (gA o1 4), kI G (q1 5) 5 (gA o1 5), kJ G (q1 6) 5 (gB o1 6), kJ G (q1 7) 5 (gB o1 7), kJ G (q1 8) 6 (gB o1 8), kI G (q1 10) 5 (gA o1 10), ((r1 0), .inr (3, [.ref (q2 0), .int (gI o2 1), .int (gI o2 2), .int (gI o2 3), .int (gI o2 4), .int (gI o2 5), .ref (q2 6), .ref (q2 7), .ref (q2 8), .ref (q2 9), .ref (q2 10), .ref (q2 11), .ref (q2 12), .ref (q2 13), .ref (q2 14)])), kI G (q2 0) 5 (gA o2 0), kI G (q2 6) 20 (gA o2 6), kI G (q2 7) 20 (gA o2 7), kI G (q2 8) 20 (gA o2 8), kI G (q2 9) 20 (gA o2 9), kI G (q2 10) 20 (gA o2 10), kI G (q2 11) 20 (gA o2 11), kI G (q2 12) 8 (gA o2 12), kI G (q2 13) 64 (gA o2 13), kI G (q2 14) 64 (gA o2 14)] := hD
      refine lv_aload_n hx hb d_Le_findInItem_144 rfl (lv_at hl 0 rfl) ?_
      refine lv_iload_n hx hb d_Le_findInItem_145 rfl (lv_at hl 2 rfl) ?_
      refine va_put (D := G.1) (ci := 4) (v := .int x3) (ty := .int) (C := R_Le) (T := T_Le) (N := 8) hx hb hts i_Le ty_Le ty_Le_ok nm_Le hown hK hP hD hS 0 rfl rfl 2 (by decide) (hts _ wf_Le_18) (fun _ h9 => h9) rfl (ty_Le_ok 2 (by decide)) rfl rfl (Nat.le_of_ble_eq_true rfl) d_Le_findInItem_146 (fun H locs hP hD hS => ?_)
      have hP : va_P G.1 CL [(h0, .inr (4, [.int (gI o0 0), .int (gI o0 1), .int x3, .int (gI o0 3), .int (gI o0 4), .int ((gA o2 11) x8.toNatClampNeg), .int (gI o0 6), .int (gI o0 7)])), (h1, .inr (5, [.ref (r1 0), .int (gI o1 1), .int (gI o1 2), .ref (q1 3), .ref (q1 4), .ref (q1 5), .ref (q1 6), .ref (q1 7), .ref (q1 8), .ref (q1 9), .ref (q1 10), .int (gI o1 11), .int (gI o1 12)])), kI G (q1 3) 20 (gA o1 3), kI G (q1 4) 20 (gA o1 4), kI G (q1 5) 5 (gA o1 5), kJ G (q1 6) 5 (gB o1 6), kJ G (q1 7) 5 (gB o1 7), kJ G (q1 8) 6 (gB o1 8), kI G (q1 10) 5 (gA o1 10), ((r1 0), .inr (3, [.ref (q2 0), .int (gI o2 1), .int (gI o2 2), .int (gI o2 3), .int (gI o2 4), .int (gI o2 5), .ref (q2 6), .ref (q2 7), .ref (q2 8), .ref (q2 9), .ref (q2 10), .ref (q2 11), .ref (q2 12), .ref (q2 13), .ref (q2 14)])), kI G (q2 0) 5 (gA o2 0), kI G (q2 6) 20 (gA o2 6), kI G (q2 7) 20 (gA o2 7), kI G (q2 8) 20 (gA o2 8), kI G (q2 9) 20 (gA o2 9), kI G (q2 10) 20 (gA o2 10), kI G (q2 11) 20 (gA o2 11), kI G (q2 12) 8 (gA o2 12), kI G (q2 13) 64 (gA o2 13), kI G (q2 14) 64 (gA o2 14)] H := hP
      have hD : va_D A [(h0, .inr (4, [.int (gI o0 0), .int (gI o0 1), .int x3, .int (gI o0 3), .int (gI o0 4), .int ((gA o2 11) x8.toNatClampNeg), .int (gI o0 6), .int (gI o0 7)])), (h1, .inr (5, [.ref (r1 0), .int (gI o1 1), .int (gI o1 2), .ref (q1 3), .ref (q1 4), .ref (q1 5), .ref (q1 6), .ref (q1 7), .ref (q1 8), .ref (q1 9), .ref (q1 10), .int (gI o1 11), .int (gI o1 12)])), kI G (q1 3) 20 (gA o1 3), kI G (q1 4) 20 (gA o1 4), kI G (q1 5) 5 (gA o1 5), kJ G (q1 6) 5 (gB o1 6), kJ G (q1 7) 5 (gB o1 7), kJ G (q1 8) 6 (gB o1 8), kI G (q1 10) 5 (gA o1 10), ((r1 0), .inr (3, [.ref (q2 0), .int (gI o2 1), .int (gI o2 2), .int (gI o2 3), .int (gI o2 4), .int (gI o2 5), .ref (q2 6), .ref (q2 7), .ref (q2 8), .ref (q2 9), .ref (q2 10), .ref (q2 11), .ref (q2 12), .ref (q2 13), .ref (q2 14)])), kI G (q2 0) 5 (gA o2 0), kI G (q2 6) 20 (gA o2 6), kI G (q2 7) 20 (gA o2 7), kI G (q2 8) 20 (gA o2 8), kI G (q2 9) 20 (gA o2 9), kI G (q2 10) 20 (gA o2 10), kI G (q2 11) 20 (gA o2 11), kI G (q2 12) 8 (gA o2 12), kI G (q2 13) 64 (gA o2 13), kI G (q2 14) 64 (gA o2 14)] := hD
      refine lv_aload_n hx hb d_Le_findInItem_149 rfl (lv_at hl 0 rfl) ?_
      refine lv_iload hx hb d_Le_findInItem_150 (lv_at hl 3 rfl) ?_
      refine va_put (D := G.1) (ci := 4) (v := .int x4) (ty := .int) (C := R_Le) (T := T_Le) (N := 8) hx hb hts i_Le ty_Le ty_Le_ok nm_Le hown hK hP hD hS 0 rfl rfl 3 (by decide) (hts _ wf_Le_21) (fun _ h9 => h9) rfl (ty_Le_ok 3 (by decide)) rfl rfl (Nat.le_of_ble_eq_true rfl) d_Le_findInItem_152 (fun H locs hP hD hS => ?_)
      have hP : va_P G.1 CL [(h0, .inr (4, [.int (gI o0 0), .int (gI o0 1), .int x3, .int x4, .int (gI o0 4), .int ((gA o2 11) x8.toNatClampNeg), .int (gI o0 6), .int (gI o0 7)])), (h1, .inr (5, [.ref (r1 0), .int (gI o1 1), .int (gI o1 2), .ref (q1 3), .ref (q1 4), .ref (q1 5), .ref (q1 6), .ref (q1 7), .ref (q1 8), .ref (q1 9), .ref (q1 10), .int (gI o1 11), .int (gI o1 12)])), kI G (q1 3) 20 (gA o1 3), kI G (q1 4) 20 (gA o1 4), kI G (q1 5) 5 (gA o1 5), kJ G (q1 6) 5 (gB o1 6), kJ G (q1 7) 5 (gB o1 7), kJ G (q1 8) 6 (gB o1 8), kI G (q1 10) 5 (gA o1 10), ((r1 0), .inr (3, [.ref (q2 0), .int (gI o2 1), .int (gI o2 2), .int (gI o2 3), .int (gI o2 4), .int (gI o2 5), .ref (q2 6), .ref (q2 7), .ref (q2 8), .ref (q2 9), .ref (q2 10), .ref (q2 11), .ref (q2 12), .ref (q2 13), .ref (q2 14)])), kI G (q2 0) 5 (gA o2 0), kI G (q2 6) 20 (gA o2 6), kI G (q2 7) 20 (gA o2 7), kI G (q2 8) 20 (gA o2 8), kI G (q2 9) 20 (gA o2 9), kI G (q2 10) 20 (gA o2 10), kI G (q2 11) 20 (gA o2 11), kI G (q2 12) 8 (gA o2 12), kI G (q2 13) 64 (gA o2 13), kI G (q2 14) 64 (gA o2 14)] H := hP
      have hD : va_D A [(h0, .inr (4, [.int (gI o0 0), .int (gI o0 1), .int x3, .int x4, .int (gI o0 4), .int ((gA o2 11) x8.toNatClampNeg), .int (gI o0 6), .int (gI o0 7)])), (h1, .inr (5, [.ref (r1 0), .int (gI o1 1), .int (gI o1 2), .ref (q1 3), .ref (q1 4), .ref (q1 5), .ref (q1 6), .ref (q1 7), .ref (q1 8), .ref (q1 9), .ref (q1 10), .int (gI o1 11), .int (gI o1 12)])), kI G (q1 3) 20 (gA o1 3), kI G (q1 4) 20 (gA o1 4), kI G (q1 5) 5 (gA o1 5), kJ G (q1 6) 5 (gB o1 6), kJ G (q1 7) 5 (gB o1 7), kJ G (q1 8) 6 (gB o1 8), kI G (q1 10) 5 (gA o1 10), ((r1 0), .inr (3, [.ref (q2 0), .int (gI o2 1), .int (gI o2 2), .int (gI o2 3), .int (gI o2 4), .int (gI o2 5), .ref (q2 6), .ref (q2 7), .ref (q2 8), .ref (q2 9), .ref (q2 10), .ref (q2 11), .ref (q2 12), .ref (q2 13), .ref (q2 14)])), kI G (q2 0) 5 (gA o2 0), kI G (q2 6) 20 (gA o2 6), kI G (q2 7) 20 (gA o2 7), kI G (q2 8) 20 (gA o2 8), kI G (q2 9) 20 (gA o2 9), kI G (q2 10) 20 (gA o2 10), kI G (q2 11) 20 (gA o2 11), kI G (q2 12) 8 (gA o2 12), kI G (q2 13) 64 (gA o2 13), kI G (q2 14) 64 (gA o2 14)] := hD
      refine lv_aload_n hx hb d_Le_findInItem_155 rfl (lv_at hl 0 rfl) ?_
      refine lv_iload hx hb d_Le_findInItem_156 (lv_at hl 7 rfl) ?_
      refine va_put (D := G.1) (ci := 4) (v := .int x8) (ty := .int) (C := R_Le) (T := T_Le) (N := 8) hx hb hts i_Le ty_Le ty_Le_ok nm_Le hown hK hP hD hS 0 rfl rfl 4 (by decide) (hts _ wf_Le_24) (fun _ h9 => h9) rfl (ty_Le_ok 4 (by decide)) rfl rfl (Nat.le_of_ble_eq_true rfl) d_Le_findInItem_158 (fun H locs hP hD hS => ?_)
      have hP : va_P G.1 CL [(h0, .inr (4, [.int (gI o0 0), .int (gI o0 1), .int x3, .int x4, .int x8, .int ((gA o2 11) x8.toNatClampNeg), .int (gI o0 6), .int (gI o0 7)])), (h1, .inr (5, [.ref (r1 0), .int (gI o1 1), .int (gI o1 2), .ref (q1 3), .ref (q1 4), .ref (q1 5), .ref (q1 6), .ref (q1 7), .ref (q1 8), .ref (q1 9), .ref (q1 10), .int (gI o1 11), .int (gI o1 12)])), kI G (q1 3) 20 (gA o1 3), kI G (q1 4) 20 (gA o1 4), kI G (q1 5) 5 (gA o1 5), kJ G (q1 6) 5 (gB o1 6), kJ G (q1 7) 5 (gB o1 7), kJ G (q1 8) 6 (gB o1 8), kI G (q1 10) 5 (gA o1 10), ((r1 0), .inr (3, [.ref (q2 0), .int (gI o2 1), .int (gI o2 2), .int (gI o2 3), .int (gI o2 4), .int (gI o2 5), .ref (q2 6), .ref (q2 7), .ref (q2 8), .ref (q2 9), .ref (q2 10), .ref (q2 11), .ref (q2 12), .ref (q2 13), .ref (q2 14)])), kI G (q2 0) 5 (gA o2 0), kI G (q2 6) 20 (gA o2 6), kI G (q2 7) 20 (gA o2 7), kI G (q2 8) 20 (gA o2 8), kI G (q2 9) 20 (gA o2 9), kI G (q2 10) 20 (gA o2 10), kI G (q2 11) 20 (gA o2 11), kI G (q2 12) 8 (gA o2 12), kI G (q2 13) 64 (gA o2 13), kI G (q2 14) 64 (gA o2 14)] H := hP
      have hD : va_D A [(h0, .inr (4, [.int (gI o0 0), .int (gI o0 1), .int x3, .int x4, .int x8, .int ((gA o2 11) x8.toNatClampNeg), .int (gI o0 6), .int (gI o0 7)])), (h1, .inr (5, [.ref (r1 0), .int (gI o1 1), .int (gI o1 2), .ref (q1 3), .ref (q1 4), .ref (q1 5), .ref (q1 6), .ref (q1 7), .ref (q1 8), .ref (q1 9), .ref (q1 10), .int (gI o1 11), .int (gI o1 12)])), kI G (q1 3) 20 (gA o1 3), kI G (q1 4) 20 (gA o1 4), kI G (q1 5) 5 (gA o1 5), kJ G (q1 6) 5 (gB o1 6), kJ G (q1 7) 5 (gB o1 7), kJ G (q1 8) 6 (gB o1 8), kI G (q1 10) 5 (gA o1 10), ((r1 0), .inr (3, [.ref (q2 0), .int (gI o2 1), .int (gI o2 2), .int (gI o2 3), .int (gI o2 4), .int (gI o2 5), .ref (q2 6), .ref (q2 7), .ref (q2 8), .ref (q2 9), .ref (q2 10), .ref (q2 11), .ref (q2 12), .ref (q2 13), .ref (q2 14)])), kI G (q2 0) 5 (gA o2 0), kI G (q2 6) 20 (gA o2 6), kI G (q2 7) 20 (gA o2 7), kI G (q2 8) 20 (gA o2 8), kI G (q2 9) 20 (gA o2 9), kI G (q2 10) 20 (gA o2 10), kI G (q2 11) 20 (gA o2 11), kI G (q2 12) 8 (gA o2 12), kI G (q2 13) 64 (gA o2 13), kI G (q2 14) 64 (gA o2 14)] := hD
      refine lv_aload_n hx hb d_Le_findInItem_161 rfl (lv_at hl 0 rfl) ?_
      refine lv_iconst (v := (0 : Int32)) hx hb d_Le_findInItem_162 (by decide) ?_
      refine va_put (D := G.1) (ci := 4) (v := .int (0 : Int32)) (ty := .int) (C := R_Le) (T := T_Le) (N := 8) hx hb hts i_Le ty_Le ty_Le_ok nm_Le hown hK hP hD hS 0 rfl rfl 6 (by decide) (hts _ wf_Le_27) (fun _ h9 => h9) rfl (ty_Le_ok 6 (by decide)) rfl rfl (Nat.le_of_ble_eq_true rfl) d_Le_findInItem_163 (fun H locs hP hD hS => ?_)
      have hP : va_P G.1 CL [(h0, .inr (4, [.int (gI o0 0), .int (gI o0 1), .int x3, .int x4, .int x8, .int ((gA o2 11) x8.toNatClampNeg), .int (0 : Int32), .int (gI o0 7)])), (h1, .inr (5, [.ref (r1 0), .int (gI o1 1), .int (gI o1 2), .ref (q1 3), .ref (q1 4), .ref (q1 5), .ref (q1 6), .ref (q1 7), .ref (q1 8), .ref (q1 9), .ref (q1 10), .int (gI o1 11), .int (gI o1 12)])), kI G (q1 3) 20 (gA o1 3), kI G (q1 4) 20 (gA o1 4), kI G (q1 5) 5 (gA o1 5), kJ G (q1 6) 5 (gB o1 6), kJ G (q1 7) 5 (gB o1 7), kJ G (q1 8) 6 (gB o1 8), kI G (q1 10) 5 (gA o1 10), ((r1 0), .inr (3, [.ref (q2 0), .int (gI o2 1), .int (gI o2 2), .int (gI o2 3), .int (gI o2 4), .int (gI o2 5), .ref (q2 6), .ref (q2 7), .ref (q2 8), .ref (q2 9), .ref (q2 10), .ref (q2 11), .ref (q2 12), .ref (q2 13), .ref (q2 14)])), kI G (q2 0) 5 (gA o2 0), kI G (q2 6) 20 (gA o2 6), kI G (q2 7) 20 (gA o2 7), kI G (q2 8) 20 (gA o2 8), kI G (q2 9) 20 (gA o2 9), kI G (q2 10) 20 (gA o2 10), kI G (q2 11) 20 (gA o2 11), kI G (q2 12) 8 (gA o2 12), kI G (q2 13) 64 (gA o2 13), kI G (q2 14) 64 (gA o2 14)] H := hP
      have hD : va_D A [(h0, .inr (4, [.int (gI o0 0), .int (gI o0 1), .int x3, .int x4, .int x8, .int ((gA o2 11) x8.toNatClampNeg), .int (0 : Int32), .int (gI o0 7)])), (h1, .inr (5, [.ref (r1 0), .int (gI o1 1), .int (gI o1 2), .ref (q1 3), .ref (q1 4), .ref (q1 5), .ref (q1 6), .ref (q1 7), .ref (q1 8), .ref (q1 9), .ref (q1 10), .int (gI o1 11), .int (gI o1 12)])), kI G (q1 3) 20 (gA o1 3), kI G (q1 4) 20 (gA o1 4), kI G (q1 5) 5 (gA o1 5), kJ G (q1 6) 5 (gB o1 6), kJ G (q1 7) 5 (gB o1 7), kJ G (q1 8) 6 (gB o1 8), kI G (q1 10) 5 (gA o1 10), ((r1 0), .inr (3, [.ref (q2 0), .int (gI o2 1), .int (gI o2 2), .int (gI o2 3), .int (gI o2 4), .int (gI o2 5), .ref (q2 6), .ref (q2 7), .ref (q2 8), .ref (q2 9), .ref (q2 10), .ref (q2 11), .ref (q2 12), .ref (q2 13), .ref (q2 14)])), kI G (q2 0) 5 (gA o2 0), kI G (q2 6) 20 (gA o2 6), kI G (q2 7) 20 (gA o2 7), kI G (q2 8) 20 (gA o2 8), kI G (q2 9) 20 (gA o2 9), kI G (q2 10) 20 (gA o2 10), kI G (q2 11) 20 (gA o2 11), kI G (q2 12) 8 (gA o2 12), kI G (q2 13) 64 (gA o2 13), kI G (q2 14) 64 (gA o2 14)] := hD
      refine lv_aload_n hx hb d_Le_findInItem_166 rfl (lv_at hl 0 rfl) ?_
      refine lv_iconst (v := (0 : Int32)) hx hb d_Le_findInItem_167 (by decide) ?_
      refine va_put (D := G.1) (ci := 4) (v := .int (0 : Int32)) (ty := .int) (C := R_Le) (T := T_Le) (N := 8) hx hb hts i_Le ty_Le ty_Le_ok nm_Le hown hK hP hD hS 0 rfl rfl 7 (by decide) (hts _ wf_Le_30) (fun _ h9 => h9) rfl (ty_Le_ok 7 (by decide)) rfl rfl (Nat.le_of_ble_eq_true rfl) d_Le_findInItem_168 (fun H locs hP hD hS => ?_)
      have hP : va_P G.1 CL [(h0, .inr (4, [.int (gI o0 0), .int (gI o0 1), .int x3, .int x4, .int x8, .int ((gA o2 11) x8.toNatClampNeg), .int (0 : Int32), .int (0 : Int32)])), (h1, .inr (5, [.ref (r1 0), .int (gI o1 1), .int (gI o1 2), .ref (q1 3), .ref (q1 4), .ref (q1 5), .ref (q1 6), .ref (q1 7), .ref (q1 8), .ref (q1 9), .ref (q1 10), .int (gI o1 11), .int (gI o1 12)])), kI G (q1 3) 20 (gA o1 3), kI G (q1 4) 20 (gA o1 4), kI G (q1 5) 5 (gA o1 5), kJ G (q1 6) 5 (gB o1 6), kJ G (q1 7) 5 (gB o1 7), kJ G (q1 8) 6 (gB o1 8), kI G (q1 10) 5 (gA o1 10), ((r1 0), .inr (3, [.ref (q2 0), .int (gI o2 1), .int (gI o2 2), .int (gI o2 3), .int (gI o2 4), .int (gI o2 5), .ref (q2 6), .ref (q2 7), .ref (q2 8), .ref (q2 9), .ref (q2 10), .ref (q2 11), .ref (q2 12), .ref (q2 13), .ref (q2 14)])), kI G (q2 0) 5 (gA o2 0), kI G (q2 6) 20 (gA o2 6), kI G (q2 7) 20 (gA o2 7), kI G (q2 8) 20 (gA o2 8), kI G (q2 9) 20 (gA o2 9), kI G (q2 10) 20 (gA o2 10), kI G (q2 11) 20 (gA o2 11), kI G (q2 12) 8 (gA o2 12), kI G (q2 13) 64 (gA o2 13), kI G (q2 14) 64 (gA o2 14)] H := hP
      have hD : va_D A [(h0, .inr (4, [.int (gI o0 0), .int (gI o0 1), .int x3, .int x4, .int x8, .int ((gA o2 11) x8.toNatClampNeg), .int (0 : Int32), .int (0 : Int32)])), (h1, .inr (5, [.ref (r1 0), .int (gI o1 1), .int (gI o1 2), .ref (q1 3), .ref (q1 4), .ref (q1 5), .ref (q1 6), .ref (q1 7), .ref (q1 8), .ref (q1 9), .ref (q1 10), .int (gI o1 11), .int (gI o1 12)])), kI G (q1 3) 20 (gA o1 3), kI G (q1 4) 20 (gA o1 4), kI G (q1 5) 5 (gA o1 5), kJ G (q1 6) 5 (gB o1 6), kJ G (q1 7) 5 (gB o1 7), kJ G (q1 8) 6 (gB o1 8), kI G (q1 10) 5 (gA o1 10), ((r1 0), .inr (3, [.ref (q2 0), .int (gI o2 1), .int (gI o2 2), .int (gI o2 3), .int (gI o2 4), .int (gI o2 5), .ref (q2 6), .ref (q2 7), .ref (q2 8), .ref (q2 9), .ref (q2 10), .ref (q2 11), .ref (q2 12), .ref (q2 13), .ref (q2 14)])), kI G (q2 0) 5 (gA o2 0), kI G (q2 6) 20 (gA o2 6), kI G (q2 7) 20 (gA o2 7), kI G (q2 8) 20 (gA o2 8), kI G (q2 9) 20 (gA o2 9), kI G (q2 10) 20 (gA o2 10), kI G (q2 11) 20 (gA o2 11), kI G (q2 12) 8 (gA o2 12), kI G (q2 13) 64 (gA o2 13), kI G (q2 14) 64 (gA o2 14)] := hD
      refine lv_aload_n hx hb d_Le_findInItem_171 rfl (lv_at hl 0 rfl) ?_
      refine lv_iconst (v := (1 : Int32)) hx hb d_Le_findInItem_172 (by decide) ?_
      refine va_put (D := G.1) (ci := 4) (v := .int (1 : Int32)) (ty := .int) (C := R_Le) (T := T_Le) (N := 8) hx hb hts i_Le ty_Le ty_Le_ok nm_Le hown hK hP hD hS 0 rfl rfl 1 (by decide) (hts _ wf_Le_15) (fun _ h9 => h9) rfl (ty_Le_ok 1 (by decide)) rfl rfl (Nat.le_of_ble_eq_true rfl) d_Le_findInItem_173 (fun H locs hP hD hS => ?_)
      have hP : va_P G.1 CL [(h0, .inr (4, [.int (gI o0 0), .int (1 : Int32), .int x3, .int x4, .int x8, .int ((gA o2 11) x8.toNatClampNeg), .int (0 : Int32), .int (0 : Int32)])), (h1, .inr (5, [.ref (r1 0), .int (gI o1 1), .int (gI o1 2), .ref (q1 3), .ref (q1 4), .ref (q1 5), .ref (q1 6), .ref (q1 7), .ref (q1 8), .ref (q1 9), .ref (q1 10), .int (gI o1 11), .int (gI o1 12)])), kI G (q1 3) 20 (gA o1 3), kI G (q1 4) 20 (gA o1 4), kI G (q1 5) 5 (gA o1 5), kJ G (q1 6) 5 (gB o1 6), kJ G (q1 7) 5 (gB o1 7), kJ G (q1 8) 6 (gB o1 8), kI G (q1 10) 5 (gA o1 10), ((r1 0), .inr (3, [.ref (q2 0), .int (gI o2 1), .int (gI o2 2), .int (gI o2 3), .int (gI o2 4), .int (gI o2 5), .ref (q2 6), .ref (q2 7), .ref (q2 8), .ref (q2 9), .ref (q2 10), .ref (q2 11), .ref (q2 12), .ref (q2 13), .ref (q2 14)])), kI G (q2 0) 5 (gA o2 0), kI G (q2 6) 20 (gA o2 6), kI G (q2 7) 20 (gA o2 7), kI G (q2 8) 20 (gA o2 8), kI G (q2 9) 20 (gA o2 9), kI G (q2 10) 20 (gA o2 10), kI G (q2 11) 20 (gA o2 11), kI G (q2 12) 8 (gA o2 12), kI G (q2 13) 64 (gA o2 13), kI G (q2 14) 64 (gA o2 14)] H := hP
      have hD : va_D A [(h0, .inr (4, [.int (gI o0 0), .int (1 : Int32), .int x3, .int x4, .int x8, .int ((gA o2 11) x8.toNatClampNeg), .int (0 : Int32), .int (0 : Int32)])), (h1, .inr (5, [.ref (r1 0), .int (gI o1 1), .int (gI o1 2), .ref (q1 3), .ref (q1 4), .ref (q1 5), .ref (q1 6), .ref (q1 7), .ref (q1 8), .ref (q1 9), .ref (q1 10), .int (gI o1 11), .int (gI o1 12)])), kI G (q1 3) 20 (gA o1 3), kI G (q1 4) 20 (gA o1 4), kI G (q1 5) 5 (gA o1 5), kJ G (q1 6) 5 (gB o1 6), kJ G (q1 7) 5 (gB o1 7), kJ G (q1 8) 6 (gB o1 8), kI G (q1 10) 5 (gA o1 10), ((r1 0), .inr (3, [.ref (q2 0), .int (gI o2 1), .int (gI o2 2), .int (gI o2 3), .int (gI o2 4), .int (gI o2 5), .ref (q2 6), .ref (q2 7), .ref (q2 8), .ref (q2 9), .ref (q2 10), .ref (q2 11), .ref (q2 12), .ref (q2 13), .ref (q2 14)])), kI G (q2 0) 5 (gA o2 0), kI G (q2 6) 20 (gA o2 6), kI G (q2 7) 20 (gA o2 7), kI G (q2 8) 20 (gA o2 8), kI G (q2 9) 20 (gA o2 9), kI G (q2 10) 20 (gA o2 10), kI G (q2 11) 20 (gA o2 11), kI G (q2 12) 8 (gA o2 12), kI G (q2 13) 64 (gA o2 13), kI G (q2 14) 64 (gA o2 14)] := hD
      have hl := lv_sub (l' := [(0, .ref h0), (2, .int x2), (3, .int x3), (4, .int x4), (5, .ref (r1 0)), (6, .int x6), (7, .int x7), (8, .int x8), (9, .int x9)]) hl [0, 1, 2, 3, 4, 5, 6, 7, 8] rfl
      have hP : va_P G.1 CL (cw_Le G h0 q0 (sI (sI (sI (sI (sI (sI (sI o0 1 (1 : Int32)) 2 x3) 3 x4) 4 x8) 5 ((gA o2 11) x8.toNatClampNeg)) 6 (0 : Int32)) 7 (0 : Int32)) ++ (cw_Mo G h1 q1 r1 o1 ++ (cw_La G (r1 0) q2 o2))) H := hP
      have hD : va_D A (cw_Le G h0 q0 (sI (sI (sI (sI (sI (sI (sI o0 1 (1 : Int32)) 2 x3) 3 x4) 4 x8) 5 ((gA o2 11) x8.toNatClampNeg)) 6 (0 : Int32)) 7 (0 : Int32)) ++ (cw_Mo G h1 q1 r1 o1 ++ (cw_La G (r1 0) q2 o2))) := hD
      exact t_Le_findInItem_176 r1 o1 o2 k51 Q C hk51 x2 x3 x4 x6 x7 x8 x9 (sI (sI (sI (sI (sI (sI (sI o0 1 (1 : Int32)) 2 x3) 3 x4) 4 x8) 5 ((gA o2 11) x8.toNatClampNeg)) 6 (0 : Int32)) 7 (0 : Int32)) ls _ locs hl hP hD hS h
set_option maxHeartbeats 4000000 in
set_option maxRecDepth 100000 in
theorem t_Le_findInItem_109 {p : Program} {l : Launch} {e : Env} {s : State} {m : MethodId} {args : Array Value} {below : List Frame} {meth : Method} {c : Code} {A : Nat → Prop} {G : Gl} {h0 : Nat} {h1 : Nat} {q0 : Nat → Nat} {q1 : Nat → Nat} {q2 : Nat → Nat} (r1 : (Nat → Nat)) (o1 : Ob) (o2 : Ob) (k51 : Int32 → Int32 → Int32 → Int32 → Int32 → Int32 → Ob → Prop) (Q : Ob → Prop) (C : Cx p s m args meth c R_Le b_Le_findInItem 10 none G A)
    (hk51 : ∀ (x2 : Int32) (x3 : Int32) (x4 : Int32) (x6 : Int32) (x7 : Int32) (x8 : Int32) (o0 : Ob) (ls : Array Slot) (H : Heap) (locs : List Loc), lv_has ls 10 [(0, .ref h0), (2, .int x2), (3, .int x3), (4, .int x4), (5, .ref (r1 0)), (6, .int x6), (7, .int x7), (8, .int x8)] → va_P G.1 CL (cw_Le G h0 q0 o0 ++ (cw_Mo G h1 q1 r1 o1 ++ (cw_La G (r1 0) q2 o2))) H → va_D A (cw_Le G h0 q0 o0 ++ (cw_Mo G h1 q1 r1 o1 ++ (cw_La G (r1 0) q2 o2))) → va_S A s.heap H locs → k51 x2 x3 x4 x6 x7 x8 o0 → W p l e rm_Le_findInItem s m args below meth c H locs 0 0 (MQ below (va_Qv (fun (u : Ob) => Q u) (fun (u : Ob) t => BW G A (cw_Le G h0 q0 u ++ (cw_Mo G h1 q1 r1 o1 ++ (cw_La G (r1 0) q2 o2))) t) A) args s 0 0 A) (F0 m 51 ls [])) :
    ∀ (x2 : Int32) (x3 : Int32) (x4 : Int32) (x6 : Int32) (x7 : Int32) (x8 : Int32) (o0 : Ob) (ls : Array Slot) (H : Heap) (locs : List Loc), lv_has ls 10 [(0, .ref h0), (2, .int x2), (3, .int x3), (4, .int x4), (5, .ref (r1 0)), (6, .int x6), (7, .int x7), (8, .int x8)] → va_P G.1 CL (cw_Le G h0 q0 o0 ++ (cw_Mo G h1 q1 r1 o1 ++ (cw_La G (r1 0) q2 o2))) H → va_D A (cw_Le G h0 q0 o0 ++ (cw_Mo G h1 q1 r1 o1 ++ (cw_La G (r1 0) q2 o2))) → va_S A s.heap H locs → f_Le_findInItem_109 r1 o1 o2 k51 Q x2 x3 x4 x6 x7 x8 o0 → W p l e rm_Le_findInItem s m args below meth c H locs 0 0 (MQ below (va_Qv (fun (u : Ob) => Q u) (fun (u : Ob) t => BW G A (cw_Le G h0 q0 u ++ (cw_Mo G h1 q1 r1 o1 ++ (cw_La G (r1 0) q2 o2))) t) A) args s 0 0 A) (F0 m 109 ls []) := by
  obtain ⟨hx, hb, hml, hown, hr, hts, hK, hA, hlocks, hE⟩ := id C
  intro x2 x3 x4 x6 x7 x8 o0 ls H locs hl hP hD hS h
  have hP : va_P G.1 CL [(h0, .inr (4, [.int (gI o0 0), .int (gI o0 1), .int (gI o0 2), .int (gI o0 3), .int (gI o0 4), .int (gI o0 5), .int (gI o0 6), .int (gI o0 7)])), (h1, .inr (5, [.ref (r1 0), .int (gI o1 1), .int (gI o1 2), .ref (q1 3), .ref (q1 4), .ref (q1 5), .ref (q1 6), .ref (q1 7), .ref (q1 8), .ref (q1 9), .ref (q1 10), .int (gI o1 11), .int (gI o1 12)])), kI G (q1 3) 20 (gA o1 3), kI G (q1 4) 20 (gA o1 4), kI G (q1 5) 5 (gA o1 5), kJ G (q1 6) 5 (gB o1 6), kJ G (q1 7) 5 (gB o1 7), kJ G (q1 8) 6 (gB o1 8), kI G (q1 10) 5 (gA o1 10), ((r1 0), .inr (3, [.ref (q2 0), .int (gI o2 1), .int (gI o2 2), .int (gI o2 3), .int (gI o2 4), .int (gI o2 5), .ref (q2 6), .ref (q2 7), .ref (q2 8), .ref (q2 9), .ref (q2 10), .ref (q2 11), .ref (q2 12), .ref (q2 13), .ref (q2 14)])), kI G (q2 0) 5 (gA o2 0), kI G (q2 6) 20 (gA o2 6), kI G (q2 7) 20 (gA o2 7), kI G (q2 8) 20 (gA o2 8), kI G (q2 9) 20 (gA o2 9), kI G (q2 10) 20 (gA o2 10), kI G (q2 11) 20 (gA o2 11), kI G (q2 12) 8 (gA o2 12), kI G (q2 13) 64 (gA o2 13), kI G (q2 14) 64 (gA o2 14)] H := hP
  have hD : va_D A [(h0, .inr (4, [.int (gI o0 0), .int (gI o0 1), .int (gI o0 2), .int (gI o0 3), .int (gI o0 4), .int (gI o0 5), .int (gI o0 6), .int (gI o0 7)])), (h1, .inr (5, [.ref (r1 0), .int (gI o1 1), .int (gI o1 2), .ref (q1 3), .ref (q1 4), .ref (q1 5), .ref (q1 6), .ref (q1 7), .ref (q1 8), .ref (q1 9), .ref (q1 10), .int (gI o1 11), .int (gI o1 12)])), kI G (q1 3) 20 (gA o1 3), kI G (q1 4) 20 (gA o1 4), kI G (q1 5) 5 (gA o1 5), kJ G (q1 6) 5 (gB o1 6), kJ G (q1 7) 5 (gB o1 7), kJ G (q1 8) 6 (gB o1 8), kI G (q1 10) 5 (gA o1 10), ((r1 0), .inr (3, [.ref (q2 0), .int (gI o2 1), .int (gI o2 2), .int (gI o2 3), .int (gI o2 4), .int (gI o2 5), .ref (q2 6), .ref (q2 7), .ref (q2 8), .ref (q2 9), .ref (q2 10), .ref (q2 11), .ref (q2 12), .ref (q2 13), .ref (q2 14)])), kI G (q2 0) 5 (gA o2 0), kI G (q2 6) 20 (gA o2 6), kI G (q2 7) 20 (gA o2 7), kI G (q2 8) 20 (gA o2 8), kI G (q2 9) 20 (gA o2 9), kI G (q2 10) 20 (gA o2 10), kI G (q2 11) 20 (gA o2 11), kI G (q2 12) 8 (gA o2 12), kI G (q2 13) 64 (gA o2 13), kI G (q2 14) 64 (gA o2 14)] := hD
  unfold f_Le_findInItem_109 at h
  refine lv_iconst (v := (0 : Int32)) hx hb d_Le_findInItem_109 (by decide) ?_
  refine lv_istore (lv' := [(9, .int (0 : Int32)), (0, .ref h0), (2, .int x2), (3, .int x3), (4, .int x4), (5, .ref (r1 0)), (6, .int x6), (7, .int x7), (8, .int x8)]) hx hb d_Le_findInItem_110 hl (by decide) rfl (fun ls hl => ?_)
  have hl := lv_sub (l' := [(0, .ref h0), (2, .int x2), (3, .int x3), (4, .int x4), (5, .ref (r1 0)), (6, .int x6), (7, .int x7), (8, .int x8), (9, .int (0 : Int32))]) hl [1, 2, 3, 4, 5, 6, 7, 8, 0] rfl
  have hP : va_P G.1 CL (cw_Le G h0 q0 o0 ++ (cw_Mo G h1 q1 r1 o1 ++ (cw_La G (r1 0) q2 o2))) H := hP
  have hD : va_D A (cw_Le G h0 q0 o0 ++ (cw_Mo G h1 q1 r1 o1 ++ (cw_La G (r1 0) q2 o2))) := hD
  exact t_Le_findInItem_112 r1 o1 o2 k51 Q C hk51 x2 x3 x4 x6 x7 x8 (0 : Int32) o0 ls _ locs hl hP hD hS h
set_option maxHeartbeats 4000000 in
set_option maxRecDepth 100000 in
theorem t_Le_findInItem_51 {p : Program} {l : Launch} {e : Env} {s : State} {m : MethodId} {args : Array Value} {below : List Frame} {meth : Method} {c : Code} {A : Nat → Prop} {G : Gl} {h0 : Nat} {h1 : Nat} {q0 : Nat → Nat} {q1 : Nat → Nat} {q2 : Nat → Nat} (r1 : (Nat → Nat)) (o1 : Ob) (o2 : Ob) (Q : Ob → Prop) (C : Cx p s m args meth c R_Le b_Le_findInItem 10 none G A) :
    ∀ (n : Nat) (x2 : Int32) (x3 : Int32) (x4 : Int32) (x6 : Int32) (x7 : Int32) (x8 : Int32) (o0 : Ob) (ls : Array Slot) (H : Heap) (locs : List Loc), lv_has ls 10 [(0, .ref h0), (2, .int x2), (3, .int x3), (4, .int x4), (5, .ref (r1 0)), (6, .int x6), (7, .int x7), (8, .int x8)] → va_P G.1 CL (cw_Le G h0 q0 o0 ++ (cw_Mo G h1 q1 r1 o1 ++ (cw_La G (r1 0) q2 o2))) H → va_D A (cw_Le G h0 q0 o0 ++ (cw_Mo G h1 q1 r1 o1 ++ (cw_La G (r1 0) q2 o2))) → va_S A s.heap H locs → f_Le_findInItem_51 r1 o1 o2 Q n x2 x3 x4 x6 x7 x8 o0 → W p l e rm_Le_findInItem s m args below meth c H locs 0 0 (MQ below (va_Qv (fun (u : Ob) => Q u) (fun (u : Ob) t => BW G A (cw_Le G h0 q0 u ++ (cw_Mo G h1 q1 r1 o1 ++ (cw_La G (r1 0) q2 o2))) t) A) args s 0 0 A) (F0 m 51 ls []) := by
  obtain ⟨hx, hb, hml, hown, hr, hts, hK, hA, hlocks, hE⟩ := id C
  intro n
  induction n with
  | zero => intro x2 x3 x4 x6 x7 x8 o0 ls H locs hl hP hD hS h; exact absurd h id
  | succ n ih =>
    intro x2 x3 x4 x6 x7 x8 o0 ls H locs hl hP hD hS h
    have hP : va_P G.1 CL [(h0, .inr (4, [.int (gI o0 0), .int (gI o0 1), .int (gI o0 2), .int (gI o0 3), .int (gI o0 4), .int (gI o0 5), .int (gI o0 6), .int (gI o0 7)])), (h1, .inr (5, [.ref (r1 0), .int (gI o1 1), .int (gI o1 2), .ref (q1 3), .ref (q1 4), .ref (q1 5), .ref (q1 6), .ref (q1 7), .ref (q1 8), .ref (q1 9), .ref (q1 10), .int (gI o1 11), .int (gI o1 12)])), kI G (q1 3) 20 (gA o1 3), kI G (q1 4) 20 (gA o1 4), kI G (q1 5) 5 (gA o1 5), kJ G (q1 6) 5 (gB o1 6), kJ G (q1 7) 5 (gB o1 7), kJ G (q1 8) 6 (gB o1 8), kI G (q1 10) 5 (gA o1 10), ((r1 0), .inr (3, [.ref (q2 0), .int (gI o2 1), .int (gI o2 2), .int (gI o2 3), .int (gI o2 4), .int (gI o2 5), .ref (q2 6), .ref (q2 7), .ref (q2 8), .ref (q2 9), .ref (q2 10), .ref (q2 11), .ref (q2 12), .ref (q2 13), .ref (q2 14)])), kI G (q2 0) 5 (gA o2 0), kI G (q2 6) 20 (gA o2 6), kI G (q2 7) 20 (gA o2 7), kI G (q2 8) 20 (gA o2 8), kI G (q2 9) 20 (gA o2 9), kI G (q2 10) 20 (gA o2 10), kI G (q2 11) 20 (gA o2 11), kI G (q2 12) 8 (gA o2 12), kI G (q2 13) 64 (gA o2 13), kI G (q2 14) 64 (gA o2 14)] H := hP
    have hD : va_D A [(h0, .inr (4, [.int (gI o0 0), .int (gI o0 1), .int (gI o0 2), .int (gI o0 3), .int (gI o0 4), .int (gI o0 5), .int (gI o0 6), .int (gI o0 7)])), (h1, .inr (5, [.ref (r1 0), .int (gI o1 1), .int (gI o1 2), .ref (q1 3), .ref (q1 4), .ref (q1 5), .ref (q1 6), .ref (q1 7), .ref (q1 8), .ref (q1 9), .ref (q1 10), .int (gI o1 11), .int (gI o1 12)])), kI G (q1 3) 20 (gA o1 3), kI G (q1 4) 20 (gA o1 4), kI G (q1 5) 5 (gA o1 5), kJ G (q1 6) 5 (gB o1 6), kJ G (q1 7) 5 (gB o1 7), kJ G (q1 8) 6 (gB o1 8), kI G (q1 10) 5 (gA o1 10), ((r1 0), .inr (3, [.ref (q2 0), .int (gI o2 1), .int (gI o2 2), .int (gI o2 3), .int (gI o2 4), .int (gI o2 5), .ref (q2 6), .ref (q2 7), .ref (q2 8), .ref (q2 9), .ref (q2 10), .ref (q2 11), .ref (q2 12), .ref (q2 13), .ref (q2 14)])), kI G (q2 0) 5 (gA o2 0), kI G (q2 6) 20 (gA o2 6), kI G (q2 7) 20 (gA o2 7), kI G (q2 8) 20 (gA o2 8), kI G (q2 9) 20 (gA o2 9), kI G (q2 10) 20 (gA o2 10), kI G (q2 11) 20 (gA o2 11), kI G (q2 12) 8 (gA o2 12), kI G (q2 13) 64 (gA o2 13), kI G (q2 14) 64 (gA o2 14)] := hD
    unfold f_Le_findInItem_51 at h
    refine lv_iload hx hb d_Le_findInItem_51 (lv_at hl 7 rfl) ?_
    refine lv_aload hx hb d_Le_findInItem_53 (lv_at hl 4 rfl) ?_
    refine va_get (D := G.1) (ci := 3) (v := .int (gI o2 5)) (C := R_La) (T := T_La) (N := 15) hx hb hts i_La hown hK hP 9 rfl rfl 5 (by decide) (hts _ wf_Le_68) (fun _ h9 => h9) rfl d_Le_findInItem_55 ?_
    refine lv_icmp_ge (tgt := 248) hx hb d_Le_findInItem_58 (by decide) (fun c11 => ?_) (fun c11 => ?_)
    · have h := h.1 c11
      have hP : va_P G.1 CL (cw_Le G h0 q0 o0 ++ (cw_Mo G h1 q1 r1 o1 ++ (cw_La G (r1 0) q2 o2))) H := hP
      have hD : va_D A (cw_Le G h0 q0 o0 ++ (cw_Mo G h1 q1 r1 o1 ++ (cw_La G (r1 0) q2 o2))) := hD
      exact W.vret hx hb hr (fun t ht hW => ⟨⟨o0, rfl, h, by rw [ht]; exact hP, va_K.moved hW.alike hK, hD⟩, hS.F ht⟩) hS.2.2 d_Le_findInItem_248
    · have h := h.2 c11
      refine lv_aload hx hb d_Le_findInItem_61 (lv_at hl 4 rfl) ?_
      refine va_get (D := G.1) (ci := 3) (v := .ref (q2 6)) (C := R_La) (T := T_La) (N := 15) hx hb hts i_La hown hK hP 9 rfl rfl 6 (by decide) (hts _ wf_Le_71) (fun _ h9 => h9) rfl d_Le_findInItem_63 ?_
      refine lv_iload hx hb d_Le_findInItem_66 (lv_at hl 7 rfl) ?_
      have g12 := h.1
      have h := h.2
      refine xa_iald hx hb hK hP 11 0 rfl rfl g12 (k := x8.toNatClampNeg) rfl d_Le_findInItem_68 ?_
      refine lv_aload hx hb d_Le_findInItem_69 (lv_at hl 4 rfl) ?_
      refine va_get (D := G.1) (ci := 3) (v := .ref (q2 13)) (C := R_La) (T := T_La) (N := 15) hx hb hts i_La hown hK hP 9 rfl rfl 13 (by decide) (hts _ wf_Le_74) (fun _ h9 => h9) rfl d_Le_findInItem_71 ?_
      refine lv_iload hx hb d_Le_findInItem_74 (lv_at hl 5 rfl) ?_
      have g13 := h.1
      have h := h.2
      refine xa_iald hx hb hK hP 18 0 rfl rfl g13 (k := x6.toNatClampNeg) rfl d_Le_findInItem_76 ?_
      refine lv_icmp_ne (tgt := 109) hx hb d_Le_findInItem_77 (by decide) (fun c14 => ?_) (fun c14 => ?_)
      · have h := h.2 c14
        have hl := lv_sub (l' := [(0, .ref h0), (2, .int x2), (3, .int x3), (4, .int x4), (5, .ref (r1 0)), (6, .int x6), (7, .int x7), (8, .int x8)]) hl [0, 1, 2, 3, 4, 5, 6, 7] rfl
        have hP : va_P G.1 CL (cw_Le G h0 q0 o0 ++ (cw_Mo G h1 q1 r1 o1 ++ (cw_La G (r1 0) q2 o2))) H := hP
        have hD : va_D A (cw_Le G h0 q0 o0 ++ (cw_Mo G h1 q1 r1 o1 ++ (cw_La G (r1 0) q2 o2))) := hD
        exact t_Le_findInItem_109 r1 o1 o2 (f_Le_findInItem_51 r1 o1 o2 Q n) Q C ih x2 x3 x4 x6 x7 x8 o0 ls _ locs hl hP hD hS h
      · have h := h.1 c14
        refine lv_aload hx hb d_Le_findInItem_80 (lv_at hl 4 rfl) ?_
        refine va_get (D := G.1) (ci := 3) (v := .ref (q2 7)) (C := R_La) (T := T_La) (N := 15) hx hb hts i_La hown hK hP 9 rfl rfl 7 (by decide) (hts _ wf_Le_77) (fun _ h9 => h9) rfl d_Le_findInItem_82 ?_
        refine lv_iload hx hb d_Le_findInItem_85 (lv_at hl 7 rfl) ?_
        have g15 := h.1
        have h := h.2
        refine xa_iald hx hb hK hP 12 0 rfl rfl g15 (k := x8.toNatClampNeg) rfl d_Le_findInItem_87 ?_
        refine lv_iload_n hx hb d_Le_findInItem_88 rfl (lv_at hl 1 rfl) ?_
        refine lv_icmp_ne (tgt := 109) hx hb d_Le_findInItem_89 (by decide) (fun c16 => ?_) (fun c16 => ?_)
        · have h := h.2 c16
          have hl := lv_sub (l' := [(0, .ref h0), (2, .int x2), (3, .int x3), (4, .int x4), (5, .ref (r1 0)), (6, .int x6), (7, .int x7), (8, .int x8)]) hl [0, 1, 2, 3, 4, 5, 6, 7] rfl
          have hP : va_P G.1 CL (cw_Le G h0 q0 o0 ++ (cw_Mo G h1 q1 r1 o1 ++ (cw_La G (r1 0) q2 o2))) H := hP
          have hD : va_D A (cw_Le G h0 q0 o0 ++ (cw_Mo G h1 q1 r1 o1 ++ (cw_La G (r1 0) q2 o2))) := hD
          exact t_Le_findInItem_109 r1 o1 o2 (f_Le_findInItem_51 r1 o1 o2 Q n) Q C ih x2 x3 x4 x6 x7 x8 o0 ls _ locs hl hP hD hS h
        · have h := h.1 c16
          refine lv_iload hx hb d_Le_findInItem_92 (lv_at hl 6 rfl) ?_
          refine lv_aload hx hb d_Le_findInItem_94 (lv_at hl 4 rfl) ?_
          refine va_get (D := G.1) (ci := 3) (v := .ref (q2 10)) (C := R_La) (T := T_La) (N := 15) hx hb hts i_La hown hK hP 9 rfl rfl 10 (by decide) (hts _ wf_Le_80) (fun _ h9 => h9) rfl d_Le_findInItem_96 ?_
          refine lv_iload hx hb d_Le_findInItem_99 (lv_at hl 7 rfl) ?_
          have g17 := h.1
          have h := h.2
          refine xa_iald hx hb hK hP 15 0 rfl rfl g17 (k := x8.toNatClampNeg) rfl d_Le_findInItem_101 ?_
          refine lv_icmp_ge (tgt := 109) hx hb d_Le_findInItem_102 (by decide) (fun c18 => ?_) (fun c18 => ?_)
          · have h := h.1 c18
            have hl := lv_sub (l' := [(0, .ref h0), (2, .int x2), (3, .int x3), (4, .int x4), (5, .ref (r1 0)), (6, .int x6), (7, .int x7), (8, .int x8)]) hl [0, 1, 2, 3, 4, 5, 6, 7] rfl
            have hP : va_P G.1 CL (cw_Le G h0 q0 o0 ++ (cw_Mo G h1 q1 r1 o1 ++ (cw_La G (r1 0) q2 o2))) H := hP
            have hD : va_D A (cw_Le G h0 q0 o0 ++ (cw_Mo G h1 q1 r1 o1 ++ (cw_La G (r1 0) q2 o2))) := hD
            exact t_Le_findInItem_109 r1 o1 o2 (f_Le_findInItem_51 r1 o1 o2 Q n) Q C ih x2 x3 x4 x6 x7 x8 o0 ls _ locs hl hP hD hS h
          · have h := h.2 c18
            refine lv_iconst (v := (1 : Int32)) hx hb d_Le_findInItem_105 (by decide) ?_
            refine lv_goto (tgt := 110) hx hb d_Le_findInItem_106 (by decide) ?_
            refine lv_istore (lv' := [(9, .int (1 : Int32)), (0, .ref h0), (2, .int x2), (3, .int x3), (4, .int x4), (5, .ref (r1 0)), (6, .int x6), (7, .int x7), (8, .int x8)]) hx hb d_Le_findInItem_110 hl (by decide) rfl (fun ls hl => ?_)
            have hl := lv_sub (l' := [(0, .ref h0), (2, .int x2), (3, .int x3), (4, .int x4), (5, .ref (r1 0)), (6, .int x6), (7, .int x7), (8, .int x8), (9, .int (1 : Int32))]) hl [1, 2, 3, 4, 5, 6, 7, 8, 0] rfl
            have hP : va_P G.1 CL (cw_Le G h0 q0 o0 ++ (cw_Mo G h1 q1 r1 o1 ++ (cw_La G (r1 0) q2 o2))) H := hP
            have hD : va_D A (cw_Le G h0 q0 o0 ++ (cw_Mo G h1 q1 r1 o1 ++ (cw_La G (r1 0) q2 o2))) := hD
            exact t_Le_findInItem_112 r1 o1 o2 (f_Le_findInItem_51 r1 o1 o2 Q n) Q C ih x2 x3 x4 x6 x7 x8 (1 : Int32) o0 ls _ locs hl hP hD hS h
set_option maxHeartbeats 4000000 in
set_option maxRecDepth 100000 in
theorem c_Le_findInItem {l : Launch} {G : Gl} {h0 : Nat} {h1 : Nat} {q0 : Nat → Nat} {q1 : Nat → Nat} {q2 : Nat → Nat} {a1 : Int32} {a2 : Int32} {a3 : Int32} {o0 : Ob} {r1 : (Nat → Nat)} {o1 : Ob} {o2 : Ob} {Q : Ob → Prop} (sz : Nat) (h : f_Le_findInItem a1 a2 a3 o0 r1 o1 o2 Q) : Met l y_Le_findInItem w_Le_findInItem rm_Le_findInItem (PcW G [.ref h0, .ref h1, .int a1, .int a2, .int a3] sz (cw_Le G h0 q0 o0 ++ (cw_Mo G h1 q1 r1 o1 ++ (cw_La G (r1 0) q2 o2)))) (va_Qv (fun (u : Ob) => Q u) (fun (u : Ob) t => BW G (va_A (cw_Le G h0 q0 o0 ++ (cw_Mo G h1 q1 r1 o1 ++ (cw_La G (r1 0) q2 o2))) sz) (cw_Le G h0 q0 u ++ (cw_Mo G h1 q1 r1 o1 ++ (cw_La G (r1 0) q2 o2))) t) (va_A (cw_Le G h0 q0 o0 ++ (cw_Mo G h1 q1 r1 o1 ++ (cw_La G (r1 0) q2 o2))) sz)) 0 0 (va_A (cw_Le G h0 q0 o0 ++ (cw_Mo G h1 q1 r1 o1 ++ (cw_La G (r1 0) q2 o2))) sz) := by
  refine Met.ofW (cc := b_Le_findInItem) (maxL := 10) (ret := none) (by decide +kernel) rfl ?_
  intro p e s m args below meth c s₁ B hml hv
  obtain ⟨rfl, hsz, hP, hK, hD0, hE⟩ := hv
  have hx := B.exec
  have hb := B.bytes
  have hr := B.returns
  have hts0 := atoms_spec (ws := w_Le_findInItem) B.pre
  have hts : ∀ w ∈ gw_tbl, w.before ([.ref h0, .ref h1, .int a1, .int a2, .int a3]).toArray s = true := fun w hw => hts0 w (List.mem_cons_of_mem _ hw)
  have hown : s.vm.findClass R_Le = some m.cls := findClass_of_methodNamed B.named
  have hlocks := B.notSynchronized
  subst hsz
  have hD := hD0.self (sz := s.heap.size)
  generalize hAe : va_A (cw_Le G h0 q0 o0 ++ (cw_Mo G h1 q1 r1 o1 ++ (cw_La G (r1 0) q2 o2))) s.heap.size = A at hD hE ⊢
  have hA : ∀ q : Nat, s.heap.size ≤ q → A q := fun q h => by rw [← hAe]; exact Or.inr h
  have hS : va_S A s.heap s.heap [] := va_S.rf
  have C : Cx p s m ([.ref h0, .ref h1, .int a1, .int a2, .int a3]).toArray meth c R_Le b_Le_findInItem 10 none G A := ⟨hx, hb, hml, hown, hr, hts, hK, hA, hlocks, hE⟩
  have hl := lv_entry ([.ref h0, .ref h1, .int a1, .int a2, .int a3]) (n := 10) (Nat.le_of_ble_eq_true rfl)
  rw [lg_entry_eq]
  generalize (lg_sl ([.ref h0, .ref h1, .int a1, .int a2, .int a3]) ++ List.replicate (10 - (lg_sl ([.ref h0, .ref h1, .int a1, .int a2, .int a3])).length) Slot.unset).toArray = ls at hl ⊢
  have hl : lv_has ls 10 [(0, .ref h0), (1, .ref h1), (2, .int a1), (3, .int a2), (4, .int a3)] := hl
  have hD : va_D A [(h0, .inr (4, [.int (gI o0 0), .int (gI o0 1), .int (gI o0 2), .int (gI o0 3), .int (gI o0 4), .int (gI o0 5), .int (gI o0 6), .int (gI o0 7)])), (h1, .inr (5, [.ref (r1 0), .int (gI o1 1), .int (gI o1 2), .ref (q1 3), .ref (q1 4), .ref (q1 5), .ref (q1 6), .ref (q1 7), .ref (q1 8), .ref (q1 9), .ref (q1 10), .int (gI o1 11), .int (gI o1 12)])), kI G (q1 3) 20 (gA o1 3), kI G (q1 4) 20 (gA o1 4), kI G (q1 5) 5 (gA o1 5), kJ G (q1 6) 5 (gB o1 6), kJ G (q1 7) 5 (gB o1 7), kJ G (q1 8) 6 (gB o1 8), kI G (q1 10) 5 (gA o1 10), ((r1 0), .inr (3, [.ref (q2 0), .int (gI o2 1), .int (gI o2 2), .int (gI o2 3), .int (gI o2 4), .int (gI o2 5), .ref (q2 6), .ref (q2 7), .ref (q2 8), .ref (q2 9), .ref (q2 10), .ref (q2 11), .ref (q2 12), .ref (q2 13), .ref (q2 14)])), kI G (q2 0) 5 (gA o2 0), kI G (q2 6) 20 (gA o2 6), kI G (q2 7) 20 (gA o2 7), kI G (q2 8) 20 (gA o2 8), kI G (q2 9) 20 (gA o2 9), kI G (q2 10) 20 (gA o2 10), kI G (q2 11) 20 (gA o2 11), kI G (q2 12) 8 (gA o2 12), kI G (q2 13) 64 (gA o2 13), kI G (q2 14) 64 (gA o2 14)] := hD
  unfold f_Le_findInItem at h
  suffices key : ∀ (H : Heap) (locs : List Loc), va_P G.1 CL [(h0, .inr (4, [.int (gI o0 0), .int (gI o0 1), .int (gI o0 2), .int (gI o0 3), .int (gI o0 4), .int (gI o0 5), .int (gI o0 6), .int (gI o0 7)])), (h1, .inr (5, [.ref (r1 0), .int (gI o1 1), .int (gI o1 2), .ref (q1 3), .ref (q1 4), .ref (q1 5), .ref (q1 6), .ref (q1 7), .ref (q1 8), .ref (q1 9), .ref (q1 10), .int (gI o1 11), .int (gI o1 12)])), kI G (q1 3) 20 (gA o1 3), kI G (q1 4) 20 (gA o1 4), kI G (q1 5) 5 (gA o1 5), kJ G (q1 6) 5 (gB o1 6), kJ G (q1 7) 5 (gB o1 7), kJ G (q1 8) 6 (gB o1 8), kI G (q1 10) 5 (gA o1 10), ((r1 0), .inr (3, [.ref (q2 0), .int (gI o2 1), .int (gI o2 2), .int (gI o2 3), .int (gI o2 4), .int (gI o2 5), .ref (q2 6), .ref (q2 7), .ref (q2 8), .ref (q2 9), .ref (q2 10), .ref (q2 11), .ref (q2 12), .ref (q2 13), .ref (q2 14)])), kI G (q2 0) 5 (gA o2 0), kI G (q2 6) 20 (gA o2 6), kI G (q2 7) 20 (gA o2 7), kI G (q2 8) 20 (gA o2 8), kI G (q2 9) 20 (gA o2 9), kI G (q2 10) 20 (gA o2 10), kI G (q2 11) 20 (gA o2 11), kI G (q2 12) 8 (gA o2 12), kI G (q2 13) 64 (gA o2 13), kI G (q2 14) 64 (gA o2 14)] H → va_S A s.heap H locs → W p l e rm_Le_findInItem s m ([.ref h0, .ref h1, .int a1, .int a2, .int a3]).toArray below meth c H locs 0 0 (MQ below (va_Qv (fun (u : Ob) => Q u) (fun (u : Ob) t => BW G A (cw_Le G h0 q0 u ++ (cw_Mo G h1 q1 r1 o1 ++ (cw_La G (r1 0) q2 o2))) t) A) ([.ref h0, .ref h1, .int a1, .int a2, .int a3]).toArray s 0 0 A) (F0 m 0 ls []) from key s.heap [] hP hS
  intro H locs hP hS
  refine lv_aload_n hx hb d_Le_findInItem_0 rfl (lv_at hl 1 rfl) ?_
  refine va_get (D := G.1) (ci := 5) (v := .ref (r1 0)) (C := R_Mo) (T := T_Mo) (N := 13) hx hb hts i_Mo hown hK hP 1 rfl rfl 0 (by decide) (hts _ wf_Le_40) (fun _ h9 => h9) rfl d_Le_findInItem_1 ?_
  refine lv_astore (lv' := [(5, .ref (r1 0)), (0, .ref h0), (1, .ref h1), (2, .int a1), (3, .int a2), (4, .int a3)]) hx hb d_Le_findInItem_4 hl (by decide) rfl (fun ls hl => ?_)
  refine lv_aload_n hx hb d_Le_findInItem_6 rfl (lv_at hl 2 rfl) ?_
  refine va_get (D := G.1) (ci := 5) (v := .ref (q1 3)) (C := R_Mo) (T := T_Mo) (N := 13) hx hb hts i_Mo hown hK hP 1 rfl rfl 3 (by decide) (hts _ wf_Le_36) (fun _ h9 => h9) rfl d_Le_findInItem_7 ?_
  refine lv_iload_n hx hb d_Le_findInItem_10 rfl (lv_at hl 4 rfl) ?_
  have g19 := h.1
  have h := h.2
  refine xa_iald hx hb hK hP 2 0 rfl rfl g19 (k := a2.toNatClampNeg) rfl d_Le_findInItem_11 ?_
  refine lv_bipush (v := (8 : Int32)) hx hb d_Le_findInItem_12 (by decide) ?_
  refine lv_imul hx hb d_Le_findInItem_14 ?_
  refine lv_iload hx hb d_Le_findInItem_15 (lv_at hl 5 rfl) ?_
  refine lv_iadd hx hb d_Le_findInItem_17 ?_
  refine lv_topi (fun y20 ey20 => ?_)
  have h := h y20 ey20
  refine lv_istore (lv' := [(6, .int y20), (5, .ref (r1 0)), (0, .ref h0), (1, .ref h1), (2, .int a1), (3, .int a2), (4, .int a3)]) hx hb d_Le_findInItem_18 hl (by decide) rfl (fun ls hl => ?_)
  refine lv_aload_n hx hb d_Le_findInItem_20 rfl (lv_at hl 3 rfl) ?_
  refine va_get (D := G.1) (ci := 5) (v := .int (gI o1 1)) (C := R_Mo) (T := T_Mo) (N := 13) hx hb hts i_Mo hown hK hP 1 rfl rfl 1 (by decide) (hts _ wf_Le_59) (fun _ h9 => h9) rfl d_Le_findInItem_21 ?_
  refine lv_aload_n hx hb d_Le_findInItem_24 rfl (lv_at hl 3 rfl) ?_
  refine va_get (D := G.1) (ci := 5) (v := .ref (q1 4)) (C := R_Mo) (T := T_Mo) (N := 13) hx hb hts i_Mo hown hK hP 1 rfl rfl 4 (by decide) (hts _ wf_Le_62) (fun _ h9 => h9) rfl d_Le_findInItem_25 ?_
  refine lv_iload_n hx hb d_Le_findInItem_28 rfl (lv_at hl 5 rfl) ?_
  have g21 := h.1
  have h := h.2
  refine xa_iald hx hb hK hP 3 0 rfl rfl g21 (k := a2.toNatClampNeg) rfl d_Le_findInItem_29 ?_
  refine lv_isub hx hb d_Le_findInItem_30 ?_
  refine lv_aload hx hb d_Le_findInItem_31 (lv_at hl 1 rfl) ?_
  refine va_get (D := G.1) (ci := 3) (v := .ref (q2 14)) (C := R_La) (T := T_La) (N := 15) hx hb hts i_La hown hK hP 9 rfl rfl 14 (by decide) (hts _ wf_Le_65) (fun _ h9 => h9) rfl d_Le_findInItem_33 ?_
  refine lv_iload hx hb d_Le_findInItem_36 (lv_at hl 0 rfl) ?_
  have g22 := h.1
  have h := h.2
  refine xa_iald hx hb hK hP 19 0 rfl rfl g22 (k := y20.toNatClampNeg) rfl d_Le_findInItem_38 ?_
  refine lv_isub hx hb d_Le_findInItem_39 ?_
  refine lv_topi (fun y23 ey23 => ?_)
  have h := h y23 ey23
  refine lv_istore (lv' := [(7, .int y23), (6, .int y20), (5, .ref (r1 0)), (0, .ref h0), (1, .ref h1), (2, .int a1), (3, .int a2), (4, .int a3)]) hx hb d_Le_findInItem_40 hl (by decide) rfl (fun ls hl => ?_)
  refine lv_iload hx hb d_Le_findInItem_42 (lv_at hl 0 rfl) ?_
  refine lv_if_ge (tgt := 48) hx hb d_Le_findInItem_44 (by decide) (fun c24 => ?_) (fun c24 => ?_)
  · have h := h.1 c24
    refine lv_iconst (v := (0 : Int32)) hx hb d_Le_findInItem_48 (by decide) ?_
    refine lv_istore (lv' := [(8, .int (0 : Int32)), (7, .int y23), (6, .int y20), (5, .ref (r1 0)), (0, .ref h0), (1, .ref h1), (2, .int a1), (3, .int a2), (4, .int a3)]) hx hb d_Le_findInItem_49 hl (by decide) rfl (fun ls hl => ?_)
    have hl := lv_sub (l' := [(0, .ref h0), (2, .int a1), (3, .int a2), (4, .int a3), (5, .ref (r1 0)), (6, .int y20), (7, .int y23), (8, .int (0 : Int32))]) hl [4, 6, 7, 8, 3, 2, 1, 0] rfl
    have hP : va_P G.1 CL (cw_Le G h0 q0 o0 ++ (cw_Mo G h1 q1 r1 o1 ++ (cw_La G (r1 0) q2 o2))) H := hP
    have hD : va_D A (cw_Le G h0 q0 o0 ++ (cw_Mo G h1 q1 r1 o1 ++ (cw_La G (r1 0) q2 o2))) := hD
    obtain ⟨w, h⟩ := h
    exact t_Le_findInItem_51 r1 o1 o2 Q C w a1 a2 a3 y20 y23 (0 : Int32) o0 ls _ locs hl hP hD hS h
  · have h := h.2 c24
    have hP : va_P G.1 CL (cw_Le G h0 q0 o0 ++ (cw_Mo G h1 q1 r1 o1 ++ (cw_La G (r1 0) q2 o2))) H := hP
    have hD : va_D A (cw_Le G h0 q0 o0 ++ (cw_Mo G h1 q1 r1 o1 ++ (cw_La G (r1 0) q2 o2))) := hD
    exact W.vret hx hb hr (fun t ht hW => ⟨⟨o0, rfl, h, by rw [ht]; exact hP, va_K.moved hW.alike hK, hD⟩, hS.F ht⟩) hS.2.2 d_Le_findInItem_47
abbrev b_Le_find : ByteArray := prog_5_method_2_code
def y_Le_find : MethodName := ⟨R_Le, "find", "(LPipeVoice$Moment;I)V"⟩
abbrev w_Le_find : List Cond := Cond.code y_Le_find b_Le_find 6 none :: gw_tbl
theorem d_Le_find_0 : decode b_Le_find 0 = .ok (.aload_n 0, 1) := by decide +kernel
theorem d_Le_find_1 : decode b_Le_find 1 = .ok (.iconst (-1), 1) := by decide +kernel
theorem d_Le_find_2 : decode b_Le_find 2 = .ok (.putfield 9, 3) := by decide +kernel
theorem d_Le_find_5 : decode b_Le_find 5 = .ok (.aload_n 0, 1) := by decide +kernel
theorem d_Le_find_6 : decode b_Le_find 6 = .ok (.iconst 1, 1) := by decide +kernel
theorem d_Le_find_7 : decode b_Le_find 7 = .ok (.putfield 15, 3) := by decide +kernel
theorem d_Le_find_10 : decode b_Le_find 10 = .ok (.aload_n 0, 1) := by decide +kernel
theorem d_Le_find_11 : decode b_Le_find 11 = .ok (.iconst (-1), 1) := by decide +kernel
theorem d_Le_find_12 : decode b_Le_find 12 = .ok (.putfield 18, 3) := by decide +kernel
theorem d_Le_find_15 : decode b_Le_find 15 = .ok (.aload_n 0, 1) := by decide +kernel
theorem d_Le_find_16 : decode b_Le_find 16 = .ok (.iconst (-1), 1) := by decide +kernel
theorem d_Le_find_17 : decode b_Le_find 17 = .ok (.putfield 21, 3) := by decide +kernel
theorem d_Le_find_20 : decode b_Le_find 20 = .ok (.aload_n 0, 1) := by decide +kernel
theorem d_Le_find_21 : decode b_Le_find 21 = .ok (.iconst (-1), 1) := by decide +kernel
theorem d_Le_find_22 : decode b_Le_find 22 = .ok (.putfield 24, 3) := by decide +kernel
theorem d_Le_find_25 : decode b_Le_find 25 = .ok (.aload_n 0, 1) := by decide +kernel
theorem d_Le_find_26 : decode b_Le_find 26 = .ok (.iconst 0, 1) := by decide +kernel
theorem d_Le_find_27 : decode b_Le_find 27 = .ok (.putfield 27, 3) := by decide +kernel
theorem d_Le_find_30 : decode b_Le_find 30 = .ok (.aload_n 0, 1) := by decide +kernel
theorem d_Le_find_31 : decode b_Le_find 31 = .ok (.iconst 0, 1) := by decide +kernel
theorem d_Le_find_32 : decode b_Le_find 32 = .ok (.putfield 30, 3) := by decide +kernel
theorem d_Le_find_35 : decode b_Le_find 35 = .ok (.iconst 0, 1) := by decide +kernel
theorem d_Le_find_36 : decode b_Le_find 36 = .ok (.istore_n 3, 1) := by decide +kernel
theorem d_Le_find_37 : decode b_Le_find 37 = .ok (.iload_n 3, 1) := by decide +kernel
theorem d_Le_find_38 : decode b_Le_find 38 = .ok (.aload_n 1, 1) := by decide +kernel
theorem d_Le_find_39 : decode b_Le_find 39 = .ok (.getfield 33, 3) := by decide +kernel
theorem d_Le_find_42 : decode b_Le_find 42 = .ok (.if_icmp .ge 50, 3) := by decide +kernel
theorem d_Le_find_45 : decode b_Le_find 45 = .ok (.aload_n 1, 1) := by decide +kernel
theorem d_Le_find_46 : decode b_Le_find 46 = .ok (.getfield 36, 3) := by decide +kernel
theorem d_Le_find_49 : decode b_Le_find 49 = .ok (.iload_n 3, 1) := by decide +kernel
theorem d_Le_find_50 : decode b_Le_find 50 = .ok (.iaload, 1) := by decide +kernel
theorem d_Le_find_51 : decode b_Le_find 51 = .ok (.istore 4, 2) := by decide +kernel
theorem d_Le_find_53 : decode b_Le_find 53 = .ok (.iconst 0, 1) := by decide +kernel
theorem d_Le_find_54 : decode b_Le_find 54 = .ok (.istore 5, 2) := by decide +kernel
theorem d_Le_find_56 : decode b_Le_find 56 = .ok (.iload 5, 2) := by decide +kernel
theorem d_Le_find_58 : decode b_Le_find 58 = .ok (.aload_n 1, 1) := by decide +kernel
theorem d_Le_find_59 : decode b_Le_find 59 = .ok (.getfield 40, 3) := by decide +kernel
theorem d_Le_find_62 : decode b_Le_find 62 = .ok (.getfield 44, 3) := by decide +kernel
theorem d_Le_find_65 : decode b_Le_find 65 = .ok (.iload 4, 2) := by decide +kernel
theorem d_Le_find_67 : decode b_Le_find 67 = .ok (.iaload, 1) := by decide +kernel
theorem d_Le_find_68 : decode b_Le_find 68 = .ok (.if_icmp .ge 18, 3) := by decide +kernel
theorem d_Le_find_71 : decode b_Le_find 71 = .ok (.aload_n 0, 1) := by decide +kernel
theorem d_Le_find_72 : decode b_Le_find 72 = .ok (.aload_n 1, 1) := by decide +kernel
theorem d_Le_find_73 : decode b_Le_find 73 = .ok (.iload_n 2, 1) := by decide +kernel
theorem d_Le_find_74 : decode b_Le_find 74 = .ok (.iload_n 3, 1) := by decide +kernel
theorem d_Le_find_75 : decode b_Le_find 75 = .ok (.iload 5, 2) := by decide +kernel
theorem d_Le_find_77 : decode b_Le_find 77 = .ok (.invokevirtual 49, 3) := by decide +kernel
theorem d_Le_find_80 : decode b_Le_find 80 = .ok (.iinc 5 1, 3) := by decide +kernel
theorem d_Le_find_83 : decode b_Le_find 83 = .ok (.goto (-27), 3) := by decide +kernel
theorem d_Le_find_86 : decode b_Le_find 86 = .ok (.iinc 3 1, 3) := by decide +kernel
theorem d_Le_find_89 : decode b_Le_find 89 = .ok (.goto (-52), 3) := by decide +kernel
theorem d_Le_find_92 : decode b_Le_find 92 = .ok (.aload_n 0, 1) := by decide +kernel
theorem d_Le_find_93 : decode b_Le_find 93 = .ok (.aload_n 0, 1) := by decide +kernel
theorem d_Le_find_94 : decode b_Le_find 94 = .ok (.getfield 30, 3) := by decide +kernel
theorem d_Le_find_97 : decode b_Le_find 97 = .ok (.ifCond .le 15, 3) := by decide +kernel
theorem d_Le_find_100 : decode b_Le_find 100 = .ok (.aload_n 0, 1) := by decide +kernel
theorem d_Le_find_101 : decode b_Le_find 101 = .ok (.getfield 27, 3) := by decide +kernel
theorem d_Le_find_104 : decode b_Le_find 104 = .ok (.aload_n 0, 1) := by decide +kernel
theorem d_Le_find_105 : decode b_Le_find 105 = .ok (.getfield 30, 3) := by decide +kernel
theorem d_Le_find_108 : decode b_Le_find 108 = .ok (.idiv, 1) := by decide +kernel
theorem d_Le_find_109 : decode b_Le_find 109 = .ok (.goto 12, 3) := by decide +kernel
theorem d_Le_find_112 : decode b_Le_find 112 = .ok (.aload_n 1, 1) := by decide +kernel
theorem d_Le_find_113 : decode b_Le_find 113 = .ok (.getfield 40, 3) := by decide +kernel
theorem d_Le_find_116 : decode b_Le_find 116 = .ok (.getfield 53, 3) := by decide +kernel
theorem d_Le_find_119 : decode b_Le_find 119 = .ok (.iload_n 2, 1) := by decide +kernel
theorem d_Le_find_120 : decode b_Le_find 120 = .ok (.iaload, 1) := by decide +kernel
theorem d_Le_find_121 : decode b_Le_find 121 = .ok (.putfield 56, 3) := by decide +kernel
theorem d_Le_find_124 : decode b_Le_find 124 = .ok (.return_, 1) := by decide +kernel
theorem wf_Le_33 : Cond.fieldLink R_Le 33 R_Mo "said" "I" ∈ gw_tbl := gw_tb (List.mem_of_getElem? (i := 241) (by decide +kernel)) rfl
theorem wf_Le_53 : Cond.fieldLink R_Le 53 R_La "rest" "[I" ∈ gw_tbl := gw_tb (List.mem_of_getElem? (i := 64) (by decide +kernel)) rfl
theorem wf_Le_56 : Cond.fieldLink R_Le 56 R_Le "aim" "I" ∈ gw_tbl := gw_tb (List.mem_of_getElem? (i := 321) (by decide +kernel)) rfl
theorem wf_Le_44 : Cond.fieldLink R_Le 44 R_La "itemsOf" "[I" ∈ gw_tbl := gw_tb (List.mem_of_getElem? (i := 105) (by decide +kernel)) rfl
theorem wv_Le_49 : wV R_Le 49 y_Le_findInItem b_Le_findInItem 10 none 4 := ⟨⟨gw_tb (List.mem_of_getElem? (i := 680) (by decide +kernel)) rfl, gw_tb (List.mem_of_getElem? (i := 9) (by decide +kernel)) rfl, gw_tb (List.mem_of_getElem? (i := 683) (by decide +kernel)) rfl, by decide, by decide, by decide +kernel⟩, gw_tb (List.mem_of_getElem? (i := 682) (by decide +kernel)) rfl, gw_of (List.mem_append_left _ (List.mem_of_getElem? (i := 19) (by decide +kernel))) rfl⟩
def f_Le_find_56 (r1 : (Nat → Nat)) (o1 : Ob) (o2 : Ob) (k37 : Int32 → Int32 → Ob → Prop) (Q : Ob → Prop) : Nat → Int32 → Int32 → Int32 → Int32 → Ob → Prop
  | 0, _, _, _, _, _ => False
  | n + 1, x2, x3, x4, x5, o0 => (vp_in x4 8) ∧ ((((gA o2 12) x4.toNatClampNeg) ≤ x5 → (k37 x2 (x3 + (1 : Int32)) o0)) ∧ (¬ ((gA o2 12) x4.toNatClampNeg) ≤ x5 → (f_Le_findInItem x2 x3 x5 o0 r1 o1 o2 (fun u3 => (f_Le_find_56 r1 o1 o2 k37 Q n) x2 x3 x4 (x5 + (1 : Int32)) u3))))
def f_Le_find_37 (r1 : (Nat → Nat)) (o1 : Ob) (o2 : Ob) (Q : Ob → Prop) : Nat → Int32 → Int32 → Ob → Prop
  | 0, _, _, _ => False
  | n + 1, x2, x3, o0 => ((gI o1 2) ≤ x3 → (((gI o0 7) ≤ 0 → ((vp_in x2 5) ∧ (Q (sI o0 0 ((gA o2 0) x2.toNatClampNeg))))) ∧ (¬ (gI o0 7) ≤ 0 → ((¬ (gI o0 7) = 0) ∧ (Q (sI o0 0 ((gI o0 6) / (gI o0 7)))))))) ∧ (¬ (gI o1 2) ≤ x3 → ((vp_in x3 20) ∧ ((∃ w, f_Le_find_56 r1 o1 o2 (f_Le_find_37 r1 o1 o2 Q n) Q w x2 x3 ((gA o1 3) x3.toNatClampNeg) (0 : Int32) o0))))
def f_Le_find (a1 : Int32) (o0 : Ob) (r1 : (Nat → Nat)) (o1 : Ob) (o2 : Ob) (Q : Ob → Prop) : Prop := (∃ w, f_Le_find_37 r1 o1 o2 Q w a1 (0 : Int32) (sI (sI (sI (sI (sI (sI (sI o0 1 (1 : Int32)) 2 (-1 : Int32)) 3 (-1 : Int32)) 4 (-1 : Int32)) 5 (-1 : Int32)) 6 (0 : Int32)) 7 (0 : Int32)))
abbrev rm_Le_find : Room := { frames := 2, cells := 0, slots := 0, locals := 59 }
set_option maxHeartbeats 4000000 in
set_option maxRecDepth 100000 in
theorem t_Le_find_56 {p : Program} {l : Launch} {e : Env} {s : State} {m : MethodId} {args : Array Value} {below : List Frame} {meth : Method} {c : Code} {A : Nat → Prop} {G : Gl} {h0 : Nat} {h1 : Nat} {q0 : Nat → Nat} {q1 : Nat → Nat} {q2 : Nat → Nat} (r1 : (Nat → Nat)) (o1 : Ob) (o2 : Ob) (k37 : Int32 → Int32 → Ob → Prop) (Q : Ob → Prop) (C : Cx p s m args meth c R_Le b_Le_find 6 none G A)
    (hk37 : ∀ (x2 : Int32) (x3 : Int32) (o0 : Ob) (ls : Array Slot) (H : Heap) (locs : List Loc), lv_has ls 6 [(0, .ref h0), (1, .ref h1), (2, .int x2), (3, .int x3)] → va_P G.1 CL (cw_Le G h0 q0 o0 ++ (cw_Mo G h1 q1 r1 o1 ++ (cw_La G (r1 0) q2 o2))) H → va_D A (cw_Le G h0 q0 o0 ++ (cw_Mo G h1 q1 r1 o1 ++ (cw_La G (r1 0) q2 o2))) → va_S A s.heap H locs → k37 x2 x3 o0 → W p l e rm_Le_find s m args below meth c H locs 0 0 (MQ below (va_Qv (fun (u : Ob) => Q u) (fun (u : Ob) t => BW G A (cw_Le G h0 q0 u ++ (cw_Mo G h1 q1 r1 o1 ++ (cw_La G (r1 0) q2 o2))) t) A) args s 0 0 A) (F0 m 37 ls [])) :
    ∀ (n : Nat) (x2 : Int32) (x3 : Int32) (x4 : Int32) (x5 : Int32) (o0 : Ob) (ls : Array Slot) (H : Heap) (locs : List Loc), lv_has ls 6 [(0, .ref h0), (1, .ref h1), (2, .int x2), (3, .int x3), (4, .int x4), (5, .int x5)] → va_P G.1 CL (cw_Le G h0 q0 o0 ++ (cw_Mo G h1 q1 r1 o1 ++ (cw_La G (r1 0) q2 o2))) H → va_D A (cw_Le G h0 q0 o0 ++ (cw_Mo G h1 q1 r1 o1 ++ (cw_La G (r1 0) q2 o2))) → va_S A s.heap H locs → f_Le_find_56 r1 o1 o2 k37 Q n x2 x3 x4 x5 o0 → W p l e rm_Le_find s m args below meth c H locs 0 0 (MQ below (va_Qv (fun (u : Ob) => Q u) (fun (u : Ob) t => BW G A (cw_Le G h0 q0 u ++ (cw_Mo G h1 q1 r1 o1 ++ (cw_La G (r1 0) q2 o2))) t) A) args s 0 0 A) (F0 m 56 ls []) := by
  obtain ⟨hx, hb, hml, hown, hr, hts, hK, hA, hlocks, hE⟩ := id C
  intro n
  induction n with
  | zero => intro x2 x3 x4 x5 o0 ls H locs hl hP hD hS h; exact absurd h id
  | succ n ih =>
    intro x2 x3 x4 x5 o0 ls H locs hl hP hD hS h
    have hP : va_P G.1 CL [(h0, .inr (4, [.int (gI o0 0), .int (gI o0 1), .int (gI o0 2), .int (gI o0 3), .int (gI o0 4), .int (gI o0 5), .int (gI o0 6), .int (gI o0 7)])), (h1, .inr (5, [.ref (r1 0), .int (gI o1 1), .int (gI o1 2), .ref (q1 3), .ref (q1 4), .ref (q1 5), .ref (q1 6), .ref (q1 7), .ref (q1 8), .ref (q1 9), .ref (q1 10), .int (gI o1 11), .int (gI o1 12)])), kI G (q1 3) 20 (gA o1 3), kI G (q1 4) 20 (gA o1 4), kI G (q1 5) 5 (gA o1 5), kJ G (q1 6) 5 (gB o1 6), kJ G (q1 7) 5 (gB o1 7), kJ G (q1 8) 6 (gB o1 8), kI G (q1 10) 5 (gA o1 10), ((r1 0), .inr (3, [.ref (q2 0), .int (gI o2 1), .int (gI o2 2), .int (gI o2 3), .int (gI o2 4), .int (gI o2 5), .ref (q2 6), .ref (q2 7), .ref (q2 8), .ref (q2 9), .ref (q2 10), .ref (q2 11), .ref (q2 12), .ref (q2 13), .ref (q2 14)])), kI G (q2 0) 5 (gA o2 0), kI G (q2 6) 20 (gA o2 6), kI G (q2 7) 20 (gA o2 7), kI G (q2 8) 20 (gA o2 8), kI G (q2 9) 20 (gA o2 9), kI G (q2 10) 20 (gA o2 10), kI G (q2 11) 20 (gA o2 11), kI G (q2 12) 8 (gA o2 12), kI G (q2 13) 64 (gA o2 13), kI G (q2 14) 64 (gA o2 14)] H := hP
    have hD : va_D A [(h0, .inr (4, [.int (gI o0 0), .int (gI o0 1), .int (gI o0 2), .int (gI o0 3), .int (gI o0 4), .int (gI o0 5), .int (gI o0 6), .int (gI o0 7)])), (h1, .inr (5, [.ref (r1 0), .int (gI o1 1), .int (gI o1 2), .ref (q1 3), .ref (q1 4), .ref (q1 5), .ref (q1 6), .ref (q1 7), .ref (q1 8), .ref (q1 9), .ref (q1 10), .int (gI o1 11), .int (gI o1 12)])), kI G (q1 3) 20 (gA o1 3), kI G (q1 4) 20 (gA o1 4), kI G (q1 5) 5 (gA o1 5), kJ G (q1 6) 5 (gB o1 6), kJ G (q1 7) 5 (gB o1 7), kJ G (q1 8) 6 (gB o1 8), kI G (q1 10) 5 (gA o1 10), ((r1 0), .inr (3, [.ref (q2 0), .int (gI o2 1), .int (gI o2 2), .int (gI o2 3), .int (gI o2 4), .int (gI o2 5), .ref (q2 6), .ref (q2 7), .ref (q2 8), .ref (q2 9), .ref (q2 10), .ref (q2 11), .ref (q2 12), .ref (q2 13), .ref (q2 14)])), kI G (q2 0) 5 (gA o2 0), kI G (q2 6) 20 (gA o2 6), kI G (q2 7) 20 (gA o2 7), kI G (q2 8) 20 (gA o2 8), kI G (q2 9) 20 (gA o2 9), kI G (q2 10) 20 (gA o2 10), kI G (q2 11) 20 (gA o2 11), kI G (q2 12) 8 (gA o2 12), kI G (q2 13) 64 (gA o2 13), kI G (q2 14) 64 (gA o2 14)] := hD
    unfold f_Le_find_56 at h
    refine lv_iload hx hb d_Le_find_56 (lv_at hl 5 rfl) ?_
    refine lv_aload_n hx hb d_Le_find_58 rfl (lv_at hl 1 rfl) ?_
    refine va_get (D := G.1) (ci := 5) (v := .ref (r1 0)) (C := R_Mo) (T := T_Mo) (N := 13) hx hb hts i_Mo hown hK hP 1 rfl rfl 0 (by decide) (hts _ wf_Le_40) (fun _ h9 => h9) rfl d_Le_find_59 ?_
    refine va_get (D := G.1) (ci := 3) (v := .ref (q2 12)) (C := R_La) (T := T_La) (N := 15) hx hb hts i_La hown hK hP 9 rfl rfl 12 (by decide) (hts _ wf_Le_44) (fun _ h9 => h9) rfl d_Le_find_62 ?_
    refine lv_iload hx hb d_Le_find_65 (lv_at hl 4 rfl) ?_
    have g1 := h.1
    have h := h.2
    refine xa_iald hx hb hK hP 17 0 rfl rfl g1 (k := x4.toNatClampNeg) rfl d_Le_find_67 ?_
    refine lv_icmp_ge (tgt := 86) hx hb d_Le_find_68 (by decide) (fun c2 => ?_) (fun c2 => ?_)
    · have h := h.1 c2
      refine lv_iinc (v := (x3 + (1 : Int32))) (lv' := [(3, .int (x3 + (1 : Int32))), (0, .ref h0), (1, .ref h1), (2, .int x2), (4, .int x4), (5, .int x5)]) hx hb d_Le_find_86 hl (k := 3) rfl rfl (by decide) rfl (fun ls hl => ?_)
      refine lv_goto (tgt := 37) hx hb d_Le_find_89 (by decide) ?_
      have hl := lv_sub (l' := [(0, .ref h0), (1, .ref h1), (2, .int x2), (3, .int (x3 + (1 : Int32)))]) hl [1, 2, 3, 0] rfl
      have hP : va_P G.1 CL (cw_Le G h0 q0 o0 ++ (cw_Mo G h1 q1 r1 o1 ++ (cw_La G (r1 0) q2 o2))) H := hP
      have hD : va_D A (cw_Le G h0 q0 o0 ++ (cw_Mo G h1 q1 r1 o1 ++ (cw_La G (r1 0) q2 o2))) := hD
      exact hk37 x2 (x3 + (1 : Int32)) o0 ls H locs hl hP hD hS h
    · have h := h.2 c2
      refine lv_aload_n hx hb d_Le_find_71 rfl (lv_at hl 0 rfl) ?_
      refine lv_aload_n hx hb d_Le_find_72 rfl (lv_at hl 1 rfl) ?_
      refine lv_iload_n hx hb d_Le_find_73 rfl (lv_at hl 2 rfl) ?_
      refine lv_iload_n hx hb d_Le_find_74 rfl (lv_at hl 3 rfl) ?_
      refine lv_iload hx hb d_Le_find_75 (lv_at hl 5 rfl) ?_
      refine cl_Vv (b := b_Le_find) (As := [.ref h1, .int x2, .int x3, .int x5]) (rest := []) (ws := [(h0, .inr (4, [.int (gI o0 0), .int (gI o0 1), .int (gI o0 2), .int (gI o0 3), .int (gI o0 4), .int (gI o0 5), .int (gI o0 6), .int (gI o0 7)])), (h1, .inr (5, [.ref (r1 0), .int (gI o1 1), .int (gI o1 2), .ref (q1 3), .ref (q1 4), .ref (q1 5), .ref (q1 6), .ref (q1 7), .ref (q1 8), .ref (q1 9), .ref (q1 10), .int (gI o1 11), .int (gI o1 12)])), kI G (q1 3) 20 (gA o1 3), kI G (q1 4) 20 (gA o1 4), kI G (q1 5) 5 (gA o1 5), kJ G (q1 6) 5 (gB o1 6), kJ G (q1 7) 5 (gB o1 7), kJ G (q1 8) 6 (gB o1 8), kI G (q1 10) 5 (gA o1 10), ((r1 0), .inr (3, [.ref (q2 0), .int (gI o2 1), .int (gI o2 2), .int (gI o2 3), .int (gI o2 4), .int (gI o2 5), .ref (q2 6), .ref (q2 7), .ref (q2 8), .ref (q2 9), .ref (q2 10), .ref (q2 11), .ref (q2 12), .ref (q2 13), .ref (q2 14)])), kI G (q2 0) 5 (gA o2 0), kI G (q2 6) 20 (gA o2 6), kI G (q2 7) 20 (gA o2 7), kI G (q2 8) 20 (gA o2 8), kI G (q2 9) 20 (gA o2 9), kI G (q2 10) 20 (gA o2 10), kI G (q2 11) 20 (gA o2 11), kI G (q2 12) 8 (gA o2 12), kI G (q2 13) 64 (gA o2 13), kI G (q2 14) 64 (gA o2 14)]) (wr := []) (w2 := fun (u : Ob) => [(h0, .inr (4, [.int (gI u 0), .int (gI u 1), .int (gI u 2), .int (gI u 3), .int (gI u 4), .int (gI u 5), .int (gI u 6), .int (gI u 7)])), (h1, .inr (5, [.ref (r1 0), .int (gI o1 1), .int (gI o1 2), .ref (q1 3), .ref (q1 4), .ref (q1 5), .ref (q1 6), .ref (q1 7), .ref (q1 8), .ref (q1 9), .ref (q1 10), .int (gI o1 11), .int (gI o1 12)])), kI G (q1 3) 20 (gA o1 3), kI G (q1 4) 20 (gA o1 4), kI G (q1 5) 5 (gA o1 5), kJ G (q1 6) 5 (gB o1 6), kJ G (q1 7) 5 (gB o1 7), kJ G (q1 8) 6 (gB o1 8), kI G (q1 10) 5 (gA o1 10), ((r1 0), .inr (3, [.ref (q2 0), .int (gI o2 1), .int (gI o2 2), .int (gI o2 3), .int (gI o2 4), .int (gI o2 5), .ref (q2 6), .ref (q2 7), .ref (q2 8), .ref (q2 9), .ref (q2 10), .ref (q2 11), .ref (q2 12), .ref (q2 13), .ref (q2 14)])), kI G (q2 0) 5 (gA o2 0), kI G (q2 6) 20 (gA o2 6), kI G (q2 7) 20 (gA o2 7), kI G (q2 8) 20 (gA o2 8), kI G (q2 9) 20 (gA o2 9), kI G (q2 10) 20 (gA o2 10), kI G (q2 11) 20 (gA o2 11), kI G (q2 12) 8 (gA o2 12), kI G (q2 13) 64 (gA o2 13), kI G (q2 14) 64 (gA o2 14)]) C (c_Le_findInItem (h0 := h0) (q0 := q0) (h1 := h1) (q1 := q1) (q2 := q2) H.size h) wv_Le_49 ⟨Nat.le_of_ble_eq_true rfl, Nat.le_of_ble_eq_true rfl⟩ hP hD hS 0 rfl rfl [0, 1, 2, 3, 4, 5, 6, 7, 8, 9, 10, 11, 12, 13, 14, 15, 16, 17, 18, 19] [] rfl rfl (by decide) (by decide) (by decide) [0, 1, 2, 3, 4, 5, 6, 7, 8, 9, 10, 11, 12, 13, 14, 15, 16, 17, 18, 19] (by decide) (fun u => rfl) rfl hl.1 rfl (lv_room (Nat.le_of_ble_eq_true rfl)) d_Le_find_77 ⟨Nat.le_of_ble_eq_true rfl, Nat.le_of_ble_eq_true rfl⟩ rfl rfl (fun u H locs h hP hD hS => ?_)
      generalize u = u3 at h hP hD
      have hP : va_P G.1 CL [(h0, .inr (4, [.int (gI u3 0), .int (gI u3 1), .int (gI u3 2), .int (gI u3 3), .int (gI u3 4), .int (gI u3 5), .int (gI u3 6), .int (gI u3 7)])), (h1, .inr (5, [.ref (r1 0), .int (gI o1 1), .int (gI o1 2), .ref (q1 3), .ref (q1 4), .ref (q1 5), .ref (q1 6), .ref (q1 7), .ref (q1 8), .ref (q1 9), .ref (q1 10), .int (gI o1 11), .int (gI o1 12)])), kI G (q1 3) 20 (gA o1 3), kI G (q1 4) 20 (gA o1 4), kI G (q1 5) 5 (gA o1 5), kJ G (q1 6) 5 (gB o1 6), kJ G (q1 7) 5 (gB o1 7), kJ G (q1 8) 6 (gB o1 8), kI G (q1 10) 5 (gA o1 10), ((r1 0), .inr (3, [.ref (q2 0), .int (gI o2 1), .int (gI o2 2), .int (gI o2 3), .int (gI o2 4), .int (gI o2 5), .ref (q2 6), .ref (q2 7), .ref (q2 8), .ref (q2 9), .ref (q2 10), .ref (q2 11), .ref (q2 12), .ref (q2 13), .ref (q2 14)])), kI G (q2 0) 5 (gA o2 0), kI G (q2 6) 20 (gA o2 6), kI G (q2 7) 20 (gA o2 7), kI G (q2 8) 20 (gA o2 8), kI G (q2 9) 20 (gA o2 9), kI G (q2 10) 20 (gA o2 10), kI G (q2 11) 20 (gA o2 11), kI G (q2 12) 8 (gA o2 12), kI G (q2 13) 64 (gA o2 13), kI G (q2 14) 64 (gA o2 14)] H := hP
      have hD : va_D A [(h0, .inr (4, [.int (gI u3 0), .int (gI u3 1), .int (gI u3 2), .int (gI u3 3), .int (gI u3 4), .int (gI u3 5), .int (gI u3 6), .int (gI u3 7)])), (h1, .inr (5, [.ref (r1 0), .int (gI o1 1), .int (gI o1 2), .ref (q1 3), .ref (q1 4), .ref (q1 5), .ref (q1 6), .ref (q1 7), .ref (q1 8), .ref (q1 9), .ref (q1 10), .int (gI o1 11), .int (gI o1 12)])), kI G (q1 3) 20 (gA o1 3), kI G (q1 4) 20 (gA o1 4), kI G (q1 5) 5 (gA o1 5), kJ G (q1 6) 5 (gB o1 6), kJ G (q1 7) 5 (gB o1 7), kJ G (q1 8) 6 (gB o1 8), kI G (q1 10) 5 (gA o1 10), ((r1 0), .inr (3, [.ref (q2 0), .int (gI o2 1), .int (gI o2 2), .int (gI o2 3), .int (gI o2 4), .int (gI o2 5), .ref (q2 6), .ref (q2 7), .ref (q2 8), .ref (q2 9), .ref (q2 10), .ref (q2 11), .ref (q2 12), .ref (q2 13), .ref (q2 14)])), kI G (q2 0) 5 (gA o2 0), kI G (q2 6) 20 (gA o2 6), kI G (q2 7) 20 (gA o2 7), kI G (q2 8) 20 (gA o2 8), kI G (q2 9) 20 (gA o2 9), kI G (q2 10) 20 (gA o2 10), kI G (q2 11) 20 (gA o2 11), kI G (q2 12) 8 (gA o2 12), kI G (q2 13) 64 (gA o2 13), kI G (q2 14) 64 (gA o2 14)] := hD
      refine lv_iinc (v := (x5 + (1 : Int32))) (lv' := [(5, .int (x5 + (1 : Int32))), (0, .ref h0), (1, .ref h1), (2, .int x2), (3, .int x3), (4, .int x4)]) hx hb d_Le_find_80 hl (k := 5) rfl rfl (by decide) rfl (fun ls hl => ?_)
      refine lv_goto (tgt := 56) hx hb d_Le_find_83 (by decide) ?_
      have hl := lv_sub (l' := [(0, .ref h0), (1, .ref h1), (2, .int x2), (3, .int x3), (4, .int x4), (5, .int (x5 + (1 : Int32)))]) hl [1, 2, 3, 4, 5, 0] rfl
      have hP : va_P G.1 CL (cw_Le G h0 q0 u3 ++ (cw_Mo G h1 q1 r1 o1 ++ (cw_La G (r1 0) q2 o2))) H := hP
      have hD : va_D A (cw_Le G h0 q0 u3 ++ (cw_Mo G h1 q1 r1 o1 ++ (cw_La G (r1 0) q2 o2))) := hD
      exact ih x2 x3 x4 (x5 + (1 : Int32)) u3 ls H locs hl hP hD hS h
set_option maxHeartbeats 4000000 in
set_option maxRecDepth 100000 in
theorem t_Le_find_37 {p : Program} {l : Launch} {e : Env} {s : State} {m : MethodId} {args : Array Value} {below : List Frame} {meth : Method} {c : Code} {A : Nat → Prop} {G : Gl} {h0 : Nat} {h1 : Nat} {q0 : Nat → Nat} {q1 : Nat → Nat} {q2 : Nat → Nat} (r1 : (Nat → Nat)) (o1 : Ob) (o2 : Ob) (Q : Ob → Prop) (C : Cx p s m args meth c R_Le b_Le_find 6 none G A) :
    ∀ (n : Nat) (x2 : Int32) (x3 : Int32) (o0 : Ob) (ls : Array Slot) (H : Heap) (locs : List Loc), lv_has ls 6 [(0, .ref h0), (1, .ref h1), (2, .int x2), (3, .int x3)] → va_P G.1 CL (cw_Le G h0 q0 o0 ++ (cw_Mo G h1 q1 r1 o1 ++ (cw_La G (r1 0) q2 o2))) H → va_D A (cw_Le G h0 q0 o0 ++ (cw_Mo G h1 q1 r1 o1 ++ (cw_La G (r1 0) q2 o2))) → va_S A s.heap H locs → f_Le_find_37 r1 o1 o2 Q n x2 x3 o0 → W p l e rm_Le_find s m args below meth c H locs 0 0 (MQ below (va_Qv (fun (u : Ob) => Q u) (fun (u : Ob) t => BW G A (cw_Le G h0 q0 u ++ (cw_Mo G h1 q1 r1 o1 ++ (cw_La G (r1 0) q2 o2))) t) A) args s 0 0 A) (F0 m 37 ls []) := by
  obtain ⟨hx, hb, hml, hown, hr, hts, hK, hA, hlocks, hE⟩ := id C
  intro n
  induction n with
  | zero => intro x2 x3 o0 ls H locs hl hP hD hS h; exact absurd h id
  | succ n ih =>
    intro x2 x3 o0 ls H locs hl hP hD hS h
    have hP : va_P G.1 CL [(h0, .inr (4, [.int (gI o0 0), .int (gI o0 1), .int (gI o0 2), .int (gI o0 3), .int (gI o0 4), .int (gI o0 5), .int (gI o0 6), .int (gI o0 7)])), (h1, .inr (5, [.ref (r1 0), .int (gI o1 1), .int (gI o1 2), .ref (q1 3), .ref (q1 4), .ref (q1 5), .ref (q1 6), .ref (q1 7), .ref (q1 8), .ref (q1 9), .ref (q1 10), .int (gI o1 11), .int (gI o1 12)])), kI G (q1 3) 20 (gA o1 3), kI G (q1 4) 20 (gA o1 4), kI G (q1 5) 5 (gA o1 5), kJ G (q1 6) 5 (gB o1 6), kJ G (q1 7) 5 (gB o1 7), kJ G (q1 8) 6 (gB o1 8), kI G (q1 10) 5 (gA o1 10), ((r1 0), .inr (3, [.ref (q2 0), .int (gI o2 1), .int (gI o2 2), .int (gI o2 3), .int (gI o2 4), .int (gI o2 5), .ref (q2 6), .ref (q2 7), .ref (q2 8), .ref (q2 9), .ref (q2 10), .ref (q2 11), .ref (q2 12), .ref (q2 13), .ref (q2 14)])), kI G (q2 0) 5 (gA o2 0), kI G (q2 6) 20 (gA o2 6), kI G (q2 7) 20 (gA o2 7), kI G (q2 8) 20 (gA o2 8), kI G (q2 9) 20 (gA o2 9), kI G (q2 10) 20 (gA o2 10), kI G (q2 11) 20 (gA o2 11), kI G (q2 12) 8 (gA o2 12), kI G (q2 13) 64 (gA o2 13), kI G (q2 14) 64 (gA o2 14)] H := hP
    have hD : va_D A [(h0, .inr (4, [.int (gI o0 0), .int (gI o0 1), .int (gI o0 2), .int (gI o0 3), .int (gI o0 4), .int (gI o0 5), .int (gI o0 6), .int (gI o0 7)])), (h1, .inr (5, [.ref (r1 0), .int (gI o1 1), .int (gI o1 2), .ref (q1 3), .ref (q1 4), .ref (q1 5), .ref (q1 6), .ref (q1 7), .ref (q1 8), .ref (q1 9), .ref (q1 10), .int (gI o1 11), .int (gI o1 12)])), kI G (q1 3) 20 (gA o1 3), kI G (q1 4) 20 (gA o1 4), kI G (q1 5) 5 (gA o1 5), kJ G (q1 6) 5 (gB o1 6), kJ G (q1 7) 5 (gB o1 7), kJ G (q1 8) 6 (gB o1 8), kI G (q1 10) 5 (gA o1 10), ((r1 0), .inr (3, [.ref (q2 0), .int (gI o2 1), .int (gI o2 2), .int (gI o2 3), .int (gI o2 4), .int (gI o2 5), .ref (q2 6), .ref (q2 7), .ref (q2 8), .ref (q2 9), .ref (q2 10), .ref (q2 11), .ref (q2 12), .ref (q2 13), .ref (q2 14)])), kI G (q2 0) 5 (gA o2 0), kI G (q2 6) 20 (gA o2 6), kI G (q2 7) 20 (gA o2 7), kI G (q2 8) 20 (gA o2 8), kI G (q2 9) 20 (gA o2 9), kI G (q2 10) 20 (gA o2 10), kI G (q2 11) 20 (gA o2 11), kI G (q2 12) 8 (gA o2 12), kI G (q2 13) 64 (gA o2 13), kI G (q2 14) 64 (gA o2 14)] := hD
    unfold f_Le_find_37 at h
    refine lv_iload_n hx hb d_Le_find_37 rfl (lv_at hl 3 rfl) ?_
    refine lv_aload_n hx hb d_Le_find_38 rfl (lv_at hl 1 rfl) ?_
    refine va_get (D := G.1) (ci := 5) (v := .int (gI o1 2)) (C := R_Mo) (T := T_Mo) (N := 13) hx hb hts i_Mo hown hK hP 1 rfl rfl 2 (by decide) (hts _ wf_Le_33) (fun _ h9 => h9) rfl d_Le_find_39 ?_
    refine lv_icmp_ge (tgt := 92) hx hb d_Le_find_42 (by decide) (fun c4 => ?_) (fun c4 => ?_)
    · have h := h.1 c4
      refine lv_aload_n hx hb d_Le_find_92 rfl (lv_at hl 0 rfl) ?_
      refine lv_aload_n hx hb d_Le_find_93 rfl (lv_at hl 0 rfl) ?_
      refine va_get (D := G.1) (ci := 4) (v := .int (gI o0 7)) (C := R_Le) (T := T_Le) (N := 8) hx hb hts i_Le hown hK hP 0 rfl rfl 7 (by decide) (hts _ wf_Le_30) (fun _ h9 => h9) rfl d_Le_find_94 ?_
      refine lv_if_le (tgt := 112) hx hb d_Le_find_97 (by decide) (fun c5 => ?_) (fun c5 => ?_)
      · have h := h.1 c5
        refine lv_aload_n hx hb d_Le_find_112 rfl (lv_at hl 1 rfl) ?_
        refine va_get (D := G.1) (ci := 5) (v := .ref (r1 0)) (C := R_Mo) (T := T_Mo) (N := 13) hx hb hts i_Mo hown hK hP 1 rfl rfl 0 (by decide) (hts _ wf_Le_40) (fun _ h9 => h9) rfl d_Le_find_113 ?_
        refine va_get (D := G.1) (ci := 3) (v := .ref (q2 0)) (C := R_La) (T := T_La) (N := 15) hx hb hts i_La hown hK hP 9 rfl rfl 0 (by decide) (hts _ wf_Le_53) (fun _ h9 => h9) rfl d_Le_find_116 ?_
        refine lv_iload_n hx hb d_Le_find_119 rfl (lv_at hl 2 rfl) ?_
        have g6 := h.1
        have h := h.2
        refine xa_iald hx hb hK hP 10 0 rfl rfl g6 (k := x2.toNatClampNeg) rfl d_Le_find_120 ?_
        refine va_put (D := G.1) (ci := 4) (v := .int ((gA o2 0) x2.toNatClampNeg)) (ty := .int) (C := R_Le) (T := T_Le) (N := 8) hx hb hts i_Le ty_Le ty_Le_ok nm_Le hown hK hP hD hS 0 rfl rfl 0 (by decide) (hts _ wf_Le_56) (fun _ h9 => h9) rfl (ty_Le_ok 0 (by decide)) rfl rfl (Nat.le_of_ble_eq_true rfl) d_Le_find_121 (fun H locs hP hD hS => ?_)
        have hP : va_P G.1 CL [(h0, .inr (4, [.int ((gA o2 0) x2.toNatClampNeg), .int (gI o0 1), .int (gI o0 2), .int (gI o0 3), .int (gI o0 4), .int (gI o0 5), .int (gI o0 6), .int (gI o0 7)])), (h1, .inr (5, [.ref (r1 0), .int (gI o1 1), .int (gI o1 2), .ref (q1 3), .ref (q1 4), .ref (q1 5), .ref (q1 6), .ref (q1 7), .ref (q1 8), .ref (q1 9), .ref (q1 10), .int (gI o1 11), .int (gI o1 12)])), kI G (q1 3) 20 (gA o1 3), kI G (q1 4) 20 (gA o1 4), kI G (q1 5) 5 (gA o1 5), kJ G (q1 6) 5 (gB o1 6), kJ G (q1 7) 5 (gB o1 7), kJ G (q1 8) 6 (gB o1 8), kI G (q1 10) 5 (gA o1 10), ((r1 0), .inr (3, [.ref (q2 0), .int (gI o2 1), .int (gI o2 2), .int (gI o2 3), .int (gI o2 4), .int (gI o2 5), .ref (q2 6), .ref (q2 7), .ref (q2 8), .ref (q2 9), .ref (q2 10), .ref (q2 11), .ref (q2 12), .ref (q2 13), .ref (q2 14)])), kI G (q2 0) 5 (gA o2 0), kI G (q2 6) 20 (gA o2 6), kI G (q2 7) 20 (gA o2 7), kI G (q2 8) 20 (gA o2 8), kI G (q2 9) 20 (gA o2 9), kI G (q2 10) 20 (gA o2 10), kI G (q2 11) 20 (gA o2 11), kI G (q2 12) 8 (gA o2 12), kI G (q2 13) 64 (gA o2 13), kI G (q2 14) 64 (gA o2 14)] H := hP
        have hD : va_D A [(h0, .inr (4, [.int ((gA o2 0) x2.toNatClampNeg), .int (gI o0 1), .int (gI o0 2), .int (gI o0 3), .int (gI o0 4), .int (gI o0 5), .int (gI o0 6), .int (gI o0 7)])), (h1, .inr (5, [.ref (r1 0), .int (gI o1 1), .int (gI o1 2), .ref (q1 3), .ref (q1 4), .ref (q1 5), .ref (q1 6), .ref (q1 7), .ref (q1 8), .ref (q1 9), .ref (q1 10), .int (gI o1 11), .int (gI o1 12)])), kI G (q1 3) 20 (gA o1 3), kI G (q1 4) 20 (gA o1 4), kI G (q1 5) 5 (gA o1 5), kJ G (q1 6) 5 (gB o1 6), kJ G (q1 7) 5 (gB o1 7), kJ G (q1 8) 6 (gB o1 8), kI G (q1 10) 5 (gA o1 10), ((r1 0), .inr (3, [.ref (q2 0), .int (gI o2 1), .int (gI o2 2), .int (gI o2 3), .int (gI o2 4), .int (gI o2 5), .ref (q2 6), .ref (q2 7), .ref (q2 8), .ref (q2 9), .ref (q2 10), .ref (q2 11), .ref (q2 12), .ref (q2 13), .ref (q2 14)])), kI G (q2 0) 5 (gA o2 0), kI G (q2 6) 20 (gA o2 6), kI G (q2 7) 20 (gA o2 7), kI G (q2 8) 20 (gA o2 8), kI G (q2 9) 20 (gA o2 9), kI G (q2 10) 20 (gA o2 10), kI G (q2 11) 20 (gA o2 11), kI G (q2 12) 8 (gA o2 12), kI G (q2 13) 64 (gA o2 13), kI G (q2 14) 64 (gA o2 14)] := hD
        have hP : va_P G.1 CL (cw_Le G h0 q0 (sI o0 0 ((gA o2 0) x2.toNatClampNeg)) ++ (cw_Mo G h1 q1 r1 o1 ++ (cw_La G (r1 0) q2 o2))) H := hP
        have hD : va_D A (cw_Le G h0 q0 (sI o0 0 ((gA o2 0) x2.toNatClampNeg)) ++ (cw_Mo G h1 q1 r1 o1 ++ (cw_La G (r1 0) q2 o2))) := hD
        exact W.vret hx hb hr (fun t ht hW => ⟨⟨(sI o0 0 ((gA o2 0) x2.toNatClampNeg)), rfl, h, by rw [ht]; exact hP, va_K.moved hW.alike hK, hD⟩, hS.F ht⟩) hS.2.2 d_Le_find_124
      · have h := h.2 c5
        refine lv_aload_n hx hb d_Le_find_100 rfl (lv_at hl 0 rfl) ?_
        refine va_get (D := G.1) (ci := 4) (v := .int (gI o0 6)) (C := R_Le) (T := T_Le) (N := 8) hx hb hts i_Le hown hK hP 0 rfl rfl 6 (by decide) (hts _ wf_Le_27) (fun _ h9 => h9) rfl d_Le_find_101 ?_
        refine lv_aload_n hx hb d_Le_find_104 rfl (lv_at hl 0 rfl) ?_
        refine va_get (D := G.1) (ci := 4) (v := .int (gI o0 7)) (C := R_Le) (T := T_Le) (N := 8) hx hb hts i_Le hown hK hP 0 rfl rfl 7 (by decide) (hts _ wf_Le_30) (fun _ h9 => h9) rfl d_Le_find_105 ?_
        have g7 := h.1
        have h := h.2
        refine lv_idiv hx hb d_Le_find_108 g7 ?_
        refine lv_goto (tgt := 121) hx hb d_Le_find_109 (by decide) ?_
        refine va_put (D := G.1) (ci := 4) (v := .int ((gI o0 6) / (gI o0 7))) (ty := .int) (C := R_Le) (T := T_Le) (N := 8) hx hb hts i_Le ty_Le ty_Le_ok nm_Le hown hK hP hD hS 0 rfl rfl 0 (by decide) (hts _ wf_Le_56) (fun _ h9 => h9) rfl (ty_Le_ok 0 (by decide)) rfl rfl (Nat.le_of_ble_eq_true rfl) d_Le_find_121 (fun H locs hP hD hS => ?_)
        have hP : va_P G.1 CL [(h0, .inr (4, [.int ((gI o0 6) / (gI o0 7)), .int (gI o0 1), .int (gI o0 2), .int (gI o0 3), .int (gI o0 4), .int (gI o0 5), .int (gI o0 6), .int (gI o0 7)])), (h1, .inr (5, [.ref (r1 0), .int (gI o1 1), .int (gI o1 2), .ref (q1 3), .ref (q1 4), .ref (q1 5), .ref (q1 6), .ref (q1 7), .ref (q1 8), .ref (q1 9), .ref (q1 10), .int (gI o1 11), .int (gI o1 12)])), kI G (q1 3) 20 (gA o1 3), kI G (q1 4) 20 (gA o1 4), kI G (q1 5) 5 (gA o1 5), kJ G (q1 6) 5 (gB o1 6), kJ G (q1 7) 5 (gB o1 7), kJ G (q1 8) 6 (gB o1 8), kI G (q1 10) 5 (gA o1 10), ((r1 0), .inr (3, [.ref (q2 0), .int (gI o2 1), .int (gI o2 2), .int (gI o2 3), .int (gI o2 4), .int (gI o2 5), .ref (q2 6), .ref (q2 7), .ref (q2 8), .ref (q2 9), .ref (q2 10), .ref (q2 11), .ref (q2 12), .ref (q2 13), .ref (q2 14)])), kI G (q2 0) 5 (gA o2 0), kI G (q2 6) 20 (gA o2 6), kI G (q2 7) 20 (gA o2 7), kI G (q2 8) 20 (gA o2 8), kI G (q2 9) 20 (gA o2 9), kI G (q2 10) 20 (gA o2 10), kI G (q2 11) 20 (gA o2 11), kI G (q2 12) 8 (gA o2 12), kI G (q2 13) 64 (gA o2 13), kI G (q2 14) 64 (gA o2 14)] H := hP
        have hD : va_D A [(h0, .inr (4, [.int ((gI o0 6) / (gI o0 7)), .int (gI o0 1), .int (gI o0 2), .int (gI o0 3), .int (gI o0 4), .int (gI o0 5), .int (gI o0 6), .int (gI o0 7)])), (h1, .inr (5, [.ref (r1 0), .int (gI o1 1), .int (gI o1 2), .ref (q1 3), .ref (q1 4), .ref (q1 5), .ref (q1 6), .ref (q1 7), .ref (q1 8), .ref (q1 9), .ref (q1 10), .int (gI o1 11), .int (gI o1 12)])), kI G (q1 3) 20 (gA o1 3), kI G (q1 4) 20 (gA o1 4), kI G (q1 5) 5 (gA o1 5), kJ G (q1 6) 5 (gB o1 6), kJ G (q1 7) 5 (gB o1 7), kJ G (q1 8) 6 (gB o1 8), kI G (q1 10) 5 (gA o1 10), ((r1 0), .inr (3, [.ref (q2 0), .int (gI o2 1), .int (gI o2 2), .int (gI o2 3), .int (gI o2 4), .int (gI o2 5), .ref (q2 6), .ref (q2 7), .ref (q2 8), .ref (q2 9), .ref (q2 10), .ref (q2 11), .ref (q2 12), .ref (q2 13), .ref (q2 14)])), kI G (q2 0) 5 (gA o2 0), kI G (q2 6) 20 (gA o2 6), kI G (q2 7) 20 (gA o2 7), kI G (q2 8) 20 (gA o2 8), kI G (q2 9) 20 (gA o2 9), kI G (q2 10) 20 (gA o2 10), kI G (q2 11) 20 (gA o2 11), kI G (q2 12) 8 (gA o2 12), kI G (q2 13) 64 (gA o2 13), kI G (q2 14) 64 (gA o2 14)] := hD
        have hP : va_P G.1 CL (cw_Le G h0 q0 (sI o0 0 ((gI o0 6) / (gI o0 7))) ++ (cw_Mo G h1 q1 r1 o1 ++ (cw_La G (r1 0) q2 o2))) H := hP
        have hD : va_D A (cw_Le G h0 q0 (sI o0 0 ((gI o0 6) / (gI o0 7))) ++ (cw_Mo G h1 q1 r1 o1 ++ (cw_La G (r1 0) q2 o2))) := hD
        exact W.vret hx hb hr (fun t ht hW => ⟨⟨(sI o0 0 ((gI o0 6) / (gI o0 7))), rfl, h, by rw [ht]; exact hP, va_K.moved hW.alike hK, hD⟩, hS.F ht⟩) hS.2.2 d_Le_find_124
    · have h := h.2 c4
      refine lv_aload_n hx hb d_Le_find_45 rfl (lv_at hl 1 rfl) ?_
      refine va_get (D := G.1) (ci := 5) (v := .ref (q1 3)) (C := R_Mo) (T := T_Mo) (N := 13) hx hb hts i_Mo hown hK hP 1 rfl rfl 3 (by decide) (hts _ wf_Le_36) (fun _ h9 => h9) rfl d_Le_find_46 ?_
      refine lv_iload_n hx hb d_Le_find_49 rfl (lv_at hl 3 rfl) ?_
      have g8 := h.1
      have h := h.2
      refine xa_iald hx hb hK hP 2 0 rfl rfl g8 (k := x3.toNatClampNeg) rfl d_Le_find_50 ?_
      refine lv_istore (lv' := [(4, .int ((gA o1 3) x3.toNatClampNeg)), (0, .ref h0), (1, .ref h1), (2, .int x2), (3, .int x3)]) hx hb d_Le_find_51 hl (by decide) rfl (fun ls hl => ?_)
      refine lv_iconst (v := (0 : Int32)) hx hb d_Le_find_53 (by decide) ?_
      refine lv_istore (lv' := [(5, .int (0 : Int32)), (4, .int ((gA o1 3) x3.toNatClampNeg)), (0, .ref h0), (1, .ref h1), (2, .int x2), (3, .int x3)]) hx hb d_Le_find_54 hl (by decide) rfl (fun ls hl => ?_)
      have hl := lv_sub (l' := [(0, .ref h0), (1, .ref h1), (2, .int x2), (3, .int x3), (4, .int ((gA o1 3) x3.toNatClampNeg)), (5, .int (0 : Int32))]) hl [2, 3, 4, 5, 1, 0] rfl
      have hP : va_P G.1 CL (cw_Le G h0 q0 o0 ++ (cw_Mo G h1 q1 r1 o1 ++ (cw_La G (r1 0) q2 o2))) H := hP
      have hD : va_D A (cw_Le G h0 q0 o0 ++ (cw_Mo G h1 q1 r1 o1 ++ (cw_La G (r1 0) q2 o2))) := hD
      obtain ⟨w, h⟩ := h
      exact t_Le_find_56 r1 o1 o2 (f_Le_find_37 r1 o1 o2 Q n) Q C ih w x2 x3 ((gA o1 3) x3.toNatClampNeg) (0 : Int32) o0 ls _ locs hl hP hD hS h
set_option maxHeartbeats 4000000 in
set_option maxRecDepth 100000 in
theorem c_Le_find {l : Launch} {G : Gl} {h0 : Nat} {h1 : Nat} {q0 : Nat → Nat} {q1 : Nat → Nat} {q2 : Nat → Nat} {a1 : Int32} {o0 : Ob} {r1 : (Nat → Nat)} {o1 : Ob} {o2 : Ob} {Q : Ob → Prop} (sz : Nat) (h : f_Le_find a1 o0 r1 o1 o2 Q) : Met l y_Le_find w_Le_find rm_Le_find (PcW G [.ref h0, .ref h1, .int a1] sz (cw_Le G h0 q0 o0 ++ (cw_Mo G h1 q1 r1 o1 ++ (cw_La G (r1 0) q2 o2)))) (va_Qv (fun (u : Ob) => Q u) (fun (u : Ob) t => BW G (va_A (cw_Le G h0 q0 o0 ++ (cw_Mo G h1 q1 r1 o1 ++ (cw_La G (r1 0) q2 o2))) sz) (cw_Le G h0 q0 u ++ (cw_Mo G h1 q1 r1 o1 ++ (cw_La G (r1 0) q2 o2))) t) (va_A (cw_Le G h0 q0 o0 ++ (cw_Mo G h1 q1 r1 o1 ++ (cw_La G (r1 0) q2 o2))) sz)) 0 0 (va_A (cw_Le G h0 q0 o0 ++ (cw_Mo G h1 q1 r1 o1 ++ (cw_La G (r1 0) q2 o2))) sz) := by
  refine Met.ofW (cc := b_Le_find) (maxL := 6) (ret := none) (by decide +kernel) rfl ?_
  intro p e s m args below meth c s₁ B hml hv
  obtain ⟨rfl, hsz, hP, hK, hD0, hE⟩ := hv
  have hx := B.exec
  have hb := B.bytes
  have hr := B.returns
  have hts0 := atoms_spec (ws := w_Le_find) B.pre
  have hts : ∀ w ∈ gw_tbl, w.before ([.ref h0, .ref h1, .int a1]).toArray s = true := fun w hw => hts0 w (List.mem_cons_of_mem _ hw)
  have hown : s.vm.findClass R_Le = some m.cls := findClass_of_methodNamed B.named
  have hlocks := B.notSynchronized
  subst hsz
  have hD := hD0.self (sz := s.heap.size)
  generalize hAe : va_A (cw_Le G h0 q0 o0 ++ (cw_Mo G h1 q1 r1 o1 ++ (cw_La G (r1 0) q2 o2))) s.heap.size = A at hD hE ⊢
  have hA : ∀ q : Nat, s.heap.size ≤ q → A q := fun q h => by rw [← hAe]; exact Or.inr h
  have hS : va_S A s.heap s.heap [] := va_S.rf
  have C : Cx p s m ([.ref h0, .ref h1, .int a1]).toArray meth c R_Le b_Le_find 6 none G A := ⟨hx, hb, hml, hown, hr, hts, hK, hA, hlocks, hE⟩
  have hl := lv_entry ([.ref h0, .ref h1, .int a1]) (n := 6) (Nat.le_of_ble_eq_true rfl)
  rw [lg_entry_eq]
  generalize (lg_sl ([.ref h0, .ref h1, .int a1]) ++ List.replicate (6 - (lg_sl ([.ref h0, .ref h1, .int a1])).length) Slot.unset).toArray = ls at hl ⊢
  have hl : lv_has ls 6 [(0, .ref h0), (1, .ref h1), (2, .int a1)] := hl
  have hD : va_D A [(h0, .inr (4, [.int (gI o0 0), .int (gI o0 1), .int (gI o0 2), .int (gI o0 3), .int (gI o0 4), .int (gI o0 5), .int (gI o0 6), .int (gI o0 7)])), (h1, .inr (5, [.ref (r1 0), .int (gI o1 1), .int (gI o1 2), .ref (q1 3), .ref (q1 4), .ref (q1 5), .ref (q1 6), .ref (q1 7), .ref (q1 8), .ref (q1 9), .ref (q1 10), .int (gI o1 11), .int (gI o1 12)])), kI G (q1 3) 20 (gA o1 3), kI G (q1 4) 20 (gA o1 4), kI G (q1 5) 5 (gA o1 5), kJ G (q1 6) 5 (gB o1 6), kJ G (q1 7) 5 (gB o1 7), kJ G (q1 8) 6 (gB o1 8), kI G (q1 10) 5 (gA o1 10), ((r1 0), .inr (3, [.ref (q2 0), .int (gI o2 1), .int (gI o2 2), .int (gI o2 3), .int (gI o2 4), .int (gI o2 5), .ref (q2 6), .ref (q2 7), .ref (q2 8), .ref (q2 9), .ref (q2 10), .ref (q2 11), .ref (q2 12), .ref (q2 13), .ref (q2 14)])), kI G (q2 0) 5 (gA o2 0), kI G (q2 6) 20 (gA o2 6), kI G (q2 7) 20 (gA o2 7), kI G (q2 8) 20 (gA o2 8), kI G (q2 9) 20 (gA o2 9), kI G (q2 10) 20 (gA o2 10), kI G (q2 11) 20 (gA o2 11), kI G (q2 12) 8 (gA o2 12), kI G (q2 13) 64 (gA o2 13), kI G (q2 14) 64 (gA o2 14)] := hD
  unfold f_Le_find at h
  suffices key : ∀ (H : Heap) (locs : List Loc), va_P G.1 CL [(h0, .inr (4, [.int (gI o0 0), .int (gI o0 1), .int (gI o0 2), .int (gI o0 3), .int (gI o0 4), .int (gI o0 5), .int (gI o0 6), .int (gI o0 7)])), (h1, .inr (5, [.ref (r1 0), .int (gI o1 1), .int (gI o1 2), .ref (q1 3), .ref (q1 4), .ref (q1 5), .ref (q1 6), .ref (q1 7), .ref (q1 8), .ref (q1 9), .ref (q1 10), .int (gI o1 11), .int (gI o1 12)])), kI G (q1 3) 20 (gA o1 3), kI G (q1 4) 20 (gA o1 4), kI G (q1 5) 5 (gA o1 5), kJ G (q1 6) 5 (gB o1 6), kJ G (q1 7) 5 (gB o1 7), kJ G (q1 8) 6 (gB o1 8), kI G (q1 10) 5 (gA o1 10), ((r1 0), .inr (3, [.ref (q2 0), .int (gI o2 1), .int (gI o2 2), .int (gI o2 3), .int (gI o2 4), .int (gI o2 5), .ref (q2 6), .ref (q2 7), .ref (q2 8), .ref (q2 9), .ref (q2 10), .ref (q2 11), .ref (q2 12), .ref (q2 13), .ref (q2 14)])), kI G (q2 0) 5 (gA o2 0), kI G (q2 6) 20 (gA o2 6), kI G (q2 7) 20 (gA o2 7), kI G (q2 8) 20 (gA o2 8), kI G (q2 9) 20 (gA o2 9), kI G (q2 10) 20 (gA o2 10), kI G (q2 11) 20 (gA o2 11), kI G (q2 12) 8 (gA o2 12), kI G (q2 13) 64 (gA o2 13), kI G (q2 14) 64 (gA o2 14)] H → va_S A s.heap H locs → W p l e rm_Le_find s m ([.ref h0, .ref h1, .int a1]).toArray below meth c H locs 0 0 (MQ below (va_Qv (fun (u : Ob) => Q u) (fun (u : Ob) t => BW G A (cw_Le G h0 q0 u ++ (cw_Mo G h1 q1 r1 o1 ++ (cw_La G (r1 0) q2 o2))) t) A) ([.ref h0, .ref h1, .int a1]).toArray s 0 0 A) (F0 m 0 ls []) from key s.heap [] hP hS
  intro H locs hP hS
  refine lv_aload_n hx hb d_Le_find_0 rfl (lv_at hl 0 rfl) ?_
  refine lv_iconst (v := (-1 : Int32)) hx hb d_Le_find_1 (by decide) ?_
  refine va_put (D := G.1) (ci := 4) (v := .int (-1 : Int32)) (ty := .int) (C := R_Le) (T := T_Le) (N := 8) hx hb hts i_Le ty_Le ty_Le_ok nm_Le hown hK hP hD hS 0 rfl rfl 5 (by decide) (hts _ wf_Le_9) (fun _ h9 => h9) rfl (ty_Le_ok 5 (by decide)) rfl rfl (Nat.le_of_ble_eq_true rfl) d_Le_find_2 (fun H locs hP hD hS => ?_)
  have hP : va_P G.1 CL [(h0, .inr (4, [.int (gI o0 0), .int (gI o0 1), .int (gI o0 2), .int (gI o0 3), .int (gI o0 4), .int (-1 : Int32), .int (gI o0 6), .int (gI o0 7)])), (h1, .inr (5, [.ref (r1 0), .int (gI o1 1), .int (gI o1 2), .ref (q1 3), .ref (q1 4), .ref (q1 5), .ref (q1 6), .ref (q1 7), .ref (q1 8), .ref (q1 9), .ref (q1 10), .int (gI o1 11), .int (gI o1 12)])), kI G (q1 3) 20 (gA o1 3), kI G (q1 4) 20 (gA o1 4), kI G (q1 5) 5 (gA o1 5), kJ G (q1 6) 5 (gB o1 6), kJ G (q1 7) 5 (gB o1 7), kJ G (q1 8) 6 (gB o1 8), kI G (q1 10) 5 (gA o1 10), ((r1 0), .inr (3, [.ref (q2 0), .int (gI o2 1), .int (gI o2 2), .int (gI o2 3), .int (gI o2 4), .int (gI o2 5), .ref (q2 6), .ref (q2 7), .ref (q2 8), .ref (q2 9), .ref (q2 10), .ref (q2 11), .ref (q2 12), .ref (q2 13), .ref (q2 14)])), kI G (q2 0) 5 (gA o2 0), kI G (q2 6) 20 (gA o2 6), kI G (q2 7) 20 (gA o2 7), kI G (q2 8) 20 (gA o2 8), kI G (q2 9) 20 (gA o2 9), kI G (q2 10) 20 (gA o2 10), kI G (q2 11) 20 (gA o2 11), kI G (q2 12) 8 (gA o2 12), kI G (q2 13) 64 (gA o2 13), kI G (q2 14) 64 (gA o2 14)] H := hP
  have hD : va_D A [(h0, .inr (4, [.int (gI o0 0), .int (gI o0 1), .int (gI o0 2), .int (gI o0 3), .int (gI o0 4), .int (-1 : Int32), .int (gI o0 6), .int (gI o0 7)])), (h1, .inr (5, [.ref (r1 0), .int (gI o1 1), .int (gI o1 2), .ref (q1 3), .ref (q1 4), .ref (q1 5), .ref (q1 6), .ref (q1 7), .ref (q1 8), .ref (q1 9), .ref (q1 10), .int (gI o1 11), .int (gI o1 12)])), kI G (q1 3) 20 (gA o1 3), kI G (q1 4) 20 (gA o1 4), kI G (q1 5) 5 (gA o1 5), kJ G (q1 6) 5 (gB o1 6), kJ G (q1 7) 5 (gB o1 7), kJ G (q1 8) 6 (gB o1 8), kI G (q1 10) 5 (gA o1 10), ((r1 0), .inr (3, [.ref (q2 0), .int (gI o2 1), .int (gI o2 2), .int (gI o2 3), .int (gI o2 4), .int (gI o2 5), .ref (q2 6), .ref (q2 7), .ref (q2 8), .ref (q2 9), .ref (q2 10), .ref (q2 11), .ref (q2 12), .ref (q2 13), .ref (q2 14)])), kI G (q2 0) 5 (gA o2 0), kI G (q2 6) 20 (gA o2 6), kI G (q2 7) 20 (gA o2 7), kI G (q2 8) 20 (gA o2 8), kI G (q2 9) 20 (gA o2 9), kI G (q2 10) 20 (gA o2 10), kI G (q2 11) 20 (gA o2 11), kI G (q2 12) 8 (gA o2 12), kI G (q2 13) 64 (gA o2 13), kI G (q2 14) 64 (gA o2 14)] := hD
  refine lv_aload_n hx hb d_Le_find_5 rfl (lv_at hl 0 rfl) ?_
  refine lv_iconst (v := (1 : Int32)) hx hb d_Le_find_6 (by decide) ?_
  refine va_put (D := G.1) (ci := 4) (v := .int (1 : Int32)) (ty := .int) (C := R_Le) (T := T_Le) (N := 8) hx hb hts i_Le ty_Le ty_Le_ok nm_Le hown hK hP hD hS 0 rfl rfl 1 (by decide) (hts _ wf_Le_15) (fun _ h9 => h9) rfl (ty_Le_ok 1 (by decide)) rfl rfl (Nat.le_of_ble_eq_true rfl) d_Le_find_7 (fun H locs hP hD hS => ?_)
  have hP : va_P G.1 CL [(h0, .inr (4, [.int (gI o0 0), .int (1 : Int32), .int (gI o0 2), .int (gI o0 3), .int (gI o0 4), .int (-1 : Int32), .int (gI o0 6), .int (gI o0 7)])), (h1, .inr (5, [.ref (r1 0), .int (gI o1 1), .int (gI o1 2), .ref (q1 3), .ref (q1 4), .ref (q1 5), .ref (q1 6), .ref (q1 7), .ref (q1 8), .ref (q1 9), .ref (q1 10), .int (gI o1 11), .int (gI o1 12)])), kI G (q1 3) 20 (gA o1 3), kI G (q1 4) 20 (gA o1 4), kI G (q1 5) 5 (gA o1 5), kJ G (q1 6) 5 (gB o1 6), kJ G (q1 7) 5 (gB o1 7), kJ G (q1 8) 6 (gB o1 8), kI G (q1 10) 5 (gA o1 10), ((r1 0), .inr (3, [.ref (q2 0), .int (gI o2 1), .int (gI o2 2), .int (gI o2 3), .int (gI o2 4), .int (gI o2 5), .ref (q2 6), .ref (q2 7), .ref (q2 8), .ref (q2 9), .ref (q2 10), .ref (q2 11), .ref (q2 12), .ref (q2 13), .ref (q2 14)])), kI G (q2 0) 5 (gA o2 0), kI G (q2 6) 20 (gA o2 6), kI G (q2 7) 20 (gA o2 7), kI G (q2 8) 20 (gA o2 8), kI G (q2 9) 20 (gA o2 9), kI G (q2 10) 20 (gA o2 10), kI G (q2 11) 20 (gA o2 11), kI G (q2 12) 8 (gA o2 12), kI G (q2 13) 64 (gA o2 13), kI G (q2 14) 64 (gA o2 14)] H := hP
  have hD : va_D A [(h0, .inr (4, [.int (gI o0 0), .int (1 : Int32), .int (gI o0 2), .int (gI o0 3), .int (gI o0 4), .int (-1 : Int32), .int (gI o0 6), .int (gI o0 7)])), (h1, .inr (5, [.ref (r1 0), .int (gI o1 1), .int (gI o1 2), .ref (q1 3), .ref (q1 4), .ref (q1 5), .ref (q1 6), .ref (q1 7), .ref (q1 8), .ref (q1 9), .ref (q1 10), .int (gI o1 11), .int (gI o1 12)])), kI G (q1 3) 20 (gA o1 3), kI G (q1 4) 20 (gA o1 4), kI G (q1 5) 5 (gA o1 5), kJ G (q1 6) 5 (gB o1 6), kJ G (q1 7) 5 (gB o1 7), kJ G (q1 8) 6 (gB o1 8), kI G (q1 10) 5 (gA o1 10), ((r1 0), .inr (3, [.ref (q2 0), .int (gI o2 1), .int (gI o2 2), .int (gI o2 3), .int (gI o2 4), .int (gI o2 5), .ref (q2 6), .ref (q2 7), .ref (q2 8), .ref (q2 9), .ref (q2 10), .ref (q2 11), .ref (q2 12), .ref (q2 13), .ref (q2 14)])), kI G (q2 0) 5 (gA o2 0), kI G (q2 6) 20 (gA o2 6), kI G (q2 7) 20 (gA o2 7), kI G (q2 8) 20 (gA o2 8), kI G (q2 9) 20 (gA o2 9), kI G (q2 10) 20 (gA o2 10), kI G (q2 11) 20 (gA o2 11), kI G (q2 12) 8 (gA o2 12), kI G (q2 13) 64 (gA o2 13), kI G (q2 14) 64 (gA o2 14)] := hD
  refine lv_aload_n hx hb d_Le_find_10 rfl (lv_at hl 0 rfl) ?_
  refine lv_iconst (v := (-1 : Int32)) hx hb d_Le_find_11 (by decide) ?_
  refine va_put (D := G.1) (ci := 4) (v := .int (-1 : Int32)) (ty := .int) (C := R_Le) (T := T_Le) (N := 8) hx hb hts i_Le ty_Le ty_Le_ok nm_Le hown hK hP hD hS 0 rfl rfl 2 (by decide) (hts _ wf_Le_18) (fun _ h9 => h9) rfl (ty_Le_ok 2 (by decide)) rfl rfl (Nat.le_of_ble_eq_true rfl) d_Le_find_12 (fun H locs hP hD hS => ?_)
  have hP : va_P G.1 CL [(h0, .inr (4, [.int (gI o0 0), .int (1 : Int32), .int (-1 : Int32), .int (gI o0 3), .int (gI o0 4), .int (-1 : Int32), .int (gI o0 6), .int (gI o0 7)])), (h1, .inr (5, [.ref (r1 0), .int (gI o1 1), .int (gI o1 2), .ref (q1 3), .ref (q1 4), .ref (q1 5), .ref (q1 6), .ref (q1 7), .ref (q1 8), .ref (q1 9), .ref (q1 10), .int (gI o1 11), .int (gI o1 12)])), kI G (q1 3) 20 (gA o1 3), kI G (q1 4) 20 (gA o1 4), kI G (q1 5) 5 (gA o1 5), kJ G (q1 6) 5 (gB o1 6), kJ G (q1 7) 5 (gB o1 7), kJ G (q1 8) 6 (gB o1 8), kI G (q1 10) 5 (gA o1 10), ((r1 0), .inr (3, [.ref (q2 0), .int (gI o2 1), .int (gI o2 2), .int (gI o2 3), .int (gI o2 4), .int (gI o2 5), .ref (q2 6), .ref (q2 7), .ref (q2 8), .ref (q2 9), .ref (q2 10), .ref (q2 11), .ref (q2 12), .ref (q2 13), .ref (q2 14)])), kI G (q2 0) 5 (gA o2 0), kI G (q2 6) 20 (gA o2 6), kI G (q2 7) 20 (gA o2 7), kI G (q2 8) 20 (gA o2 8), kI G (q2 9) 20 (gA o2 9), kI G (q2 10) 20 (gA o2 10), kI G (q2 11) 20 (gA o2 11), kI G (q2 12) 8 (gA o2 12), kI G (q2 13) 64 (gA o2 13), kI G (q2 14) 64 (gA o2 14)] H := hP
  have hD : va_D A [(h0, .inr (4, [.int (gI o0 0), .int (1 : Int32), .int (-1 : Int32), .int (gI o0 3), .int (gI o0 4), .int (-1 : Int32), .int (gI o0 6), .int (gI o0 7)])), (h1, .inr (5, [.ref (r1 0), .int (gI o1 1), .int (gI o1 2), .ref (q1 3), .ref (q1 4), .ref (q1 5), .ref (q1 6), .ref (q1 7), .ref (q1 8), .ref (q1 9), .ref (q1 10), .int (gI o1 11), .int (gI o1 12)])), kI G (q1 3) 20 (gA o1 3), kI G (q1 4) 20 (gA o1 4), kI G (q1 5) 5 (gA o1 5), kJ G (q1 6) 5 (gB o1 6), kJ G (q1 7) 5 (gB o1 7), kJ G (q1 8) 6 (gB o1 8), kI G (q1 10) 5 (gA o1 10), ((r1 0), .inr (3, [.ref (q2 0), .int (gI o2 1), .int (gI o2 2), .int (gI o2 3), .int (gI o2 4), .int (gI o2 5), .ref (q2 6), .ref (q2 7), .ref (q2 8), .ref (q2 9), .ref (q2 10), .ref (q2 11), .ref (q2 12), .ref (q2 13), .ref (q2 14)])), kI G (q2 0) 5 (gA o2 0), kI G (q2 6) 20 (gA o2 6), kI G (q2 7) 20 (gA o2 7), kI G (q2 8) 20 (gA o2 8), kI G (q2 9) 20 (gA o2 9), kI G (q2 10) 20 (gA o2 10), kI G (q2 11) 20 (gA o2 11), kI G (q2 12) 8 (gA o2 12), kI G (q2 13) 64 (gA o2 13), kI G (q2 14) 64 (gA o2 14)] := hD
  refine lv_aload_n hx hb d_Le_find_15 rfl (lv_at hl 0 rfl) ?_
  refine lv_iconst (v := (-1 : Int32)) hx hb d_Le_find_16 (by decide) ?_
  refine va_put (D := G.1) (ci := 4) (v := .int (-1 : Int32)) (ty := .int) (C := R_Le) (T := T_Le) (N := 8) hx hb hts i_Le ty_Le ty_Le_ok nm_Le hown hK hP hD hS 0 rfl rfl 3 (by decide) (hts _ wf_Le_21) (fun _ h9 => h9) rfl (ty_Le_ok 3 (by decide)) rfl rfl (Nat.le_of_ble_eq_true rfl) d_Le_find_17 (fun H locs hP hD hS => ?_)
  have hP : va_P G.1 CL [(h0, .inr (4, [.int (gI o0 0), .int (1 : Int32), .int (-1 : Int32), .int (-1 : Int32), .int (gI o0 4), .int (-1 : Int32), .int (gI o0 6), .int (gI o0 7)])), (h1, .inr (5, [.ref (r1 0), .int (gI o1 1), .int (gI o1 2), .ref (q1 3), .ref (q1 4), .ref (q1 5), .ref (q1 6), .ref (q1 7), .ref (q1 8), .ref (q1 9), .ref (q1 10), .int (gI o1 11), .int (gI o1 12)])), kI G (q1 3) 20 (gA o1 3), kI G (q1 4) 20 (gA o1 4), kI G (q1 5) 5 (gA o1 5), kJ G (q1 6) 5 (gB o1 6), kJ G (q1 7) 5 (gB o1 7), kJ G (q1 8) 6 (gB o1 8), kI G (q1 10) 5 (gA o1 10), ((r1 0), .inr (3, [.ref (q2 0), .int (gI o2 1), .int (gI o2 2), .int (gI o2 3), .int (gI o2 4), .int (gI o2 5), .ref (q2 6), .ref (q2 7), .ref (q2 8), .ref (q2 9), .ref (q2 10), .ref (q2 11), .ref (q2 12), .ref (q2 13), .ref (q2 14)])), kI G (q2 0) 5 (gA o2 0), kI G (q2 6) 20 (gA o2 6), kI G (q2 7) 20 (gA o2 7), kI G (q2 8) 20 (gA o2 8), kI G (q2 9) 20 (gA o2 9), kI G (q2 10) 20 (gA o2 10), kI G (q2 11) 20 (gA o2 11), kI G (q2 12) 8 (gA o2 12), kI G (q2 13) 64 (gA o2 13), kI G (q2 14) 64 (gA o2 14)] H := hP
  have hD : va_D A [(h0, .inr (4, [.int (gI o0 0), .int (1 : Int32), .int (-1 : Int32), .int (-1 : Int32), .int (gI o0 4), .int (-1 : Int32), .int (gI o0 6), .int (gI o0 7)])), (h1, .inr (5, [.ref (r1 0), .int (gI o1 1), .int (gI o1 2), .ref (q1 3), .ref (q1 4), .ref (q1 5), .ref (q1 6), .ref (q1 7), .ref (q1 8), .ref (q1 9), .ref (q1 10), .int (gI o1 11), .int (gI o1 12)])), kI G (q1 3) 20 (gA o1 3), kI G (q1 4) 20 (gA o1 4), kI G (q1 5) 5 (gA o1 5), kJ G (q1 6) 5 (gB o1 6), kJ G (q1 7) 5 (gB o1 7), kJ G (q1 8) 6 (gB o1 8), kI G (q1 10) 5 (gA o1 10), ((r1 0), .inr (3, [.ref (q2 0), .int (gI o2 1), .int (gI o2 2), .int (gI o2 3), .int (gI o2 4), .int (gI o2 5), .ref (q2 6), .ref (q2 7), .ref (q2 8), .ref (q2 9), .ref (q2 10), .ref (q2 11), .ref (q2 12), .ref (q2 13), .ref (q2 14)])), kI G (q2 0) 5 (gA o2 0), kI G (q2 6) 20 (gA o2 6), kI G (q2 7) 20 (gA o2 7), kI G (q2 8) 20 (gA o2 8), kI G (q2 9) 20 (gA o2 9), kI G (q2 10) 20 (gA o2 10), kI G (q2 11) 20 (gA o2 11), kI G (q2 12) 8 (gA o2 12), kI G (q2 13) 64 (gA o2 13), kI G (q2 14) 64 (gA o2 14)] := hD
  refine lv_aload_n hx hb d_Le_find_20 rfl (lv_at hl 0 rfl) ?_
  refine lv_iconst (v := (-1 : Int32)) hx hb d_Le_find_21 (by decide) ?_
  refine va_put (D := G.1) (ci := 4) (v := .int (-1 : Int32)) (ty := .int) (C := R_Le) (T := T_Le) (N := 8) hx hb hts i_Le ty_Le ty_Le_ok nm_Le hown hK hP hD hS 0 rfl rfl 4 (by decide) (hts _ wf_Le_24) (fun _ h9 => h9) rfl (ty_Le_ok 4 (by decide)) rfl rfl (Nat.le_of_ble_eq_true rfl) d_Le_find_22 (fun H locs hP hD hS => ?_)
  have hP : va_P G.1 CL [(h0, .inr (4, [.int (gI o0 0), .int (1 : Int32), .int (-1 : Int32), .int (-1 : Int32), .int (-1 : Int32), .int (-1 : Int32), .int (gI o0 6), .int (gI o0 7)])), (h1, .inr (5, [.ref (r1 0), .int (gI o1 1), .int (gI o1 2), .ref (q1 3), .ref (q1 4), .ref (q1 5), .ref (q1 6), .ref (q1 7), .ref (q1 8), .ref (q1 9), .ref (q1 10), .int (gI o1 11), .int (gI o1 12)])), kI G (q1 3) 20 (gA o1 3), kI G (q1 4) 20 (gA o1 4), kI G (q1 5) 5 (gA o1 5), kJ G (q1 6) 5 (gB o1 6), kJ G (q1 7) 5 (gB o1 7), kJ G (q1 8) 6 (gB o1 8), kI G (q1 10) 5 (gA o1 10), ((r1 0), .inr (3, [.ref (q2 0), .int (gI o2 1), .int (gI o2 2), .int (gI o2 3), .int (gI o2 4), .int (gI o2 5), .ref (q2 6), .ref (q2 7), .ref (q2 8), .ref (q2 9), .ref (q2 10), .ref (q2 11), .ref (q2 12), .ref (q2 13), .ref (q2 14)])), kI G (q2 0) 5 (gA o2 0), kI G (q2 6) 20 (gA o2 6), kI G (q2 7) 20 (gA o2 7), kI G (q2 8) 20 (gA o2 8), kI G (q2 9) 20 (gA o2 9), kI G (q2 10) 20 (gA o2 10), kI G (q2 11) 20 (gA o2 11), kI G (q2 12) 8 (gA o2 12), kI G (q2 13) 64 (gA o2 13), kI G (q2 14) 64 (gA o2 14)] H := hP
  have hD : va_D A [(h0, .inr (4, [.int (gI o0 0), .int (1 : Int32), .int (-1 : Int32), .int (-1 : Int32), .int (-1 : Int32), .int (-1 : Int32), .int (gI o0 6), .int (gI o0 7)])), (h1, .inr (5, [.ref (r1 0), .int (gI o1 1), .int (gI o1 2), .ref (q1 3), .ref (q1 4), .ref (q1 5), .ref (q1 6), .ref (q1 7), .ref (q1 8), .ref (q1 9), .ref (q1 10), .int (gI o1 11), .int (gI o1 12)])), kI G (q1 3) 20 (gA o1 3), kI G (q1 4) 20 (gA o1 4), kI G (q1 5) 5 (gA o1 5), kJ G (q1 6) 5 (gB o1 6), kJ G (q1 7) 5 (gB o1 7), kJ G (q1 8) 6 (gB o1 8), kI G (q1 10) 5 (gA o1 10), ((r1 0), .inr (3, [.ref (q2 0), .int (gI o2 1), .int (gI o2 2), .int (gI o2 3), .int (gI o2 4), .int (gI o2 5), .ref (q2 6), .ref (q2 7), .ref (q2 8), .ref (q2 9), .ref (q2 10), .ref (q2 11), .ref (q2 12), .ref (q2 13), .ref (q2 14)])), kI G (q2 0) 5 (gA o2 0), kI G (q2 6) 20 (gA o2 6), kI G (q2 7) 20 (gA o2 7), kI G (q2 8) 20 (gA o2 8), kI G (q2 9) 20 (gA o2 9), kI G (q2 10) 20 (gA o2 10), kI G (q2 11) 20 (gA o2 11), kI G (q2 12) 8 (gA o2 12), kI G (q2 13) 64 (gA o2 13), kI G (q2 14) 64 (gA o2 14)] := hD
  refine lv_aload_n hx hb d_Le_find_25 rfl (lv_at hl 0 rfl) ?_
  refine lv_iconst (v := (0 : Int32)) hx hb d_Le_find_26 (by decide) ?_
  refine va_put (D := G.1) (ci := 4) (v := .int (0 : Int32)) (ty := .int) (C := R_Le) (T := T_Le) (N := 8) hx hb hts i_Le ty_Le ty_Le_ok nm_Le hown hK hP hD hS 0 rfl rfl 6 (by decide) (hts _ wf_Le_27) (fun _ h9 => h9) rfl (ty_Le_ok 6 (by decide)) rfl rfl (Nat.le_of_ble_eq_true rfl) d_Le_find_27 (fun H locs hP hD hS => ?_)
  have hP : va_P G.1 CL [(h0, .inr (4, [.int (gI o0 0), .int (1 : Int32), .int (-1 : Int32), .int (-1 : Int32), .int (-1 : Int32), .int (-1 : Int32), .int (0 : Int32), .int (gI o0 7)])), (h1, .inr (5, [.ref (r1 0), .int (gI o1 1), .int (gI o1 2), .ref (q1 3), .ref (q1 4), .ref (q1 5), .ref (q1 6), .ref (q1 7), .ref (q1 8), .ref (q1 9), .ref (q1 10), .int (gI o1 11), .int (gI o1 12)])), kI G (q1 3) 20 (gA o1 3), kI G (q1 4) 20 (gA o1 4), kI G (q1 5) 5 (gA o1 5), kJ G (q1 6) 5 (gB o1 6), kJ G (q1 7) 5 (gB o1 7), kJ G (q1 8) 6 (gB o1 8), kI G (q1 10) 5 (gA o1 10), ((r1 0), .inr (3, [.ref (q2 0), .int (gI o2 1), .int (gI o2 2), .int (gI o2 3), .int (gI o2 4), .int (gI o2 5), .ref (q2 6), .ref (q2 7), .ref (q2 8), .ref (q2 9), .ref (q2 10), .ref (q2 11), .ref (q2 12), .ref (q2 13), .ref (q2 14)])), kI G (q2 0) 5 (gA o2 0), kI G (q2 6) 20 (gA o2 6), kI G (q2 7) 20 (gA o2 7), kI G (q2 8) 20 (gA o2 8), kI G (q2 9) 20 (gA o2 9), kI G (q2 10) 20 (gA o2 10), kI G (q2 11) 20 (gA o2 11), kI G (q2 12) 8 (gA o2 12), kI G (q2 13) 64 (gA o2 13), kI G (q2 14) 64 (gA o2 14)] H := hP
  have hD : va_D A [(h0, .inr (4, [.int (gI o0 0), .int (1 : Int32), .int (-1 : Int32), .int (-1 : Int32), .int (-1 : Int32), .int (-1 : Int32), .int (0 : Int32), .int (gI o0 7)])), (h1, .inr (5, [.ref (r1 0), .int (gI o1 1), .int (gI o1 2), .ref (q1 3), .ref (q1 4), .ref (q1 5), .ref (q1 6), .ref (q1 7), .ref (q1 8), .ref (q1 9), .ref (q1 10), .int (gI o1 11), .int (gI o1 12)])), kI G (q1 3) 20 (gA o1 3), kI G (q1 4) 20 (gA o1 4), kI G (q1 5) 5 (gA o1 5), kJ G (q1 6) 5 (gB o1 6), kJ G (q1 7) 5 (gB o1 7), kJ G (q1 8) 6 (gB o1 8), kI G (q1 10) 5 (gA o1 10), ((r1 0), .inr (3, [.ref (q2 0), .int (gI o2 1), .int (gI o2 2), .int (gI o2 3), .int (gI o2 4), .int (gI o2 5), .ref (q2 6), .ref (q2 7), .ref (q2 8), .ref (q2 9), .ref (q2 10), .ref (q2 11), .ref (q2 12), .ref (q2 13), .ref (q2 14)])), kI G (q2 0) 5 (gA o2 0), kI G (q2 6) 20 (gA o2 6), kI G (q2 7) 20 (gA o2 7), kI G (q2 8) 20 (gA o2 8), kI G (q2 9) 20 (gA o2 9), kI G (q2 10) 20 (gA o2 10), kI G (q2 11) 20 (gA o2 11), kI G (q2 12) 8 (gA o2 12), kI G (q2 13) 64 (gA o2 13), kI G (q2 14) 64 (gA o2 14)] := hD
  refine lv_aload_n hx hb d_Le_find_30 rfl (lv_at hl 0 rfl) ?_
  refine lv_iconst (v := (0 : Int32)) hx hb d_Le_find_31 (by decide) ?_
  refine va_put (D := G.1) (ci := 4) (v := .int (0 : Int32)) (ty := .int) (C := R_Le) (T := T_Le) (N := 8) hx hb hts i_Le ty_Le ty_Le_ok nm_Le hown hK hP hD hS 0 rfl rfl 7 (by decide) (hts _ wf_Le_30) (fun _ h9 => h9) rfl (ty_Le_ok 7 (by decide)) rfl rfl (Nat.le_of_ble_eq_true rfl) d_Le_find_32 (fun H locs hP hD hS => ?_)
  have hP : va_P G.1 CL [(h0, .inr (4, [.int (gI o0 0), .int (1 : Int32), .int (-1 : Int32), .int (-1 : Int32), .int (-1 : Int32), .int (-1 : Int32), .int (0 : Int32), .int (0 : Int32)])), (h1, .inr (5, [.ref (r1 0), .int (gI o1 1), .int (gI o1 2), .ref (q1 3), .ref (q1 4), .ref (q1 5), .ref (q1 6), .ref (q1 7), .ref (q1 8), .ref (q1 9), .ref (q1 10), .int (gI o1 11), .int (gI o1 12)])), kI G (q1 3) 20 (gA o1 3), kI G (q1 4) 20 (gA o1 4), kI G (q1 5) 5 (gA o1 5), kJ G (q1 6) 5 (gB o1 6), kJ G (q1 7) 5 (gB o1 7), kJ G (q1 8) 6 (gB o1 8), kI G (q1 10) 5 (gA o1 10), ((r1 0), .inr (3, [.ref (q2 0), .int (gI o2 1), .int (gI o2 2), .int (gI o2 3), .int (gI o2 4), .int (gI o2 5), .ref (q2 6), .ref (q2 7), .ref (q2 8), .ref (q2 9), .ref (q2 10), .ref (q2 11), .ref (q2 12), .ref (q2 13), .ref (q2 14)])), kI G (q2 0) 5 (gA o2 0), kI G (q2 6) 20 (gA o2 6), kI G (q2 7) 20 (gA o2 7), kI G (q2 8) 20 (gA o2 8), kI G (q2 9) 20 (gA o2 9), kI G (q2 10) 20 (gA o2 10), kI G (q2 11) 20 (gA o2 11), kI G (q2 12) 8 (gA o2 12), kI G (q2 13) 64 (gA o2 13), kI G (q2 14) 64 (gA o2 14)] H := hP
  have hD : va_D A [(h0, .inr (4, [.int (gI o0 0), .int (1 : Int32), .int (-1 : Int32), .int (-1 : Int32), .int (-1 : Int32), .int (-1 : Int32), .int (0 : Int32), .int (0 : Int32)])), (h1, .inr (5, [.ref (r1 0), .int (gI o1 1), .int (gI o1 2), .ref (q1 3), .ref (q1 4), .ref (q1 5), .ref (q1 6), .ref (q1 7), .ref (q1 8), .ref (q1 9), .ref (q1 10), .int (gI o1 11), .int (gI o1 12)])), kI G (q1 3) 20 (gA o1 3), kI G (q1 4) 20 (gA o1 4), kI G (q1 5) 5 (gA o1 5), kJ G (q1 6) 5 (gB o1 6), kJ G (q1 7) 5 (gB o1 7), kJ G (q1 8) 6 (gB o1 8), kI G (q1 10) 5 (gA o1 10), ((r1 0), .inr (3, [.ref (q2 0), .int (gI o2 1), .int (gI o2 2), .int (gI o2 3), .int (gI o2 4), .int (gI o2 5), .ref (q2 6), .ref (q2 7), .ref (q2 8), .ref (q2 9), .ref (q2 10), .ref (q2 11), .ref (q2 12), .ref (q2 13), .ref (q2 14)])), kI G (q2 0) 5 (gA o2 0), kI G (q2 6) 20 (gA o2 6), kI G (q2 7) 20 (gA o2 7), kI G (q2 8) 20 (gA o2 8), kI G (q2 9) 20 (gA o2 9), kI G (q2 10) 20 (gA o2 10), kI G (q2 11) 20 (gA o2 11), kI G (q2 12) 8 (gA o2 12), kI G (q2 13) 64 (gA o2 13), kI G (q2 14) 64 (gA o2 14)] := hD
  refine lv_iconst (v := (0 : Int32)) hx hb d_Le_find_35 (by decide) ?_
  refine lv_istore_n (lv' := [(3, .int (0 : Int32)), (0, .ref h0), (1, .ref h1), (2, .int a1)]) hx hb d_Le_find_36 rfl hl (by decide) rfl (fun ls hl => ?_)
  have hl := lv_sub (l' := [(0, .ref h0), (1, .ref h1), (2, .int a1), (3, .int (0 : Int32))]) hl [1, 2, 3, 0] rfl
  have hP : va_P G.1 CL (cw_Le G h0 q0 (sI (sI (sI (sI (sI (sI (sI o0 1 (1 : Int32)) 2 (-1 : Int32)) 3 (-1 : Int32)) 4 (-1 : Int32)) 5 (-1 : Int32)) 6 (0 : Int32)) 7 (0 : Int32)) ++ (cw_Mo G h1 q1 r1 o1 ++ (cw_La G (r1 0) q2 o2))) H := hP
  have hD : va_D A (cw_Le G h0 q0 (sI (sI (sI (sI (sI (sI (sI o0 1 (1 : Int32)) 2 (-1 : Int32)) 3 (-1 : Int32)) 4 (-1 : Int32)) 5 (-1 : Int32)) 6 (0 : Int32)) 7 (0 : Int32)) ++ (cw_Mo G h1 q1 r1 o1 ++ (cw_La G (r1 0) q2 o2))) := hD
  obtain ⟨w, h⟩ := h
  exact t_Le_find_37 r1 o1 o2 Q C w a1 (0 : Int32) (sI (sI (sI (sI (sI (sI (sI o0 1 (1 : Int32)) 2 (-1 : Int32)) 3 (-1 : Int32)) 4 (-1 : Int32)) 5 (-1 : Int32)) 6 (0 : Int32)) 7 (0 : Int32)) ls _ locs hl hP hD hS h
abbrev b_Le_packed : ByteArray := prog_5_method_4_code
def y_Le_packed : MethodName := ⟨R_Le, "packed", "(I)I"⟩
abbrev w_Le_packed : List Cond := Cond.code y_Le_packed b_Le_packed 3 (some .int) :: gw_tbl
theorem d_Le_packed_0 : decode b_Le_packed 0 = .ok (.aload_n 0, 1) := by decide +kernel
theorem d_Le_packed_1 : decode b_Le_packed 1 = .ok (.getfield 24, 3) := by decide +kernel
theorem d_Le_packed_4 : decode b_Le_packed 4 = .ok (.iconst 1, 1) := by decide +kernel
theorem d_Le_packed_5 : decode b_Le_packed 5 = .ok (.iadd, 1) := by decide +kernel
theorem d_Le_packed_6 : decode b_Le_packed 6 = .ok (.istore_n 2, 1) := by decide +kernel
theorem d_Le_packed_7 : decode b_Le_packed 7 = .ok (.iload_n 2, 1) := by decide +kernel
theorem d_Le_packed_8 : decode b_Le_packed 8 = .ok (.bipush 6, 2) := by decide +kernel
theorem d_Le_packed_10 : decode b_Le_packed 10 = .ok (.ishl, 1) := by decide +kernel
theorem d_Le_packed_11 : decode b_Le_packed 11 = .ok (.aload_n 0, 1) := by decide +kernel
theorem d_Le_packed_12 : decode b_Le_packed 12 = .ok (.getfield 21, 3) := by decide +kernel
theorem d_Le_packed_15 : decode b_Le_packed 15 = .ok (.iadd, 1) := by decide +kernel
theorem d_Le_packed_16 : decode b_Le_packed 16 = .ok (.iconst 1, 1) := by decide +kernel
theorem d_Le_packed_17 : decode b_Le_packed 17 = .ok (.iadd, 1) := by decide +kernel
theorem d_Le_packed_18 : decode b_Le_packed 18 = .ok (.istore_n 2, 1) := by decide +kernel
theorem d_Le_packed_19 : decode b_Le_packed 19 = .ok (.iload_n 2, 1) := by decide +kernel
theorem d_Le_packed_20 : decode b_Le_packed 20 = .ok (.bipush 6, 2) := by decide +kernel
theorem d_Le_packed_22 : decode b_Le_packed 22 = .ok (.ishl, 1) := by decide +kernel
theorem d_Le_packed_23 : decode b_Le_packed 23 = .ok (.aload_n 0, 1) := by decide +kernel
theorem d_Le_packed_24 : decode b_Le_packed 24 = .ok (.getfield 18, 3) := by decide +kernel
theorem d_Le_packed_27 : decode b_Le_packed 27 = .ok (.iadd, 1) := by decide +kernel
theorem d_Le_packed_28 : decode b_Le_packed 28 = .ok (.iconst 1, 1) := by decide +kernel
theorem d_Le_packed_29 : decode b_Le_packed 29 = .ok (.iadd, 1) := by decide +kernel
theorem d_Le_packed_30 : decode b_Le_packed 30 = .ok (.istore_n 2, 1) := by decide +kernel
theorem d_Le_packed_31 : decode b_Le_packed 31 = .ok (.iload_n 2, 1) := by decide +kernel
theorem d_Le_packed_32 : decode b_Le_packed 32 = .ok (.bipush 6, 2) := by decide +kernel
theorem d_Le_packed_34 : decode b_Le_packed 34 = .ok (.ishl, 1) := by decide +kernel
theorem d_Le_packed_35 : decode b_Le_packed 35 = .ok (.aload_n 0, 1) := by decide +kernel
theorem d_Le_packed_36 : decode b_Le_packed 36 = .ok (.getfield 56, 3) := by decide +kernel
theorem d_Le_packed_39 : decode b_Le_packed 39 = .ok (.iadd, 1) := by decide +kernel
theorem d_Le_packed_40 : decode b_Le_packed 40 = .ok (.iconst 1, 1) := by decide +kernel
theorem d_Le_packed_41 : decode b_Le_packed 41 = .ok (.iadd, 1) := by decide +kernel
theorem d_Le_packed_42 : decode b_Le_packed 42 = .ok (.istore_n 2, 1) := by decide +kernel
theorem d_Le_packed_43 : decode b_Le_packed 43 = .ok (.iload_n 2, 1) := by decide +kernel
theorem d_Le_packed_44 : decode b_Le_packed 44 = .ok (.bipush 6, 2) := by decide +kernel
theorem d_Le_packed_46 : decode b_Le_packed 46 = .ok (.ishl, 1) := by decide +kernel
theorem d_Le_packed_47 : decode b_Le_packed 47 = .ok (.iload_n 1, 1) := by decide +kernel
theorem d_Le_packed_48 : decode b_Le_packed 48 = .ok (.iadd, 1) := by decide +kernel
theorem d_Le_packed_49 : decode b_Le_packed 49 = .ok (.iconst 1, 1) := by decide +kernel
theorem d_Le_packed_50 : decode b_Le_packed 50 = .ok (.iadd, 1) := by decide +kernel
theorem d_Le_packed_51 : decode b_Le_packed 51 = .ok (.ireturn, 1) := by decide +kernel
def f_Le_packed (a0 : Int32) (o0 : Ob) (Q : Int32 → Prop) : Prop := ∀ y1 : Int32, y1 = (((gI o0 4) + (1 : Int32)) <<< ((6 : Int32) &&& 31)) → (∀ y2 : Int32, y2 = (((y1 + (gI o0 3)) + (1 : Int32)) <<< ((6 : Int32) &&& 31)) → (∀ y3 : Int32, y3 = (((y2 + (gI o0 2)) + (1 : Int32)) <<< ((6 : Int32) &&& 31)) → (∀ y4 : Int32, y4 = (((y3 + (gI o0 0)) + (1 : Int32)) <<< ((6 : Int32) &&& 31)) → (Q ((y4 + a0) + (1 : Int32))))))
abbrev rm_Le_packed : Room := { frames := 0, cells := 0, slots := 0, locals := 0 }
set_option maxHeartbeats 4000000 in
set_option maxRecDepth 100000 in
theorem c_Le_packed {l : Launch} {G : Gl} {h0 : Nat} {q0 : Nat → Nat} {a0 : Int32} {o0 : Ob} {Q : Int32 → Prop} (sz : Nat) (h : f_Le_packed a0 o0 Q) : Met l y_Le_packed w_Le_packed rm_Le_packed (PcW G [.ref h0, .int a0] sz (cw_Le G h0 q0 o0)) (va_Qi (fun (r : Int32) (u : Unit) => Q r) (fun (u : Unit) t => BW G (va_A (cw_Le G h0 q0 o0) sz) (cw_Le G h0 q0 o0) t) (va_A (cw_Le G h0 q0 o0) sz)) 0 0 (va_A (cw_Le G h0 q0 o0) sz) := by
  refine Met.ofW (cc := b_Le_packed) (maxL := 3) (ret := (some .int)) (by decide +kernel) rfl ?_
  intro p e s m args below meth c s₁ B hml hv
  obtain ⟨rfl, hsz, hP, hK, hD0, hE⟩ := hv
  have hx := B.exec
  have hb := B.bytes
  have hr := B.returns
  have hts0 := atoms_spec (ws := w_Le_packed) B.pre
  have hts : ∀ w ∈ gw_tbl, w.before ([.ref h0, .int a0]).toArray s = true := fun w hw => hts0 w (List.mem_cons_of_mem _ hw)
  have hown : s.vm.findClass R_Le = some m.cls := findClass_of_methodNamed B.named
  have hlocks := B.notSynchronized
  subst hsz
  have hD := hD0.self (sz := s.heap.size)
  generalize hAe : va_A (cw_Le G h0 q0 o0) s.heap.size = A at hD hE ⊢
  have hA : ∀ q : Nat, s.heap.size ≤ q → A q := fun q h => by rw [← hAe]; exact Or.inr h
  have hS : va_S A s.heap s.heap [] := va_S.rf
  have C : Cx p s m ([.ref h0, .int a0]).toArray meth c R_Le b_Le_packed 3 (some .int) G A := ⟨hx, hb, hml, hown, hr, hts, hK, hA, hlocks, hE⟩
  have hl := lv_entry ([.ref h0, .int a0]) (n := 3) (Nat.le_of_ble_eq_true rfl)
  rw [lg_entry_eq]
  generalize (lg_sl ([.ref h0, .int a0]) ++ List.replicate (3 - (lg_sl ([.ref h0, .int a0])).length) Slot.unset).toArray = ls at hl ⊢
  have hl : lv_has ls 3 [(0, .ref h0), (1, .int a0)] := hl
  have hD : va_D A [(h0, .inr (4, [.int (gI o0 0), .int (gI o0 1), .int (gI o0 2), .int (gI o0 3), .int (gI o0 4), .int (gI o0 5), .int (gI o0 6), .int (gI o0 7)]))] := hD
  unfold f_Le_packed at h
  suffices key : ∀ (H : Heap) (locs : List Loc), va_P G.1 CL [(h0, .inr (4, [.int (gI o0 0), .int (gI o0 1), .int (gI o0 2), .int (gI o0 3), .int (gI o0 4), .int (gI o0 5), .int (gI o0 6), .int (gI o0 7)]))] H → va_S A s.heap H locs → W p l e rm_Le_packed s m ([.ref h0, .int a0]).toArray below meth c H locs 0 0 (MQ below (va_Qi (fun (r : Int32) (u : Unit) => Q r) (fun (u : Unit) t => BW G A (cw_Le G h0 q0 o0) t) A) ([.ref h0, .int a0]).toArray s 0 0 A) (F0 m 0 ls []) from key s.heap [] hP hS
  intro H locs hP hS
  refine lv_aload_n hx hb d_Le_packed_0 rfl (lv_at hl 0 rfl) ?_
  refine va_get (D := G.1) (ci := 4) (v := .int (gI o0 4)) (C := R_Le) (T := T_Le) (N := 8) hx hb hts i_Le hown hK hP 0 rfl rfl 4 (by decide) (hts _ wf_Le_24) (fun _ h9 => h9) rfl d_Le_packed_1 ?_
  refine lv_iconst (v := (1 : Int32)) hx hb d_Le_packed_4 (by decide) ?_
  refine lv_iadd hx hb d_Le_packed_5 ?_
  refine lv_istore_n (lv' := [(2, .int ((gI o0 4) + (1 : Int32))), (0, .ref h0), (1, .int a0)]) hx hb d_Le_packed_6 rfl hl (by decide) rfl (fun ls hl => ?_)
  refine lv_iload_n hx hb d_Le_packed_7 rfl (lv_at hl 0 rfl) ?_
  refine lv_bipush (v := (6 : Int32)) hx hb d_Le_packed_8 (by decide) ?_
  refine lv_ishl hx hb d_Le_packed_10 ?_
  refine lv_topi (fun y1 ey1 => ?_)
  have h := h y1 ey1
  refine lv_aload_n hx hb d_Le_packed_11 rfl (lv_at hl 1 rfl) ?_
  refine va_get (D := G.1) (ci := 4) (v := .int (gI o0 3)) (C := R_Le) (T := T_Le) (N := 8) hx hb hts i_Le hown hK hP 0 rfl rfl 3 (by decide) (hts _ wf_Le_21) (fun _ h9 => h9) rfl d_Le_packed_12 ?_
  refine lv_iadd hx hb d_Le_packed_15 ?_
  refine lv_iconst (v := (1 : Int32)) hx hb d_Le_packed_16 (by decide) ?_
  refine lv_iadd hx hb d_Le_packed_17 ?_
  refine lv_istore_n (lv' := [(2, .int ((y1 + (gI o0 3)) + (1 : Int32))), (0, .ref h0), (1, .int a0)]) hx hb d_Le_packed_18 rfl hl (by decide) rfl (fun ls hl => ?_)
  refine lv_iload_n hx hb d_Le_packed_19 rfl (lv_at hl 0 rfl) ?_
  refine lv_bipush (v := (6 : Int32)) hx hb d_Le_packed_20 (by decide) ?_
  refine lv_ishl hx hb d_Le_packed_22 ?_
  refine lv_topi (fun y2 ey2 => ?_)
  have h := h y2 ey2
  refine lv_aload_n hx hb d_Le_packed_23 rfl (lv_at hl 1 rfl) ?_
  refine va_get (D := G.1) (ci := 4) (v := .int (gI o0 2)) (C := R_Le) (T := T_Le) (N := 8) hx hb hts i_Le hown hK hP 0 rfl rfl 2 (by decide) (hts _ wf_Le_18) (fun _ h9 => h9) rfl d_Le_packed_24 ?_
  refine lv_iadd hx hb d_Le_packed_27 ?_
  refine lv_iconst (v := (1 : Int32)) hx hb d_Le_packed_28 (by decide) ?_
  refine lv_iadd hx hb d_Le_packed_29 ?_
  refine lv_istore_n (lv' := [(2, .int ((y2 + (gI o0 2)) + (1 : Int32))), (0, .ref h0), (1, .int a0)]) hx hb d_Le_packed_30 rfl hl (by decide) rfl (fun ls hl => ?_)
  refine lv_iload_n hx hb d_Le_packed_31 rfl (lv_at hl 0 rfl) ?_
  refine lv_bipush (v := (6 : Int32)) hx hb d_Le_packed_32 (by decide) ?_
  refine lv_ishl hx hb d_Le_packed_34 ?_
  refine lv_topi (fun y3 ey3 => ?_)
  have h := h y3 ey3
  refine lv_aload_n hx hb d_Le_packed_35 rfl (lv_at hl 1 rfl) ?_
  refine va_get (D := G.1) (ci := 4) (v := .int (gI o0 0)) (C := R_Le) (T := T_Le) (N := 8) hx hb hts i_Le hown hK hP 0 rfl rfl 0 (by decide) (hts _ wf_Le_56) (fun _ h9 => h9) rfl d_Le_packed_36 ?_
  refine lv_iadd hx hb d_Le_packed_39 ?_
  refine lv_iconst (v := (1 : Int32)) hx hb d_Le_packed_40 (by decide) ?_
  refine lv_iadd hx hb d_Le_packed_41 ?_
  refine lv_istore_n (lv' := [(2, .int ((y3 + (gI o0 0)) + (1 : Int32))), (0, .ref h0), (1, .int a0)]) hx hb d_Le_packed_42 rfl hl (by decide) rfl (fun ls hl => ?_)
  refine lv_iload_n hx hb d_Le_packed_43 rfl (lv_at hl 0 rfl) ?_
  refine lv_bipush (v := (6 : Int32)) hx hb d_Le_packed_44 (by decide) ?_
  refine lv_ishl hx hb d_Le_packed_46 ?_
  refine lv_topi (fun y4 ey4 => ?_)
  have h := h y4 ey4
  refine lv_iload_n hx hb d_Le_packed_47 rfl (lv_at hl 2 rfl) ?_
  refine lv_iadd hx hb d_Le_packed_48 ?_
  refine lv_iconst (v := (1 : Int32)) hx hb d_Le_packed_49 (by decide) ?_
  refine lv_iadd hx hb d_Le_packed_50 ?_
  have hP : va_P G.1 CL (cw_Le G h0 q0 o0) H := hP
  have hD : va_D A (cw_Le G h0 q0 o0) := hD
  exact W.iret (v := ((y4 + a0) + (1 : Int32))) hx hb hr (fun t ht hW => ⟨⟨((y4 + a0) + (1 : Int32)), (), rfl, h, by rw [ht]; exact hP, va_K.moved hW.alike hK, hD⟩, hS.F ht⟩) hS.2.2 d_Le_packed_51
abbrev b_Le_unpacked : ByteArray := prog_5_method_5_code
def y_Le_unpacked : MethodName := ⟨R_Le, "unpacked", "(II)I"⟩
abbrev w_Le_unpacked : List Cond := Cond.code y_Le_unpacked b_Le_unpacked 2 (some .int) :: gw_tbl
theorem d_Le_unpacked_0 : decode b_Le_unpacked 0 = .ok (.iload_n 0, 1) := by decide +kernel
theorem d_Le_unpacked_1 : decode b_Le_unpacked 1 = .ok (.iload_n 1, 1) := by decide +kernel
theorem d_Le_unpacked_2 : decode b_Le_unpacked 2 = .ok (.bipush 6, 2) := by decide +kernel
theorem d_Le_unpacked_4 : decode b_Le_unpacked 4 = .ok (.imul, 1) := by decide +kernel
theorem d_Le_unpacked_5 : decode b_Le_unpacked 5 = .ok (.ishr, 1) := by decide +kernel
theorem d_Le_unpacked_6 : decode b_Le_unpacked 6 = .ok (.bipush 63, 2) := by decide +kernel
theorem d_Le_unpacked_8 : decode b_Le_unpacked 8 = .ok (.iand, 1) := by decide +kernel
theorem d_Le_unpacked_9 : decode b_Le_unpacked 9 = .ok (.iconst 1, 1) := by decide +kernel
theorem d_Le_unpacked_10 : decode b_Le_unpacked 10 = .ok (.isub, 1) := by decide +kernel
theorem d_Le_unpacked_11 : decode b_Le_unpacked 11 = .ok (.ireturn, 1) := by decide +kernel
def f_Le_unpacked (a0 : Int32) (a1 : Int32) (Q : Int32 → Prop) : Prop := ∀ y1 : Int32, y1 = ((a0 >>> ((a1 * (6 : Int32)) &&& 31)) &&& (63 : Int32)) → (Q (y1 - (1 : Int32)))
abbrev rm_Le_unpacked : Room := { frames := 0, cells := 0, slots := 0, locals := 0 }
set_option maxHeartbeats 4000000 in
set_option maxRecDepth 100000 in
theorem c_Le_unpacked {l : Launch} {G : Gl} {a0 : Int32} {a1 : Int32} {Q : Int32 → Prop} (sz : Nat) (h : f_Le_unpacked a0 a1 Q) : Met l y_Le_unpacked w_Le_unpacked rm_Le_unpacked (PcW G [.int a0, .int a1] sz ([])) (va_Qi (fun (r : Int32) (u : Unit) => Q r) (fun (u : Unit) t => BW G (va_A ([]) sz) ([]) t) (va_A ([]) sz)) 0 0 (va_A ([]) sz) := by
  refine Met.ofW (cc := b_Le_unpacked) (maxL := 2) (ret := (some .int)) (by decide +kernel) rfl ?_
  intro p e s m args below meth c s₁ B hml hv
  obtain ⟨rfl, hsz, hP, hK, hD0, hE⟩ := hv
  have hx := B.exec
  have hb := B.bytes
  have hr := B.returns
  have hts0 := atoms_spec (ws := w_Le_unpacked) B.pre
  have hts : ∀ w ∈ gw_tbl, w.before ([.int a0, .int a1]).toArray s = true := fun w hw => hts0 w (List.mem_cons_of_mem _ hw)
  have hown : s.vm.findClass R_Le = some m.cls := findClass_of_methodNamed B.named
  have hlocks := B.notSynchronized
  subst hsz
  have hD := hD0.self (sz := s.heap.size)
  generalize hAe : va_A ([]) s.heap.size = A at hD hE ⊢
  have hA : ∀ q : Nat, s.heap.size ≤ q → A q := fun q h => by rw [← hAe]; exact Or.inr h
  have hS : va_S A s.heap s.heap [] := va_S.rf
  have C : Cx p s m ([.int a0, .int a1]).toArray meth c R_Le b_Le_unpacked 2 (some .int) G A := ⟨hx, hb, hml, hown, hr, hts, hK, hA, hlocks, hE⟩
  have hl := lv_entry ([.int a0, .int a1]) (n := 2) (Nat.le_of_ble_eq_true rfl)
  rw [lg_entry_eq]
  generalize (lg_sl ([.int a0, .int a1]) ++ List.replicate (2 - (lg_sl ([.int a0, .int a1])).length) Slot.unset).toArray = ls at hl ⊢
  have hl : lv_has ls 2 [(0, .int a0), (1, .int a1)] := hl
  have hD : va_D A [] := hD
  unfold f_Le_unpacked at h
  suffices key : ∀ (H : Heap) (locs : List Loc), va_P G.1 CL [] H → va_S A s.heap H locs → W p l e rm_Le_unpacked s m ([.int a0, .int a1]).toArray below meth c H locs 0 0 (MQ below (va_Qi (fun (r : Int32) (u : Unit) => Q r) (fun (u : Unit) t => BW G A ([]) t) A) ([.int a0, .int a1]).toArray s 0 0 A) (F0 m 0 ls []) from key s.heap [] hP hS
  intro H locs hP hS
  refine lv_iload_n hx hb d_Le_unpacked_0 rfl (lv_at hl 0 rfl) ?_
  refine lv_iload_n hx hb d_Le_unpacked_1 rfl (lv_at hl 1 rfl) ?_
  refine lv_bipush (v := (6 : Int32)) hx hb d_Le_unpacked_2 (by decide) ?_
  refine lv_imul hx hb d_Le_unpacked_4 ?_
  refine lv_ishr hx hb d_Le_unpacked_5 ?_
  refine lv_bipush (v := (63 : Int32)) hx hb d_Le_unpacked_6 (by decide) ?_
  refine lv_iand hx hb d_Le_unpacked_8 ?_
  refine lv_topi (fun y1 ey1 => ?_)
  have h := h y1 ey1
  refine lv_iconst (v := (1 : Int32)) hx hb d_Le_unpacked_9 (by decide) ?_
  refine lv_isub hx hb d_Le_unpacked_10 ?_
  have hP : va_P G.1 CL ([]) H := hP
  have hD : va_D A ([]) := hD
  exact W.iret (v := (y1 - (1 : Int32))) hx hb hr (fun t ht hW => ⟨⟨(y1 - (1 : Int32)), (), rfl, h, by rw [ht]; exact hP, va_K.moved hW.alike hK, hD⟩, hS.F ht⟩) hS.2.2 d_Le_unpacked_11
abbrev b_Ta_add : ByteArray := prog_11_method_2_code
def y_Ta_add : MethodName := ⟨R_Ta, "add", "(I)V"⟩
abbrev w_Ta_add : List Cond := Cond.code y_Ta_add b_Ta_add 3 none :: gw_tbl
theorem d_Ta_add_0 : decode b_Ta_add 0 = .ok (.aload_n 0, 1) := by decide +kernel
theorem d_Ta_add_1 : decode b_Ta_add 1 = .ok (.getfield 15, 3) := by decide +kernel
theorem d_Ta_add_4 : decode b_Ta_add 4 = .ok (.iconst 4, 1) := by decide +kernel
theorem d_Ta_add_5 : decode b_Ta_add 5 = .ok (.iadd, 1) := by decide +kernel
theorem d_Ta_add_6 : decode b_Ta_add 6 = .ok (.sipush 400, 3) := by decide +kernel
theorem d_Ta_add_9 : decode b_Ta_add 9 = .ok (.if_icmp .le 4, 3) := by decide +kernel
theorem d_Ta_add_12 : decode b_Ta_add 12 = .ok (.return_, 1) := by decide +kernel
theorem d_Ta_add_13 : decode b_Ta_add 13 = .ok (.bipush 24, 2) := by decide +kernel
theorem d_Ta_add_15 : decode b_Ta_add 15 = .ok (.istore_n 2, 1) := by decide +kernel
theorem d_Ta_add_16 : decode b_Ta_add 16 = .ok (.iload_n 2, 1) := by decide +kernel
theorem d_Ta_add_17 : decode b_Ta_add 17 = .ok (.ifCond .lt 32, 3) := by decide +kernel
theorem d_Ta_add_20 : decode b_Ta_add 20 = .ok (.aload_n 0, 1) := by decide +kernel
theorem d_Ta_add_21 : decode b_Ta_add 21 = .ok (.getfield 9, 3) := by decide +kernel
theorem d_Ta_add_24 : decode b_Ta_add 24 = .ok (.aload_n 0, 1) := by decide +kernel
theorem d_Ta_add_25 : decode b_Ta_add 25 = .ok (.getfield 15, 3) := by decide +kernel
theorem d_Ta_add_28 : decode b_Ta_add 28 = .ok (.iload_n 1, 1) := by decide +kernel
theorem d_Ta_add_29 : decode b_Ta_add 29 = .ok (.iload_n 2, 1) := by decide +kernel
theorem d_Ta_add_30 : decode b_Ta_add 30 = .ok (.ishr, 1) := by decide +kernel
theorem d_Ta_add_31 : decode b_Ta_add 31 = .ok (.i2b, 1) := by decide +kernel
theorem d_Ta_add_32 : decode b_Ta_add 32 = .ok (.bastore, 1) := by decide +kernel
theorem d_Ta_add_33 : decode b_Ta_add 33 = .ok (.aload_n 0, 1) := by decide +kernel
theorem d_Ta_add_34 : decode b_Ta_add 34 = .ok (.dup, 1) := by decide +kernel
theorem d_Ta_add_35 : decode b_Ta_add 35 = .ok (.getfield 15, 3) := by decide +kernel
theorem d_Ta_add_38 : decode b_Ta_add 38 = .ok (.iconst 1, 1) := by decide +kernel
theorem d_Ta_add_39 : decode b_Ta_add 39 = .ok (.iadd, 1) := by decide +kernel
theorem d_Ta_add_40 : decode b_Ta_add 40 = .ok (.putfield 15, 3) := by decide +kernel
theorem d_Ta_add_43 : decode b_Ta_add 43 = .ok (.iinc 2 (-8), 3) := by decide +kernel
theorem d_Ta_add_46 : decode b_Ta_add 46 = .ok (.goto (-30), 3) := by decide +kernel
theorem d_Ta_add_49 : decode b_Ta_add 49 = .ok (.return_, 1) := by decide +kernel
theorem wf_Ta_15 : Cond.fieldLink R_Ta 15 R_Ta "size" "I" ∈ gw_tbl := gw_tb (List.mem_of_getElem? (i := 43) (by decide +kernel)) rfl
theorem wf_Ta_9 : Cond.fieldLink R_Ta 9 R_Ta "bytes" "[B" ∈ gw_tbl := gw_tb (List.mem_of_getElem? (i := 41) (by decide +kernel)) rfl
def f_Ta_add_16 (Q : Ob → Prop) : Nat → Int32 → Int32 → Ob → Prop
  | 0, _, _, _ => False
  | n + 1, x1, x2, o0 => (x2 < 0 → (Q o0)) ∧ (¬ x2 < 0 → ((vp_in (gI o0 1) 400) ∧ ((f_Ta_add_16 Q n) x1 (x2 + (-8 : Int32)) (sA (sI o0 1 ((gI o0 1) + (1 : Int32))) 0 (upd (gA o0 0) ((gI o0 1).toNatClampNeg) (vp_nar .byte ((x1 >>> (x2 &&& 31)).toInt8.toInt32)))))))
def f_Ta_add (a0 : Int32) (o0 : Ob) (Q : Ob → Prop) : Prop := (((gI o0 1) + (4 : Int32)) ≤ (400 : Int32) → ((∃ w, f_Ta_add_16 Q w a0 (24 : Int32) o0))) ∧ (¬ ((gI o0 1) + (4 : Int32)) ≤ (400 : Int32) → (Q o0))
abbrev rm_Ta_add : Room := { frames := 0, cells := 0, slots := 0, locals := 0 }
set_option maxHeartbeats 4000000 in
set_option maxRecDepth 100000 in
theorem t_Ta_add_16 {p : Program} {l : Launch} {e : Env} {s : State} {m : MethodId} {args : Array Value} {below : List Frame} {meth : Method} {c : Code} {A : Nat → Prop} {G : Gl} {h0 : Nat} {q0 : Nat → Nat} (Q : Ob → Prop) (C : Cx p s m args meth c R_Ta b_Ta_add 3 none G A) :
    ∀ (n : Nat) (x1 : Int32) (x2 : Int32) (o0 : Ob) (ls : Array Slot) (H : Heap) (locs : List Loc), lv_has ls 3 [(0, .ref h0), (1, .int x1), (2, .int x2)] → va_P G.1 CL (cw_Ta G h0 q0 o0) H → va_D A (cw_Ta G h0 q0 o0) → va_S A s.heap H locs → f_Ta_add_16 Q n x1 x2 o0 → W p l e rm_Ta_add s m args below meth c H locs 0 0 (MQ below (va_Qv (fun (u : Ob) => Q u) (fun (u : Ob) t => BW G A (cw_Ta G h0 q0 u) t) A) args s 0 0 A) (F0 m 16 ls []) := by
  obtain ⟨hx, hb, hml, hown, hr, hts, hK, hA, hlocks, hE⟩ := id C
  intro n
  induction n with
  | zero => intro x1 x2 o0 ls H locs hl hP hD hS h; exact absurd h id
  | succ n ih =>
    intro x1 x2 o0 ls H locs hl hP hD hS h
    have hP : va_P G.1 CL [(h0, .inr (10, [.ref (q0 0), .int (gI o0 1)])), kB G (q0 0) 400 (gA o0 0)] H := hP
    have hD : va_D A [(h0, .inr (10, [.ref (q0 0), .int (gI o0 1)])), kB G (q0 0) 400 (gA o0 0)] := hD
    unfold f_Ta_add_16 at h
    refine lv_iload_n hx hb d_Ta_add_16 rfl (lv_at hl 2 rfl) ?_
    refine lv_if_lt (tgt := 49) hx hb d_Ta_add_17 (by decide) (fun c1 => ?_) (fun c1 => ?_)
    · have h := h.1 c1
      have hP : va_P G.1 CL (cw_Ta G h0 q0 o0) H := hP
      have hD : va_D A (cw_Ta G h0 q0 o0) := hD
      exact W.vret hx hb hr (fun t ht hW => ⟨⟨o0, rfl, h, by rw [ht]; exact hP, va_K.moved hW.alike hK, hD⟩, hS.F ht⟩) hS.2.2 d_Ta_add_49
    · have h := h.2 c1
      refine lv_aload_n hx hb d_Ta_add_20 rfl (lv_at hl 0 rfl) ?_
      refine va_get (D := G.1) (ci := 10) (v := .ref (q0 0)) (C := R_Ta) (T := T_Ta) (N := 2) hx hb hts i_Ta hown hK hP 0 rfl rfl 0 (by decide) (hts _ wf_Ta_9) (fun _ h9 => h9) rfl d_Ta_add_21 ?_
      refine lv_aload_n hx hb d_Ta_add_24 rfl (lv_at hl 0 rfl) ?_
      refine va_get (D := G.1) (ci := 10) (v := .int (gI o0 1)) (C := R_Ta) (T := T_Ta) (N := 2) hx hb hts i_Ta hown hK hP 0 rfl rfl 1 (by decide) (hts _ wf_Ta_15) (fun _ h9 => h9) rfl d_Ta_add_25 ?_
      refine lv_iload_n hx hb d_Ta_add_28 rfl (lv_at hl 1 rfl) ?_
      refine lv_iload_n hx hb d_Ta_add_29 rfl (lv_at hl 2 rfl) ?_
      refine lv_ishr hx hb d_Ta_add_30 ?_
      refine lv_i2b (v := ((x1 >>> (x2 &&& 31)).toInt8.toInt32)) hx hb d_Ta_add_31 rfl ?_
      have g2 := h.1
      have h := h.2
      refine xa_bast hx hb hK hP hD hS 1 2 rfl rfl g2 (k := (gI o0 1).toNatClampNeg) rfl d_Ta_add_32 (fun H locs hP hD hS => ?_)
      have hP : va_P G.1 CL [(h0, .inr (10, [.ref (q0 0), .int (gI o0 1)])), kB G (q0 0) 400 (upd (gA o0 0) ((gI o0 1).toNatClampNeg) (vp_nar .byte ((x1 >>> (x2 &&& 31)).toInt8.toInt32)))] H := hP
      have hD : va_D A [(h0, .inr (10, [.ref (q0 0), .int (gI o0 1)])), kB G (q0 0) 400 (upd (gA o0 0) ((gI o0 1).toNatClampNeg) (vp_nar .byte ((x1 >>> (x2 &&& 31)).toInt8.toInt32)))] := hD
      refine lv_aload_n hx hb d_Ta_add_33 rfl (lv_at hl 0 rfl) ?_
      refine lv_dup hx hb d_Ta_add_34 rfl ?_
      refine va_get (D := G.1) (ci := 10) (v := .int (gI o0 1)) (C := R_Ta) (T := T_Ta) (N := 2) hx hb hts i_Ta hown hK hP 0 rfl rfl 1 (by decide) (hts _ wf_Ta_15) (fun _ h9 => h9) rfl d_Ta_add_35 ?_
      refine lv_iconst (v := (1 : Int32)) hx hb d_Ta_add_38 (by decide) ?_
      refine lv_iadd hx hb d_Ta_add_39 ?_
      refine va_put (D := G.1) (ci := 10) (v := .int ((gI o0 1) + (1 : Int32))) (ty := .int) (C := R_Ta) (T := T_Ta) (N := 2) hx hb hts i_Ta ty_Ta ty_Ta_ok nm_Ta hown hK hP hD hS 0 rfl rfl 1 (by decide) (hts _ wf_Ta_15) (fun _ h9 => h9) rfl (ty_Ta_ok 1 (by decide)) rfl rfl (Nat.le_of_ble_eq_true rfl) d_Ta_add_40 (fun H locs hP hD hS => ?_)
      have hP : va_P G.1 CL [(h0, .inr (10, [.ref (q0 0), .int ((gI o0 1) + (1 : Int32))])), kB G (q0 0) 400 (upd (gA o0 0) ((gI o0 1).toNatClampNeg) (vp_nar .byte ((x1 >>> (x2 &&& 31)).toInt8.toInt32)))] H := hP
      have hD : va_D A [(h0, .inr (10, [.ref (q0 0), .int ((gI o0 1) + (1 : Int32))])), kB G (q0 0) 400 (upd (gA o0 0) ((gI o0 1).toNatClampNeg) (vp_nar .byte ((x1 >>> (x2 &&& 31)).toInt8.toInt32)))] := hD
      refine lv_iinc (v := (x2 + (-8 : Int32))) (lv' := [(2, .int (x2 + (-8 : Int32))), (0, .ref h0), (1, .int x1)]) hx hb d_Ta_add_43 hl (k := 2) rfl rfl (by decide) rfl (fun ls hl => ?_)
      refine lv_goto (tgt := 16) hx hb d_Ta_add_46 (by decide) ?_
      have hl := lv_sub (l' := [(0, .ref h0), (1, .int x1), (2, .int (x2 + (-8 : Int32)))]) hl [1, 2, 0] rfl
      have hP : va_P G.1 CL (cw_Ta G h0 q0 (sA (sI o0 1 ((gI o0 1) + (1 : Int32))) 0 (upd (gA o0 0) ((gI o0 1).toNatClampNeg) (vp_nar .byte ((x1 >>> (x2 &&& 31)).toInt8.toInt32))))) H := hP
      have hD : va_D A (cw_Ta G h0 q0 (sA (sI o0 1 ((gI o0 1) + (1 : Int32))) 0 (upd (gA o0 0) ((gI o0 1).toNatClampNeg) (vp_nar .byte ((x1 >>> (x2 &&& 31)).toInt8.toInt32))))) := hD
      exact ih x1 (x2 + (-8 : Int32)) (sA (sI o0 1 ((gI o0 1) + (1 : Int32))) 0 (upd (gA o0 0) ((gI o0 1).toNatClampNeg) (vp_nar .byte ((x1 >>> (x2 &&& 31)).toInt8.toInt32)))) ls H locs hl hP hD hS h
set_option maxHeartbeats 4000000 in
set_option maxRecDepth 100000 in
theorem c_Ta_add {l : Launch} {G : Gl} {h0 : Nat} {q0 : Nat → Nat} {a0 : Int32} {o0 : Ob} {Q : Ob → Prop} (sz : Nat) (h : f_Ta_add a0 o0 Q) : Met l y_Ta_add w_Ta_add rm_Ta_add (PcW G [.ref h0, .int a0] sz (cw_Ta G h0 q0 o0)) (va_Qv (fun (u : Ob) => Q u) (fun (u : Ob) t => BW G (va_A (cw_Ta G h0 q0 o0) sz) (cw_Ta G h0 q0 u) t) (va_A (cw_Ta G h0 q0 o0) sz)) 0 0 (va_A (cw_Ta G h0 q0 o0) sz) := by
  refine Met.ofW (cc := b_Ta_add) (maxL := 3) (ret := none) (by decide +kernel) rfl ?_
  intro p e s m args below meth c s₁ B hml hv
  obtain ⟨rfl, hsz, hP, hK, hD0, hE⟩ := hv
  have hx := B.exec
  have hb := B.bytes
  have hr := B.returns
  have hts0 := atoms_spec (ws := w_Ta_add) B.pre
  have hts : ∀ w ∈ gw_tbl, w.before ([.ref h0, .int a0]).toArray s = true := fun w hw => hts0 w (List.mem_cons_of_mem _ hw)
  have hown : s.vm.findClass R_Ta = some m.cls := findClass_of_methodNamed B.named
  have hlocks := B.notSynchronized
  subst hsz
  have hD := hD0.self (sz := s.heap.size)
  generalize hAe : va_A (cw_Ta G h0 q0 o0) s.heap.size = A at hD hE ⊢
  have hA : ∀ q : Nat, s.heap.size ≤ q → A q := fun q h => by rw [← hAe]; exact Or.inr h
  have hS : va_S A s.heap s.heap [] := va_S.rf
  have C : Cx p s m ([.ref h0, .int a0]).toArray meth c R_Ta b_Ta_add 3 none G A := ⟨hx, hb, hml, hown, hr, hts, hK, hA, hlocks, hE⟩
  have hl := lv_entry ([.ref h0, .int a0]) (n := 3) (Nat.le_of_ble_eq_true rfl)
  rw [lg_entry_eq]
  generalize (lg_sl ([.ref h0, .int a0]) ++ List.replicate (3 - (lg_sl ([.ref h0, .int a0])).length) Slot.unset).toArray = ls at hl ⊢
  have hl : lv_has ls 3 [(0, .ref h0), (1, .int a0)] := hl
  have hD : va_D A [(h0, .inr (10, [.ref (q0 0), .int (gI o0 1)])), kB G (q0 0) 400 (gA o0 0)] := hD
  unfold f_Ta_add at h
  suffices key : ∀ (H : Heap) (locs : List Loc), va_P G.1 CL [(h0, .inr (10, [.ref (q0 0), .int (gI o0 1)])), kB G (q0 0) 400 (gA o0 0)] H → va_S A s.heap H locs → W p l e rm_Ta_add s m ([.ref h0, .int a0]).toArray below meth c H locs 0 0 (MQ below (va_Qv (fun (u : Ob) => Q u) (fun (u : Ob) t => BW G A (cw_Ta G h0 q0 u) t) A) ([.ref h0, .int a0]).toArray s 0 0 A) (F0 m 0 ls []) from key s.heap [] hP hS
  intro H locs hP hS
  refine lv_aload_n hx hb d_Ta_add_0 rfl (lv_at hl 0 rfl) ?_
  refine va_get (D := G.1) (ci := 10) (v := .int (gI o0 1)) (C := R_Ta) (T := T_Ta) (N := 2) hx hb hts i_Ta hown hK hP 0 rfl rfl 1 (by decide) (hts _ wf_Ta_15) (fun _ h9 => h9) rfl d_Ta_add_1 ?_
  refine lv_iconst (v := (4 : Int32)) hx hb d_Ta_add_4 (by decide) ?_
  refine lv_iadd hx hb d_Ta_add_5 ?_
  refine lv_sipush (v := (400 : Int32)) hx hb d_Ta_add_6 (by decide) ?_
  refine lv_icmp_le (tgt := 13) hx hb d_Ta_add_9 (by decide) (fun c3 => ?_) (fun c3 => ?_)
  · have h := h.1 c3
    refine lv_bipush (v := (24 : Int32)) hx hb d_Ta_add_13 (by decide) ?_
    refine lv_istore_n (lv' := [(2, .int (24 : Int32)), (0, .ref h0), (1, .int a0)]) hx hb d_Ta_add_15 rfl hl (by decide) rfl (fun ls hl => ?_)
    have hl := lv_sub (l' := [(0, .ref h0), (1, .int a0), (2, .int (24 : Int32))]) hl [1, 2, 0] rfl
    have hP : va_P G.1 CL (cw_Ta G h0 q0 o0) H := hP
    have hD : va_D A (cw_Ta G h0 q0 o0) := hD
    obtain ⟨w, h⟩ := h
    exact t_Ta_add_16 Q C w a0 (24 : Int32) o0 ls _ locs hl hP hD hS h
  · have h := h.2 c3
    have hP : va_P G.1 CL (cw_Ta G h0 q0 o0) H := hP
    have hD : va_D A (cw_Ta G h0 q0 o0) := hD
    exact W.vret hx hb hr (fun t ht hW => ⟨⟨o0, rfl, h, by rw [ht]; exact hP, va_K.moved hW.alike hK, hD⟩, hS.F ht⟩) hS.2.2 d_Ta_add_12
abbrev b_To_countAbove : ByteArray := prog_12_method_2_code
def y_To_countAbove : MethodName := ⟨R_To, "countAbove", "([III)I"⟩
abbrev w_To_countAbove : List Cond := Cond.code y_To_countAbove b_To_countAbove 18 (some .int) :: gw_tbl
theorem d_To_countAbove_0 : decode b_To_countAbove 0 = .ok (.bipush 20, 2) := by decide +kernel
theorem d_To_countAbove_2 : decode b_To_countAbove 2 = .ok (.iload_n 2, 1) := by decide +kernel
theorem d_To_countAbove_3 : decode b_To_countAbove 3 = .ok (.imul, 1) := by decide +kernel
theorem d_To_countAbove_4 : decode b_To_countAbove 4 = .ok (.i2l, 1) := by decide +kernel
theorem d_To_countAbove_5 : decode b_To_countAbove 5 = .ok (.lstore_n 3, 1) := by decide +kernel
theorem d_To_countAbove_6 : decode b_To_countAbove 6 = .ok (.sipush 400, 3) := by decide +kernel
theorem d_To_countAbove_9 : decode b_To_countAbove 9 = .ok (.iload_n 2, 1) := by decide +kernel
theorem d_To_countAbove_10 : decode b_To_countAbove 10 = .ok (.iload_n 2, 1) := by decide +kernel
theorem d_To_countAbove_11 : decode b_To_countAbove 11 = .ok (.imul, 1) := by decide +kernel
theorem d_To_countAbove_12 : decode b_To_countAbove 12 = .ok (.isub, 1) := by decide +kernel
theorem d_To_countAbove_13 : decode b_To_countAbove 13 = .ok (.i2l, 1) := by decide +kernel
theorem d_To_countAbove_14 : decode b_To_countAbove 14 = .ok (.lstore 5, 2) := by decide +kernel
theorem d_To_countAbove_16 : decode b_To_countAbove 16 = .ok (.lconst 0, 1) := by decide +kernel
theorem d_To_countAbove_17 : decode b_To_countAbove 17 = .ok (.lstore 7, 2) := by decide +kernel
theorem d_To_countAbove_19 : decode b_To_countAbove 19 = .ok (.lconst 1, 1) := by decide +kernel
theorem d_To_countAbove_20 : decode b_To_countAbove 20 = .ok (.lstore 9, 2) := by decide +kernel
theorem d_To_countAbove_22 : decode b_To_countAbove 22 = .ok (.iconst 0, 1) := by decide +kernel
theorem d_To_countAbove_23 : decode b_To_countAbove 23 = .ok (.istore 11, 2) := by decide +kernel
theorem d_To_countAbove_25 : decode b_To_countAbove 25 = .ok (.iconst 0, 1) := by decide +kernel
theorem d_To_countAbove_26 : decode b_To_countAbove 26 = .ok (.istore 12, 2) := by decide +kernel
theorem d_To_countAbove_28 : decode b_To_countAbove 28 = .ok (.iload_n 1, 1) := by decide +kernel
theorem d_To_countAbove_29 : decode b_To_countAbove 29 = .ok (.iconst 1, 1) := by decide +kernel
theorem d_To_countAbove_30 : decode b_To_countAbove 30 = .ok (.isub, 1) := by decide +kernel
theorem d_To_countAbove_31 : decode b_To_countAbove 31 = .ok (.istore 13, 2) := by decide +kernel
theorem d_To_countAbove_33 : decode b_To_countAbove 33 = .ok (.iload 13, 2) := by decide +kernel
theorem d_To_countAbove_35 : decode b_To_countAbove 35 = .ok (.ifCond .lt 100, 3) := by decide +kernel
theorem d_To_countAbove_38 : decode b_To_countAbove 38 = .ok (.lload_n 3, 1) := by decide +kernel
theorem d_To_countAbove_39 : decode b_To_countAbove 39 = .ok (.lload 7, 2) := by decide +kernel
theorem d_To_countAbove_41 : decode b_To_countAbove 41 = .ok (.lmul, 1) := by decide +kernel
theorem d_To_countAbove_42 : decode b_To_countAbove 42 = .ok (.lload 5, 2) := by decide +kernel
theorem d_To_countAbove_44 : decode b_To_countAbove 44 = .ok (.lload 9, 2) := by decide +kernel
theorem d_To_countAbove_46 : decode b_To_countAbove 46 = .ok (.lmul, 1) := by decide +kernel
theorem d_To_countAbove_47 : decode b_To_countAbove 47 = .ok (.lsub, 1) := by decide +kernel
theorem d_To_countAbove_48 : decode b_To_countAbove 48 = .ok (.lstore 14, 2) := by decide +kernel
theorem d_To_countAbove_50 : decode b_To_countAbove 50 = .ok (.lload_n 3, 1) := by decide +kernel
theorem d_To_countAbove_51 : decode b_To_countAbove 51 = .ok (.lload 9, 2) := by decide +kernel
theorem d_To_countAbove_53 : decode b_To_countAbove 53 = .ok (.lmul, 1) := by decide +kernel
theorem d_To_countAbove_54 : decode b_To_countAbove 54 = .ok (.ldc2_w 9, 3) := by decide +kernel
theorem d_To_countAbove_57 : decode b_To_countAbove 57 = .ok (.lload 7, 2) := by decide +kernel
theorem d_To_countAbove_59 : decode b_To_countAbove 59 = .ok (.lmul, 1) := by decide +kernel
theorem d_To_countAbove_60 : decode b_To_countAbove 60 = .ok (.ladd, 1) := by decide +kernel
theorem d_To_countAbove_61 : decode b_To_countAbove 61 = .ok (.lstore 16, 2) := by decide +kernel
theorem d_To_countAbove_63 : decode b_To_countAbove 63 = .ok (.lload 16, 2) := by decide +kernel
theorem d_To_countAbove_65 : decode b_To_countAbove 65 = .ok (.lconst 0, 1) := by decide +kernel
theorem d_To_countAbove_66 : decode b_To_countAbove 66 = .ok (.lcmp, 1) := by decide +kernel
theorem d_To_countAbove_67 : decode b_To_countAbove 67 = .ok (.ifCond .eq 35, 3) := by decide +kernel
theorem d_To_countAbove_70 : decode b_To_countAbove 70 = .ok (.iload 11, 2) := by decide +kernel
theorem d_To_countAbove_72 : decode b_To_countAbove 72 = .ok (.lload 16, 2) := by decide +kernel
theorem d_To_countAbove_74 : decode b_To_countAbove 74 = .ok (.lconst 0, 1) := by decide +kernel
theorem d_To_countAbove_75 : decode b_To_countAbove 75 = .ok (.lcmp, 1) := by decide +kernel
theorem d_To_countAbove_76 : decode b_To_countAbove 76 = .ok (.ifCond .ge 7, 3) := by decide +kernel
theorem d_To_countAbove_79 : decode b_To_countAbove 79 = .ok (.iconst 1, 1) := by decide +kernel
theorem d_To_countAbove_80 : decode b_To_countAbove 80 = .ok (.goto 4, 3) := by decide +kernel
theorem d_To_countAbove_83 : decode b_To_countAbove 83 = .ok (.iconst 0, 1) := by decide +kernel
theorem d_To_countAbove_84 : decode b_To_countAbove 84 = .ok (.if_icmp .eq 18, 3) := by decide +kernel
theorem d_To_countAbove_87 : decode b_To_countAbove 87 = .ok (.iinc 12 1, 3) := by decide +kernel
theorem d_To_countAbove_90 : decode b_To_countAbove 90 = .ok (.iload 11, 2) := by decide +kernel
theorem d_To_countAbove_92 : decode b_To_countAbove 92 = .ok (.ifCond .ne 7, 3) := by decide +kernel
theorem d_To_countAbove_95 : decode b_To_countAbove 95 = .ok (.iconst 1, 1) := by decide +kernel
theorem d_To_countAbove_96 : decode b_To_countAbove 96 = .ok (.goto 4, 3) := by decide +kernel
theorem d_To_countAbove_99 : decode b_To_countAbove 99 = .ok (.iconst 0, 1) := by decide +kernel
theorem d_To_countAbove_100 : decode b_To_countAbove 100 = .ok (.istore 11, 2) := by decide +kernel
theorem d_To_countAbove_102 : decode b_To_countAbove 102 = .ok (.iload 13, 2) := by decide +kernel
theorem d_To_countAbove_104 : decode b_To_countAbove 104 = .ok (.ifCond .le 25, 3) := by decide +kernel
theorem d_To_countAbove_107 : decode b_To_countAbove 107 = .ok (.lload 14, 2) := by decide +kernel
theorem d_To_countAbove_109 : decode b_To_countAbove 109 = .ok (.aload_n 0, 1) := by decide +kernel
theorem d_To_countAbove_110 : decode b_To_countAbove 110 = .ok (.iload 13, 2) := by decide +kernel
theorem d_To_countAbove_112 : decode b_To_countAbove 112 = .ok (.iconst 1, 1) := by decide +kernel
theorem d_To_countAbove_113 : decode b_To_countAbove 113 = .ok (.isub, 1) := by decide +kernel
theorem d_To_countAbove_114 : decode b_To_countAbove 114 = .ok (.iaload, 1) := by decide +kernel
theorem d_To_countAbove_115 : decode b_To_countAbove 115 = .ok (.i2l, 1) := by decide +kernel
theorem d_To_countAbove_116 : decode b_To_countAbove 116 = .ok (.lmul, 1) := by decide +kernel
theorem d_To_countAbove_117 : decode b_To_countAbove 117 = .ok (.lstore 7, 2) := by decide +kernel
theorem d_To_countAbove_119 : decode b_To_countAbove 119 = .ok (.lload 16, 2) := by decide +kernel
theorem d_To_countAbove_121 : decode b_To_countAbove 121 = .ok (.aload_n 0, 1) := by decide +kernel
theorem d_To_countAbove_122 : decode b_To_countAbove 122 = .ok (.iload 13, 2) := by decide +kernel
theorem d_To_countAbove_124 : decode b_To_countAbove 124 = .ok (.iaload, 1) := by decide +kernel
theorem d_To_countAbove_125 : decode b_To_countAbove 125 = .ok (.i2l, 1) := by decide +kernel
theorem d_To_countAbove_126 : decode b_To_countAbove 126 = .ok (.lmul, 1) := by decide +kernel
theorem d_To_countAbove_127 : decode b_To_countAbove 127 = .ok (.lstore 9, 2) := by decide +kernel
theorem d_To_countAbove_129 : decode b_To_countAbove 129 = .ok (.iinc 13 (-1), 3) := by decide +kernel
theorem d_To_countAbove_132 : decode b_To_countAbove 132 = .ok (.goto (-99), 3) := by decide +kernel
theorem d_To_countAbove_135 : decode b_To_countAbove 135 = .ok (.iload 12, 2) := by decide +kernel
theorem d_To_countAbove_137 : decode b_To_countAbove 137 = .ok (.ireturn, 1) := by decide +kernel
theorem wc_To_9 : Cond.constantLong R_To 9 (400) ∈ gw_tbl := gw_tb (List.mem_of_getElem? (i := 791) (by decide +kernel)) rfl
def f_To_countAbove_102 (o0 : (Nat → Int32)) (k33 : Int64 → Int64 → Int64 → Int64 → Int32 → Int32 → Int32 → Prop) (Q : Int32 → Prop) (x3 : Int64) (x5 : Int64) (x7 : Int64) (x9 : Int64) (x11 : Int32) (x12 : Int32) (x13 : Int32) (x14 : Int64) (x16 : Int64) : Prop := (x13 ≤ 0 → (k33 x3 x5 x7 x9 x11 x12 (x13 + (-1 : Int32)))) ∧ (¬ x13 ≤ 0 → ((vp_in (x13 - (1 : Int32)) 5) ∧ (∀ y3 : Int64, y3 = (x14 * ((o0 ((x13 - (1 : Int32)).toNatClampNeg)).toInt64)) → ((vp_in x13 5) ∧ (k33 x3 x5 y3 (x16 * ((o0 x13.toNatClampNeg).toInt64)) x11 x12 (x13 + (-1 : Int32)))))))
def f_To_countAbove_33 (o0 : (Nat → Int32)) (Q : Int32 → Prop) : Nat → Int64 → Int64 → Int64 → Int64 → Int32 → Int32 → Int32 → Prop
  | 0, _, _, _, _, _, _, _ => False
  | n + 1, x3, x5, x7, x9, x11, x12, x13 => (x13 < 0 → (Q x12)) ∧ (¬ x13 < 0 → (((lg_cmp ((x3 * x9) + ((400 : Int64) * x7)) (0 : Int64)) = 0 → (f_To_countAbove_102 o0 (f_To_countAbove_33 o0 Q n) Q x3 x5 x7 x9 x11 x12 x13 ((x3 * x7) - (x5 * x9)) ((x3 * x9) + ((400 : Int64) * x7)))) ∧ (¬ (lg_cmp ((x3 * x9) + ((400 : Int64) * x7)) (0 : Int64)) = 0 → ((0 ≤ (lg_cmp ((x3 * x9) + ((400 : Int64) * x7)) (0 : Int64)) → ((x11 = (0 : Int32) → (f_To_countAbove_102 o0 (f_To_countAbove_33 o0 Q n) Q x3 x5 x7 x9 x11 x12 x13 ((x3 * x7) - (x5 * x9)) ((x3 * x9) + ((400 : Int64) * x7)))) ∧ (¬ x11 = (0 : Int32) → ((x11 = 0 → (f_To_countAbove_102 o0 (f_To_countAbove_33 o0 Q n) Q x3 x5 x7 x9 (1 : Int32) (x12 + (1 : Int32)) x13 ((x3 * x7) - (x5 * x9)) ((x3 * x9) + ((400 : Int64) * x7)))) ∧ (¬ x11 = 0 → (f_To_countAbove_102 o0 (f_To_countAbove_33 o0 Q n) Q x3 x5 x7 x9 (0 : Int32) (x12 + (1 : Int32)) x13 ((x3 * x7) - (x5 * x9)) ((x3 * x9) + ((400 : Int64) * x7)))))))) ∧ (¬ 0 ≤ (lg_cmp ((x3 * x9) + ((400 : Int64) * x7)) (0 : Int64)) → ((x11 = (1 : Int32) → (f_To_countAbove_102 o0 (f_To_countAbove_33 o0 Q n) Q x3 x5 x7 x9 x11 x12 x13 ((x3 * x7) - (x5 * x9)) ((x3 * x9) + ((400 : Int64) * x7)))) ∧ (¬ x11 = (1 : Int32) → ((x11 = 0 → (f_To_countAbove_102 o0 (f_To_countAbove_33 o0 Q n) Q x3 x5 x7 x9 (1 : Int32) (x12 + (1 : Int32)) x13 ((x3 * x7) - (x5 * x9)) ((x3 * x9) + ((400 : Int64) * x7)))) ∧ (¬ x11 = 0 → (f_To_countAbove_102 o0 (f_To_countAbove_33 o0 Q n) Q x3 x5 x7 x9 (0 : Int32) (x12 + (1 : Int32)) x13 ((x3 * x7) - (x5 * x9)) ((x3 * x9) + ((400 : Int64) * x7))))))))))))
def f_To_countAbove (a1 : Int32) (a2 : Int32) (o0 : (Nat → Int32)) (Q : Int32 → Prop) : Prop := (∃ w, f_To_countAbove_33 o0 Q w (((20 : Int32) * a2).toInt64) (((400 : Int32) - (a2 * a2)).toInt64) (0 : Int64) (1 : Int64) (0 : Int32) (0 : Int32) (a1 - (1 : Int32)))
abbrev rm_To_countAbove : Room := { frames := 0, cells := 0, slots := 0, locals := 0 }
set_option maxHeartbeats 4000000 in
set_option maxRecDepth 100000 in
theorem t_To_countAbove_102 {p : Program} {l : Launch} {e : Env} {s : State} {m : MethodId} {args : Array Value} {below : List Frame} {meth : Method} {c : Code} {A : Nat → Prop} {G : Gl} {h0 : Nat} (o0 : (Nat → Int32)) (k33 : Int64 → Int64 → Int64 → Int64 → Int32 → Int32 → Int32 → Prop) (Q : Int32 → Prop) (C : Cx p s m args meth c R_To b_To_countAbove 18 (some .int) G A)
    (hk33 : ∀ (x3 : Int64) (x5 : Int64) (x7 : Int64) (x9 : Int64) (x11 : Int32) (x12 : Int32) (x13 : Int32) (ls : Array Slot) (H : Heap) (locs : List Loc), lv_has ls 18 [(0, .ref h0), (3, .long x3), (5, .long x5), (7, .long x7), (9, .long x9), (11, .int x11), (12, .int x12), (13, .int x13)] → va_P G.1 CL ([kI G h0 5 o0]) H → va_D A ([kI G h0 5 o0]) → va_S A s.heap H locs → k33 x3 x5 x7 x9 x11 x12 x13 → W p l e rm_To_countAbove s m args below meth c H locs 0 0 (MQ below (va_Qi (fun (r : Int32) (u : Unit) => Q r) (fun (u : Unit) t => BW G A ([kI G h0 5 o0]) t) A) args s 0 0 A) (F0 m 33 ls [])) :
    ∀ (x3 : Int64) (x5 : Int64) (x7 : Int64) (x9 : Int64) (x11 : Int32) (x12 : Int32) (x13 : Int32) (x14 : Int64) (x16 : Int64) (ls : Array Slot) (H : Heap) (locs : List Loc), lv_has ls 18 [(0, .ref h0), (3, .long x3), (5, .long x5), (7, .long x7), (9, .long x9), (11, .int x11), (12, .int x12), (13, .int x13), (14, .long x14), (16, .long x16)] → va_P G.1 CL ([kI G h0 5 o0]) H → va_D A ([kI G h0 5 o0]) → va_S A s.heap H locs → f_To_countAbove_102 o0 k33 Q x3 x5 x7 x9 x11 x12 x13 x14 x16 → W p l e rm_To_countAbove s m args below meth c H locs 0 0 (MQ below (va_Qi (fun (r : Int32) (u : Unit) => Q r) (fun (u : Unit) t => BW G A ([kI G h0 5 o0]) t) A) args s 0 0 A) (F0 m 102 ls []) := by
  obtain ⟨hx, hb, hml, hown, hr, hts, hK, hA, hlocks, hE⟩ := id C
  intro x3 x5 x7 x9 x11 x12 x13 x14 x16 ls H locs hl hP hD hS h
  have hP : va_P G.1 CL [kI G h0 5 o0] H := hP
  have hD : va_D A [kI G h0 5 o0] := hD
  unfold f_To_countAbove_102 at h
  refine lv_iload hx hb d_To_countAbove_102 (lv_at hl 7 rfl) ?_
  refine lv_if_le (tgt := 129) hx hb d_To_countAbove_104 (by decide) (fun c1 => ?_) (fun c1 => ?_)
  · have h := h.1 c1
    refine lv_iinc (v := (x13 + (-1 : Int32))) (lv' := [(13, .int (x13 + (-1 : Int32))), (0, .ref h0), (3, .long x3), (5, .long x5), (7, .long x7), (9, .long x9), (11, .int x11), (12, .int x12), (14, .long x14), (16, .long x16)]) hx hb d_To_countAbove_129 hl (k := 7) rfl rfl (by decide) rfl (fun ls hl => ?_)
    refine lv_goto (tgt := 33) hx hb d_To_countAbove_132 (by decide) ?_
    have hl := lv_sub (l' := [(0, .ref h0), (3, .long x3), (5, .long x5), (7, .long x7), (9, .long x9), (11, .int x11), (12, .int x12), (13, .int (x13 + (-1 : Int32)))]) hl [1, 2, 3, 4, 5, 6, 7, 0] rfl
    have hP : va_P G.1 CL ([kI G h0 5 o0]) H := hP
    have hD : va_D A ([kI G h0 5 o0]) := hD
    exact hk33 x3 x5 x7 x9 x11 x12 (x13 + (-1 : Int32)) ls H locs hl hP hD hS h
  · have h := h.2 c1
    refine lv_lload hx hb d_To_countAbove_107 (lv_at hl 8 rfl) ?_
    refine lv_aload_n hx hb d_To_countAbove_109 rfl (lv_at hl 0 rfl) ?_
    refine lv_iload hx hb d_To_countAbove_110 (lv_at hl 7 rfl) ?_
    refine lv_iconst (v := (1 : Int32)) hx hb d_To_countAbove_112 (by decide) ?_
    refine lv_isub hx hb d_To_countAbove_113 ?_
    have g2 := h.1
    have h := h.2
    refine xa_iald hx hb hK hP 0 0 rfl rfl g2 (k := (x13 - (1 : Int32)).toNatClampNeg) rfl d_To_countAbove_114 ?_
    refine lv_i2l (v := ((o0 ((x13 - (1 : Int32)).toNatClampNeg)).toInt64)) hx hb d_To_countAbove_115 rfl ?_
    refine lv_lmul hx hb d_To_countAbove_116 ?_
    refine lv_topl (fun y3 ey3 => ?_)
    have h := h y3 ey3
    refine lv_lstore (lv' := [(7, .long y3), (0, .ref h0), (3, .long x3), (5, .long x5), (9, .long x9), (11, .int x11), (12, .int x12), (13, .int x13), (14, .long x14), (16, .long x16)]) hx hb d_To_countAbove_117 hl (by decide) rfl (fun ls hl => ?_)
    refine lv_lload hx hb d_To_countAbove_119 (lv_at hl 9 rfl) ?_
    refine lv_aload_n hx hb d_To_countAbove_121 rfl (lv_at hl 1 rfl) ?_
    refine lv_iload hx hb d_To_countAbove_122 (lv_at hl 7 rfl) ?_
    have g4 := h.1
    have h := h.2
    refine xa_iald hx hb hK hP 0 0 rfl rfl g4 (k := x13.toNatClampNeg) rfl d_To_countAbove_124 ?_
    refine lv_i2l (v := ((o0 x13.toNatClampNeg).toInt64)) hx hb d_To_countAbove_125 rfl ?_
    refine lv_lmul hx hb d_To_countAbove_126 ?_
    refine lv_lstore (lv' := [(9, .long (x16 * ((o0 x13.toNatClampNeg).toInt64))), (7, .long y3), (0, .ref h0), (3, .long x3), (5, .long x5), (11, .int x11), (12, .int x12), (13, .int x13), (14, .long x14), (16, .long x16)]) hx hb d_To_countAbove_127 hl (by decide) rfl (fun ls hl => ?_)
    refine lv_iinc (v := (x13 + (-1 : Int32))) (lv' := [(13, .int (x13 + (-1 : Int32))), (9, .long (x16 * ((o0 x13.toNatClampNeg).toInt64))), (7, .long y3), (0, .ref h0), (3, .long x3), (5, .long x5), (11, .int x11), (12, .int x12), (14, .long x14), (16, .long x16)]) hx hb d_To_countAbove_129 hl (k := 7) rfl rfl (by decide) rfl (fun ls hl => ?_)
    refine lv_goto (tgt := 33) hx hb d_To_countAbove_132 (by decide) ?_
    have hl := lv_sub (l' := [(0, .ref h0), (3, .long x3), (5, .long x5), (7, .long y3), (9, .long (x16 * ((o0 x13.toNatClampNeg).toInt64))), (11, .int x11), (12, .int x12), (13, .int (x13 + (-1 : Int32)))]) hl [3, 4, 5, 2, 1, 6, 7, 0] rfl
    have hP : va_P G.1 CL ([kI G h0 5 o0]) H := hP
    have hD : va_D A ([kI G h0 5 o0]) := hD
    exact hk33 x3 x5 y3 (x16 * ((o0 x13.toNatClampNeg).toInt64)) x11 x12 (x13 + (-1 : Int32)) ls H locs hl hP hD hS h
set_option maxHeartbeats 4000000 in
set_option maxRecDepth 100000 in
theorem t_To_countAbove_33 {p : Program} {l : Launch} {e : Env} {s : State} {m : MethodId} {args : Array Value} {below : List Frame} {meth : Method} {c : Code} {A : Nat → Prop} {G : Gl} {h0 : Nat} (o0 : (Nat → Int32)) (Q : Int32 → Prop) (C : Cx p s m args meth c R_To b_To_countAbove 18 (some .int) G A) :
    ∀ (n : Nat) (x3 : Int64) (x5 : Int64) (x7 : Int64) (x9 : Int64) (x11 : Int32) (x12 : Int32) (x13 : Int32) (ls : Array Slot) (H : Heap) (locs : List Loc), lv_has ls 18 [(0, .ref h0), (3, .long x3), (5, .long x5), (7, .long x7), (9, .long x9), (11, .int x11), (12, .int x12), (13, .int x13)] → va_P G.1 CL ([kI G h0 5 o0]) H → va_D A ([kI G h0 5 o0]) → va_S A s.heap H locs → f_To_countAbove_33 o0 Q n x3 x5 x7 x9 x11 x12 x13 → W p l e rm_To_countAbove s m args below meth c H locs 0 0 (MQ below (va_Qi (fun (r : Int32) (u : Unit) => Q r) (fun (u : Unit) t => BW G A ([kI G h0 5 o0]) t) A) args s 0 0 A) (F0 m 33 ls []) := by
  obtain ⟨hx, hb, hml, hown, hr, hts, hK, hA, hlocks, hE⟩ := id C
  intro n
  induction n with
  | zero => intro x3 x5 x7 x9 x11 x12 x13 ls H locs hl hP hD hS h; exact absurd h id
  | succ n ih =>
    intro x3 x5 x7 x9 x11 x12 x13 ls H locs hl hP hD hS h
    have hP : va_P G.1 CL [kI G h0 5 o0] H := hP
    have hD : va_D A [kI G h0 5 o0] := hD
    unfold f_To_countAbove_33 at h
    refine lv_iload hx hb d_To_countAbove_33 (lv_at hl 7 rfl) ?_
    refine lv_if_lt (tgt := 135) hx hb d_To_countAbove_35 (by decide) (fun c5 => ?_) (fun c5 => ?_)
    · have h := h.1 c5
      refine lv_iload hx hb d_To_countAbove_135 (lv_at hl 6 rfl) ?_
      have hP : va_P G.1 CL ([kI G h0 5 o0]) H := hP
      have hD : va_D A ([kI G h0 5 o0]) := hD
      exact W.iret (v := x12) hx hb hr (fun t ht hW => ⟨⟨x12, (), rfl, h, by rw [ht]; exact hP, va_K.moved hW.alike hK, hD⟩, hS.F ht⟩) hS.2.2 d_To_countAbove_137
    · have h := h.2 c5
      refine lv_lload_n hx hb d_To_countAbove_38 rfl (lv_at hl 1 rfl) ?_
      refine lv_lload hx hb d_To_countAbove_39 (lv_at hl 3 rfl) ?_
      refine lv_lmul hx hb d_To_countAbove_41 ?_
      refine lv_lload hx hb d_To_countAbove_42 (lv_at hl 2 rfl) ?_
      refine lv_lload hx hb d_To_countAbove_44 (lv_at hl 4 rfl) ?_
      refine lv_lmul hx hb d_To_countAbove_46 ?_
      refine lv_lsub hx hb d_To_countAbove_47 ?_
      refine lv_lstore (lv' := [(14, .long ((x3 * x7) - (x5 * x9))), (0, .ref h0), (3, .long x3), (5, .long x5), (7, .long x7), (9, .long x9), (11, .int x11), (12, .int x12), (13, .int x13)]) hx hb d_To_countAbove_48 hl (by decide) rfl (fun ls hl => ?_)
      refine lv_lload_n hx hb d_To_countAbove_50 rfl (lv_at hl 2 rfl) ?_
      refine lv_lload hx hb d_To_countAbove_51 (lv_at hl 5 rfl) ?_
      refine lv_lmul hx hb d_To_countAbove_53 ?_
      refine lv_ldc2 hx hb hown (hts _ wc_To_9) d_To_countAbove_54 ?_
      refine lv_lload hx hb d_To_countAbove_57 (lv_at hl 4 rfl) ?_
      refine lv_lmul hx hb d_To_countAbove_59 ?_
      refine lv_ladd hx hb d_To_countAbove_60 ?_
      refine lv_lstore (lv' := [(16, .long ((x3 * x9) + ((400 : Int64) * x7))), (14, .long ((x3 * x7) - (x5 * x9))), (0, .ref h0), (3, .long x3), (5, .long x5), (7, .long x7), (9, .long x9), (11, .int x11), (12, .int x12), (13, .int x13)]) hx hb d_To_countAbove_61 hl (by decide) rfl (fun ls hl => ?_)
      refine lv_lload hx hb d_To_countAbove_63 (lv_at hl 0 rfl) ?_
      refine lv_lconst (v := (0 : Int64)) hx hb d_To_countAbove_65 (by decide) ?_
      refine W.lcmp hx hb d_To_countAbove_66 ?_
      refine lv_if_eq (tgt := 102) hx hb d_To_countAbove_67 (by decide) (fun c6 => ?_) (fun c6 => ?_)
      · have h := h.1 c6
        have hl := lv_sub (l' := [(0, .ref h0), (3, .long x3), (5, .long x5), (7, .long x7), (9, .long x9), (11, .int x11), (12, .int x12), (13, .int x13), (14, .long ((x3 * x7) - (x5 * x9))), (16, .long ((x3 * x9) + ((400 : Int64) * x7)))]) hl [2, 3, 4, 5, 6, 7, 8, 9, 1, 0] rfl
        have hP : va_P G.1 CL ([kI G h0 5 o0]) H := hP
        have hD : va_D A ([kI G h0 5 o0]) := hD
        exact t_To_countAbove_102 o0 (f_To_countAbove_33 o0 Q n) Q C ih x3 x5 x7 x9 x11 x12 x13 ((x3 * x7) - (x5 * x9)) ((x3 * x9) + ((400 : Int64) * x7)) ls _ locs hl hP hD hS h
      · have h := h.2 c6
        refine lv_iload hx hb d_To_countAbove_70 (lv_at hl 7 rfl) ?_
        refine lv_lload hx hb d_To_countAbove_72 (lv_at hl 0 rfl) ?_
        refine lv_lconst (v := (0 : Int64)) hx hb d_To_countAbove_74 (by decide) ?_
        refine W.lcmp hx hb d_To_countAbove_75 ?_
        refine lv_if_ge (tgt := 83) hx hb d_To_countAbove_76 (by decide) (fun c7 => ?_) (fun c7 => ?_)
        · have h := h.1 c7
          refine lv_iconst (v := (0 : Int32)) hx hb d_To_countAbove_83 (by decide) ?_
          refine lv_icmp_eq (tgt := 102) hx hb d_To_countAbove_84 (by decide) (fun c8 => ?_) (fun c8 => ?_)
          · have h := h.1 c8
            have hl := lv_sub (l' := [(0, .ref h0), (3, .long x3), (5, .long x5), (7, .long x7), (9, .long x9), (11, .int x11), (12, .int x12), (13, .int x13), (14, .long ((x3 * x7) - (x5 * x9))), (16, .long ((x3 * x9) + ((400 : Int64) * x7)))]) hl [2, 3, 4, 5, 6, 7, 8, 9, 1, 0] rfl
            have hP : va_P G.1 CL ([kI G h0 5 o0]) H := hP
            have hD : va_D A ([kI G h0 5 o0]) := hD
            exact t_To_countAbove_102 o0 (f_To_countAbove_33 o0 Q n) Q C ih x3 x5 x7 x9 x11 x12 x13 ((x3 * x7) - (x5 * x9)) ((x3 * x9) + ((400 : Int64) * x7)) ls _ locs hl hP hD hS h
          · have h := h.2 c8
            refine lv_iinc (v := (x12 + (1 : Int32))) (lv' := [(12, .int (x12 + (1 : Int32))), (16, .long ((x3 * x9) + ((400 : Int64) * x7))), (14, .long ((x3 * x7) - (x5 * x9))), (0, .ref h0), (3, .long x3), (5, .long x5), (7, .long x7), (9, .long x9), (11, .int x11), (13, .int x13)]) hx hb d_To_countAbove_87 hl (k := 8) rfl rfl (by decide) rfl (fun ls hl => ?_)
            refine lv_iload hx hb d_To_countAbove_90 (lv_at hl 8 rfl) ?_
            refine lv_if_ne (tgt := 99) hx hb d_To_countAbove_92 (by decide) (fun c9 => ?_) (fun c9 => ?_)
            · have h := h.2 c9
              refine lv_iconst (v := (0 : Int32)) hx hb d_To_countAbove_99 (by decide) ?_
              refine lv_istore (lv' := [(11, .int (0 : Int32)), (12, .int (x12 + (1 : Int32))), (16, .long ((x3 * x9) + ((400 : Int64) * x7))), (14, .long ((x3 * x7) - (x5 * x9))), (0, .ref h0), (3, .long x3), (5, .long x5), (7, .long x7), (9, .long x9), (13, .int x13)]) hx hb d_To_countAbove_100 hl (by decide) rfl (fun ls hl => ?_)
              have hl := lv_sub (l' := [(0, .ref h0), (3, .long x3), (5, .long x5), (7, .long x7), (9, .long x9), (11, .int (0 : Int32)), (12, .int (x12 + (1 : Int32))), (13, .int x13), (14, .long ((x3 * x7) - (x5 * x9))), (16, .long ((x3 * x9) + ((400 : Int64) * x7)))]) hl [4, 5, 6, 7, 8, 0, 1, 9, 3, 2] rfl
              have hP : va_P G.1 CL ([kI G h0 5 o0]) H := hP
              have hD : va_D A ([kI G h0 5 o0]) := hD
              exact t_To_countAbove_102 o0 (f_To_countAbove_33 o0 Q n) Q C ih x3 x5 x7 x9 (0 : Int32) (x12 + (1 : Int32)) x13 ((x3 * x7) - (x5 * x9)) ((x3 * x9) + ((400 : Int64) * x7)) ls _ locs hl hP hD hS h
            · have h := h.1 c9
              refine lv_iconst (v := (1 : Int32)) hx hb d_To_countAbove_95 (by decide) ?_
              refine lv_goto (tgt := 100) hx hb d_To_countAbove_96 (by decide) ?_
              refine lv_istore (lv' := [(11, .int (1 : Int32)), (12, .int (x12 + (1 : Int32))), (16, .long ((x3 * x9) + ((400 : Int64) * x7))), (14, .long ((x3 * x7) - (x5 * x9))), (0, .ref h0), (3, .long x3), (5, .long x5), (7, .long x7), (9, .long x9), (13, .int x13)]) hx hb d_To_countAbove_100 hl (by decide) rfl (fun ls hl => ?_)
              have hl := lv_sub (l' := [(0, .ref h0), (3, .long x3), (5, .long x5), (7, .long x7), (9, .long x9), (11, .int (1 : Int32)), (12, .int (x12 + (1 : Int32))), (13, .int x13), (14, .long ((x3 * x7) - (x5 * x9))), (16, .long ((x3 * x9) + ((400 : Int64) * x7)))]) hl [4, 5, 6, 7, 8, 0, 1, 9, 3, 2] rfl
              have hP : va_P G.1 CL ([kI G h0 5 o0]) H := hP
              have hD : va_D A ([kI G h0 5 o0]) := hD
              exact t_To_countAbove_102 o0 (f_To_countAbove_33 o0 Q n) Q C ih x3 x5 x7 x9 (1 : Int32) (x12 + (1 : Int32)) x13 ((x3 * x7) - (x5 * x9)) ((x3 * x9) + ((400 : Int64) * x7)) ls _ locs hl hP hD hS h
        · have h := h.2 c7
          refine lv_iconst (v := (1 : Int32)) hx hb d_To_countAbove_79 (by decide) ?_
          refine lv_goto (tgt := 84) hx hb d_To_countAbove_80 (by decide) ?_
          refine lv_icmp_eq (tgt := 102) hx hb d_To_countAbove_84 (by decide) (fun c10 => ?_) (fun c10 => ?_)
          · have h := h.1 c10
            have hl := lv_sub (l' := [(0, .ref h0), (3, .long x3), (5, .long x5), (7, .long x7), (9, .long x9), (11, .int x11), (12, .int x12), (13, .int x13), (14, .long ((x3 * x7) - (x5 * x9))), (16, .long ((x3 * x9) + ((400 : Int64) * x7)))]) hl [2, 3, 4, 5, 6, 7, 8, 9, 1, 0] rfl
            have hP : va_P G.1 CL ([kI G h0 5 o0]) H := hP
            have hD : va_D A ([kI G h0 5 o0]) := hD
            exact t_To_countAbove_102 o0 (f_To_countAbove_33 o0 Q n) Q C ih x3 x5 x7 x9 x11 x12 x13 ((x3 * x7) - (x5 * x9)) ((x3 * x9) + ((400 : Int64) * x7)) ls _ locs hl hP hD hS h
          · have h := h.2 c10
            refine lv_iinc (v := (x12 + (1 : Int32))) (lv' := [(12, .int (x12 + (1 : Int32))), (16, .long ((x3 * x9) + ((400 : Int64) * x7))), (14, .long ((x3 * x7) - (x5 * x9))), (0, .ref h0), (3, .long x3), (5, .long x5), (7, .long x7), (9, .long x9), (11, .int x11), (13, .int x13)]) hx hb d_To_countAbove_87 hl (k := 8) rfl rfl (by decide) rfl (fun ls hl => ?_)
            refine lv_iload hx hb d_To_countAbove_90 (lv_at hl 8 rfl) ?_
            refine lv_if_ne (tgt := 99) hx hb d_To_countAbove_92 (by decide) (fun c11 => ?_) (fun c11 => ?_)
            · have h := h.2 c11
              refine lv_iconst (v := (0 : Int32)) hx hb d_To_countAbove_99 (by decide) ?_
              refine lv_istore (lv' := [(11, .int (0 : Int32)), (12, .int (x12 + (1 : Int32))), (16, .long ((x3 * x9) + ((400 : Int64) * x7))), (14, .long ((x3 * x7) - (x5 * x9))), (0, .ref h0), (3, .long x3), (5, .long x5), (7, .long x7), (9, .long x9), (13, .int x13)]) hx hb d_To_countAbove_100 hl (by decide) rfl (fun ls hl => ?_)
              have hl := lv_sub (l' := [(0, .ref h0), (3, .long x3), (5, .long x5), (7, .long x7), (9, .long x9), (11, .int (0 : Int32)), (12, .int (x12 + (1 : Int32))), (13, .int x13), (14, .long ((x3 * x7) - (x5 * x9))), (16, .long ((x3 * x9) + ((400 : Int64) * x7)))]) hl [4, 5, 6, 7, 8, 0, 1, 9, 3, 2] rfl
              have hP : va_P G.1 CL ([kI G h0 5 o0]) H := hP
              have hD : va_D A ([kI G h0 5 o0]) := hD
              exact t_To_countAbove_102 o0 (f_To_countAbove_33 o0 Q n) Q C ih x3 x5 x7 x9 (0 : Int32) (x12 + (1 : Int32)) x13 ((x3 * x7) - (x5 * x9)) ((x3 * x9) + ((400 : Int64) * x7)) ls _ locs hl hP hD hS h
            · have h := h.1 c11
              refine lv_iconst (v := (1 : Int32)) hx hb d_To_countAbove_95 (by decide) ?_
              refine lv_goto (tgt := 100) hx hb d_To_countAbove_96 (by decide) ?_
              refine lv_istore (lv' := [(11, .int (1 : Int32)), (12, .int (x12 + (1 : Int32))), (16, .long ((x3 * x9) + ((400 : Int64) * x7))), (14, .long ((x3 * x7) - (x5 * x9))), (0, .ref h0), (3, .long x3), (5, .long x5), (7, .long x7), (9, .long x9), (13, .int x13)]) hx hb d_To_countAbove_100 hl (by decide) rfl (fun ls hl => ?_)
              have hl := lv_sub (l' := [(0, .ref h0), (3, .long x3), (5, .long x5), (7, .long x7), (9, .long x9), (11, .int (1 : Int32)), (12, .int (x12 + (1 : Int32))), (13, .int x13), (14, .long ((x3 * x7) - (x5 * x9))), (16, .long ((x3 * x9) + ((400 : Int64) * x7)))]) hl [4, 5, 6, 7, 8, 0, 1, 9, 3, 2] rfl
              have hP : va_P G.1 CL ([kI G h0 5 o0]) H := hP
              have hD : va_D A ([kI G h0 5 o0]) := hD
              exact t_To_countAbove_102 o0 (f_To_countAbove_33 o0 Q n) Q C ih x3 x5 x7 x9 (1 : Int32) (x12 + (1 : Int32)) x13 ((x3 * x7) - (x5 * x9)) ((x3 * x9) + ((400 : Int64) * x7)) ls _ locs hl hP hD hS h
set_option maxHeartbeats 4000000 in
set_option maxRecDepth 100000 in
theorem c_To_countAbove {l : Launch} {G : Gl} {h0 : Nat} {a1 : Int32} {a2 : Int32} {o0 : (Nat → Int32)} {Q : Int32 → Prop} (sz : Nat) (h : f_To_countAbove a1 a2 o0 Q) : Met l y_To_countAbove w_To_countAbove rm_To_countAbove (PcW G [.ref h0, .int a1, .int a2] sz ([kI G h0 5 o0])) (va_Qi (fun (r : Int32) (u : Unit) => Q r) (fun (u : Unit) t => BW G (va_A ([kI G h0 5 o0]) sz) ([kI G h0 5 o0]) t) (va_A ([kI G h0 5 o0]) sz)) 0 0 (va_A ([kI G h0 5 o0]) sz) := by
  refine Met.ofW (cc := b_To_countAbove) (maxL := 18) (ret := (some .int)) (by decide +kernel) rfl ?_
  intro p e s m args below meth c s₁ B hml hv
  obtain ⟨rfl, hsz, hP, hK, hD0, hE⟩ := hv
  have hx := B.exec
  have hb := B.bytes
  have hr := B.returns
  have hts0 := atoms_spec (ws := w_To_countAbove) B.pre
  have hts : ∀ w ∈ gw_tbl, w.before ([.ref h0, .int a1, .int a2]).toArray s = true := fun w hw => hts0 w (List.mem_cons_of_mem _ hw)
  have hown : s.vm.findClass R_To = some m.cls := findClass_of_methodNamed B.named
  have hlocks := B.notSynchronized
  subst hsz
  have hD := hD0.self (sz := s.heap.size)
  generalize hAe : va_A ([kI G h0 5 o0]) s.heap.size = A at hD hE ⊢
  have hA : ∀ q : Nat, s.heap.size ≤ q → A q := fun q h => by rw [← hAe]; exact Or.inr h
  have hS : va_S A s.heap s.heap [] := va_S.rf
  have C : Cx p s m ([.ref h0, .int a1, .int a2]).toArray meth c R_To b_To_countAbove 18 (some .int) G A := ⟨hx, hb, hml, hown, hr, hts, hK, hA, hlocks, hE⟩
  have hl := lv_entry ([.ref h0, .int a1, .int a2]) (n := 18) (Nat.le_of_ble_eq_true rfl)
  rw [lg_entry_eq]
  generalize (lg_sl ([.ref h0, .int a1, .int a2]) ++ List.replicate (18 - (lg_sl ([.ref h0, .int a1, .int a2])).length) Slot.unset).toArray = ls at hl ⊢
  have hl : lv_has ls 18 [(0, .ref h0), (1, .int a1), (2, .int a2)] := hl
  have hD : va_D A [kI G h0 5 o0] := hD
  unfold f_To_countAbove at h
  suffices key : ∀ (H : Heap) (locs : List Loc), va_P G.1 CL [kI G h0 5 o0] H → va_S A s.heap H locs → W p l e rm_To_countAbove s m ([.ref h0, .int a1, .int a2]).toArray below meth c H locs 0 0 (MQ below (va_Qi (fun (r : Int32) (u : Unit) => Q r) (fun (u : Unit) t => BW G A ([kI G h0 5 o0]) t) A) ([.ref h0, .int a1, .int a2]).toArray s 0 0 A) (F0 m 0 ls []) from key s.heap [] hP hS
  intro H locs hP hS
  refine lv_bipush (v := (20 : Int32)) hx hb d_To_countAbove_0 (by decide) ?_
  refine lv_iload_n hx hb d_To_countAbove_2 rfl (lv_at hl 2 rfl) ?_
  refine lv_imul hx hb d_To_countAbove_3 ?_
  refine lv_i2l (v := (((20 : Int32) * a2).toInt64)) hx hb d_To_countAbove_4 rfl ?_
  refine lv_lstore_n (lv' := [(3, .long (((20 : Int32) * a2).toInt64)), (0, .ref h0), (1, .int a1), (2, .int a2)]) hx hb d_To_countAbove_5 rfl hl (by decide) rfl (fun ls hl => ?_)
  refine lv_sipush (v := (400 : Int32)) hx hb d_To_countAbove_6 (by decide) ?_
  refine lv_iload_n hx hb d_To_countAbove_9 rfl (lv_at hl 3 rfl) ?_
  refine lv_iload_n hx hb d_To_countAbove_10 rfl (lv_at hl 3 rfl) ?_
  refine lv_imul hx hb d_To_countAbove_11 ?_
  refine lv_isub hx hb d_To_countAbove_12 ?_
  refine lv_i2l (v := (((400 : Int32) - (a2 * a2)).toInt64)) hx hb d_To_countAbove_13 rfl ?_
  refine lv_lstore (lv' := [(5, .long (((400 : Int32) - (a2 * a2)).toInt64)), (3, .long (((20 : Int32) * a2).toInt64)), (0, .ref h0), (1, .int a1), (2, .int a2)]) hx hb d_To_countAbove_14 hl (by decide) rfl (fun ls hl => ?_)
  refine lv_lconst (v := (0 : Int64)) hx hb d_To_countAbove_16 (by decide) ?_
  refine lv_lstore (lv' := [(7, .long (0 : Int64)), (5, .long (((400 : Int32) - (a2 * a2)).toInt64)), (3, .long (((20 : Int32) * a2).toInt64)), (0, .ref h0), (1, .int a1), (2, .int a2)]) hx hb d_To_countAbove_17 hl (by decide) rfl (fun ls hl => ?_)
  refine lv_lconst (v := (1 : Int64)) hx hb d_To_countAbove_19 (by decide) ?_
  refine lv_lstore (lv' := [(9, .long (1 : Int64)), (7, .long (0 : Int64)), (5, .long (((400 : Int32) - (a2 * a2)).toInt64)), (3, .long (((20 : Int32) * a2).toInt64)), (0, .ref h0), (1, .int a1), (2, .int a2)]) hx hb d_To_countAbove_20 hl (by decide) rfl (fun ls hl => ?_)
  refine lv_iconst (v := (0 : Int32)) hx hb d_To_countAbove_22 (by decide) ?_
  refine lv_istore (lv' := [(11, .int (0 : Int32)), (9, .long (1 : Int64)), (7, .long (0 : Int64)), (5, .long (((400 : Int32) - (a2 * a2)).toInt64)), (3, .long (((20 : Int32) * a2).toInt64)), (0, .ref h0), (1, .int a1), (2, .int a2)]) hx hb d_To_countAbove_23 hl (by decide) rfl (fun ls hl => ?_)
  refine lv_iconst (v := (0 : Int32)) hx hb d_To_countAbove_25 (by decide) ?_
  refine lv_istore (lv' := [(12, .int (0 : Int32)), (11, .int (0 : Int32)), (9, .long (1 : Int64)), (7, .long (0 : Int64)), (5, .long (((400 : Int32) - (a2 * a2)).toInt64)), (3, .long (((20 : Int32) * a2).toInt64)), (0, .ref h0), (1, .int a1), (2, .int a2)]) hx hb d_To_countAbove_26 hl (by decide) rfl (fun ls hl => ?_)
  refine lv_iload_n hx hb d_To_countAbove_28 rfl (lv_at hl 7 rfl) ?_
  refine lv_iconst (v := (1 : Int32)) hx hb d_To_countAbove_29 (by decide) ?_
  refine lv_isub hx hb d_To_countAbove_30 ?_
  refine lv_istore (lv' := [(13, .int (a1 - (1 : Int32))), (12, .int (0 : Int32)), (11, .int (0 : Int32)), (9, .long (1 : Int64)), (7, .long (0 : Int64)), (5, .long (((400 : Int32) - (a2 * a2)).toInt64)), (3, .long (((20 : Int32) * a2).toInt64)), (0, .ref h0), (1, .int a1), (2, .int a2)]) hx hb d_To_countAbove_31 hl (by decide) rfl (fun ls hl => ?_)
  have hl := lv_sub (l' := [(0, .ref h0), (3, .long (((20 : Int32) * a2).toInt64)), (5, .long (((400 : Int32) - (a2 * a2)).toInt64)), (7, .long (0 : Int64)), (9, .long (1 : Int64)), (11, .int (0 : Int32)), (12, .int (0 : Int32)), (13, .int (a1 - (1 : Int32)))]) hl [7, 6, 5, 4, 3, 2, 1, 0] rfl
  have hP : va_P G.1 CL ([kI G h0 5 o0]) H := hP
  have hD : va_D A ([kI G h0 5 o0]) := hD
  obtain ⟨w, h⟩ := h
  exact t_To_countAbove_33 o0 Q C w (((20 : Int32) * a2).toInt64) (((400 : Int32) - (a2 * a2)).toInt64) (0 : Int64) (1 : Int64) (0 : Int32) (0 : Int32) (a1 - (1 : Int32)) ls _ locs hl hP hD hS h
abbrev b_To_boxOf : ByteArray := prog_12_method_3_code
def y_To_boxOf : MethodName := ⟨R_To, "boxOf", "([III)I"⟩
abbrev w_To_boxOf : List Cond := Cond.code y_To_boxOf b_To_boxOf 7 (some .int) :: gw_tbl
theorem d_To_boxOf_0 : decode b_To_boxOf 0 = .ok (.iload_n 2, 1) := by decide +kernel
theorem d_To_boxOf_1 : decode b_To_boxOf 1 = .ok (.ifCond .lt 14, 3) := by decide +kernel
theorem d_To_boxOf_4 : decode b_To_boxOf 4 = .ok (.aload_n 0, 1) := by decide +kernel
theorem d_To_boxOf_5 : decode b_To_boxOf 5 = .ok (.iload_n 1, 1) := by decide +kernel
theorem d_To_boxOf_6 : decode b_To_boxOf 6 = .ok (.bipush (-20), 2) := by decide +kernel
theorem d_To_boxOf_8 : decode b_To_boxOf 8 = .ok (.invokestatic 11, 3) := by decide +kernel
theorem d_To_boxOf_11 : decode b_To_boxOf 11 = .ok (.iload_n 2, 1) := by decide +kernel
theorem d_To_boxOf_12 : decode b_To_boxOf 12 = .ok (.if_icmp .gt 6, 3) := by decide +kernel
theorem d_To_boxOf_15 : decode b_To_boxOf 15 = .ok (.bipush (-100), 2) := by decide +kernel
theorem d_To_boxOf_17 : decode b_To_boxOf 17 = .ok (.ireturn, 1) := by decide +kernel
theorem d_To_boxOf_18 : decode b_To_boxOf 18 = .ok (.bipush (-20), 2) := by decide +kernel
theorem d_To_boxOf_20 : decode b_To_boxOf 20 = .ok (.istore_n 3, 1) := by decide +kernel
theorem d_To_boxOf_21 : decode b_To_boxOf 21 = .ok (.bipush 20, 2) := by decide +kernel
theorem d_To_boxOf_23 : decode b_To_boxOf 23 = .ok (.istore 4, 2) := by decide +kernel
theorem d_To_boxOf_25 : decode b_To_boxOf 25 = .ok (.iconst 0, 1) := by decide +kernel
theorem d_To_boxOf_26 : decode b_To_boxOf 26 = .ok (.istore 5, 2) := by decide +kernel
theorem d_To_boxOf_28 : decode b_To_boxOf 28 = .ok (.iload 5, 2) := by decide +kernel
theorem d_To_boxOf_30 : decode b_To_boxOf 30 = .ok (.bipush 40, 2) := by decide +kernel
theorem d_To_boxOf_32 : decode b_To_boxOf 32 = .ok (.if_icmp .ge 46, 3) := by decide +kernel
theorem d_To_boxOf_35 : decode b_To_boxOf 35 = .ok (.iload 4, 2) := by decide +kernel
theorem d_To_boxOf_37 : decode b_To_boxOf 37 = .ok (.iload_n 3, 1) := by decide +kernel
theorem d_To_boxOf_38 : decode b_To_boxOf 38 = .ok (.isub, 1) := by decide +kernel
theorem d_To_boxOf_39 : decode b_To_boxOf 39 = .ok (.iconst 1, 1) := by decide +kernel
theorem d_To_boxOf_40 : decode b_To_boxOf 40 = .ok (.if_icmp .le 38, 3) := by decide +kernel
theorem d_To_boxOf_43 : decode b_To_boxOf 43 = .ok (.iload_n 3, 1) := by decide +kernel
theorem d_To_boxOf_44 : decode b_To_boxOf 44 = .ok (.iload 4, 2) := by decide +kernel
theorem d_To_boxOf_46 : decode b_To_boxOf 46 = .ok (.iadd, 1) := by decide +kernel
theorem d_To_boxOf_47 : decode b_To_boxOf 47 = .ok (.iconst 1, 1) := by decide +kernel
theorem d_To_boxOf_48 : decode b_To_boxOf 48 = .ok (.ishr, 1) := by decide +kernel
theorem d_To_boxOf_49 : decode b_To_boxOf 49 = .ok (.istore 6, 2) := by decide +kernel
theorem d_To_boxOf_51 : decode b_To_boxOf 51 = .ok (.aload_n 0, 1) := by decide +kernel
theorem d_To_boxOf_52 : decode b_To_boxOf 52 = .ok (.iload_n 1, 1) := by decide +kernel
theorem d_To_boxOf_53 : decode b_To_boxOf 53 = .ok (.iload 6, 2) := by decide +kernel
theorem d_To_boxOf_55 : decode b_To_boxOf 55 = .ok (.invokestatic 11, 3) := by decide +kernel
theorem d_To_boxOf_58 : decode b_To_boxOf 58 = .ok (.iload_n 2, 1) := by decide +kernel
theorem d_To_boxOf_59 : decode b_To_boxOf 59 = .ok (.if_icmp .le 9, 3) := by decide +kernel
theorem d_To_boxOf_62 : decode b_To_boxOf 62 = .ok (.iload 6, 2) := by decide +kernel
theorem d_To_boxOf_64 : decode b_To_boxOf 64 = .ok (.istore_n 3, 1) := by decide +kernel
theorem d_To_boxOf_65 : decode b_To_boxOf 65 = .ok (.goto 7, 3) := by decide +kernel
theorem d_To_boxOf_68 : decode b_To_boxOf 68 = .ok (.iload 6, 2) := by decide +kernel
theorem d_To_boxOf_70 : decode b_To_boxOf 70 = .ok (.istore 4, 2) := by decide +kernel
theorem d_To_boxOf_72 : decode b_To_boxOf 72 = .ok (.iinc 5 1, 3) := by decide +kernel
theorem d_To_boxOf_75 : decode b_To_boxOf 75 = .ok (.goto (-47), 3) := by decide +kernel
theorem d_To_boxOf_78 : decode b_To_boxOf 78 = .ok (.iload_n 3, 1) := by decide +kernel
theorem d_To_boxOf_79 : decode b_To_boxOf 79 = .ok (.ireturn, 1) := by decide +kernel
theorem ws_To_11 : wS R_To 11 y_To_countAbove b_To_countAbove 18 (some .int) 3 := ⟨⟨gw_tb (List.mem_of_getElem? (i := 799) (by decide +kernel)) rfl, gw_tb (List.mem_of_getElem? (i := 18) (by decide +kernel)) rfl, gw_tb (List.mem_of_getElem? (i := 790) (by decide +kernel)) rfl, by decide, by decide, by decide +kernel⟩, gw_tb (List.mem_of_getElem? (i := 789) (by decide +kernel)) rfl⟩
def f_To_boxOf_28 (o0 : (Nat → Int32)) (Q : Int32 → Prop) : Nat → Int32 → Int32 → Int32 → Int32 → Int32 → Prop
  | 0, _, _, _, _, _ => False
  | n + 1, x1, x2, x3, x4, x5 => ((40 : Int32) ≤ x5 → (Q x3)) ∧ (¬ (40 : Int32) ≤ x5 → (((x4 - x3) ≤ (1 : Int32) → (Q x3)) ∧ (¬ (x4 - x3) ≤ (1 : Int32) → (f_To_countAbove x1 ((x3 + x4) >>> ((1 : Int32) &&& 31)) o0 (fun z3 => (z3 ≤ x2 → ((f_To_boxOf_28 o0 Q n) x1 x2 x3 ((x3 + x4) >>> ((1 : Int32) &&& 31)) (x5 + (1 : Int32)))) ∧ (¬ z3 ≤ x2 → ((f_To_boxOf_28 o0 Q n) x1 x2 ((x3 + x4) >>> ((1 : Int32) &&& 31)) x4 (x5 + (1 : Int32)))))))))
def f_To_boxOf (a1 : Int32) (a2 : Int32) (o0 : (Nat → Int32)) (Q : Int32 → Prop) : Prop := (a2 < 0 → (Q (-100 : Int32))) ∧ (¬ a2 < 0 → (f_To_countAbove a1 (-20 : Int32) o0 (fun z6 => (a2 < z6 → ((∃ w, f_To_boxOf_28 o0 Q w a1 a2 (-20 : Int32) (20 : Int32) (0 : Int32)))) ∧ (¬ a2 < z6 → (Q (-100 : Int32))))))
abbrev rm_To_boxOf : Room := { frames := 1, cells := 0, slots := 0, locals := 37 }
set_option maxHeartbeats 4000000 in
set_option maxRecDepth 100000 in
theorem t_To_boxOf_28 {p : Program} {l : Launch} {e : Env} {s : State} {m : MethodId} {args : Array Value} {below : List Frame} {meth : Method} {c : Code} {A : Nat → Prop} {G : Gl} {h0 : Nat} (o0 : (Nat → Int32)) (Q : Int32 → Prop) (C : Cx p s m args meth c R_To b_To_boxOf 7 (some .int) G A) :
    ∀ (n : Nat) (x1 : Int32) (x2 : Int32) (x3 : Int32) (x4 : Int32) (x5 : Int32) (ls : Array Slot) (H : Heap) (locs : List Loc), lv_has ls 7 [(0, .ref h0), (1, .int x1), (2, .int x2), (3, .int x3), (4, .int x4), (5, .int x5)] → va_P G.1 CL ([kI G h0 5 o0]) H → va_D A ([kI G h0 5 o0]) → va_S A s.heap H locs → f_To_boxOf_28 o0 Q n x1 x2 x3 x4 x5 → W p l e rm_To_boxOf s m args below meth c H locs 0 0 (MQ below (va_Qi (fun (r : Int32) (u : Unit) => Q r) (fun (u : Unit) t => BW G A ([kI G h0 5 o0]) t) A) args s 0 0 A) (F0 m 28 ls []) := by
  obtain ⟨hx, hb, hml, hown, hr, hts, hK, hA, hlocks, hE⟩ := id C
  intro n
  induction n with
  | zero => intro x1 x2 x3 x4 x5 ls H locs hl hP hD hS h; exact absurd h id
  | succ n ih =>
    intro x1 x2 x3 x4 x5 ls H locs hl hP hD hS h
    have hP : va_P G.1 CL [kI G h0 5 o0] H := hP
    have hD : va_D A [kI G h0 5 o0] := hD
    unfold f_To_boxOf_28 at h
    refine lv_iload hx hb d_To_boxOf_28 (lv_at hl 5 rfl) ?_
    refine lv_bipush (v := (40 : Int32)) hx hb d_To_boxOf_30 (by decide) ?_
    refine lv_icmp_ge (tgt := 78) hx hb d_To_boxOf_32 (by decide) (fun c1 => ?_) (fun c1 => ?_)
    · have h := h.1 c1
      refine lv_iload_n hx hb d_To_boxOf_78 rfl (lv_at hl 3 rfl) ?_
      have hP : va_P G.1 CL ([kI G h0 5 o0]) H := hP
      have hD : va_D A ([kI G h0 5 o0]) := hD
      exact W.iret (v := x3) hx hb hr (fun t ht hW => ⟨⟨x3, (), rfl, h, by rw [ht]; exact hP, va_K.moved hW.alike hK, hD⟩, hS.F ht⟩) hS.2.2 d_To_boxOf_79
    · have h := h.2 c1
      refine lv_iload hx hb d_To_boxOf_35 (lv_at hl 4 rfl) ?_
      refine lv_iload_n hx hb d_To_boxOf_37 rfl (lv_at hl 3 rfl) ?_
      refine lv_isub hx hb d_To_boxOf_38 ?_
      refine lv_iconst (v := (1 : Int32)) hx hb d_To_boxOf_39 (by decide) ?_
      refine lv_icmp_le (tgt := 78) hx hb d_To_boxOf_40 (by decide) (fun c2 => ?_) (fun c2 => ?_)
      · have h := h.1 c2
        refine lv_iload_n hx hb d_To_boxOf_78 rfl (lv_at hl 3 rfl) ?_
        have hP : va_P G.1 CL ([kI G h0 5 o0]) H := hP
        have hD : va_D A ([kI G h0 5 o0]) := hD
        exact W.iret (v := x3) hx hb hr (fun t ht hW => ⟨⟨x3, (), rfl, h, by rw [ht]; exact hP, va_K.moved hW.alike hK, hD⟩, hS.F ht⟩) hS.2.2 d_To_boxOf_79
      · have h := h.2 c2
        refine lv_iload_n hx hb d_To_boxOf_43 rfl (lv_at hl 3 rfl) ?_
        refine lv_iload hx hb d_To_boxOf_44 (lv_at hl 4 rfl) ?_
        refine lv_iadd hx hb d_To_boxOf_46 ?_
        refine lv_iconst (v := (1 : Int32)) hx hb d_To_boxOf_47 (by decide) ?_
        refine lv_ishr hx hb d_To_boxOf_48 ?_
        refine lv_istore (lv' := [(6, .int ((x3 + x4) >>> ((1 : Int32) &&& 31))), (0, .ref h0), (1, .int x1), (2, .int x2), (3, .int x3), (4, .int x4), (5, .int x5)]) hx hb d_To_boxOf_49 hl (by decide) rfl (fun ls hl => ?_)
        refine lv_aload_n hx hb d_To_boxOf_51 rfl (lv_at hl 1 rfl) ?_
        refine lv_iload_n hx hb d_To_boxOf_52 rfl (lv_at hl 2 rfl) ?_
        refine lv_iload hx hb d_To_boxOf_53 (lv_at hl 0 rfl) ?_
        refine cl_Si (b := b_To_boxOf) (As := [.ref h0, .int x1, .int ((x3 + x4) >>> ((1 : Int32) &&& 31))]) (rest := []) (ws := [kI G h0 5 o0]) (wr := []) (w2 := fun (u : Unit) => [kI G h0 5 o0]) C (c_To_countAbove (h0 := h0) H.size h) ws_To_11 ⟨Nat.le_of_ble_eq_true rfl, Nat.le_of_ble_eq_true rfl⟩ hP hD hS [0] [] rfl rfl (by decide) (by decide) (by decide) [0] (by decide) (fun u => rfl) rfl hl.1 rfl (lv_room (Nat.le_of_ble_eq_true rfl)) d_To_boxOf_55 ⟨Nat.le_of_ble_eq_true rfl, Nat.le_of_ble_eq_true rfl⟩ rfl rfl (fun z3 u H locs h hP hD hS => ?_)
        have hP : va_P G.1 CL [kI G h0 5 o0] H := hP
        have hD : va_D A [kI G h0 5 o0] := hD
        refine lv_iload_n hx hb d_To_boxOf_58 rfl (lv_at hl 3 rfl) ?_
        refine lv_icmp_le (tgt := 68) hx hb d_To_boxOf_59 (by decide) (fun c4 => ?_) (fun c4 => ?_)
        · have h := h.1 c4
          refine lv_iload hx hb d_To_boxOf_68 (lv_at hl 0 rfl) ?_
          refine lv_istore (lv' := [(4, .int ((x3 + x4) >>> ((1 : Int32) &&& 31))), (6, .int ((x3 + x4) >>> ((1 : Int32) &&& 31))), (0, .ref h0), (1, .int x1), (2, .int x2), (3, .int x3), (5, .int x5)]) hx hb d_To_boxOf_70 hl (by decide) rfl (fun ls hl => ?_)
          refine lv_iinc (v := (x5 + (1 : Int32))) (lv' := [(5, .int (x5 + (1 : Int32))), (4, .int ((x3 + x4) >>> ((1 : Int32) &&& 31))), (6, .int ((x3 + x4) >>> ((1 : Int32) &&& 31))), (0, .ref h0), (1, .int x1), (2, .int x2), (3, .int x3)]) hx hb d_To_boxOf_72 hl (k := 6) rfl rfl (by decide) rfl (fun ls hl => ?_)
          refine lv_goto (tgt := 28) hx hb d_To_boxOf_75 (by decide) ?_
          have hl := lv_sub (l' := [(0, .ref h0), (1, .int x1), (2, .int x2), (3, .int x3), (4, .int ((x3 + x4) >>> ((1 : Int32) &&& 31))), (5, .int (x5 + (1 : Int32)))]) hl [3, 4, 5, 6, 1, 0] rfl
          have hP : va_P G.1 CL ([kI G h0 5 o0]) H := hP
          have hD : va_D A ([kI G h0 5 o0]) := hD
          exact ih x1 x2 x3 ((x3 + x4) >>> ((1 : Int32) &&& 31)) (x5 + (1 : Int32)) ls H locs hl hP hD hS h
        · have h := h.2 c4
          refine lv_iload hx hb d_To_boxOf_62 (lv_at hl 0 rfl) ?_
          refine lv_istore_n (lv' := [(3, .int ((x3 + x4) >>> ((1 : Int32) &&& 31))), (6, .int ((x3 + x4) >>> ((1 : Int32) &&& 31))), (0, .ref h0), (1, .int x1), (2, .int x2), (4, .int x4), (5, .int x5)]) hx hb d_To_boxOf_64 rfl hl (by decide) rfl (fun ls hl => ?_)
          refine lv_goto (tgt := 72) hx hb d_To_boxOf_65 (by decide) ?_
          refine lv_iinc (v := (x5 + (1 : Int32))) (lv' := [(5, .int (x5 + (1 : Int32))), (3, .int ((x3 + x4) >>> ((1 : Int32) &&& 31))), (6, .int ((x3 + x4) >>> ((1 : Int32) &&& 31))), (0, .ref h0), (1, .int x1), (2, .int x2), (4, .int x4)]) hx hb d_To_boxOf_72 hl (k := 6) rfl rfl (by decide) rfl (fun ls hl => ?_)
          refine lv_goto (tgt := 28) hx hb d_To_boxOf_75 (by decide) ?_
          have hl := lv_sub (l' := [(0, .ref h0), (1, .int x1), (2, .int x2), (3, .int ((x3 + x4) >>> ((1 : Int32) &&& 31))), (4, .int x4), (5, .int (x5 + (1 : Int32)))]) hl [3, 4, 5, 1, 6, 0] rfl
          have hP : va_P G.1 CL ([kI G h0 5 o0]) H := hP
          have hD : va_D A ([kI G h0 5 o0]) := hD
          exact ih x1 x2 ((x3 + x4) >>> ((1 : Int32) &&& 31)) x4 (x5 + (1 : Int32)) ls H locs hl hP hD hS h
set_option maxHeartbeats 4000000 in
set_option maxRecDepth 100000 in
theorem c_To_boxOf {l : Launch} {G : Gl} {h0 : Nat} {a1 : Int32} {a2 : Int32} {o0 : (Nat → Int32)} {Q : Int32 → Prop} (sz : Nat) (h : f_To_boxOf a1 a2 o0 Q) : Met l y_To_boxOf w_To_boxOf rm_To_boxOf (PcW G [.ref h0, .int a1, .int a2] sz ([kI G h0 5 o0])) (va_Qi (fun (r : Int32) (u : Unit) => Q r) (fun (u : Unit) t => BW G (va_A ([kI G h0 5 o0]) sz) ([kI G h0 5 o0]) t) (va_A ([kI G h0 5 o0]) sz)) 0 0 (va_A ([kI G h0 5 o0]) sz) := by
  refine Met.ofW (cc := b_To_boxOf) (maxL := 7) (ret := (some .int)) (by decide +kernel) rfl ?_
  intro p e s m args below meth c s₁ B hml hv
  obtain ⟨rfl, hsz, hP, hK, hD0, hE⟩ := hv
  have hx := B.exec
  have hb := B.bytes
  have hr := B.returns
  have hts0 := atoms_spec (ws := w_To_boxOf) B.pre
  have hts : ∀ w ∈ gw_tbl, w.before ([.ref h0, .int a1, .int a2]).toArray s = true := fun w hw => hts0 w (List.mem_cons_of_mem _ hw)
  have hown : s.vm.findClass R_To = some m.cls := findClass_of_methodNamed B.named
  have hlocks := B.notSynchronized
  subst hsz
  have hD := hD0.self (sz := s.heap.size)
  generalize hAe : va_A ([kI G h0 5 o0]) s.heap.size = A at hD hE ⊢
  have hA : ∀ q : Nat, s.heap.size ≤ q → A q := fun q h => by rw [← hAe]; exact Or.inr h
  have hS : va_S A s.heap s.heap [] := va_S.rf
  have C : Cx p s m ([.ref h0, .int a1, .int a2]).toArray meth c R_To b_To_boxOf 7 (some .int) G A := ⟨hx, hb, hml, hown, hr, hts, hK, hA, hlocks, hE⟩
  have hl := lv_entry ([.ref h0, .int a1, .int a2]) (n := 7) (Nat.le_of_ble_eq_true rfl)
  rw [lg_entry_eq]
  generalize (lg_sl ([.ref h0, .int a1, .int a2]) ++ List.replicate (7 - (lg_sl ([.ref h0, .int a1, .int a2])).length) Slot.unset).toArray = ls at hl ⊢
  have hl : lv_has ls 7 [(0, .ref h0), (1, .int a1), (2, .int a2)] := hl
  have hD : va_D A [kI G h0 5 o0] := hD
  unfold f_To_boxOf at h
  suffices key : ∀ (H : Heap) (locs : List Loc), va_P G.1 CL [kI G h0 5 o0] H → va_S A s.heap H locs → W p l e rm_To_boxOf s m ([.ref h0, .int a1, .int a2]).toArray below meth c H locs 0 0 (MQ below (va_Qi (fun (r : Int32) (u : Unit) => Q r) (fun (u : Unit) t => BW G A ([kI G h0 5 o0]) t) A) ([.ref h0, .int a1, .int a2]).toArray s 0 0 A) (F0 m 0 ls []) from key s.heap [] hP hS
  intro H locs hP hS
  refine lv_iload_n hx hb d_To_boxOf_0 rfl (lv_at hl 2 rfl) ?_
  refine lv_if_lt (tgt := 15) hx hb d_To_boxOf_1 (by decide) (fun c5 => ?_) (fun c5 => ?_)
  · have h := h.1 c5
    refine lv_bipush (v := (-100 : Int32)) hx hb d_To_boxOf_15 (by decide) ?_
    have hP : va_P G.1 CL ([kI G h0 5 o0]) H := hP
    have hD : va_D A ([kI G h0 5 o0]) := hD
    exact W.iret (v := (-100 : Int32)) hx hb hr (fun t ht hW => ⟨⟨(-100 : Int32), (), rfl, h, by rw [ht]; exact hP, va_K.moved hW.alike hK, hD⟩, hS.F ht⟩) hS.2.2 d_To_boxOf_17
  · have h := h.2 c5
    refine lv_aload_n hx hb d_To_boxOf_4 rfl (lv_at hl 0 rfl) ?_
    refine lv_iload_n hx hb d_To_boxOf_5 rfl (lv_at hl 1 rfl) ?_
    refine lv_bipush (v := (-20 : Int32)) hx hb d_To_boxOf_6 (by decide) ?_
    refine cl_Si (b := b_To_boxOf) (As := [.ref h0, .int a1, .int (-20 : Int32)]) (rest := []) (ws := [kI G h0 5 o0]) (wr := []) (w2 := fun (u : Unit) => [kI G h0 5 o0]) C (c_To_countAbove (h0 := h0) H.size h) ws_To_11 ⟨Nat.le_of_ble_eq_true rfl, Nat.le_of_ble_eq_true rfl⟩ hP hD hS [0] [] rfl rfl (by decide) (by decide) (by decide) [0] (by decide) (fun u => rfl) rfl hl.1 rfl (lv_room (Nat.le_of_ble_eq_true rfl)) d_To_boxOf_8 ⟨Nat.le_of_ble_eq_true rfl, Nat.le_of_ble_eq_true rfl⟩ rfl rfl (fun z6 u H locs h hP hD hS => ?_)
    have hP : va_P G.1 CL [kI G h0 5 o0] H := hP
    have hD : va_D A [kI G h0 5 o0] := hD
    refine lv_iload_n hx hb d_To_boxOf_11 rfl (lv_at hl 2 rfl) ?_
    refine lv_icmp_gt (tgt := 18) hx hb d_To_boxOf_12 (by decide) (fun c7 => ?_) (fun c7 => ?_)
    · have h := h.1 c7
      refine lv_bipush (v := (-20 : Int32)) hx hb d_To_boxOf_18 (by decide) ?_
      refine lv_istore_n (lv' := [(3, .int (-20 : Int32)), (0, .ref h0), (1, .int a1), (2, .int a2)]) hx hb d_To_boxOf_20 rfl hl (by decide) rfl (fun ls hl => ?_)
      refine lv_bipush (v := (20 : Int32)) hx hb d_To_boxOf_21 (by decide) ?_
      refine lv_istore (lv' := [(4, .int (20 : Int32)), (3, .int (-20 : Int32)), (0, .ref h0), (1, .int a1), (2, .int a2)]) hx hb d_To_boxOf_23 hl (by decide) rfl (fun ls hl => ?_)
      refine lv_iconst (v := (0 : Int32)) hx hb d_To_boxOf_25 (by decide) ?_
      refine lv_istore (lv' := [(5, .int (0 : Int32)), (4, .int (20 : Int32)), (3, .int (-20 : Int32)), (0, .ref h0), (1, .int a1), (2, .int a2)]) hx hb d_To_boxOf_26 hl (by decide) rfl (fun ls hl => ?_)
      have hl := lv_sub (l' := [(0, .ref h0), (1, .int a1), (2, .int a2), (3, .int (-20 : Int32)), (4, .int (20 : Int32)), (5, .int (0 : Int32))]) hl [3, 4, 5, 2, 1, 0] rfl
      have hP : va_P G.1 CL ([kI G h0 5 o0]) H := hP
      have hD : va_D A ([kI G h0 5 o0]) := hD
      obtain ⟨w, h⟩ := h
      exact t_To_boxOf_28 o0 Q C w a1 a2 (-20 : Int32) (20 : Int32) (0 : Int32) ls _ locs hl hP hD hS h
    · have h := h.2 c7
      refine lv_bipush (v := (-100 : Int32)) hx hb d_To_boxOf_15 (by decide) ?_
      have hP : va_P G.1 CL ([kI G h0 5 o0]) H := hP
      have hD : va_D A ([kI G h0 5 o0]) := hD
      exact W.iret (v := (-100 : Int32)) hx hb hr (fun t ht hW => ⟨⟨(-100 : Int32), (), rfl, h, by rw [ht]; exact hP, va_K.moved hW.alike hK, hD⟩, hS.F ht⟩) hS.2.2 d_To_boxOf_17
abbrev b_Pi_weakened : ByteArray := prog_7_method_4_code
def y_Pi_weakened : MethodName := ⟨R_Pi, "weakened", "(JI)J"⟩
abbrev w_Pi_weakened : List Cond := Cond.code y_Pi_weakened b_Pi_weakened 5 (some .long) :: gw_tbl
theorem d_Pi_weakened_0 : decode b_Pi_weakened 0 = .ok (.lload_n 0, 1) := by decide +kernel
theorem d_Pi_weakened_1 : decode b_Pi_weakened 1 = .ok (.lload_n 0, 1) := by decide +kernel
theorem d_Pi_weakened_2 : decode b_Pi_weakened 2 = .ok (.iload_n 2, 1) := by decide +kernel
theorem d_Pi_weakened_3 : decode b_Pi_weakened 3 = .ok (.i2l, 1) := by decide +kernel
theorem d_Pi_weakened_4 : decode b_Pi_weakened 4 = .ok (.lmul, 1) := by decide +kernel
theorem d_Pi_weakened_5 : decode b_Pi_weakened 5 = .ok (.ldc2_w 84, 3) := by decide +kernel
theorem d_Pi_weakened_8 : decode b_Pi_weakened 8 = .ok (.ldiv, 1) := by decide +kernel
theorem d_Pi_weakened_9 : decode b_Pi_weakened 9 = .ok (.lsub, 1) := by decide +kernel
theorem d_Pi_weakened_10 : decode b_Pi_weakened 10 = .ok (.lstore_n 3, 1) := by decide +kernel
theorem d_Pi_weakened_11 : decode b_Pi_weakened 11 = .ok (.ldc2_w 86, 3) := by decide +kernel
theorem d_Pi_weakened_14 : decode b_Pi_weakened 14 = .ok (.ldc2_w 88, 3) := by decide +kernel
theorem d_Pi_weakened_17 : decode b_Pi_weakened 17 = .ok (.lload_n 3, 1) := by decide +kernel
theorem d_Pi_weakened_18 : decode b_Pi_weakened 18 = .ok (.invokestatic 90, 3) := by decide +kernel
theorem d_Pi_weakened_21 : decode b_Pi_weakened 21 = .ok (.invokestatic 93, 3) := by decide +kernel
theorem d_Pi_weakened_24 : decode b_Pi_weakened 24 = .ok (.lreturn, 1) := by decide +kernel
theorem wc_Pi_84 : Cond.constantLong R_Pi 84 (1000) ∈ gw_tbl := gw_tb (List.mem_of_getElem? (i := 717) (by decide +kernel)) rfl
theorem wc_Pi_86 : Cond.constantLong R_Pi 86 (-1000000000) ∈ gw_tbl := gw_tb (List.mem_of_getElem? (i := 718) (by decide +kernel)) rfl
theorem wc_Pi_88 : Cond.constantLong R_Pi 88 (1000000000) ∈ gw_tbl := gw_tb (List.mem_of_getElem? (i := 719) (by decide +kernel)) rfl
theorem wm_Pi_90 : Cond.methodLink R_Pi 90 ⟨"java/lang/Math", "min", "(JJ)J"⟩ ∈ gw_tbl := gw_tb (List.mem_of_getElem? (i := 720) (by decide +kernel)) rfl
theorem wms_minL : Cond.static ⟨"java/lang/Math", "min", "(JJ)J"⟩ ∈ gw_tbl := gw_tb (List.mem_of_getElem? (i := 721) (by decide +kernel)) rfl
theorem wmc_minL : Cond.code ⟨"java/lang/Math", "min", "(JJ)J"⟩ prog_16_method_70_code 4 (some .long) ∈ gw_tbl := gw_tb (List.mem_of_getElem? (i := 722) (by decide +kernel)) rfl
theorem wm_Pi_93 : Cond.methodLink R_Pi 93 ⟨"java/lang/Math", "max", "(JJ)J"⟩ ∈ gw_tbl := gw_tb (List.mem_of_getElem? (i := 723) (by decide +kernel)) rfl
theorem wms_maxL : Cond.static ⟨"java/lang/Math", "max", "(JJ)J"⟩ ∈ gw_tbl := gw_tb (List.mem_of_getElem? (i := 724) (by decide +kernel)) rfl
theorem wmc_maxL : Cond.code ⟨"java/lang/Math", "max", "(JJ)J"⟩ prog_16_method_66_code 4 (some .long) ∈ gw_tbl := gw_tb (List.mem_of_getElem? (i := 725) (by decide +kernel)) rfl
def f_Pi_weakened (a0 : Int64) (a1 : Int32) (Q : Int64 → Prop) : Prop := ∀ y1 : Int64, y1 = (if (a0 - ((a0 * (a1.toInt64)) / (1000 : Int64))) < (1000000000 : Int64) then (a0 - ((a0 * (a1.toInt64)) / (1000 : Int64))) else (1000000000 : Int64)) → (∀ y2 : Int64, y2 = (if y1 < (-1000000000 : Int64) then (-1000000000 : Int64) else y1) → (Q y2))
abbrev rm_Pi_weakened : Room := { frames := 1, cells := 0, slots := 0, locals := 30 }
set_option maxHeartbeats 4000000 in
set_option maxRecDepth 100000 in
theorem c_Pi_weakened {l : Launch} {G : Gl} {a0 : Int64} {a1 : Int32} {Q : Int64 → Prop} (sz : Nat) (h : f_Pi_weakened a0 a1 Q) : Met l y_Pi_weakened w_Pi_weakened rm_Pi_weakened (PcW G [.long a0, .int a1] sz ([])) (va_Ql (fun (r : Int64) (u : Unit) => Q r) (fun (u : Unit) t => BW G (va_A ([]) sz) ([]) t) (va_A ([]) sz)) 0 0 (va_A ([]) sz) := by
  refine Met.ofW (cc := b_Pi_weakened) (maxL := 5) (ret := (some .long)) (by decide +kernel) rfl ?_
  intro p e s m args below meth c s₁ B hml hv
  obtain ⟨rfl, hsz, hP, hK, hD0, hE⟩ := hv
  have hx := B.exec
  have hb := B.bytes
  have hr := B.returns
  have hts0 := atoms_spec (ws := w_Pi_weakened) B.pre
  have hts : ∀ w ∈ gw_tbl, w.before ([.long a0, .int a1]).toArray s = true := fun w hw => hts0 w (List.mem_cons_of_mem _ hw)
  have hown : s.vm.findClass R_Pi = some m.cls := findClass_of_methodNamed B.named
  have hlocks := B.notSynchronized
  subst hsz
  have hD := hD0.self (sz := s.heap.size)
  generalize hAe : va_A ([]) s.heap.size = A at hD hE ⊢
  have hA : ∀ q : Nat, s.heap.size ≤ q → A q := fun q h => by rw [← hAe]; exact Or.inr h
  have hS : va_S A s.heap s.heap [] := va_S.rf
  have C : Cx p s m ([.long a0, .int a1]).toArray meth c R_Pi b_Pi_weakened 5 (some .long) G A := ⟨hx, hb, hml, hown, hr, hts, hK, hA, hlocks, hE⟩
  have hl := lv_entry ([.long a0, .int a1]) (n := 5) (Nat.le_of_ble_eq_true rfl)
  rw [lg_entry_eq]
  generalize (lg_sl ([.long a0, .int a1]) ++ List.replicate (5 - (lg_sl ([.long a0, .int a1])).length) Slot.unset).toArray = ls at hl ⊢
  have hl : lv_has ls 5 [(0, .long a0), (2, .int a1)] := hl
  have hD : va_D A [] := hD
  unfold f_Pi_weakened at h
  suffices key : ∀ (H : Heap) (locs : List Loc), va_P G.1 CL [] H → va_S A s.heap H locs → W p l e rm_Pi_weakened s m ([.long a0, .int a1]).toArray below meth c H locs 0 0 (MQ below (va_Ql (fun (r : Int64) (u : Unit) => Q r) (fun (u : Unit) t => BW G A ([]) t) A) ([.long a0, .int a1]).toArray s 0 0 A) (F0 m 0 ls []) from key s.heap [] hP hS
  intro H locs hP hS
  refine lv_lload_n hx hb d_Pi_weakened_0 rfl (lv_at hl 0 rfl) ?_
  refine lv_lload_n hx hb d_Pi_weakened_1 rfl (lv_at hl 0 rfl) ?_
  refine lv_iload_n hx hb d_Pi_weakened_2 rfl (lv_at hl 1 rfl) ?_
  refine lv_i2l (v := (a1.toInt64)) hx hb d_Pi_weakened_3 rfl ?_
  refine lv_lmul hx hb d_Pi_weakened_4 ?_
  refine lv_ldc2 hx hb hown (hts _ wc_Pi_84) d_Pi_weakened_5 ?_
  refine lv_ldiv hx hb d_Pi_weakened_8 (by decide) ?_
  refine lv_lsub hx hb d_Pi_weakened_9 ?_
  refine lv_lstore_n (lv' := [(3, .long (a0 - ((a0 * (a1.toInt64)) / (1000 : Int64)))), (0, .long a0), (2, .int a1)]) hx hb d_Pi_weakened_10 rfl hl (by decide) rfl (fun ls hl => ?_)
  refine lv_ldc2 hx hb hown (hts _ wc_Pi_86) d_Pi_weakened_11 ?_
  refine lv_ldc2 hx hb hown (hts _ wc_Pi_88) d_Pi_weakened_14 ?_
  refine lv_lload_n hx hb d_Pi_weakened_17 rfl (lv_at hl 0 rfl) ?_
  refine va_mmin_long hx hb (hml.trans hl.1.symm) hown (hts _ wm_Pi_90) (hts _ wms_minL) (hts _ wmi) (hts _ wmc_minL) (Nat.le_of_ble_eq_true rfl) (Nat.le_of_ble_eq_true rfl) (Nat.le_of_ble_eq_true rfl) (Nat.le_of_ble_eq_true rfl) d_Pi_weakened_18 ?_
  refine lv_topl (fun y1 ey1 => ?_)
  have h := h y1 ey1
  refine va_mmax_long hx hb (hml.trans hl.1.symm) hown (hts _ wm_Pi_93) (hts _ wms_maxL) (hts _ wmi) (hts _ wmc_maxL) (Nat.le_of_ble_eq_true rfl) (Nat.le_of_ble_eq_true rfl) (Nat.le_of_ble_eq_true rfl) (Nat.le_of_ble_eq_true rfl) d_Pi_weakened_21 ?_
  refine lv_topl (fun y2 ey2 => ?_)
  have h := h y2 ey2
  have hP : va_P G.1 CL ([]) H := hP
  have hD : va_D A ([]) := hD
  exact W.lret (v := y2) hx hb hr (fun t ht hW => ⟨⟨y2, (), rfl, h, by rw [ht]; exact hP, va_K.moved hW.alike hK, hD⟩, hS.F ht⟩) hS.2.2 d_Pi_weakened_24
abbrev b_Pi_passJoint : ByteArray := prog_7_method_3_code
def y_Pi_passJoint : MethodName := ⟨R_Pi, "passJoint", "(LPipeVoice$Moment;I)V"⟩
abbrev w_Pi_passJoint : List Cond := Cond.code y_Pi_passJoint b_Pi_passJoint 15 none :: gw_tbl
theorem d_Pi_passJoint_0 : decode b_Pi_passJoint 0 = .ok (.aload_n 1, 1) := by decide +kernel
theorem d_Pi_passJoint_1 : decode b_Pi_passJoint 1 = .ok (.getfield 80, 3) := by decide +kernel
theorem d_Pi_passJoint_4 : decode b_Pi_passJoint 4 = .ok (.iload_n 2, 1) := by decide +kernel
theorem d_Pi_passJoint_5 : decode b_Pi_passJoint 5 = .ok (.iaload, 1) := by decide +kernel
theorem d_Pi_passJoint_6 : decode b_Pi_passJoint 6 = .ok (.i2l, 1) := by decide +kernel
theorem d_Pi_passJoint_7 : decode b_Pi_passJoint 7 = .ok (.lstore_n 3, 1) := by decide +kernel
theorem d_Pi_passJoint_8 : decode b_Pi_passJoint 8 = .ok (.aload_n 1, 1) := by decide +kernel
theorem d_Pi_passJoint_9 : decode b_Pi_passJoint 9 = .ok (.getfield 80, 3) := by decide +kernel
theorem d_Pi_passJoint_12 : decode b_Pi_passJoint 12 = .ok (.iload_n 2, 1) := by decide +kernel
theorem d_Pi_passJoint_13 : decode b_Pi_passJoint 13 = .ok (.iconst 1, 1) := by decide +kernel
theorem d_Pi_passJoint_14 : decode b_Pi_passJoint 14 = .ok (.iadd, 1) := by decide +kernel
theorem d_Pi_passJoint_15 : decode b_Pi_passJoint 15 = .ok (.iaload, 1) := by decide +kernel
theorem d_Pi_passJoint_16 : decode b_Pi_passJoint 16 = .ok (.i2l, 1) := by decide +kernel
theorem d_Pi_passJoint_17 : decode b_Pi_passJoint 17 = .ok (.lstore 5, 2) := by decide +kernel
theorem d_Pi_passJoint_19 : decode b_Pi_passJoint 19 = .ok (.lload_n 3, 1) := by decide +kernel
theorem d_Pi_passJoint_20 : decode b_Pi_passJoint 20 = .ok (.lload 5, 2) := by decide +kernel
theorem d_Pi_passJoint_22 : decode b_Pi_passJoint 22 = .ok (.ladd, 1) := by decide +kernel
theorem d_Pi_passJoint_23 : decode b_Pi_passJoint 23 = .ok (.lconst 1, 1) := by decide +kernel
theorem d_Pi_passJoint_24 : decode b_Pi_passJoint 24 = .ok (.lcmp, 1) := by decide +kernel
theorem d_Pi_passJoint_25 : decode b_Pi_passJoint 25 = .ok (.ifCond .ge 4, 3) := by decide +kernel
theorem d_Pi_passJoint_28 : decode b_Pi_passJoint 28 = .ok (.return_, 1) := by decide +kernel
theorem d_Pi_passJoint_29 : decode b_Pi_passJoint 29 = .ok (.aload_n 1, 1) := by decide +kernel
theorem d_Pi_passJoint_30 : decode b_Pi_passJoint 30 = .ok (.getfield 67, 3) := by decide +kernel
theorem d_Pi_passJoint_33 : decode b_Pi_passJoint 33 = .ok (.iload_n 2, 1) := by decide +kernel
theorem d_Pi_passJoint_34 : decode b_Pi_passJoint 34 = .ok (.laload, 1) := by decide +kernel
theorem d_Pi_passJoint_35 : decode b_Pi_passJoint 35 = .ok (.lstore 7, 2) := by decide +kernel
theorem d_Pi_passJoint_37 : decode b_Pi_passJoint 37 = .ok (.aload_n 1, 1) := by decide +kernel
theorem d_Pi_passJoint_38 : decode b_Pi_passJoint 38 = .ok (.getfield 46, 3) := by decide +kernel
theorem d_Pi_passJoint_41 : decode b_Pi_passJoint 41 = .ok (.iload_n 2, 1) := by decide +kernel
theorem d_Pi_passJoint_42 : decode b_Pi_passJoint 42 = .ok (.iconst 1, 1) := by decide +kernel
theorem d_Pi_passJoint_43 : decode b_Pi_passJoint 43 = .ok (.iadd, 1) := by decide +kernel
theorem d_Pi_passJoint_44 : decode b_Pi_passJoint 44 = .ok (.laload, 1) := by decide +kernel
theorem d_Pi_passJoint_45 : decode b_Pi_passJoint 45 = .ok (.lstore 9, 2) := by decide +kernel
theorem d_Pi_passJoint_47 : decode b_Pi_passJoint 47 = .ok (.lload 5, 2) := by decide +kernel
theorem d_Pi_passJoint_49 : decode b_Pi_passJoint 49 = .ok (.lload_n 3, 1) := by decide +kernel
theorem d_Pi_passJoint_50 : decode b_Pi_passJoint 50 = .ok (.lsub, 1) := by decide +kernel
theorem d_Pi_passJoint_51 : decode b_Pi_passJoint 51 = .ok (.lload 7, 2) := by decide +kernel
theorem d_Pi_passJoint_53 : decode b_Pi_passJoint 53 = .ok (.lload 9, 2) := by decide +kernel
theorem d_Pi_passJoint_55 : decode b_Pi_passJoint 55 = .ok (.ladd, 1) := by decide +kernel
theorem d_Pi_passJoint_56 : decode b_Pi_passJoint 56 = .ok (.lmul, 1) := by decide +kernel
theorem d_Pi_passJoint_57 : decode b_Pi_passJoint 57 = .ok (.aload_n 1, 1) := by decide +kernel
theorem d_Pi_passJoint_58 : decode b_Pi_passJoint 58 = .ok (.getfield 49, 3) := by decide +kernel
theorem d_Pi_passJoint_61 : decode b_Pi_passJoint 61 = .ok (.iload_n 2, 1) := by decide +kernel
theorem d_Pi_passJoint_62 : decode b_Pi_passJoint 62 = .ok (.laload, 1) := by decide +kernel
theorem d_Pi_passJoint_63 : decode b_Pi_passJoint 63 = .ok (.ladd, 1) := by decide +kernel
theorem d_Pi_passJoint_64 : decode b_Pi_passJoint 64 = .ok (.lstore 11, 2) := by decide +kernel
theorem d_Pi_passJoint_66 : decode b_Pi_passJoint 66 = .ok (.lload 11, 2) := by decide +kernel
theorem d_Pi_passJoint_68 : decode b_Pi_passJoint 68 = .ok (.lload_n 3, 1) := by decide +kernel
theorem d_Pi_passJoint_69 : decode b_Pi_passJoint 69 = .ok (.lload 5, 2) := by decide +kernel
theorem d_Pi_passJoint_71 : decode b_Pi_passJoint 71 = .ok (.ladd, 1) := by decide +kernel
theorem d_Pi_passJoint_72 : decode b_Pi_passJoint 72 = .ok (.invokestatic 58, 3) := by decide +kernel
theorem d_Pi_passJoint_75 : decode b_Pi_passJoint 75 = .ok (.lstore 13, 2) := by decide +kernel
theorem d_Pi_passJoint_77 : decode b_Pi_passJoint 77 = .ok (.aload_n 1, 1) := by decide +kernel
theorem d_Pi_passJoint_78 : decode b_Pi_passJoint 78 = .ok (.getfield 49, 3) := by decide +kernel
theorem d_Pi_passJoint_81 : decode b_Pi_passJoint 81 = .ok (.iload_n 2, 1) := by decide +kernel
theorem d_Pi_passJoint_82 : decode b_Pi_passJoint 82 = .ok (.lload 11, 2) := by decide +kernel
theorem d_Pi_passJoint_84 : decode b_Pi_passJoint 84 = .ok (.lload_n 3, 1) := by decide +kernel
theorem d_Pi_passJoint_85 : decode b_Pi_passJoint 85 = .ok (.lload 5, 2) := by decide +kernel
theorem d_Pi_passJoint_87 : decode b_Pi_passJoint 87 = .ok (.ladd, 1) := by decide +kernel
theorem d_Pi_passJoint_88 : decode b_Pi_passJoint 88 = .ok (.invokestatic 64, 3) := by decide +kernel
theorem d_Pi_passJoint_91 : decode b_Pi_passJoint 91 = .ok (.lastore, 1) := by decide +kernel
theorem d_Pi_passJoint_92 : decode b_Pi_passJoint 92 = .ok (.aload_n 0, 1) := by decide +kernel
theorem d_Pi_passJoint_93 : decode b_Pi_passJoint 93 = .ok (.getfield 9, 3) := by decide +kernel
theorem d_Pi_passJoint_96 : decode b_Pi_passJoint 96 = .ok (.iload_n 2, 1) := by decide +kernel
theorem d_Pi_passJoint_97 : decode b_Pi_passJoint 97 = .ok (.iconst 1, 1) := by decide +kernel
theorem d_Pi_passJoint_98 : decode b_Pi_passJoint 98 = .ok (.iadd, 1) := by decide +kernel
theorem d_Pi_passJoint_99 : decode b_Pi_passJoint 99 = .ok (.lload 7, 2) := by decide +kernel
theorem d_Pi_passJoint_101 : decode b_Pi_passJoint 101 = .ok (.lload 13, 2) := by decide +kernel
theorem d_Pi_passJoint_103 : decode b_Pi_passJoint 103 = .ok (.ladd, 1) := by decide +kernel
theorem d_Pi_passJoint_104 : decode b_Pi_passJoint 104 = .ok (.lastore, 1) := by decide +kernel
theorem d_Pi_passJoint_105 : decode b_Pi_passJoint 105 = .ok (.aload_n 0, 1) := by decide +kernel
theorem d_Pi_passJoint_106 : decode b_Pi_passJoint 106 = .ok (.getfield 15, 3) := by decide +kernel
theorem d_Pi_passJoint_109 : decode b_Pi_passJoint 109 = .ok (.iload_n 2, 1) := by decide +kernel
theorem d_Pi_passJoint_110 : decode b_Pi_passJoint 110 = .ok (.lload 9, 2) := by decide +kernel
theorem d_Pi_passJoint_112 : decode b_Pi_passJoint 112 = .ok (.lload 13, 2) := by decide +kernel
theorem d_Pi_passJoint_114 : decode b_Pi_passJoint 114 = .ok (.lsub, 1) := by decide +kernel
theorem d_Pi_passJoint_115 : decode b_Pi_passJoint 115 = .ok (.lastore, 1) := by decide +kernel
theorem d_Pi_passJoint_116 : decode b_Pi_passJoint 116 = .ok (.return_, 1) := by decide +kernel
theorem wf_Pi_80 : Cond.fieldLink R_Pi 80 R_Mo "widths" "[I" ∈ gw_tbl := gw_tb (List.mem_of_getElem? (i := 250) (by decide +kernel)) rfl
theorem wf_Pi_67 : Cond.fieldLink R_Pi 67 R_Mo "toLips" "[J" ∈ gw_tbl := gw_tb (List.mem_of_getElem? (i := 253) (by decide +kernel)) rfl
theorem wf_Pi_46 : Cond.fieldLink R_Pi 46 R_Mo "toFolds" "[J" ∈ gw_tbl := gw_tb (List.mem_of_getElem? (i := 256) (by decide +kernel)) rfl
theorem wf_Pi_49 : Cond.fieldLink R_Pi 49 R_Mo "rests" "[J" ∈ gw_tbl := gw_tb (List.mem_of_getElem? (i := 259) (by decide +kernel)) rfl
theorem ws_Pi_58 : wS R_Pi 58 y_Mt_floorDiv b_Mt_floorDiv 6 (some .long) 2 := ⟨⟨gw_tb (List.mem_of_getElem? (i := 703) (by decide +kernel)) rfl, gw_tb (List.mem_of_getElem? (i := 2) (by decide +kernel)) rfl, gw_tb (List.mem_of_getElem? (i := 705) (by decide +kernel)) rfl, by decide, by decide, by decide +kernel⟩, gw_tb (List.mem_of_getElem? (i := 704) (by decide +kernel)) rfl⟩
theorem ws_Pi_64 : wS R_Pi 64 y_Mt_floorMod b_Mt_floorMod 6 (some .long) 2 := ⟨⟨gw_tb (List.mem_of_getElem? (i := 706) (by decide +kernel)) rfl, gw_tb (List.mem_of_getElem? (i := 2) (by decide +kernel)) rfl, gw_tb (List.mem_of_getElem? (i := 708) (by decide +kernel)) rfl, by decide, by decide, by decide +kernel⟩, gw_tb (List.mem_of_getElem? (i := 707) (by decide +kernel)) rfl⟩
theorem wf_Pi_9 : Cond.fieldLink R_Pi 9 R_Pi "nextToLips" "[J" ∈ gw_tbl := gw_tb (List.mem_of_getElem? (i := 355) (by decide +kernel)) rfl
theorem wf_Pi_15 : Cond.fieldLink R_Pi 15 R_Pi "nextToFolds" "[J" ∈ gw_tbl := gw_tb (List.mem_of_getElem? (i := 356) (by decide +kernel)) rfl
def f_Pi_passJoint (a1 : Int32) (o0 : Ob) (r1 : (Nat → Nat)) (o1 : Ob) (Q : Ob → Ob → Prop) : Prop := (vp_in a1 5) ∧ ((vp_in (a1 + (1 : Int32)) 5) ∧ (∀ y3 : Int64, y3 = ((((gA o1 5) a1.toNatClampNeg).toInt64) + (((gA o1 5) ((a1 + (1 : Int32)).toNatClampNeg)).toInt64)) → ((0 ≤ (lg_cmp y3 (1 : Int64)) → ((vp_in a1 5) ∧ ((vp_in (a1 + (1 : Int32)) 5) ∧ (∀ y7 : Int64, y7 = ((((gA o1 5) ((a1 + (1 : Int32)).toNatClampNeg)).toInt64) - (((gA o1 5) a1.toNatClampNeg).toInt64)) → (∀ y8 : Int64, y8 = (((gB o1 6) a1.toNatClampNeg) + ((gB o1 7) ((a1 + (1 : Int32)).toNatClampNeg))) → ((vp_in a1 6) ∧ (∀ y10 : Int64, y10 = ((((gA o1 5) a1.toNatClampNeg).toInt64) + (((gA o1 5) ((a1 + (1 : Int32)).toNatClampNeg)).toInt64)) → (f_Mt_floorDiv ((y7 * y8) + ((gB o1 8) a1.toNatClampNeg)) y10 (fun z11 => ∀ y12 : Int64, y12 = ((((gA o1 5) a1.toNatClampNeg).toInt64) + (((gA o1 5) ((a1 + (1 : Int32)).toNatClampNeg)).toInt64)) → (f_Mt_floorMod ((y7 * y8) + ((gB o1 8) a1.toNatClampNeg)) y12 (fun z13 => (vp_in a1 6) ∧ ((vp_in (a1 + (1 : Int32)) 5) ∧ (∀ y16 : Int64, y16 = (((gB o1 7) ((a1 + (1 : Int32)).toNatClampNeg)) - z11) → ((vp_in a1 5) ∧ (Q (sB (sB o0 1 (vp_updL (gB o0 1) ((a1 + (1 : Int32)).toNatClampNeg) (((gB o1 6) a1.toNatClampNeg) + z11))) 2 (vp_updL (gB o0 2) a1.toNatClampNeg y16)) (sB o1 8 (vp_updL (gB o1 8) a1.toNatClampNeg z13))))))))))))))))) ∧ (¬ 0 ≤ (lg_cmp y3 (1 : Int64)) → (Q o0 o1)))))
abbrev rm_Pi_passJoint : Room := { frames := 1, cells := 0, slots := 0, locals := 25 }
set_option maxHeartbeats 4000000 in
set_option maxRecDepth 100000 in
theorem c_Pi_passJoint {l : Launch} {G : Gl} {h0 : Nat} {h1 : Nat} {q0 : Nat → Nat} {q1 : Nat → Nat} {a1 : Int32} {o0 : Ob} {r1 : (Nat → Nat)} {o1 : Ob} {Q : Ob → Ob → Prop} (sz : Nat) (h : f_Pi_passJoint a1 o0 r1 o1 Q) : Met l y_Pi_passJoint w_Pi_passJoint rm_Pi_passJoint (PcW G [.ref h0, .ref h1, .int a1] sz (cw_Pi G h0 q0 o0 ++ (cw_Mo G h1 q1 r1 o1))) (va_Qv (fun (u : Ob × Ob) => Q u.1 u.2) (fun (u : Ob × Ob) t => BW G (va_A (cw_Pi G h0 q0 o0 ++ (cw_Mo G h1 q1 r1 o1)) sz) (cw_Pi G h0 q0 u.1 ++ (cw_Mo G h1 q1 r1 u.2)) t) (va_A (cw_Pi G h0 q0 o0 ++ (cw_Mo G h1 q1 r1 o1)) sz)) 0 0 (va_A (cw_Pi G h0 q0 o0 ++ (cw_Mo G h1 q1 r1 o1)) sz) := by
  refine Met.ofW (cc := b_Pi_passJoint) (maxL := 15) (ret := none) (by decide +kernel) rfl ?_
  intro p e s m args below meth c s₁ B hml hv
  obtain ⟨rfl, hsz, hP, hK, hD0, hE⟩ := hv
  have hx := B.exec
  have hb := B.bytes
  have hr := B.returns
  have hts0 := atoms_spec (ws := w_Pi_passJoint) B.pre
  have hts : ∀ w ∈ gw_tbl, w.before ([.ref h0, .ref h1, .int a1]).toArray s = true := fun w hw => hts0 w (List.mem_cons_of_mem _ hw)
  have hown : s.vm.findClass R_Pi = some m.cls := findClass_of_methodNamed B.named
  have hlocks := B.notSynchronized
  subst hsz
  have hD := hD0.self (sz := s.heap.size)
  generalize hAe : va_A (cw_Pi G h0 q0 o0 ++ (cw_Mo G h1 q1 r1 o1)) s.heap.size = A at hD hE ⊢
  have hA : ∀ q : Nat, s.heap.size ≤ q → A q := fun q h => by rw [← hAe]; exact Or.inr h
  have hS : va_S A s.heap s.heap [] := va_S.rf
  have C : Cx p s m ([.ref h0, .ref h1, .int a1]).toArray meth c R_Pi b_Pi_passJoint 15 none G A := ⟨hx, hb, hml, hown, hr, hts, hK, hA, hlocks, hE⟩
  have hl := lv_entry ([.ref h0, .ref h1, .int a1]) (n := 15) (Nat.le_of_ble_eq_true rfl)
  rw [lg_entry_eq]
  generalize (lg_sl ([.ref h0, .ref h1, .int a1]) ++ List.replicate (15 - (lg_sl ([.ref h0, .ref h1, .int a1])).length) Slot.unset).toArray = ls at hl ⊢
  have hl : lv_has ls 15 [(0, .ref h0), (1, .ref h1), (2, .int a1)] := hl
  have hD : va_D A [(h0, .inr (6, [.int (gI o0 0), .ref (q0 1), .ref (q0 2)])), kJ G (q0 1) 5 (gB o0 1), kJ G (q0 2) 5 (gB o0 2), (h1, .inr (5, [.ref (r1 0), .int (gI o1 1), .int (gI o1 2), .ref (q1 3), .ref (q1 4), .ref (q1 5), .ref (q1 6), .ref (q1 7), .ref (q1 8), .ref (q1 9), .ref (q1 10), .int (gI o1 11), .int (gI o1 12)])), kI G (q1 3) 20 (gA o1 3), kI G (q1 4) 20 (gA o1 4), kI G (q1 5) 5 (gA o1 5), kJ G (q1 6) 5 (gB o1 6), kJ G (q1 7) 5 (gB o1 7), kJ G (q1 8) 6 (gB o1 8), kI G (q1 10) 5 (gA o1 10)] := hD
  unfold f_Pi_passJoint at h
  suffices key : ∀ (H : Heap) (locs : List Loc), va_P G.1 CL [(h0, .inr (6, [.int (gI o0 0), .ref (q0 1), .ref (q0 2)])), kJ G (q0 1) 5 (gB o0 1), kJ G (q0 2) 5 (gB o0 2), (h1, .inr (5, [.ref (r1 0), .int (gI o1 1), .int (gI o1 2), .ref (q1 3), .ref (q1 4), .ref (q1 5), .ref (q1 6), .ref (q1 7), .ref (q1 8), .ref (q1 9), .ref (q1 10), .int (gI o1 11), .int (gI o1 12)])), kI G (q1 3) 20 (gA o1 3), kI G (q1 4) 20 (gA o1 4), kI G (q1 5) 5 (gA o1 5), kJ G (q1 6) 5 (gB o1 6), kJ G (q1 7) 5 (gB o1 7), kJ G (q1 8) 6 (gB o1 8), kI G (q1 10) 5 (gA o1 10)] H → va_S A s.heap H locs → W p l e rm_Pi_passJoint s m ([.ref h0, .ref h1, .int a1]).toArray below meth c H locs 0 0 (MQ below (va_Qv (fun (u : Ob × Ob) => Q u.1 u.2) (fun (u : Ob × Ob) t => BW G A (cw_Pi G h0 q0 u.1 ++ (cw_Mo G h1 q1 r1 u.2)) t) A) ([.ref h0, .ref h1, .int a1]).toArray s 0 0 A) (F0 m 0 ls []) from key s.heap [] hP hS
  intro H locs hP hS
  refine lv_aload_n hx hb d_Pi_passJoint_0 rfl (lv_at hl 1 rfl) ?_
  refine va_get (D := G.1) (ci := 5) (v := .ref (q1 5)) (C := R_Mo) (T := T_Mo) (N := 13) hx hb hts i_Mo hown hK hP 3 rfl rfl 5 (by decide) (hts _ wf_Pi_80) (fun _ h9 => h9) rfl d_Pi_passJoint_1 ?_
  refine lv_iload_n hx hb d_Pi_passJoint_4 rfl (lv_at hl 2 rfl) ?_
  have g1 := h.1
  have h := h.2
  refine xa_iald hx hb hK hP 6 0 rfl rfl g1 (k := a1.toNatClampNeg) rfl d_Pi_passJoint_5 ?_
  refine lv_i2l (v := (((gA o1 5) a1.toNatClampNeg).toInt64)) hx hb d_Pi_passJoint_6 rfl ?_
  refine lv_lstore_n (lv' := [(3, .long (((gA o1 5) a1.toNatClampNeg).toInt64)), (0, .ref h0), (1, .ref h1), (2, .int a1)]) hx hb d_Pi_passJoint_7 rfl hl (by decide) rfl (fun ls hl => ?_)
  refine lv_aload_n hx hb d_Pi_passJoint_8 rfl (lv_at hl 2 rfl) ?_
  refine va_get (D := G.1) (ci := 5) (v := .ref (q1 5)) (C := R_Mo) (T := T_Mo) (N := 13) hx hb hts i_Mo hown hK hP 3 rfl rfl 5 (by decide) (hts _ wf_Pi_80) (fun _ h9 => h9) rfl d_Pi_passJoint_9 ?_
  refine lv_iload_n hx hb d_Pi_passJoint_12 rfl (lv_at hl 3 rfl) ?_
  refine lv_iconst (v := (1 : Int32)) hx hb d_Pi_passJoint_13 (by decide) ?_
  refine lv_iadd hx hb d_Pi_passJoint_14 ?_
  have g2 := h.1
  have h := h.2
  refine xa_iald hx hb hK hP 6 0 rfl rfl g2 (k := (a1 + (1 : Int32)).toNatClampNeg) rfl d_Pi_passJoint_15 ?_
  refine lv_i2l (v := (((gA o1 5) ((a1 + (1 : Int32)).toNatClampNeg)).toInt64)) hx hb d_Pi_passJoint_16 rfl ?_
  refine lv_lstore (lv' := [(5, .long (((gA o1 5) ((a1 + (1 : Int32)).toNatClampNeg)).toInt64)), (3, .long (((gA o1 5) a1.toNatClampNeg).toInt64)), (0, .ref h0), (1, .ref h1), (2, .int a1)]) hx hb d_Pi_passJoint_17 hl (by decide) rfl (fun ls hl => ?_)
  refine lv_lload_n hx hb d_Pi_passJoint_19 rfl (lv_at hl 1 rfl) ?_
  refine lv_lload hx hb d_Pi_passJoint_20 (lv_at hl 0 rfl) ?_
  refine lv_ladd hx hb d_Pi_passJoint_22 ?_
  refine lv_topl (fun y3 ey3 => ?_)
  have h := h y3 ey3
  refine lv_lconst (v := (1 : Int64)) hx hb d_Pi_passJoint_23 (by decide) ?_
  refine W.lcmp hx hb d_Pi_passJoint_24 ?_
  refine lv_if_ge (tgt := 29) hx hb d_Pi_passJoint_25 (by decide) (fun c4 => ?_) (fun c4 => ?_)
  · have h := h.1 c4
    refine lv_aload_n hx hb d_Pi_passJoint_29 rfl (lv_at hl 3 rfl) ?_
    refine va_get (D := G.1) (ci := 5) (v := .ref (q1 6)) (C := R_Mo) (T := T_Mo) (N := 13) hx hb hts i_Mo hown hK hP 3 rfl rfl 6 (by decide) (hts _ wf_Pi_67) (fun _ h9 => h9) rfl d_Pi_passJoint_30 ?_
    refine lv_iload_n hx hb d_Pi_passJoint_33 rfl (lv_at hl 4 rfl) ?_
    have g5 := h.1
    have h := h.2
    refine xa_lald hx hb hK hP 7 1 rfl rfl g5 (k := a1.toNatClampNeg) rfl d_Pi_passJoint_34 ?_
    refine lv_lstore (lv' := [(7, .long ((gB o1 6) a1.toNatClampNeg)), (5, .long (((gA o1 5) ((a1 + (1 : Int32)).toNatClampNeg)).toInt64)), (3, .long (((gA o1 5) a1.toNatClampNeg).toInt64)), (0, .ref h0), (1, .ref h1), (2, .int a1)]) hx hb d_Pi_passJoint_35 hl (by decide) rfl (fun ls hl => ?_)
    refine lv_aload_n hx hb d_Pi_passJoint_37 rfl (lv_at hl 4 rfl) ?_
    refine va_get (D := G.1) (ci := 5) (v := .ref (q1 7)) (C := R_Mo) (T := T_Mo) (N := 13) hx hb hts i_Mo hown hK hP 3 rfl rfl 7 (by decide) (hts _ wf_Pi_46) (fun _ h9 => h9) rfl d_Pi_passJoint_38 ?_
    refine lv_iload_n hx hb d_Pi_passJoint_41 rfl (lv_at hl 5 rfl) ?_
    refine lv_iconst (v := (1 : Int32)) hx hb d_Pi_passJoint_42 (by decide) ?_
    refine lv_iadd hx hb d_Pi_passJoint_43 ?_
    have g6 := h.1
    have h := h.2
    refine xa_lald hx hb hK hP 8 1 rfl rfl g6 (k := (a1 + (1 : Int32)).toNatClampNeg) rfl d_Pi_passJoint_44 ?_
    refine lv_lstore (lv' := [(9, .long ((gB o1 7) ((a1 + (1 : Int32)).toNatClampNeg))), (7, .long ((gB o1 6) a1.toNatClampNeg)), (5, .long (((gA o1 5) ((a1 + (1 : Int32)).toNatClampNeg)).toInt64)), (3, .long (((gA o1 5) a1.toNatClampNeg).toInt64)), (0, .ref h0), (1, .ref h1), (2, .int a1)]) hx hb d_Pi_passJoint_45 hl (by decide) rfl (fun ls hl => ?_)
    refine lv_lload hx hb d_Pi_passJoint_47 (lv_at hl 2 rfl) ?_
    refine lv_lload_n hx hb d_Pi_passJoint_49 rfl (lv_at hl 3 rfl) ?_
    refine lv_lsub hx hb d_Pi_passJoint_50 ?_
    refine lv_topl (fun y7 ey7 => ?_)
    have h := h y7 ey7
    refine lv_lload hx hb d_Pi_passJoint_51 (lv_at hl 1 rfl) ?_
    refine lv_lload hx hb d_Pi_passJoint_53 (lv_at hl 0 rfl) ?_
    refine lv_ladd hx hb d_Pi_passJoint_55 ?_
    refine lv_topl (fun y8 ey8 => ?_)
    have h := h y8 ey8
    refine lv_lmul hx hb d_Pi_passJoint_56 ?_
    refine lv_aload_n hx hb d_Pi_passJoint_57 rfl (lv_at hl 5 rfl) ?_
    refine va_get (D := G.1) (ci := 5) (v := .ref (q1 8)) (C := R_Mo) (T := T_Mo) (N := 13) hx hb hts i_Mo hown hK hP 3 rfl rfl 8 (by decide) (hts _ wf_Pi_49) (fun _ h9 => h9) rfl d_Pi_passJoint_58 ?_
    refine lv_iload_n hx hb d_Pi_passJoint_61 rfl (lv_at hl 6 rfl) ?_
    have g9 := h.1
    have h := h.2
    refine xa_lald hx hb hK hP 9 1 rfl rfl g9 (k := a1.toNatClampNeg) rfl d_Pi_passJoint_62 ?_
    refine lv_ladd hx hb d_Pi_passJoint_63 ?_
    refine lv_lstore (lv' := [(11, .long ((y7 * y8) + ((gB o1 8) a1.toNatClampNeg))), (9, .long ((gB o1 7) ((a1 + (1 : Int32)).toNatClampNeg))), (7, .long ((gB o1 6) a1.toNatClampNeg)), (5, .long (((gA o1 5) ((a1 + (1 : Int32)).toNatClampNeg)).toInt64)), (3, .long (((gA o1 5) a1.toNatClampNeg).toInt64)), (0, .ref h0), (1, .ref h1), (2, .int a1)]) hx hb d_Pi_passJoint_64 hl (by decide) rfl (fun ls hl => ?_)
    refine lv_lload hx hb d_Pi_passJoint_66 (lv_at hl 0 rfl) ?_
    refine lv_lload_n hx hb d_Pi_passJoint_68 rfl (lv_at hl 4 rfl) ?_
    refine lv_lload hx hb d_Pi_passJoint_69 (lv_at hl 3 rfl) ?_
    refine lv_ladd hx hb d_Pi_passJoint_71 ?_
    refine lv_topl (fun y10 ey10 => ?_)
    have h := h y10 ey10
    refine cl_Sl (b := b_Pi_passJoint) (As := [.long ((y7 * y8) + ((gB o1 8) a1.toNatClampNeg)), .long y10]) (rest := []) (ws := [(h0, .inr (6, [.int (gI o0 0), .ref (q0 1), .ref (q0 2)])), kJ G (q0 1) 5 (gB o0 1), kJ G (q0 2) 5 (gB o0 2), (h1, .inr (5, [.ref (r1 0), .int (gI o1 1), .int (gI o1 2), .ref (q1 3), .ref (q1 4), .ref (q1 5), .ref (q1 6), .ref (q1 7), .ref (q1 8), .ref (q1 9), .ref (q1 10), .int (gI o1 11), .int (gI o1 12)])), kI G (q1 3) 20 (gA o1 3), kI G (q1 4) 20 (gA o1 4), kI G (q1 5) 5 (gA o1 5), kJ G (q1 6) 5 (gB o1 6), kJ G (q1 7) 5 (gB o1 7), kJ G (q1 8) 6 (gB o1 8), kI G (q1 10) 5 (gA o1 10)]) (wr := [(h0, .inr (6, [.int (gI o0 0), .ref (q0 1), .ref (q0 2)])), kJ G (q0 1) 5 (gB o0 1), kJ G (q0 2) 5 (gB o0 2), (h1, .inr (5, [.ref (r1 0), .int (gI o1 1), .int (gI o1 2), .ref (q1 3), .ref (q1 4), .ref (q1 5), .ref (q1 6), .ref (q1 7), .ref (q1 8), .ref (q1 9), .ref (q1 10), .int (gI o1 11), .int (gI o1 12)])), kI G (q1 3) 20 (gA o1 3), kI G (q1 4) 20 (gA o1 4), kI G (q1 5) 5 (gA o1 5), kJ G (q1 6) 5 (gB o1 6), kJ G (q1 7) 5 (gB o1 7), kJ G (q1 8) 6 (gB o1 8), kI G (q1 10) 5 (gA o1 10)]) (w2 := fun (u : Unit) => [(h0, .inr (6, [.int (gI o0 0), .ref (q0 1), .ref (q0 2)])), kJ G (q0 1) 5 (gB o0 1), kJ G (q0 2) 5 (gB o0 2), (h1, .inr (5, [.ref (r1 0), .int (gI o1 1), .int (gI o1 2), .ref (q1 3), .ref (q1 4), .ref (q1 5), .ref (q1 6), .ref (q1 7), .ref (q1 8), .ref (q1 9), .ref (q1 10), .int (gI o1 11), .int (gI o1 12)])), kI G (q1 3) 20 (gA o1 3), kI G (q1 4) 20 (gA o1 4), kI G (q1 5) 5 (gA o1 5), kJ G (q1 6) 5 (gB o1 6), kJ G (q1 7) 5 (gB o1 7), kJ G (q1 8) 6 (gB o1 8), kI G (q1 10) 5 (gA o1 10)]) C (c_Mt_floorDiv H.size h) ws_Pi_58 ⟨Nat.le_of_ble_eq_true rfl, Nat.le_of_ble_eq_true rfl⟩ hP hD hS [] [0, 1, 2, 3, 4, 5, 6, 7, 8, 9, 10] rfl rfl (by decide) (by decide) (by decide) [0, 1, 2, 3, 4, 5, 6, 7, 8, 9, 10] (by decide) (fun u => rfl) rfl hl.1 rfl (lv_room (Nat.le_of_ble_eq_true rfl)) d_Pi_passJoint_72 ⟨Nat.le_of_ble_eq_true rfl, Nat.le_of_ble_eq_true rfl⟩ rfl rfl (fun z11 u H locs h hP hD hS => ?_)
    have hP : va_P G.1 CL [(h0, .inr (6, [.int (gI o0 0), .ref (q0 1), .ref (q0 2)])), kJ G (q0 1) 5 (gB o0 1), kJ G (q0 2) 5 (gB o0 2), (h1, .inr (5, [.ref (r1 0), .int (gI o1 1), .int (gI o1 2), .ref (q1 3), .ref (q1 4), .ref (q1 5), .ref (q1 6), .ref (q1 7), .ref (q1 8), .ref (q1 9), .ref (q1 10), .int (gI o1 11), .int (gI o1 12)])), kI G (q1 3) 20 (gA o1 3), kI G (q1 4) 20 (gA o1 4), kI G (q1 5) 5 (gA o1 5), kJ G (q1 6) 5 (gB o1 6), kJ G (q1 7) 5 (gB o1 7), kJ G (q1 8) 6 (gB o1 8), kI G (q1 10) 5 (gA o1 10)] H := hP
    have hD : va_D A [(h0, .inr (6, [.int (gI o0 0), .ref (q0 1), .ref (q0 2)])), kJ G (q0 1) 5 (gB o0 1), kJ G (q0 2) 5 (gB o0 2), (h1, .inr (5, [.ref (r1 0), .int (gI o1 1), .int (gI o1 2), .ref (q1 3), .ref (q1 4), .ref (q1 5), .ref (q1 6), .ref (q1 7), .ref (q1 8), .ref (q1 9), .ref (q1 10), .int (gI o1 11), .int (gI o1 12)])), kI G (q1 3) 20 (gA o1 3), kI G (q1 4) 20 (gA o1 4), kI G (q1 5) 5 (gA o1 5), kJ G (q1 6) 5 (gB o1 6), kJ G (q1 7) 5 (gB o1 7), kJ G (q1 8) 6 (gB o1 8), kI G (q1 10) 5 (gA o1 10)] := hD
    refine lv_lstore (lv' := [(13, .long z11), (11, .long ((y7 * y8) + ((gB o1 8) a1.toNatClampNeg))), (9, .long ((gB o1 7) ((a1 + (1 : Int32)).toNatClampNeg))), (7, .long ((gB o1 6) a1.toNatClampNeg)), (5, .long (((gA o1 5) ((a1 + (1 : Int32)).toNatClampNeg)).toInt64)), (3, .long (((gA o1 5) a1.toNatClampNeg).toInt64)), (0, .ref h0), (1, .ref h1), (2, .int a1)]) hx hb d_Pi_passJoint_75 hl (by decide) rfl (fun ls hl => ?_)
    refine lv_aload_n hx hb d_Pi_passJoint_77 rfl (lv_at hl 7 rfl) ?_
    refine va_get (D := G.1) (ci := 5) (v := .ref (q1 8)) (C := R_Mo) (T := T_Mo) (N := 13) hx hb hts i_Mo hown hK hP 3 rfl rfl 8 (by decide) (hts _ wf_Pi_49) (fun _ h9 => h9) rfl d_Pi_passJoint_78 ?_
    refine lv_iload_n hx hb d_Pi_passJoint_81 rfl (lv_at hl 8 rfl) ?_
    refine lv_lload hx hb d_Pi_passJoint_82 (lv_at hl 1 rfl) ?_
    refine lv_lload_n hx hb d_Pi_passJoint_84 rfl (lv_at hl 5 rfl) ?_
    refine lv_lload hx hb d_Pi_passJoint_85 (lv_at hl 4 rfl) ?_
    refine lv_ladd hx hb d_Pi_passJoint_87 ?_
    refine lv_topl (fun y12 ey12 => ?_)
    have h := h y12 ey12
    refine cl_Sl (b := b_Pi_passJoint) (As := [.long ((y7 * y8) + ((gB o1 8) a1.toNatClampNeg)), .long y12]) (rest := [.int a1, .ref (q1 8)]) (ws := [(h0, .inr (6, [.int (gI o0 0), .ref (q0 1), .ref (q0 2)])), kJ G (q0 1) 5 (gB o0 1), kJ G (q0 2) 5 (gB o0 2), (h1, .inr (5, [.ref (r1 0), .int (gI o1 1), .int (gI o1 2), .ref (q1 3), .ref (q1 4), .ref (q1 5), .ref (q1 6), .ref (q1 7), .ref (q1 8), .ref (q1 9), .ref (q1 10), .int (gI o1 11), .int (gI o1 12)])), kI G (q1 3) 20 (gA o1 3), kI G (q1 4) 20 (gA o1 4), kI G (q1 5) 5 (gA o1 5), kJ G (q1 6) 5 (gB o1 6), kJ G (q1 7) 5 (gB o1 7), kJ G (q1 8) 6 (gB o1 8), kI G (q1 10) 5 (gA o1 10)]) (wr := [(h0, .inr (6, [.int (gI o0 0), .ref (q0 1), .ref (q0 2)])), kJ G (q0 1) 5 (gB o0 1), kJ G (q0 2) 5 (gB o0 2), (h1, .inr (5, [.ref (r1 0), .int (gI o1 1), .int (gI o1 2), .ref (q1 3), .ref (q1 4), .ref (q1 5), .ref (q1 6), .ref (q1 7), .ref (q1 8), .ref (q1 9), .ref (q1 10), .int (gI o1 11), .int (gI o1 12)])), kI G (q1 3) 20 (gA o1 3), kI G (q1 4) 20 (gA o1 4), kI G (q1 5) 5 (gA o1 5), kJ G (q1 6) 5 (gB o1 6), kJ G (q1 7) 5 (gB o1 7), kJ G (q1 8) 6 (gB o1 8), kI G (q1 10) 5 (gA o1 10)]) (w2 := fun (u : Unit) => [(h0, .inr (6, [.int (gI o0 0), .ref (q0 1), .ref (q0 2)])), kJ G (q0 1) 5 (gB o0 1), kJ G (q0 2) 5 (gB o0 2), (h1, .inr (5, [.ref (r1 0), .int (gI o1 1), .int (gI o1 2), .ref (q1 3), .ref (q1 4), .ref (q1 5), .ref (q1 6), .ref (q1 7), .ref (q1 8), .ref (q1 9), .ref (q1 10), .int (gI o1 11), .int (gI o1 12)])), kI G (q1 3) 20 (gA o1 3), kI G (q1 4) 20 (gA o1 4), kI G (q1 5) 5 (gA o1 5), kJ G (q1 6) 5 (gB o1 6), kJ G (q1 7) 5 (gB o1 7), kJ G (q1 8) 6 (gB o1 8), kI G (q1 10) 5 (gA o1 10)]) C (c_Mt_floorMod H.size h) ws_Pi_64 ⟨Nat.le_of_ble_eq_true rfl, Nat.le_of_ble_eq_true rfl⟩ hP hD hS [] [0, 1, 2, 3, 4, 5, 6, 7, 8, 9, 10] rfl rfl (by decide) (by decide) (by decide) [0, 1, 2, 3, 4, 5, 6, 7, 8, 9, 10] (by decide) (fun u => rfl) rfl hl.1 rfl (lv_room (Nat.le_of_ble_eq_true rfl)) d_Pi_passJoint_88 ⟨Nat.le_of_ble_eq_true rfl, Nat.le_of_ble_eq_true rfl⟩ rfl rfl (fun z13 u H locs h hP hD hS => ?_)
    have hP : va_P G.1 CL [(h0, .inr (6, [.int (gI o0 0), .ref (q0 1), .ref (q0 2)])), kJ G (q0 1) 5 (gB o0 1), kJ G (q0 2) 5 (gB o0 2), (h1, .inr (5, [.ref (r1 0), .int (gI o1 1), .int (gI o1 2), .ref (q1 3), .ref (q1 4), .ref (q1 5), .ref (q1 6), .ref (q1 7), .ref (q1 8), .ref (q1 9), .ref (q1 10), .int (gI o1 11), .int (gI o1 12)])), kI G (q1 3) 20 (gA o1 3), kI G (q1 4) 20 (gA o1 4), kI G (q1 5) 5 (gA o1 5), kJ G (q1 6) 5 (gB o1 6), kJ G (q1 7) 5 (gB o1 7), kJ G (q1 8) 6 (gB o1 8), kI G (q1 10) 5 (gA o1 10)] H := hP
    have hD : va_D A [(h0, .inr (6, [.int (gI o0 0), .ref (q0 1), .ref (q0 2)])), kJ G (q0 1) 5 (gB o0 1), kJ G (q0 2) 5 (gB o0 2), (h1, .inr (5, [.ref (r1 0), .int (gI o1 1), .int (gI o1 2), .ref (q1 3), .ref (q1 4), .ref (q1 5), .ref (q1 6), .ref (q1 7), .ref (q1 8), .ref (q1 9), .ref (q1 10), .int (gI o1 11), .int (gI o1 12)])), kI G (q1 3) 20 (gA o1 3), kI G (q1 4) 20 (gA o1 4), kI G (q1 5) 5 (gA o1 5), kJ G (q1 6) 5 (gB o1 6), kJ G (q1 7) 5 (gB o1 7), kJ G (q1 8) 6 (gB o1 8), kI G (q1 10) 5 (gA o1 10)] := hD
    have g14 := h.1
    have h := h.2
    refine xa_last hx hb hK hP hD hS 9 1 rfl rfl g14 (k := a1.toNatClampNeg) rfl d_Pi_passJoint_91 (fun H locs hP hD hS => ?_)
    have hP : va_P G.1 CL [(h0, .inr (6, [.int (gI o0 0), .ref (q0 1), .ref (q0 2)])), kJ G (q0 1) 5 (gB o0 1), kJ G (q0 2) 5 (gB o0 2), (h1, .inr (5, [.ref (r1 0), .int (gI o1 1), .int (gI o1 2), .ref (q1 3), .ref (q1 4), .ref (q1 5), .ref (q1 6), .ref (q1 7), .ref (q1 8), .ref (q1 9), .ref (q1 10), .int (gI o1 11), .int (gI o1 12)])), kI G (q1 3) 20 (gA o1 3), kI G (q1 4) 20 (gA o1 4), kI G (q1 5) 5 (gA o1 5), kJ G (q1 6) 5 (gB o1 6), kJ G (q1 7) 5 (gB o1 7), kJ G (q1 8) 6 (vp_updL (gB o1 8) a1.toNatClampNeg z13), kI G (q1 10) 5 (gA o1 10)] H := hP
    have hD : va_D A [(h0, .inr (6, [.int (gI o0 0), .ref (q0 1), .ref (q0 2)])), kJ G (q0 1) 5 (gB o0 1), kJ G (q0 2) 5 (gB o0 2), (h1, .inr (5, [.ref (r1 0), .int (gI o1 1), .int (gI o1 2), .ref (q1 3), .ref (q1 4), .ref (q1 5), .ref (q1 6), .ref (q1 7), .ref (q1 8), .ref (q1 9), .ref (q1 10), .int (gI o1 11), .int (gI o1 12)])), kI G (q1 3) 20 (gA o1 3), kI G (q1 4) 20 (gA o1 4), kI G (q1 5) 5 (gA o1 5), kJ G (q1 6) 5 (gB o1 6), kJ G (q1 7) 5 (gB o1 7), kJ G (q1 8) 6 (vp_updL (gB o1 8) a1.toNatClampNeg z13), kI G (q1 10) 5 (gA o1 10)] := hD
    refine lv_aload_n hx hb d_Pi_passJoint_92 rfl (lv_at hl 6 rfl) ?_
    refine va_get (D := G.1) (ci := 6) (v := .ref (q0 1)) (C := R_Pi) (T := T_Pi) (N := 3) hx hb hts i_Pi hown hK hP 0 rfl rfl 1 (by decide) (hts _ wf_Pi_9) (fun _ h9 => h9) rfl d_Pi_passJoint_93 ?_
    refine lv_iload_n hx hb d_Pi_passJoint_96 rfl (lv_at hl 8 rfl) ?_
    refine lv_iconst (v := (1 : Int32)) hx hb d_Pi_passJoint_97 (by decide) ?_
    refine lv_iadd hx hb d_Pi_passJoint_98 ?_
    refine lv_lload hx hb d_Pi_passJoint_99 (lv_at hl 3 rfl) ?_
    refine lv_lload hx hb d_Pi_passJoint_101 (lv_at hl 0 rfl) ?_
    refine lv_ladd hx hb d_Pi_passJoint_103 ?_
    have g15 := h.1
    have h := h.2
    refine xa_last hx hb hK hP hD hS 1 1 rfl rfl g15 (k := (a1 + (1 : Int32)).toNatClampNeg) rfl d_Pi_passJoint_104 (fun H locs hP hD hS => ?_)
    have hP : va_P G.1 CL [(h0, .inr (6, [.int (gI o0 0), .ref (q0 1), .ref (q0 2)])), kJ G (q0 1) 5 (vp_updL (gB o0 1) ((a1 + (1 : Int32)).toNatClampNeg) (((gB o1 6) a1.toNatClampNeg) + z11)), kJ G (q0 2) 5 (gB o0 2), (h1, .inr (5, [.ref (r1 0), .int (gI o1 1), .int (gI o1 2), .ref (q1 3), .ref (q1 4), .ref (q1 5), .ref (q1 6), .ref (q1 7), .ref (q1 8), .ref (q1 9), .ref (q1 10), .int (gI o1 11), .int (gI o1 12)])), kI G (q1 3) 20 (gA o1 3), kI G (q1 4) 20 (gA o1 4), kI G (q1 5) 5 (gA o1 5), kJ G (q1 6) 5 (gB o1 6), kJ G (q1 7) 5 (gB o1 7), kJ G (q1 8) 6 (vp_updL (gB o1 8) a1.toNatClampNeg z13), kI G (q1 10) 5 (gA o1 10)] H := hP
    have hD : va_D A [(h0, .inr (6, [.int (gI o0 0), .ref (q0 1), .ref (q0 2)])), kJ G (q0 1) 5 (vp_updL (gB o0 1) ((a1 + (1 : Int32)).toNatClampNeg) (((gB o1 6) a1.toNatClampNeg) + z11)), kJ G (q0 2) 5 (gB o0 2), (h1, .inr (5, [.ref (r1 0), .int (gI o1 1), .int (gI o1 2), .ref (q1 3), .ref (q1 4), .ref (q1 5), .ref (q1 6), .ref (q1 7), .ref (q1 8), .ref (q1 9), .ref (q1 10), .int (gI o1 11), .int (gI o1 12)])), kI G (q1 3) 20 (gA o1 3), kI G (q1 4) 20 (gA o1 4), kI G (q1 5) 5 (gA o1 5), kJ G (q1 6) 5 (gB o1 6), kJ G (q1 7) 5 (gB o1 7), kJ G (q1 8) 6 (vp_updL (gB o1 8) a1.toNatClampNeg z13), kI G (q1 10) 5 (gA o1 10)] := hD
    refine lv_aload_n hx hb d_Pi_passJoint_105 rfl (lv_at hl 6 rfl) ?_
    refine va_get (D := G.1) (ci := 6) (v := .ref (q0 2)) (C := R_Pi) (T := T_Pi) (N := 3) hx hb hts i_Pi hown hK hP 0 rfl rfl 2 (by decide) (hts _ wf_Pi_15) (fun _ h9 => h9) rfl d_Pi_passJoint_106 ?_
    refine lv_iload_n hx hb d_Pi_passJoint_109 rfl (lv_at hl 8 rfl) ?_
    refine lv_lload hx hb d_Pi_passJoint_110 (lv_at hl 2 rfl) ?_
    refine lv_lload hx hb d_Pi_passJoint_112 (lv_at hl 0 rfl) ?_
    refine lv_lsub hx hb d_Pi_passJoint_114 ?_
    refine lv_topl (fun y16 ey16 => ?_)
    have h := h y16 ey16
    have g17 := h.1
    have h := h.2
    refine xa_last hx hb hK hP hD hS 2 1 rfl rfl g17 (k := a1.toNatClampNeg) rfl d_Pi_passJoint_115 (fun H locs hP hD hS => ?_)
    have hP : va_P G.1 CL [(h0, .inr (6, [.int (gI o0 0), .ref (q0 1), .ref (q0 2)])), kJ G (q0 1) 5 (vp_updL (gB o0 1) ((a1 + (1 : Int32)).toNatClampNeg) (((gB o1 6) a1.toNatClampNeg) + z11)), kJ G (q0 2) 5 (vp_updL (gB o0 2) a1.toNatClampNeg y16), (h1, .inr (5, [.ref (r1 0), .int (gI o1 1), .int (gI o1 2), .ref (q1 3), .ref (q1 4), .ref (q1 5), .ref (q1 6), .ref (q1 7), .ref (q1 8), .ref (q1 9), .ref (q1 10), .int (gI o1 11), .int (gI o1 12)])), kI G (q1 3) 20 (gA o1 3), kI G (q1 4) 20 (gA o1 4), kI G (q1 5) 5 (gA o1 5), kJ G (q1 6) 5 (gB o1 6), kJ G (q1 7) 5 (gB o1 7), kJ G (q1 8) 6 (vp_updL (gB o1 8) a1.toNatClampNeg z13), kI G (q1 10) 5 (gA o1 10)] H := hP
    have hD : va_D A [(h0, .inr (6, [.int (gI o0 0), .ref (q0 1), .ref (q0 2)])), kJ G (q0 1) 5 (vp_updL (gB o0 1) ((a1 + (1 : Int32)).toNatClampNeg) (((gB o1 6) a1.toNatClampNeg) + z11)), kJ G (q0 2) 5 (vp_updL (gB o0 2) a1.toNatClampNeg y16), (h1, .inr (5, [.ref (r1 0), .int (gI o1 1), .int (gI o1 2), .ref (q1 3), .ref (q1 4), .ref (q1 5), .ref (q1 6), .ref (q1 7), .ref (q1 8), .ref (q1 9), .ref (q1 10), .int (gI o1 11), .int (gI o1 12)])), kI G (q1 3) 20 (gA o1 3), kI G (q1 4) 20 (gA o1 4), kI G (q1 5) 5 (gA o1 5), kJ G (q1 6) 5 (gB o1 6), kJ G (q1 7) 5 (gB o1 7), kJ G (q1 8) 6 (vp_updL (gB o1 8) a1.toNatClampNeg z13), kI G (q1 10) 5 (gA o1 10)] := hD
    have hP : va_P G.1 CL (cw_Pi G h0 q0 (sB (sB o0 1 (vp_updL (gB o0 1) ((a1 + (1 : Int32)).toNatClampNeg) (((gB o1 6) a1.toNatClampNeg) + z11))) 2 (vp_updL (gB o0 2) a1.toNatClampNeg y16)) ++ (cw_Mo G h1 q1 r1 (sB o1 8 (vp_updL (gB o1 8) a1.toNatClampNeg z13)))) H := hP
    have hD : va_D A (cw_Pi G h0 q0 (sB (sB o0 1 (vp_updL (gB o0 1) ((a1 + (1 : Int32)).toNatClampNeg) (((gB o1 6) a1.toNatClampNeg) + z11))) 2 (vp_updL (gB o0 2) a1.toNatClampNeg y16)) ++ (cw_Mo G h1 q1 r1 (sB o1 8 (vp_updL (gB o1 8) a1.toNatClampNeg z13)))) := hD
    exact W.vret hx hb hr (fun t ht hW => ⟨⟨((sB (sB o0 1 (vp_updL (gB o0 1) ((a1 + (1 : Int32)).toNatClampNeg) (((gB o1 6) a1.toNatClampNeg) + z11))) 2 (vp_updL (gB o0 2) a1.toNatClampNeg y16)), (sB o1 8 (vp_updL (gB o1 8) a1.toNatClampNeg z13))), rfl, h, by rw [ht]; exact hP, va_K.moved hW.alike hK, hD⟩, hS.F ht⟩) hS.2.2 d_Pi_passJoint_116
  · have h := h.2 c4
    have hP : va_P G.1 CL (cw_Pi G h0 q0 o0 ++ (cw_Mo G h1 q1 r1 o1)) H := hP
    have hD : va_D A (cw_Pi G h0 q0 o0 ++ (cw_Mo G h1 q1 r1 o1)) := hD
    exact W.vret hx hb hr (fun t ht hW => ⟨⟨(o0, o1), rfl, h, by rw [ht]; exact hP, va_K.moved hW.alike hK, hD⟩, hS.F ht⟩) hS.2.2 d_Pi_passJoint_28
abbrev b_Pi_pass : ByteArray := prog_7_method_2_code
def y_Pi_pass : MethodName := ⟨R_Pi, "pass", "(LPipeVoice$Moment;)J"⟩
abbrev w_Pi_pass : List Cond := Cond.code y_Pi_pass b_Pi_pass 11 (some .long) :: gw_tbl
theorem d_Pi_pass_0 : decode b_Pi_pass 0 = .ok (.aload_n 1, 1) := by decide +kernel
theorem d_Pi_pass_1 : decode b_Pi_pass 1 = .ok (.getfield 22, 3) := by decide +kernel
theorem d_Pi_pass_4 : decode b_Pi_pass 4 = .ok (.invokevirtual 28, 3) := by decide +kernel
theorem d_Pi_pass_7 : decode b_Pi_pass 7 = .ok (.iconst 0, 1) := by decide +kernel
theorem d_Pi_pass_8 : decode b_Pi_pass 8 = .ok (.istore_n 2, 1) := by decide +kernel
theorem d_Pi_pass_9 : decode b_Pi_pass 9 = .ok (.iload_n 2, 1) := by decide +kernel
theorem d_Pi_pass_10 : decode b_Pi_pass 10 = .ok (.iconst 1, 1) := by decide +kernel
theorem d_Pi_pass_11 : decode b_Pi_pass 11 = .ok (.iadd, 1) := by decide +kernel
theorem d_Pi_pass_12 : decode b_Pi_pass 12 = .ok (.aload_n 0, 1) := by decide +kernel
theorem d_Pi_pass_13 : decode b_Pi_pass 13 = .ok (.getfield 18, 3) := by decide +kernel
theorem d_Pi_pass_16 : decode b_Pi_pass 16 = .ok (.if_icmp .ge 15, 3) := by decide +kernel
theorem d_Pi_pass_19 : decode b_Pi_pass 19 = .ok (.aload_n 0, 1) := by decide +kernel
theorem d_Pi_pass_20 : decode b_Pi_pass 20 = .ok (.aload_n 1, 1) := by decide +kernel
theorem d_Pi_pass_21 : decode b_Pi_pass 21 = .ok (.iload_n 2, 1) := by decide +kernel
theorem d_Pi_pass_22 : decode b_Pi_pass 22 = .ok (.invokevirtual 33, 3) := by decide +kernel
theorem d_Pi_pass_25 : decode b_Pi_pass 25 = .ok (.iinc 2 1, 3) := by decide +kernel
theorem d_Pi_pass_28 : decode b_Pi_pass 28 = .ok (.goto (-19), 3) := by decide +kernel
theorem d_Pi_pass_31 : decode b_Pi_pass 31 = .ok (.aload_n 1, 1) := by decide +kernel
theorem d_Pi_pass_32 : decode b_Pi_pass 32 = .ok (.getfield 37, 3) := by decide +kernel
theorem d_Pi_pass_35 : decode b_Pi_pass 35 = .ok (.getfield 41, 3) := by decide +kernel
theorem d_Pi_pass_38 : decode b_Pi_pass 38 = .ok (.i2l, 1) := by decide +kernel
theorem d_Pi_pass_39 : decode b_Pi_pass 39 = .ok (.aload_n 1, 1) := by decide +kernel
theorem d_Pi_pass_40 : decode b_Pi_pass 40 = .ok (.getfield 46, 3) := by decide +kernel
theorem d_Pi_pass_43 : decode b_Pi_pass 43 = .ok (.iconst 0, 1) := by decide +kernel
theorem d_Pi_pass_44 : decode b_Pi_pass 44 = .ok (.laload, 1) := by decide +kernel
theorem d_Pi_pass_45 : decode b_Pi_pass 45 = .ok (.lmul, 1) := by decide +kernel
theorem d_Pi_pass_46 : decode b_Pi_pass 46 = .ok (.aload_n 1, 1) := by decide +kernel
theorem d_Pi_pass_47 : decode b_Pi_pass 47 = .ok (.getfield 49, 3) := by decide +kernel
theorem d_Pi_pass_50 : decode b_Pi_pass 50 = .ok (.iconst 4, 1) := by decide +kernel
theorem d_Pi_pass_51 : decode b_Pi_pass 51 = .ok (.laload, 1) := by decide +kernel
theorem d_Pi_pass_52 : decode b_Pi_pass 52 = .ok (.ladd, 1) := by decide +kernel
theorem d_Pi_pass_53 : decode b_Pi_pass 53 = .ok (.lstore_n 2, 1) := by decide +kernel
theorem d_Pi_pass_54 : decode b_Pi_pass 54 = .ok (.aload_n 0, 1) := by decide +kernel
theorem d_Pi_pass_55 : decode b_Pi_pass 55 = .ok (.getfield 9, 3) := by decide +kernel
theorem d_Pi_pass_58 : decode b_Pi_pass 58 = .ok (.iconst 0, 1) := by decide +kernel
theorem d_Pi_pass_59 : decode b_Pi_pass 59 = .ok (.aload_n 1, 1) := by decide +kernel
theorem d_Pi_pass_60 : decode b_Pi_pass 60 = .ok (.getfield 22, 3) := by decide +kernel
theorem d_Pi_pass_63 : decode b_Pi_pass 63 = .ok (.invokevirtual 52, 3) := by decide +kernel
theorem d_Pi_pass_66 : decode b_Pi_pass 66 = .ok (.i2l, 1) := by decide +kernel
theorem d_Pi_pass_67 : decode b_Pi_pass 67 = .ok (.lload_n 2, 1) := by decide +kernel
theorem d_Pi_pass_68 : decode b_Pi_pass 68 = .ok (.ldc2_w 56, 3) := by decide +kernel
theorem d_Pi_pass_71 : decode b_Pi_pass 71 = .ok (.invokestatic 58, 3) := by decide +kernel
theorem d_Pi_pass_74 : decode b_Pi_pass 74 = .ok (.ladd, 1) := by decide +kernel
theorem d_Pi_pass_75 : decode b_Pi_pass 75 = .ok (.lastore, 1) := by decide +kernel
theorem d_Pi_pass_76 : decode b_Pi_pass 76 = .ok (.aload_n 1, 1) := by decide +kernel
theorem d_Pi_pass_77 : decode b_Pi_pass 77 = .ok (.getfield 49, 3) := by decide +kernel
theorem d_Pi_pass_80 : decode b_Pi_pass 80 = .ok (.iconst 4, 1) := by decide +kernel
theorem d_Pi_pass_81 : decode b_Pi_pass 81 = .ok (.lload_n 2, 1) := by decide +kernel
theorem d_Pi_pass_82 : decode b_Pi_pass 82 = .ok (.ldc2_w 56, 3) := by decide +kernel
theorem d_Pi_pass_85 : decode b_Pi_pass 85 = .ok (.invokestatic 64, 3) := by decide +kernel
theorem d_Pi_pass_88 : decode b_Pi_pass 88 = .ok (.lastore, 1) := by decide +kernel
theorem d_Pi_pass_89 : decode b_Pi_pass 89 = .ok (.aload_n 1, 1) := by decide +kernel
theorem d_Pi_pass_90 : decode b_Pi_pass 90 = .ok (.getfield 67, 3) := by decide +kernel
theorem d_Pi_pass_93 : decode b_Pi_pass 93 = .ok (.aload_n 0, 1) := by decide +kernel
theorem d_Pi_pass_94 : decode b_Pi_pass 94 = .ok (.getfield 18, 3) := by decide +kernel
theorem d_Pi_pass_97 : decode b_Pi_pass 97 = .ok (.iconst 1, 1) := by decide +kernel
theorem d_Pi_pass_98 : decode b_Pi_pass 98 = .ok (.isub, 1) := by decide +kernel
theorem d_Pi_pass_99 : decode b_Pi_pass 99 = .ok (.laload, 1) := by decide +kernel
theorem d_Pi_pass_100 : decode b_Pi_pass 100 = .ok (.lstore 4, 2) := by decide +kernel
theorem d_Pi_pass_102 : decode b_Pi_pass 102 = .ok (.aload_n 1, 1) := by decide +kernel
theorem d_Pi_pass_103 : decode b_Pi_pass 103 = .ok (.getfield 37, 3) := by decide +kernel
theorem d_Pi_pass_106 : decode b_Pi_pass 106 = .ok (.getfield 70, 3) := by decide +kernel
theorem d_Pi_pass_109 : decode b_Pi_pass 109 = .ok (.i2l, 1) := by decide +kernel
theorem d_Pi_pass_110 : decode b_Pi_pass 110 = .ok (.lload 4, 2) := by decide +kernel
theorem d_Pi_pass_112 : decode b_Pi_pass 112 = .ok (.lmul, 1) := by decide +kernel
theorem d_Pi_pass_113 : decode b_Pi_pass 113 = .ok (.aload_n 1, 1) := by decide +kernel
theorem d_Pi_pass_114 : decode b_Pi_pass 114 = .ok (.getfield 49, 3) := by decide +kernel
theorem d_Pi_pass_117 : decode b_Pi_pass 117 = .ok (.iconst 5, 1) := by decide +kernel
theorem d_Pi_pass_118 : decode b_Pi_pass 118 = .ok (.laload, 1) := by decide +kernel
theorem d_Pi_pass_119 : decode b_Pi_pass 119 = .ok (.ladd, 1) := by decide +kernel
theorem d_Pi_pass_120 : decode b_Pi_pass 120 = .ok (.lstore 6, 2) := by decide +kernel
theorem d_Pi_pass_122 : decode b_Pi_pass 122 = .ok (.lload 6, 2) := by decide +kernel
theorem d_Pi_pass_124 : decode b_Pi_pass 124 = .ok (.ldc2_w 56, 3) := by decide +kernel
theorem d_Pi_pass_127 : decode b_Pi_pass 127 = .ok (.invokestatic 58, 3) := by decide +kernel
theorem d_Pi_pass_130 : decode b_Pi_pass 130 = .ok (.lstore 8, 2) := by decide +kernel
theorem d_Pi_pass_132 : decode b_Pi_pass 132 = .ok (.aload_n 0, 1) := by decide +kernel
theorem d_Pi_pass_133 : decode b_Pi_pass 133 = .ok (.getfield 15, 3) := by decide +kernel
theorem d_Pi_pass_136 : decode b_Pi_pass 136 = .ok (.aload_n 0, 1) := by decide +kernel
theorem d_Pi_pass_137 : decode b_Pi_pass 137 = .ok (.getfield 18, 3) := by decide +kernel
theorem d_Pi_pass_140 : decode b_Pi_pass 140 = .ok (.iconst 1, 1) := by decide +kernel
theorem d_Pi_pass_141 : decode b_Pi_pass 141 = .ok (.isub, 1) := by decide +kernel
theorem d_Pi_pass_142 : decode b_Pi_pass 142 = .ok (.lload 8, 2) := by decide +kernel
theorem d_Pi_pass_144 : decode b_Pi_pass 144 = .ok (.lneg, 1) := by decide +kernel
theorem d_Pi_pass_145 : decode b_Pi_pass 145 = .ok (.lastore, 1) := by decide +kernel
theorem d_Pi_pass_146 : decode b_Pi_pass 146 = .ok (.aload_n 1, 1) := by decide +kernel
theorem d_Pi_pass_147 : decode b_Pi_pass 147 = .ok (.getfield 49, 3) := by decide +kernel
theorem d_Pi_pass_150 : decode b_Pi_pass 150 = .ok (.iconst 5, 1) := by decide +kernel
theorem d_Pi_pass_151 : decode b_Pi_pass 151 = .ok (.lload 6, 2) := by decide +kernel
theorem d_Pi_pass_153 : decode b_Pi_pass 153 = .ok (.ldc2_w 56, 3) := by decide +kernel
theorem d_Pi_pass_156 : decode b_Pi_pass 156 = .ok (.invokestatic 64, 3) := by decide +kernel
theorem d_Pi_pass_159 : decode b_Pi_pass 159 = .ok (.lastore, 1) := by decide +kernel
theorem d_Pi_pass_160 : decode b_Pi_pass 160 = .ok (.iconst 0, 1) := by decide +kernel
theorem d_Pi_pass_161 : decode b_Pi_pass 161 = .ok (.istore 10, 2) := by decide +kernel
theorem d_Pi_pass_163 : decode b_Pi_pass 163 = .ok (.iload 10, 2) := by decide +kernel
theorem d_Pi_pass_165 : decode b_Pi_pass 165 = .ok (.aload_n 0, 1) := by decide +kernel
theorem d_Pi_pass_166 : decode b_Pi_pass 166 = .ok (.getfield 18, 3) := by decide +kernel
theorem d_Pi_pass_169 : decode b_Pi_pass 169 = .ok (.if_icmp .ge 57, 3) := by decide +kernel
theorem d_Pi_pass_172 : decode b_Pi_pass 172 = .ok (.aload_n 1, 1) := by decide +kernel
theorem d_Pi_pass_173 : decode b_Pi_pass 173 = .ok (.getfield 67, 3) := by decide +kernel
theorem d_Pi_pass_176 : decode b_Pi_pass 176 = .ok (.iload 10, 2) := by decide +kernel
theorem d_Pi_pass_178 : decode b_Pi_pass 178 = .ok (.aload_n 0, 1) := by decide +kernel
theorem d_Pi_pass_179 : decode b_Pi_pass 179 = .ok (.getfield 9, 3) := by decide +kernel
theorem d_Pi_pass_182 : decode b_Pi_pass 182 = .ok (.iload 10, 2) := by decide +kernel
theorem d_Pi_pass_184 : decode b_Pi_pass 184 = .ok (.laload, 1) := by decide +kernel
theorem d_Pi_pass_185 : decode b_Pi_pass 185 = .ok (.aload_n 1, 1) := by decide +kernel
theorem d_Pi_pass_186 : decode b_Pi_pass 186 = .ok (.getfield 37, 3) := by decide +kernel
theorem d_Pi_pass_189 : decode b_Pi_pass 189 = .ok (.getfield 73, 3) := by decide +kernel
theorem d_Pi_pass_192 : decode b_Pi_pass 192 = .ok (.invokestatic 76, 3) := by decide +kernel
theorem d_Pi_pass_195 : decode b_Pi_pass 195 = .ok (.lastore, 1) := by decide +kernel
theorem d_Pi_pass_196 : decode b_Pi_pass 196 = .ok (.aload_n 1, 1) := by decide +kernel
theorem d_Pi_pass_197 : decode b_Pi_pass 197 = .ok (.getfield 46, 3) := by decide +kernel
theorem d_Pi_pass_200 : decode b_Pi_pass 200 = .ok (.iload 10, 2) := by decide +kernel
theorem d_Pi_pass_202 : decode b_Pi_pass 202 = .ok (.aload_n 0, 1) := by decide +kernel
theorem d_Pi_pass_203 : decode b_Pi_pass 203 = .ok (.getfield 15, 3) := by decide +kernel
theorem d_Pi_pass_206 : decode b_Pi_pass 206 = .ok (.iload 10, 2) := by decide +kernel
theorem d_Pi_pass_208 : decode b_Pi_pass 208 = .ok (.laload, 1) := by decide +kernel
theorem d_Pi_pass_209 : decode b_Pi_pass 209 = .ok (.aload_n 1, 1) := by decide +kernel
theorem d_Pi_pass_210 : decode b_Pi_pass 210 = .ok (.getfield 37, 3) := by decide +kernel
theorem d_Pi_pass_213 : decode b_Pi_pass 213 = .ok (.getfield 73, 3) := by decide +kernel
theorem d_Pi_pass_216 : decode b_Pi_pass 216 = .ok (.invokestatic 76, 3) := by decide +kernel
theorem d_Pi_pass_219 : decode b_Pi_pass 219 = .ok (.lastore, 1) := by decide +kernel
theorem d_Pi_pass_220 : decode b_Pi_pass 220 = .ok (.iinc 10 1, 3) := by decide +kernel
theorem d_Pi_pass_223 : decode b_Pi_pass 223 = .ok (.goto (-60), 3) := by decide +kernel
theorem d_Pi_pass_226 : decode b_Pi_pass 226 = .ok (.lload 4, 2) := by decide +kernel
theorem d_Pi_pass_228 : decode b_Pi_pass 228 = .ok (.lload 8, 2) := by decide +kernel
theorem d_Pi_pass_230 : decode b_Pi_pass 230 = .ok (.ladd, 1) := by decide +kernel
theorem d_Pi_pass_231 : decode b_Pi_pass 231 = .ok (.lreturn, 1) := by decide +kernel
theorem wf_Pi_22 : Cond.fieldLink R_Pi 22 R_Mo "folds" "LPipeVoice$Folds;" ∈ gw_tbl := gw_tb (List.mem_of_getElem? (i := 262) (by decide +kernel)) rfl
theorem wv_Pi_28 : wV R_Pi 28 y_Fo_pass b_Fo_pass 2 none 0 := ⟨⟨gw_tb (List.mem_of_getElem? (i := 693) (by decide +kernel)) rfl, gw_tb (List.mem_of_getElem? (i := 7) (by decide +kernel)) rfl, gw_tb (List.mem_of_getElem? (i := 696) (by decide +kernel)) rfl, by decide, by decide, by decide +kernel⟩, gw_tb (List.mem_of_getElem? (i := 694) (by decide +kernel)) rfl, gw_tb (List.mem_of_getElem? (i := 695) (by decide +kernel)) rfl⟩
theorem wf_Pi_18 : Cond.fieldLink R_Pi 18 R_Pi "pieces" "I" ∈ gw_tbl := gw_tb (List.mem_of_getElem? (i := 354) (by decide +kernel)) rfl
theorem wf_Pi_37 : Cond.fieldLink R_Pi 37 R_Mo "law" "LPipeVoice$Law;" ∈ gw_tbl := gw_tb (List.mem_of_getElem? (i := 234) (by decide +kernel)) rfl
theorem wf_Pi_41 : Cond.fieldLink R_Pi 41 R_La "back" "I" ∈ gw_tbl := gw_tb (List.mem_of_getElem? (i := 75) (by decide +kernel)) rfl
theorem wv_Pi_52 : wV R_Pi 52 y_Fo_source b_Fo_source 1 (some .int) 0 := ⟨⟨gw_tb (List.mem_of_getElem? (i := 709) (by decide +kernel)) rfl, gw_tb (List.mem_of_getElem? (i := 7) (by decide +kernel)) rfl, gw_tb (List.mem_of_getElem? (i := 712) (by decide +kernel)) rfl, by decide, by decide, by decide +kernel⟩, gw_tb (List.mem_of_getElem? (i := 710) (by decide +kernel)) rfl, gw_tb (List.mem_of_getElem? (i := 711) (by decide +kernel)) rfl⟩
theorem wc_Pi_56 : Cond.constantLong R_Pi 56 (100) ∈ gw_tbl := gw_tb (List.mem_of_getElem? (i := 713) (by decide +kernel)) rfl
theorem wf_Pi_70 : Cond.fieldLink R_Pi 70 R_La "lips" "I" ∈ gw_tbl := gw_tb (List.mem_of_getElem? (i := 72) (by decide +kernel)) rfl
theorem wv_Pi_33 : wV R_Pi 33 y_Pi_passJoint b_Pi_passJoint 15 none 2 := ⟨⟨gw_tb (List.mem_of_getElem? (i := 699) (by decide +kernel)) rfl, gw_tb (List.mem_of_getElem? (i := 10) (by decide +kernel)) rfl, gw_tb (List.mem_of_getElem? (i := 702) (by decide +kernel)) rfl, by decide, by decide, by decide +kernel⟩, gw_tb (List.mem_of_getElem? (i := 701) (by decide +kernel)) rfl, gw_of (List.mem_append_left _ (List.mem_of_getElem? (i := 20) (by decide +kernel))) rfl⟩
theorem wf_Pi_73 : Cond.fieldLink R_Pi 73 R_La "loss" "I" ∈ gw_tbl := gw_tb (List.mem_of_getElem? (i := 68) (by decide +kernel)) rfl
theorem ws_Pi_76 : wS R_Pi 76 y_Pi_weakened b_Pi_weakened 5 (some .long) 2 := ⟨⟨gw_tb (List.mem_of_getElem? (i := 714) (by decide +kernel)) rfl, gw_tb (List.mem_of_getElem? (i := 10) (by decide +kernel)) rfl, gw_tb (List.mem_of_getElem? (i := 716) (by decide +kernel)) rfl, by decide, by decide, by decide +kernel⟩, gw_tb (List.mem_of_getElem? (i := 715) (by decide +kernel)) rfl⟩
def f_Pi_pass_163 (r1 : (Nat → Nat)) (o3 : Ob) (Q : Int64 → Ob → Ob → Ob → Prop) : Nat → Int64 → Int64 → Int32 → Ob → Ob → Ob → Prop
  | 0, _, _, _, _, _, _ => False
  | n + 1, x4, x8, x10, o0, o1, o2 => ((gI o0 0) ≤ x10 → (Q (x4 + x8) o0 o1 o2)) ∧ (¬ (gI o0 0) ≤ x10 → ((vp_in x10 5) ∧ (f_Pi_weakened ((gB o0 1) x10.toNatClampNeg) (gI o3 1) (fun z3 => (vp_in x10 5) ∧ ((vp_in x10 5) ∧ (f_Pi_weakened ((gB o0 2) x10.toNatClampNeg) (gI o3 1) (fun z6 => (vp_in x10 5) ∧ ((f_Pi_pass_163 r1 o3 Q n) x4 x8 (x10 + (1 : Int32)) o0 (sB (sB o1 6 (vp_updL (gB o1 6) x10.toNatClampNeg z3)) 7 (vp_updL (gB o1 7) x10.toNatClampNeg z6)) o2))))))))
def f_Pi_pass_9 (r1 : (Nat → Nat)) (o3 : Ob) (Q : Int64 → Ob → Ob → Ob → Prop) : Nat → Int32 → Ob → Ob → Ob → Prop
  | 0, _, _, _, _ => False
  | n + 1, x2, o0, o1, o2 => ((gI o0 0) ≤ (x2 + (1 : Int32)) → (∀ y9 : Int64, y9 = ((((gI o3 3).toInt64) * ((gB o1 7) 0)) + ((gB o1 8) 4)) → (f_Fo_source o2 (fun z10 => f_Mt_floorDiv y9 (100 : Int64) (fun z11 => f_Mt_floorMod y9 (100 : Int64) (fun z12 => (vp_in ((gI o0 0) - (1 : Int32)) 5) ∧ (∀ y14 : Int64, y14 = ((gB o1 6) (((gI o0 0) - (1 : Int32)).toNatClampNeg)) → (∀ y15 : Int64, y15 = ((((gI o3 2).toInt64) * y14) + ((vp_updL (gB o1 8) 4 z12) 5)) → (f_Mt_floorDiv y15 (100 : Int64) (fun z16 => (vp_in ((gI o0 0) - (1 : Int32)) 5) ∧ (f_Mt_floorMod y15 (100 : Int64) (fun z18 => (∃ w, f_Pi_pass_163 r1 o3 Q w y14 z16 (0 : Int32) (sB (sB o0 1 (vp_updL (gB o0 1) 0 ((z10.toInt64) + z11))) 2 (vp_updL (gB o0 2) (((gI o0 0) - (1 : Int32)).toNatClampNeg) (-z16))) (sB o1 8 (vp_updL (vp_updL (gB o1 8) 4 z12) 5 z18)) o2))))))))))))) ∧ (¬ (gI o0 0) ≤ (x2 + (1 : Int32)) → (f_Pi_passJoint x2 o0 r1 o1 (fun u19 u20 => (f_Pi_pass_9 r1 o3 Q n) (x2 + (1 : Int32)) u19 u20 o2)))
def f_Pi_pass (o0 : Ob) (r1 : (Nat → Nat)) (o1 : Ob) (o2 : Ob) (o3 : Ob) (Q : Int64 → Ob → Ob → Ob → Prop) : Prop := f_Fo_pass o2 (fun u21 => (∃ w, f_Pi_pass_9 r1 o3 Q w (0 : Int32) o0 o1 u21))
abbrev rm_Pi_pass : Room := { frames := 2, cells := 0, slots := 0, locals := 59 }
set_option maxHeartbeats 4000000 in
set_option maxRecDepth 100000 in
theorem t_Pi_pass_163 {p : Program} {l : Launch} {e : Env} {s : State} {m : MethodId} {args : Array Value} {below : List Frame} {meth : Method} {c : Code} {A : Nat → Prop} {G : Gl} {h0 : Nat} {h1 : Nat} {q0 : Nat → Nat} {q1 : Nat → Nat} {q2 : Nat → Nat} {q3 : Nat → Nat} (r1 : (Nat → Nat)) (o3 : Ob) (Q : Int64 → Ob → Ob → Ob → Prop) (C : Cx p s m args meth c R_Pi b_Pi_pass 11 (some .long) G A) :
    ∀ (n : Nat) (x4 : Int64) (x8 : Int64) (x10 : Int32) (o0 : Ob) (o1 : Ob) (o2 : Ob) (ls : Array Slot) (H : Heap) (locs : List Loc), lv_has ls 11 [(0, .ref h0), (1, .ref h1), (4, .long x4), (8, .long x8), (10, .int x10)] → va_P G.1 CL (cw_Pi G h0 q0 o0 ++ (cw_Mo G h1 q1 r1 o1 ++ (cw_Fo G (q1 9) q2 o2 ++ (cw_La G (r1 0) q3 o3)))) H → va_D A (cw_Pi G h0 q0 o0 ++ (cw_Mo G h1 q1 r1 o1 ++ (cw_Fo G (q1 9) q2 o2 ++ (cw_La G (r1 0) q3 o3)))) → va_S A s.heap H locs → f_Pi_pass_163 r1 o3 Q n x4 x8 x10 o0 o1 o2 → W p l e rm_Pi_pass s m args below meth c H locs 0 0 (MQ below (va_Ql (fun (r : Int64) (u : Ob × Ob × Ob) => Q r u.1 u.2.1 u.2.2) (fun (u : Ob × Ob × Ob) t => BW G A (cw_Pi G h0 q0 u.1 ++ (cw_Mo G h1 q1 r1 u.2.1 ++ (cw_Fo G (q1 9) q2 u.2.2 ++ (cw_La G (r1 0) q3 o3)))) t) A) args s 0 0 A) (F0 m 163 ls []) := by
  obtain ⟨hx, hb, hml, hown, hr, hts, hK, hA, hlocks, hE⟩ := id C
  intro n
  induction n with
  | zero => intro x4 x8 x10 o0 o1 o2 ls H locs hl hP hD hS h; exact absurd h id
  | succ n ih =>
    intro x4 x8 x10 o0 o1 o2 ls H locs hl hP hD hS h
    have hP : va_P G.1 CL [(h0, .inr (6, [.int (gI o0 0), .ref (q0 1), .ref (q0 2)])), kJ G (q0 1) 5 (gB o0 1), kJ G (q0 2) 5 (gB o0 2), (h1, .inr (5, [.ref (r1 0), .int (gI o1 1), .int (gI o1 2), .ref (q1 3), .ref (q1 4), .ref (q1 5), .ref (q1 6), .ref (q1 7), .ref (q1 8), .ref (q1 9), .ref (q1 10), .int (gI o1 11), .int (gI o1 12)])), kI G (q1 3) 20 (gA o1 3), kI G (q1 4) 20 (gA o1 4), kI G (q1 5) 5 (gA o1 5), kJ G (q1 6) 5 (gB o1 6), kJ G (q1 7) 5 (gB o1 7), kJ G (q1 8) 6 (gB o1 8), kI G (q1 10) 5 (gA o1 10), ((q1 9), .inr (1, [.int (gI o2 0), .int (gI o2 1), .int (gI o2 2), .int (gI o2 3), .int (gI o2 4), .int (gI o2 5), .int (gI o2 6)])), ((r1 0), .inr (3, [.ref (q3 0), .int (gI o3 1), .int (gI o3 2), .int (gI o3 3), .int (gI o3 4), .int (gI o3 5), .ref (q3 6), .ref (q3 7), .ref (q3 8), .ref (q3 9), .ref (q3 10), .ref (q3 11), .ref (q3 12), .ref (q3 13), .ref (q3 14)])), kI G (q3 0) 5 (gA o3 0), kI G (q3 6) 20 (gA o3 6), kI G (q3 7) 20 (gA o3 7), kI G (q3 8) 20 (gA o3 8), kI G (q3 9) 20 (gA o3 9), kI G (q3 10) 20 (gA o3 10), kI G (q3 11) 20 (gA o3 11), kI G (q3 12) 8 (gA o3 12), kI G (q3 13) 64 (gA o3 13), kI G (q3 14) 64 (gA o3 14)] H := hP
    have hD : va_D A [(h0, .inr (6, [.int (gI o0 0), .ref (q0 1), .ref (q0 2)])), kJ G (q0 1) 5 (gB o0 1), kJ G (q0 2) 5 (gB o0 2), (h1, .inr (5, [.ref (r1 0), .int (gI o1 1), .int (gI o1 2), .ref (q1 3), .ref (q1 4), .ref (q1 5), .ref (q1 6), .ref (q1 7), .ref (q1 8), .ref (q1 9), .ref (q1 10), .int (gI o1 11), .int (gI o1 12)])), kI G (q1 3) 20 (gA o1 3), kI G (q1 4) 20 (gA o1 4), kI G (q1 5) 5 (gA o1 5), kJ G (q1 6) 5 (gB o1 6), kJ G (q1 7) 5 (gB o1 7), kJ G (q1 8) 6 (gB o1 8), kI G (q1 10) 5 (gA o1 10), ((q1 9), .inr (1, [.int (gI o2 0), .int (gI o2 1), .int (gI o2 2), .int (gI o2 3), .int (gI o2 4), .int (gI o2 5), .int (gI o2 6)])), ((r1 0), .inr (3, [.ref (q3 0), .int (gI o3 1), .int (gI o3 2), .int (gI o3 3), .int (gI o3 4), .int (gI o3 5), .ref (q3 6), .ref (q3 7), .ref (q3 8), .ref (q3 9), .ref (q3 10), .ref (q3 11), .ref (q3 12), .ref (q3 13), .ref (q3 14)])), kI G (q3 0) 5 (gA o3 0), kI G (q3 6) 20 (gA o3 6), kI G (q3 7) 20 (gA o3 7), kI G (q3 8) 20 (gA o3 8), kI G (q3 9) 20 (gA o3 9), kI G (q3 10) 20 (gA o3 10), kI G (q3 11) 20 (gA o3 11), kI G (q3 12) 8 (gA o3 12), kI G (q3 13) 64 (gA o3 13), kI G (q3 14) 64 (gA o3 14)] := hD
    unfold f_Pi_pass_163 at h
    refine lv_iload hx hb d_Pi_pass_163 (lv_at hl 4 rfl) ?_
    refine lv_aload_n hx hb d_Pi_pass_165 rfl (lv_at hl 0 rfl) ?_
    refine va_get (D := G.1) (ci := 6) (v := .int (gI o0 0)) (C := R_Pi) (T := T_Pi) (N := 3) hx hb hts i_Pi hown hK hP 0 rfl rfl 0 (by decide) (hts _ wf_Pi_18) (fun _ h9 => h9) rfl d_Pi_pass_166 ?_
    refine lv_icmp_ge (tgt := 226) hx hb d_Pi_pass_169 (by decide) (fun c1 => ?_) (fun c1 => ?_)
    · have h := h.1 c1
      refine lv_lload hx hb d_Pi_pass_226 (lv_at hl 2 rfl) ?_
      refine lv_lload hx hb d_Pi_pass_228 (lv_at hl 3 rfl) ?_
      refine lv_ladd hx hb d_Pi_pass_230 ?_
      have hP : va_P G.1 CL (cw_Pi G h0 q0 o0 ++ (cw_Mo G h1 q1 r1 o1 ++ (cw_Fo G (q1 9) q2 o2 ++ (cw_La G (r1 0) q3 o3)))) H := hP
      have hD : va_D A (cw_Pi G h0 q0 o0 ++ (cw_Mo G h1 q1 r1 o1 ++ (cw_Fo G (q1 9) q2 o2 ++ (cw_La G (r1 0) q3 o3)))) := hD
      exact W.lret (v := (x4 + x8)) hx hb hr (fun t ht hW => ⟨⟨(x4 + x8), (o0, o1, o2), rfl, h, by rw [ht]; exact hP, va_K.moved hW.alike hK, hD⟩, hS.F ht⟩) hS.2.2 d_Pi_pass_231
    · have h := h.2 c1
      refine lv_aload_n hx hb d_Pi_pass_172 rfl (lv_at hl 1 rfl) ?_
      refine va_get (D := G.1) (ci := 5) (v := .ref (q1 6)) (C := R_Mo) (T := T_Mo) (N := 13) hx hb hts i_Mo hown hK hP 3 rfl rfl 6 (by decide) (hts _ wf_Pi_67) (fun _ h9 => h9) rfl d_Pi_pass_173 ?_
      refine lv_iload hx hb d_Pi_pass_176 (lv_at hl 4 rfl) ?_
      refine lv_aload_n hx hb d_Pi_pass_178 rfl (lv_at hl 0 rfl) ?_
      refine va_get (D := G.1) (ci := 6) (v := .ref (q0 1)) (C := R_Pi) (T := T_Pi) (N := 3) hx hb hts i_Pi hown hK hP 0 rfl rfl 1 (by decide) (hts _ wf_Pi_9) (fun _ h9 => h9) rfl d_Pi_pass_179 ?_
      refine lv_iload hx hb d_Pi_pass_182 (lv_at hl 4 rfl) ?_
      have g2 := h.1
      have h := h.2
      refine xa_lald hx hb hK hP 1 1 rfl rfl g2 (k := x10.toNatClampNeg) rfl d_Pi_pass_184 ?_
      refine lv_aload_n hx hb d_Pi_pass_185 rfl (lv_at hl 1 rfl) ?_
      refine va_get (D := G.1) (ci := 5) (v := .ref (r1 0)) (C := R_Mo) (T := T_Mo) (N := 13) hx hb hts i_Mo hown hK hP 3 rfl rfl 0 (by decide) (hts _ wf_Pi_37) (fun _ h9 => h9) rfl d_Pi_pass_186 ?_
      refine va_get (D := G.1) (ci := 3) (v := .int (gI o3 1)) (C := R_La) (T := T_La) (N := 15) hx hb hts i_La hown hK hP 12 rfl rfl 1 (by decide) (hts _ wf_Pi_73) (fun _ h9 => h9) rfl d_Pi_pass_189 ?_
      refine cl_Sl (b := b_Pi_pass) (As := [.long ((gB o0 1) x10.toNatClampNeg), .int (gI o3 1)]) (rest := [.int x10, .ref (q1 6)]) (ws := [(h0, .inr (6, [.int (gI o0 0), .ref (q0 1), .ref (q0 2)])), kJ G (q0 1) 5 (gB o0 1), kJ G (q0 2) 5 (gB o0 2), (h1, .inr (5, [.ref (r1 0), .int (gI o1 1), .int (gI o1 2), .ref (q1 3), .ref (q1 4), .ref (q1 5), .ref (q1 6), .ref (q1 7), .ref (q1 8), .ref (q1 9), .ref (q1 10), .int (gI o1 11), .int (gI o1 12)])), kI G (q1 3) 20 (gA o1 3), kI G (q1 4) 20 (gA o1 4), kI G (q1 5) 5 (gA o1 5), kJ G (q1 6) 5 (gB o1 6), kJ G (q1 7) 5 (gB o1 7), kJ G (q1 8) 6 (gB o1 8), kI G (q1 10) 5 (gA o1 10), ((q1 9), .inr (1, [.int (gI o2 0), .int (gI o2 1), .int (gI o2 2), .int (gI o2 3), .int (gI o2 4), .int (gI o2 5), .int (gI o2 6)])), ((r1 0), .inr (3, [.ref (q3 0), .int (gI o3 1), .int (gI o3 2), .int (gI o3 3), .int (gI o3 4), .int (gI o3 5), .ref (q3 6), .ref (q3 7), .ref (q3 8), .ref (q3 9), .ref (q3 10), .ref (q3 11), .ref (q3 12), .ref (q3 13), .ref (q3 14)])), kI G (q3 0) 5 (gA o3 0), kI G (q3 6) 20 (gA o3 6), kI G (q3 7) 20 (gA o3 7), kI G (q3 8) 20 (gA o3 8), kI G (q3 9) 20 (gA o3 9), kI G (q3 10) 20 (gA o3 10), kI G (q3 11) 20 (gA o3 11), kI G (q3 12) 8 (gA o3 12), kI G (q3 13) 64 (gA o3 13), kI G (q3 14) 64 (gA o3 14)]) (wr := [(h0, .inr (6, [.int (gI o0 0), .ref (q0 1), .ref (q0 2)])), kJ G (q0 1) 5 (gB o0 1), kJ G (q0 2) 5 (gB o0 2), (h1, .inr (5, [.ref (r1 0), .int (gI o1 1), .int (gI o1 2), .ref (q1 3), .ref (q1 4), .ref (q1 5), .ref (q1 6), .ref (q1 7), .ref (q1 8), .ref (q1 9), .ref (q1 10), .int (gI o1 11), .int (gI o1 12)])), kI G (q1 3) 20 (gA o1 3), kI G (q1 4) 20 (gA o1 4), kI G (q1 5) 5 (gA o1 5), kJ G (q1 6) 5 (gB o1 6), kJ G (q1 7) 5 (gB o1 7), kJ G (q1 8) 6 (gB o1 8), kI G (q1 10) 5 (gA o1 10), ((q1 9), .inr (1, [.int (gI o2 0), .int (gI o2 1), .int (gI o2 2), .int (gI o2 3), .int (gI o2 4), .int (gI o2 5), .int (gI o2 6)])), ((r1 0), .inr (3, [.ref (q3 0), .int (gI o3 1), .int (gI o3 2), .int (gI o3 3), .int (gI o3 4), .int (gI o3 5), .ref (q3 6), .ref (q3 7), .ref (q3 8), .ref (q3 9), .ref (q3 10), .ref (q3 11), .ref (q3 12), .ref (q3 13), .ref (q3 14)])), kI G (q3 0) 5 (gA o3 0), kI G (q3 6) 20 (gA o3 6), kI G (q3 7) 20 (gA o3 7), kI G (q3 8) 20 (gA o3 8), kI G (q3 9) 20 (gA o3 9), kI G (q3 10) 20 (gA o3 10), kI G (q3 11) 20 (gA o3 11), kI G (q3 12) 8 (gA o3 12), kI G (q3 13) 64 (gA o3 13), kI G (q3 14) 64 (gA o3 14)]) (w2 := fun (u : Unit) => [(h0, .inr (6, [.int (gI o0 0), .ref (q0 1), .ref (q0 2)])), kJ G (q0 1) 5 (gB o0 1), kJ G (q0 2) 5 (gB o0 2), (h1, .inr (5, [.ref (r1 0), .int (gI o1 1), .int (gI o1 2), .ref (q1 3), .ref (q1 4), .ref (q1 5), .ref (q1 6), .ref (q1 7), .ref (q1 8), .ref (q1 9), .ref (q1 10), .int (gI o1 11), .int (gI o1 12)])), kI G (q1 3) 20 (gA o1 3), kI G (q1 4) 20 (gA o1 4), kI G (q1 5) 5 (gA o1 5), kJ G (q1 6) 5 (gB o1 6), kJ G (q1 7) 5 (gB o1 7), kJ G (q1 8) 6 (gB o1 8), kI G (q1 10) 5 (gA o1 10), ((q1 9), .inr (1, [.int (gI o2 0), .int (gI o2 1), .int (gI o2 2), .int (gI o2 3), .int (gI o2 4), .int (gI o2 5), .int (gI o2 6)])), ((r1 0), .inr (3, [.ref (q3 0), .int (gI o3 1), .int (gI o3 2), .int (gI o3 3), .int (gI o3 4), .int (gI o3 5), .ref (q3 6), .ref (q3 7), .ref (q3 8), .ref (q3 9), .ref (q3 10), .ref (q3 11), .ref (q3 12), .ref (q3 13), .ref (q3 14)])), kI G (q3 0) 5 (gA o3 0), kI G (q3 6) 20 (gA o3 6), kI G (q3 7) 20 (gA o3 7), kI G (q3 8) 20 (gA o3 8), kI G (q3 9) 20 (gA o3 9), kI G (q3 10) 20 (gA o3 10), kI G (q3 11) 20 (gA o3 11), kI G (q3 12) 8 (gA o3 12), kI G (q3 13) 64 (gA o3 13), kI G (q3 14) 64 (gA o3 14)]) C (c_Pi_weakened H.size h) ws_Pi_76 ⟨Nat.le_of_ble_eq_true rfl, Nat.le_of_ble_eq_true rfl⟩ hP hD hS [] [0, 1, 2, 3, 4, 5, 6, 7, 8, 9, 10, 11, 12, 13, 14, 15, 16, 17, 18, 19, 20, 21, 22] rfl rfl (by decide) (by decide) (by decide) [0, 1, 2, 3, 4, 5, 6, 7, 8, 9, 10, 11, 12, 13, 14, 15, 16, 17, 18, 19, 20, 21, 22] (by decide) (fun u => rfl) rfl hl.1 rfl (lv_room (Nat.le_of_ble_eq_true rfl)) d_Pi_pass_192 ⟨Nat.le_of_ble_eq_true rfl, Nat.le_of_ble_eq_true rfl⟩ rfl rfl (fun z3 u H locs h hP hD hS => ?_)
      have hP : va_P G.1 CL [(h0, .inr (6, [.int (gI o0 0), .ref (q0 1), .ref (q0 2)])), kJ G (q0 1) 5 (gB o0 1), kJ G (q0 2) 5 (gB o0 2), (h1, .inr (5, [.ref (r1 0), .int (gI o1 1), .int (gI o1 2), .ref (q1 3), .ref (q1 4), .ref (q1 5), .ref (q1 6), .ref (q1 7), .ref (q1 8), .ref (q1 9), .ref (q1 10), .int (gI o1 11), .int (gI o1 12)])), kI G (q1 3) 20 (gA o1 3), kI G (q1 4) 20 (gA o1 4), kI G (q1 5) 5 (gA o1 5), kJ G (q1 6) 5 (gB o1 6), kJ G (q1 7) 5 (gB o1 7), kJ G (q1 8) 6 (gB o1 8), kI G (q1 10) 5 (gA o1 10), ((q1 9), .inr (1, [.int (gI o2 0), .int (gI o2 1), .int (gI o2 2), .int (gI o2 3), .int (gI o2 4), .int (gI o2 5), .int (gI o2 6)])), ((r1 0), .inr (3, [.ref (q3 0), .int (gI o3 1), .int (gI o3 2), .int (gI o3 3), .int (gI o3 4), .int (gI o3 5), .ref (q3 6), .ref (q3 7), .ref (q3 8), .ref (q3 9), .ref (q3 10), .ref (q3 11), .ref (q3 12), .ref (q3 13), .ref (q3 14)])), kI G (q3 0) 5 (gA o3 0), kI G (q3 6) 20 (gA o3 6), kI G (q3 7) 20 (gA o3 7), kI G (q3 8) 20 (gA o3 8), kI G (q3 9) 20 (gA o3 9), kI G (q3 10) 20 (gA o3 10), kI G (q3 11) 20 (gA o3 11), kI G (q3 12) 8 (gA o3 12), kI G (q3 13) 64 (gA o3 13), kI G (q3 14) 64 (gA o3 14)] H := hP
      have hD : va_D A [(h0, .inr (6, [.int (gI o0 0), .ref (q0 1), .ref (q0 2)])), kJ G (q0 1) 5 (gB o0 1), kJ G (q0 2) 5 (gB o0 2), (h1, .inr (5, [.ref (r1 0), .int (gI o1 1), .int (gI o1 2), .ref (q1 3), .ref (q1 4), .ref (q1 5), .ref (q1 6), .ref (q1 7), .ref (q1 8), .ref (q1 9), .ref (q1 10), .int (gI o1 11), .int (gI o1 12)])), kI G (q1 3) 20 (gA o1 3), kI G (q1 4) 20 (gA o1 4), kI G (q1 5) 5 (gA o1 5), kJ G (q1 6) 5 (gB o1 6), kJ G (q1 7) 5 (gB o1 7), kJ G (q1 8) 6 (gB o1 8), kI G (q1 10) 5 (gA o1 10), ((q1 9), .inr (1, [.int (gI o2 0), .int (gI o2 1), .int (gI o2 2), .int (gI o2 3), .int (gI o2 4), .int (gI o2 5), .int (gI o2 6)])), ((r1 0), .inr (3, [.ref (q3 0), .int (gI o3 1), .int (gI o3 2), .int (gI o3 3), .int (gI o3 4), .int (gI o3 5), .ref (q3 6), .ref (q3 7), .ref (q3 8), .ref (q3 9), .ref (q3 10), .ref (q3 11), .ref (q3 12), .ref (q3 13), .ref (q3 14)])), kI G (q3 0) 5 (gA o3 0), kI G (q3 6) 20 (gA o3 6), kI G (q3 7) 20 (gA o3 7), kI G (q3 8) 20 (gA o3 8), kI G (q3 9) 20 (gA o3 9), kI G (q3 10) 20 (gA o3 10), kI G (q3 11) 20 (gA o3 11), kI G (q3 12) 8 (gA o3 12), kI G (q3 13) 64 (gA o3 13), kI G (q3 14) 64 (gA o3 14)] := hD
      have g4 := h.1
      have h := h.2
      refine xa_last hx hb hK hP hD hS 7 1 rfl rfl g4 (k := x10.toNatClampNeg) rfl d_Pi_pass_195 (fun H locs hP hD hS => ?_)
      have hP : va_P G.1 CL [(h0, .inr (6, [.int (gI o0 0), .ref (q0 1), .ref (q0 2)])), kJ G (q0 1) 5 (gB o0 1), kJ G (q0 2) 5 (gB o0 2), (h1, .inr (5, [.ref (r1 0), .int (gI o1 1), .int (gI o1 2), .ref (q1 3), .ref (q1 4), .ref (q1 5), .ref (q1 6), .ref (q1 7), .ref (q1 8), .ref (q1 9), .ref (q1 10), .int (gI o1 11), .int (gI o1 12)])), kI G (q1 3) 20 (gA o1 3), kI G (q1 4) 20 (gA o1 4), kI G (q1 5) 5 (gA o1 5), kJ G (q1 6) 5 (vp_updL (gB o1 6) x10.toNatClampNeg z3), kJ G (q1 7) 5 (gB o1 7), kJ G (q1 8) 6 (gB o1 8), kI G (q1 10) 5 (gA o1 10), ((q1 9), .inr (1, [.int (gI o2 0), .int (gI o2 1), .int (gI o2 2), .int (gI o2 3), .int (gI o2 4), .int (gI o2 5), .int (gI o2 6)])), ((r1 0), .inr (3, [.ref (q3 0), .int (gI o3 1), .int (gI o3 2), .int (gI o3 3), .int (gI o3 4), .int (gI o3 5), .ref (q3 6), .ref (q3 7), .ref (q3 8), .ref (q3 9), .ref (q3 10), .ref (q3 11), .ref (q3 12), .ref (q3 13), .ref (q3 14)])), kI G (q3 0) 5 (gA o3 0), kI G (q3 6) 20 (gA o3 6), kI G (q3 7) 20 (gA o3 7), kI G (q3 8) 20 (gA o3 8), kI G (q3 9) 20 (gA o3 9), kI G (q3 10) 20 (gA o3 10), kI G (q3 11) 20 (gA o3 11), kI G (q3 12) 8 (gA o3 12), kI G (q3 13) 64 (gA o3 13), kI G (q3 14) 64 (gA o3 14)] H := hP
      have hD : va_D A [(h0, .inr (6, [.int (gI o0 0), .ref (q0 1), .ref (q0 2)])), kJ G (q0 1) 5 (gB o0 1), kJ G (q0 2) 5 (gB o0 2), (h1, .inr (5, [.ref (r1 0), .int (gI o1 1), .int (gI o1 2), .ref (q1 3), .ref (q1 4), .ref (q1 5), .ref (q1 6), .ref (q1 7), .ref (q1 8), .ref (q1 9), .ref (q1 10), .int (gI o1 11), .int (gI o1 12)])), kI G (q1 3) 20 (gA o1 3), kI G (q1 4) 20 (gA o1 4), kI G (q1 5) 5 (gA o1 5), kJ G (q1 6) 5 (vp_updL (gB o1 6) x10.toNatClampNeg z3), kJ G (q1 7) 5 (gB o1 7), kJ G (q1 8) 6 (gB o1 8), kI G (q1 10) 5 (gA o1 10), ((q1 9), .inr (1, [.int (gI o2 0), .int (gI o2 1), .int (gI o2 2), .int (gI o2 3), .int (gI o2 4), .int (gI o2 5), .int (gI o2 6)])), ((r1 0), .inr (3, [.ref (q3 0), .int (gI o3 1), .int (gI o3 2), .int (gI o3 3), .int (gI o3 4), .int (gI o3 5), .ref (q3 6), .ref (q3 7), .ref (q3 8), .ref (q3 9), .ref (q3 10), .ref (q3 11), .ref (q3 12), .ref (q3 13), .ref (q3 14)])), kI G (q3 0) 5 (gA o3 0), kI G (q3 6) 20 (gA o3 6), kI G (q3 7) 20 (gA o3 7), kI G (q3 8) 20 (gA o3 8), kI G (q3 9) 20 (gA o3 9), kI G (q3 10) 20 (gA o3 10), kI G (q3 11) 20 (gA o3 11), kI G (q3 12) 8 (gA o3 12), kI G (q3 13) 64 (gA o3 13), kI G (q3 14) 64 (gA o3 14)] := hD
      refine lv_aload_n hx hb d_Pi_pass_196 rfl (lv_at hl 1 rfl) ?_
      refine va_get (D := G.1) (ci := 5) (v := .ref (q1 7)) (C := R_Mo) (T := T_Mo) (N := 13) hx hb hts i_Mo hown hK hP 3 rfl rfl 7 (by decide) (hts _ wf_Pi_46) (fun _ h9 => h9) rfl d_Pi_pass_197 ?_
      refine lv_iload hx hb d_Pi_pass_200 (lv_at hl 4 rfl) ?_
      refine lv_aload_n hx hb d_Pi_pass_202 rfl (lv_at hl 0 rfl) ?_
      refine va_get (D := G.1) (ci := 6) (v := .ref (q0 2)) (C := R_Pi) (T := T_Pi) (N := 3) hx hb hts i_Pi hown hK hP 0 rfl rfl 2 (by decide) (hts _ wf_Pi_15) (fun _ h9 => h9) rfl d_Pi_pass_203 ?_
      refine lv_iload hx hb d_Pi_pass_206 (lv_at hl 4 rfl) ?_
      have g5 := h.1
      have h := h.2
      refine xa_lald hx hb hK hP 2 1 rfl rfl g5 (k := x10.toNatClampNeg) rfl d_Pi_pass_208 ?_
      refine lv_aload_n hx hb d_Pi_pass_209 rfl (lv_at hl 1 rfl) ?_
      refine va_get (D := G.1) (ci := 5) (v := .ref (r1 0)) (C := R_Mo) (T := T_Mo) (N := 13) hx hb hts i_Mo hown hK hP 3 rfl rfl 0 (by decide) (hts _ wf_Pi_37) (fun _ h9 => h9) rfl d_Pi_pass_210 ?_
      refine va_get (D := G.1) (ci := 3) (v := .int (gI o3 1)) (C := R_La) (T := T_La) (N := 15) hx hb hts i_La hown hK hP 12 rfl rfl 1 (by decide) (hts _ wf_Pi_73) (fun _ h9 => h9) rfl d_Pi_pass_213 ?_
      refine cl_Sl (b := b_Pi_pass) (As := [.long ((gB o0 2) x10.toNatClampNeg), .int (gI o3 1)]) (rest := [.int x10, .ref (q1 7)]) (ws := [(h0, .inr (6, [.int (gI o0 0), .ref (q0 1), .ref (q0 2)])), kJ G (q0 1) 5 (gB o0 1), kJ G (q0 2) 5 (gB o0 2), (h1, .inr (5, [.ref (r1 0), .int (gI o1 1), .int (gI o1 2), .ref (q1 3), .ref (q1 4), .ref (q1 5), .ref (q1 6), .ref (q1 7), .ref (q1 8), .ref (q1 9), .ref (q1 10), .int (gI o1 11), .int (gI o1 12)])), kI G (q1 3) 20 (gA o1 3), kI G (q1 4) 20 (gA o1 4), kI G (q1 5) 5 (gA o1 5), kJ G (q1 6) 5 (vp_updL (gB o1 6) x10.toNatClampNeg z3), kJ G (q1 7) 5 (gB o1 7), kJ G (q1 8) 6 (gB o1 8), kI G (q1 10) 5 (gA o1 10), ((q1 9), .inr (1, [.int (gI o2 0), .int (gI o2 1), .int (gI o2 2), .int (gI o2 3), .int (gI o2 4), .int (gI o2 5), .int (gI o2 6)])), ((r1 0), .inr (3, [.ref (q3 0), .int (gI o3 1), .int (gI o3 2), .int (gI o3 3), .int (gI o3 4), .int (gI o3 5), .ref (q3 6), .ref (q3 7), .ref (q3 8), .ref (q3 9), .ref (q3 10), .ref (q3 11), .ref (q3 12), .ref (q3 13), .ref (q3 14)])), kI G (q3 0) 5 (gA o3 0), kI G (q3 6) 20 (gA o3 6), kI G (q3 7) 20 (gA o3 7), kI G (q3 8) 20 (gA o3 8), kI G (q3 9) 20 (gA o3 9), kI G (q3 10) 20 (gA o3 10), kI G (q3 11) 20 (gA o3 11), kI G (q3 12) 8 (gA o3 12), kI G (q3 13) 64 (gA o3 13), kI G (q3 14) 64 (gA o3 14)]) (wr := [(h0, .inr (6, [.int (gI o0 0), .ref (q0 1), .ref (q0 2)])), kJ G (q0 1) 5 (gB o0 1), kJ G (q0 2) 5 (gB o0 2), (h1, .inr (5, [.ref (r1 0), .int (gI o1 1), .int (gI o1 2), .ref (q1 3), .ref (q1 4), .ref (q1 5), .ref (q1 6), .ref (q1 7), .ref (q1 8), .ref (q1 9), .ref (q1 10), .int (gI o1 11), .int (gI o1 12)])), kI G (q1 3) 20 (gA o1 3), kI G (q1 4) 20 (gA o1 4), kI G (q1 5) 5 (gA o1 5), kJ G (q1 6) 5 (vp_updL (gB o1 6) x10.toNatClampNeg z3), kJ G (q1 7) 5 (gB o1 7), kJ G (q1 8) 6 (gB o1 8), kI G (q1 10) 5 (gA o1 10), ((q1 9), .inr (1, [.int (gI o2 0), .int (gI o2 1), .int (gI o2 2), .int (gI o2 3), .int (gI o2 4), .int (gI o2 5), .int (gI o2 6)])), ((r1 0), .inr (3, [.ref (q3 0), .int (gI o3 1), .int (gI o3 2), .int (gI o3 3), .int (gI o3 4), .int (gI o3 5), .ref (q3 6), .ref (q3 7), .ref (q3 8), .ref (q3 9), .ref (q3 10), .ref (q3 11), .ref (q3 12), .ref (q3 13), .ref (q3 14)])), kI G (q3 0) 5 (gA o3 0), kI G (q3 6) 20 (gA o3 6), kI G (q3 7) 20 (gA o3 7), kI G (q3 8) 20 (gA o3 8), kI G (q3 9) 20 (gA o3 9), kI G (q3 10) 20 (gA o3 10), kI G (q3 11) 20 (gA o3 11), kI G (q3 12) 8 (gA o3 12), kI G (q3 13) 64 (gA o3 13), kI G (q3 14) 64 (gA o3 14)]) (w2 := fun (u : Unit) => [(h0, .inr (6, [.int (gI o0 0), .ref (q0 1), .ref (q0 2)])), kJ G (q0 1) 5 (gB o0 1), kJ G (q0 2) 5 (gB o0 2), (h1, .inr (5, [.ref (r1 0), .int (gI o1 1), .int (gI o1 2), .ref (q1 3), .ref (q1 4), .ref (q1 5), .ref (q1 6), .ref (q1 7), .ref (q1 8), .ref (q1 9), .ref (q1 10), .int (gI o1 11), .int (gI o1 12)])), kI G (q1 3) 20 (gA o1 3), kI G (q1 4) 20 (gA o1 4), kI G (q1 5) 5 (gA o1 5), kJ G (q1 6) 5 (vp_updL (gB o1 6) x10.toNatClampNeg z3), kJ G (q1 7) 5 (gB o1 7), kJ G (q1 8) 6 (gB o1 8), kI G (q1 10) 5 (gA o1 10), ((q1 9), .inr (1, [.int (gI o2 0), .int (gI o2 1), .int (gI o2 2), .int (gI o2 3), .int (gI o2 4), .int (gI o2 5), .int (gI o2 6)])), ((r1 0), .inr (3, [.ref (q3 0), .int (gI o3 1), .int (gI o3 2), .int (gI o3 3), .int (gI o3 4), .int (gI o3 5), .ref (q3 6), .ref (q3 7), .ref (q3 8), .ref (q3 9), .ref (q3 10), .ref (q3 11), .ref (q3 12), .ref (q3 13), .ref (q3 14)])), kI G (q3 0) 5 (gA o3 0), kI G (q3 6) 20 (gA o3 6), kI G (q3 7) 20 (gA o3 7), kI G (q3 8) 20 (gA o3 8), kI G (q3 9) 20 (gA o3 9), kI G (q3 10) 20 (gA o3 10), kI G (q3 11) 20 (gA o3 11), kI G (q3 12) 8 (gA o3 12), kI G (q3 13) 64 (gA o3 13), kI G (q3 14) 64 (gA o3 14)]) C (c_Pi_weakened H.size h) ws_Pi_76 ⟨Nat.le_of_ble_eq_true rfl, Nat.le_of_ble_eq_true rfl⟩ hP hD hS [] [0, 1, 2, 3, 4, 5, 6, 7, 8, 9, 10, 11, 12, 13, 14, 15, 16, 17, 18, 19, 20, 21, 22] rfl rfl (by decide) (by decide) (by decide) [0, 1, 2, 3, 4, 5, 6, 7, 8, 9, 10, 11, 12, 13, 14, 15, 16, 17, 18, 19, 20, 21, 22] (by decide) (fun u => rfl) rfl hl.1 rfl (lv_room (Nat.le_of_ble_eq_true rfl)) d_Pi_pass_216 ⟨Nat.le_of_ble_eq_true rfl, Nat.le_of_ble_eq_true rfl⟩ rfl rfl (fun z6 u H locs h hP hD hS => ?_)
      have hP : va_P G.1 CL [(h0, .inr (6, [.int (gI o0 0), .ref (q0 1), .ref (q0 2)])), kJ G (q0 1) 5 (gB o0 1), kJ G (q0 2) 5 (gB o0 2), (h1, .inr (5, [.ref (r1 0), .int (gI o1 1), .int (gI o1 2), .ref (q1 3), .ref (q1 4), .ref (q1 5), .ref (q1 6), .ref (q1 7), .ref (q1 8), .ref (q1 9), .ref (q1 10), .int (gI o1 11), .int (gI o1 12)])), kI G (q1 3) 20 (gA o1 3), kI G (q1 4) 20 (gA o1 4), kI G (q1 5) 5 (gA o1 5), kJ G (q1 6) 5 (vp_updL (gB o1 6) x10.toNatClampNeg z3), kJ G (q1 7) 5 (gB o1 7), kJ G (q1 8) 6 (gB o1 8), kI G (q1 10) 5 (gA o1 10), ((q1 9), .inr (1, [.int (gI o2 0), .int (gI o2 1), .int (gI o2 2), .int (gI o2 3), .int (gI o2 4), .int (gI o2 5), .int (gI o2 6)])), ((r1 0), .inr (3, [.ref (q3 0), .int (gI o3 1), .int (gI o3 2), .int (gI o3 3), .int (gI o3 4), .int (gI o3 5), .ref (q3 6), .ref (q3 7), .ref (q3 8), .ref (q3 9), .ref (q3 10), .ref (q3 11), .ref (q3 12), .ref (q3 13), .ref (q3 14)])), kI G (q3 0) 5 (gA o3 0), kI G (q3 6) 20 (gA o3 6), kI G (q3 7) 20 (gA o3 7), kI G (q3 8) 20 (gA o3 8), kI G (q3 9) 20 (gA o3 9), kI G (q3 10) 20 (gA o3 10), kI G (q3 11) 20 (gA o3 11), kI G (q3 12) 8 (gA o3 12), kI G (q3 13) 64 (gA o3 13), kI G (q3 14) 64 (gA o3 14)] H := hP
      have hD : va_D A [(h0, .inr (6, [.int (gI o0 0), .ref (q0 1), .ref (q0 2)])), kJ G (q0 1) 5 (gB o0 1), kJ G (q0 2) 5 (gB o0 2), (h1, .inr (5, [.ref (r1 0), .int (gI o1 1), .int (gI o1 2), .ref (q1 3), .ref (q1 4), .ref (q1 5), .ref (q1 6), .ref (q1 7), .ref (q1 8), .ref (q1 9), .ref (q1 10), .int (gI o1 11), .int (gI o1 12)])), kI G (q1 3) 20 (gA o1 3), kI G (q1 4) 20 (gA o1 4), kI G (q1 5) 5 (gA o1 5), kJ G (q1 6) 5 (vp_updL (gB o1 6) x10.toNatClampNeg z3), kJ G (q1 7) 5 (gB o1 7), kJ G (q1 8) 6 (gB o1 8), kI G (q1 10) 5 (gA o1 10), ((q1 9), .inr (1, [.int (gI o2 0), .int (gI o2 1), .int (gI o2 2), .int (gI o2 3), .int (gI o2 4), .int (gI o2 5), .int (gI o2 6)])), ((r1 0), .inr (3, [.ref (q3 0), .int (gI o3 1), .int (gI o3 2), .int (gI o3 3), .int (gI o3 4), .int (gI o3 5), .ref (q3 6), .ref (q3 7), .ref (q3 8), .ref (q3 9), .ref (q3 10), .ref (q3 11), .ref (q3 12), .ref (q3 13), .ref (q3 14)])), kI G (q3 0) 5 (gA o3 0), kI G (q3 6) 20 (gA o3 6), kI G (q3 7) 20 (gA o3 7), kI G (q3 8) 20 (gA o3 8), kI G (q3 9) 20 (gA o3 9), kI G (q3 10) 20 (gA o3 10), kI G (q3 11) 20 (gA o3 11), kI G (q3 12) 8 (gA o3 12), kI G (q3 13) 64 (gA o3 13), kI G (q3 14) 64 (gA o3 14)] := hD
      have g7 := h.1
      have h := h.2
      refine xa_last hx hb hK hP hD hS 8 1 rfl rfl g7 (k := x10.toNatClampNeg) rfl d_Pi_pass_219 (fun H locs hP hD hS => ?_)
      have hP : va_P G.1 CL [(h0, .inr (6, [.int (gI o0 0), .ref (q0 1), .ref (q0 2)])), kJ G (q0 1) 5 (gB o0 1), kJ G (q0 2) 5 (gB o0 2), (h1, .inr (5, [.ref (r1 0), .int (gI o1 1), .int (gI o1 2), .ref (q1 3), .ref (q1 4), .ref (q1 5), .ref (q1 6), .ref (q1 7), .ref (q1 8), .ref (q1 9), .ref (q1 10), .int (gI o1 11), .int (gI o1 12)])), kI G (q1 3) 20 (gA o1 3), kI G (q1 4) 20 (gA o1 4), kI G (q1 5) 5 (gA o1 5), kJ G (q1 6) 5 (vp_updL (gB o1 6) x10.toNatClampNeg z3), kJ G (q1 7) 5 (vp_updL (gB o1 7) x10.toNatClampNeg z6), kJ G (q1 8) 6 (gB o1 8), kI G (q1 10) 5 (gA o1 10), ((q1 9), .inr (1, [.int (gI o2 0), .int (gI o2 1), .int (gI o2 2), .int (gI o2 3), .int (gI o2 4), .int (gI o2 5), .int (gI o2 6)])), ((r1 0), .inr (3, [.ref (q3 0), .int (gI o3 1), .int (gI o3 2), .int (gI o3 3), .int (gI o3 4), .int (gI o3 5), .ref (q3 6), .ref (q3 7), .ref (q3 8), .ref (q3 9), .ref (q3 10), .ref (q3 11), .ref (q3 12), .ref (q3 13), .ref (q3 14)])), kI G (q3 0) 5 (gA o3 0), kI G (q3 6) 20 (gA o3 6), kI G (q3 7) 20 (gA o3 7), kI G (q3 8) 20 (gA o3 8), kI G (q3 9) 20 (gA o3 9), kI G (q3 10) 20 (gA o3 10), kI G (q3 11) 20 (gA o3 11), kI G (q3 12) 8 (gA o3 12), kI G (q3 13) 64 (gA o3 13), kI G (q3 14) 64 (gA o3 14)] H := hP
      have hD : va_D A [(h0, .inr (6, [.int (gI o0 0), .ref (q0 1), .ref (q0 2)])), kJ G (q0 1) 5 (gB o0 1), kJ G (q0 2) 5 (gB o0 2), (h1, .inr (5, [.ref (r1 0), .int (gI o1 1), .int (gI o1 2), .ref (q1 3), .ref (q1 4), .ref (q1 5), .ref (q1 6), .ref (q1 7), .ref (q1 8), .ref (q1 9), .ref (q1 10), .int (gI o1 11), .int (gI o1 12)])), kI G (q1 3) 20 (gA o1 3), kI G (q1 4) 20 (gA o1 4), kI G (q1 5) 5 (gA o1 5), kJ G (q1 6) 5 (vp_updL (gB o1 6) x10.toNatClampNeg z3), kJ G (q1 7) 5 (vp_updL (gB o1 7) x10.toNatClampNeg z6), kJ G (q1 8) 6 (gB o1 8), kI G (q1 10) 5 (gA o1 10), ((q1 9), .inr (1, [.int (gI o2 0), .int (gI o2 1), .int (gI o2 2), .int (gI o2 3), .int (gI o2 4), .int (gI o2 5), .int (gI o2 6)])), ((r1 0), .inr (3, [.ref (q3 0), .int (gI o3 1), .int (gI o3 2), .int (gI o3 3), .int (gI o3 4), .int (gI o3 5), .ref (q3 6), .ref (q3 7), .ref (q3 8), .ref (q3 9), .ref (q3 10), .ref (q3 11), .ref (q3 12), .ref (q3 13), .ref (q3 14)])), kI G (q3 0) 5 (gA o3 0), kI G (q3 6) 20 (gA o3 6), kI G (q3 7) 20 (gA o3 7), kI G (q3 8) 20 (gA o3 8), kI G (q3 9) 20 (gA o3 9), kI G (q3 10) 20 (gA o3 10), kI G (q3 11) 20 (gA o3 11), kI G (q3 12) 8 (gA o3 12), kI G (q3 13) 64 (gA o3 13), kI G (q3 14) 64 (gA o3 14)] := hD
      refine lv_iinc (v := (x10 + (1 : Int32))) (lv' := [(10, .int (x10 + (1 : Int32))), (0, .ref h0), (1, .ref h1), (4, .long x4), (8, .long x8)]) hx hb d_Pi_pass_220 hl (k := 4) rfl rfl (by decide) rfl (fun ls hl => ?_)
      refine lv_goto (tgt := 163) hx hb d_Pi_pass_223 (by decide) ?_
      have hl := lv_sub (l' := [(0, .ref h0), (1, .ref h1), (4, .long x4), (8, .long x8), (10, .int (x10 + (1 : Int32)))]) hl [1, 2, 3, 4, 0] rfl
      have hP : va_P G.1 CL (cw_Pi G h0 q0 o0 ++ (cw_Mo G h1 q1 r1 (sB (sB o1 6 (vp_updL (gB o1 6) x10.toNatClampNeg z3)) 7 (vp_updL (gB o1 7) x10.toNatClampNeg z6)) ++ (cw_Fo G (q1 9) q2 o2 ++ (cw_La G (r1 0) q3 o3)))) H := hP
      have hD : va_D A (cw_Pi G h0 q0 o0 ++ (cw_Mo G h1 q1 r1 (sB (sB o1 6 (vp_updL (gB o1 6) x10.toNatClampNeg z3)) 7 (vp_updL (gB o1 7) x10.toNatClampNeg z6)) ++ (cw_Fo G (q1 9) q2 o2 ++ (cw_La G (r1 0) q3 o3)))) := hD
      exact ih x4 x8 (x10 + (1 : Int32)) o0 (sB (sB o1 6 (vp_updL (gB o1 6) x10.toNatClampNeg z3)) 7 (vp_updL (gB o1 7) x10.toNatClampNeg z6)) o2 ls H locs hl hP hD hS h
set_option maxHeartbeats 4000000 in
set_option maxRecDepth 100000 in
theorem t_Pi_pass_9 {p : Program} {l : Launch} {e : Env} {s : State} {m : MethodId} {args : Array Value} {below : List Frame} {meth : Method} {c : Code} {A : Nat → Prop} {G : Gl} {h0 : Nat} {h1 : Nat} {q0 : Nat → Nat} {q1 : Nat → Nat} {q2 : Nat → Nat} {q3 : Nat → Nat} (r1 : (Nat → Nat)) (o3 : Ob) (Q : Int64 → Ob → Ob → Ob → Prop) (C : Cx p s m args meth c R_Pi b_Pi_pass 11 (some .long) G A) :
    ∀ (n : Nat) (x2 : Int32) (o0 : Ob) (o1 : Ob) (o2 : Ob) (ls : Array Slot) (H : Heap) (locs : List Loc), lv_has ls 11 [(0, .ref h0), (1, .ref h1), (2, .int x2)] → va_P G.1 CL (cw_Pi G h0 q0 o0 ++ (cw_Mo G h1 q1 r1 o1 ++ (cw_Fo G (q1 9) q2 o2 ++ (cw_La G (r1 0) q3 o3)))) H → va_D A (cw_Pi G h0 q0 o0 ++ (cw_Mo G h1 q1 r1 o1 ++ (cw_Fo G (q1 9) q2 o2 ++ (cw_La G (r1 0) q3 o3)))) → va_S A s.heap H locs → f_Pi_pass_9 r1 o3 Q n x2 o0 o1 o2 → W p l e rm_Pi_pass s m args below meth c H locs 0 0 (MQ below (va_Ql (fun (r : Int64) (u : Ob × Ob × Ob) => Q r u.1 u.2.1 u.2.2) (fun (u : Ob × Ob × Ob) t => BW G A (cw_Pi G h0 q0 u.1 ++ (cw_Mo G h1 q1 r1 u.2.1 ++ (cw_Fo G (q1 9) q2 u.2.2 ++ (cw_La G (r1 0) q3 o3)))) t) A) args s 0 0 A) (F0 m 9 ls []) := by
  obtain ⟨hx, hb, hml, hown, hr, hts, hK, hA, hlocks, hE⟩ := id C
  intro n
  induction n with
  | zero => intro x2 o0 o1 o2 ls H locs hl hP hD hS h; exact absurd h id
  | succ n ih =>
    intro x2 o0 o1 o2 ls H locs hl hP hD hS h
    have hP : va_P G.1 CL [(h0, .inr (6, [.int (gI o0 0), .ref (q0 1), .ref (q0 2)])), kJ G (q0 1) 5 (gB o0 1), kJ G (q0 2) 5 (gB o0 2), (h1, .inr (5, [.ref (r1 0), .int (gI o1 1), .int (gI o1 2), .ref (q1 3), .ref (q1 4), .ref (q1 5), .ref (q1 6), .ref (q1 7), .ref (q1 8), .ref (q1 9), .ref (q1 10), .int (gI o1 11), .int (gI o1 12)])), kI G (q1 3) 20 (gA o1 3), kI G (q1 4) 20 (gA o1 4), kI G (q1 5) 5 (gA o1 5), kJ G (q1 6) 5 (gB o1 6), kJ G (q1 7) 5 (gB o1 7), kJ G (q1 8) 6 (gB o1 8), kI G (q1 10) 5 (gA o1 10), ((q1 9), .inr (1, [.int (gI o2 0), .int (gI o2 1), .int (gI o2 2), .int (gI o2 3), .int (gI o2 4), .int (gI o2 5), .int (gI o2 6)])), ((r1 0), .inr (3, [.ref (q3 0), .int (gI o3 1), .int (gI o3 2), .int (gI o3 3), .int (gI o3 4), .int (gI o3 5), .ref (q3 6), .ref (q3 7), .ref (q3 8), .ref (q3 9), .ref (q3 10), .ref (q3 11), .ref (q3 12), .ref (q3 13), .ref (q3 14)])), kI G (q3 0) 5 (gA o3 0), kI G (q3 6) 20 (gA o3 6), kI G (q3 7) 20 (gA o3 7), kI G (q3 8) 20 (gA o3 8), kI G (q3 9) 20 (gA o3 9), kI G (q3 10) 20 (gA o3 10), kI G (q3 11) 20 (gA o3 11), kI G (q3 12) 8 (gA o3 12), kI G (q3 13) 64 (gA o3 13), kI G (q3 14) 64 (gA o3 14)] H := hP
    have hD : va_D A [(h0, .inr (6, [.int (gI o0 0), .ref (q0 1), .ref (q0 2)])), kJ G (q0 1) 5 (gB o0 1), kJ G (q0 2) 5 (gB o0 2), (h1, .inr (5, [.ref (r1 0), .int (gI o1 1), .int (gI o1 2), .ref (q1 3), .ref (q1 4), .ref (q1 5), .ref (q1 6), .ref (q1 7), .ref (q1 8), .ref (q1 9), .ref (q1 10), .int (gI o1 11), .int (gI o1 12)])), kI G (q1 3) 20 (gA o1 3), kI G (q1 4) 20 (gA o1 4), kI G (q1 5) 5 (gA o1 5), kJ G (q1 6) 5 (gB o1 6), kJ G (q1 7) 5 (gB o1 7), kJ G (q1 8) 6 (gB o1 8), kI G (q1 10) 5 (gA o1 10), ((q1 9), .inr (1, [.int (gI o2 0), .int (gI o2 1), .int (gI o2 2), .int (gI o2 3), .int (gI o2 4), .int (gI o2 5), .int (gI o2 6)])), ((r1 0), .inr (3, [.ref (q3 0), .int (gI o3 1), .int (gI o3 2), .int (gI o3 3), .int (gI o3 4), .int (gI o3 5), .ref (q3 6), .ref (q3 7), .ref (q3 8), .ref (q3 9), .ref (q3 10), .ref (q3 11), .ref (q3 12), .ref (q3 13), .ref (q3 14)])), kI G (q3 0) 5 (gA o3 0), kI G (q3 6) 20 (gA o3 6), kI G (q3 7) 20 (gA o3 7), kI G (q3 8) 20 (gA o3 8), kI G (q3 9) 20 (gA o3 9), kI G (q3 10) 20 (gA o3 10), kI G (q3 11) 20 (gA o3 11), kI G (q3 12) 8 (gA o3 12), kI G (q3 13) 64 (gA o3 13), kI G (q3 14) 64 (gA o3 14)] := hD
    unfold f_Pi_pass_9 at h
    refine lv_iload_n hx hb d_Pi_pass_9 rfl (lv_at hl 2 rfl) ?_
    refine lv_iconst (v := (1 : Int32)) hx hb d_Pi_pass_10 (by decide) ?_
    refine lv_iadd hx hb d_Pi_pass_11 ?_
    refine lv_aload_n hx hb d_Pi_pass_12 rfl (lv_at hl 0 rfl) ?_
    refine va_get (D := G.1) (ci := 6) (v := .int (gI o0 0)) (C := R_Pi) (T := T_Pi) (N := 3) hx hb hts i_Pi hown hK hP 0 rfl rfl 0 (by decide) (hts _ wf_Pi_18) (fun _ h9 => h9) rfl d_Pi_pass_13 ?_
    refine lv_icmp_ge (tgt := 31) hx hb d_Pi_pass_16 (by decide) (fun c8 => ?_) (fun c8 => ?_)
    · have h := h.1 c8
      refine lv_aload_n hx hb d_Pi_pass_31 rfl (lv_at hl 1 rfl) ?_
      refine va_get (D := G.1) (ci := 5) (v := .ref (r1 0)) (C := R_Mo) (T := T_Mo) (N := 13) hx hb hts i_Mo hown hK hP 3 rfl rfl 0 (by decide) (hts _ wf_Pi_37) (fun _ h9 => h9) rfl d_Pi_pass_32 ?_
      refine va_get (D := G.1) (ci := 3) (v := .int (gI o3 3)) (C := R_La) (T := T_La) (N := 15) hx hb hts i_La hown hK hP 12 rfl rfl 3 (by decide) (hts _ wf_Pi_41) (fun _ h9 => h9) rfl d_Pi_pass_35 ?_
      refine lv_i2l (v := ((gI o3 3).toInt64)) hx hb d_Pi_pass_38 rfl ?_
      refine lv_aload_n hx hb d_Pi_pass_39 rfl (lv_at hl 1 rfl) ?_
      refine va_get (D := G.1) (ci := 5) (v := .ref (q1 7)) (C := R_Mo) (T := T_Mo) (N := 13) hx hb hts i_Mo hown hK hP 3 rfl rfl 7 (by decide) (hts _ wf_Pi_46) (fun _ h9 => h9) rfl d_Pi_pass_40 ?_
      refine lv_iconst (v := (0 : Int32)) hx hb d_Pi_pass_43 (by decide) ?_
      refine xa_lald hx hb hK hP 8 1 rfl rfl (vp_lit rfl) (k := 0) rfl d_Pi_pass_44 ?_
      refine lv_lmul hx hb d_Pi_pass_45 ?_
      refine lv_aload_n hx hb d_Pi_pass_46 rfl (lv_at hl 1 rfl) ?_
      refine va_get (D := G.1) (ci := 5) (v := .ref (q1 8)) (C := R_Mo) (T := T_Mo) (N := 13) hx hb hts i_Mo hown hK hP 3 rfl rfl 8 (by decide) (hts _ wf_Pi_49) (fun _ h9 => h9) rfl d_Pi_pass_47 ?_
      refine lv_iconst (v := (4 : Int32)) hx hb d_Pi_pass_50 (by decide) ?_
      refine xa_lald hx hb hK hP 9 1 rfl rfl (vp_lit rfl) (k := 4) rfl d_Pi_pass_51 ?_
      refine lv_ladd hx hb d_Pi_pass_52 ?_
      refine lv_topl (fun y9 ey9 => ?_)
      have h := h y9 ey9
      refine lv_lstore_n (lv' := [(2, .long y9), (0, .ref h0), (1, .ref h1)]) hx hb d_Pi_pass_53 rfl hl (by decide) rfl (fun ls hl => ?_)
      refine lv_aload_n hx hb d_Pi_pass_54 rfl (lv_at hl 1 rfl) ?_
      refine va_get (D := G.1) (ci := 6) (v := .ref (q0 1)) (C := R_Pi) (T := T_Pi) (N := 3) hx hb hts i_Pi hown hK hP 0 rfl rfl 1 (by decide) (hts _ wf_Pi_9) (fun _ h9 => h9) rfl d_Pi_pass_55 ?_
      refine lv_iconst (v := (0 : Int32)) hx hb d_Pi_pass_58 (by decide) ?_
      refine lv_aload_n hx hb d_Pi_pass_59 rfl (lv_at hl 2 rfl) ?_
      refine va_get (D := G.1) (ci := 5) (v := .ref (q1 9)) (C := R_Mo) (T := T_Mo) (N := 13) hx hb hts i_Mo hown hK hP 3 rfl rfl 9 (by decide) (hts _ wf_Pi_22) (fun _ h9 => h9) rfl d_Pi_pass_60 ?_
      refine cl_Vi (b := b_Pi_pass) (As := []) (rest := [.int (0 : Int32), .ref (q0 1)]) (ws := [(h0, .inr (6, [.int (gI o0 0), .ref (q0 1), .ref (q0 2)])), kJ G (q0 1) 5 (gB o0 1), kJ G (q0 2) 5 (gB o0 2), (h1, .inr (5, [.ref (r1 0), .int (gI o1 1), .int (gI o1 2), .ref (q1 3), .ref (q1 4), .ref (q1 5), .ref (q1 6), .ref (q1 7), .ref (q1 8), .ref (q1 9), .ref (q1 10), .int (gI o1 11), .int (gI o1 12)])), kI G (q1 3) 20 (gA o1 3), kI G (q1 4) 20 (gA o1 4), kI G (q1 5) 5 (gA o1 5), kJ G (q1 6) 5 (gB o1 6), kJ G (q1 7) 5 (gB o1 7), kJ G (q1 8) 6 (gB o1 8), kI G (q1 10) 5 (gA o1 10), ((q1 9), .inr (1, [.int (gI o2 0), .int (gI o2 1), .int (gI o2 2), .int (gI o2 3), .int (gI o2 4), .int (gI o2 5), .int (gI o2 6)])), ((r1 0), .inr (3, [.ref (q3 0), .int (gI o3 1), .int (gI o3 2), .int (gI o3 3), .int (gI o3 4), .int (gI o3 5), .ref (q3 6), .ref (q3 7), .ref (q3 8), .ref (q3 9), .ref (q3 10), .ref (q3 11), .ref (q3 12), .ref (q3 13), .ref (q3 14)])), kI G (q3 0) 5 (gA o3 0), kI G (q3 6) 20 (gA o3 6), kI G (q3 7) 20 (gA o3 7), kI G (q3 8) 20 (gA o3 8), kI G (q3 9) 20 (gA o3 9), kI G (q3 10) 20 (gA o3 10), kI G (q3 11) 20 (gA o3 11), kI G (q3 12) 8 (gA o3 12), kI G (q3 13) 64 (gA o3 13), kI G (q3 14) 64 (gA o3 14)]) (wr := [(h0, .inr (6, [.int (gI o0 0), .ref (q0 1), .ref (q0 2)])), kJ G (q0 1) 5 (gB o0 1), kJ G (q0 2) 5 (gB o0 2), (h1, .inr (5, [.ref (r1 0), .int (gI o1 1), .int (gI o1 2), .ref (q1 3), .ref (q1 4), .ref (q1 5), .ref (q1 6), .ref (q1 7), .ref (q1 8), .ref (q1 9), .ref (q1 10), .int (gI o1 11), .int (gI o1 12)])), kI G (q1 3) 20 (gA o1 3), kI G (q1 4) 20 (gA o1 4), kI G (q1 5) 5 (gA o1 5), kJ G (q1 6) 5 (gB o1 6), kJ G (q1 7) 5 (gB o1 7), kJ G (q1 8) 6 (gB o1 8), kI G (q1 10) 5 (gA o1 10), ((r1 0), .inr (3, [.ref (q3 0), .int (gI o3 1), .int (gI o3 2), .int (gI o3 3), .int (gI o3 4), .int (gI o3 5), .ref (q3 6), .ref (q3 7), .ref (q3 8), .ref (q3 9), .ref (q3 10), .ref (q3 11), .ref (q3 12), .ref (q3 13), .ref (q3 14)])), kI G (q3 0) 5 (gA o3 0), kI G (q3 6) 20 (gA o3 6), kI G (q3 7) 20 (gA o3 7), kI G (q3 8) 20 (gA o3 8), kI G (q3 9) 20 (gA o3 9), kI G (q3 10) 20 (gA o3 10), kI G (q3 11) 20 (gA o3 11), kI G (q3 12) 8 (gA o3 12), kI G (q3 13) 64 (gA o3 13), kI G (q3 14) 64 (gA o3 14)]) (w2 := fun (u : Unit) => [(h0, .inr (6, [.int (gI o0 0), .ref (q0 1), .ref (q0 2)])), kJ G (q0 1) 5 (gB o0 1), kJ G (q0 2) 5 (gB o0 2), (h1, .inr (5, [.ref (r1 0), .int (gI o1 1), .int (gI o1 2), .ref (q1 3), .ref (q1 4), .ref (q1 5), .ref (q1 6), .ref (q1 7), .ref (q1 8), .ref (q1 9), .ref (q1 10), .int (gI o1 11), .int (gI o1 12)])), kI G (q1 3) 20 (gA o1 3), kI G (q1 4) 20 (gA o1 4), kI G (q1 5) 5 (gA o1 5), kJ G (q1 6) 5 (gB o1 6), kJ G (q1 7) 5 (gB o1 7), kJ G (q1 8) 6 (gB o1 8), kI G (q1 10) 5 (gA o1 10), ((q1 9), .inr (1, [.int (gI o2 0), .int (gI o2 1), .int (gI o2 2), .int (gI o2 3), .int (gI o2 4), .int (gI o2 5), .int (gI o2 6)])), ((r1 0), .inr (3, [.ref (q3 0), .int (gI o3 1), .int (gI o3 2), .int (gI o3 3), .int (gI o3 4), .int (gI o3 5), .ref (q3 6), .ref (q3 7), .ref (q3 8), .ref (q3 9), .ref (q3 10), .ref (q3 11), .ref (q3 12), .ref (q3 13), .ref (q3 14)])), kI G (q3 0) 5 (gA o3 0), kI G (q3 6) 20 (gA o3 6), kI G (q3 7) 20 (gA o3 7), kI G (q3 8) 20 (gA o3 8), kI G (q3 9) 20 (gA o3 9), kI G (q3 10) 20 (gA o3 10), kI G (q3 11) 20 (gA o3 11), kI G (q3 12) 8 (gA o3 12), kI G (q3 13) 64 (gA o3 13), kI G (q3 14) 64 (gA o3 14)]) C (c_Fo_source (h0 := (q1 9)) (q0 := q2) H.size h) wv_Pi_52 ⟨Nat.le_of_ble_eq_true rfl, Nat.le_of_ble_eq_true rfl⟩ hP hD hS 11 rfl rfl [11] [0, 1, 2, 3, 4, 5, 6, 7, 8, 9, 10, 12, 13, 14, 15, 16, 17, 18, 19, 20, 21, 22] rfl rfl (by decide) (by decide) (by decide) [0, 1, 2, 3, 4, 5, 6, 7, 8, 9, 10, 22, 11, 12, 13, 14, 15, 16, 17, 18, 19, 20, 21] (by decide) (fun u => rfl) rfl hl.1 rfl (lv_room (Nat.le_of_ble_eq_true rfl)) d_Pi_pass_63 ⟨Nat.le_of_ble_eq_true rfl, Nat.le_of_ble_eq_true rfl⟩ rfl rfl (fun z10 u H locs h hP hD hS => ?_)
      have hP : va_P G.1 CL [(h0, .inr (6, [.int (gI o0 0), .ref (q0 1), .ref (q0 2)])), kJ G (q0 1) 5 (gB o0 1), kJ G (q0 2) 5 (gB o0 2), (h1, .inr (5, [.ref (r1 0), .int (gI o1 1), .int (gI o1 2), .ref (q1 3), .ref (q1 4), .ref (q1 5), .ref (q1 6), .ref (q1 7), .ref (q1 8), .ref (q1 9), .ref (q1 10), .int (gI o1 11), .int (gI o1 12)])), kI G (q1 3) 20 (gA o1 3), kI G (q1 4) 20 (gA o1 4), kI G (q1 5) 5 (gA o1 5), kJ G (q1 6) 5 (gB o1 6), kJ G (q1 7) 5 (gB o1 7), kJ G (q1 8) 6 (gB o1 8), kI G (q1 10) 5 (gA o1 10), ((q1 9), .inr (1, [.int (gI o2 0), .int (gI o2 1), .int (gI o2 2), .int (gI o2 3), .int (gI o2 4), .int (gI o2 5), .int (gI o2 6)])), ((r1 0), .inr (3, [.ref (q3 0), .int (gI o3 1), .int (gI o3 2), .int (gI o3 3), .int (gI o3 4), .int (gI o3 5), .ref (q3 6), .ref (q3 7), .ref (q3 8), .ref (q3 9), .ref (q3 10), .ref (q3 11), .ref (q3 12), .ref (q3 13), .ref (q3 14)])), kI G (q3 0) 5 (gA o3 0), kI G (q3 6) 20 (gA o3 6), kI G (q3 7) 20 (gA o3 7), kI G (q3 8) 20 (gA o3 8), kI G (q3 9) 20 (gA o3 9), kI G (q3 10) 20 (gA o3 10), kI G (q3 11) 20 (gA o3 11), kI G (q3 12) 8 (gA o3 12), kI G (q3 13) 64 (gA o3 13), kI G (q3 14) 64 (gA o3 14)] H := hP
      have hD : va_D A [(h0, .inr (6, [.int (gI o0 0), .ref (q0 1), .ref (q0 2)])), kJ G (q0 1) 5 (gB o0 1), kJ G (q0 2) 5 (gB o0 2), (h1, .inr (5, [.ref (r1 0), .int (gI o1 1), .int (gI o1 2), .ref (q1 3), .ref (q1 4), .ref (q1 5), .ref (q1 6), .ref (q1 7), .ref (q1 8), .ref (q1 9), .ref (q1 10), .int (gI o1 11), .int (gI o1 12)])), kI G (q1 3) 20 (gA o1 3), kI G (q1 4) 20 (gA o1 4), kI G (q1 5) 5 (gA o1 5), kJ G (q1 6) 5 (gB o1 6), kJ G (q1 7) 5 (gB o1 7), kJ G (q1 8) 6 (gB o1 8), kI G (q1 10) 5 (gA o1 10), ((q1 9), .inr (1, [.int (gI o2 0), .int (gI o2 1), .int (gI o2 2), .int (gI o2 3), .int (gI o2 4), .int (gI o2 5), .int (gI o2 6)])), ((r1 0), .inr (3, [.ref (q3 0), .int (gI o3 1), .int (gI o3 2), .int (gI o3 3), .int (gI o3 4), .int (gI o3 5), .ref (q3 6), .ref (q3 7), .ref (q3 8), .ref (q3 9), .ref (q3 10), .ref (q3 11), .ref (q3 12), .ref (q3 13), .ref (q3 14)])), kI G (q3 0) 5 (gA o3 0), kI G (q3 6) 20 (gA o3 6), kI G (q3 7) 20 (gA o3 7), kI G (q3 8) 20 (gA o3 8), kI G (q3 9) 20 (gA o3 9), kI G (q3 10) 20 (gA o3 10), kI G (q3 11) 20 (gA o3 11), kI G (q3 12) 8 (gA o3 12), kI G (q3 13) 64 (gA o3 13), kI G (q3 14) 64 (gA o3 14)] := hD
      refine lv_i2l (v := (z10.toInt64)) hx hb d_Pi_pass_66 rfl ?_
      refine lv_lload_n hx hb d_Pi_pass_67 rfl (lv_at hl 0 rfl) ?_
      refine lv_ldc2 hx hb hown (hts _ wc_Pi_56) d_Pi_pass_68 ?_
      refine cl_Sl (b := b_Pi_pass) (As := [.long y9, .long (100 : Int64)]) (rest := [.long (z10.toInt64), .int (0 : Int32), .ref (q0 1)]) (ws := [(h0, .inr (6, [.int (gI o0 0), .ref (q0 1), .ref (q0 2)])), kJ G (q0 1) 5 (gB o0 1), kJ G (q0 2) 5 (gB o0 2), (h1, .inr (5, [.ref (r1 0), .int (gI o1 1), .int (gI o1 2), .ref (q1 3), .ref (q1 4), .ref (q1 5), .ref (q1 6), .ref (q1 7), .ref (q1 8), .ref (q1 9), .ref (q1 10), .int (gI o1 11), .int (gI o1 12)])), kI G (q1 3) 20 (gA o1 3), kI G (q1 4) 20 (gA o1 4), kI G (q1 5) 5 (gA o1 5), kJ G (q1 6) 5 (gB o1 6), kJ G (q1 7) 5 (gB o1 7), kJ G (q1 8) 6 (gB o1 8), kI G (q1 10) 5 (gA o1 10), ((q1 9), .inr (1, [.int (gI o2 0), .int (gI o2 1), .int (gI o2 2), .int (gI o2 3), .int (gI o2 4), .int (gI o2 5), .int (gI o2 6)])), ((r1 0), .inr (3, [.ref (q3 0), .int (gI o3 1), .int (gI o3 2), .int (gI o3 3), .int (gI o3 4), .int (gI o3 5), .ref (q3 6), .ref (q3 7), .ref (q3 8), .ref (q3 9), .ref (q3 10), .ref (q3 11), .ref (q3 12), .ref (q3 13), .ref (q3 14)])), kI G (q3 0) 5 (gA o3 0), kI G (q3 6) 20 (gA o3 6), kI G (q3 7) 20 (gA o3 7), kI G (q3 8) 20 (gA o3 8), kI G (q3 9) 20 (gA o3 9), kI G (q3 10) 20 (gA o3 10), kI G (q3 11) 20 (gA o3 11), kI G (q3 12) 8 (gA o3 12), kI G (q3 13) 64 (gA o3 13), kI G (q3 14) 64 (gA o3 14)]) (wr := [(h0, .inr (6, [.int (gI o0 0), .ref (q0 1), .ref (q0 2)])), kJ G (q0 1) 5 (gB o0 1), kJ G (q0 2) 5 (gB o0 2), (h1, .inr (5, [.ref (r1 0), .int (gI o1 1), .int (gI o1 2), .ref (q1 3), .ref (q1 4), .ref (q1 5), .ref (q1 6), .ref (q1 7), .ref (q1 8), .ref (q1 9), .ref (q1 10), .int (gI o1 11), .int (gI o1 12)])), kI G (q1 3) 20 (gA o1 3), kI G (q1 4) 20 (gA o1 4), kI G (q1 5) 5 (gA o1 5), kJ G (q1 6) 5 (gB o1 6), kJ G (q1 7) 5 (gB o1 7), kJ G (q1 8) 6 (gB o1 8), kI G (q1 10) 5 (gA o1 10), ((q1 9), .inr (1, [.int (gI o2 0), .int (gI o2 1), .int (gI o2 2), .int (gI o2 3), .int (gI o2 4), .int (gI o2 5), .int (gI o2 6)])), ((r1 0), .inr (3, [.ref (q3 0), .int (gI o3 1), .int (gI o3 2), .int (gI o3 3), .int (gI o3 4), .int (gI o3 5), .ref (q3 6), .ref (q3 7), .ref (q3 8), .ref (q3 9), .ref (q3 10), .ref (q3 11), .ref (q3 12), .ref (q3 13), .ref (q3 14)])), kI G (q3 0) 5 (gA o3 0), kI G (q3 6) 20 (gA o3 6), kI G (q3 7) 20 (gA o3 7), kI G (q3 8) 20 (gA o3 8), kI G (q3 9) 20 (gA o3 9), kI G (q3 10) 20 (gA o3 10), kI G (q3 11) 20 (gA o3 11), kI G (q3 12) 8 (gA o3 12), kI G (q3 13) 64 (gA o3 13), kI G (q3 14) 64 (gA o3 14)]) (w2 := fun (u : Unit) => [(h0, .inr (6, [.int (gI o0 0), .ref (q0 1), .ref (q0 2)])), kJ G (q0 1) 5 (gB o0 1), kJ G (q0 2) 5 (gB o0 2), (h1, .inr (5, [.ref (r1 0), .int (gI o1 1), .int (gI o1 2), .ref (q1 3), .ref (q1 4), .ref (q1 5), .ref (q1 6), .ref (q1 7), .ref (q1 8), .ref (q1 9), .ref (q1 10), .int (gI o1 11), .int (gI o1 12)])), kI G (q1 3) 20 (gA o1 3), kI G (q1 4) 20 (gA o1 4), kI G (q1 5) 5 (gA o1 5), kJ G (q1 6) 5 (gB o1 6), kJ G (q1 7) 5 (gB o1 7), kJ G (q1 8) 6 (gB o1 8), kI G (q1 10) 5 (gA o1 10), ((q1 9), .inr (1, [.int (gI o2 0), .int (gI o2 1), .int (gI o2 2), .int (gI o2 3), .int (gI o2 4), .int (gI o2 5), .int (gI o2 6)])), ((r1 0), .inr (3, [.ref (q3 0), .int (gI o3 1), .int (gI o3 2), .int (gI o3 3), .int (gI o3 4), .int (gI o3 5), .ref (q3 6), .ref (q3 7), .ref (q3 8), .ref (q3 9), .ref (q3 10), .ref (q3 11), .ref (q3 12), .ref (q3 13), .ref (q3 14)])), kI G (q3 0) 5 (gA o3 0), kI G (q3 6) 20 (gA o3 6), kI G (q3 7) 20 (gA o3 7), kI G (q3 8) 20 (gA o3 8), kI G (q3 9) 20 (gA o3 9), kI G (q3 10) 20 (gA o3 10), kI G (q3 11) 20 (gA o3 11), kI G (q3 12) 8 (gA o3 12), kI G (q3 13) 64 (gA o3 13), kI G (q3 14) 64 (gA o3 14)]) C (c_Mt_floorDiv H.size h) ws_Pi_58 ⟨Nat.le_of_ble_eq_true rfl, Nat.le_of_ble_eq_true rfl⟩ hP hD hS [] [0, 1, 2, 3, 4, 5, 6, 7, 8, 9, 10, 11, 12, 13, 14, 15, 16, 17, 18, 19, 20, 21, 22] rfl rfl (by decide) (by decide) (by decide) [0, 1, 2, 3, 4, 5, 6, 7, 8, 9, 10, 11, 12, 13, 14, 15, 16, 17, 18, 19, 20, 21, 22] (by decide) (fun u => rfl) rfl hl.1 rfl (lv_room (Nat.le_of_ble_eq_true rfl)) d_Pi_pass_71 ⟨Nat.le_of_ble_eq_true rfl, Nat.le_of_ble_eq_true rfl⟩ rfl rfl (fun z11 u H locs h hP hD hS => ?_)
      have hP : va_P G.1 CL [(h0, .inr (6, [.int (gI o0 0), .ref (q0 1), .ref (q0 2)])), kJ G (q0 1) 5 (gB o0 1), kJ G (q0 2) 5 (gB o0 2), (h1, .inr (5, [.ref (r1 0), .int (gI o1 1), .int (gI o1 2), .ref (q1 3), .ref (q1 4), .ref (q1 5), .ref (q1 6), .ref (q1 7), .ref (q1 8), .ref (q1 9), .ref (q1 10), .int (gI o1 11), .int (gI o1 12)])), kI G (q1 3) 20 (gA o1 3), kI G (q1 4) 20 (gA o1 4), kI G (q1 5) 5 (gA o1 5), kJ G (q1 6) 5 (gB o1 6), kJ G (q1 7) 5 (gB o1 7), kJ G (q1 8) 6 (gB o1 8), kI G (q1 10) 5 (gA o1 10), ((q1 9), .inr (1, [.int (gI o2 0), .int (gI o2 1), .int (gI o2 2), .int (gI o2 3), .int (gI o2 4), .int (gI o2 5), .int (gI o2 6)])), ((r1 0), .inr (3, [.ref (q3 0), .int (gI o3 1), .int (gI o3 2), .int (gI o3 3), .int (gI o3 4), .int (gI o3 5), .ref (q3 6), .ref (q3 7), .ref (q3 8), .ref (q3 9), .ref (q3 10), .ref (q3 11), .ref (q3 12), .ref (q3 13), .ref (q3 14)])), kI G (q3 0) 5 (gA o3 0), kI G (q3 6) 20 (gA o3 6), kI G (q3 7) 20 (gA o3 7), kI G (q3 8) 20 (gA o3 8), kI G (q3 9) 20 (gA o3 9), kI G (q3 10) 20 (gA o3 10), kI G (q3 11) 20 (gA o3 11), kI G (q3 12) 8 (gA o3 12), kI G (q3 13) 64 (gA o3 13), kI G (q3 14) 64 (gA o3 14)] H := hP
      have hD : va_D A [(h0, .inr (6, [.int (gI o0 0), .ref (q0 1), .ref (q0 2)])), kJ G (q0 1) 5 (gB o0 1), kJ G (q0 2) 5 (gB o0 2), (h1, .inr (5, [.ref (r1 0), .int (gI o1 1), .int (gI o1 2), .ref (q1 3), .ref (q1 4), .ref (q1 5), .ref (q1 6), .ref (q1 7), .ref (q1 8), .ref (q1 9), .ref (q1 10), .int (gI o1 11), .int (gI o1 12)])), kI G (q1 3) 20 (gA o1 3), kI G (q1 4) 20 (gA o1 4), kI G (q1 5) 5 (gA o1 5), kJ G (q1 6) 5 (gB o1 6), kJ G (q1 7) 5 (gB o1 7), kJ G (q1 8) 6 (gB o1 8), kI G (q1 10) 5 (gA o1 10), ((q1 9), .inr (1, [.int (gI o2 0), .int (gI o2 1), .int (gI o2 2), .int (gI o2 3), .int (gI o2 4), .int (gI o2 5), .int (gI o2 6)])), ((r1 0), .inr (3, [.ref (q3 0), .int (gI o3 1), .int (gI o3 2), .int (gI o3 3), .int (gI o3 4), .int (gI o3 5), .ref (q3 6), .ref (q3 7), .ref (q3 8), .ref (q3 9), .ref (q3 10), .ref (q3 11), .ref (q3 12), .ref (q3 13), .ref (q3 14)])), kI G (q3 0) 5 (gA o3 0), kI G (q3 6) 20 (gA o3 6), kI G (q3 7) 20 (gA o3 7), kI G (q3 8) 20 (gA o3 8), kI G (q3 9) 20 (gA o3 9), kI G (q3 10) 20 (gA o3 10), kI G (q3 11) 20 (gA o3 11), kI G (q3 12) 8 (gA o3 12), kI G (q3 13) 64 (gA o3 13), kI G (q3 14) 64 (gA o3 14)] := hD
      refine lv_ladd hx hb d_Pi_pass_74 ?_
      refine xa_last hx hb hK hP hD hS 1 1 rfl rfl (vp_lit rfl) (k := 0) rfl d_Pi_pass_75 (fun H locs hP hD hS => ?_)
      have hP : va_P G.1 CL [(h0, .inr (6, [.int (gI o0 0), .ref (q0 1), .ref (q0 2)])), kJ G (q0 1) 5 (vp_updL (gB o0 1) 0 ((z10.toInt64) + z11)), kJ G (q0 2) 5 (gB o0 2), (h1, .inr (5, [.ref (r1 0), .int (gI o1 1), .int (gI o1 2), .ref (q1 3), .ref (q1 4), .ref (q1 5), .ref (q1 6), .ref (q1 7), .ref (q1 8), .ref (q1 9), .ref (q1 10), .int (gI o1 11), .int (gI o1 12)])), kI G (q1 3) 20 (gA o1 3), kI G (q1 4) 20 (gA o1 4), kI G (q1 5) 5 (gA o1 5), kJ G (q1 6) 5 (gB o1 6), kJ G (q1 7) 5 (gB o1 7), kJ G (q1 8) 6 (gB o1 8), kI G (q1 10) 5 (gA o1 10), ((q1 9), .inr (1, [.int (gI o2 0), .int (gI o2 1), .int (gI o2 2), .int (gI o2 3), .int (gI o2 4), .int (gI o2 5), .int (gI o2 6)])), ((r1 0), .inr (3, [.ref (q3 0), .int (gI o3 1), .int (gI o3 2), .int (gI o3 3), .int (gI o3 4), .int (gI o3 5), .ref (q3 6), .ref (q3 7), .ref (q3 8), .ref (q3 9), .ref (q3 10), .ref (q3 11), .ref (q3 12), .ref (q3 13), .ref (q3 14)])), kI G (q3 0) 5 (gA o3 0), kI G (q3 6) 20 (gA o3 6), kI G (q3 7) 20 (gA o3 7), kI G (q3 8) 20 (gA o3 8), kI G (q3 9) 20 (gA o3 9), kI G (q3 10) 20 (gA o3 10), kI G (q3 11) 20 (gA o3 11), kI G (q3 12) 8 (gA o3 12), kI G (q3 13) 64 (gA o3 13), kI G (q3 14) 64 (gA o3 14)] H := hP
      have hD : va_D A [(h0, .inr (6, [.int (gI o0 0), .ref (q0 1), .ref (q0 2)])), kJ G (q0 1) 5 (vp_updL (gB o0 1) 0 ((z10.toInt64) + z11)), kJ G (q0 2) 5 (gB o0 2), (h1, .inr (5, [.ref (r1 0), .int (gI o1 1), .int (gI o1 2), .ref (q1 3), .ref (q1 4), .ref (q1 5), .ref (q1 6), .ref (q1 7), .ref (q1 8), .ref (q1 9), .ref (q1 10), .int (gI o1 11), .int (gI o1 12)])), kI G (q1 3) 20 (gA o1 3), kI G (q1 4) 20 (gA o1 4), kI G (q1 5) 5 (gA o1 5), kJ G (q1 6) 5 (gB o1 6), kJ G (q1 7) 5 (gB o1 7), kJ G (q1 8) 6 (gB o1 8), kI G (q1 10) 5 (gA o1 10), ((q1 9), .inr (1, [.int (gI o2 0), .int (gI o2 1), .int (gI o2 2), .int (gI o2 3), .int (gI o2 4), .int (gI o2 5), .int (gI o2 6)])), ((r1 0), .inr (3, [.ref (q3 0), .int (gI o3 1), .int (gI o3 2), .int (gI o3 3), .int (gI o3 4), .int (gI o3 5), .ref (q3 6), .ref (q3 7), .ref (q3 8), .ref (q3 9), .ref (q3 10), .ref (q3 11), .ref (q3 12), .ref (q3 13), .ref (q3 14)])), kI G (q3 0) 5 (gA o3 0), kI G (q3 6) 20 (gA o3 6), kI G (q3 7) 20 (gA o3 7), kI G (q3 8) 20 (gA o3 8), kI G (q3 9) 20 (gA o3 9), kI G (q3 10) 20 (gA o3 10), kI G (q3 11) 20 (gA o3 11), kI G (q3 12) 8 (gA o3 12), kI G (q3 13) 64 (gA o3 13), kI G (q3 14) 64 (gA o3 14)] := hD
      refine lv_aload_n hx hb d_Pi_pass_76 rfl (lv_at hl 2 rfl) ?_
      refine va_get (D := G.1) (ci := 5) (v := .ref (q1 8)) (C := R_Mo) (T := T_Mo) (N := 13) hx hb hts i_Mo hown hK hP 3 rfl rfl 8 (by decide) (hts _ wf_Pi_49) (fun _ h9 => h9) rfl d_Pi_pass_77 ?_
      refine lv_iconst (v := (4 : Int32)) hx hb d_Pi_pass_80 (by decide) ?_
      refine lv_lload_n hx hb d_Pi_pass_81 rfl (lv_at hl 0 rfl) ?_
      refine lv_ldc2 hx hb hown (hts _ wc_Pi_56) d_Pi_pass_82 ?_
      refine cl_Sl (b := b_Pi_pass) (As := [.long y9, .long (100 : Int64)]) (rest := [.int (4 : Int32), .ref (q1 8)]) (ws := [(h0, .inr (6, [.int (gI o0 0), .ref (q0 1), .ref (q0 2)])), kJ G (q0 1) 5 (vp_updL (gB o0 1) 0 ((z10.toInt64) + z11)), kJ G (q0 2) 5 (gB o0 2), (h1, .inr (5, [.ref (r1 0), .int (gI o1 1), .int (gI o1 2), .ref (q1 3), .ref (q1 4), .ref (q1 5), .ref (q1 6), .ref (q1 7), .ref (q1 8), .ref (q1 9), .ref (q1 10), .int (gI o1 11), .int (gI o1 12)])), kI G (q1 3) 20 (gA o1 3), kI G (q1 4) 20 (gA o1 4), kI G (q1 5) 5 (gA o1 5), kJ G (q1 6) 5 (gB o1 6), kJ G (q1 7) 5 (gB o1 7), kJ G (q1 8) 6 (gB o1 8), kI G (q1 10) 5 (gA o1 10), ((q1 9), .inr (1, [.int (gI o2 0), .int (gI o2 1), .int (gI o2 2), .int (gI o2 3), .int (gI o2 4), .int (gI o2 5), .int (gI o2 6)])), ((r1 0), .inr (3, [.ref (q3 0), .int (gI o3 1), .int (gI o3 2), .int (gI o3 3), .int (gI o3 4), .int (gI o3 5), .ref (q3 6), .ref (q3 7), .ref (q3 8), .ref (q3 9), .ref (q3 10), .ref (q3 11), .ref (q3 12), .ref (q3 13), .ref (q3 14)])), kI G (q3 0) 5 (gA o3 0), kI G (q3 6) 20 (gA o3 6), kI G (q3 7) 20 (gA o3 7), kI G (q3 8) 20 (gA o3 8), kI G (q3 9) 20 (gA o3 9), kI G (q3 10) 20 (gA o3 10), kI G (q3 11) 20 (gA o3 11), kI G (q3 12) 8 (gA o3 12), kI G (q3 13) 64 (gA o3 13), kI G (q3 14) 64 (gA o3 14)]) (wr := [(h0, .inr (6, [.int (gI o0 0), .ref (q0 1), .ref (q0 2)])), kJ G (q0 1) 5 (vp_updL (gB o0 1) 0 ((z10.toInt64) + z11)), kJ G (q0 2) 5 (gB o0 2), (h1, .inr (5, [.ref (r1 0), .int (gI o1 1), .int (gI o1 2), .ref (q1 3), .ref (q1 4), .ref (q1 5), .ref (q1 6), .ref (q1 7), .ref (q1 8), .ref (q1 9), .ref (q1 10), .int (gI o1 11), .int (gI o1 12)])), kI G (q1 3) 20 (gA o1 3), kI G (q1 4) 20 (gA o1 4), kI G (q1 5) 5 (gA o1 5), kJ G (q1 6) 5 (gB o1 6), kJ G (q1 7) 5 (gB o1 7), kJ G (q1 8) 6 (gB o1 8), kI G (q1 10) 5 (gA o1 10), ((q1 9), .inr (1, [.int (gI o2 0), .int (gI o2 1), .int (gI o2 2), .int (gI o2 3), .int (gI o2 4), .int (gI o2 5), .int (gI o2 6)])), ((r1 0), .inr (3, [.ref (q3 0), .int (gI o3 1), .int (gI o3 2), .int (gI o3 3), .int (gI o3 4), .int (gI o3 5), .ref (q3 6), .ref (q3 7), .ref (q3 8), .ref (q3 9), .ref (q3 10), .ref (q3 11), .ref (q3 12), .ref (q3 13), .ref (q3 14)])), kI G (q3 0) 5 (gA o3 0), kI G (q3 6) 20 (gA o3 6), kI G (q3 7) 20 (gA o3 7), kI G (q3 8) 20 (gA o3 8), kI G (q3 9) 20 (gA o3 9), kI G (q3 10) 20 (gA o3 10), kI G (q3 11) 20 (gA o3 11), kI G (q3 12) 8 (gA o3 12), kI G (q3 13) 64 (gA o3 13), kI G (q3 14) 64 (gA o3 14)]) (w2 := fun (u : Unit) => [(h0, .inr (6, [.int (gI o0 0), .ref (q0 1), .ref (q0 2)])), kJ G (q0 1) 5 (vp_updL (gB o0 1) 0 ((z10.toInt64) + z11)), kJ G (q0 2) 5 (gB o0 2), (h1, .inr (5, [.ref (r1 0), .int (gI o1 1), .int (gI o1 2), .ref (q1 3), .ref (q1 4), .ref (q1 5), .ref (q1 6), .ref (q1 7), .ref (q1 8), .ref (q1 9), .ref (q1 10), .int (gI o1 11), .int (gI o1 12)])), kI G (q1 3) 20 (gA o1 3), kI G (q1 4) 20 (gA o1 4), kI G (q1 5) 5 (gA o1 5), kJ G (q1 6) 5 (gB o1 6), kJ G (q1 7) 5 (gB o1 7), kJ G (q1 8) 6 (gB o1 8), kI G (q1 10) 5 (gA o1 10), ((q1 9), .inr (1, [.int (gI o2 0), .int (gI o2 1), .int (gI o2 2), .int (gI o2 3), .int (gI o2 4), .int (gI o2 5), .int (gI o2 6)])), ((r1 0), .inr (3, [.ref (q3 0), .int (gI o3 1), .int (gI o3 2), .int (gI o3 3), .int (gI o3 4), .int (gI o3 5), .ref (q3 6), .ref (q3 7), .ref (q3 8), .ref (q3 9), .ref (q3 10), .ref (q3 11), .ref (q3 12), .ref (q3 13), .ref (q3 14)])), kI G (q3 0) 5 (gA o3 0), kI G (q3 6) 20 (gA o3 6), kI G (q3 7) 20 (gA o3 7), kI G (q3 8) 20 (gA o3 8), kI G (q3 9) 20 (gA o3 9), kI G (q3 10) 20 (gA o3 10), kI G (q3 11) 20 (gA o3 11), kI G (q3 12) 8 (gA o3 12), kI G (q3 13) 64 (gA o3 13), kI G (q3 14) 64 (gA o3 14)]) C (c_Mt_floorMod H.size h) ws_Pi_64 ⟨Nat.le_of_ble_eq_true rfl, Nat.le_of_ble_eq_true rfl⟩ hP hD hS [] [0, 1, 2, 3, 4, 5, 6, 7, 8, 9, 10, 11, 12, 13, 14, 15, 16, 17, 18, 19, 20, 21, 22] rfl rfl (by decide) (by decide) (by decide) [0, 1, 2, 3, 4, 5, 6, 7, 8, 9, 10, 11, 12, 13, 14, 15, 16, 17, 18, 19, 20, 21, 22] (by decide) (fun u => rfl) rfl hl.1 rfl (lv_room (Nat.le_of_ble_eq_true rfl)) d_Pi_pass_85 ⟨Nat.le_of_ble_eq_true rfl, Nat.le_of_ble_eq_true rfl⟩ rfl rfl (fun z12 u H locs h hP hD hS => ?_)
      have hP : va_P G.1 CL [(h0, .inr (6, [.int (gI o0 0), .ref (q0 1), .ref (q0 2)])), kJ G (q0 1) 5 (vp_updL (gB o0 1) 0 ((z10.toInt64) + z11)), kJ G (q0 2) 5 (gB o0 2), (h1, .inr (5, [.ref (r1 0), .int (gI o1 1), .int (gI o1 2), .ref (q1 3), .ref (q1 4), .ref (q1 5), .ref (q1 6), .ref (q1 7), .ref (q1 8), .ref (q1 9), .ref (q1 10), .int (gI o1 11), .int (gI o1 12)])), kI G (q1 3) 20 (gA o1 3), kI G (q1 4) 20 (gA o1 4), kI G (q1 5) 5 (gA o1 5), kJ G (q1 6) 5 (gB o1 6), kJ G (q1 7) 5 (gB o1 7), kJ G (q1 8) 6 (gB o1 8), kI G (q1 10) 5 (gA o1 10), ((q1 9), .inr (1, [.int (gI o2 0), .int (gI o2 1), .int (gI o2 2), .int (gI o2 3), .int (gI o2 4), .int (gI o2 5), .int (gI o2 6)])), ((r1 0), .inr (3, [.ref (q3 0), .int (gI o3 1), .int (gI o3 2), .int (gI o3 3), .int (gI o3 4), .int (gI o3 5), .ref (q3 6), .ref (q3 7), .ref (q3 8), .ref (q3 9), .ref (q3 10), .ref (q3 11), .ref (q3 12), .ref (q3 13), .ref (q3 14)])), kI G (q3 0) 5 (gA o3 0), kI G (q3 6) 20 (gA o3 6), kI G (q3 7) 20 (gA o3 7), kI G (q3 8) 20 (gA o3 8), kI G (q3 9) 20 (gA o3 9), kI G (q3 10) 20 (gA o3 10), kI G (q3 11) 20 (gA o3 11), kI G (q3 12) 8 (gA o3 12), kI G (q3 13) 64 (gA o3 13), kI G (q3 14) 64 (gA o3 14)] H := hP
      have hD : va_D A [(h0, .inr (6, [.int (gI o0 0), .ref (q0 1), .ref (q0 2)])), kJ G (q0 1) 5 (vp_updL (gB o0 1) 0 ((z10.toInt64) + z11)), kJ G (q0 2) 5 (gB o0 2), (h1, .inr (5, [.ref (r1 0), .int (gI o1 1), .int (gI o1 2), .ref (q1 3), .ref (q1 4), .ref (q1 5), .ref (q1 6), .ref (q1 7), .ref (q1 8), .ref (q1 9), .ref (q1 10), .int (gI o1 11), .int (gI o1 12)])), kI G (q1 3) 20 (gA o1 3), kI G (q1 4) 20 (gA o1 4), kI G (q1 5) 5 (gA o1 5), kJ G (q1 6) 5 (gB o1 6), kJ G (q1 7) 5 (gB o1 7), kJ G (q1 8) 6 (gB o1 8), kI G (q1 10) 5 (gA o1 10), ((q1 9), .inr (1, [.int (gI o2 0), .int (gI o2 1), .int (gI o2 2), .int (gI o2 3), .int (gI o2 4), .int (gI o2 5), .int (gI o2 6)])), ((r1 0), .inr (3, [.ref (q3 0), .int (gI o3 1), .int (gI o3 2), .int (gI o3 3), .int (gI o3 4), .int (gI o3 5), .ref (q3 6), .ref (q3 7), .ref (q3 8), .ref (q3 9), .ref (q3 10), .ref (q3 11), .ref (q3 12), .ref (q3 13), .ref (q3 14)])), kI G (q3 0) 5 (gA o3 0), kI G (q3 6) 20 (gA o3 6), kI G (q3 7) 20 (gA o3 7), kI G (q3 8) 20 (gA o3 8), kI G (q3 9) 20 (gA o3 9), kI G (q3 10) 20 (gA o3 10), kI G (q3 11) 20 (gA o3 11), kI G (q3 12) 8 (gA o3 12), kI G (q3 13) 64 (gA o3 13), kI G (q3 14) 64 (gA o3 14)] := hD
      refine xa_last hx hb hK hP hD hS 9 1 rfl rfl (vp_lit rfl) (k := 4) rfl d_Pi_pass_88 (fun H locs hP hD hS => ?_)
      have hP : va_P G.1 CL [(h0, .inr (6, [.int (gI o0 0), .ref (q0 1), .ref (q0 2)])), kJ G (q0 1) 5 (vp_updL (gB o0 1) 0 ((z10.toInt64) + z11)), kJ G (q0 2) 5 (gB o0 2), (h1, .inr (5, [.ref (r1 0), .int (gI o1 1), .int (gI o1 2), .ref (q1 3), .ref (q1 4), .ref (q1 5), .ref (q1 6), .ref (q1 7), .ref (q1 8), .ref (q1 9), .ref (q1 10), .int (gI o1 11), .int (gI o1 12)])), kI G (q1 3) 20 (gA o1 3), kI G (q1 4) 20 (gA o1 4), kI G (q1 5) 5 (gA o1 5), kJ G (q1 6) 5 (gB o1 6), kJ G (q1 7) 5 (gB o1 7), kJ G (q1 8) 6 (vp_updL (gB o1 8) 4 z12), kI G (q1 10) 5 (gA o1 10), ((q1 9), .inr (1, [.int (gI o2 0), .int (gI o2 1), .int (gI o2 2), .int (gI o2 3), .int (gI o2 4), .int (gI o2 5), .int (gI o2 6)])), ((r1 0), .inr (3, [.ref (q3 0), .int (gI o3 1), .int (gI o3 2), .int (gI o3 3), .int (gI o3 4), .int (gI o3 5), .ref (q3 6), .ref (q3 7), .ref (q3 8), .ref (q3 9), .ref (q3 10), .ref (q3 11), .ref (q3 12), .ref (q3 13), .ref (q3 14)])), kI G (q3 0) 5 (gA o3 0), kI G (q3 6) 20 (gA o3 6), kI G (q3 7) 20 (gA o3 7), kI G (q3 8) 20 (gA o3 8), kI G (q3 9) 20 (gA o3 9), kI G (q3 10) 20 (gA o3 10), kI G (q3 11) 20 (gA o3 11), kI G (q3 12) 8 (gA o3 12), kI G (q3 13) 64 (gA o3 13), kI G (q3 14) 64 (gA o3 14)] H := hP
      have hD : va_D A [(h0, .inr (6, [.int (gI o0 0), .ref (q0 1), .ref (q0 2)])), kJ G (q0 1) 5 (vp_updL (gB o0 1) 0 ((z10.toInt64) + z11)), kJ G (q0 2) 5 (gB o0 2), (h1, .inr (5, [.ref (r1 0), .int (gI o1 1), .int (gI o1 2), .ref (q1 3), .ref (q1 4), .ref (q1 5), .ref (q1 6), .ref (q1 7), .ref (q1 8), .ref (q1 9), .ref (q1 10), .int (gI o1 11), .int (gI o1 12)])), kI G (q1 3) 20 (gA o1 3), kI G (q1 4) 20 (gA o1 4), kI G (q1 5) 5 (gA o1 5), kJ G (q1 6) 5 (gB o1 6), kJ G (q1 7) 5 (gB o1 7), kJ G (q1 8) 6 (vp_updL (gB o1 8) 4 z12), kI G (q1 10) 5 (gA o1 10), ((q1 9), .inr (1, [.int (gI o2 0), .int (gI o2 1), .int (gI o2 2), .int (gI o2 3), .int (gI o2 4), .int (gI o2 5), .int (gI o2 6)])), ((r1 0), .inr (3, [.ref (q3 0), .int (gI o3 1), .int (gI o3 2), .int (gI o3 3), .int (gI o3 4), .int (gI o3 5), .ref (q3 6), .ref (q3 7), .ref (q3 8), .ref (q3 9), .ref (q3 10), .ref (q3 11), .ref (q3 12), .ref (q3 13), .ref (q3 14)])), kI G (q3 0) 5 (gA o3 0), kI G (q3 6) 20 (gA o3 6), kI G (q3 7) 20 (gA o3 7), kI G (q3 8) 20 (gA o3 8), kI G (q3 9) 20 (gA o3 9), kI G (q3 10) 20 (gA o3 10), kI G (q3 11) 20 (gA o3 11), kI G (q3 12) 8 (gA o3 12), kI G (q3 13) 64 (gA o3 13), kI G (q3 14) 64 (gA o3 14)] := hD
      refine lv_aload_n hx hb d_Pi_pass_89 rfl (lv_at hl 2 rfl) ?_
      refine va_get (D := G.1) (ci := 5) (v := .ref (q1 6)) (C := R_Mo) (T := T_Mo) (N := 13) hx hb hts i_Mo hown hK hP 3 rfl rfl 6 (by decide) (hts _ wf_Pi_67) (fun _ h9 => h9) rfl d_Pi_pass_90 ?_
      refine lv_aload_n hx hb d_Pi_pass_93 rfl (lv_at hl 1 rfl) ?_
      refine va_get (D := G.1) (ci := 6) (v := .int (gI o0 0)) (C := R_Pi) (T := T_Pi) (N := 3) hx hb hts i_Pi hown hK hP 0 rfl rfl 0 (by decide) (hts _ wf_Pi_18) (fun _ h9 => h9) rfl d_Pi_pass_94 ?_
      refine lv_iconst (v := (1 : Int32)) hx hb d_Pi_pass_97 (by decide) ?_
      refine lv_isub hx hb d_Pi_pass_98 ?_
      have g13 := h.1
      have h := h.2
      refine xa_lald hx hb hK hP 7 1 rfl rfl g13 (k := ((gI o0 0) - (1 : Int32)).toNatClampNeg) rfl d_Pi_pass_99 ?_
      refine lv_topl (fun y14 ey14 => ?_)
      have h := h y14 ey14
      refine lv_lstore (lv' := [(4, .long y14), (2, .long y9), (0, .ref h0), (1, .ref h1)]) hx hb d_Pi_pass_100 hl (by decide) rfl (fun ls hl => ?_)
      refine lv_aload_n hx hb d_Pi_pass_102 rfl (lv_at hl 3 rfl) ?_
      refine va_get (D := G.1) (ci := 5) (v := .ref (r1 0)) (C := R_Mo) (T := T_Mo) (N := 13) hx hb hts i_Mo hown hK hP 3 rfl rfl 0 (by decide) (hts _ wf_Pi_37) (fun _ h9 => h9) rfl d_Pi_pass_103 ?_
      refine va_get (D := G.1) (ci := 3) (v := .int (gI o3 2)) (C := R_La) (T := T_La) (N := 15) hx hb hts i_La hown hK hP 12 rfl rfl 2 (by decide) (hts _ wf_Pi_70) (fun _ h9 => h9) rfl d_Pi_pass_106 ?_
      refine lv_i2l (v := ((gI o3 2).toInt64)) hx hb d_Pi_pass_109 rfl ?_
      refine lv_lload hx hb d_Pi_pass_110 (lv_at hl 0 rfl) ?_
      refine lv_lmul hx hb d_Pi_pass_112 ?_
      refine lv_aload_n hx hb d_Pi_pass_113 rfl (lv_at hl 3 rfl) ?_
      refine va_get (D := G.1) (ci := 5) (v := .ref (q1 8)) (C := R_Mo) (T := T_Mo) (N := 13) hx hb hts i_Mo hown hK hP 3 rfl rfl 8 (by decide) (hts _ wf_Pi_49) (fun _ h9 => h9) rfl d_Pi_pass_114 ?_
      refine lv_iconst (v := (5 : Int32)) hx hb d_Pi_pass_117 (by decide) ?_
      refine xa_lald hx hb hK hP 9 1 rfl rfl (vp_lit rfl) (k := 5) rfl d_Pi_pass_118 ?_
      refine lv_ladd hx hb d_Pi_pass_119 ?_
      refine lv_topl (fun y15 ey15 => ?_)
      have h := h y15 ey15
      refine lv_lstore (lv' := [(6, .long y15), (4, .long y14), (2, .long y9), (0, .ref h0), (1, .ref h1)]) hx hb d_Pi_pass_120 hl (by decide) rfl (fun ls hl => ?_)
      refine lv_lload hx hb d_Pi_pass_122 (lv_at hl 0 rfl) ?_
      refine lv_ldc2 hx hb hown (hts _ wc_Pi_56) d_Pi_pass_124 ?_
      refine cl_Sl (b := b_Pi_pass) (As := [.long y15, .long (100 : Int64)]) (rest := []) (ws := [(h0, .inr (6, [.int (gI o0 0), .ref (q0 1), .ref (q0 2)])), kJ G (q0 1) 5 (vp_updL (gB o0 1) 0 ((z10.toInt64) + z11)), kJ G (q0 2) 5 (gB o0 2), (h1, .inr (5, [.ref (r1 0), .int (gI o1 1), .int (gI o1 2), .ref (q1 3), .ref (q1 4), .ref (q1 5), .ref (q1 6), .ref (q1 7), .ref (q1 8), .ref (q1 9), .ref (q1 10), .int (gI o1 11), .int (gI o1 12)])), kI G (q1 3) 20 (gA o1 3), kI G (q1 4) 20 (gA o1 4), kI G (q1 5) 5 (gA o1 5), kJ G (q1 6) 5 (gB o1 6), kJ G (q1 7) 5 (gB o1 7), kJ G (q1 8) 6 (vp_updL (gB o1 8) 4 z12), kI G (q1 10) 5 (gA o1 10), ((q1 9), .inr (1, [.int (gI o2 0), .int (gI o2 1), .int (gI o2 2), .int (gI o2 3), .int (gI o2 4), .int (gI o2 5), .int (gI o2 6)])), ((r1 0), .inr (3, [.ref (q3 0), .int (gI o3 1), .int (gI o3 2), .int (gI o3 3), .int (gI o3 4), .int (gI o3 5), .ref (q3 6), .ref (q3 7), .ref (q3 8), .ref (q3 9), .ref (q3 10), .ref (q3 11), .ref (q3 12), .ref (q3 13), .ref (q3 14)])), kI G (q3 0) 5 (gA o3 0), kI G (q3 6) 20 (gA o3 6), kI G (q3 7) 20 (gA o3 7), kI G (q3 8) 20 (gA o3 8), kI G (q3 9) 20 (gA o3 9), kI G (q3 10) 20 (gA o3 10), kI G (q3 11) 20 (gA o3 11), kI G (q3 12) 8 (gA o3 12), kI G (q3 13) 64 (gA o3 13), kI G (q3 14) 64 (gA o3 14)]) (wr := [(h0, .inr (6, [.int (gI o0 0), .ref (q0 1), .ref (q0 2)])), kJ G (q0 1) 5 (vp_updL (gB o0 1) 0 ((z10.toInt64) + z11)), kJ G (q0 2) 5 (gB o0 2), (h1, .inr (5, [.ref (r1 0), .int (gI o1 1), .int (gI o1 2), .ref (q1 3), .ref (q1 4), .ref (q1 5), .ref (q1 6), .ref (q1 7), .ref (q1 8), .ref (q1 9), .ref (q1 10), .int (gI o1 11), .int (gI o1 12)])), kI G (q1 3) 20 (gA o1 3), kI G (q1 4) 20 (gA o1 4), kI G (q1 5) 5 (gA o1 5), kJ G (q1 6) 5 (gB o1 6), kJ G (q1 7) 5 (gB o1 7), kJ G (q1 8) 6 (vp_updL (gB o1 8) 4 z12), kI G (q1 10) 5 (gA o1 10), ((q1 9), .inr (1, [.int (gI o2 0), .int (gI o2 1), .int (gI o2 2), .int (gI o2 3), .int (gI o2 4), .int (gI o2 5), .int (gI o2 6)])), ((r1 0), .inr (3, [.ref (q3 0), .int (gI o3 1), .int (gI o3 2), .int (gI o3 3), .int (gI o3 4), .int (gI o3 5), .ref (q3 6), .ref (q3 7), .ref (q3 8), .ref (q3 9), .ref (q3 10), .ref (q3 11), .ref (q3 12), .ref (q3 13), .ref (q3 14)])), kI G (q3 0) 5 (gA o3 0), kI G (q3 6) 20 (gA o3 6), kI G (q3 7) 20 (gA o3 7), kI G (q3 8) 20 (gA o3 8), kI G (q3 9) 20 (gA o3 9), kI G (q3 10) 20 (gA o3 10), kI G (q3 11) 20 (gA o3 11), kI G (q3 12) 8 (gA o3 12), kI G (q3 13) 64 (gA o3 13), kI G (q3 14) 64 (gA o3 14)]) (w2 := fun (u : Unit) => [(h0, .inr (6, [.int (gI o0 0), .ref (q0 1), .ref (q0 2)])), kJ G (q0 1) 5 (vp_updL (gB o0 1) 0 ((z10.toInt64) + z11)), kJ G (q0 2) 5 (gB o0 2), (h1, .inr (5, [.ref (r1 0), .int (gI o1 1), .int (gI o1 2), .ref (q1 3), .ref (q1 4), .ref (q1 5), .ref (q1 6), .ref (q1 7), .ref (q1 8), .ref (q1 9), .ref (q1 10), .int (gI o1 11), .int (gI o1 12)])), kI G (q1 3) 20 (gA o1 3), kI G (q1 4) 20 (gA o1 4), kI G (q1 5) 5 (gA o1 5), kJ G (q1 6) 5 (gB o1 6), kJ G (q1 7) 5 (gB o1 7), kJ G (q1 8) 6 (vp_updL (gB o1 8) 4 z12), kI G (q1 10) 5 (gA o1 10), ((q1 9), .inr (1, [.int (gI o2 0), .int (gI o2 1), .int (gI o2 2), .int (gI o2 3), .int (gI o2 4), .int (gI o2 5), .int (gI o2 6)])), ((r1 0), .inr (3, [.ref (q3 0), .int (gI o3 1), .int (gI o3 2), .int (gI o3 3), .int (gI o3 4), .int (gI o3 5), .ref (q3 6), .ref (q3 7), .ref (q3 8), .ref (q3 9), .ref (q3 10), .ref (q3 11), .ref (q3 12), .ref (q3 13), .ref (q3 14)])), kI G (q3 0) 5 (gA o3 0), kI G (q3 6) 20 (gA o3 6), kI G (q3 7) 20 (gA o3 7), kI G (q3 8) 20 (gA o3 8), kI G (q3 9) 20 (gA o3 9), kI G (q3 10) 20 (gA o3 10), kI G (q3 11) 20 (gA o3 11), kI G (q3 12) 8 (gA o3 12), kI G (q3 13) 64 (gA o3 13), kI G (q3 14) 64 (gA o3 14)]) C (c_Mt_floorDiv H.size h) ws_Pi_58 ⟨Nat.le_of_ble_eq_true rfl, Nat.le_of_ble_eq_true rfl⟩ hP hD hS [] [0, 1, 2, 3, 4, 5, 6, 7, 8, 9, 10, 11, 12, 13, 14, 15, 16, 17, 18, 19, 20, 21, 22] rfl rfl (by decide) (by decide) (by decide) [0, 1, 2, 3, 4, 5, 6, 7, 8, 9, 10, 11, 12, 13, 14, 15, 16, 17, 18, 19, 20, 21, 22] (by decide) (fun u => rfl) rfl hl.1 rfl (lv_room (Nat.le_of_ble_eq_true rfl)) d_Pi_pass_127 ⟨Nat.le_of_ble_eq_true rfl, Nat.le_of_ble_eq_true rfl⟩ rfl rfl (fun z16 u H locs h hP hD hS => ?_)
      have hP : va_P G.1 CL [(h0, .inr (6, [.int (gI o0 0), .ref (q0 1), .ref (q0 2)])), kJ G (q0 1) 5 (vp_updL (gB o0 1) 0 ((z10.toInt64) + z11)), kJ G (q0 2) 5 (gB o0 2), (h1, .inr (5, [.ref (r1 0), .int (gI o1 1), .int (gI o1 2), .ref (q1 3), .ref (q1 4), .ref (q1 5), .ref (q1 6), .ref (q1 7), .ref (q1 8), .ref (q1 9), .ref (q1 10), .int (gI o1 11), .int (gI o1 12)])), kI G (q1 3) 20 (gA o1 3), kI G (q1 4) 20 (gA o1 4), kI G (q1 5) 5 (gA o1 5), kJ G (q1 6) 5 (gB o1 6), kJ G (q1 7) 5 (gB o1 7), kJ G (q1 8) 6 (vp_updL (gB o1 8) 4 z12), kI G (q1 10) 5 (gA o1 10), ((q1 9), .inr (1, [.int (gI o2 0), .int (gI o2 1), .int (gI o2 2), .int (gI o2 3), .int (gI o2 4), .int (gI o2 5), .int (gI o2 6)])), ((r1 0), .inr (3, [.ref (q3 0), .int (gI o3 1), .int (gI o3 2), .int (gI o3 3), .int (gI o3 4), .int (gI o3 5), .ref (q3 6), .ref (q3 7), .ref (q3 8), .ref (q3 9), .ref (q3 10), .ref (q3 11), .ref (q3 12), .ref (q3 13), .ref (q3 14)])), kI G (q3 0) 5 (gA o3 0), kI G (q3 6) 20 (gA o3 6), kI G (q3 7) 20 (gA o3 7), kI G (q3 8) 20 (gA o3 8), kI G (q3 9) 20 (gA o3 9), kI G (q3 10) 20 (gA o3 10), kI G (q3 11) 20 (gA o3 11), kI G (q3 12) 8 (gA o3 12), kI G (q3 13) 64 (gA o3 13), kI G (q3 14) 64 (gA o3 14)] H := hP
      have hD : va_D A [(h0, .inr (6, [.int (gI o0 0), .ref (q0 1), .ref (q0 2)])), kJ G (q0 1) 5 (vp_updL (gB o0 1) 0 ((z10.toInt64) + z11)), kJ G (q0 2) 5 (gB o0 2), (h1, .inr (5, [.ref (r1 0), .int (gI o1 1), .int (gI o1 2), .ref (q1 3), .ref (q1 4), .ref (q1 5), .ref (q1 6), .ref (q1 7), .ref (q1 8), .ref (q1 9), .ref (q1 10), .int (gI o1 11), .int (gI o1 12)])), kI G (q1 3) 20 (gA o1 3), kI G (q1 4) 20 (gA o1 4), kI G (q1 5) 5 (gA o1 5), kJ G (q1 6) 5 (gB o1 6), kJ G (q1 7) 5 (gB o1 7), kJ G (q1 8) 6 (vp_updL (gB o1 8) 4 z12), kI G (q1 10) 5 (gA o1 10), ((q1 9), .inr (1, [.int (gI o2 0), .int (gI o2 1), .int (gI o2 2), .int (gI o2 3), .int (gI o2 4), .int (gI o2 5), .int (gI o2 6)])), ((r1 0), .inr (3, [.ref (q3 0), .int (gI o3 1), .int (gI o3 2), .int (gI o3 3), .int (gI o3 4), .int (gI o3 5), .ref (q3 6), .ref (q3 7), .ref (q3 8), .ref (q3 9), .ref (q3 10), .ref (q3 11), .ref (q3 12), .ref (q3 13), .ref (q3 14)])), kI G (q3 0) 5 (gA o3 0), kI G (q3 6) 20 (gA o3 6), kI G (q3 7) 20 (gA o3 7), kI G (q3 8) 20 (gA o3 8), kI G (q3 9) 20 (gA o3 9), kI G (q3 10) 20 (gA o3 10), kI G (q3 11) 20 (gA o3 11), kI G (q3 12) 8 (gA o3 12), kI G (q3 13) 64 (gA o3 13), kI G (q3 14) 64 (gA o3 14)] := hD
      refine lv_lstore (lv' := [(8, .long z16), (6, .long y15), (4, .long y14), (2, .long y9), (0, .ref h0), (1, .ref h1)]) hx hb d_Pi_pass_130 hl (by decide) rfl (fun ls hl => ?_)
      refine lv_aload_n hx hb d_Pi_pass_132 rfl (lv_at hl 4 rfl) ?_
      refine va_get (D := G.1) (ci := 6) (v := .ref (q0 2)) (C := R_Pi) (T := T_Pi) (N := 3) hx hb hts i_Pi hown hK hP 0 rfl rfl 2 (by decide) (hts _ wf_Pi_15) (fun _ h9 => h9) rfl d_Pi_pass_133 ?_
      refine lv_aload_n hx hb d_Pi_pass_136 rfl (lv_at hl 4 rfl) ?_
      refine va_get (D := G.1) (ci := 6) (v := .int (gI o0 0)) (C := R_Pi) (T := T_Pi) (N := 3) hx hb hts i_Pi hown hK hP 0 rfl rfl 0 (by decide) (hts _ wf_Pi_18) (fun _ h9 => h9) rfl d_Pi_pass_137 ?_
      refine lv_iconst (v := (1 : Int32)) hx hb d_Pi_pass_140 (by decide) ?_
      refine lv_isub hx hb d_Pi_pass_141 ?_
      refine lv_lload hx hb d_Pi_pass_142 (lv_at hl 0 rfl) ?_
      refine lv_lneg hx hb d_Pi_pass_144 ?_
      have g17 := h.1
      have h := h.2
      refine xa_last hx hb hK hP hD hS 2 1 rfl rfl g17 (k := ((gI o0 0) - (1 : Int32)).toNatClampNeg) rfl d_Pi_pass_145 (fun H locs hP hD hS => ?_)
      have hP : va_P G.1 CL [(h0, .inr (6, [.int (gI o0 0), .ref (q0 1), .ref (q0 2)])), kJ G (q0 1) 5 (vp_updL (gB o0 1) 0 ((z10.toInt64) + z11)), kJ G (q0 2) 5 (vp_updL (gB o0 2) (((gI o0 0) - (1 : Int32)).toNatClampNeg) (-z16)), (h1, .inr (5, [.ref (r1 0), .int (gI o1 1), .int (gI o1 2), .ref (q1 3), .ref (q1 4), .ref (q1 5), .ref (q1 6), .ref (q1 7), .ref (q1 8), .ref (q1 9), .ref (q1 10), .int (gI o1 11), .int (gI o1 12)])), kI G (q1 3) 20 (gA o1 3), kI G (q1 4) 20 (gA o1 4), kI G (q1 5) 5 (gA o1 5), kJ G (q1 6) 5 (gB o1 6), kJ G (q1 7) 5 (gB o1 7), kJ G (q1 8) 6 (vp_updL (gB o1 8) 4 z12), kI G (q1 10) 5 (gA o1 10), ((q1 9), .inr (1, [.int (gI o2 0), .int (gI o2 1), .int (gI o2 2), .int (gI o2 3), .int (gI o2 4), .int (gI o2 5), .int (gI o2 6)])), ((r1 0), .inr (3, [.ref (q3 0), .int (gI o3 1), .int (gI o3 2), .int (gI o3 3), .int (gI o3 4), .int (gI o3 5), .ref (q3 6), .ref (q3 7), .ref (q3 8), .ref (q3 9), .ref (q3 10), .ref (q3 11), .ref (q3 12), .ref (q3 13), .ref (q3 14)])), kI G (q3 0) 5 (gA o3 0), kI G (q3 6) 20 (gA o3 6), kI G (q3 7) 20 (gA o3 7), kI G (q3 8) 20 (gA o3 8), kI G (q3 9) 20 (gA o3 9), kI G (q3 10) 20 (gA o3 10), kI G (q3 11) 20 (gA o3 11), kI G (q3 12) 8 (gA o3 12), kI G (q3 13) 64 (gA o3 13), kI G (q3 14) 64 (gA o3 14)] H := hP
      have hD : va_D A [(h0, .inr (6, [.int (gI o0 0), .ref (q0 1), .ref (q0 2)])), kJ G (q0 1) 5 (vp_updL (gB o0 1) 0 ((z10.toInt64) + z11)), kJ G (q0 2) 5 (vp_updL (gB o0 2) (((gI o0 0) - (1 : Int32)).toNatClampNeg) (-z16)), (h1, .inr (5, [.ref (r1 0), .int (gI o1 1), .int (gI o1 2), .ref (q1 3), .ref (q1 4), .ref (q1 5), .ref (q1 6), .ref (q1 7), .ref (q1 8), .ref (q1 9), .ref (q1 10), .int (gI o1 11), .int (gI o1 12)])), kI G (q1 3) 20 (gA o1 3), kI G (q1 4) 20 (gA o1 4), kI G (q1 5) 5 (gA o1 5), kJ G (q1 6) 5 (gB o1 6), kJ G (q1 7) 5 (gB o1 7), kJ G (q1 8) 6 (vp_updL (gB o1 8) 4 z12), kI G (q1 10) 5 (gA o1 10), ((q1 9), .inr (1, [.int (gI o2 0), .int (gI o2 1), .int (gI o2 2), .int (gI o2 3), .int (gI o2 4), .int (gI o2 5), .int (gI o2 6)])), ((r1 0), .inr (3, [.ref (q3 0), .int (gI o3 1), .int (gI o3 2), .int (gI o3 3), .int (gI o3 4), .int (gI o3 5), .ref (q3 6), .ref (q3 7), .ref (q3 8), .ref (q3 9), .ref (q3 10), .ref (q3 11), .ref (q3 12), .ref (q3 13), .ref (q3 14)])), kI G (q3 0) 5 (gA o3 0), kI G (q3 6) 20 (gA o3 6), kI G (q3 7) 20 (gA o3 7), kI G (q3 8) 20 (gA o3 8), kI G (q3 9) 20 (gA o3 9), kI G (q3 10) 20 (gA o3 10), kI G (q3 11) 20 (gA o3 11), kI G (q3 12) 8 (gA o3 12), kI G (q3 13) 64 (gA o3 13), kI G (q3 14) 64 (gA o3 14)] := hD
      refine lv_aload_n hx hb d_Pi_pass_146 rfl (lv_at hl 5 rfl) ?_
      refine va_get (D := G.1) (ci := 5) (v := .ref (q1 8)) (C := R_Mo) (T := T_Mo) (N := 13) hx hb hts i_Mo hown hK hP 3 rfl rfl 8 (by decide) (hts _ wf_Pi_49) (fun _ h9 => h9) rfl d_Pi_pass_147 ?_
      refine lv_iconst (v := (5 : Int32)) hx hb d_Pi_pass_150 (by decide) ?_
      refine lv_lload hx hb d_Pi_pass_151 (lv_at hl 1 rfl) ?_
      refine lv_ldc2 hx hb hown (hts _ wc_Pi_56) d_Pi_pass_153 ?_
      refine cl_Sl (b := b_Pi_pass) (As := [.long y15, .long (100 : Int64)]) (rest := [.int (5 : Int32), .ref (q1 8)]) (ws := [(h0, .inr (6, [.int (gI o0 0), .ref (q0 1), .ref (q0 2)])), kJ G (q0 1) 5 (vp_updL (gB o0 1) 0 ((z10.toInt64) + z11)), kJ G (q0 2) 5 (vp_updL (gB o0 2) (((gI o0 0) - (1 : Int32)).toNatClampNeg) (-z16)), (h1, .inr (5, [.ref (r1 0), .int (gI o1 1), .int (gI o1 2), .ref (q1 3), .ref (q1 4), .ref (q1 5), .ref (q1 6), .ref (q1 7), .ref (q1 8), .ref (q1 9), .ref (q1 10), .int (gI o1 11), .int (gI o1 12)])), kI G (q1 3) 20 (gA o1 3), kI G (q1 4) 20 (gA o1 4), kI G (q1 5) 5 (gA o1 5), kJ G (q1 6) 5 (gB o1 6), kJ G (q1 7) 5 (gB o1 7), kJ G (q1 8) 6 (vp_updL (gB o1 8) 4 z12), kI G (q1 10) 5 (gA o1 10), ((q1 9), .inr (1, [.int (gI o2 0), .int (gI o2 1), .int (gI o2 2), .int (gI o2 3), .int (gI o2 4), .int (gI o2 5), .int (gI o2 6)])), ((r1 0), .inr (3, [.ref (q3 0), .int (gI o3 1), .int (gI o3 2), .int (gI o3 3), .int (gI o3 4), .int (gI o3 5), .ref (q3 6), .ref (q3 7), .ref (q3 8), .ref (q3 9), .ref (q3 10), .ref (q3 11), .ref (q3 12), .ref (q3 13), .ref (q3 14)])), kI G (q3 0) 5 (gA o3 0), kI G (q3 6) 20 (gA o3 6), kI G (q3 7) 20 (gA o3 7), kI G (q3 8) 20 (gA o3 8), kI G (q3 9) 20 (gA o3 9), kI G (q3 10) 20 (gA o3 10), kI G (q3 11) 20 (gA o3 11), kI G (q3 12) 8 (gA o3 12), kI G (q3 13) 64 (gA o3 13), kI G (q3 14) 64 (gA o3 14)]) (wr := [(h0, .inr (6, [.int (gI o0 0), .ref (q0 1), .ref (q0 2)])), kJ G (q0 1) 5 (vp_updL (gB o0 1) 0 ((z10.toInt64) + z11)), kJ G (q0 2) 5 (vp_updL (gB o0 2) (((gI o0 0) - (1 : Int32)).toNatClampNeg) (-z16)), (h1, .inr (5, [.ref (r1 0), .int (gI o1 1), .int (gI o1 2), .ref (q1 3), .ref (q1 4), .ref (q1 5), .ref (q1 6), .ref (q1 7), .ref (q1 8), .ref (q1 9), .ref (q1 10), .int (gI o1 11), .int (gI o1 12)])), kI G (q1 3) 20 (gA o1 3), kI G (q1 4) 20 (gA o1 4), kI G (q1 5) 5 (gA o1 5), kJ G (q1 6) 5 (gB o1 6), kJ G (q1 7) 5 (gB o1 7), kJ G (q1 8) 6 (vp_updL (gB o1 8) 4 z12), kI G (q1 10) 5 (gA o1 10), ((q1 9), .inr (1, [.int (gI o2 0), .int (gI o2 1), .int (gI o2 2), .int (gI o2 3), .int (gI o2 4), .int (gI o2 5), .int (gI o2 6)])), ((r1 0), .inr (3, [.ref (q3 0), .int (gI o3 1), .int (gI o3 2), .int (gI o3 3), .int (gI o3 4), .int (gI o3 5), .ref (q3 6), .ref (q3 7), .ref (q3 8), .ref (q3 9), .ref (q3 10), .ref (q3 11), .ref (q3 12), .ref (q3 13), .ref (q3 14)])), kI G (q3 0) 5 (gA o3 0), kI G (q3 6) 20 (gA o3 6), kI G (q3 7) 20 (gA o3 7), kI G (q3 8) 20 (gA o3 8), kI G (q3 9) 20 (gA o3 9), kI G (q3 10) 20 (gA o3 10), kI G (q3 11) 20 (gA o3 11), kI G (q3 12) 8 (gA o3 12), kI G (q3 13) 64 (gA o3 13), kI G (q3 14) 64 (gA o3 14)]) (w2 := fun (u : Unit) => [(h0, .inr (6, [.int (gI o0 0), .ref (q0 1), .ref (q0 2)])), kJ G (q0 1) 5 (vp_updL (gB o0 1) 0 ((z10.toInt64) + z11)), kJ G (q0 2) 5 (vp_updL (gB o0 2) (((gI o0 0) - (1 : Int32)).toNatClampNeg) (-z16)), (h1, .inr (5, [.ref (r1 0), .int (gI o1 1), .int (gI o1 2), .ref (q1 3), .ref (q1 4), .ref (q1 5), .ref (q1 6), .ref (q1 7), .ref (q1 8), .ref (q1 9), .ref (q1 10), .int (gI o1 11), .int (gI o1 12)])), kI G (q1 3) 20 (gA o1 3), kI G (q1 4) 20 (gA o1 4), kI G (q1 5) 5 (gA o1 5), kJ G (q1 6) 5 (gB o1 6), kJ G (q1 7) 5 (gB o1 7), kJ G (q1 8) 6 (vp_updL (gB o1 8) 4 z12), kI G (q1 10) 5 (gA o1 10), ((q1 9), .inr (1, [.int (gI o2 0), .int (gI o2 1), .int (gI o2 2), .int (gI o2 3), .int (gI o2 4), .int (gI o2 5), .int (gI o2 6)])), ((r1 0), .inr (3, [.ref (q3 0), .int (gI o3 1), .int (gI o3 2), .int (gI o3 3), .int (gI o3 4), .int (gI o3 5), .ref (q3 6), .ref (q3 7), .ref (q3 8), .ref (q3 9), .ref (q3 10), .ref (q3 11), .ref (q3 12), .ref (q3 13), .ref (q3 14)])), kI G (q3 0) 5 (gA o3 0), kI G (q3 6) 20 (gA o3 6), kI G (q3 7) 20 (gA o3 7), kI G (q3 8) 20 (gA o3 8), kI G (q3 9) 20 (gA o3 9), kI G (q3 10) 20 (gA o3 10), kI G (q3 11) 20 (gA o3 11), kI G (q3 12) 8 (gA o3 12), kI G (q3 13) 64 (gA o3 13), kI G (q3 14) 64 (gA o3 14)]) C (c_Mt_floorMod H.size h) ws_Pi_64 ⟨Nat.le_of_ble_eq_true rfl, Nat.le_of_ble_eq_true rfl⟩ hP hD hS [] [0, 1, 2, 3, 4, 5, 6, 7, 8, 9, 10, 11, 12, 13, 14, 15, 16, 17, 18, 19, 20, 21, 22] rfl rfl (by decide) (by decide) (by decide) [0, 1, 2, 3, 4, 5, 6, 7, 8, 9, 10, 11, 12, 13, 14, 15, 16, 17, 18, 19, 20, 21, 22] (by decide) (fun u => rfl) rfl hl.1 rfl (lv_room (Nat.le_of_ble_eq_true rfl)) d_Pi_pass_156 ⟨Nat.le_of_ble_eq_true rfl, Nat.le_of_ble_eq_true rfl⟩ rfl rfl (fun z18 u H locs h hP hD hS => ?_)
      have hP : va_P G.1 CL [(h0, .inr (6, [.int (gI o0 0), .ref (q0 1), .ref (q0 2)])), kJ G (q0 1) 5 (vp_updL (gB o0 1) 0 ((z10.toInt64) + z11)), kJ G (q0 2) 5 (vp_updL (gB o0 2) (((gI o0 0) - (1 : Int32)).toNatClampNeg) (-z16)), (h1, .inr (5, [.ref (r1 0), .int (gI o1 1), .int (gI o1 2), .ref (q1 3), .ref (q1 4), .ref (q1 5), .ref (q1 6), .ref (q1 7), .ref (q1 8), .ref (q1 9), .ref (q1 10), .int (gI o1 11), .int (gI o1 12)])), kI G (q1 3) 20 (gA o1 3), kI G (q1 4) 20 (gA o1 4), kI G (q1 5) 5 (gA o1 5), kJ G (q1 6) 5 (gB o1 6), kJ G (q1 7) 5 (gB o1 7), kJ G (q1 8) 6 (vp_updL (gB o1 8) 4 z12), kI G (q1 10) 5 (gA o1 10), ((q1 9), .inr (1, [.int (gI o2 0), .int (gI o2 1), .int (gI o2 2), .int (gI o2 3), .int (gI o2 4), .int (gI o2 5), .int (gI o2 6)])), ((r1 0), .inr (3, [.ref (q3 0), .int (gI o3 1), .int (gI o3 2), .int (gI o3 3), .int (gI o3 4), .int (gI o3 5), .ref (q3 6), .ref (q3 7), .ref (q3 8), .ref (q3 9), .ref (q3 10), .ref (q3 11), .ref (q3 12), .ref (q3 13), .ref (q3 14)])), kI G (q3 0) 5 (gA o3 0), kI G (q3 6) 20 (gA o3 6), kI G (q3 7) 20 (gA o3 7), kI G (q3 8) 20 (gA o3 8), kI G (q3 9) 20 (gA o3 9), kI G (q3 10) 20 (gA o3 10), kI G (q3 11) 20 (gA o3 11), kI G (q3 12) 8 (gA o3 12), kI G (q3 13) 64 (gA o3 13), kI G (q3 14) 64 (gA o3 14)] H := hP
      have hD : va_D A [(h0, .inr (6, [.int (gI o0 0), .ref (q0 1), .ref (q0 2)])), kJ G (q0 1) 5 (vp_updL (gB o0 1) 0 ((z10.toInt64) + z11)), kJ G (q0 2) 5 (vp_updL (gB o0 2) (((gI o0 0) - (1 : Int32)).toNatClampNeg) (-z16)), (h1, .inr (5, [.ref (r1 0), .int (gI o1 1), .int (gI o1 2), .ref (q1 3), .ref (q1 4), .ref (q1 5), .ref (q1 6), .ref (q1 7), .ref (q1 8), .ref (q1 9), .ref (q1 10), .int (gI o1 11), .int (gI o1 12)])), kI G (q1 3) 20 (gA o1 3), kI G (q1 4) 20 (gA o1 4), kI G (q1 5) 5 (gA o1 5), kJ G (q1 6) 5 (gB o1 6), kJ G (q1 7) 5 (gB o1 7), kJ G (q1 8) 6 (vp_updL (gB o1 8) 4 z12), kI G (q1 10) 5 (gA o1 10), ((q1 9), .inr (1, [.int (gI o2 0), .int (gI o2 1), .int (gI o2 2), .int (gI o2 3), .int (gI o2 4), .int (gI o2 5), .int (gI o2 6)])), ((r1 0), .inr (3, [.ref (q3 0), .int (gI o3 1), .int (gI o3 2), .int (gI o3 3), .int (gI o3 4), .int (gI o3 5), .ref (q3 6), .ref (q3 7), .ref (q3 8), .ref (q3 9), .ref (q3 10), .ref (q3 11), .ref (q3 12), .ref (q3 13), .ref (q3 14)])), kI G (q3 0) 5 (gA o3 0), kI G (q3 6) 20 (gA o3 6), kI G (q3 7) 20 (gA o3 7), kI G (q3 8) 20 (gA o3 8), kI G (q3 9) 20 (gA o3 9), kI G (q3 10) 20 (gA o3 10), kI G (q3 11) 20 (gA o3 11), kI G (q3 12) 8 (gA o3 12), kI G (q3 13) 64 (gA o3 13), kI G (q3 14) 64 (gA o3 14)] := hD
      refine xa_last hx hb hK hP hD hS 9 1 rfl rfl (vp_lit rfl) (k := 5) rfl d_Pi_pass_159 (fun H locs hP hD hS => ?_)
      have hP : va_P G.1 CL [(h0, .inr (6, [.int (gI o0 0), .ref (q0 1), .ref (q0 2)])), kJ G (q0 1) 5 (vp_updL (gB o0 1) 0 ((z10.toInt64) + z11)), kJ G (q0 2) 5 (vp_updL (gB o0 2) (((gI o0 0) - (1 : Int32)).toNatClampNeg) (-z16)), (h1, .inr (5, [.ref (r1 0), .int (gI o1 1), .int (gI o1 2), .ref (q1 3), .ref (q1 4), .ref (q1 5), .ref (q1 6), .ref (q1 7), .ref (q1 8), .ref (q1 9), .ref (q1 10), .int (gI o1 11), .int (gI o1 12)])), kI G (q1 3) 20 (gA o1 3), kI G (q1 4) 20 (gA o1 4), kI G (q1 5) 5 (gA o1 5), kJ G (q1 6) 5 (gB o1 6), kJ G (q1 7) 5 (gB o1 7), kJ G (q1 8) 6 (vp_updL (vp_updL (gB o1 8) 4 z12) 5 z18), kI G (q1 10) 5 (gA o1 10), ((q1 9), .inr (1, [.int (gI o2 0), .int (gI o2 1), .int (gI o2 2), .int (gI o2 3), .int (gI o2 4), .int (gI o2 5), .int (gI o2 6)])), ((r1 0), .inr (3, [.ref (q3 0), .int (gI o3 1), .int (gI o3 2), .int (gI o3 3), .int (gI o3 4), .int (gI o3 5), .ref (q3 6), .ref (q3 7), .ref (q3 8), .ref (q3 9), .ref (q3 10), .ref (q3 11), .ref (q3 12), .ref (q3 13), .ref (q3 14)])), kI G (q3 0) 5 (gA o3 0), kI G (q3 6) 20 (gA o3 6), kI G (q3 7) 20 (gA o3 7), kI G (q3 8) 20 (gA o3 8), kI G (q3 9) 20 (gA o3 9), kI G (q3 10) 20 (gA o3 10), kI G (q3 11) 20 (gA o3 11), kI G (q3 12) 8 (gA o3 12), kI G (q3 13) 64 (gA o3 13), kI G (q3 14) 64 (gA o3 14)] H := hP
      have hD : va_D A [(h0, .inr (6, [.int (gI o0 0), .ref (q0 1), .ref (q0 2)])), kJ G (q0 1) 5 (vp_updL (gB o0 1) 0 ((z10.toInt64) + z11)), kJ G (q0 2) 5 (vp_updL (gB o0 2) (((gI o0 0) - (1 : Int32)).toNatClampNeg) (-z16)), (h1, .inr (5, [.ref (r1 0), .int (gI o1 1), .int (gI o1 2), .ref (q1 3), .ref (q1 4), .ref (q1 5), .ref (q1 6), .ref (q1 7), .ref (q1 8), .ref (q1 9), .ref (q1 10), .int (gI o1 11), .int (gI o1 12)])), kI G (q1 3) 20 (gA o1 3), kI G (q1 4) 20 (gA o1 4), kI G (q1 5) 5 (gA o1 5), kJ G (q1 6) 5 (gB o1 6), kJ G (q1 7) 5 (gB o1 7), kJ G (q1 8) 6 (vp_updL (vp_updL (gB o1 8) 4 z12) 5 z18), kI G (q1 10) 5 (gA o1 10), ((q1 9), .inr (1, [.int (gI o2 0), .int (gI o2 1), .int (gI o2 2), .int (gI o2 3), .int (gI o2 4), .int (gI o2 5), .int (gI o2 6)])), ((r1 0), .inr (3, [.ref (q3 0), .int (gI o3 1), .int (gI o3 2), .int (gI o3 3), .int (gI o3 4), .int (gI o3 5), .ref (q3 6), .ref (q3 7), .ref (q3 8), .ref (q3 9), .ref (q3 10), .ref (q3 11), .ref (q3 12), .ref (q3 13), .ref (q3 14)])), kI G (q3 0) 5 (gA o3 0), kI G (q3 6) 20 (gA o3 6), kI G (q3 7) 20 (gA o3 7), kI G (q3 8) 20 (gA o3 8), kI G (q3 9) 20 (gA o3 9), kI G (q3 10) 20 (gA o3 10), kI G (q3 11) 20 (gA o3 11), kI G (q3 12) 8 (gA o3 12), kI G (q3 13) 64 (gA o3 13), kI G (q3 14) 64 (gA o3 14)] := hD
      refine lv_iconst (v := (0 : Int32)) hx hb d_Pi_pass_160 (by decide) ?_
      refine lv_istore (lv' := [(10, .int (0 : Int32)), (8, .long z16), (6, .long y15), (4, .long y14), (2, .long y9), (0, .ref h0), (1, .ref h1)]) hx hb d_Pi_pass_161 hl (by decide) rfl (fun ls hl => ?_)
      have hl := lv_sub (l' := [(0, .ref h0), (1, .ref h1), (4, .long y14), (8, .long z16), (10, .int (0 : Int32))]) hl [5, 6, 3, 1, 0] rfl
      have hP : va_P G.1 CL (cw_Pi G h0 q0 (sB (sB o0 1 (vp_updL (gB o0 1) 0 ((z10.toInt64) + z11))) 2 (vp_updL (gB o0 2) (((gI o0 0) - (1 : Int32)).toNatClampNeg) (-z16))) ++ (cw_Mo G h1 q1 r1 (sB o1 8 (vp_updL (vp_updL (gB o1 8) 4 z12) 5 z18)) ++ (cw_Fo G (q1 9) q2 o2 ++ (cw_La G (r1 0) q3 o3)))) H := hP
      have hD : va_D A (cw_Pi G h0 q0 (sB (sB o0 1 (vp_updL (gB o0 1) 0 ((z10.toInt64) + z11))) 2 (vp_updL (gB o0 2) (((gI o0 0) - (1 : Int32)).toNatClampNeg) (-z16))) ++ (cw_Mo G h1 q1 r1 (sB o1 8 (vp_updL (vp_updL (gB o1 8) 4 z12) 5 z18)) ++ (cw_Fo G (q1 9) q2 o2 ++ (cw_La G (r1 0) q3 o3)))) := hD
      obtain ⟨w, h⟩ := h
      exact t_Pi_pass_163 r1 o3 Q C w y14 z16 (0 : Int32) (sB (sB o0 1 (vp_updL (gB o0 1) 0 ((z10.toInt64) + z11))) 2 (vp_updL (gB o0 2) (((gI o0 0) - (1 : Int32)).toNatClampNeg) (-z16))) (sB o1 8 (vp_updL (vp_updL (gB o1 8) 4 z12) 5 z18)) o2 ls _ locs hl hP hD hS h
    · have h := h.2 c8
      refine lv_aload_n hx hb d_Pi_pass_19 rfl (lv_at hl 0 rfl) ?_
      refine lv_aload_n hx hb d_Pi_pass_20 rfl (lv_at hl 1 rfl) ?_
      refine lv_iload_n hx hb d_Pi_pass_21 rfl (lv_at hl 2 rfl) ?_
      refine cl_Vv (b := b_Pi_pass) (As := [.ref h1, .int x2]) (rest := []) (ws := [(h0, .inr (6, [.int (gI o0 0), .ref (q0 1), .ref (q0 2)])), kJ G (q0 1) 5 (gB o0 1), kJ G (q0 2) 5 (gB o0 2), (h1, .inr (5, [.ref (r1 0), .int (gI o1 1), .int (gI o1 2), .ref (q1 3), .ref (q1 4), .ref (q1 5), .ref (q1 6), .ref (q1 7), .ref (q1 8), .ref (q1 9), .ref (q1 10), .int (gI o1 11), .int (gI o1 12)])), kI G (q1 3) 20 (gA o1 3), kI G (q1 4) 20 (gA o1 4), kI G (q1 5) 5 (gA o1 5), kJ G (q1 6) 5 (gB o1 6), kJ G (q1 7) 5 (gB o1 7), kJ G (q1 8) 6 (gB o1 8), kI G (q1 10) 5 (gA o1 10), ((q1 9), .inr (1, [.int (gI o2 0), .int (gI o2 1), .int (gI o2 2), .int (gI o2 3), .int (gI o2 4), .int (gI o2 5), .int (gI o2 6)])), ((r1 0), .inr (3, [.ref (q3 0), .int (gI o3 1), .int (gI o3 2), .int (gI o3 3), .int (gI o3 4), .int (gI o3 5), .ref (q3 6), .ref (q3 7), .ref (q3 8), .ref (q3 9), .ref (q3 10), .ref (q3 11), .ref (q3 12), .ref (q3 13), .ref (q3 14)])), kI G (q3 0) 5 (gA o3 0), kI G (q3 6) 20 (gA o3 6), kI G (q3 7) 20 (gA o3 7), kI G (q3 8) 20 (gA o3 8), kI G (q3 9) 20 (gA o3 9), kI G (q3 10) 20 (gA o3 10), kI G (q3 11) 20 (gA o3 11), kI G (q3 12) 8 (gA o3 12), kI G (q3 13) 64 (gA o3 13), kI G (q3 14) 64 (gA o3 14)]) (wr := [((q1 9), .inr (1, [.int (gI o2 0), .int (gI o2 1), .int (gI o2 2), .int (gI o2 3), .int (gI o2 4), .int (gI o2 5), .int (gI o2 6)])), ((r1 0), .inr (3, [.ref (q3 0), .int (gI o3 1), .int (gI o3 2), .int (gI o3 3), .int (gI o3 4), .int (gI o3 5), .ref (q3 6), .ref (q3 7), .ref (q3 8), .ref (q3 9), .ref (q3 10), .ref (q3 11), .ref (q3 12), .ref (q3 13), .ref (q3 14)])), kI G (q3 0) 5 (gA o3 0), kI G (q3 6) 20 (gA o3 6), kI G (q3 7) 20 (gA o3 7), kI G (q3 8) 20 (gA o3 8), kI G (q3 9) 20 (gA o3 9), kI G (q3 10) 20 (gA o3 10), kI G (q3 11) 20 (gA o3 11), kI G (q3 12) 8 (gA o3 12), kI G (q3 13) 64 (gA o3 13), kI G (q3 14) 64 (gA o3 14)]) (w2 := fun (u : Ob × Ob) => [(h0, .inr (6, [.int (gI u.1 0), .ref (q0 1), .ref (q0 2)])), kJ G (q0 1) 5 (gB u.1 1), kJ G (q0 2) 5 (gB u.1 2), (h1, .inr (5, [.ref (r1 0), .int (gI u.2 1), .int (gI u.2 2), .ref (q1 3), .ref (q1 4), .ref (q1 5), .ref (q1 6), .ref (q1 7), .ref (q1 8), .ref (q1 9), .ref (q1 10), .int (gI u.2 11), .int (gI u.2 12)])), kI G (q1 3) 20 (gA u.2 3), kI G (q1 4) 20 (gA u.2 4), kI G (q1 5) 5 (gA u.2 5), kJ G (q1 6) 5 (gB u.2 6), kJ G (q1 7) 5 (gB u.2 7), kJ G (q1 8) 6 (gB u.2 8), kI G (q1 10) 5 (gA u.2 10), ((q1 9), .inr (1, [.int (gI o2 0), .int (gI o2 1), .int (gI o2 2), .int (gI o2 3), .int (gI o2 4), .int (gI o2 5), .int (gI o2 6)])), ((r1 0), .inr (3, [.ref (q3 0), .int (gI o3 1), .int (gI o3 2), .int (gI o3 3), .int (gI o3 4), .int (gI o3 5), .ref (q3 6), .ref (q3 7), .ref (q3 8), .ref (q3 9), .ref (q3 10), .ref (q3 11), .ref (q3 12), .ref (q3 13), .ref (q3 14)])), kI G (q3 0) 5 (gA o3 0), kI G (q3 6) 20 (gA o3 6), kI G (q3 7) 20 (gA o3 7), kI G (q3 8) 20 (gA o3 8), kI G (q3 9) 20 (gA o3 9), kI G (q3 10) 20 (gA o3 10), kI G (q3 11) 20 (gA o3 11), kI G (q3 12) 8 (gA o3 12), kI G (q3 13) 64 (gA o3 13), kI G (q3 14) 64 (gA o3 14)]) C (c_Pi_passJoint (h0 := h0) (q0 := q0) (h1 := h1) (q1 := q1) H.size h) wv_Pi_33 ⟨Nat.le_of_ble_eq_true rfl, Nat.le_of_ble_eq_true rfl⟩ hP hD hS 0 rfl rfl [0, 1, 2, 3, 4, 5, 6, 7, 8, 9, 10] [11, 12, 13, 14, 15, 16, 17, 18, 19, 20, 21, 22] rfl rfl (by decide) (by decide) (by decide) [12, 13, 14, 15, 16, 17, 18, 19, 20, 21, 22, 0, 1, 2, 3, 4, 5, 6, 7, 8, 9, 10, 11] (by decide) (fun u => rfl) rfl hl.1 rfl (lv_room (Nat.le_of_ble_eq_true rfl)) d_Pi_pass_22 ⟨Nat.le_of_ble_eq_true rfl, Nat.le_of_ble_eq_true rfl⟩ rfl rfl (fun u H locs h hP hD hS => ?_)
      obtain ⟨u19, u20⟩ := u
      have hP : va_P G.1 CL [(h0, .inr (6, [.int (gI u19 0), .ref (q0 1), .ref (q0 2)])), kJ G (q0 1) 5 (gB u19 1), kJ G (q0 2) 5 (gB u19 2), (h1, .inr (5, [.ref (r1 0), .int (gI u20 1), .int (gI u20 2), .ref (q1 3), .ref (q1 4), .ref (q1 5), .ref (q1 6), .ref (q1 7), .ref (q1 8), .ref (q1 9), .ref (q1 10), .int (gI u20 11), .int (gI u20 12)])), kI G (q1 3) 20 (gA u20 3), kI G (q1 4) 20 (gA u20 4), kI G (q1 5) 5 (gA u20 5), kJ G (q1 6) 5 (gB u20 6), kJ G (q1 7) 5 (gB u20 7), kJ G (q1 8) 6 (gB u20 8), kI G (q1 10) 5 (gA u20 10), ((q1 9), .inr (1, [.int (gI o2 0), .int (gI o2 1), .int (gI o2 2), .int (gI o2 3), .int (gI o2 4), .int (gI o2 5), .int (gI o2 6)])), ((r1 0), .inr (3, [.ref (q3 0), .int (gI o3 1), .int (gI o3 2), .int (gI o3 3), .int (gI o3 4), .int (gI o3 5), .ref (q3 6), .ref (q3 7), .ref (q3 8), .ref (q3 9), .ref (q3 10), .ref (q3 11), .ref (q3 12), .ref (q3 13), .ref (q3 14)])), kI G (q3 0) 5 (gA o3 0), kI G (q3 6) 20 (gA o3 6), kI G (q3 7) 20 (gA o3 7), kI G (q3 8) 20 (gA o3 8), kI G (q3 9) 20 (gA o3 9), kI G (q3 10) 20 (gA o3 10), kI G (q3 11) 20 (gA o3 11), kI G (q3 12) 8 (gA o3 12), kI G (q3 13) 64 (gA o3 13), kI G (q3 14) 64 (gA o3 14)] H := hP
      have hD : va_D A [(h0, .inr (6, [.int (gI u19 0), .ref (q0 1), .ref (q0 2)])), kJ G (q0 1) 5 (gB u19 1), kJ G (q0 2) 5 (gB u19 2), (h1, .inr (5, [.ref (r1 0), .int (gI u20 1), .int (gI u20 2), .ref (q1 3), .ref (q1 4), .ref (q1 5), .ref (q1 6), .ref (q1 7), .ref (q1 8), .ref (q1 9), .ref (q1 10), .int (gI u20 11), .int (gI u20 12)])), kI G (q1 3) 20 (gA u20 3), kI G (q1 4) 20 (gA u20 4), kI G (q1 5) 5 (gA u20 5), kJ G (q1 6) 5 (gB u20 6), kJ G (q1 7) 5 (gB u20 7), kJ G (q1 8) 6 (gB u20 8), kI G (q1 10) 5 (gA u20 10), ((q1 9), .inr (1, [.int (gI o2 0), .int (gI o2 1), .int (gI o2 2), .int (gI o2 3), .int (gI o2 4), .int (gI o2 5), .int (gI o2 6)])), ((r1 0), .inr (3, [.ref (q3 0), .int (gI o3 1), .int (gI o3 2), .int (gI o3 3), .int (gI o3 4), .int (gI o3 5), .ref (q3 6), .ref (q3 7), .ref (q3 8), .ref (q3 9), .ref (q3 10), .ref (q3 11), .ref (q3 12), .ref (q3 13), .ref (q3 14)])), kI G (q3 0) 5 (gA o3 0), kI G (q3 6) 20 (gA o3 6), kI G (q3 7) 20 (gA o3 7), kI G (q3 8) 20 (gA o3 8), kI G (q3 9) 20 (gA o3 9), kI G (q3 10) 20 (gA o3 10), kI G (q3 11) 20 (gA o3 11), kI G (q3 12) 8 (gA o3 12), kI G (q3 13) 64 (gA o3 13), kI G (q3 14) 64 (gA o3 14)] := hD
      refine lv_iinc (v := (x2 + (1 : Int32))) (lv' := [(2, .int (x2 + (1 : Int32))), (0, .ref h0), (1, .ref h1)]) hx hb d_Pi_pass_25 hl (k := 2) rfl rfl (by decide) rfl (fun ls hl => ?_)
      refine lv_goto (tgt := 9) hx hb d_Pi_pass_28 (by decide) ?_
      have hl := lv_sub (l' := [(0, .ref h0), (1, .ref h1), (2, .int (x2 + (1 : Int32)))]) hl [1, 2, 0] rfl
      have hP : va_P G.1 CL (cw_Pi G h0 q0 u19 ++ (cw_Mo G h1 q1 r1 u20 ++ (cw_Fo G (q1 9) q2 o2 ++ (cw_La G (r1 0) q3 o3)))) H := hP
      have hD : va_D A (cw_Pi G h0 q0 u19 ++ (cw_Mo G h1 q1 r1 u20 ++ (cw_Fo G (q1 9) q2 o2 ++ (cw_La G (r1 0) q3 o3)))) := hD
      exact ih (x2 + (1 : Int32)) u19 u20 o2 ls H locs hl hP hD hS h
set_option maxHeartbeats 4000000 in
set_option maxRecDepth 100000 in
theorem c_Pi_pass {l : Launch} {G : Gl} {h0 : Nat} {h1 : Nat} {q0 : Nat → Nat} {q1 : Nat → Nat} {q2 : Nat → Nat} {q3 : Nat → Nat} {o0 : Ob} {r1 : (Nat → Nat)} {o1 : Ob} {o2 : Ob} {o3 : Ob} {Q : Int64 → Ob → Ob → Ob → Prop} (sz : Nat) (h : f_Pi_pass o0 r1 o1 o2 o3 Q) : Met l y_Pi_pass w_Pi_pass rm_Pi_pass (PcW G [.ref h0, .ref h1] sz (cw_Pi G h0 q0 o0 ++ (cw_Mo G h1 q1 r1 o1 ++ (cw_Fo G (q1 9) q2 o2 ++ (cw_La G (r1 0) q3 o3))))) (va_Ql (fun (r : Int64) (u : Ob × Ob × Ob) => Q r u.1 u.2.1 u.2.2) (fun (u : Ob × Ob × Ob) t => BW G (va_A (cw_Pi G h0 q0 o0 ++ (cw_Mo G h1 q1 r1 o1 ++ (cw_Fo G (q1 9) q2 o2 ++ (cw_La G (r1 0) q3 o3)))) sz) (cw_Pi G h0 q0 u.1 ++ (cw_Mo G h1 q1 r1 u.2.1 ++ (cw_Fo G (q1 9) q2 u.2.2 ++ (cw_La G (r1 0) q3 o3)))) t) (va_A (cw_Pi G h0 q0 o0 ++ (cw_Mo G h1 q1 r1 o1 ++ (cw_Fo G (q1 9) q2 o2 ++ (cw_La G (r1 0) q3 o3)))) sz)) 0 0 (va_A (cw_Pi G h0 q0 o0 ++ (cw_Mo G h1 q1 r1 o1 ++ (cw_Fo G (q1 9) q2 o2 ++ (cw_La G (r1 0) q3 o3)))) sz) := by
  refine Met.ofW (cc := b_Pi_pass) (maxL := 11) (ret := (some .long)) (by decide +kernel) rfl ?_
  intro p e s m args below meth c s₁ B hml hv
  obtain ⟨rfl, hsz, hP, hK, hD0, hE⟩ := hv
  have hx := B.exec
  have hb := B.bytes
  have hr := B.returns
  have hts0 := atoms_spec (ws := w_Pi_pass) B.pre
  have hts : ∀ w ∈ gw_tbl, w.before ([.ref h0, .ref h1]).toArray s = true := fun w hw => hts0 w (List.mem_cons_of_mem _ hw)
  have hown : s.vm.findClass R_Pi = some m.cls := findClass_of_methodNamed B.named
  have hlocks := B.notSynchronized
  subst hsz
  have hD := hD0.self (sz := s.heap.size)
  generalize hAe : va_A (cw_Pi G h0 q0 o0 ++ (cw_Mo G h1 q1 r1 o1 ++ (cw_Fo G (q1 9) q2 o2 ++ (cw_La G (r1 0) q3 o3)))) s.heap.size = A at hD hE ⊢
  have hA : ∀ q : Nat, s.heap.size ≤ q → A q := fun q h => by rw [← hAe]; exact Or.inr h
  have hS : va_S A s.heap s.heap [] := va_S.rf
  have C : Cx p s m ([.ref h0, .ref h1]).toArray meth c R_Pi b_Pi_pass 11 (some .long) G A := ⟨hx, hb, hml, hown, hr, hts, hK, hA, hlocks, hE⟩
  have hl := lv_entry ([.ref h0, .ref h1]) (n := 11) (Nat.le_of_ble_eq_true rfl)
  rw [lg_entry_eq]
  generalize (lg_sl ([.ref h0, .ref h1]) ++ List.replicate (11 - (lg_sl ([.ref h0, .ref h1])).length) Slot.unset).toArray = ls at hl ⊢
  have hl : lv_has ls 11 [(0, .ref h0), (1, .ref h1)] := hl
  have hD : va_D A [(h0, .inr (6, [.int (gI o0 0), .ref (q0 1), .ref (q0 2)])), kJ G (q0 1) 5 (gB o0 1), kJ G (q0 2) 5 (gB o0 2), (h1, .inr (5, [.ref (r1 0), .int (gI o1 1), .int (gI o1 2), .ref (q1 3), .ref (q1 4), .ref (q1 5), .ref (q1 6), .ref (q1 7), .ref (q1 8), .ref (q1 9), .ref (q1 10), .int (gI o1 11), .int (gI o1 12)])), kI G (q1 3) 20 (gA o1 3), kI G (q1 4) 20 (gA o1 4), kI G (q1 5) 5 (gA o1 5), kJ G (q1 6) 5 (gB o1 6), kJ G (q1 7) 5 (gB o1 7), kJ G (q1 8) 6 (gB o1 8), kI G (q1 10) 5 (gA o1 10), ((q1 9), .inr (1, [.int (gI o2 0), .int (gI o2 1), .int (gI o2 2), .int (gI o2 3), .int (gI o2 4), .int (gI o2 5), .int (gI o2 6)])), ((r1 0), .inr (3, [.ref (q3 0), .int (gI o3 1), .int (gI o3 2), .int (gI o3 3), .int (gI o3 4), .int (gI o3 5), .ref (q3 6), .ref (q3 7), .ref (q3 8), .ref (q3 9), .ref (q3 10), .ref (q3 11), .ref (q3 12), .ref (q3 13), .ref (q3 14)])), kI G (q3 0) 5 (gA o3 0), kI G (q3 6) 20 (gA o3 6), kI G (q3 7) 20 (gA o3 7), kI G (q3 8) 20 (gA o3 8), kI G (q3 9) 20 (gA o3 9), kI G (q3 10) 20 (gA o3 10), kI G (q3 11) 20 (gA o3 11), kI G (q3 12) 8 (gA o3 12), kI G (q3 13) 64 (gA o3 13), kI G (q3 14) 64 (gA o3 14)] := hD
  unfold f_Pi_pass at h
  suffices key : ∀ (H : Heap) (locs : List Loc), va_P G.1 CL [(h0, .inr (6, [.int (gI o0 0), .ref (q0 1), .ref (q0 2)])), kJ G (q0 1) 5 (gB o0 1), kJ G (q0 2) 5 (gB o0 2), (h1, .inr (5, [.ref (r1 0), .int (gI o1 1), .int (gI o1 2), .ref (q1 3), .ref (q1 4), .ref (q1 5), .ref (q1 6), .ref (q1 7), .ref (q1 8), .ref (q1 9), .ref (q1 10), .int (gI o1 11), .int (gI o1 12)])), kI G (q1 3) 20 (gA o1 3), kI G (q1 4) 20 (gA o1 4), kI G (q1 5) 5 (gA o1 5), kJ G (q1 6) 5 (gB o1 6), kJ G (q1 7) 5 (gB o1 7), kJ G (q1 8) 6 (gB o1 8), kI G (q1 10) 5 (gA o1 10), ((q1 9), .inr (1, [.int (gI o2 0), .int (gI o2 1), .int (gI o2 2), .int (gI o2 3), .int (gI o2 4), .int (gI o2 5), .int (gI o2 6)])), ((r1 0), .inr (3, [.ref (q3 0), .int (gI o3 1), .int (gI o3 2), .int (gI o3 3), .int (gI o3 4), .int (gI o3 5), .ref (q3 6), .ref (q3 7), .ref (q3 8), .ref (q3 9), .ref (q3 10), .ref (q3 11), .ref (q3 12), .ref (q3 13), .ref (q3 14)])), kI G (q3 0) 5 (gA o3 0), kI G (q3 6) 20 (gA o3 6), kI G (q3 7) 20 (gA o3 7), kI G (q3 8) 20 (gA o3 8), kI G (q3 9) 20 (gA o3 9), kI G (q3 10) 20 (gA o3 10), kI G (q3 11) 20 (gA o3 11), kI G (q3 12) 8 (gA o3 12), kI G (q3 13) 64 (gA o3 13), kI G (q3 14) 64 (gA o3 14)] H → va_S A s.heap H locs → W p l e rm_Pi_pass s m ([.ref h0, .ref h1]).toArray below meth c H locs 0 0 (MQ below (va_Ql (fun (r : Int64) (u : Ob × Ob × Ob) => Q r u.1 u.2.1 u.2.2) (fun (u : Ob × Ob × Ob) t => BW G A (cw_Pi G h0 q0 u.1 ++ (cw_Mo G h1 q1 r1 u.2.1 ++ (cw_Fo G (q1 9) q2 u.2.2 ++ (cw_La G (r1 0) q3 o3)))) t) A) ([.ref h0, .ref h1]).toArray s 0 0 A) (F0 m 0 ls []) from key s.heap [] hP hS
  intro H locs hP hS
  refine lv_aload_n hx hb d_Pi_pass_0 rfl (lv_at hl 1 rfl) ?_
  refine va_get (D := G.1) (ci := 5) (v := .ref (q1 9)) (C := R_Mo) (T := T_Mo) (N := 13) hx hb hts i_Mo hown hK hP 3 rfl rfl 9 (by decide) (hts _ wf_Pi_22) (fun _ h9 => h9) rfl d_Pi_pass_1 ?_
  refine cl_Vv (b := b_Pi_pass) (As := []) (rest := []) (ws := [(h0, .inr (6, [.int (gI o0 0), .ref (q0 1), .ref (q0 2)])), kJ G (q0 1) 5 (gB o0 1), kJ G (q0 2) 5 (gB o0 2), (h1, .inr (5, [.ref (r1 0), .int (gI o1 1), .int (gI o1 2), .ref (q1 3), .ref (q1 4), .ref (q1 5), .ref (q1 6), .ref (q1 7), .ref (q1 8), .ref (q1 9), .ref (q1 10), .int (gI o1 11), .int (gI o1 12)])), kI G (q1 3) 20 (gA o1 3), kI G (q1 4) 20 (gA o1 4), kI G (q1 5) 5 (gA o1 5), kJ G (q1 6) 5 (gB o1 6), kJ G (q1 7) 5 (gB o1 7), kJ G (q1 8) 6 (gB o1 8), kI G (q1 10) 5 (gA o1 10), ((q1 9), .inr (1, [.int (gI o2 0), .int (gI o2 1), .int (gI o2 2), .int (gI o2 3), .int (gI o2 4), .int (gI o2 5), .int (gI o2 6)])), ((r1 0), .inr (3, [.ref (q3 0), .int (gI o3 1), .int (gI o3 2), .int (gI o3 3), .int (gI o3 4), .int (gI o3 5), .ref (q3 6), .ref (q3 7), .ref (q3 8), .ref (q3 9), .ref (q3 10), .ref (q3 11), .ref (q3 12), .ref (q3 13), .ref (q3 14)])), kI G (q3 0) 5 (gA o3 0), kI G (q3 6) 20 (gA o3 6), kI G (q3 7) 20 (gA o3 7), kI G (q3 8) 20 (gA o3 8), kI G (q3 9) 20 (gA o3 9), kI G (q3 10) 20 (gA o3 10), kI G (q3 11) 20 (gA o3 11), kI G (q3 12) 8 (gA o3 12), kI G (q3 13) 64 (gA o3 13), kI G (q3 14) 64 (gA o3 14)]) (wr := [(h0, .inr (6, [.int (gI o0 0), .ref (q0 1), .ref (q0 2)])), kJ G (q0 1) 5 (gB o0 1), kJ G (q0 2) 5 (gB o0 2), (h1, .inr (5, [.ref (r1 0), .int (gI o1 1), .int (gI o1 2), .ref (q1 3), .ref (q1 4), .ref (q1 5), .ref (q1 6), .ref (q1 7), .ref (q1 8), .ref (q1 9), .ref (q1 10), .int (gI o1 11), .int (gI o1 12)])), kI G (q1 3) 20 (gA o1 3), kI G (q1 4) 20 (gA o1 4), kI G (q1 5) 5 (gA o1 5), kJ G (q1 6) 5 (gB o1 6), kJ G (q1 7) 5 (gB o1 7), kJ G (q1 8) 6 (gB o1 8), kI G (q1 10) 5 (gA o1 10), ((r1 0), .inr (3, [.ref (q3 0), .int (gI o3 1), .int (gI o3 2), .int (gI o3 3), .int (gI o3 4), .int (gI o3 5), .ref (q3 6), .ref (q3 7), .ref (q3 8), .ref (q3 9), .ref (q3 10), .ref (q3 11), .ref (q3 12), .ref (q3 13), .ref (q3 14)])), kI G (q3 0) 5 (gA o3 0), kI G (q3 6) 20 (gA o3 6), kI G (q3 7) 20 (gA o3 7), kI G (q3 8) 20 (gA o3 8), kI G (q3 9) 20 (gA o3 9), kI G (q3 10) 20 (gA o3 10), kI G (q3 11) 20 (gA o3 11), kI G (q3 12) 8 (gA o3 12), kI G (q3 13) 64 (gA o3 13), kI G (q3 14) 64 (gA o3 14)]) (w2 := fun (u : Ob) => [(h0, .inr (6, [.int (gI o0 0), .ref (q0 1), .ref (q0 2)])), kJ G (q0 1) 5 (gB o0 1), kJ G (q0 2) 5 (gB o0 2), (h1, .inr (5, [.ref (r1 0), .int (gI o1 1), .int (gI o1 2), .ref (q1 3), .ref (q1 4), .ref (q1 5), .ref (q1 6), .ref (q1 7), .ref (q1 8), .ref (q1 9), .ref (q1 10), .int (gI o1 11), .int (gI o1 12)])), kI G (q1 3) 20 (gA o1 3), kI G (q1 4) 20 (gA o1 4), kI G (q1 5) 5 (gA o1 5), kJ G (q1 6) 5 (gB o1 6), kJ G (q1 7) 5 (gB o1 7), kJ G (q1 8) 6 (gB o1 8), kI G (q1 10) 5 (gA o1 10), ((q1 9), .inr (1, [.int (gI u 0), .int (gI u 1), .int (gI u 2), .int (gI u 3), .int (gI u 4), .int (gI u 5), .int (gI u 6)])), ((r1 0), .inr (3, [.ref (q3 0), .int (gI o3 1), .int (gI o3 2), .int (gI o3 3), .int (gI o3 4), .int (gI o3 5), .ref (q3 6), .ref (q3 7), .ref (q3 8), .ref (q3 9), .ref (q3 10), .ref (q3 11), .ref (q3 12), .ref (q3 13), .ref (q3 14)])), kI G (q3 0) 5 (gA o3 0), kI G (q3 6) 20 (gA o3 6), kI G (q3 7) 20 (gA o3 7), kI G (q3 8) 20 (gA o3 8), kI G (q3 9) 20 (gA o3 9), kI G (q3 10) 20 (gA o3 10), kI G (q3 11) 20 (gA o3 11), kI G (q3 12) 8 (gA o3 12), kI G (q3 13) 64 (gA o3 13), kI G (q3 14) 64 (gA o3 14)]) C (c_Fo_pass (h0 := (q1 9)) (q0 := q2) H.size h) wv_Pi_28 ⟨Nat.le_of_ble_eq_true rfl, Nat.le_of_ble_eq_true rfl⟩ hP hD hS 11 rfl rfl [11] [0, 1, 2, 3, 4, 5, 6, 7, 8, 9, 10, 12, 13, 14, 15, 16, 17, 18, 19, 20, 21, 22] rfl rfl (by decide) (by decide) (by decide) [0, 1, 2, 3, 4, 5, 6, 7, 8, 9, 10, 22, 11, 12, 13, 14, 15, 16, 17, 18, 19, 20, 21] (by decide) (fun u => rfl) rfl hl.1 rfl (lv_room (Nat.le_of_ble_eq_true rfl)) d_Pi_pass_4 ⟨Nat.le_of_ble_eq_true rfl, Nat.le_of_ble_eq_true rfl⟩ rfl rfl (fun u H locs h hP hD hS => ?_)
  generalize u = u21 at h hP hD
  have hP : va_P G.1 CL [(h0, .inr (6, [.int (gI o0 0), .ref (q0 1), .ref (q0 2)])), kJ G (q0 1) 5 (gB o0 1), kJ G (q0 2) 5 (gB o0 2), (h1, .inr (5, [.ref (r1 0), .int (gI o1 1), .int (gI o1 2), .ref (q1 3), .ref (q1 4), .ref (q1 5), .ref (q1 6), .ref (q1 7), .ref (q1 8), .ref (q1 9), .ref (q1 10), .int (gI o1 11), .int (gI o1 12)])), kI G (q1 3) 20 (gA o1 3), kI G (q1 4) 20 (gA o1 4), kI G (q1 5) 5 (gA o1 5), kJ G (q1 6) 5 (gB o1 6), kJ G (q1 7) 5 (gB o1 7), kJ G (q1 8) 6 (gB o1 8), kI G (q1 10) 5 (gA o1 10), ((q1 9), .inr (1, [.int (gI u21 0), .int (gI u21 1), .int (gI u21 2), .int (gI u21 3), .int (gI u21 4), .int (gI u21 5), .int (gI u21 6)])), ((r1 0), .inr (3, [.ref (q3 0), .int (gI o3 1), .int (gI o3 2), .int (gI o3 3), .int (gI o3 4), .int (gI o3 5), .ref (q3 6), .ref (q3 7), .ref (q3 8), .ref (q3 9), .ref (q3 10), .ref (q3 11), .ref (q3 12), .ref (q3 13), .ref (q3 14)])), kI G (q3 0) 5 (gA o3 0), kI G (q3 6) 20 (gA o3 6), kI G (q3 7) 20 (gA o3 7), kI G (q3 8) 20 (gA o3 8), kI G (q3 9) 20 (gA o3 9), kI G (q3 10) 20 (gA o3 10), kI G (q3 11) 20 (gA o3 11), kI G (q3 12) 8 (gA o3 12), kI G (q3 13) 64 (gA o3 13), kI G (q3 14) 64 (gA o3 14)] H := hP
  have hD : va_D A [(h0, .inr (6, [.int (gI o0 0), .ref (q0 1), .ref (q0 2)])), kJ G (q0 1) 5 (gB o0 1), kJ G (q0 2) 5 (gB o0 2), (h1, .inr (5, [.ref (r1 0), .int (gI o1 1), .int (gI o1 2), .ref (q1 3), .ref (q1 4), .ref (q1 5), .ref (q1 6), .ref (q1 7), .ref (q1 8), .ref (q1 9), .ref (q1 10), .int (gI o1 11), .int (gI o1 12)])), kI G (q1 3) 20 (gA o1 3), kI G (q1 4) 20 (gA o1 4), kI G (q1 5) 5 (gA o1 5), kJ G (q1 6) 5 (gB o1 6), kJ G (q1 7) 5 (gB o1 7), kJ G (q1 8) 6 (gB o1 8), kI G (q1 10) 5 (gA o1 10), ((q1 9), .inr (1, [.int (gI u21 0), .int (gI u21 1), .int (gI u21 2), .int (gI u21 3), .int (gI u21 4), .int (gI u21 5), .int (gI u21 6)])), ((r1 0), .inr (3, [.ref (q3 0), .int (gI o3 1), .int (gI o3 2), .int (gI o3 3), .int (gI o3 4), .int (gI o3 5), .ref (q3 6), .ref (q3 7), .ref (q3 8), .ref (q3 9), .ref (q3 10), .ref (q3 11), .ref (q3 12), .ref (q3 13), .ref (q3 14)])), kI G (q3 0) 5 (gA o3 0), kI G (q3 6) 20 (gA o3 6), kI G (q3 7) 20 (gA o3 7), kI G (q3 8) 20 (gA o3 8), kI G (q3 9) 20 (gA o3 9), kI G (q3 10) 20 (gA o3 10), kI G (q3 11) 20 (gA o3 11), kI G (q3 12) 8 (gA o3 12), kI G (q3 13) 64 (gA o3 13), kI G (q3 14) 64 (gA o3 14)] := hD
  refine lv_iconst (v := (0 : Int32)) hx hb d_Pi_pass_7 (by decide) ?_
  refine lv_istore_n (lv' := [(2, .int (0 : Int32)), (0, .ref h0), (1, .ref h1)]) hx hb d_Pi_pass_8 rfl hl (by decide) rfl (fun ls hl => ?_)
  have hl := lv_sub (l' := [(0, .ref h0), (1, .ref h1), (2, .int (0 : Int32))]) hl [1, 2, 0] rfl
  have hP : va_P G.1 CL (cw_Pi G h0 q0 o0 ++ (cw_Mo G h1 q1 r1 o1 ++ (cw_Fo G (q1 9) q2 u21 ++ (cw_La G (r1 0) q3 o3)))) H := hP
  have hD : va_D A (cw_Pi G h0 q0 o0 ++ (cw_Mo G h1 q1 r1 o1 ++ (cw_Fo G (q1 9) q2 u21 ++ (cw_La G (r1 0) q3 o3)))) := hD
  obtain ⟨w, h⟩ := h
  exact t_Pi_pass_9 r1 o3 Q C w (0 : Int32) o0 o1 u21 ls _ locs hl hP hD hS h
abbrev b_Rh_find : ByteArray := prog_9_method_2_code
def y_Rh_find : MethodName := ⟨R_Rh, "find", "(III)V"⟩
abbrev w_Rh_find : List Cond := Cond.code y_Rh_find b_Rh_find 6 none :: gw_tbl
theorem d_Rh_find_0 : decode b_Rh_find 0 = .ok (.iconst 0, 1) := by decide +kernel
theorem d_Rh_find_1 : decode b_Rh_find 1 = .ok (.istore 4, 2) := by decide +kernel
theorem d_Rh_find_3 : decode b_Rh_find 3 = .ok (.iload 4, 2) := by decide +kernel
theorem d_Rh_find_5 : decode b_Rh_find 5 = .ok (.sipush 969, 3) := by decide +kernel
theorem d_Rh_find_8 : decode b_Rh_find 8 = .ok (.if_icmp .ge 17, 3) := by decide +kernel
theorem d_Rh_find_11 : decode b_Rh_find 11 = .ok (.aload_n 0, 1) := by decide +kernel
theorem d_Rh_find_12 : decode b_Rh_find 12 = .ok (.getfield 18, 3) := by decide +kernel
theorem d_Rh_find_15 : decode b_Rh_find 15 = .ok (.iload 4, 2) := by decide +kernel
theorem d_Rh_find_17 : decode b_Rh_find 17 = .ok (.iconst (-1), 1) := by decide +kernel
theorem d_Rh_find_18 : decode b_Rh_find 18 = .ok (.iastore, 1) := by decide +kernel
theorem d_Rh_find_19 : decode b_Rh_find 19 = .ok (.iinc 4 1, 3) := by decide +kernel
theorem d_Rh_find_22 : decode b_Rh_find 22 = .ok (.goto (-19), 3) := by decide +kernel
theorem d_Rh_find_25 : decode b_Rh_find 25 = .ok (.aload_n 0, 1) := by decide +kernel
theorem d_Rh_find_26 : decode b_Rh_find 26 = .ok (.getfield 12, 3) := by decide +kernel
theorem d_Rh_find_29 : decode b_Rh_find 29 = .ok (.iload_n 1, 1) := by decide +kernel
theorem d_Rh_find_30 : decode b_Rh_find 30 = .ok (.iload_n 2, 1) := by decide +kernel
theorem d_Rh_find_31 : decode b_Rh_find 31 = .ok (.iload_n 3, 1) := by decide +kernel
theorem d_Rh_find_32 : decode b_Rh_find 32 = .ok (.invokevirtual 22, 3) := by decide +kernel
theorem d_Rh_find_35 : decode b_Rh_find 35 = .ok (.iconst 0, 1) := by decide +kernel
theorem d_Rh_find_36 : decode b_Rh_find 36 = .ok (.istore 4, 2) := by decide +kernel
theorem d_Rh_find_38 : decode b_Rh_find 38 = .ok (.iload 4, 2) := by decide +kernel
theorem d_Rh_find_40 : decode b_Rh_find 40 = .ok (.sipush 969, 3) := by decide +kernel
theorem d_Rh_find_43 : decode b_Rh_find 43 = .ok (.if_icmp .ge 46, 3) := by decide +kernel
theorem d_Rh_find_46 : decode b_Rh_find 46 = .ok (.aload_n 0, 1) := by decide +kernel
theorem d_Rh_find_47 : decode b_Rh_find 47 = .ok (.getfield 18, 3) := by decide +kernel
theorem d_Rh_find_50 : decode b_Rh_find 50 = .ok (.aload_n 0, 1) := by decide +kernel
theorem d_Rh_find_51 : decode b_Rh_find 51 = .ok (.getfield 12, 3) := by decide +kernel
theorem d_Rh_find_54 : decode b_Rh_find 54 = .ok (.invokevirtual 26, 3) := by decide +kernel
theorem d_Rh_find_57 : decode b_Rh_find 57 = .ok (.iaload, 1) := by decide +kernel
theorem d_Rh_find_58 : decode b_Rh_find 58 = .ok (.iconst (-1), 1) := by decide +kernel
theorem d_Rh_find_59 : decode b_Rh_find 59 = .ok (.if_icmp .ne 30, 3) := by decide +kernel
theorem d_Rh_find_62 : decode b_Rh_find 62 = .ok (.aload_n 0, 1) := by decide +kernel
theorem d_Rh_find_63 : decode b_Rh_find 63 = .ok (.getfield 18, 3) := by decide +kernel
theorem d_Rh_find_66 : decode b_Rh_find 66 = .ok (.aload_n 0, 1) := by decide +kernel
theorem d_Rh_find_67 : decode b_Rh_find 67 = .ok (.getfield 12, 3) := by decide +kernel
theorem d_Rh_find_70 : decode b_Rh_find 70 = .ok (.invokevirtual 26, 3) := by decide +kernel
theorem d_Rh_find_73 : decode b_Rh_find 73 = .ok (.iload 4, 2) := by decide +kernel
theorem d_Rh_find_75 : decode b_Rh_find 75 = .ok (.iastore, 1) := by decide +kernel
theorem d_Rh_find_76 : decode b_Rh_find 76 = .ok (.aload_n 0, 1) := by decide +kernel
theorem d_Rh_find_77 : decode b_Rh_find 77 = .ok (.getfield 12, 3) := by decide +kernel
theorem d_Rh_find_80 : decode b_Rh_find 80 = .ok (.invokevirtual 30, 3) := by decide +kernel
theorem d_Rh_find_83 : decode b_Rh_find 83 = .ok (.iinc 4 1, 3) := by decide +kernel
theorem d_Rh_find_86 : decode b_Rh_find 86 = .ok (.goto (-48), 3) := by decide +kernel
theorem d_Rh_find_89 : decode b_Rh_find 89 = .ok (.aload_n 0, 1) := by decide +kernel
theorem d_Rh_find_90 : decode b_Rh_find 90 = .ok (.aload_n 0, 1) := by decide +kernel
theorem d_Rh_find_91 : decode b_Rh_find 91 = .ok (.getfield 18, 3) := by decide +kernel
theorem d_Rh_find_94 : decode b_Rh_find 94 = .ok (.aload_n 0, 1) := by decide +kernel
theorem d_Rh_find_95 : decode b_Rh_find 95 = .ok (.getfield 12, 3) := by decide +kernel
theorem d_Rh_find_98 : decode b_Rh_find 98 = .ok (.invokevirtual 26, 3) := by decide +kernel
theorem d_Rh_find_101 : decode b_Rh_find 101 = .ok (.iaload, 1) := by decide +kernel
theorem d_Rh_find_102 : decode b_Rh_find 102 = .ok (.putfield 33, 3) := by decide +kernel
theorem d_Rh_find_105 : decode b_Rh_find 105 = .ok (.aload_n 0, 1) := by decide +kernel
theorem d_Rh_find_106 : decode b_Rh_find 106 = .ok (.iload 4, 2) := by decide +kernel
theorem d_Rh_find_108 : decode b_Rh_find 108 = .ok (.aload_n 0, 1) := by decide +kernel
theorem d_Rh_find_109 : decode b_Rh_find 109 = .ok (.getfield 33, 3) := by decide +kernel
theorem d_Rh_find_112 : decode b_Rh_find 112 = .ok (.isub, 1) := by decide +kernel
theorem d_Rh_find_113 : decode b_Rh_find 113 = .ok (.putfield 37, 3) := by decide +kernel
theorem d_Rh_find_116 : decode b_Rh_find 116 = .ok (.aload_n 0, 1) := by decide +kernel
theorem d_Rh_find_117 : decode b_Rh_find 117 = .ok (.getfield 12, 3) := by decide +kernel
theorem d_Rh_find_120 : decode b_Rh_find 120 = .ok (.invokevirtual 40, 3) := by decide +kernel
theorem d_Rh_find_123 : decode b_Rh_find 123 = .ok (.iconst 0, 1) := by decide +kernel
theorem d_Rh_find_124 : decode b_Rh_find 124 = .ok (.istore 5, 2) := by decide +kernel
theorem d_Rh_find_126 : decode b_Rh_find 126 = .ok (.iload 5, 2) := by decide +kernel
theorem d_Rh_find_128 : decode b_Rh_find 128 = .ok (.aload_n 0, 1) := by decide +kernel
theorem d_Rh_find_129 : decode b_Rh_find 129 = .ok (.getfield 37, 3) := by decide +kernel
theorem d_Rh_find_132 : decode b_Rh_find 132 = .ok (.if_icmp .ge 16, 3) := by decide +kernel
theorem d_Rh_find_135 : decode b_Rh_find 135 = .ok (.aload_n 0, 1) := by decide +kernel
theorem d_Rh_find_136 : decode b_Rh_find 136 = .ok (.getfield 12, 3) := by decide +kernel
theorem d_Rh_find_139 : decode b_Rh_find 139 = .ok (.invokevirtual 30, 3) := by decide +kernel
theorem d_Rh_find_142 : decode b_Rh_find 142 = .ok (.iinc 5 1, 3) := by decide +kernel
theorem d_Rh_find_145 : decode b_Rh_find 145 = .ok (.goto (-19), 3) := by decide +kernel
theorem d_Rh_find_148 : decode b_Rh_find 148 = .ok (.aload_n 0, 1) := by decide +kernel
theorem d_Rh_find_149 : decode b_Rh_find 149 = .ok (.aload_n 0, 1) := by decide +kernel
theorem d_Rh_find_150 : decode b_Rh_find 150 = .ok (.getfield 12, 3) := by decide +kernel
theorem d_Rh_find_153 : decode b_Rh_find 153 = .ok (.getfield 43, 3) := by decide +kernel
theorem d_Rh_find_156 : decode b_Rh_find 156 = .ok (.putfield 46, 3) := by decide +kernel
theorem d_Rh_find_159 : decode b_Rh_find 159 = .ok (.aload_n 0, 1) := by decide +kernel
theorem d_Rh_find_160 : decode b_Rh_find 160 = .ok (.aload_n 0, 1) := by decide +kernel
theorem d_Rh_find_161 : decode b_Rh_find 161 = .ok (.getfield 12, 3) := by decide +kernel
theorem d_Rh_find_164 : decode b_Rh_find 164 = .ok (.getfield 49, 3) := by decide +kernel
theorem d_Rh_find_167 : decode b_Rh_find 167 = .ok (.putfield 52, 3) := by decide +kernel
theorem d_Rh_find_170 : decode b_Rh_find 170 = .ok (.return_, 1) := by decide +kernel
theorem wf_Rh_12 : Cond.fieldLink R_Rh 12 R_Rh "folds" "LPipeVoice$Folds;" ∈ gw_tbl := gw_tb (List.mem_of_getElem? (i := 372) (by decide +kernel)) rfl
theorem wv_Rh_22 : wV R_Rh 22 y_Fo_begin b_Fo_begin 4 none 3 := ⟨⟨gw_tb (List.mem_of_getElem? (i := 762) (by decide +kernel)) rfl, gw_tb (List.mem_of_getElem? (i := 7) (by decide +kernel)) rfl, gw_tb (List.mem_of_getElem? (i := 765) (by decide +kernel)) rfl, by decide, by decide, by decide +kernel⟩, gw_tb (List.mem_of_getElem? (i := 763) (by decide +kernel)) rfl, gw_tb (List.mem_of_getElem? (i := 764) (by decide +kernel)) rfl⟩
theorem wf_Rh_18 : Cond.fieldLink R_Rh 18 R_Rh "cameAt" "[I" ∈ gw_tbl := gw_tb (List.mem_of_getElem? (i := 373) (by decide +kernel)) rfl
theorem wv_Rh_26 : wV R_Rh 26 y_Fo_state b_Fo_state 1 (some .int) 0 := ⟨⟨gw_tb (List.mem_of_getElem? (i := 770) (by decide +kernel)) rfl, gw_tb (List.mem_of_getElem? (i := 7) (by decide +kernel)) rfl, gw_tb (List.mem_of_getElem? (i := 773) (by decide +kernel)) rfl, by decide, by decide, by decide +kernel⟩, gw_tb (List.mem_of_getElem? (i := 771) (by decide +kernel)) rfl, gw_tb (List.mem_of_getElem? (i := 772) (by decide +kernel)) rfl⟩
theorem wv_Rh_30 : wV R_Rh 30 y_Fo_pass b_Fo_pass 2 none 0 := ⟨⟨gw_tb (List.mem_of_getElem? (i := 774) (by decide +kernel)) rfl, gw_tb (List.mem_of_getElem? (i := 7) (by decide +kernel)) rfl, gw_tb (List.mem_of_getElem? (i := 696) (by decide +kernel)) rfl, by decide, by decide, by decide +kernel⟩, gw_tb (List.mem_of_getElem? (i := 694) (by decide +kernel)) rfl, gw_tb (List.mem_of_getElem? (i := 695) (by decide +kernel)) rfl⟩
theorem wf_Rh_33 : Cond.fieldLink R_Rh 33 R_Rh "leading" "I" ∈ gw_tbl := gw_tb (List.mem_of_getElem? (i := 374) (by decide +kernel)) rfl
theorem wf_Rh_37 : Cond.fieldLink R_Rh 37 R_Rh "length" "I" ∈ gw_tbl := gw_tb (List.mem_of_getElem? (i := 376) (by decide +kernel)) rfl
theorem wv_Rh_40 : wV R_Rh 40 y_Fo_startCount b_Fo_startCount 1 none 0 := ⟨⟨gw_tb (List.mem_of_getElem? (i := 775) (by decide +kernel)) rfl, gw_tb (List.mem_of_getElem? (i := 7) (by decide +kernel)) rfl, gw_tb (List.mem_of_getElem? (i := 769) (by decide +kernel)) rfl, by decide, by decide, by decide +kernel⟩, gw_tb (List.mem_of_getElem? (i := 767) (by decide +kernel)) rfl, gw_tb (List.mem_of_getElem? (i := 768) (by decide +kernel)) rfl⟩
theorem wf_Rh_43 : Cond.fieldLink R_Rh 43 R_Fo "met" "I" ∈ gw_tbl := gw_tb (List.mem_of_getElem? (i := 215) (by decide +kernel)) rfl
theorem wf_Rh_46 : Cond.fieldLink R_Rh 46 R_Rh "meets" "I" ∈ gw_tbl := gw_tb (List.mem_of_getElem? (i := 378) (by decide +kernel)) rfl
theorem wf_Rh_49 : Cond.fieldLink R_Rh 49 R_Fo "strain" "I" ∈ gw_tbl := gw_tb (List.mem_of_getElem? (i := 212) (by decide +kernel)) rfl
theorem wf_Rh_52 : Cond.fieldLink R_Rh 52 R_Rh "strain" "I" ∈ gw_tbl := gw_tb (List.mem_of_getElem? (i := 380) (by decide +kernel)) rfl
def f_Rh_find_126 (Q : Ob → Ob → Prop) : Nat → Int32 → Ob → Ob → Prop
  | 0, _, _, _ => False
  | n + 1, x5, o0, o1 => ((gI o0 3) ≤ x5 → (Q (sI (sI o0 4 (gI o1 6)) 5 (gI o1 5)) o1)) ∧ (¬ (gI o0 3) ≤ x5 → (f_Fo_pass o1 (fun u2 => (f_Rh_find_126 Q n) (x5 + (1 : Int32)) o0 u2)))
def f_Rh_find_89 (Q : Ob → Ob → Prop) (x4 : Int32) (o0 : Ob) (o1 : Ob) : Prop := f_Fo_state o1 (fun z3 => (vp_in z3 969) ∧ (f_Fo_startCount o1 (fun u5 => (∃ w, f_Rh_find_126 Q w (0 : Int32) (sI (sI o0 2 ((gA o0 1) z3.toNatClampNeg)) 3 (x4 - ((gA o0 1) z3.toNatClampNeg))) u5))))
def f_Rh_find_38 (Q : Ob → Ob → Prop) : Nat → Int32 → Ob → Ob → Prop
  | 0, _, _, _ => False
  | n + 1, x4, o0, o1 => ((969 : Int32) ≤ x4 → (f_Rh_find_89 Q x4 o0 o1)) ∧ (¬ (969 : Int32) ≤ x4 → (f_Fo_state o1 (fun z7 => (vp_in z7 969) ∧ ((((gA o0 1) z7.toNatClampNeg) = (-1 : Int32) → (f_Fo_state o1 (fun z10 => (vp_in z10 969) ∧ (f_Fo_pass o1 (fun u12 => (f_Rh_find_38 Q n) (x4 + (1 : Int32)) (sA o0 1 (upd (gA o0 1) z10.toNatClampNeg x4)) u12))))) ∧ (¬ ((gA o0 1) z7.toNatClampNeg) = (-1 : Int32) → (f_Rh_find_89 Q x4 o0 o1))))))
def f_Rh_find_3 (Q : Ob → Ob → Prop) : Nat → Int32 → Int32 → Int32 → Int32 → Ob → Ob → Prop
  | 0, _, _, _, _, _, _ => False
  | n + 1, x1, x2, x3, x4, o0, o1 => ((969 : Int32) ≤ x4 → (f_Fo_begin x1 x2 x3 o1 (fun u14 => (∃ w, f_Rh_find_38 Q w (0 : Int32) o0 u14)))) ∧ (¬ (969 : Int32) ≤ x4 → ((vp_in x4 969) ∧ ((f_Rh_find_3 Q n) x1 x2 x3 (x4 + (1 : Int32)) (sA o0 1 (upd (gA o0 1) x4.toNatClampNeg (-1 : Int32))) o1)))
def f_Rh_find (a0 : Int32) (a1 : Int32) (a2 : Int32) (o0 : Ob) (o1 : Ob) (Q : Ob → Ob → Prop) : Prop := (∃ w, f_Rh_find_3 Q w a0 a1 a2 (0 : Int32) o0 o1)
abbrev rm_Rh_find : Room := { frames := 2, cells := 0, slots := 0, locals := 51 }
set_option maxHeartbeats 4000000 in
set_option maxRecDepth 100000 in
theorem t_Rh_find_126 {p : Program} {l : Launch} {e : Env} {s : State} {m : MethodId} {args : Array Value} {below : List Frame} {meth : Method} {c : Code} {A : Nat → Prop} {G : Gl} {h0 : Nat} {q0 : Nat → Nat} {q1 : Nat → Nat} (Q : Ob → Ob → Prop) (C : Cx p s m args meth c R_Rh b_Rh_find 6 none G A) :
    ∀ (n : Nat) (x5 : Int32) (o0 : Ob) (o1 : Ob) (ls : Array Slot) (H : Heap) (locs : List Loc), lv_has ls 6 [(0, .ref h0), (5, .int x5)] → va_P G.1 CL (cw_Rh G h0 q0 o0 ++ (cw_Fo G (q0 0) q1 o1)) H → va_D A (cw_Rh G h0 q0 o0 ++ (cw_Fo G (q0 0) q1 o1)) → va_S A s.heap H locs → f_Rh_find_126 Q n x5 o0 o1 → W p l e rm_Rh_find s m args below meth c H locs 0 0 (MQ below (va_Qv (fun (u : Ob × Ob) => Q u.1 u.2) (fun (u : Ob × Ob) t => BW G A (cw_Rh G h0 q0 u.1 ++ (cw_Fo G (q0 0) q1 u.2)) t) A) args s 0 0 A) (F0 m 126 ls []) := by
  obtain ⟨hx, hb, hml, hown, hr, hts, hK, hA, hlocks, hE⟩ := id C
  intro n
  induction n with
  | zero => intro x5 o0 o1 ls H locs hl hP hD hS h; exact absurd h id
  | succ n ih =>
    intro x5 o0 o1 ls H locs hl hP hD hS h
    have hP : va_P G.1 CL [(h0, .inr (8, [.ref (q0 0), .ref (q0 1), .int (gI o0 2), .int (gI o0 3), .int (gI o0 4), .int (gI o0 5)])), kI G (q0 1) 969 (gA o0 1), ((q0 0), .inr (1, [.int (gI o1 0), .int (gI o1 1), .int (gI o1 2), .int (gI o1 3), .int (gI o1 4), .int (gI o1 5), .int (gI o1 6)]))] H := hP
    have hD : va_D A [(h0, .inr (8, [.ref (q0 0), .ref (q0 1), .int (gI o0 2), .int (gI o0 3), .int (gI o0 4), .int (gI o0 5)])), kI G (q0 1) 969 (gA o0 1), ((q0 0), .inr (1, [.int (gI o1 0), .int (gI o1 1), .int (gI o1 2), .int (gI o1 3), .int (gI o1 4), .int (gI o1 5), .int (gI o1 6)]))] := hD
    unfold f_Rh_find_126 at h
    refine lv_iload hx hb d_Rh_find_126 (lv_at hl 1 rfl) ?_
    refine lv_aload_n hx hb d_Rh_find_128 rfl (lv_at hl 0 rfl) ?_
    refine va_get (D := G.1) (ci := 8) (v := .int (gI o0 3)) (C := R_Rh) (T := T_Rh) (N := 6) hx hb hts i_Rh hown hK hP 0 rfl rfl 3 (by decide) (hts _ wf_Rh_37) (fun _ h9 => h9) rfl d_Rh_find_129 ?_
    refine lv_icmp_ge (tgt := 148) hx hb d_Rh_find_132 (by decide) (fun c1 => ?_) (fun c1 => ?_)
    · have h := h.1 c1
      refine lv_aload_n hx hb d_Rh_find_148 rfl (lv_at hl 0 rfl) ?_
      refine lv_aload_n hx hb d_Rh_find_149 rfl (lv_at hl 0 rfl) ?_
      refine va_get (D := G.1) (ci := 8) (v := .ref (q0 0)) (C := R_Rh) (T := T_Rh) (N := 6) hx hb hts i_Rh hown hK hP 0 rfl rfl 0 (by decide) (hts _ wf_Rh_12) (fun _ h9 => h9) rfl d_Rh_find_150 ?_
      refine va_get (D := G.1) (ci := 1) (v := .int (gI o1 6)) (C := R_Fo) (T := T_Fo) (N := 7) hx hb hts i_Fo hown hK hP 2 rfl rfl 6 (by decide) (hts _ wf_Rh_43) (fun _ h9 => h9) rfl d_Rh_find_153 ?_
      refine va_put (D := G.1) (ci := 8) (v := .int (gI o1 6)) (ty := .int) (C := R_Rh) (T := T_Rh) (N := 6) hx hb hts i_Rh ty_Rh ty_Rh_ok nm_Rh hown hK hP hD hS 0 rfl rfl 4 (by decide) (hts _ wf_Rh_46) (fun _ h9 => h9) rfl (ty_Rh_ok 4 (by decide)) rfl rfl (Nat.le_of_ble_eq_true rfl) d_Rh_find_156 (fun H locs hP hD hS => ?_)
      have hP : va_P G.1 CL [(h0, .inr (8, [.ref (q0 0), .ref (q0 1), .int (gI o0 2), .int (gI o0 3), .int (gI o1 6), .int (gI o0 5)])), kI G (q0 1) 969 (gA o0 1), ((q0 0), .inr (1, [.int (gI o1 0), .int (gI o1 1), .int (gI o1 2), .int (gI o1 3), .int (gI o1 4), .int (gI o1 5), .int (gI o1 6)]))] H := hP
      have hD : va_D A [(h0, .inr (8, [.ref (q0 0), .ref (q0 1), .int (gI o0 2), .int (gI o0 3), .int (gI o1 6), .int (gI o0 5)])), kI G (q0 1) 969 (gA o0 1), ((q0 0), .inr (1, [.int (gI o1 0), .int (gI o1 1), .int (gI o1 2), .int (gI o1 3), .int (gI o1 4), .int (gI o1 5), .int (gI o1 6)]))] := hD
      refine lv_aload_n hx hb d_Rh_find_159 rfl (lv_at hl 0 rfl) ?_
      refine lv_aload_n hx hb d_Rh_find_160 rfl (lv_at hl 0 rfl) ?_
      refine va_get (D := G.1) (ci := 8) (v := .ref (q0 0)) (C := R_Rh) (T := T_Rh) (N := 6) hx hb hts i_Rh hown hK hP 0 rfl rfl 0 (by decide) (hts _ wf_Rh_12) (fun _ h9 => h9) rfl d_Rh_find_161 ?_
      refine va_get (D := G.1) (ci := 1) (v := .int (gI o1 5)) (C := R_Fo) (T := T_Fo) (N := 7) hx hb hts i_Fo hown hK hP 2 rfl rfl 5 (by decide) (hts _ wf_Rh_49) (fun _ h9 => h9) rfl d_Rh_find_164 ?_
      refine va_put (D := G.1) (ci := 8) (v := .int (gI o1 5)) (ty := .int) (C := R_Rh) (T := T_Rh) (N := 6) hx hb hts i_Rh ty_Rh ty_Rh_ok nm_Rh hown hK hP hD hS 0 rfl rfl 5 (by decide) (hts _ wf_Rh_52) (fun _ h9 => h9) rfl (ty_Rh_ok 5 (by decide)) rfl rfl (Nat.le_of_ble_eq_true rfl) d_Rh_find_167 (fun H locs hP hD hS => ?_)
      have hP : va_P G.1 CL [(h0, .inr (8, [.ref (q0 0), .ref (q0 1), .int (gI o0 2), .int (gI o0 3), .int (gI o1 6), .int (gI o1 5)])), kI G (q0 1) 969 (gA o0 1), ((q0 0), .inr (1, [.int (gI o1 0), .int (gI o1 1), .int (gI o1 2), .int (gI o1 3), .int (gI o1 4), .int (gI o1 5), .int (gI o1 6)]))] H := hP
      have hD : va_D A [(h0, .inr (8, [.ref (q0 0), .ref (q0 1), .int (gI o0 2), .int (gI o0 3), .int (gI o1 6), .int (gI o1 5)])), kI G (q0 1) 969 (gA o0 1), ((q0 0), .inr (1, [.int (gI o1 0), .int (gI o1 1), .int (gI o1 2), .int (gI o1 3), .int (gI o1 4), .int (gI o1 5), .int (gI o1 6)]))] := hD
      have hP : va_P G.1 CL (cw_Rh G h0 q0 (sI (sI o0 4 (gI o1 6)) 5 (gI o1 5)) ++ (cw_Fo G (q0 0) q1 o1)) H := hP
      have hD : va_D A (cw_Rh G h0 q0 (sI (sI o0 4 (gI o1 6)) 5 (gI o1 5)) ++ (cw_Fo G (q0 0) q1 o1)) := hD
      exact W.vret hx hb hr (fun t ht hW => ⟨⟨((sI (sI o0 4 (gI o1 6)) 5 (gI o1 5)), o1), rfl, h, by rw [ht]; exact hP, va_K.moved hW.alike hK, hD⟩, hS.F ht⟩) hS.2.2 d_Rh_find_170
    · have h := h.2 c1
      refine lv_aload_n hx hb d_Rh_find_135 rfl (lv_at hl 0 rfl) ?_
      refine va_get (D := G.1) (ci := 8) (v := .ref (q0 0)) (C := R_Rh) (T := T_Rh) (N := 6) hx hb hts i_Rh hown hK hP 0 rfl rfl 0 (by decide) (hts _ wf_Rh_12) (fun _ h9 => h9) rfl d_Rh_find_136 ?_
      refine cl_Vv (b := b_Rh_find) (As := []) (rest := []) (ws := [(h0, .inr (8, [.ref (q0 0), .ref (q0 1), .int (gI o0 2), .int (gI o0 3), .int (gI o0 4), .int (gI o0 5)])), kI G (q0 1) 969 (gA o0 1), ((q0 0), .inr (1, [.int (gI o1 0), .int (gI o1 1), .int (gI o1 2), .int (gI o1 3), .int (gI o1 4), .int (gI o1 5), .int (gI o1 6)]))]) (wr := [(h0, .inr (8, [.ref (q0 0), .ref (q0 1), .int (gI o0 2), .int (gI o0 3), .int (gI o0 4), .int (gI o0 5)])), kI G (q0 1) 969 (gA o0 1)]) (w2 := fun (u : Ob) => [(h0, .inr (8, [.ref (q0 0), .ref (q0 1), .int (gI o0 2), .int (gI o0 3), .int (gI o0 4), .int (gI o0 5)])), kI G (q0 1) 969 (gA o0 1), ((q0 0), .inr (1, [.int (gI u 0), .int (gI u 1), .int (gI u 2), .int (gI u 3), .int (gI u 4), .int (gI u 5), .int (gI u 6)]))]) C (c_Fo_pass (h0 := (q0 0)) (q0 := q1) H.size h) wv_Rh_30 ⟨Nat.le_of_ble_eq_true rfl, Nat.le_of_ble_eq_true rfl⟩ hP hD hS 2 rfl rfl [2] [0, 1] rfl rfl (by decide) (by decide) (by decide) [0, 1, 2] (by decide) (fun u => rfl) rfl hl.1 rfl (lv_room (Nat.le_of_ble_eq_true rfl)) d_Rh_find_139 ⟨Nat.le_of_ble_eq_true rfl, Nat.le_of_ble_eq_true rfl⟩ rfl rfl (fun u H locs h hP hD hS => ?_)
      generalize u = u2 at h hP hD
      have hP : va_P G.1 CL [(h0, .inr (8, [.ref (q0 0), .ref (q0 1), .int (gI o0 2), .int (gI o0 3), .int (gI o0 4), .int (gI o0 5)])), kI G (q0 1) 969 (gA o0 1), ((q0 0), .inr (1, [.int (gI u2 0), .int (gI u2 1), .int (gI u2 2), .int (gI u2 3), .int (gI u2 4), .int (gI u2 5), .int (gI u2 6)]))] H := hP
      have hD : va_D A [(h0, .inr (8, [.ref (q0 0), .ref (q0 1), .int (gI o0 2), .int (gI o0 3), .int (gI o0 4), .int (gI o0 5)])), kI G (q0 1) 969 (gA o0 1), ((q0 0), .inr (1, [.int (gI u2 0), .int (gI u2 1), .int (gI u2 2), .int (gI u2 3), .int (gI u2 4), .int (gI u2 5), .int (gI u2 6)]))] := hD
      refine lv_iinc (v := (x5 + (1 : Int32))) (lv' := [(5, .int (x5 + (1 : Int32))), (0, .ref h0)]) hx hb d_Rh_find_142 hl (k := 1) rfl rfl (by decide) rfl (fun ls hl => ?_)
      refine lv_goto (tgt := 126) hx hb d_Rh_find_145 (by decide) ?_
      have hl := lv_sub (l' := [(0, .ref h0), (5, .int (x5 + (1 : Int32)))]) hl [1, 0] rfl
      have hP : va_P G.1 CL (cw_Rh G h0 q0 o0 ++ (cw_Fo G (q0 0) q1 u2)) H := hP
      have hD : va_D A (cw_Rh G h0 q0 o0 ++ (cw_Fo G (q0 0) q1 u2)) := hD
      exact ih (x5 + (1 : Int32)) o0 u2 ls H locs hl hP hD hS h
set_option maxHeartbeats 4000000 in
set_option maxRecDepth 100000 in
theorem t_Rh_find_89 {p : Program} {l : Launch} {e : Env} {s : State} {m : MethodId} {args : Array Value} {below : List Frame} {meth : Method} {c : Code} {A : Nat → Prop} {G : Gl} {h0 : Nat} {q0 : Nat → Nat} {q1 : Nat → Nat} (Q : Ob → Ob → Prop) (C : Cx p s m args meth c R_Rh b_Rh_find 6 none G A) :
    ∀ (x4 : Int32) (o0 : Ob) (o1 : Ob) (ls : Array Slot) (H : Heap) (locs : List Loc), lv_has ls 6 [(0, .ref h0), (4, .int x4)] → va_P G.1 CL (cw_Rh G h0 q0 o0 ++ (cw_Fo G (q0 0) q1 o1)) H → va_D A (cw_Rh G h0 q0 o0 ++ (cw_Fo G (q0 0) q1 o1)) → va_S A s.heap H locs → f_Rh_find_89 Q x4 o0 o1 → W p l e rm_Rh_find s m args below meth c H locs 0 0 (MQ below (va_Qv (fun (u : Ob × Ob) => Q u.1 u.2) (fun (u : Ob × Ob) t => BW G A (cw_Rh G h0 q0 u.1 ++ (cw_Fo G (q0 0) q1 u.2)) t) A) args s 0 0 A) (F0 m 89 ls []) := by
  obtain ⟨hx, hb, hml, hown, hr, hts, hK, hA, hlocks, hE⟩ := id C
  intro x4 o0 o1 ls H locs hl hP hD hS h
  have hP : va_P G.1 CL [(h0, .inr (8, [.ref (q0 0), .ref (q0 1), .int (gI o0 2), .int (gI o0 3), .int (gI o0 4), .int (gI o0 5)])), kI G (q0 1) 969 (gA o0 1), ((q0 0), .inr (1, [.int (gI o1 0), .int (gI o1 1), .int (gI o1 2), .int (gI o1 3), .int (gI o1 4), .int (gI o1 5), .int (gI o1 6)]))] H := hP
  have hD : va_D A [(h0, .inr (8, [.ref (q0 0), .ref (q0 1), .int (gI o0 2), .int (gI o0 3), .int (gI o0 4), .int (gI o0 5)])), kI G (q0 1) 969 (gA o0 1), ((q0 0), .inr (1, [.int (gI o1 0), .int (gI o1 1), .int (gI o1 2), .int (gI o1 3), .int (gI o1 4), .int (gI o1 5), .int (gI o1 6)]))] := hD
  unfold f_Rh_find_89 at h
  refine lv_aload_n hx hb d_Rh_find_89 rfl (lv_at hl 0 rfl) ?_
  refine lv_aload_n hx hb d_Rh_find_90 rfl (lv_at hl 0 rfl) ?_
  refine va_get (D := G.1) (ci := 8) (v := .ref (q0 1)) (C := R_Rh) (T := T_Rh) (N := 6) hx hb hts i_Rh hown hK hP 0 rfl rfl 1 (by decide) (hts _ wf_Rh_18) (fun _ h9 => h9) rfl d_Rh_find_91 ?_
  refine lv_aload_n hx hb d_Rh_find_94 rfl (lv_at hl 0 rfl) ?_
  refine va_get (D := G.1) (ci := 8) (v := .ref (q0 0)) (C := R_Rh) (T := T_Rh) (N := 6) hx hb hts i_Rh hown hK hP 0 rfl rfl 0 (by decide) (hts _ wf_Rh_12) (fun _ h9 => h9) rfl d_Rh_find_95 ?_
  refine cl_Vi (b := b_Rh_find) (As := []) (rest := [.ref (q0 1), .ref h0]) (ws := [(h0, .inr (8, [.ref (q0 0), .ref (q0 1), .int (gI o0 2), .int (gI o0 3), .int (gI o0 4), .int (gI o0 5)])), kI G (q0 1) 969 (gA o0 1), ((q0 0), .inr (1, [.int (gI o1 0), .int (gI o1 1), .int (gI o1 2), .int (gI o1 3), .int (gI o1 4), .int (gI o1 5), .int (gI o1 6)]))]) (wr := [(h0, .inr (8, [.ref (q0 0), .ref (q0 1), .int (gI o0 2), .int (gI o0 3), .int (gI o0 4), .int (gI o0 5)])), kI G (q0 1) 969 (gA o0 1)]) (w2 := fun (u : Unit) => [(h0, .inr (8, [.ref (q0 0), .ref (q0 1), .int (gI o0 2), .int (gI o0 3), .int (gI o0 4), .int (gI o0 5)])), kI G (q0 1) 969 (gA o0 1), ((q0 0), .inr (1, [.int (gI o1 0), .int (gI o1 1), .int (gI o1 2), .int (gI o1 3), .int (gI o1 4), .int (gI o1 5), .int (gI o1 6)]))]) C (c_Fo_state (h0 := (q0 0)) (q0 := q1) H.size h) wv_Rh_26 ⟨Nat.le_of_ble_eq_true rfl, Nat.le_of_ble_eq_true rfl⟩ hP hD hS 2 rfl rfl [2] [0, 1] rfl rfl (by decide) (by decide) (by decide) [0, 1, 2] (by decide) (fun u => rfl) rfl hl.1 rfl (lv_room (Nat.le_of_ble_eq_true rfl)) d_Rh_find_98 ⟨Nat.le_of_ble_eq_true rfl, Nat.le_of_ble_eq_true rfl⟩ rfl rfl (fun z3 u H locs h hP hD hS => ?_)
  have hP : va_P G.1 CL [(h0, .inr (8, [.ref (q0 0), .ref (q0 1), .int (gI o0 2), .int (gI o0 3), .int (gI o0 4), .int (gI o0 5)])), kI G (q0 1) 969 (gA o0 1), ((q0 0), .inr (1, [.int (gI o1 0), .int (gI o1 1), .int (gI o1 2), .int (gI o1 3), .int (gI o1 4), .int (gI o1 5), .int (gI o1 6)]))] H := hP
  have hD : va_D A [(h0, .inr (8, [.ref (q0 0), .ref (q0 1), .int (gI o0 2), .int (gI o0 3), .int (gI o0 4), .int (gI o0 5)])), kI G (q0 1) 969 (gA o0 1), ((q0 0), .inr (1, [.int (gI o1 0), .int (gI o1 1), .int (gI o1 2), .int (gI o1 3), .int (gI o1 4), .int (gI o1 5), .int (gI o1 6)]))] := hD
  have g4 := h.1
  have h := h.2
  refine xa_iald hx hb hK hP 1 0 rfl rfl g4 (k := z3.toNatClampNeg) rfl d_Rh_find_101 ?_
  refine va_put (D := G.1) (ci := 8) (v := .int ((gA o0 1) z3.toNatClampNeg)) (ty := .int) (C := R_Rh) (T := T_Rh) (N := 6) hx hb hts i_Rh ty_Rh ty_Rh_ok nm_Rh hown hK hP hD hS 0 rfl rfl 2 (by decide) (hts _ wf_Rh_33) (fun _ h9 => h9) rfl (ty_Rh_ok 2 (by decide)) rfl rfl (Nat.le_of_ble_eq_true rfl) d_Rh_find_102 (fun H locs hP hD hS => ?_)
  have hP : va_P G.1 CL [(h0, .inr (8, [.ref (q0 0), .ref (q0 1), .int ((gA o0 1) z3.toNatClampNeg), .int (gI o0 3), .int (gI o0 4), .int (gI o0 5)])), kI G (q0 1) 969 (gA o0 1), ((q0 0), .inr (1, [.int (gI o1 0), .int (gI o1 1), .int (gI o1 2), .int (gI o1 3), .int (gI o1 4), .int (gI o1 5), .int (gI o1 6)]))] H := hP
  have hD : va_D A [(h0, .inr (8, [.ref (q0 0), .ref (q0 1), .int ((gA o0 1) z3.toNatClampNeg), .int (gI o0 3), .int (gI o0 4), .int (gI o0 5)])), kI G (q0 1) 969 (gA o0 1), ((q0 0), .inr (1, [.int (gI o1 0), .int (gI o1 1), .int (gI o1 2), .int (gI o1 3), .int (gI o1 4), .int (gI o1 5), .int (gI o1 6)]))] := hD
  refine lv_aload_n hx hb d_Rh_find_105 rfl (lv_at hl 0 rfl) ?_
  refine lv_iload hx hb d_Rh_find_106 (lv_at hl 1 rfl) ?_
  refine lv_aload_n hx hb d_Rh_find_108 rfl (lv_at hl 0 rfl) ?_
  refine va_get (D := G.1) (ci := 8) (v := .int ((gA o0 1) z3.toNatClampNeg)) (C := R_Rh) (T := T_Rh) (N := 6) hx hb hts i_Rh hown hK hP 0 rfl rfl 2 (by decide) (hts _ wf_Rh_33) (fun _ h9 => h9) rfl d_Rh_find_109 ?_
  refine lv_isub hx hb d_Rh_find_112 ?_
  refine va_put (D := G.1) (ci := 8) (v := .int (x4 - ((gA o0 1) z3.toNatClampNeg))) (ty := .int) (C := R_Rh) (T := T_Rh) (N := 6) hx hb hts i_Rh ty_Rh ty_Rh_ok nm_Rh hown hK hP hD hS 0 rfl rfl 3 (by decide) (hts _ wf_Rh_37) (fun _ h9 => h9) rfl (ty_Rh_ok 3 (by decide)) rfl rfl (Nat.le_of_ble_eq_true rfl) d_Rh_find_113 (fun H locs hP hD hS => ?_)
  have hP : va_P G.1 CL [(h0, .inr (8, [.ref (q0 0), .ref (q0 1), .int ((gA o0 1) z3.toNatClampNeg), .int (x4 - ((gA o0 1) z3.toNatClampNeg)), .int (gI o0 4), .int (gI o0 5)])), kI G (q0 1) 969 (gA o0 1), ((q0 0), .inr (1, [.int (gI o1 0), .int (gI o1 1), .int (gI o1 2), .int (gI o1 3), .int (gI o1 4), .int (gI o1 5), .int (gI o1 6)]))] H := hP
  have hD : va_D A [(h0, .inr (8, [.ref (q0 0), .ref (q0 1), .int ((gA o0 1) z3.toNatClampNeg), .int (x4 - ((gA o0 1) z3.toNatClampNeg)), .int (gI o0 4), .int (gI o0 5)])), kI G (q0 1) 969 (gA o0 1), ((q0 0), .inr (1, [.int (gI o1 0), .int (gI o1 1), .int (gI o1 2), .int (gI o1 3), .int (gI o1 4), .int (gI o1 5), .int (gI o1 6)]))] := hD
  refine lv_aload_n hx hb d_Rh_find_116 rfl (lv_at hl 0 rfl) ?_
  refine va_get (D := G.1) (ci := 8) (v := .ref (q0 0)) (C := R_Rh) (T := T_Rh) (N := 6) hx hb hts i_Rh hown hK hP 0 rfl rfl 0 (by decide) (hts _ wf_Rh_12) (fun _ h9 => h9) rfl d_Rh_find_117 ?_
  refine cl_Vv (b := b_Rh_find) (As := []) (rest := []) (ws := [(h0, .inr (8, [.ref (q0 0), .ref (q0 1), .int ((gA o0 1) z3.toNatClampNeg), .int (x4 - ((gA o0 1) z3.toNatClampNeg)), .int (gI o0 4), .int (gI o0 5)])), kI G (q0 1) 969 (gA o0 1), ((q0 0), .inr (1, [.int (gI o1 0), .int (gI o1 1), .int (gI o1 2), .int (gI o1 3), .int (gI o1 4), .int (gI o1 5), .int (gI o1 6)]))]) (wr := [(h0, .inr (8, [.ref (q0 0), .ref (q0 1), .int ((gA o0 1) z3.toNatClampNeg), .int (x4 - ((gA o0 1) z3.toNatClampNeg)), .int (gI o0 4), .int (gI o0 5)])), kI G (q0 1) 969 (gA o0 1)]) (w2 := fun (u : Ob) => [(h0, .inr (8, [.ref (q0 0), .ref (q0 1), .int ((gA o0 1) z3.toNatClampNeg), .int (x4 - ((gA o0 1) z3.toNatClampNeg)), .int (gI o0 4), .int (gI o0 5)])), kI G (q0 1) 969 (gA o0 1), ((q0 0), .inr (1, [.int (gI u 0), .int (gI u 1), .int (gI u 2), .int (gI u 3), .int (gI u 4), .int (gI u 5), .int (gI u 6)]))]) C (c_Fo_startCount (h0 := (q0 0)) (q0 := q1) H.size h) wv_Rh_40 ⟨Nat.le_of_ble_eq_true rfl, Nat.le_of_ble_eq_true rfl⟩ hP hD hS 2 rfl rfl [2] [0, 1] rfl rfl (by decide) (by decide) (by decide) [0, 1, 2] (by decide) (fun u => rfl) rfl hl.1 rfl (lv_room (Nat.le_of_ble_eq_true rfl)) d_Rh_find_120 ⟨Nat.le_of_ble_eq_true rfl, Nat.le_of_ble_eq_true rfl⟩ rfl rfl (fun u H locs h hP hD hS => ?_)
  generalize u = u5 at h hP hD
  have hP : va_P G.1 CL [(h0, .inr (8, [.ref (q0 0), .ref (q0 1), .int ((gA o0 1) z3.toNatClampNeg), .int (x4 - ((gA o0 1) z3.toNatClampNeg)), .int (gI o0 4), .int (gI o0 5)])), kI G (q0 1) 969 (gA o0 1), ((q0 0), .inr (1, [.int (gI u5 0), .int (gI u5 1), .int (gI u5 2), .int (gI u5 3), .int (gI u5 4), .int (gI u5 5), .int (gI u5 6)]))] H := hP
  have hD : va_D A [(h0, .inr (8, [.ref (q0 0), .ref (q0 1), .int ((gA o0 1) z3.toNatClampNeg), .int (x4 - ((gA o0 1) z3.toNatClampNeg)), .int (gI o0 4), .int (gI o0 5)])), kI G (q0 1) 969 (gA o0 1), ((q0 0), .inr (1, [.int (gI u5 0), .int (gI u5 1), .int (gI u5 2), .int (gI u5 3), .int (gI u5 4), .int (gI u5 5), .int (gI u5 6)]))] := hD
  refine lv_iconst (v := (0 : Int32)) hx hb d_Rh_find_123 (by decide) ?_
  refine lv_istore (lv' := [(5, .int (0 : Int32)), (0, .ref h0), (4, .int x4)]) hx hb d_Rh_find_124 hl (by decide) rfl (fun ls hl => ?_)
  have hl := lv_sub (l' := [(0, .ref h0), (5, .int (0 : Int32))]) hl [1, 0] rfl
  have hP : va_P G.1 CL (cw_Rh G h0 q0 (sI (sI o0 2 ((gA o0 1) z3.toNatClampNeg)) 3 (x4 - ((gA o0 1) z3.toNatClampNeg))) ++ (cw_Fo G (q0 0) q1 u5)) H := hP
  have hD : va_D A (cw_Rh G h0 q0 (sI (sI o0 2 ((gA o0 1) z3.toNatClampNeg)) 3 (x4 - ((gA o0 1) z3.toNatClampNeg))) ++ (cw_Fo G (q0 0) q1 u5)) := hD
  obtain ⟨w, h⟩ := h
  exact t_Rh_find_126 Q C w (0 : Int32) (sI (sI o0 2 ((gA o0 1) z3.toNatClampNeg)) 3 (x4 - ((gA o0 1) z3.toNatClampNeg))) u5 ls _ locs hl hP hD hS h
set_option maxHeartbeats 4000000 in
set_option maxRecDepth 100000 in
theorem t_Rh_find_38 {p : Program} {l : Launch} {e : Env} {s : State} {m : MethodId} {args : Array Value} {below : List Frame} {meth : Method} {c : Code} {A : Nat → Prop} {G : Gl} {h0 : Nat} {q0 : Nat → Nat} {q1 : Nat → Nat} (Q : Ob → Ob → Prop) (C : Cx p s m args meth c R_Rh b_Rh_find 6 none G A) :
    ∀ (n : Nat) (x4 : Int32) (o0 : Ob) (o1 : Ob) (ls : Array Slot) (H : Heap) (locs : List Loc), lv_has ls 6 [(0, .ref h0), (4, .int x4)] → va_P G.1 CL (cw_Rh G h0 q0 o0 ++ (cw_Fo G (q0 0) q1 o1)) H → va_D A (cw_Rh G h0 q0 o0 ++ (cw_Fo G (q0 0) q1 o1)) → va_S A s.heap H locs → f_Rh_find_38 Q n x4 o0 o1 → W p l e rm_Rh_find s m args below meth c H locs 0 0 (MQ below (va_Qv (fun (u : Ob × Ob) => Q u.1 u.2) (fun (u : Ob × Ob) t => BW G A (cw_Rh G h0 q0 u.1 ++ (cw_Fo G (q0 0) q1 u.2)) t) A) args s 0 0 A) (F0 m 38 ls []) := by
  obtain ⟨hx, hb, hml, hown, hr, hts, hK, hA, hlocks, hE⟩ := id C
  intro n
  induction n with
  | zero => intro x4 o0 o1 ls H locs hl hP hD hS h; exact absurd h id
  | succ n ih =>
    intro x4 o0 o1 ls H locs hl hP hD hS h
    have hP : va_P G.1 CL [(h0, .inr (8, [.ref (q0 0), .ref (q0 1), .int (gI o0 2), .int (gI o0 3), .int (gI o0 4), .int (gI o0 5)])), kI G (q0 1) 969 (gA o0 1), ((q0 0), .inr (1, [.int (gI o1 0), .int (gI o1 1), .int (gI o1 2), .int (gI o1 3), .int (gI o1 4), .int (gI o1 5), .int (gI o1 6)]))] H := hP
    have hD : va_D A [(h0, .inr (8, [.ref (q0 0), .ref (q0 1), .int (gI o0 2), .int (gI o0 3), .int (gI o0 4), .int (gI o0 5)])), kI G (q0 1) 969 (gA o0 1), ((q0 0), .inr (1, [.int (gI o1 0), .int (gI o1 1), .int (gI o1 2), .int (gI o1 3), .int (gI o1 4), .int (gI o1 5), .int (gI o1 6)]))] := hD
    unfold f_Rh_find_38 at h
    refine lv_iload hx hb d_Rh_find_38 (lv_at hl 1 rfl) ?_
    refine lv_sipush (v := (969 : Int32)) hx hb d_Rh_find_40 (by decide) ?_
    refine lv_icmp_ge (tgt := 89) hx hb d_Rh_find_43 (by decide) (fun c6 => ?_) (fun c6 => ?_)
    · have h := h.1 c6
      have hl := lv_sub (l' := [(0, .ref h0), (4, .int x4)]) hl [0, 1] rfl
      have hP : va_P G.1 CL (cw_Rh G h0 q0 o0 ++ (cw_Fo G (q0 0) q1 o1)) H := hP
      have hD : va_D A (cw_Rh G h0 q0 o0 ++ (cw_Fo G (q0 0) q1 o1)) := hD
      exact t_Rh_find_89 Q C x4 o0 o1 ls _ locs hl hP hD hS h
    · have h := h.2 c6
      refine lv_aload_n hx hb d_Rh_find_46 rfl (lv_at hl 0 rfl) ?_
      refine va_get (D := G.1) (ci := 8) (v := .ref (q0 1)) (C := R_Rh) (T := T_Rh) (N := 6) hx hb hts i_Rh hown hK hP 0 rfl rfl 1 (by decide) (hts _ wf_Rh_18) (fun _ h9 => h9) rfl d_Rh_find_47 ?_
      refine lv_aload_n hx hb d_Rh_find_50 rfl (lv_at hl 0 rfl) ?_
      refine va_get (D := G.1) (ci := 8) (v := .ref (q0 0)) (C := R_Rh) (T := T_Rh) (N := 6) hx hb hts i_Rh hown hK hP 0 rfl rfl 0 (by decide) (hts _ wf_Rh_12) (fun _ h9 => h9) rfl d_Rh_find_51 ?_
      refine cl_Vi (b := b_Rh_find) (As := []) (rest := [.ref (q0 1)]) (ws := [(h0, .inr (8, [.ref (q0 0), .ref (q0 1), .int (gI o0 2), .int (gI o0 3), .int (gI o0 4), .int (gI o0 5)])), kI G (q0 1) 969 (gA o0 1), ((q0 0), .inr (1, [.int (gI o1 0), .int (gI o1 1), .int (gI o1 2), .int (gI o1 3), .int (gI o1 4), .int (gI o1 5), .int (gI o1 6)]))]) (wr := [(h0, .inr (8, [.ref (q0 0), .ref (q0 1), .int (gI o0 2), .int (gI o0 3), .int (gI o0 4), .int (gI o0 5)])), kI G (q0 1) 969 (gA o0 1)]) (w2 := fun (u : Unit) => [(h0, .inr (8, [.ref (q0 0), .ref (q0 1), .int (gI o0 2), .int (gI o0 3), .int (gI o0 4), .int (gI o0 5)])), kI G (q0 1) 969 (gA o0 1), ((q0 0), .inr (1, [.int (gI o1 0), .int (gI o1 1), .int (gI o1 2), .int (gI o1 3), .int (gI o1 4), .int (gI o1 5), .int (gI o1 6)]))]) C (c_Fo_state (h0 := (q0 0)) (q0 := q1) H.size h) wv_Rh_26 ⟨Nat.le_of_ble_eq_true rfl, Nat.le_of_ble_eq_true rfl⟩ hP hD hS 2 rfl rfl [2] [0, 1] rfl rfl (by decide) (by decide) (by decide) [0, 1, 2] (by decide) (fun u => rfl) rfl hl.1 rfl (lv_room (Nat.le_of_ble_eq_true rfl)) d_Rh_find_54 ⟨Nat.le_of_ble_eq_true rfl, Nat.le_of_ble_eq_true rfl⟩ rfl rfl (fun z7 u H locs h hP hD hS => ?_)
      have hP : va_P G.1 CL [(h0, .inr (8, [.ref (q0 0), .ref (q0 1), .int (gI o0 2), .int (gI o0 3), .int (gI o0 4), .int (gI o0 5)])), kI G (q0 1) 969 (gA o0 1), ((q0 0), .inr (1, [.int (gI o1 0), .int (gI o1 1), .int (gI o1 2), .int (gI o1 3), .int (gI o1 4), .int (gI o1 5), .int (gI o1 6)]))] H := hP
      have hD : va_D A [(h0, .inr (8, [.ref (q0 0), .ref (q0 1), .int (gI o0 2), .int (gI o0 3), .int (gI o0 4), .int (gI o0 5)])), kI G (q0 1) 969 (gA o0 1), ((q0 0), .inr (1, [.int (gI o1 0), .int (gI o1 1), .int (gI o1 2), .int (gI o1 3), .int (gI o1 4), .int (gI o1 5), .int (gI o1 6)]))] := hD
      have g8 := h.1
      have h := h.2
      refine xa_iald hx hb hK hP 1 0 rfl rfl g8 (k := z7.toNatClampNeg) rfl d_Rh_find_57 ?_
      refine lv_iconst (v := (-1 : Int32)) hx hb d_Rh_find_58 (by decide) ?_
      refine lv_icmp_ne (tgt := 89) hx hb d_Rh_find_59 (by decide) (fun c9 => ?_) (fun c9 => ?_)
      · have h := h.2 c9
        have hl := lv_sub (l' := [(0, .ref h0), (4, .int x4)]) hl [0, 1] rfl
        have hP : va_P G.1 CL (cw_Rh G h0 q0 o0 ++ (cw_Fo G (q0 0) q1 o1)) H := hP
        have hD : va_D A (cw_Rh G h0 q0 o0 ++ (cw_Fo G (q0 0) q1 o1)) := hD
        exact t_Rh_find_89 Q C x4 o0 o1 ls _ locs hl hP hD hS h
      · have h := h.1 c9
        refine lv_aload_n hx hb d_Rh_find_62 rfl (lv_at hl 0 rfl) ?_
        refine va_get (D := G.1) (ci := 8) (v := .ref (q0 1)) (C := R_Rh) (T := T_Rh) (N := 6) hx hb hts i_Rh hown hK hP 0 rfl rfl 1 (by decide) (hts _ wf_Rh_18) (fun _ h9 => h9) rfl d_Rh_find_63 ?_
        refine lv_aload_n hx hb d_Rh_find_66 rfl (lv_at hl 0 rfl) ?_
        refine va_get (D := G.1) (ci := 8) (v := .ref (q0 0)) (C := R_Rh) (T := T_Rh) (N := 6) hx hb hts i_Rh hown hK hP 0 rfl rfl 0 (by decide) (hts _ wf_Rh_12) (fun _ h9 => h9) rfl d_Rh_find_67 ?_
        refine cl_Vi (b := b_Rh_find) (As := []) (rest := [.ref (q0 1)]) (ws := [(h0, .inr (8, [.ref (q0 0), .ref (q0 1), .int (gI o0 2), .int (gI o0 3), .int (gI o0 4), .int (gI o0 5)])), kI G (q0 1) 969 (gA o0 1), ((q0 0), .inr (1, [.int (gI o1 0), .int (gI o1 1), .int (gI o1 2), .int (gI o1 3), .int (gI o1 4), .int (gI o1 5), .int (gI o1 6)]))]) (wr := [(h0, .inr (8, [.ref (q0 0), .ref (q0 1), .int (gI o0 2), .int (gI o0 3), .int (gI o0 4), .int (gI o0 5)])), kI G (q0 1) 969 (gA o0 1)]) (w2 := fun (u : Unit) => [(h0, .inr (8, [.ref (q0 0), .ref (q0 1), .int (gI o0 2), .int (gI o0 3), .int (gI o0 4), .int (gI o0 5)])), kI G (q0 1) 969 (gA o0 1), ((q0 0), .inr (1, [.int (gI o1 0), .int (gI o1 1), .int (gI o1 2), .int (gI o1 3), .int (gI o1 4), .int (gI o1 5), .int (gI o1 6)]))]) C (c_Fo_state (h0 := (q0 0)) (q0 := q1) H.size h) wv_Rh_26 ⟨Nat.le_of_ble_eq_true rfl, Nat.le_of_ble_eq_true rfl⟩ hP hD hS 2 rfl rfl [2] [0, 1] rfl rfl (by decide) (by decide) (by decide) [0, 1, 2] (by decide) (fun u => rfl) rfl hl.1 rfl (lv_room (Nat.le_of_ble_eq_true rfl)) d_Rh_find_70 ⟨Nat.le_of_ble_eq_true rfl, Nat.le_of_ble_eq_true rfl⟩ rfl rfl (fun z10 u H locs h hP hD hS => ?_)
        have hP : va_P G.1 CL [(h0, .inr (8, [.ref (q0 0), .ref (q0 1), .int (gI o0 2), .int (gI o0 3), .int (gI o0 4), .int (gI o0 5)])), kI G (q0 1) 969 (gA o0 1), ((q0 0), .inr (1, [.int (gI o1 0), .int (gI o1 1), .int (gI o1 2), .int (gI o1 3), .int (gI o1 4), .int (gI o1 5), .int (gI o1 6)]))] H := hP
        have hD : va_D A [(h0, .inr (8, [.ref (q0 0), .ref (q0 1), .int (gI o0 2), .int (gI o0 3), .int (gI o0 4), .int (gI o0 5)])), kI G (q0 1) 969 (gA o0 1), ((q0 0), .inr (1, [.int (gI o1 0), .int (gI o1 1), .int (gI o1 2), .int (gI o1 3), .int (gI o1 4), .int (gI o1 5), .int (gI o1 6)]))] := hD
        refine lv_iload hx hb d_Rh_find_73 (lv_at hl 1 rfl) ?_
        have g11 := h.1
        have h := h.2
        refine xa_iast hx hb hK hP hD hS 1 0 rfl rfl g11 (k := z10.toNatClampNeg) rfl d_Rh_find_75 (fun H locs hP hD hS => ?_)
        have hP : va_P G.1 CL [(h0, .inr (8, [.ref (q0 0), .ref (q0 1), .int (gI o0 2), .int (gI o0 3), .int (gI o0 4), .int (gI o0 5)])), kI G (q0 1) 969 (upd (gA o0 1) z10.toNatClampNeg x4), ((q0 0), .inr (1, [.int (gI o1 0), .int (gI o1 1), .int (gI o1 2), .int (gI o1 3), .int (gI o1 4), .int (gI o1 5), .int (gI o1 6)]))] H := hP
        have hD : va_D A [(h0, .inr (8, [.ref (q0 0), .ref (q0 1), .int (gI o0 2), .int (gI o0 3), .int (gI o0 4), .int (gI o0 5)])), kI G (q0 1) 969 (upd (gA o0 1) z10.toNatClampNeg x4), ((q0 0), .inr (1, [.int (gI o1 0), .int (gI o1 1), .int (gI o1 2), .int (gI o1 3), .int (gI o1 4), .int (gI o1 5), .int (gI o1 6)]))] := hD
        refine lv_aload_n hx hb d_Rh_find_76 rfl (lv_at hl 0 rfl) ?_
        refine va_get (D := G.1) (ci := 8) (v := .ref (q0 0)) (C := R_Rh) (T := T_Rh) (N := 6) hx hb hts i_Rh hown hK hP 0 rfl rfl 0 (by decide) (hts _ wf_Rh_12) (fun _ h9 => h9) rfl d_Rh_find_77 ?_
        refine cl_Vv (b := b_Rh_find) (As := []) (rest := []) (ws := [(h0, .inr (8, [.ref (q0 0), .ref (q0 1), .int (gI o0 2), .int (gI o0 3), .int (gI o0 4), .int (gI o0 5)])), kI G (q0 1) 969 (upd (gA o0 1) z10.toNatClampNeg x4), ((q0 0), .inr (1, [.int (gI o1 0), .int (gI o1 1), .int (gI o1 2), .int (gI o1 3), .int (gI o1 4), .int (gI o1 5), .int (gI o1 6)]))]) (wr := [(h0, .inr (8, [.ref (q0 0), .ref (q0 1), .int (gI o0 2), .int (gI o0 3), .int (gI o0 4), .int (gI o0 5)])), kI G (q0 1) 969 (upd (gA o0 1) z10.toNatClampNeg x4)]) (w2 := fun (u : Ob) => [(h0, .inr (8, [.ref (q0 0), .ref (q0 1), .int (gI o0 2), .int (gI o0 3), .int (gI o0 4), .int (gI o0 5)])), kI G (q0 1) 969 (upd (gA o0 1) z10.toNatClampNeg x4), ((q0 0), .inr (1, [.int (gI u 0), .int (gI u 1), .int (gI u 2), .int (gI u 3), .int (gI u 4), .int (gI u 5), .int (gI u 6)]))]) C (c_Fo_pass (h0 := (q0 0)) (q0 := q1) H.size h) wv_Rh_30 ⟨Nat.le_of_ble_eq_true rfl, Nat.le_of_ble_eq_true rfl⟩ hP hD hS 2 rfl rfl [2] [0, 1] rfl rfl (by decide) (by decide) (by decide) [0, 1, 2] (by decide) (fun u => rfl) rfl hl.1 rfl (lv_room (Nat.le_of_ble_eq_true rfl)) d_Rh_find_80 ⟨Nat.le_of_ble_eq_true rfl, Nat.le_of_ble_eq_true rfl⟩ rfl rfl (fun u H locs h hP hD hS => ?_)
        generalize u = u12 at h hP hD
        have hP : va_P G.1 CL [(h0, .inr (8, [.ref (q0 0), .ref (q0 1), .int (gI o0 2), .int (gI o0 3), .int (gI o0 4), .int (gI o0 5)])), kI G (q0 1) 969 (upd (gA o0 1) z10.toNatClampNeg x4), ((q0 0), .inr (1, [.int (gI u12 0), .int (gI u12 1), .int (gI u12 2), .int (gI u12 3), .int (gI u12 4), .int (gI u12 5), .int (gI u12 6)]))] H := hP
        have hD : va_D A [(h0, .inr (8, [.ref (q0 0), .ref (q0 1), .int (gI o0 2), .int (gI o0 3), .int (gI o0 4), .int (gI o0 5)])), kI G (q0 1) 969 (upd (gA o0 1) z10.toNatClampNeg x4), ((q0 0), .inr (1, [.int (gI u12 0), .int (gI u12 1), .int (gI u12 2), .int (gI u12 3), .int (gI u12 4), .int (gI u12 5), .int (gI u12 6)]))] := hD
        refine lv_iinc (v := (x4 + (1 : Int32))) (lv' := [(4, .int (x4 + (1 : Int32))), (0, .ref h0)]) hx hb d_Rh_find_83 hl (k := 1) rfl rfl (by decide) rfl (fun ls hl => ?_)
        refine lv_goto (tgt := 38) hx hb d_Rh_find_86 (by decide) ?_
        have hl := lv_sub (l' := [(0, .ref h0), (4, .int (x4 + (1 : Int32)))]) hl [1, 0] rfl
        have hP : va_P G.1 CL (cw_Rh G h0 q0 (sA o0 1 (upd (gA o0 1) z10.toNatClampNeg x4)) ++ (cw_Fo G (q0 0) q1 u12)) H := hP
        have hD : va_D A (cw_Rh G h0 q0 (sA o0 1 (upd (gA o0 1) z10.toNatClampNeg x4)) ++ (cw_Fo G (q0 0) q1 u12)) := hD
        exact ih (x4 + (1 : Int32)) (sA o0 1 (upd (gA o0 1) z10.toNatClampNeg x4)) u12 ls H locs hl hP hD hS h
set_option maxHeartbeats 4000000 in
set_option maxRecDepth 100000 in
theorem t_Rh_find_3 {p : Program} {l : Launch} {e : Env} {s : State} {m : MethodId} {args : Array Value} {below : List Frame} {meth : Method} {c : Code} {A : Nat → Prop} {G : Gl} {h0 : Nat} {q0 : Nat → Nat} {q1 : Nat → Nat} (Q : Ob → Ob → Prop) (C : Cx p s m args meth c R_Rh b_Rh_find 6 none G A) :
    ∀ (n : Nat) (x1 : Int32) (x2 : Int32) (x3 : Int32) (x4 : Int32) (o0 : Ob) (o1 : Ob) (ls : Array Slot) (H : Heap) (locs : List Loc), lv_has ls 6 [(0, .ref h0), (1, .int x1), (2, .int x2), (3, .int x3), (4, .int x4)] → va_P G.1 CL (cw_Rh G h0 q0 o0 ++ (cw_Fo G (q0 0) q1 o1)) H → va_D A (cw_Rh G h0 q0 o0 ++ (cw_Fo G (q0 0) q1 o1)) → va_S A s.heap H locs → f_Rh_find_3 Q n x1 x2 x3 x4 o0 o1 → W p l e rm_Rh_find s m args below meth c H locs 0 0 (MQ below (va_Qv (fun (u : Ob × Ob) => Q u.1 u.2) (fun (u : Ob × Ob) t => BW G A (cw_Rh G h0 q0 u.1 ++ (cw_Fo G (q0 0) q1 u.2)) t) A) args s 0 0 A) (F0 m 3 ls []) := by
  obtain ⟨hx, hb, hml, hown, hr, hts, hK, hA, hlocks, hE⟩ := id C
  intro n
  induction n with
  | zero => intro x1 x2 x3 x4 o0 o1 ls H locs hl hP hD hS h; exact absurd h id
  | succ n ih =>
    intro x1 x2 x3 x4 o0 o1 ls H locs hl hP hD hS h
    have hP : va_P G.1 CL [(h0, .inr (8, [.ref (q0 0), .ref (q0 1), .int (gI o0 2), .int (gI o0 3), .int (gI o0 4), .int (gI o0 5)])), kI G (q0 1) 969 (gA o0 1), ((q0 0), .inr (1, [.int (gI o1 0), .int (gI o1 1), .int (gI o1 2), .int (gI o1 3), .int (gI o1 4), .int (gI o1 5), .int (gI o1 6)]))] H := hP
    have hD : va_D A [(h0, .inr (8, [.ref (q0 0), .ref (q0 1), .int (gI o0 2), .int (gI o0 3), .int (gI o0 4), .int (gI o0 5)])), kI G (q0 1) 969 (gA o0 1), ((q0 0), .inr (1, [.int (gI o1 0), .int (gI o1 1), .int (gI o1 2), .int (gI o1 3), .int (gI o1 4), .int (gI o1 5), .int (gI o1 6)]))] := hD
    unfold f_Rh_find_3 at h
    refine lv_iload hx hb d_Rh_find_3 (lv_at hl 4 rfl) ?_
    refine lv_sipush (v := (969 : Int32)) hx hb d_Rh_find_5 (by decide) ?_
    refine lv_icmp_ge (tgt := 25) hx hb d_Rh_find_8 (by decide) (fun c13 => ?_) (fun c13 => ?_)
    · have h := h.1 c13
      refine lv_aload_n hx hb d_Rh_find_25 rfl (lv_at hl 0 rfl) ?_
      refine va_get (D := G.1) (ci := 8) (v := .ref (q0 0)) (C := R_Rh) (T := T_Rh) (N := 6) hx hb hts i_Rh hown hK hP 0 rfl rfl 0 (by decide) (hts _ wf_Rh_12) (fun _ h9 => h9) rfl d_Rh_find_26 ?_
      refine lv_iload_n hx hb d_Rh_find_29 rfl (lv_at hl 1 rfl) ?_
      refine lv_iload_n hx hb d_Rh_find_30 rfl (lv_at hl 2 rfl) ?_
      refine lv_iload_n hx hb d_Rh_find_31 rfl (lv_at hl 3 rfl) ?_
      refine cl_Vv (b := b_Rh_find) (As := [.int x1, .int x2, .int x3]) (rest := []) (ws := [(h0, .inr (8, [.ref (q0 0), .ref (q0 1), .int (gI o0 2), .int (gI o0 3), .int (gI o0 4), .int (gI o0 5)])), kI G (q0 1) 969 (gA o0 1), ((q0 0), .inr (1, [.int (gI o1 0), .int (gI o1 1), .int (gI o1 2), .int (gI o1 3), .int (gI o1 4), .int (gI o1 5), .int (gI o1 6)]))]) (wr := [(h0, .inr (8, [.ref (q0 0), .ref (q0 1), .int (gI o0 2), .int (gI o0 3), .int (gI o0 4), .int (gI o0 5)])), kI G (q0 1) 969 (gA o0 1)]) (w2 := fun (u : Ob) => [(h0, .inr (8, [.ref (q0 0), .ref (q0 1), .int (gI o0 2), .int (gI o0 3), .int (gI o0 4), .int (gI o0 5)])), kI G (q0 1) 969 (gA o0 1), ((q0 0), .inr (1, [.int (gI u 0), .int (gI u 1), .int (gI u 2), .int (gI u 3), .int (gI u 4), .int (gI u 5), .int (gI u 6)]))]) C (c_Fo_begin (h0 := (q0 0)) (q0 := q1) H.size h) wv_Rh_22 ⟨Nat.le_of_ble_eq_true rfl, Nat.le_of_ble_eq_true rfl⟩ hP hD hS 2 rfl rfl [2] [0, 1] rfl rfl (by decide) (by decide) (by decide) [0, 1, 2] (by decide) (fun u => rfl) rfl hl.1 rfl (lv_room (Nat.le_of_ble_eq_true rfl)) d_Rh_find_32 ⟨Nat.le_of_ble_eq_true rfl, Nat.le_of_ble_eq_true rfl⟩ rfl rfl (fun u H locs h hP hD hS => ?_)
      generalize u = u14 at h hP hD
      have hP : va_P G.1 CL [(h0, .inr (8, [.ref (q0 0), .ref (q0 1), .int (gI o0 2), .int (gI o0 3), .int (gI o0 4), .int (gI o0 5)])), kI G (q0 1) 969 (gA o0 1), ((q0 0), .inr (1, [.int (gI u14 0), .int (gI u14 1), .int (gI u14 2), .int (gI u14 3), .int (gI u14 4), .int (gI u14 5), .int (gI u14 6)]))] H := hP
      have hD : va_D A [(h0, .inr (8, [.ref (q0 0), .ref (q0 1), .int (gI o0 2), .int (gI o0 3), .int (gI o0 4), .int (gI o0 5)])), kI G (q0 1) 969 (gA o0 1), ((q0 0), .inr (1, [.int (gI u14 0), .int (gI u14 1), .int (gI u14 2), .int (gI u14 3), .int (gI u14 4), .int (gI u14 5), .int (gI u14 6)]))] := hD
      refine lv_iconst (v := (0 : Int32)) hx hb d_Rh_find_35 (by decide) ?_
      refine lv_istore (lv' := [(4, .int (0 : Int32)), (0, .ref h0), (1, .int x1), (2, .int x2), (3, .int x3)]) hx hb d_Rh_find_36 hl (by decide) rfl (fun ls hl => ?_)
      have hl := lv_sub (l' := [(0, .ref h0), (4, .int (0 : Int32))]) hl [1, 0] rfl
      have hP : va_P G.1 CL (cw_Rh G h0 q0 o0 ++ (cw_Fo G (q0 0) q1 u14)) H := hP
      have hD : va_D A (cw_Rh G h0 q0 o0 ++ (cw_Fo G (q0 0) q1 u14)) := hD
      obtain ⟨w, h⟩ := h
      exact t_Rh_find_38 Q C w (0 : Int32) o0 u14 ls _ locs hl hP hD hS h
    · have h := h.2 c13
      refine lv_aload_n hx hb d_Rh_find_11 rfl (lv_at hl 0 rfl) ?_
      refine va_get (D := G.1) (ci := 8) (v := .ref (q0 1)) (C := R_Rh) (T := T_Rh) (N := 6) hx hb hts i_Rh hown hK hP 0 rfl rfl 1 (by decide) (hts _ wf_Rh_18) (fun _ h9 => h9) rfl d_Rh_find_12 ?_
      refine lv_iload hx hb d_Rh_find_15 (lv_at hl 4 rfl) ?_
      refine lv_iconst (v := (-1 : Int32)) hx hb d_Rh_find_17 (by decide) ?_
      have g15 := h.1
      have h := h.2
      refine xa_iast hx hb hK hP hD hS 1 0 rfl rfl g15 (k := x4.toNatClampNeg) rfl d_Rh_find_18 (fun H locs hP hD hS => ?_)
      have hP : va_P G.1 CL [(h0, .inr (8, [.ref (q0 0), .ref (q0 1), .int (gI o0 2), .int (gI o0 3), .int (gI o0 4), .int (gI o0 5)])), kI G (q0 1) 969 (upd (gA o0 1) x4.toNatClampNeg (-1 : Int32)), ((q0 0), .inr (1, [.int (gI o1 0), .int (gI o1 1), .int (gI o1 2), .int (gI o1 3), .int (gI o1 4), .int (gI o1 5), .int (gI o1 6)]))] H := hP
      have hD : va_D A [(h0, .inr (8, [.ref (q0 0), .ref (q0 1), .int (gI o0 2), .int (gI o0 3), .int (gI o0 4), .int (gI o0 5)])), kI G (q0 1) 969 (upd (gA o0 1) x4.toNatClampNeg (-1 : Int32)), ((q0 0), .inr (1, [.int (gI o1 0), .int (gI o1 1), .int (gI o1 2), .int (gI o1 3), .int (gI o1 4), .int (gI o1 5), .int (gI o1 6)]))] := hD
      refine lv_iinc (v := (x4 + (1 : Int32))) (lv' := [(4, .int (x4 + (1 : Int32))), (0, .ref h0), (1, .int x1), (2, .int x2), (3, .int x3)]) hx hb d_Rh_find_19 hl (k := 4) rfl rfl (by decide) rfl (fun ls hl => ?_)
      refine lv_goto (tgt := 3) hx hb d_Rh_find_22 (by decide) ?_
      have hl := lv_sub (l' := [(0, .ref h0), (1, .int x1), (2, .int x2), (3, .int x3), (4, .int (x4 + (1 : Int32)))]) hl [1, 2, 3, 4, 0] rfl
      have hP : va_P G.1 CL (cw_Rh G h0 q0 (sA o0 1 (upd (gA o0 1) x4.toNatClampNeg (-1 : Int32))) ++ (cw_Fo G (q0 0) q1 o1)) H := hP
      have hD : va_D A (cw_Rh G h0 q0 (sA o0 1 (upd (gA o0 1) x4.toNatClampNeg (-1 : Int32))) ++ (cw_Fo G (q0 0) q1 o1)) := hD
      exact ih x1 x2 x3 (x4 + (1 : Int32)) (sA o0 1 (upd (gA o0 1) x4.toNatClampNeg (-1 : Int32))) o1 ls H locs hl hP hD hS h
set_option maxHeartbeats 4000000 in
set_option maxRecDepth 100000 in
theorem c_Rh_find {l : Launch} {G : Gl} {h0 : Nat} {q0 : Nat → Nat} {q1 : Nat → Nat} {a0 : Int32} {a1 : Int32} {a2 : Int32} {o0 : Ob} {o1 : Ob} {Q : Ob → Ob → Prop} (sz : Nat) (h : f_Rh_find a0 a1 a2 o0 o1 Q) : Met l y_Rh_find w_Rh_find rm_Rh_find (PcW G [.ref h0, .int a0, .int a1, .int a2] sz (cw_Rh G h0 q0 o0 ++ (cw_Fo G (q0 0) q1 o1))) (va_Qv (fun (u : Ob × Ob) => Q u.1 u.2) (fun (u : Ob × Ob) t => BW G (va_A (cw_Rh G h0 q0 o0 ++ (cw_Fo G (q0 0) q1 o1)) sz) (cw_Rh G h0 q0 u.1 ++ (cw_Fo G (q0 0) q1 u.2)) t) (va_A (cw_Rh G h0 q0 o0 ++ (cw_Fo G (q0 0) q1 o1)) sz)) 0 0 (va_A (cw_Rh G h0 q0 o0 ++ (cw_Fo G (q0 0) q1 o1)) sz) := by
  refine Met.ofW (cc := b_Rh_find) (maxL := 6) (ret := none) (by decide +kernel) rfl ?_
  intro p e s m args below meth c s₁ B hml hv
  obtain ⟨rfl, hsz, hP, hK, hD0, hE⟩ := hv
  have hx := B.exec
  have hb := B.bytes
  have hr := B.returns
  have hts0 := atoms_spec (ws := w_Rh_find) B.pre
  have hts : ∀ w ∈ gw_tbl, w.before ([.ref h0, .int a0, .int a1, .int a2]).toArray s = true := fun w hw => hts0 w (List.mem_cons_of_mem _ hw)
  have hown : s.vm.findClass R_Rh = some m.cls := findClass_of_methodNamed B.named
  have hlocks := B.notSynchronized
  subst hsz
  have hD := hD0.self (sz := s.heap.size)
  generalize hAe : va_A (cw_Rh G h0 q0 o0 ++ (cw_Fo G (q0 0) q1 o1)) s.heap.size = A at hD hE ⊢
  have hA : ∀ q : Nat, s.heap.size ≤ q → A q := fun q h => by rw [← hAe]; exact Or.inr h
  have hS : va_S A s.heap s.heap [] := va_S.rf
  have C : Cx p s m ([.ref h0, .int a0, .int a1, .int a2]).toArray meth c R_Rh b_Rh_find 6 none G A := ⟨hx, hb, hml, hown, hr, hts, hK, hA, hlocks, hE⟩
  have hl := lv_entry ([.ref h0, .int a0, .int a1, .int a2]) (n := 6) (Nat.le_of_ble_eq_true rfl)
  rw [lg_entry_eq]
  generalize (lg_sl ([.ref h0, .int a0, .int a1, .int a2]) ++ List.replicate (6 - (lg_sl ([.ref h0, .int a0, .int a1, .int a2])).length) Slot.unset).toArray = ls at hl ⊢
  have hl : lv_has ls 6 [(0, .ref h0), (1, .int a0), (2, .int a1), (3, .int a2)] := hl
  have hD : va_D A [(h0, .inr (8, [.ref (q0 0), .ref (q0 1), .int (gI o0 2), .int (gI o0 3), .int (gI o0 4), .int (gI o0 5)])), kI G (q0 1) 969 (gA o0 1), ((q0 0), .inr (1, [.int (gI o1 0), .int (gI o1 1), .int (gI o1 2), .int (gI o1 3), .int (gI o1 4), .int (gI o1 5), .int (gI o1 6)]))] := hD
  unfold f_Rh_find at h
  suffices key : ∀ (H : Heap) (locs : List Loc), va_P G.1 CL [(h0, .inr (8, [.ref (q0 0), .ref (q0 1), .int (gI o0 2), .int (gI o0 3), .int (gI o0 4), .int (gI o0 5)])), kI G (q0 1) 969 (gA o0 1), ((q0 0), .inr (1, [.int (gI o1 0), .int (gI o1 1), .int (gI o1 2), .int (gI o1 3), .int (gI o1 4), .int (gI o1 5), .int (gI o1 6)]))] H → va_S A s.heap H locs → W p l e rm_Rh_find s m ([.ref h0, .int a0, .int a1, .int a2]).toArray below meth c H locs 0 0 (MQ below (va_Qv (fun (u : Ob × Ob) => Q u.1 u.2) (fun (u : Ob × Ob) t => BW G A (cw_Rh G h0 q0 u.1 ++ (cw_Fo G (q0 0) q1 u.2)) t) A) ([.ref h0, .int a0, .int a1, .int a2]).toArray s 0 0 A) (F0 m 0 ls []) from key s.heap [] hP hS
  intro H locs hP hS
  refine lv_iconst (v := (0 : Int32)) hx hb d_Rh_find_0 (by decide) ?_
  refine lv_istore (lv' := [(4, .int (0 : Int32)), (0, .ref h0), (1, .int a0), (2, .int a1), (3, .int a2)]) hx hb d_Rh_find_1 hl (by decide) rfl (fun ls hl => ?_)
  have hl := lv_sub (l' := [(0, .ref h0), (1, .int a0), (2, .int a1), (3, .int a2), (4, .int (0 : Int32))]) hl [1, 2, 3, 4, 0] rfl
  have hP : va_P G.1 CL (cw_Rh G h0 q0 o0 ++ (cw_Fo G (q0 0) q1 o1)) H := hP
  have hD : va_D A (cw_Rh G h0 q0 o0 ++ (cw_Fo G (q0 0) q1 o1)) := hD
  obtain ⟨w, h⟩ := h
  exact t_Rh_find_3 Q C w a0 a1 a2 (0 : Int32) o0 o1 ls _ locs hl hP hD hS h
abbrev b_Mo_copy : ByteArray := prog_6_method_2_code
def y_Mo_copy : MethodName := ⟨R_Mo, "copy", "(LPipeVoice$Moment;)V"⟩
abbrev w_Mo_copy : List Cond := Cond.code y_Mo_copy b_Mo_copy 2 none :: gw_tbl
theorem d_Mo_copy_0 : decode b_Mo_copy 0 = .ok (.aload_n 0, 1) := by decide +kernel
theorem d_Mo_copy_1 : decode b_Mo_copy 1 = .ok (.aload_n 1, 1) := by decide +kernel
theorem d_Mo_copy_2 : decode b_Mo_copy 2 = .ok (.getfield 41, 3) := by decide +kernel
theorem d_Mo_copy_5 : decode b_Mo_copy 5 = .ok (.putfield 41, 3) := by decide +kernel
theorem d_Mo_copy_8 : decode b_Mo_copy 8 = .ok (.aload_n 0, 1) := by decide +kernel
theorem d_Mo_copy_9 : decode b_Mo_copy 9 = .ok (.aload_n 1, 1) := by decide +kernel
theorem d_Mo_copy_10 : decode b_Mo_copy 10 = .ok (.getfield 45, 3) := by decide +kernel
theorem d_Mo_copy_13 : decode b_Mo_copy 13 = .ok (.putfield 45, 3) := by decide +kernel
theorem d_Mo_copy_16 : decode b_Mo_copy 16 = .ok (.aload_n 0, 1) := by decide +kernel
theorem d_Mo_copy_17 : decode b_Mo_copy 17 = .ok (.aload_n 1, 1) := by decide +kernel
theorem d_Mo_copy_18 : decode b_Mo_copy 18 = .ok (.getfield 49, 3) := by decide +kernel
theorem d_Mo_copy_21 : decode b_Mo_copy 21 = .ok (.putfield 49, 3) := by decide +kernel
theorem d_Mo_copy_24 : decode b_Mo_copy 24 = .ok (.aload_n 0, 1) := by decide +kernel
theorem d_Mo_copy_25 : decode b_Mo_copy 25 = .ok (.aload_n 1, 1) := by decide +kernel
theorem d_Mo_copy_26 : decode b_Mo_copy 26 = .ok (.getfield 52, 3) := by decide +kernel
theorem d_Mo_copy_29 : decode b_Mo_copy 29 = .ok (.putfield 52, 3) := by decide +kernel
theorem d_Mo_copy_32 : decode b_Mo_copy 32 = .ok (.aload_n 0, 1) := by decide +kernel
theorem d_Mo_copy_33 : decode b_Mo_copy 33 = .ok (.aload_n 1, 1) := by decide +kernel
theorem d_Mo_copy_34 : decode b_Mo_copy 34 = .ok (.getfield 55, 3) := by decide +kernel
theorem d_Mo_copy_37 : decode b_Mo_copy 37 = .ok (.putfield 55, 3) := by decide +kernel
theorem d_Mo_copy_40 : decode b_Mo_copy 40 = .ok (.aload_n 0, 1) := by decide +kernel
theorem d_Mo_copy_41 : decode b_Mo_copy 41 = .ok (.getfield 34, 3) := by decide +kernel
theorem d_Mo_copy_44 : decode b_Mo_copy 44 = .ok (.aload_n 1, 1) := by decide +kernel
theorem d_Mo_copy_45 : decode b_Mo_copy 45 = .ok (.getfield 34, 3) := by decide +kernel
theorem d_Mo_copy_48 : decode b_Mo_copy 48 = .ok (.invokevirtual 58, 3) := by decide +kernel
theorem d_Mo_copy_51 : decode b_Mo_copy 51 = .ok (.aload_n 1, 1) := by decide +kernel
theorem d_Mo_copy_52 : decode b_Mo_copy 52 = .ok (.getfield 9, 3) := by decide +kernel
theorem d_Mo_copy_55 : decode b_Mo_copy 55 = .ok (.iconst 0, 1) := by decide +kernel
theorem d_Mo_copy_56 : decode b_Mo_copy 56 = .ok (.aload_n 0, 1) := by decide +kernel
theorem d_Mo_copy_57 : decode b_Mo_copy 57 = .ok (.getfield 9, 3) := by decide +kernel
theorem d_Mo_copy_60 : decode b_Mo_copy 60 = .ok (.iconst 0, 1) := by decide +kernel
theorem d_Mo_copy_61 : decode b_Mo_copy 61 = .ok (.bipush 20, 2) := by decide +kernel
theorem d_Mo_copy_63 : decode b_Mo_copy 63 = .ok (.invokestatic 62, 3) := by decide +kernel
theorem d_Mo_copy_66 : decode b_Mo_copy 66 = .ok (.aload_n 1, 1) := by decide +kernel
theorem d_Mo_copy_67 : decode b_Mo_copy 67 = .ok (.getfield 15, 3) := by decide +kernel
theorem d_Mo_copy_70 : decode b_Mo_copy 70 = .ok (.iconst 0, 1) := by decide +kernel
theorem d_Mo_copy_71 : decode b_Mo_copy 71 = .ok (.aload_n 0, 1) := by decide +kernel
theorem d_Mo_copy_72 : decode b_Mo_copy 72 = .ok (.getfield 15, 3) := by decide +kernel
theorem d_Mo_copy_75 : decode b_Mo_copy 75 = .ok (.iconst 0, 1) := by decide +kernel
theorem d_Mo_copy_76 : decode b_Mo_copy 76 = .ok (.bipush 20, 2) := by decide +kernel
theorem d_Mo_copy_78 : decode b_Mo_copy 78 = .ok (.invokestatic 62, 3) := by decide +kernel
theorem d_Mo_copy_81 : decode b_Mo_copy 81 = .ok (.aload_n 1, 1) := by decide +kernel
theorem d_Mo_copy_82 : decode b_Mo_copy 82 = .ok (.getfield 18, 3) := by decide +kernel
theorem d_Mo_copy_85 : decode b_Mo_copy 85 = .ok (.iconst 0, 1) := by decide +kernel
theorem d_Mo_copy_86 : decode b_Mo_copy 86 = .ok (.aload_n 0, 1) := by decide +kernel
theorem d_Mo_copy_87 : decode b_Mo_copy 87 = .ok (.getfield 18, 3) := by decide +kernel
theorem d_Mo_copy_90 : decode b_Mo_copy 90 = .ok (.iconst 0, 1) := by decide +kernel
theorem d_Mo_copy_91 : decode b_Mo_copy 91 = .ok (.iconst 5, 1) := by decide +kernel
theorem d_Mo_copy_92 : decode b_Mo_copy 92 = .ok (.invokestatic 62, 3) := by decide +kernel
theorem d_Mo_copy_95 : decode b_Mo_copy 95 = .ok (.aload_n 1, 1) := by decide +kernel
theorem d_Mo_copy_96 : decode b_Mo_copy 96 = .ok (.getfield 21, 3) := by decide +kernel
theorem d_Mo_copy_99 : decode b_Mo_copy 99 = .ok (.iconst 0, 1) := by decide +kernel
theorem d_Mo_copy_100 : decode b_Mo_copy 100 = .ok (.aload_n 0, 1) := by decide +kernel
theorem d_Mo_copy_101 : decode b_Mo_copy 101 = .ok (.getfield 21, 3) := by decide +kernel
theorem d_Mo_copy_104 : decode b_Mo_copy 104 = .ok (.iconst 0, 1) := by decide +kernel
theorem d_Mo_copy_105 : decode b_Mo_copy 105 = .ok (.iconst 5, 1) := by decide +kernel
theorem d_Mo_copy_106 : decode b_Mo_copy 106 = .ok (.invokestatic 62, 3) := by decide +kernel
theorem d_Mo_copy_109 : decode b_Mo_copy 109 = .ok (.aload_n 1, 1) := by decide +kernel
theorem d_Mo_copy_110 : decode b_Mo_copy 110 = .ok (.getfield 25, 3) := by decide +kernel
theorem d_Mo_copy_113 : decode b_Mo_copy 113 = .ok (.iconst 0, 1) := by decide +kernel
theorem d_Mo_copy_114 : decode b_Mo_copy 114 = .ok (.aload_n 0, 1) := by decide +kernel
theorem d_Mo_copy_115 : decode b_Mo_copy 115 = .ok (.getfield 25, 3) := by decide +kernel
theorem d_Mo_copy_118 : decode b_Mo_copy 118 = .ok (.iconst 0, 1) := by decide +kernel
theorem d_Mo_copy_119 : decode b_Mo_copy 119 = .ok (.iconst 5, 1) := by decide +kernel
theorem d_Mo_copy_120 : decode b_Mo_copy 120 = .ok (.invokestatic 62, 3) := by decide +kernel
theorem d_Mo_copy_123 : decode b_Mo_copy 123 = .ok (.aload_n 1, 1) := by decide +kernel
theorem d_Mo_copy_124 : decode b_Mo_copy 124 = .ok (.getfield 28, 3) := by decide +kernel
theorem d_Mo_copy_127 : decode b_Mo_copy 127 = .ok (.iconst 0, 1) := by decide +kernel
theorem d_Mo_copy_128 : decode b_Mo_copy 128 = .ok (.aload_n 0, 1) := by decide +kernel
theorem d_Mo_copy_129 : decode b_Mo_copy 129 = .ok (.getfield 28, 3) := by decide +kernel
theorem d_Mo_copy_132 : decode b_Mo_copy 132 = .ok (.iconst 0, 1) := by decide +kernel
theorem d_Mo_copy_133 : decode b_Mo_copy 133 = .ok (.bipush 6, 2) := by decide +kernel
theorem d_Mo_copy_135 : decode b_Mo_copy 135 = .ok (.invokestatic 62, 3) := by decide +kernel
theorem d_Mo_copy_138 : decode b_Mo_copy 138 = .ok (.aload_n 1, 1) := by decide +kernel
theorem d_Mo_copy_139 : decode b_Mo_copy 139 = .ok (.getfield 38, 3) := by decide +kernel
theorem d_Mo_copy_142 : decode b_Mo_copy 142 = .ok (.iconst 0, 1) := by decide +kernel
theorem d_Mo_copy_143 : decode b_Mo_copy 143 = .ok (.aload_n 0, 1) := by decide +kernel
theorem d_Mo_copy_144 : decode b_Mo_copy 144 = .ok (.getfield 38, 3) := by decide +kernel
theorem d_Mo_copy_147 : decode b_Mo_copy 147 = .ok (.iconst 0, 1) := by decide +kernel
theorem d_Mo_copy_148 : decode b_Mo_copy 148 = .ok (.iconst 5, 1) := by decide +kernel
theorem d_Mo_copy_149 : decode b_Mo_copy 149 = .ok (.invokestatic 62, 3) := by decide +kernel
theorem d_Mo_copy_152 : decode b_Mo_copy 152 = .ok (.return_, 1) := by decide +kernel
theorem wf_Mo_41 : Cond.fieldLink R_Mo 41 R_Mo "law" "LPipeVoice$Law;" ∈ gw_tbl := gw_tb (List.mem_of_getElem? (i := 233) (by decide +kernel)) rfl
theorem wf_Mo_45 : Cond.fieldLink R_Mo 45 R_Mo "clock" "I" ∈ gw_tbl := gw_tb (List.mem_of_getElem? (i := 237) (by decide +kernel)) rfl
theorem wf_Mo_49 : Cond.fieldLink R_Mo 49 R_Mo "said" "I" ∈ gw_tbl := gw_tb (List.mem_of_getElem? (i := 240) (by decide +kernel)) rfl
theorem wf_Mo_52 : Cond.fieldLink R_Mo 52 R_Mo "time" "I" ∈ gw_tbl := gw_tb (List.mem_of_getElem? (i := 267) (by decide +kernel)) rfl
theorem wf_Mo_55 : Cond.fieldLink R_Mo 55 R_Mo "look" "I" ∈ gw_tbl := gw_tb (List.mem_of_getElem? (i := 270) (by decide +kernel)) rfl
theorem wf_Mo_34 : Cond.fieldLink R_Mo 34 R_Mo "folds" "LPipeVoice$Folds;" ∈ gw_tbl := gw_tb (List.mem_of_getElem? (i := 261) (by decide +kernel)) rfl
theorem wv_Mo_58 : wV R_Mo 58 y_Fo_copy b_Fo_copy 2 none 1 := ⟨⟨gw_tb (List.mem_of_getElem? (i := 941) (by decide +kernel)) rfl, gw_tb (List.mem_of_getElem? (i := 7) (by decide +kernel)) rfl, gw_tb (List.mem_of_getElem? (i := 944) (by decide +kernel)) rfl, by decide, by decide, by decide +kernel⟩, gw_tb (List.mem_of_getElem? (i := 942) (by decide +kernel)) rfl, gw_tb (List.mem_of_getElem? (i := 943) (by decide +kernel)) rfl⟩
theorem wf_Mo_9 : Cond.fieldLink R_Mo 9 R_Mo "saidWord" "[I" ∈ gw_tbl := gw_tb (List.mem_of_getElem? (i := 243) (by decide +kernel)) rfl
theorem wm_Mo_62 : Cond.methodLink R_Mo 62 arraycopyName ∈ gw_tbl := gw_tb (List.mem_of_getElem? (i := 945) (by decide +kernel)) rfl
theorem wac_n : Cond.native arraycopyName ∈ gw_tbl := gw_tb (List.mem_of_getElem? (i := 907) (by decide +kernel)) rfl
theorem wac_s : Cond.static arraycopyName ∈ gw_tbl := gw_tb (List.mem_of_getElem? (i := 906) (by decide +kernel)) rfl
theorem wac_i : Cond.initialized "java/lang/System" ∈ gw_tbl := gw_tb (List.mem_of_getElem? (i := 20) (by decide +kernel)) rfl
theorem wf_Mo_15 : Cond.fieldLink R_Mo 15 R_Mo "saidTick" "[I" ∈ gw_tbl := gw_tb (List.mem_of_getElem? (i := 246) (by decide +kernel)) rfl
theorem wf_Mo_18 : Cond.fieldLink R_Mo 18 R_Mo "widths" "[I" ∈ gw_tbl := gw_tb (List.mem_of_getElem? (i := 249) (by decide +kernel)) rfl
theorem wf_Mo_21 : Cond.fieldLink R_Mo 21 R_Mo "toLips" "[J" ∈ gw_tbl := gw_tb (List.mem_of_getElem? (i := 252) (by decide +kernel)) rfl
theorem wf_Mo_25 : Cond.fieldLink R_Mo 25 R_Mo "toFolds" "[J" ∈ gw_tbl := gw_tb (List.mem_of_getElem? (i := 255) (by decide +kernel)) rfl
theorem wf_Mo_28 : Cond.fieldLink R_Mo 28 R_Mo "rests" "[J" ∈ gw_tbl := gw_tb (List.mem_of_getElem? (i := 258) (by decide +kernel)) rfl
theorem wf_Mo_38 : Cond.fieldLink R_Mo 38 R_Mo "grid" "[I" ∈ gw_tbl := gw_tb (List.mem_of_getElem? (i := 264) (by decide +kernel)) rfl
def f_Mo_copy (r0 : (Nat → Nat)) (o0 : Ob) (o1 : Ob) (r2 : (Nat → Nat)) (o2 : Ob) (o3 : Ob) (Q : (Nat → Nat) → Ob → Ob → Prop) : Prop := f_Fo_copy o1 o3 (fun u1 => Q (up r0 0 (r2 0)) (sB (sB (sB (sA (sA (sA (sA (sI (sI (sI (sI o0 1 (gI o2 1)) 2 (gI o2 2)) 11 (gI o2 11)) 12 (gI o2 12)) 3 (va_cpy (gA o2 3) (gA o0 3) 0 0 20)) 4 (va_cpy (gA o2 4) (gA o0 4) 0 0 20)) 5 (va_cpy (gA o2 5) (gA o0 5) 0 0 5)) 10 (va_cpy (gA o2 10) (gA o0 10) 0 0 5)) 6 (va_cpy (gB o2 6) (gB o0 6) 0 0 5)) 7 (va_cpy (gB o2 7) (gB o0 7) 0 0 5)) 8 (va_cpy (gB o2 8) (gB o0 8) 0 0 6)) u1)
abbrev rm_Mo_copy : Room := { frames := 1, cells := 0, slots := 0, locals := 60 }
set_option maxHeartbeats 4000000 in
set_option maxRecDepth 100000 in
theorem c_Mo_copy {l : Launch} {G : Gl} {h0 : Nat} {h2 : Nat} {q0 : Nat → Nat} {q1 : Nat → Nat} {q2 : Nat → Nat} {q3 : Nat → Nat} {r0 : (Nat → Nat)} {o0 : Ob} {o1 : Ob} {r2 : (Nat → Nat)} {o2 : Ob} {o3 : Ob} {Q : (Nat → Nat) → Ob → Ob → Prop} (sz : Nat) (h : f_Mo_copy r0 o0 o1 r2 o2 o3 Q) : Met l y_Mo_copy w_Mo_copy rm_Mo_copy (PcW G [.ref h0, .ref h2] sz (cw_Mo G h0 q0 r0 o0 ++ (cw_Fo G (q0 9) q1 o1 ++ (cw_Mo G h2 q2 r2 o2 ++ (cw_Fo G (q2 9) q3 o3))))) (va_Qv (fun (u : (Nat → Nat) × Ob × Ob) => Q u.1 u.2.1 u.2.2) (fun (u : (Nat → Nat) × Ob × Ob) t => BW G (va_A (cw_Mo G h0 q0 r0 o0 ++ (cw_Fo G (q0 9) q1 o1 ++ (cw_Mo G h2 q2 r2 o2 ++ (cw_Fo G (q2 9) q3 o3)))) sz) (cw_Mo G h0 q0 u.1 u.2.1 ++ (cw_Fo G (q0 9) q1 u.2.2 ++ (cw_Mo G h2 q2 r2 o2 ++ (cw_Fo G (q2 9) q3 o3)))) t) (va_A (cw_Mo G h0 q0 r0 o0 ++ (cw_Fo G (q0 9) q1 o1 ++ (cw_Mo G h2 q2 r2 o2 ++ (cw_Fo G (q2 9) q3 o3)))) sz)) 0 0 (va_A (cw_Mo G h0 q0 r0 o0 ++ (cw_Fo G (q0 9) q1 o1 ++ (cw_Mo G h2 q2 r2 o2 ++ (cw_Fo G (q2 9) q3 o3)))) sz) := by
  refine Met.ofW (cc := b_Mo_copy) (maxL := 2) (ret := none) (by decide +kernel) rfl ?_
  intro p e s m args below meth c s₁ B hml hv
  obtain ⟨rfl, hsz, hP, hK, hD0, hE⟩ := hv
  have hx := B.exec
  have hb := B.bytes
  have hr := B.returns
  have hts0 := atoms_spec (ws := w_Mo_copy) B.pre
  have hts : ∀ w ∈ gw_tbl, w.before ([.ref h0, .ref h2]).toArray s = true := fun w hw => hts0 w (List.mem_cons_of_mem _ hw)
  have hown : s.vm.findClass R_Mo = some m.cls := findClass_of_methodNamed B.named
  have hlocks := B.notSynchronized
  subst hsz
  have hD := hD0.self (sz := s.heap.size)
  generalize hAe : va_A (cw_Mo G h0 q0 r0 o0 ++ (cw_Fo G (q0 9) q1 o1 ++ (cw_Mo G h2 q2 r2 o2 ++ (cw_Fo G (q2 9) q3 o3)))) s.heap.size = A at hD hE ⊢
  have hA : ∀ q : Nat, s.heap.size ≤ q → A q := fun q h => by rw [← hAe]; exact Or.inr h
  have hS : va_S A s.heap s.heap [] := va_S.rf
  have C : Cx p s m ([.ref h0, .ref h2]).toArray meth c R_Mo b_Mo_copy 2 none G A := ⟨hx, hb, hml, hown, hr, hts, hK, hA, hlocks, hE⟩
  have hl := lv_entry ([.ref h0, .ref h2]) (n := 2) (Nat.le_of_ble_eq_true rfl)
  rw [lg_entry_eq]
  generalize (lg_sl ([.ref h0, .ref h2]) ++ List.replicate (2 - (lg_sl ([.ref h0, .ref h2])).length) Slot.unset).toArray = ls at hl ⊢
  have hl : lv_has ls 2 [(0, .ref h0), (1, .ref h2)] := hl
  have hD : va_D A [(h0, .inr (5, [.ref (r0 0), .int (gI o0 1), .int (gI o0 2), .ref (q0 3), .ref (q0 4), .ref (q0 5), .ref (q0 6), .ref (q0 7), .ref (q0 8), .ref (q0 9), .ref (q0 10), .int (gI o0 11), .int (gI o0 12)])), kI G (q0 3) 20 (gA o0 3), kI G (q0 4) 20 (gA o0 4), kI G (q0 5) 5 (gA o0 5), kJ G (q0 6) 5 (gB o0 6), kJ G (q0 7) 5 (gB o0 7), kJ G (q0 8) 6 (gB o0 8), kI G (q0 10) 5 (gA o0 10), ((q0 9), .inr (1, [.int (gI o1 0), .int (gI o1 1), .int (gI o1 2), .int (gI o1 3), .int (gI o1 4), .int (gI o1 5), .int (gI o1 6)])), (h2, .inr (5, [.ref (r2 0), .int (gI o2 1), .int (gI o2 2), .ref (q2 3), .ref (q2 4), .ref (q2 5), .ref (q2 6), .ref (q2 7), .ref (q2 8), .ref (q2 9), .ref (q2 10), .int (gI o2 11), .int (gI o2 12)])), kI G (q2 3) 20 (gA o2 3), kI G (q2 4) 20 (gA o2 4), kI G (q2 5) 5 (gA o2 5), kJ G (q2 6) 5 (gB o2 6), kJ G (q2 7) 5 (gB o2 7), kJ G (q2 8) 6 (gB o2 8), kI G (q2 10) 5 (gA o2 10), ((q2 9), .inr (1, [.int (gI o3 0), .int (gI o3 1), .int (gI o3 2), .int (gI o3 3), .int (gI o3 4), .int (gI o3 5), .int (gI o3 6)]))] := hD
  unfold f_Mo_copy at h
  suffices key : ∀ (H : Heap) (locs : List Loc), va_P G.1 CL [(h0, .inr (5, [.ref (r0 0), .int (gI o0 1), .int (gI o0 2), .ref (q0 3), .ref (q0 4), .ref (q0 5), .ref (q0 6), .ref (q0 7), .ref (q0 8), .ref (q0 9), .ref (q0 10), .int (gI o0 11), .int (gI o0 12)])), kI G (q0 3) 20 (gA o0 3), kI G (q0 4) 20 (gA o0 4), kI G (q0 5) 5 (gA o0 5), kJ G (q0 6) 5 (gB o0 6), kJ G (q0 7) 5 (gB o0 7), kJ G (q0 8) 6 (gB o0 8), kI G (q0 10) 5 (gA o0 10), ((q0 9), .inr (1, [.int (gI o1 0), .int (gI o1 1), .int (gI o1 2), .int (gI o1 3), .int (gI o1 4), .int (gI o1 5), .int (gI o1 6)])), (h2, .inr (5, [.ref (r2 0), .int (gI o2 1), .int (gI o2 2), .ref (q2 3), .ref (q2 4), .ref (q2 5), .ref (q2 6), .ref (q2 7), .ref (q2 8), .ref (q2 9), .ref (q2 10), .int (gI o2 11), .int (gI o2 12)])), kI G (q2 3) 20 (gA o2 3), kI G (q2 4) 20 (gA o2 4), kI G (q2 5) 5 (gA o2 5), kJ G (q2 6) 5 (gB o2 6), kJ G (q2 7) 5 (gB o2 7), kJ G (q2 8) 6 (gB o2 8), kI G (q2 10) 5 (gA o2 10), ((q2 9), .inr (1, [.int (gI o3 0), .int (gI o3 1), .int (gI o3 2), .int (gI o3 3), .int (gI o3 4), .int (gI o3 5), .int (gI o3 6)]))] H → va_S A s.heap H locs → W p l e rm_Mo_copy s m ([.ref h0, .ref h2]).toArray below meth c H locs 0 0 (MQ below (va_Qv (fun (u : (Nat → Nat) × Ob × Ob) => Q u.1 u.2.1 u.2.2) (fun (u : (Nat → Nat) × Ob × Ob) t => BW G A (cw_Mo G h0 q0 u.1 u.2.1 ++ (cw_Fo G (q0 9) q1 u.2.2 ++ (cw_Mo G h2 q2 r2 o2 ++ (cw_Fo G (q2 9) q3 o3)))) t) A) ([.ref h0, .ref h2]).toArray s 0 0 A) (F0 m 0 ls []) from key s.heap [] hP hS
  intro H locs hP hS
  refine lv_aload_n hx hb d_Mo_copy_0 rfl (lv_at hl 0 rfl) ?_
  refine lv_aload_n hx hb d_Mo_copy_1 rfl (lv_at hl 1 rfl) ?_
  refine va_get (D := G.1) (ci := 5) (v := .ref (r2 0)) (C := R_Mo) (T := T_Mo) (N := 13) hx hb hts i_Mo hown hK hP 9 rfl rfl 0 (by decide) (hts _ wf_Mo_41) (fun _ h9 => h9) rfl d_Mo_copy_2 ?_
  refine va_put (D := G.1) (ci := 5) (v := .ref (r2 0)) (ty := (.object "PipeVoice$Law")) (C := R_Mo) (T := T_Mo) (N := 13) hx hb hts i_Mo ty_Mo ty_Mo_ok nm_Mo hown hK hP hD hS 0 rfl rfl 0 (by decide) (hts _ wf_Mo_41) (fun _ h9 => h9) rfl (ty_Mo_ok 0 (by decide)) rfl rfl (Nat.le_of_ble_eq_true rfl) d_Mo_copy_5 (fun H locs hP hD hS => ?_)
  have hP : va_P G.1 CL [(h0, .inr (5, [.ref (r2 0), .int (gI o0 1), .int (gI o0 2), .ref (q0 3), .ref (q0 4), .ref (q0 5), .ref (q0 6), .ref (q0 7), .ref (q0 8), .ref (q0 9), .ref (q0 10), .int (gI o0 11), .int (gI o0 12)])), kI G (q0 3) 20 (gA o0 3), kI G (q0 4) 20 (gA o0 4), kI G (q0 5) 5 (gA o0 5), kJ G (q0 6) 5 (gB o0 6), kJ G (q0 7) 5 (gB o0 7), kJ G (q0 8) 6 (gB o0 8), kI G (q0 10) 5 (gA o0 10), ((q0 9), .inr (1, [.int (gI o1 0), .int (gI o1 1), .int (gI o1 2), .int (gI o1 3), .int (gI o1 4), .int (gI o1 5), .int (gI o1 6)])), (h2, .inr (5, [.ref (r2 0), .int (gI o2 1), .int (gI o2 2), .ref (q2 3), .ref (q2 4), .ref (q2 5), .ref (q2 6), .ref (q2 7), .ref (q2 8), .ref (q2 9), .ref (q2 10), .int (gI o2 11), .int (gI o2 12)])), kI G (q2 3) 20 (gA o2 3), kI G (q2 4) 20 (gA o2 4), kI G (q2 5) 5 (gA o2 5), kJ G (q2 6) 5 (gB o2 6), kJ G (q2 7) 5 (gB o2 7), kJ G (q2 8) 6 (gB o2 8), kI G (q2 10) 5 (gA o2 10), ((q2 9), .inr (1, [.int (gI o3 0), .int (gI o3 1), .int (gI o3 2), .int (gI o3 3), .int (gI o3 4), .int (gI o3 5), .int (gI o3 6)]))] H := hP
  have hD : va_D A [(h0, .inr (5, [.ref (r2 0), .int (gI o0 1), .int (gI o0 2), .ref (q0 3), .ref (q0 4), .ref (q0 5), .ref (q0 6), .ref (q0 7), .ref (q0 8), .ref (q0 9), .ref (q0 10), .int (gI o0 11), .int (gI o0 12)])), kI G (q0 3) 20 (gA o0 3), kI G (q0 4) 20 (gA o0 4), kI G (q0 5) 5 (gA o0 5), kJ G (q0 6) 5 (gB o0 6), kJ G (q0 7) 5 (gB o0 7), kJ G (q0 8) 6 (gB o0 8), kI G (q0 10) 5 (gA o0 10), ((q0 9), .inr (1, [.int (gI o1 0), .int (gI o1 1), .int (gI o1 2), .int (gI o1 3), .int (gI o1 4), .int (gI o1 5), .int (gI o1 6)])), (h2, .inr (5, [.ref (r2 0), .int (gI o2 1), .int (gI o2 2), .ref (q2 3), .ref (q2 4), .ref (q2 5), .ref (q2 6), .ref (q2 7), .ref (q2 8), .ref (q2 9), .ref (q2 10), .int (gI o2 11), .int (gI o2 12)])), kI G (q2 3) 20 (gA o2 3), kI G (q2 4) 20 (gA o2 4), kI G (q2 5) 5 (gA o2 5), kJ G (q2 6) 5 (gB o2 6), kJ G (q2 7) 5 (gB o2 7), kJ G (q2 8) 6 (gB o2 8), kI G (q2 10) 5 (gA o2 10), ((q2 9), .inr (1, [.int (gI o3 0), .int (gI o3 1), .int (gI o3 2), .int (gI o3 3), .int (gI o3 4), .int (gI o3 5), .int (gI o3 6)]))] := hD
  refine lv_aload_n hx hb d_Mo_copy_8 rfl (lv_at hl 0 rfl) ?_
  refine lv_aload_n hx hb d_Mo_copy_9 rfl (lv_at hl 1 rfl) ?_
  refine va_get (D := G.1) (ci := 5) (v := .int (gI o2 1)) (C := R_Mo) (T := T_Mo) (N := 13) hx hb hts i_Mo hown hK hP 9 rfl rfl 1 (by decide) (hts _ wf_Mo_45) (fun _ h9 => h9) rfl d_Mo_copy_10 ?_
  refine va_put (D := G.1) (ci := 5) (v := .int (gI o2 1)) (ty := .int) (C := R_Mo) (T := T_Mo) (N := 13) hx hb hts i_Mo ty_Mo ty_Mo_ok nm_Mo hown hK hP hD hS 0 rfl rfl 1 (by decide) (hts _ wf_Mo_45) (fun _ h9 => h9) rfl (ty_Mo_ok 1 (by decide)) rfl rfl (Nat.le_of_ble_eq_true rfl) d_Mo_copy_13 (fun H locs hP hD hS => ?_)
  have hP : va_P G.1 CL [(h0, .inr (5, [.ref (r2 0), .int (gI o2 1), .int (gI o0 2), .ref (q0 3), .ref (q0 4), .ref (q0 5), .ref (q0 6), .ref (q0 7), .ref (q0 8), .ref (q0 9), .ref (q0 10), .int (gI o0 11), .int (gI o0 12)])), kI G (q0 3) 20 (gA o0 3), kI G (q0 4) 20 (gA o0 4), kI G (q0 5) 5 (gA o0 5), kJ G (q0 6) 5 (gB o0 6), kJ G (q0 7) 5 (gB o0 7), kJ G (q0 8) 6 (gB o0 8), kI G (q0 10) 5 (gA o0 10), ((q0 9), .inr (1, [.int (gI o1 0), .int (gI o1 1), .int (gI o1 2), .int (gI o1 3), .int (gI o1 4), .int (gI o1 5), .int (gI o1 6)])), (h2, .inr (5, [.ref (r2 0), .int (gI o2 1), .int (gI o2 2), .ref (q2 3), .ref (q2 4), .ref (q2 5), .ref (q2 6), .ref (q2 7), .ref (q2 8), .ref (q2 9), .ref (q2 10), .int (gI o2 11), .int (gI o2 12)])), kI G (q2 3) 20 (gA o2 3), kI G (q2 4) 20 (gA o2 4), kI G (q2 5) 5 (gA o2 5), kJ G (q2 6) 5 (gB o2 6), kJ G (q2 7) 5 (gB o2 7), kJ G (q2 8) 6 (gB o2 8), kI G (q2 10) 5 (gA o2 10), ((q2 9), .inr (1, [.int (gI o3 0), .int (gI o3 1), .int (gI o3 2), .int (gI o3 3), .int (gI o3 4), .int (gI o3 5), .int (gI o3 6)]))] H := hP
  have hD : va_D A [(h0, .inr (5, [.ref (r2 0), .int (gI o2 1), .int (gI o0 2), .ref (q0 3), .ref (q0 4), .ref (q0 5), .ref (q0 6), .ref (q0 7), .ref (q0 8), .ref (q0 9), .ref (q0 10), .int (gI o0 11), .int (gI o0 12)])), kI G (q0 3) 20 (gA o0 3), kI G (q0 4) 20 (gA o0 4), kI G (q0 5) 5 (gA o0 5), kJ G (q0 6) 5 (gB o0 6), kJ G (q0 7) 5 (gB o0 7), kJ G (q0 8) 6 (gB o0 8), kI G (q0 10) 5 (gA o0 10), ((q0 9), .inr (1, [.int (gI o1 0), .int (gI o1 1), .int (gI o1 2), .int (gI o1 3), .int (gI o1 4), .int (gI o1 5), .int (gI o1 6)])), (h2, .inr (5, [.ref (r2 0), .int (gI o2 1), .int (gI o2 2), .ref (q2 3), .ref (q2 4), .ref (q2 5), .ref (q2 6), .ref (q2 7), .ref (q2 8), .ref (q2 9), .ref (q2 10), .int (gI o2 11), .int (gI o2 12)])), kI G (q2 3) 20 (gA o2 3), kI G (q2 4) 20 (gA o2 4), kI G (q2 5) 5 (gA o2 5), kJ G (q2 6) 5 (gB o2 6), kJ G (q2 7) 5 (gB o2 7), kJ G (q2 8) 6 (gB o2 8), kI G (q2 10) 5 (gA o2 10), ((q2 9), .inr (1, [.int (gI o3 0), .int (gI o3 1), .int (gI o3 2), .int (gI o3 3), .int (gI o3 4), .int (gI o3 5), .int (gI o3 6)]))] := hD
  refine lv_aload_n hx hb d_Mo_copy_16 rfl (lv_at hl 0 rfl) ?_
  refine lv_aload_n hx hb d_Mo_copy_17 rfl (lv_at hl 1 rfl) ?_
  refine va_get (D := G.1) (ci := 5) (v := .int (gI o2 2)) (C := R_Mo) (T := T_Mo) (N := 13) hx hb hts i_Mo hown hK hP 9 rfl rfl 2 (by decide) (hts _ wf_Mo_49) (fun _ h9 => h9) rfl d_Mo_copy_18 ?_
  refine va_put (D := G.1) (ci := 5) (v := .int (gI o2 2)) (ty := .int) (C := R_Mo) (T := T_Mo) (N := 13) hx hb hts i_Mo ty_Mo ty_Mo_ok nm_Mo hown hK hP hD hS 0 rfl rfl 2 (by decide) (hts _ wf_Mo_49) (fun _ h9 => h9) rfl (ty_Mo_ok 2 (by decide)) rfl rfl (Nat.le_of_ble_eq_true rfl) d_Mo_copy_21 (fun H locs hP hD hS => ?_)
  have hP : va_P G.1 CL [(h0, .inr (5, [.ref (r2 0), .int (gI o2 1), .int (gI o2 2), .ref (q0 3), .ref (q0 4), .ref (q0 5), .ref (q0 6), .ref (q0 7), .ref (q0 8), .ref (q0 9), .ref (q0 10), .int (gI o0 11), .int (gI o0 12)])), kI G (q0 3) 20 (gA o0 3), kI G (q0 4) 20 (gA o0 4), kI G (q0 5) 5 (gA o0 5), kJ G (q0 6) 5 (gB o0 6), kJ G (q0 7) 5 (gB o0 7), kJ G (q0 8) 6 (gB o0 8), kI G (q0 10) 5 (gA o0 10), ((q0 9), .inr (1, [.int (gI o1 0), .int (gI o1 1), .int (gI o1 2), .int (gI o1 3), .int (gI o1 4), .int (gI o1 5), .int (gI o1 6)])), (h2, .inr (5, [.ref (r2 0), .int (gI o2 1), .int (gI o2 2), .ref (q2 3), .ref (q2 4), .ref (q2 5), .ref (q2 6), .ref (q2 7), .ref (q2 8), .ref (q2 9), .ref (q2 10), .int (gI o2 11), .int (gI o2 12)])), kI G (q2 3) 20 (gA o2 3), kI G (q2 4) 20 (gA o2 4), kI G (q2 5) 5 (gA o2 5), kJ G (q2 6) 5 (gB o2 6), kJ G (q2 7) 5 (gB o2 7), kJ G (q2 8) 6 (gB o2 8), kI G (q2 10) 5 (gA o2 10), ((q2 9), .inr (1, [.int (gI o3 0), .int (gI o3 1), .int (gI o3 2), .int (gI o3 3), .int (gI o3 4), .int (gI o3 5), .int (gI o3 6)]))] H := hP
  have hD : va_D A [(h0, .inr (5, [.ref (r2 0), .int (gI o2 1), .int (gI o2 2), .ref (q0 3), .ref (q0 4), .ref (q0 5), .ref (q0 6), .ref (q0 7), .ref (q0 8), .ref (q0 9), .ref (q0 10), .int (gI o0 11), .int (gI o0 12)])), kI G (q0 3) 20 (gA o0 3), kI G (q0 4) 20 (gA o0 4), kI G (q0 5) 5 (gA o0 5), kJ G (q0 6) 5 (gB o0 6), kJ G (q0 7) 5 (gB o0 7), kJ G (q0 8) 6 (gB o0 8), kI G (q0 10) 5 (gA o0 10), ((q0 9), .inr (1, [.int (gI o1 0), .int (gI o1 1), .int (gI o1 2), .int (gI o1 3), .int (gI o1 4), .int (gI o1 5), .int (gI o1 6)])), (h2, .inr (5, [.ref (r2 0), .int (gI o2 1), .int (gI o2 2), .ref (q2 3), .ref (q2 4), .ref (q2 5), .ref (q2 6), .ref (q2 7), .ref (q2 8), .ref (q2 9), .ref (q2 10), .int (gI o2 11), .int (gI o2 12)])), kI G (q2 3) 20 (gA o2 3), kI G (q2 4) 20 (gA o2 4), kI G (q2 5) 5 (gA o2 5), kJ G (q2 6) 5 (gB o2 6), kJ G (q2 7) 5 (gB o2 7), kJ G (q2 8) 6 (gB o2 8), kI G (q2 10) 5 (gA o2 10), ((q2 9), .inr (1, [.int (gI o3 0), .int (gI o3 1), .int (gI o3 2), .int (gI o3 3), .int (gI o3 4), .int (gI o3 5), .int (gI o3 6)]))] := hD
  refine lv_aload_n hx hb d_Mo_copy_24 rfl (lv_at hl 0 rfl) ?_
  refine lv_aload_n hx hb d_Mo_copy_25 rfl (lv_at hl 1 rfl) ?_
  refine va_get (D := G.1) (ci := 5) (v := .int (gI o2 11)) (C := R_Mo) (T := T_Mo) (N := 13) hx hb hts i_Mo hown hK hP 9 rfl rfl 11 (by decide) (hts _ wf_Mo_52) (fun _ h9 => h9) rfl d_Mo_copy_26 ?_
  refine va_put (D := G.1) (ci := 5) (v := .int (gI o2 11)) (ty := .int) (C := R_Mo) (T := T_Mo) (N := 13) hx hb hts i_Mo ty_Mo ty_Mo_ok nm_Mo hown hK hP hD hS 0 rfl rfl 11 (by decide) (hts _ wf_Mo_52) (fun _ h9 => h9) rfl (ty_Mo_ok 11 (by decide)) rfl rfl (Nat.le_of_ble_eq_true rfl) d_Mo_copy_29 (fun H locs hP hD hS => ?_)
  have hP : va_P G.1 CL [(h0, .inr (5, [.ref (r2 0), .int (gI o2 1), .int (gI o2 2), .ref (q0 3), .ref (q0 4), .ref (q0 5), .ref (q0 6), .ref (q0 7), .ref (q0 8), .ref (q0 9), .ref (q0 10), .int (gI o2 11), .int (gI o0 12)])), kI G (q0 3) 20 (gA o0 3), kI G (q0 4) 20 (gA o0 4), kI G (q0 5) 5 (gA o0 5), kJ G (q0 6) 5 (gB o0 6), kJ G (q0 7) 5 (gB o0 7), kJ G (q0 8) 6 (gB o0 8), kI G (q0 10) 5 (gA o0 10), ((q0 9), .inr (1, [.int (gI o1 0), .int (gI o1 1), .int (gI o1 2), .int (gI o1 3), .int (gI o1 4), .int (gI o1 5), .int (gI o1 6)])), (h2, .inr (5, [.ref (r2 0), .int (gI o2 1), .int (gI o2 2), .ref (q2 3), .ref (q2 4), .ref (q2 5), .ref (q2 6), .ref (q2 7), .ref (q2 8), .ref (q2 9), .ref (q2 10), .int (gI o2 11), .int (gI o2 12)])), kI G (q2 3) 20 (gA o2 3), kI G (q2 4) 20 (gA o2 4), kI G (q2 5) 5 (gA o2 5), kJ G (q2 6) 5 (gB o2 6), kJ G (q2 7) 5 (gB o2 7), kJ G (q2 8) 6 (gB o2 8), kI G (q2 10) 5 (gA o2 10), ((q2 9), .inr (1, [.int (gI o3 0), .int (gI o3 1), .int (gI o3 2), .int (gI o3 3), .int (gI o3 4), .int (gI o3 5), .int (gI o3 6)]))] H := hP
  have hD : va_D A [(h0, .inr (5, [.ref (r2 0), .int (gI o2 1), .int (gI o2 2), .ref (q0 3), .ref (q0 4), .ref (q0 5), .ref (q0 6), .ref (q0 7), .ref (q0 8), .ref (q0 9), .ref (q0 10), .int (gI o2 11), .int (gI o0 12)])), kI G (q0 3) 20 (gA o0 3), kI G (q0 4) 20 (gA o0 4), kI G (q0 5) 5 (gA o0 5), kJ G (q0 6) 5 (gB o0 6), kJ G (q0 7) 5 (gB o0 7), kJ G (q0 8) 6 (gB o0 8), kI G (q0 10) 5 (gA o0 10), ((q0 9), .inr (1, [.int (gI o1 0), .int (gI o1 1), .int (gI o1 2), .int (gI o1 3), .int (gI o1 4), .int (gI o1 5), .int (gI o1 6)])), (h2, .inr (5, [.ref (r2 0), .int (gI o2 1), .int (gI o2 2), .ref (q2 3), .ref (q2 4), .ref (q2 5), .ref (q2 6), .ref (q2 7), .ref (q2 8), .ref (q2 9), .ref (q2 10), .int (gI o2 11), .int (gI o2 12)])), kI G (q2 3) 20 (gA o2 3), kI G (q2 4) 20 (gA o2 4), kI G (q2 5) 5 (gA o2 5), kJ G (q2 6) 5 (gB o2 6), kJ G (q2 7) 5 (gB o2 7), kJ G (q2 8) 6 (gB o2 8), kI G (q2 10) 5 (gA o2 10), ((q2 9), .inr (1, [.int (gI o3 0), .int (gI o3 1), .int (gI o3 2), .int (gI o3 3), .int (gI o3 4), .int (gI o3 5), .int (gI o3 6)]))] := hD
  refine lv_aload_n hx hb d_Mo_copy_32 rfl (lv_at hl 0 rfl) ?_
  refine lv_aload_n hx hb d_Mo_copy_33 rfl (lv_at hl 1 rfl) ?_
  refine va_get (D := G.1) (ci := 5) (v := .int (gI o2 12)) (C := R_Mo) (T := T_Mo) (N := 13) hx hb hts i_Mo hown hK hP 9 rfl rfl 12 (by decide) (hts _ wf_Mo_55) (fun _ h9 => h9) rfl d_Mo_copy_34 ?_
  refine va_put (D := G.1) (ci := 5) (v := .int (gI o2 12)) (ty := .int) (C := R_Mo) (T := T_Mo) (N := 13) hx hb hts i_Mo ty_Mo ty_Mo_ok nm_Mo hown hK hP hD hS 0 rfl rfl 12 (by decide) (hts _ wf_Mo_55) (fun _ h9 => h9) rfl (ty_Mo_ok 12 (by decide)) rfl rfl (Nat.le_of_ble_eq_true rfl) d_Mo_copy_37 (fun H locs hP hD hS => ?_)
  have hP : va_P G.1 CL [(h0, .inr (5, [.ref (r2 0), .int (gI o2 1), .int (gI o2 2), .ref (q0 3), .ref (q0 4), .ref (q0 5), .ref (q0 6), .ref (q0 7), .ref (q0 8), .ref (q0 9), .ref (q0 10), .int (gI o2 11), .int (gI o2 12)])), kI G (q0 3) 20 (gA o0 3), kI G (q0 4) 20 (gA o0 4), kI G (q0 5) 5 (gA o0 5), kJ G (q0 6) 5 (gB o0 6), kJ G (q0 7) 5 (gB o0 7), kJ G (q0 8) 6 (gB o0 8), kI G (q0 10) 5 (gA o0 10), ((q0 9), .inr (1, [.int (gI o1 0), .int (gI o1 1), .int (gI o1 2), .int (gI o1 3), .int (gI o1 4), .int (gI o1 5), .int (gI o1 6)])), (h2, .inr (5, [.ref (r2 0), .int (gI o2 1), .int (gI o2 2), .ref (q2 3), .ref (q2 4), .ref (q2 5), .ref (q2 6), .ref (q2 7), .ref (q2 8), .ref (q2 9), .ref (q2 10), .int (gI o2 11), .int (gI o2 12)])), kI G (q2 3) 20 (gA o2 3), kI G (q2 4) 20 (gA o2 4), kI G (q2 5) 5 (gA o2 5), kJ G (q2 6) 5 (gB o2 6), kJ G (q2 7) 5 (gB o2 7), kJ G (q2 8) 6 (gB o2 8), kI G (q2 10) 5 (gA o2 10), ((q2 9), .inr (1, [.int (gI o3 0), .int (gI o3 1), .int (gI o3 2), .int (gI o3 3), .int (gI o3 4), .int (gI o3 5), .int (gI o3 6)]))] H := hP
  have hD : va_D A [(h0, .inr (5, [.ref (r2 0), .int (gI o2 1), .int (gI o2 2), .ref (q0 3), .ref (q0 4), .ref (q0 5), .ref (q0 6), .ref (q0 7), .ref (q0 8), .ref (q0 9), .ref (q0 10), .int (gI o2 11), .int (gI o2 12)])), kI G (q0 3) 20 (gA o0 3), kI G (q0 4) 20 (gA o0 4), kI G (q0 5) 5 (gA o0 5), kJ G (q0 6) 5 (gB o0 6), kJ G (q0 7) 5 (gB o0 7), kJ G (q0 8) 6 (gB o0 8), kI G (q0 10) 5 (gA o0 10), ((q0 9), .inr (1, [.int (gI o1 0), .int (gI o1 1), .int (gI o1 2), .int (gI o1 3), .int (gI o1 4), .int (gI o1 5), .int (gI o1 6)])), (h2, .inr (5, [.ref (r2 0), .int (gI o2 1), .int (gI o2 2), .ref (q2 3), .ref (q2 4), .ref (q2 5), .ref (q2 6), .ref (q2 7), .ref (q2 8), .ref (q2 9), .ref (q2 10), .int (gI o2 11), .int (gI o2 12)])), kI G (q2 3) 20 (gA o2 3), kI G (q2 4) 20 (gA o2 4), kI G (q2 5) 5 (gA o2 5), kJ G (q2 6) 5 (gB o2 6), kJ G (q2 7) 5 (gB o2 7), kJ G (q2 8) 6 (gB o2 8), kI G (q2 10) 5 (gA o2 10), ((q2 9), .inr (1, [.int (gI o3 0), .int (gI o3 1), .int (gI o3 2), .int (gI o3 3), .int (gI o3 4), .int (gI o3 5), .int (gI o3 6)]))] := hD
  refine lv_aload_n hx hb d_Mo_copy_40 rfl (lv_at hl 0 rfl) ?_
  refine va_get (D := G.1) (ci := 5) (v := .ref (q0 9)) (C := R_Mo) (T := T_Mo) (N := 13) hx hb hts i_Mo hown hK hP 0 rfl rfl 9 (by decide) (hts _ wf_Mo_34) (fun _ h9 => h9) rfl d_Mo_copy_41 ?_
  refine lv_aload_n hx hb d_Mo_copy_44 rfl (lv_at hl 1 rfl) ?_
  refine va_get (D := G.1) (ci := 5) (v := .ref (q2 9)) (C := R_Mo) (T := T_Mo) (N := 13) hx hb hts i_Mo hown hK hP 9 rfl rfl 9 (by decide) (hts _ wf_Mo_34) (fun _ h9 => h9) rfl d_Mo_copy_45 ?_
  refine cl_Vv (b := b_Mo_copy) (As := [.ref (q2 9)]) (rest := []) (ws := [(h0, .inr (5, [.ref (r2 0), .int (gI o2 1), .int (gI o2 2), .ref (q0 3), .ref (q0 4), .ref (q0 5), .ref (q0 6), .ref (q0 7), .ref (q0 8), .ref (q0 9), .ref (q0 10), .int (gI o2 11), .int (gI o2 12)])), kI G (q0 3) 20 (gA o0 3), kI G (q0 4) 20 (gA o0 4), kI G (q0 5) 5 (gA o0 5), kJ G (q0 6) 5 (gB o0 6), kJ G (q0 7) 5 (gB o0 7), kJ G (q0 8) 6 (gB o0 8), kI G (q0 10) 5 (gA o0 10), ((q0 9), .inr (1, [.int (gI o1 0), .int (gI o1 1), .int (gI o1 2), .int (gI o1 3), .int (gI o1 4), .int (gI o1 5), .int (gI o1 6)])), (h2, .inr (5, [.ref (r2 0), .int (gI o2 1), .int (gI o2 2), .ref (q2 3), .ref (q2 4), .ref (q2 5), .ref (q2 6), .ref (q2 7), .ref (q2 8), .ref (q2 9), .ref (q2 10), .int (gI o2 11), .int (gI o2 12)])), kI G (q2 3) 20 (gA o2 3), kI G (q2 4) 20 (gA o2 4), kI G (q2 5) 5 (gA o2 5), kJ G (q2 6) 5 (gB o2 6), kJ G (q2 7) 5 (gB o2 7), kJ G (q2 8) 6 (gB o2 8), kI G (q2 10) 5 (gA o2 10), ((q2 9), .inr (1, [.int (gI o3 0), .int (gI o3 1), .int (gI o3 2), .int (gI o3 3), .int (gI o3 4), .int (gI o3 5), .int (gI o3 6)]))]) (wr := [(h0, .inr (5, [.ref (r2 0), .int (gI o2 1), .int (gI o2 2), .ref (q0 3), .ref (q0 4), .ref (q0 5), .ref (q0 6), .ref (q0 7), .ref (q0 8), .ref (q0 9), .ref (q0 10), .int (gI o2 11), .int (gI o2 12)])), kI G (q0 3) 20 (gA o0 3), kI G (q0 4) 20 (gA o0 4), kI G (q0 5) 5 (gA o0 5), kJ G (q0 6) 5 (gB o0 6), kJ G (q0 7) 5 (gB o0 7), kJ G (q0 8) 6 (gB o0 8), kI G (q0 10) 5 (gA o0 10), (h2, .inr (5, [.ref (r2 0), .int (gI o2 1), .int (gI o2 2), .ref (q2 3), .ref (q2 4), .ref (q2 5), .ref (q2 6), .ref (q2 7), .ref (q2 8), .ref (q2 9), .ref (q2 10), .int (gI o2 11), .int (gI o2 12)])), kI G (q2 3) 20 (gA o2 3), kI G (q2 4) 20 (gA o2 4), kI G (q2 5) 5 (gA o2 5), kJ G (q2 6) 5 (gB o2 6), kJ G (q2 7) 5 (gB o2 7), kJ G (q2 8) 6 (gB o2 8), kI G (q2 10) 5 (gA o2 10)]) (w2 := fun (u : Ob) => [(h0, .inr (5, [.ref (r2 0), .int (gI o2 1), .int (gI o2 2), .ref (q0 3), .ref (q0 4), .ref (q0 5), .ref (q0 6), .ref (q0 7), .ref (q0 8), .ref (q0 9), .ref (q0 10), .int (gI o2 11), .int (gI o2 12)])), kI G (q0 3) 20 (gA o0 3), kI G (q0 4) 20 (gA o0 4), kI G (q0 5) 5 (gA o0 5), kJ G (q0 6) 5 (gB o0 6), kJ G (q0 7) 5 (gB o0 7), kJ G (q0 8) 6 (gB o0 8), kI G (q0 10) 5 (gA o0 10), ((q0 9), .inr (1, [.int (gI u 0), .int (gI u 1), .int (gI u 2), .int (gI u 3), .int (gI u 4), .int (gI u 5), .int (gI u 6)])), (h2, .inr (5, [.ref (r2 0), .int (gI o2 1), .int (gI o2 2), .ref (q2 3), .ref (q2 4), .ref (q2 5), .ref (q2 6), .ref (q2 7), .ref (q2 8), .ref (q2 9), .ref (q2 10), .int (gI o2 11), .int (gI o2 12)])), kI G (q2 3) 20 (gA o2 3), kI G (q2 4) 20 (gA o2 4), kI G (q2 5) 5 (gA o2 5), kJ G (q2 6) 5 (gB o2 6), kJ G (q2 7) 5 (gB o2 7), kJ G (q2 8) 6 (gB o2 8), kI G (q2 10) 5 (gA o2 10), ((q2 9), .inr (1, [.int (gI o3 0), .int (gI o3 1), .int (gI o3 2), .int (gI o3 3), .int (gI o3 4), .int (gI o3 5), .int (gI o3 6)]))]) C (c_Fo_copy (h0 := (q0 9)) (q0 := q1) (h1 := (q2 9)) (q1 := q3) H.size h) wv_Mo_58 ⟨Nat.le_of_ble_eq_true rfl, Nat.le_of_ble_eq_true rfl⟩ hP hD hS 8 rfl rfl [8, 17] [0, 1, 2, 3, 4, 5, 6, 7, 9, 10, 11, 12, 13, 14, 15, 16] rfl rfl (by decide) (by decide) (by decide) [0, 1, 2, 3, 4, 5, 6, 7, 16, 8, 9, 10, 11, 12, 13, 14, 15, 17] (by decide) (fun u => rfl) rfl hl.1 rfl (lv_room (Nat.le_of_ble_eq_true rfl)) d_Mo_copy_48 ⟨Nat.le_of_ble_eq_true rfl, Nat.le_of_ble_eq_true rfl⟩ rfl rfl (fun u H locs h hP hD hS => ?_)
  generalize u = u1 at h hP hD
  have hP : va_P G.1 CL [(h0, .inr (5, [.ref (r2 0), .int (gI o2 1), .int (gI o2 2), .ref (q0 3), .ref (q0 4), .ref (q0 5), .ref (q0 6), .ref (q0 7), .ref (q0 8), .ref (q0 9), .ref (q0 10), .int (gI o2 11), .int (gI o2 12)])), kI G (q0 3) 20 (gA o0 3), kI G (q0 4) 20 (gA o0 4), kI G (q0 5) 5 (gA o0 5), kJ G (q0 6) 5 (gB o0 6), kJ G (q0 7) 5 (gB o0 7), kJ G (q0 8) 6 (gB o0 8), kI G (q0 10) 5 (gA o0 10), ((q0 9), .inr (1, [.int (gI u1 0), .int (gI u1 1), .int (gI u1 2), .int (gI u1 3), .int (gI u1 4), .int (gI u1 5), .int (gI u1 6)])), (h2, .inr (5, [.ref (r2 0), .int (gI o2 1), .int (gI o2 2), .ref (q2 3), .ref (q2 4), .ref (q2 5), .ref (q2 6), .ref (q2 7), .ref (q2 8), .ref (q2 9), .ref (q2 10), .int (gI o2 11), .int (gI o2 12)])), kI G (q2 3) 20 (gA o2 3), kI G (q2 4) 20 (gA o2 4), kI G (q2 5) 5 (gA o2 5), kJ G (q2 6) 5 (gB o2 6), kJ G (q2 7) 5 (gB o2 7), kJ G (q2 8) 6 (gB o2 8), kI G (q2 10) 5 (gA o2 10), ((q2 9), .inr (1, [.int (gI o3 0), .int (gI o3 1), .int (gI o3 2), .int (gI o3 3), .int (gI o3 4), .int (gI o3 5), .int (gI o3 6)]))] H := hP
  have hD : va_D A [(h0, .inr (5, [.ref (r2 0), .int (gI o2 1), .int (gI o2 2), .ref (q0 3), .ref (q0 4), .ref (q0 5), .ref (q0 6), .ref (q0 7), .ref (q0 8), .ref (q0 9), .ref (q0 10), .int (gI o2 11), .int (gI o2 12)])), kI G (q0 3) 20 (gA o0 3), kI G (q0 4) 20 (gA o0 4), kI G (q0 5) 5 (gA o0 5), kJ G (q0 6) 5 (gB o0 6), kJ G (q0 7) 5 (gB o0 7), kJ G (q0 8) 6 (gB o0 8), kI G (q0 10) 5 (gA o0 10), ((q0 9), .inr (1, [.int (gI u1 0), .int (gI u1 1), .int (gI u1 2), .int (gI u1 3), .int (gI u1 4), .int (gI u1 5), .int (gI u1 6)])), (h2, .inr (5, [.ref (r2 0), .int (gI o2 1), .int (gI o2 2), .ref (q2 3), .ref (q2 4), .ref (q2 5), .ref (q2 6), .ref (q2 7), .ref (q2 8), .ref (q2 9), .ref (q2 10), .int (gI o2 11), .int (gI o2 12)])), kI G (q2 3) 20 (gA o2 3), kI G (q2 4) 20 (gA o2 4), kI G (q2 5) 5 (gA o2 5), kJ G (q2 6) 5 (gB o2 6), kJ G (q2 7) 5 (gB o2 7), kJ G (q2 8) 6 (gB o2 8), kI G (q2 10) 5 (gA o2 10), ((q2 9), .inr (1, [.int (gI o3 0), .int (gI o3 1), .int (gI o3 2), .int (gI o3 3), .int (gI o3 4), .int (gI o3 5), .int (gI o3 6)]))] := hD
  refine lv_aload_n hx hb d_Mo_copy_51 rfl (lv_at hl 1 rfl) ?_
  refine va_get (D := G.1) (ci := 5) (v := .ref (q2 3)) (C := R_Mo) (T := T_Mo) (N := 13) hx hb hts i_Mo hown hK hP 9 rfl rfl 3 (by decide) (hts _ wf_Mo_9) (fun _ h9 => h9) rfl d_Mo_copy_52 ?_
  refine lv_iconst (v := (0 : Int32)) hx hb d_Mo_copy_55 (by decide) ?_
  refine lv_aload_n hx hb d_Mo_copy_56 rfl (lv_at hl 0 rfl) ?_
  refine va_get (D := G.1) (ci := 5) (v := .ref (q0 3)) (C := R_Mo) (T := T_Mo) (N := 13) hx hb hts i_Mo hown hK hP 0 rfl rfl 3 (by decide) (hts _ wf_Mo_9) (fun _ h9 => h9) rfl d_Mo_copy_57 ?_
  refine lv_iconst (v := (0 : Int32)) hx hb d_Mo_copy_60 (by decide) ?_
  refine lv_bipush (v := (20 : Int32)) hx hb d_Mo_copy_61 (by decide) ?_
  refine va_copyi hx hb (hml.trans hl.1.symm) hown (hts _ wm_Mo_62) (hts _ wac_n) (hts _ wac_s) (hts _ wac_i) hK hP hD hS 10 1 0 0 rfl rfl rfl rfl rfl (by decide) (by decide) (by decide) (by decide) (by decide) (fun _ _ => rfl) (Nat.le_of_ble_eq_true rfl) (Nat.le_of_ble_eq_true rfl) d_Mo_copy_63 (fun H locs hP hD hS => ?_)
  have hP : va_P G.1 CL [(h0, .inr (5, [.ref (r2 0), .int (gI o2 1), .int (gI o2 2), .ref (q0 3), .ref (q0 4), .ref (q0 5), .ref (q0 6), .ref (q0 7), .ref (q0 8), .ref (q0 9), .ref (q0 10), .int (gI o2 11), .int (gI o2 12)])), kI G (q0 3) 20 (va_cpy (gA o2 3) (gA o0 3) 0 0 20), kI G (q0 4) 20 (gA o0 4), kI G (q0 5) 5 (gA o0 5), kJ G (q0 6) 5 (gB o0 6), kJ G (q0 7) 5 (gB o0 7), kJ G (q0 8) 6 (gB o0 8), kI G (q0 10) 5 (gA o0 10), ((q0 9), .inr (1, [.int (gI u1 0), .int (gI u1 1), .int (gI u1 2), .int (gI u1 3), .int (gI u1 4), .int (gI u1 5), .int (gI u1 6)])), (h2, .inr (5, [.ref (r2 0), .int (gI o2 1), .int (gI o2 2), .ref (q2 3), .ref (q2 4), .ref (q2 5), .ref (q2 6), .ref (q2 7), .ref (q2 8), .ref (q2 9), .ref (q2 10), .int (gI o2 11), .int (gI o2 12)])), kI G (q2 3) 20 (gA o2 3), kI G (q2 4) 20 (gA o2 4), kI G (q2 5) 5 (gA o2 5), kJ G (q2 6) 5 (gB o2 6), kJ G (q2 7) 5 (gB o2 7), kJ G (q2 8) 6 (gB o2 8), kI G (q2 10) 5 (gA o2 10), ((q2 9), .inr (1, [.int (gI o3 0), .int (gI o3 1), .int (gI o3 2), .int (gI o3 3), .int (gI o3 4), .int (gI o3 5), .int (gI o3 6)]))] H := hP
  have hD : va_D A [(h0, .inr (5, [.ref (r2 0), .int (gI o2 1), .int (gI o2 2), .ref (q0 3), .ref (q0 4), .ref (q0 5), .ref (q0 6), .ref (q0 7), .ref (q0 8), .ref (q0 9), .ref (q0 10), .int (gI o2 11), .int (gI o2 12)])), kI G (q0 3) 20 (va_cpy (gA o2 3) (gA o0 3) 0 0 20), kI G (q0 4) 20 (gA o0 4), kI G (q0 5) 5 (gA o0 5), kJ G (q0 6) 5 (gB o0 6), kJ G (q0 7) 5 (gB o0 7), kJ G (q0 8) 6 (gB o0 8), kI G (q0 10) 5 (gA o0 10), ((q0 9), .inr (1, [.int (gI u1 0), .int (gI u1 1), .int (gI u1 2), .int (gI u1 3), .int (gI u1 4), .int (gI u1 5), .int (gI u1 6)])), (h2, .inr (5, [.ref (r2 0), .int (gI o2 1), .int (gI o2 2), .ref (q2 3), .ref (q2 4), .ref (q2 5), .ref (q2 6), .ref (q2 7), .ref (q2 8), .ref (q2 9), .ref (q2 10), .int (gI o2 11), .int (gI o2 12)])), kI G (q2 3) 20 (gA o2 3), kI G (q2 4) 20 (gA o2 4), kI G (q2 5) 5 (gA o2 5), kJ G (q2 6) 5 (gB o2 6), kJ G (q2 7) 5 (gB o2 7), kJ G (q2 8) 6 (gB o2 8), kI G (q2 10) 5 (gA o2 10), ((q2 9), .inr (1, [.int (gI o3 0), .int (gI o3 1), .int (gI o3 2), .int (gI o3 3), .int (gI o3 4), .int (gI o3 5), .int (gI o3 6)]))] := hD
  refine lv_aload_n hx hb d_Mo_copy_66 rfl (lv_at hl 1 rfl) ?_
  refine va_get (D := G.1) (ci := 5) (v := .ref (q2 4)) (C := R_Mo) (T := T_Mo) (N := 13) hx hb hts i_Mo hown hK hP 9 rfl rfl 4 (by decide) (hts _ wf_Mo_15) (fun _ h9 => h9) rfl d_Mo_copy_67 ?_
  refine lv_iconst (v := (0 : Int32)) hx hb d_Mo_copy_70 (by decide) ?_
  refine lv_aload_n hx hb d_Mo_copy_71 rfl (lv_at hl 0 rfl) ?_
  refine va_get (D := G.1) (ci := 5) (v := .ref (q0 4)) (C := R_Mo) (T := T_Mo) (N := 13) hx hb hts i_Mo hown hK hP 0 rfl rfl 4 (by decide) (hts _ wf_Mo_15) (fun _ h9 => h9) rfl d_Mo_copy_72 ?_
  refine lv_iconst (v := (0 : Int32)) hx hb d_Mo_copy_75 (by decide) ?_
  refine lv_bipush (v := (20 : Int32)) hx hb d_Mo_copy_76 (by decide) ?_
  refine va_copyi hx hb (hml.trans hl.1.symm) hown (hts _ wm_Mo_62) (hts _ wac_n) (hts _ wac_s) (hts _ wac_i) hK hP hD hS 11 2 0 0 rfl rfl rfl rfl rfl (by decide) (by decide) (by decide) (by decide) (by decide) (fun _ _ => rfl) (Nat.le_of_ble_eq_true rfl) (Nat.le_of_ble_eq_true rfl) d_Mo_copy_78 (fun H locs hP hD hS => ?_)
  have hP : va_P G.1 CL [(h0, .inr (5, [.ref (r2 0), .int (gI o2 1), .int (gI o2 2), .ref (q0 3), .ref (q0 4), .ref (q0 5), .ref (q0 6), .ref (q0 7), .ref (q0 8), .ref (q0 9), .ref (q0 10), .int (gI o2 11), .int (gI o2 12)])), kI G (q0 3) 20 (va_cpy (gA o2 3) (gA o0 3) 0 0 20), kI G (q0 4) 20 (va_cpy (gA o2 4) (gA o0 4) 0 0 20), kI G (q0 5) 5 (gA o0 5), kJ G (q0 6) 5 (gB o0 6), kJ G (q0 7) 5 (gB o0 7), kJ G (q0 8) 6 (gB o0 8), kI G (q0 10) 5 (gA o0 10), ((q0 9), .inr (1, [.int (gI u1 0), .int (gI u1 1), .int (gI u1 2), .int (gI u1 3), .int (gI u1 4), .int (gI u1 5), .int (gI u1 6)])), (h2, .inr (5, [.ref (r2 0), .int (gI o2 1), .int (gI o2 2), .ref (q2 3), .ref (q2 4), .ref (q2 5), .ref (q2 6), .ref (q2 7), .ref (q2 8), .ref (q2 9), .ref (q2 10), .int (gI o2 11), .int (gI o2 12)])), kI G (q2 3) 20 (gA o2 3), kI G (q2 4) 20 (gA o2 4), kI G (q2 5) 5 (gA o2 5), kJ G (q2 6) 5 (gB o2 6), kJ G (q2 7) 5 (gB o2 7), kJ G (q2 8) 6 (gB o2 8), kI G (q2 10) 5 (gA o2 10), ((q2 9), .inr (1, [.int (gI o3 0), .int (gI o3 1), .int (gI o3 2), .int (gI o3 3), .int (gI o3 4), .int (gI o3 5), .int (gI o3 6)]))] H := hP
  have hD : va_D A [(h0, .inr (5, [.ref (r2 0), .int (gI o2 1), .int (gI o2 2), .ref (q0 3), .ref (q0 4), .ref (q0 5), .ref (q0 6), .ref (q0 7), .ref (q0 8), .ref (q0 9), .ref (q0 10), .int (gI o2 11), .int (gI o2 12)])), kI G (q0 3) 20 (va_cpy (gA o2 3) (gA o0 3) 0 0 20), kI G (q0 4) 20 (va_cpy (gA o2 4) (gA o0 4) 0 0 20), kI G (q0 5) 5 (gA o0 5), kJ G (q0 6) 5 (gB o0 6), kJ G (q0 7) 5 (gB o0 7), kJ G (q0 8) 6 (gB o0 8), kI G (q0 10) 5 (gA o0 10), ((q0 9), .inr (1, [.int (gI u1 0), .int (gI u1 1), .int (gI u1 2), .int (gI u1 3), .int (gI u1 4), .int (gI u1 5), .int (gI u1 6)])), (h2, .inr (5, [.ref (r2 0), .int (gI o2 1), .int (gI o2 2), .ref (q2 3), .ref (q2 4), .ref (q2 5), .ref (q2 6), .ref (q2 7), .ref (q2 8), .ref (q2 9), .ref (q2 10), .int (gI o2 11), .int (gI o2 12)])), kI G (q2 3) 20 (gA o2 3), kI G (q2 4) 20 (gA o2 4), kI G (q2 5) 5 (gA o2 5), kJ G (q2 6) 5 (gB o2 6), kJ G (q2 7) 5 (gB o2 7), kJ G (q2 8) 6 (gB o2 8), kI G (q2 10) 5 (gA o2 10), ((q2 9), .inr (1, [.int (gI o3 0), .int (gI o3 1), .int (gI o3 2), .int (gI o3 3), .int (gI o3 4), .int (gI o3 5), .int (gI o3 6)]))] := hD
  refine lv_aload_n hx hb d_Mo_copy_81 rfl (lv_at hl 1 rfl) ?_
  refine va_get (D := G.1) (ci := 5) (v := .ref (q2 5)) (C := R_Mo) (T := T_Mo) (N := 13) hx hb hts i_Mo hown hK hP 9 rfl rfl 5 (by decide) (hts _ wf_Mo_18) (fun _ h9 => h9) rfl d_Mo_copy_82 ?_
  refine lv_iconst (v := (0 : Int32)) hx hb d_Mo_copy_85 (by decide) ?_
  refine lv_aload_n hx hb d_Mo_copy_86 rfl (lv_at hl 0 rfl) ?_
  refine va_get (D := G.1) (ci := 5) (v := .ref (q0 5)) (C := R_Mo) (T := T_Mo) (N := 13) hx hb hts i_Mo hown hK hP 0 rfl rfl 5 (by decide) (hts _ wf_Mo_18) (fun _ h9 => h9) rfl d_Mo_copy_87 ?_
  refine lv_iconst (v := (0 : Int32)) hx hb d_Mo_copy_90 (by decide) ?_
  refine lv_iconst (v := (5 : Int32)) hx hb d_Mo_copy_91 (by decide) ?_
  refine va_copyi hx hb (hml.trans hl.1.symm) hown (hts _ wm_Mo_62) (hts _ wac_n) (hts _ wac_s) (hts _ wac_i) hK hP hD hS 12 3 0 0 rfl rfl rfl rfl rfl (by decide) (by decide) (by decide) (by decide) (by decide) (fun _ _ => rfl) (Nat.le_of_ble_eq_true rfl) (Nat.le_of_ble_eq_true rfl) d_Mo_copy_92 (fun H locs hP hD hS => ?_)
  have hP : va_P G.1 CL [(h0, .inr (5, [.ref (r2 0), .int (gI o2 1), .int (gI o2 2), .ref (q0 3), .ref (q0 4), .ref (q0 5), .ref (q0 6), .ref (q0 7), .ref (q0 8), .ref (q0 9), .ref (q0 10), .int (gI o2 11), .int (gI o2 12)])), kI G (q0 3) 20 (va_cpy (gA o2 3) (gA o0 3) 0 0 20), kI G (q0 4) 20 (va_cpy (gA o2 4) (gA o0 4) 0 0 20), kI G (q0 5) 5 (va_cpy (gA o2 5) (gA o0 5) 0 0 5), kJ G (q0 6) 5 (gB o0 6), kJ G (q0 7) 5 (gB o0 7), kJ G (q0 8) 6 (gB o0 8), kI G (q0 10) 5 (gA o0 10), ((q0 9), .inr (1, [.int (gI u1 0), .int (gI u1 1), .int (gI u1 2), .int (gI u1 3), .int (gI u1 4), .int (gI u1 5), .int (gI u1 6)])), (h2, .inr (5, [.ref (r2 0), .int (gI o2 1), .int (gI o2 2), .ref (q2 3), .ref (q2 4), .ref (q2 5), .ref (q2 6), .ref (q2 7), .ref (q2 8), .ref (q2 9), .ref (q2 10), .int (gI o2 11), .int (gI o2 12)])), kI G (q2 3) 20 (gA o2 3), kI G (q2 4) 20 (gA o2 4), kI G (q2 5) 5 (gA o2 5), kJ G (q2 6) 5 (gB o2 6), kJ G (q2 7) 5 (gB o2 7), kJ G (q2 8) 6 (gB o2 8), kI G (q2 10) 5 (gA o2 10), ((q2 9), .inr (1, [.int (gI o3 0), .int (gI o3 1), .int (gI o3 2), .int (gI o3 3), .int (gI o3 4), .int (gI o3 5), .int (gI o3 6)]))] H := hP
  have hD : va_D A [(h0, .inr (5, [.ref (r2 0), .int (gI o2 1), .int (gI o2 2), .ref (q0 3), .ref (q0 4), .ref (q0 5), .ref (q0 6), .ref (q0 7), .ref (q0 8), .ref (q0 9), .ref (q0 10), .int (gI o2 11), .int (gI o2 12)])), kI G (q0 3) 20 (va_cpy (gA o2 3) (gA o0 3) 0 0 20), kI G (q0 4) 20 (va_cpy (gA o2 4) (gA o0 4) 0 0 20), kI G (q0 5) 5 (va_cpy (gA o2 5) (gA o0 5) 0 0 5), kJ G (q0 6) 5 (gB o0 6), kJ G (q0 7) 5 (gB o0 7), kJ G (q0 8) 6 (gB o0 8), kI G (q0 10) 5 (gA o0 10), ((q0 9), .inr (1, [.int (gI u1 0), .int (gI u1 1), .int (gI u1 2), .int (gI u1 3), .int (gI u1 4), .int (gI u1 5), .int (gI u1 6)])), (h2, .inr (5, [.ref (r2 0), .int (gI o2 1), .int (gI o2 2), .ref (q2 3), .ref (q2 4), .ref (q2 5), .ref (q2 6), .ref (q2 7), .ref (q2 8), .ref (q2 9), .ref (q2 10), .int (gI o2 11), .int (gI o2 12)])), kI G (q2 3) 20 (gA o2 3), kI G (q2 4) 20 (gA o2 4), kI G (q2 5) 5 (gA o2 5), kJ G (q2 6) 5 (gB o2 6), kJ G (q2 7) 5 (gB o2 7), kJ G (q2 8) 6 (gB o2 8), kI G (q2 10) 5 (gA o2 10), ((q2 9), .inr (1, [.int (gI o3 0), .int (gI o3 1), .int (gI o3 2), .int (gI o3 3), .int (gI o3 4), .int (gI o3 5), .int (gI o3 6)]))] := hD
  refine lv_aload_n hx hb d_Mo_copy_95 rfl (lv_at hl 1 rfl) ?_
  refine va_get (D := G.1) (ci := 5) (v := .ref (q2 6)) (C := R_Mo) (T := T_Mo) (N := 13) hx hb hts i_Mo hown hK hP 9 rfl rfl 6 (by decide) (hts _ wf_Mo_21) (fun _ h9 => h9) rfl d_Mo_copy_96 ?_
  refine lv_iconst (v := (0 : Int32)) hx hb d_Mo_copy_99 (by decide) ?_
  refine lv_aload_n hx hb d_Mo_copy_100 rfl (lv_at hl 0 rfl) ?_
  refine va_get (D := G.1) (ci := 5) (v := .ref (q0 6)) (C := R_Mo) (T := T_Mo) (N := 13) hx hb hts i_Mo hown hK hP 0 rfl rfl 6 (by decide) (hts _ wf_Mo_21) (fun _ h9 => h9) rfl d_Mo_copy_101 ?_
  refine lv_iconst (v := (0 : Int32)) hx hb d_Mo_copy_104 (by decide) ?_
  refine lv_iconst (v := (5 : Int32)) hx hb d_Mo_copy_105 (by decide) ?_
  refine va_copyl hx hb (hml.trans hl.1.symm) hown (hts _ wm_Mo_62) (hts _ wac_n) (hts _ wac_s) (hts _ wac_i) hK hP hD hS 13 4 1 1 rfl rfl rfl rfl rfl (by decide) (by decide) (by decide) (by decide) (by decide) (fun _ _ => rfl) (Nat.le_of_ble_eq_true rfl) (Nat.le_of_ble_eq_true rfl) d_Mo_copy_106 (fun H locs hP hD hS => ?_)
  have hP : va_P G.1 CL [(h0, .inr (5, [.ref (r2 0), .int (gI o2 1), .int (gI o2 2), .ref (q0 3), .ref (q0 4), .ref (q0 5), .ref (q0 6), .ref (q0 7), .ref (q0 8), .ref (q0 9), .ref (q0 10), .int (gI o2 11), .int (gI o2 12)])), kI G (q0 3) 20 (va_cpy (gA o2 3) (gA o0 3) 0 0 20), kI G (q0 4) 20 (va_cpy (gA o2 4) (gA o0 4) 0 0 20), kI G (q0 5) 5 (va_cpy (gA o2 5) (gA o0 5) 0 0 5), kJ G (q0 6) 5 (va_cpy (gB o2 6) (gB o0 6) 0 0 5), kJ G (q0 7) 5 (gB o0 7), kJ G (q0 8) 6 (gB o0 8), kI G (q0 10) 5 (gA o0 10), ((q0 9), .inr (1, [.int (gI u1 0), .int (gI u1 1), .int (gI u1 2), .int (gI u1 3), .int (gI u1 4), .int (gI u1 5), .int (gI u1 6)])), (h2, .inr (5, [.ref (r2 0), .int (gI o2 1), .int (gI o2 2), .ref (q2 3), .ref (q2 4), .ref (q2 5), .ref (q2 6), .ref (q2 7), .ref (q2 8), .ref (q2 9), .ref (q2 10), .int (gI o2 11), .int (gI o2 12)])), kI G (q2 3) 20 (gA o2 3), kI G (q2 4) 20 (gA o2 4), kI G (q2 5) 5 (gA o2 5), kJ G (q2 6) 5 (gB o2 6), kJ G (q2 7) 5 (gB o2 7), kJ G (q2 8) 6 (gB o2 8), kI G (q2 10) 5 (gA o2 10), ((q2 9), .inr (1, [.int (gI o3 0), .int (gI o3 1), .int (gI o3 2), .int (gI o3 3), .int (gI o3 4), .int (gI o3 5), .int (gI o3 6)]))] H := hP
  have hD : va_D A [(h0, .inr (5, [.ref (r2 0), .int (gI o2 1), .int (gI o2 2), .ref (q0 3), .ref (q0 4), .ref (q0 5), .ref (q0 6), .ref (q0 7), .ref (q0 8), .ref (q0 9), .ref (q0 10), .int (gI o2 11), .int (gI o2 12)])), kI G (q0 3) 20 (va_cpy (gA o2 3) (gA o0 3) 0 0 20), kI G (q0 4) 20 (va_cpy (gA o2 4) (gA o0 4) 0 0 20), kI G (q0 5) 5 (va_cpy (gA o2 5) (gA o0 5) 0 0 5), kJ G (q0 6) 5 (va_cpy (gB o2 6) (gB o0 6) 0 0 5), kJ G (q0 7) 5 (gB o0 7), kJ G (q0 8) 6 (gB o0 8), kI G (q0 10) 5 (gA o0 10), ((q0 9), .inr (1, [.int (gI u1 0), .int (gI u1 1), .int (gI u1 2), .int (gI u1 3), .int (gI u1 4), .int (gI u1 5), .int (gI u1 6)])), (h2, .inr (5, [.ref (r2 0), .int (gI o2 1), .int (gI o2 2), .ref (q2 3), .ref (q2 4), .ref (q2 5), .ref (q2 6), .ref (q2 7), .ref (q2 8), .ref (q2 9), .ref (q2 10), .int (gI o2 11), .int (gI o2 12)])), kI G (q2 3) 20 (gA o2 3), kI G (q2 4) 20 (gA o2 4), kI G (q2 5) 5 (gA o2 5), kJ G (q2 6) 5 (gB o2 6), kJ G (q2 7) 5 (gB o2 7), kJ G (q2 8) 6 (gB o2 8), kI G (q2 10) 5 (gA o2 10), ((q2 9), .inr (1, [.int (gI o3 0), .int (gI o3 1), .int (gI o3 2), .int (gI o3 3), .int (gI o3 4), .int (gI o3 5), .int (gI o3 6)]))] := hD
  refine lv_aload_n hx hb d_Mo_copy_109 rfl (lv_at hl 1 rfl) ?_
  refine va_get (D := G.1) (ci := 5) (v := .ref (q2 7)) (C := R_Mo) (T := T_Mo) (N := 13) hx hb hts i_Mo hown hK hP 9 rfl rfl 7 (by decide) (hts _ wf_Mo_25) (fun _ h9 => h9) rfl d_Mo_copy_110 ?_
  refine lv_iconst (v := (0 : Int32)) hx hb d_Mo_copy_113 (by decide) ?_
  refine lv_aload_n hx hb d_Mo_copy_114 rfl (lv_at hl 0 rfl) ?_
  refine va_get (D := G.1) (ci := 5) (v := .ref (q0 7)) (C := R_Mo) (T := T_Mo) (N := 13) hx hb hts i_Mo hown hK hP 0 rfl rfl 7 (by decide) (hts _ wf_Mo_25) (fun _ h9 => h9) rfl d_Mo_copy_115 ?_
  refine lv_iconst (v := (0 : Int32)) hx hb d_Mo_copy_118 (by decide) ?_
  refine lv_iconst (v := (5 : Int32)) hx hb d_Mo_copy_119 (by decide) ?_
  refine va_copyl hx hb (hml.trans hl.1.symm) hown (hts _ wm_Mo_62) (hts _ wac_n) (hts _ wac_s) (hts _ wac_i) hK hP hD hS 14 5 1 1 rfl rfl rfl rfl rfl (by decide) (by decide) (by decide) (by decide) (by decide) (fun _ _ => rfl) (Nat.le_of_ble_eq_true rfl) (Nat.le_of_ble_eq_true rfl) d_Mo_copy_120 (fun H locs hP hD hS => ?_)
  have hP : va_P G.1 CL [(h0, .inr (5, [.ref (r2 0), .int (gI o2 1), .int (gI o2 2), .ref (q0 3), .ref (q0 4), .ref (q0 5), .ref (q0 6), .ref (q0 7), .ref (q0 8), .ref (q0 9), .ref (q0 10), .int (gI o2 11), .int (gI o2 12)])), kI G (q0 3) 20 (va_cpy (gA o2 3) (gA o0 3) 0 0 20), kI G (q0 4) 20 (va_cpy (gA o2 4) (gA o0 4) 0 0 20), kI G (q0 5) 5 (va_cpy (gA o2 5) (gA o0 5) 0 0 5), kJ G (q0 6) 5 (va_cpy (gB o2 6) (gB o0 6) 0 0 5), kJ G (q0 7) 5 (va_cpy (gB o2 7) (gB o0 7) 0 0 5), kJ G (q0 8) 6 (gB o0 8), kI G (q0 10) 5 (gA o0 10), ((q0 9), .inr (1, [.int (gI u1 0), .int (gI u1 1), .int (gI u1 2), .int (gI u1 3), .int (gI u1 4), .int (gI u1 5), .int (gI u1 6)])), (h2, .inr (5, [.ref (r2 0), .int (gI o2 1), .int (gI o2 2), .ref (q2 3), .ref (q2 4), .ref (q2 5), .ref (q2 6), .ref (q2 7), .ref (q2 8), .ref (q2 9), .ref (q2 10), .int (gI o2 11), .int (gI o2 12)])), kI G (q2 3) 20 (gA o2 3), kI G (q2 4) 20 (gA o2 4), kI G (q2 5) 5 (gA o2 5), kJ G (q2 6) 5 (gB o2 6), kJ G (q2 7) 5 (gB o2 7), kJ G (q2 8) 6 (gB o2 8), kI G (q2 10) 5 (gA o2 10), ((q2 9), .inr (1, [.int (gI o3 0), .int (gI o3 1), .int (gI o3 2), .int (gI o3 3), .int (gI o3 4), .int (gI o3 5), .int (gI o3 6)]))] H := hP
  have hD : va_D A [(h0, .inr (5, [.ref (r2 0), .int (gI o2 1), .int (gI o2 2), .ref (q0 3), .ref (q0 4), .ref (q0 5), .ref (q0 6), .ref (q0 7), .ref (q0 8), .ref (q0 9), .ref (q0 10), .int (gI o2 11), .int (gI o2 12)])), kI G (q0 3) 20 (va_cpy (gA o2 3) (gA o0 3) 0 0 20), kI G (q0 4) 20 (va_cpy (gA o2 4) (gA o0 4) 0 0 20), kI G (q0 5) 5 (va_cpy (gA o2 5) (gA o0 5) 0 0 5), kJ G (q0 6) 5 (va_cpy (gB o2 6) (gB o0 6) 0 0 5), kJ G (q0 7) 5 (va_cpy (gB o2 7) (gB o0 7) 0 0 5), kJ G (q0 8) 6 (gB o0 8), kI G (q0 10) 5 (gA o0 10), ((q0 9), .inr (1, [.int (gI u1 0), .int (gI u1 1), .int (gI u1 2), .int (gI u1 3), .int (gI u1 4), .int (gI u1 5), .int (gI u1 6)])), (h2, .inr (5, [.ref (r2 0), .int (gI o2 1), .int (gI o2 2), .ref (q2 3), .ref (q2 4), .ref (q2 5), .ref (q2 6), .ref (q2 7), .ref (q2 8), .ref (q2 9), .ref (q2 10), .int (gI o2 11), .int (gI o2 12)])), kI G (q2 3) 20 (gA o2 3), kI G (q2 4) 20 (gA o2 4), kI G (q2 5) 5 (gA o2 5), kJ G (q2 6) 5 (gB o2 6), kJ G (q2 7) 5 (gB o2 7), kJ G (q2 8) 6 (gB o2 8), kI G (q2 10) 5 (gA o2 10), ((q2 9), .inr (1, [.int (gI o3 0), .int (gI o3 1), .int (gI o3 2), .int (gI o3 3), .int (gI o3 4), .int (gI o3 5), .int (gI o3 6)]))] := hD
  refine lv_aload_n hx hb d_Mo_copy_123 rfl (lv_at hl 1 rfl) ?_
  refine va_get (D := G.1) (ci := 5) (v := .ref (q2 8)) (C := R_Mo) (T := T_Mo) (N := 13) hx hb hts i_Mo hown hK hP 9 rfl rfl 8 (by decide) (hts _ wf_Mo_28) (fun _ h9 => h9) rfl d_Mo_copy_124 ?_
  refine lv_iconst (v := (0 : Int32)) hx hb d_Mo_copy_127 (by decide) ?_
  refine lv_aload_n hx hb d_Mo_copy_128 rfl (lv_at hl 0 rfl) ?_
  refine va_get (D := G.1) (ci := 5) (v := .ref (q0 8)) (C := R_Mo) (T := T_Mo) (N := 13) hx hb hts i_Mo hown hK hP 0 rfl rfl 8 (by decide) (hts _ wf_Mo_28) (fun _ h9 => h9) rfl d_Mo_copy_129 ?_
  refine lv_iconst (v := (0 : Int32)) hx hb d_Mo_copy_132 (by decide) ?_
  refine lv_bipush (v := (6 : Int32)) hx hb d_Mo_copy_133 (by decide) ?_
  refine va_copyl hx hb (hml.trans hl.1.symm) hown (hts _ wm_Mo_62) (hts _ wac_n) (hts _ wac_s) (hts _ wac_i) hK hP hD hS 15 6 1 1 rfl rfl rfl rfl rfl (by decide) (by decide) (by decide) (by decide) (by decide) (fun _ _ => rfl) (Nat.le_of_ble_eq_true rfl) (Nat.le_of_ble_eq_true rfl) d_Mo_copy_135 (fun H locs hP hD hS => ?_)
  have hP : va_P G.1 CL [(h0, .inr (5, [.ref (r2 0), .int (gI o2 1), .int (gI o2 2), .ref (q0 3), .ref (q0 4), .ref (q0 5), .ref (q0 6), .ref (q0 7), .ref (q0 8), .ref (q0 9), .ref (q0 10), .int (gI o2 11), .int (gI o2 12)])), kI G (q0 3) 20 (va_cpy (gA o2 3) (gA o0 3) 0 0 20), kI G (q0 4) 20 (va_cpy (gA o2 4) (gA o0 4) 0 0 20), kI G (q0 5) 5 (va_cpy (gA o2 5) (gA o0 5) 0 0 5), kJ G (q0 6) 5 (va_cpy (gB o2 6) (gB o0 6) 0 0 5), kJ G (q0 7) 5 (va_cpy (gB o2 7) (gB o0 7) 0 0 5), kJ G (q0 8) 6 (va_cpy (gB o2 8) (gB o0 8) 0 0 6), kI G (q0 10) 5 (gA o0 10), ((q0 9), .inr (1, [.int (gI u1 0), .int (gI u1 1), .int (gI u1 2), .int (gI u1 3), .int (gI u1 4), .int (gI u1 5), .int (gI u1 6)])), (h2, .inr (5, [.ref (r2 0), .int (gI o2 1), .int (gI o2 2), .ref (q2 3), .ref (q2 4), .ref (q2 5), .ref (q2 6), .ref (q2 7), .ref (q2 8), .ref (q2 9), .ref (q2 10), .int (gI o2 11), .int (gI o2 12)])), kI G (q2 3) 20 (gA o2 3), kI G (q2 4) 20 (gA o2 4), kI G (q2 5) 5 (gA o2 5), kJ G (q2 6) 5 (gB o2 6), kJ G (q2 7) 5 (gB o2 7), kJ G (q2 8) 6 (gB o2 8), kI G (q2 10) 5 (gA o2 10), ((q2 9), .inr (1, [.int (gI o3 0), .int (gI o3 1), .int (gI o3 2), .int (gI o3 3), .int (gI o3 4), .int (gI o3 5), .int (gI o3 6)]))] H := hP
  have hD : va_D A [(h0, .inr (5, [.ref (r2 0), .int (gI o2 1), .int (gI o2 2), .ref (q0 3), .ref (q0 4), .ref (q0 5), .ref (q0 6), .ref (q0 7), .ref (q0 8), .ref (q0 9), .ref (q0 10), .int (gI o2 11), .int (gI o2 12)])), kI G (q0 3) 20 (va_cpy (gA o2 3) (gA o0 3) 0 0 20), kI G (q0 4) 20 (va_cpy (gA o2 4) (gA o0 4) 0 0 20), kI G (q0 5) 5 (va_cpy (gA o2 5) (gA o0 5) 0 0 5), kJ G (q0 6) 5 (va_cpy (gB o2 6) (gB o0 6) 0 0 5), kJ G (q0 7) 5 (va_cpy (gB o2 7) (gB o0 7) 0 0 5), kJ G (q0 8) 6 (va_cpy (gB o2 8) (gB o0 8) 0 0 6), kI G (q0 10) 5 (gA o0 10), ((q0 9), .inr (1, [.int (gI u1 0), .int (gI u1 1), .int (gI u1 2), .int (gI u1 3), .int (gI u1 4), .int (gI u1 5), .int (gI u1 6)])), (h2, .inr (5, [.ref (r2 0), .int (gI o2 1), .int (gI o2 2), .ref (q2 3), .ref (q2 4), .ref (q2 5), .ref (q2 6), .ref (q2 7), .ref (q2 8), .ref (q2 9), .ref (q2 10), .int (gI o2 11), .int (gI o2 12)])), kI G (q2 3) 20 (gA o2 3), kI G (q2 4) 20 (gA o2 4), kI G (q2 5) 5 (gA o2 5), kJ G (q2 6) 5 (gB o2 6), kJ G (q2 7) 5 (gB o2 7), kJ G (q2 8) 6 (gB o2 8), kI G (q2 10) 5 (gA o2 10), ((q2 9), .inr (1, [.int (gI o3 0), .int (gI o3 1), .int (gI o3 2), .int (gI o3 3), .int (gI o3 4), .int (gI o3 5), .int (gI o3 6)]))] := hD
  refine lv_aload_n hx hb d_Mo_copy_138 rfl (lv_at hl 1 rfl) ?_
  refine va_get (D := G.1) (ci := 5) (v := .ref (q2 10)) (C := R_Mo) (T := T_Mo) (N := 13) hx hb hts i_Mo hown hK hP 9 rfl rfl 10 (by decide) (hts _ wf_Mo_38) (fun _ h9 => h9) rfl d_Mo_copy_139 ?_
  refine lv_iconst (v := (0 : Int32)) hx hb d_Mo_copy_142 (by decide) ?_
  refine lv_aload_n hx hb d_Mo_copy_143 rfl (lv_at hl 0 rfl) ?_
  refine va_get (D := G.1) (ci := 5) (v := .ref (q0 10)) (C := R_Mo) (T := T_Mo) (N := 13) hx hb hts i_Mo hown hK hP 0 rfl rfl 10 (by decide) (hts _ wf_Mo_38) (fun _ h9 => h9) rfl d_Mo_copy_144 ?_
  refine lv_iconst (v := (0 : Int32)) hx hb d_Mo_copy_147 (by decide) ?_
  refine lv_iconst (v := (5 : Int32)) hx hb d_Mo_copy_148 (by decide) ?_
  refine va_copyi hx hb (hml.trans hl.1.symm) hown (hts _ wm_Mo_62) (hts _ wac_n) (hts _ wac_s) (hts _ wac_i) hK hP hD hS 16 7 0 0 rfl rfl rfl rfl rfl (by decide) (by decide) (by decide) (by decide) (by decide) (fun _ _ => rfl) (Nat.le_of_ble_eq_true rfl) (Nat.le_of_ble_eq_true rfl) d_Mo_copy_149 (fun H locs hP hD hS => ?_)
  have hP : va_P G.1 CL [(h0, .inr (5, [.ref (r2 0), .int (gI o2 1), .int (gI o2 2), .ref (q0 3), .ref (q0 4), .ref (q0 5), .ref (q0 6), .ref (q0 7), .ref (q0 8), .ref (q0 9), .ref (q0 10), .int (gI o2 11), .int (gI o2 12)])), kI G (q0 3) 20 (va_cpy (gA o2 3) (gA o0 3) 0 0 20), kI G (q0 4) 20 (va_cpy (gA o2 4) (gA o0 4) 0 0 20), kI G (q0 5) 5 (va_cpy (gA o2 5) (gA o0 5) 0 0 5), kJ G (q0 6) 5 (va_cpy (gB o2 6) (gB o0 6) 0 0 5), kJ G (q0 7) 5 (va_cpy (gB o2 7) (gB o0 7) 0 0 5), kJ G (q0 8) 6 (va_cpy (gB o2 8) (gB o0 8) 0 0 6), kI G (q0 10) 5 (va_cpy (gA o2 10) (gA o0 10) 0 0 5), ((q0 9), .inr (1, [.int (gI u1 0), .int (gI u1 1), .int (gI u1 2), .int (gI u1 3), .int (gI u1 4), .int (gI u1 5), .int (gI u1 6)])), (h2, .inr (5, [.ref (r2 0), .int (gI o2 1), .int (gI o2 2), .ref (q2 3), .ref (q2 4), .ref (q2 5), .ref (q2 6), .ref (q2 7), .ref (q2 8), .ref (q2 9), .ref (q2 10), .int (gI o2 11), .int (gI o2 12)])), kI G (q2 3) 20 (gA o2 3), kI G (q2 4) 20 (gA o2 4), kI G (q2 5) 5 (gA o2 5), kJ G (q2 6) 5 (gB o2 6), kJ G (q2 7) 5 (gB o2 7), kJ G (q2 8) 6 (gB o2 8), kI G (q2 10) 5 (gA o2 10), ((q2 9), .inr (1, [.int (gI o3 0), .int (gI o3 1), .int (gI o3 2), .int (gI o3 3), .int (gI o3 4), .int (gI o3 5), .int (gI o3 6)]))] H := hP
  have hD : va_D A [(h0, .inr (5, [.ref (r2 0), .int (gI o2 1), .int (gI o2 2), .ref (q0 3), .ref (q0 4), .ref (q0 5), .ref (q0 6), .ref (q0 7), .ref (q0 8), .ref (q0 9), .ref (q0 10), .int (gI o2 11), .int (gI o2 12)])), kI G (q0 3) 20 (va_cpy (gA o2 3) (gA o0 3) 0 0 20), kI G (q0 4) 20 (va_cpy (gA o2 4) (gA o0 4) 0 0 20), kI G (q0 5) 5 (va_cpy (gA o2 5) (gA o0 5) 0 0 5), kJ G (q0 6) 5 (va_cpy (gB o2 6) (gB o0 6) 0 0 5), kJ G (q0 7) 5 (va_cpy (gB o2 7) (gB o0 7) 0 0 5), kJ G (q0 8) 6 (va_cpy (gB o2 8) (gB o0 8) 0 0 6), kI G (q0 10) 5 (va_cpy (gA o2 10) (gA o0 10) 0 0 5), ((q0 9), .inr (1, [.int (gI u1 0), .int (gI u1 1), .int (gI u1 2), .int (gI u1 3), .int (gI u1 4), .int (gI u1 5), .int (gI u1 6)])), (h2, .inr (5, [.ref (r2 0), .int (gI o2 1), .int (gI o2 2), .ref (q2 3), .ref (q2 4), .ref (q2 5), .ref (q2 6), .ref (q2 7), .ref (q2 8), .ref (q2 9), .ref (q2 10), .int (gI o2 11), .int (gI o2 12)])), kI G (q2 3) 20 (gA o2 3), kI G (q2 4) 20 (gA o2 4), kI G (q2 5) 5 (gA o2 5), kJ G (q2 6) 5 (gB o2 6), kJ G (q2 7) 5 (gB o2 7), kJ G (q2 8) 6 (gB o2 8), kI G (q2 10) 5 (gA o2 10), ((q2 9), .inr (1, [.int (gI o3 0), .int (gI o3 1), .int (gI o3 2), .int (gI o3 3), .int (gI o3 4), .int (gI o3 5), .int (gI o3 6)]))] := hD
  have hP : va_P G.1 CL (cw_Mo G h0 q0 (up r0 0 (r2 0)) (sB (sB (sB (sA (sA (sA (sA (sI (sI (sI (sI o0 1 (gI o2 1)) 2 (gI o2 2)) 11 (gI o2 11)) 12 (gI o2 12)) 3 (va_cpy (gA o2 3) (gA o0 3) 0 0 20)) 4 (va_cpy (gA o2 4) (gA o0 4) 0 0 20)) 5 (va_cpy (gA o2 5) (gA o0 5) 0 0 5)) 10 (va_cpy (gA o2 10) (gA o0 10) 0 0 5)) 6 (va_cpy (gB o2 6) (gB o0 6) 0 0 5)) 7 (va_cpy (gB o2 7) (gB o0 7) 0 0 5)) 8 (va_cpy (gB o2 8) (gB o0 8) 0 0 6)) ++ (cw_Fo G (q0 9) q1 u1 ++ (cw_Mo G h2 q2 r2 o2 ++ (cw_Fo G (q2 9) q3 o3)))) H := hP
  have hD : va_D A (cw_Mo G h0 q0 (up r0 0 (r2 0)) (sB (sB (sB (sA (sA (sA (sA (sI (sI (sI (sI o0 1 (gI o2 1)) 2 (gI o2 2)) 11 (gI o2 11)) 12 (gI o2 12)) 3 (va_cpy (gA o2 3) (gA o0 3) 0 0 20)) 4 (va_cpy (gA o2 4) (gA o0 4) 0 0 20)) 5 (va_cpy (gA o2 5) (gA o0 5) 0 0 5)) 10 (va_cpy (gA o2 10) (gA o0 10) 0 0 5)) 6 (va_cpy (gB o2 6) (gB o0 6) 0 0 5)) 7 (va_cpy (gB o2 7) (gB o0 7) 0 0 5)) 8 (va_cpy (gB o2 8) (gB o0 8) 0 0 6)) ++ (cw_Fo G (q0 9) q1 u1 ++ (cw_Mo G h2 q2 r2 o2 ++ (cw_Fo G (q2 9) q3 o3)))) := hD
  exact W.vret hx hb hr (fun t ht hW => ⟨⟨((up r0 0 (r2 0)), (sB (sB (sB (sA (sA (sA (sA (sI (sI (sI (sI o0 1 (gI o2 1)) 2 (gI o2 2)) 11 (gI o2 11)) 12 (gI o2 12)) 3 (va_cpy (gA o2 3) (gA o0 3) 0 0 20)) 4 (va_cpy (gA o2 4) (gA o0 4) 0 0 20)) 5 (va_cpy (gA o2 5) (gA o0 5) 0 0 5)) 10 (va_cpy (gA o2 10) (gA o0 10) 0 0 5)) 6 (va_cpy (gB o2 6) (gB o0 6) 0 0 5)) 7 (va_cpy (gB o2 7) (gB o0 7) 0 0 5)) 8 (va_cpy (gB o2 8) (gB o0 8) 0 0 6)), u1), rfl, h, by rw [ht]; exact hP, va_K.moved hW.alike hK, hD⟩, hS.F ht⟩) hS.2.2 d_Mo_copy_152
