abbrev b_PV_isPiece : ByteArray := prog_1_method_31_code
def y_PV_isPiece : MethodName := ⟨R_PV, "isPiece", "(I)Z"⟩
abbrev w_PV_isPiece : List Cond := Cond.code y_PV_isPiece b_PV_isPiece 2 (some .boolean) :: gw_tbl
theorem d_PV_isPiece_0 : decode b_PV_isPiece 0 = .ok (.iload_n 1, 1) := by decide +kernel
theorem d_PV_isPiece_1 : decode b_PV_isPiece 1 = .ok (.ifCond .lt 15, 3) := by decide +kernel
theorem d_PV_isPiece_4 : decode b_PV_isPiece 4 = .ok (.iload_n 1, 1) := by decide +kernel
theorem d_PV_isPiece_5 : decode b_PV_isPiece 5 = .ok (.aload_n 0, 1) := by decide +kernel
theorem d_PV_isPiece_6 : decode b_PV_isPiece 6 = .ok (.getfield 18, 3) := by decide +kernel
theorem d_PV_isPiece_9 : decode b_PV_isPiece 9 = .ok (.if_icmp .ge 7, 3) := by decide +kernel
theorem d_PV_isPiece_12 : decode b_PV_isPiece 12 = .ok (.iconst 1, 1) := by decide +kernel
theorem d_PV_isPiece_13 : decode b_PV_isPiece 13 = .ok (.goto 4, 3) := by decide +kernel
theorem d_PV_isPiece_16 : decode b_PV_isPiece 16 = .ok (.iconst 0, 1) := by decide +kernel
theorem d_PV_isPiece_17 : decode b_PV_isPiece 17 = .ok (.ireturn, 1) := by decide +kernel
theorem wf_PV_18 : Cond.fieldLink R_PV 18 R_PV "pieces" "I" ∈ gw_tbl := gw_tb (List.mem_of_getElem? (i := 438) (by decide +kernel)) rfl
def f_PV_isPiece (a0 : Int32) (o0 : Ob) (Q : Int32 → Prop) : Prop := (a0 < 0 → (Q (0 : Int32))) ∧ (¬ a0 < 0 → (((gI o0 0) ≤ a0 → (Q (0 : Int32))) ∧ (¬ (gI o0 0) ≤ a0 → (Q (1 : Int32)))))
abbrev rm_PV_isPiece : Room := { frames := 0, cells := 0, slots := 0, locals := 0 }
set_option maxHeartbeats 4000000 in
set_option maxRecDepth 100000 in
theorem c_PV_isPiece {l : Launch} {G : Gl} {h0 : Nat} {q0 : Nat → Nat} {a0 : Int32} {o0 : Ob} {Q : Int32 → Prop} (sz : Nat) (h : f_PV_isPiece a0 o0 Q) : Met l y_PV_isPiece w_PV_isPiece rm_PV_isPiece (PcW G [.ref h0, .int a0] sz (cw_PV G h0 q0 o0)) (va_Qi (fun (r : Int32) (u : Unit) => Q r) (fun (u : Unit) t => BW G (va_A (cw_PV G h0 q0 o0) sz) (cw_PV G h0 q0 o0) t) (va_A (cw_PV G h0 q0 o0) sz)) 0 0 (va_A (cw_PV G h0 q0 o0) sz) := by
  refine Met.ofW (cc := b_PV_isPiece) (maxL := 2) (ret := (some .boolean)) (by decide +kernel) rfl ?_
  intro p e s m args below meth c s₁ B hml hv
  obtain ⟨rfl, hsz, hP, hK, hD0, hE⟩ := hv
  have hx := B.exec
  have hb := B.bytes
  have hr := B.returns
  have hts0 := atoms_spec (ws := w_PV_isPiece) B.pre
  have hts : ∀ w ∈ gw_tbl, w.before ([.ref h0, .int a0]).toArray s = true := fun w hw => hts0 w (List.mem_cons_of_mem _ hw)
  have hown : s.vm.findClass R_PV = some m.cls := findClass_of_methodNamed B.named
  have hlocks := B.notSynchronized
  subst hsz
  have hD := hD0.self (sz := s.heap.size)
  generalize hAe : va_A (cw_PV G h0 q0 o0) s.heap.size = A at hD hE ⊢
  have hA : ∀ q : Nat, s.heap.size ≤ q → A q := fun q h => by rw [← hAe]; exact Or.inr h
  have hS : va_S A s.heap s.heap [] := va_S.rf
  have C : Cx p s m ([.ref h0, .int a0]).toArray meth c R_PV b_PV_isPiece 2 (some .boolean) G A := ⟨hx, hb, hml, hown, hr, hts, hK, hA, hlocks, hE⟩
  have hl := lv_entry ([.ref h0, .int a0]) (n := 2) (Nat.le_of_ble_eq_true rfl)
  rw [lg_entry_eq]
  generalize (lg_sl ([.ref h0, .int a0]) ++ List.replicate (2 - (lg_sl ([.ref h0, .int a0])).length) Slot.unset).toArray = ls at hl ⊢
  have hl : lv_has ls 2 [(0, .ref h0), (1, .int a0)] := hl
  have hD : va_D A [(h0, .inr (0, [.int (gI o0 0), .ref (q0 1), .ref (q0 2), .ref (q0 3), .ref (q0 4), .ref (q0 5), .ref (q0 6), .ref (q0 7), .ref (q0 8), .ref (q0 9), .ref (q0 10), .ref (q0 11), .ref (q0 12), .ref (q0 13)])), kQ G (q0 3) 3 (fun i => some (q0 (50 + i))), kI G (q0 6) 1000 (gA o0 6), kJ G (q0 7) 2000 (gB o0 7), kI G (q0 13) 5 (gA o0 13)] := hD
  unfold f_PV_isPiece at h
  suffices key : ∀ (H : Heap) (locs : List Loc), va_P G.1 CL [(h0, .inr (0, [.int (gI o0 0), .ref (q0 1), .ref (q0 2), .ref (q0 3), .ref (q0 4), .ref (q0 5), .ref (q0 6), .ref (q0 7), .ref (q0 8), .ref (q0 9), .ref (q0 10), .ref (q0 11), .ref (q0 12), .ref (q0 13)])), kQ G (q0 3) 3 (fun i => some (q0 (50 + i))), kI G (q0 6) 1000 (gA o0 6), kJ G (q0 7) 2000 (gB o0 7), kI G (q0 13) 5 (gA o0 13)] H → va_S A s.heap H locs → W p l e rm_PV_isPiece s m ([.ref h0, .int a0]).toArray below meth c H locs 0 0 (MQ below (va_Qi (fun (r : Int32) (u : Unit) => Q r) (fun (u : Unit) t => BW G A (cw_PV G h0 q0 o0) t) A) ([.ref h0, .int a0]).toArray s 0 0 A) (F0 m 0 ls []) from key s.heap [] hP hS
  intro H locs hP hS
  refine lv_iload_n hx hb d_PV_isPiece_0 rfl (lv_at hl 1 rfl) ?_
  refine lv_if_lt (tgt := 16) hx hb d_PV_isPiece_1 (by decide) (fun c1 => ?_) (fun c1 => ?_)
  · have h := h.1 c1
    refine lv_iconst (v := (0 : Int32)) hx hb d_PV_isPiece_16 (by decide) ?_
    have hP : va_P G.1 CL (cw_PV G h0 q0 o0) H := hP
    have hD : va_D A (cw_PV G h0 q0 o0) := hD
    exact W.zret (v := (0 : Int32)) hx hb hr rfl (fun t ht hW => ⟨⟨(0 : Int32), (), rfl, h, by rw [ht]; exact hP, va_K.moved hW.alike hK, hD⟩, hS.F ht⟩) hS.2.2 d_PV_isPiece_17
  · have h := h.2 c1
    refine lv_iload_n hx hb d_PV_isPiece_4 rfl (lv_at hl 1 rfl) ?_
    refine lv_aload_n hx hb d_PV_isPiece_5 rfl (lv_at hl 0 rfl) ?_
    refine va_get (D := G.1) (ci := 0) (v := .int (gI o0 0)) (C := R_PV) (T := T_PV) (N := 14) hx hb hts i_PV hown hK hP 0 rfl rfl 0 (by decide) (hts _ wf_PV_18) (fun _ h9 => h9) rfl d_PV_isPiece_6 ?_
    refine lv_icmp_ge (tgt := 16) hx hb d_PV_isPiece_9 (by decide) (fun c2 => ?_) (fun c2 => ?_)
    · have h := h.1 c2
      refine lv_iconst (v := (0 : Int32)) hx hb d_PV_isPiece_16 (by decide) ?_
      have hP : va_P G.1 CL (cw_PV G h0 q0 o0) H := hP
      have hD : va_D A (cw_PV G h0 q0 o0) := hD
      exact W.zret (v := (0 : Int32)) hx hb hr rfl (fun t ht hW => ⟨⟨(0 : Int32), (), rfl, h, by rw [ht]; exact hP, va_K.moved hW.alike hK, hD⟩, hS.F ht⟩) hS.2.2 d_PV_isPiece_17
    · have h := h.2 c2
      refine lv_iconst (v := (1 : Int32)) hx hb d_PV_isPiece_12 (by decide) ?_
      refine lv_goto (tgt := 17) hx hb d_PV_isPiece_13 (by decide) ?_
      have hP : va_P G.1 CL (cw_PV G h0 q0 o0) H := hP
      have hD : va_D A (cw_PV G h0 q0 o0) := hD
      exact W.zret (v := (1 : Int32)) hx hb hr rfl (fun t ht hW => ⟨⟨(1 : Int32), (), rfl, h, by rw [ht]; exact hP, va_K.moved hW.alike hK, hD⟩, hS.F ht⟩) hS.2.2 d_PV_isPiece_17
abbrev b_PV_isSound : ByteArray := prog_1_method_32_code
def y_PV_isSound : MethodName := ⟨R_PV, "isSound", "(I)Z"⟩
abbrev w_PV_isSound : List Cond := Cond.code y_PV_isSound b_PV_isSound 1 (some .boolean) :: gw_tbl
theorem d_PV_isSound_0 : decode b_PV_isSound 0 = .ok (.iload_n 0, 1) := by decide +kernel
theorem d_PV_isSound_1 : decode b_PV_isSound 1 = .ok (.ifCond .lt 13, 3) := by decide +kernel
theorem d_PV_isSound_4 : decode b_PV_isSound 4 = .ok (.iload_n 0, 1) := by decide +kernel
theorem d_PV_isSound_5 : decode b_PV_isSound 5 = .ok (.bipush 8, 2) := by decide +kernel
theorem d_PV_isSound_7 : decode b_PV_isSound 7 = .ok (.if_icmp .ge 7, 3) := by decide +kernel
theorem d_PV_isSound_10 : decode b_PV_isSound 10 = .ok (.iconst 1, 1) := by decide +kernel
theorem d_PV_isSound_11 : decode b_PV_isSound 11 = .ok (.goto 4, 3) := by decide +kernel
theorem d_PV_isSound_14 : decode b_PV_isSound 14 = .ok (.iconst 0, 1) := by decide +kernel
theorem d_PV_isSound_15 : decode b_PV_isSound 15 = .ok (.ireturn, 1) := by decide +kernel
def f_PV_isSound (a0 : Int32) (Q : Int32 → Prop) : Prop := (a0 < 0 → (Q (0 : Int32))) ∧ (¬ a0 < 0 → (((8 : Int32) ≤ a0 → (Q (0 : Int32))) ∧ (¬ (8 : Int32) ≤ a0 → (Q (1 : Int32)))))
abbrev rm_PV_isSound : Room := { frames := 0, cells := 0, slots := 0, locals := 0 }
set_option maxHeartbeats 4000000 in
set_option maxRecDepth 100000 in
theorem c_PV_isSound {l : Launch} {G : Gl} {a0 : Int32} {Q : Int32 → Prop} (sz : Nat) (h : f_PV_isSound a0 Q) : Met l y_PV_isSound w_PV_isSound rm_PV_isSound (PcW G [.int a0] sz ([])) (va_Qi (fun (r : Int32) (u : Unit) => Q r) (fun (u : Unit) t => BW G (va_A ([]) sz) ([]) t) (va_A ([]) sz)) 0 0 (va_A ([]) sz) := by
  refine Met.ofW (cc := b_PV_isSound) (maxL := 1) (ret := (some .boolean)) (by decide +kernel) rfl ?_
  intro p e s m args below meth c s₁ B hml hv
  obtain ⟨rfl, hsz, hP, hK, hD0, hE⟩ := hv
  have hx := B.exec
  have hb := B.bytes
  have hr := B.returns
  have hts0 := atoms_spec (ws := w_PV_isSound) B.pre
  have hts : ∀ w ∈ gw_tbl, w.before ([.int a0]).toArray s = true := fun w hw => hts0 w (List.mem_cons_of_mem _ hw)
  have hown : s.vm.findClass R_PV = some m.cls := findClass_of_methodNamed B.named
  have hlocks := B.notSynchronized
  subst hsz
  have hD := hD0.self (sz := s.heap.size)
  generalize hAe : va_A ([]) s.heap.size = A at hD hE ⊢
  have hA : ∀ q : Nat, s.heap.size ≤ q → A q := fun q h => by rw [← hAe]; exact Or.inr h
  have hS : va_S A s.heap s.heap [] := va_S.rf
  have C : Cx p s m ([.int a0]).toArray meth c R_PV b_PV_isSound 1 (some .boolean) G A := ⟨hx, hb, hml, hown, hr, hts, hK, hA, hlocks, hE⟩
  have hl := lv_entry ([.int a0]) (n := 1) (Nat.le_of_ble_eq_true rfl)
  rw [lg_entry_eq]
  generalize (lg_sl ([.int a0]) ++ List.replicate (1 - (lg_sl ([.int a0])).length) Slot.unset).toArray = ls at hl ⊢
  have hl : lv_has ls 1 [(0, .int a0)] := hl
  have hD : va_D A [] := hD
  unfold f_PV_isSound at h
  suffices key : ∀ (H : Heap) (locs : List Loc), va_P G.1 CL [] H → va_S A s.heap H locs → W p l e rm_PV_isSound s m ([.int a0]).toArray below meth c H locs 0 0 (MQ below (va_Qi (fun (r : Int32) (u : Unit) => Q r) (fun (u : Unit) t => BW G A ([]) t) A) ([.int a0]).toArray s 0 0 A) (F0 m 0 ls []) from key s.heap [] hP hS
  intro H locs hP hS
  refine lv_iload_n hx hb d_PV_isSound_0 rfl (lv_at hl 0 rfl) ?_
  refine lv_if_lt (tgt := 14) hx hb d_PV_isSound_1 (by decide) (fun c1 => ?_) (fun c1 => ?_)
  · have h := h.1 c1
    refine lv_iconst (v := (0 : Int32)) hx hb d_PV_isSound_14 (by decide) ?_
    have hP : va_P G.1 CL ([]) H := hP
    have hD : va_D A ([]) := hD
    exact W.zret (v := (0 : Int32)) hx hb hr rfl (fun t ht hW => ⟨⟨(0 : Int32), (), rfl, h, by rw [ht]; exact hP, va_K.moved hW.alike hK, hD⟩, hS.F ht⟩) hS.2.2 d_PV_isSound_15
  · have h := h.2 c1
    refine lv_iload_n hx hb d_PV_isSound_4 rfl (lv_at hl 0 rfl) ?_
    refine lv_bipush (v := (8 : Int32)) hx hb d_PV_isSound_5 (by decide) ?_
    refine lv_icmp_ge (tgt := 14) hx hb d_PV_isSound_7 (by decide) (fun c2 => ?_) (fun c2 => ?_)
    · have h := h.1 c2
      refine lv_iconst (v := (0 : Int32)) hx hb d_PV_isSound_14 (by decide) ?_
      have hP : va_P G.1 CL ([]) H := hP
      have hD : va_D A ([]) := hD
      exact W.zret (v := (0 : Int32)) hx hb hr rfl (fun t ht hW => ⟨⟨(0 : Int32), (), rfl, h, by rw [ht]; exact hP, va_K.moved hW.alike hK, hD⟩, hS.F ht⟩) hS.2.2 d_PV_isSound_15
    · have h := h.2 c2
      refine lv_iconst (v := (1 : Int32)) hx hb d_PV_isSound_10 (by decide) ?_
      refine lv_goto (tgt := 15) hx hb d_PV_isSound_11 (by decide) ?_
      have hP : va_P G.1 CL ([]) H := hP
      have hD : va_D A ([]) := hD
      exact W.zret (v := (1 : Int32)) hx hb hr rfl (fun t ht hW => ⟨⟨(1 : Int32), (), rfl, h, by rw [ht]; exact hP, va_K.moved hW.alike hK, hD⟩, hS.F ht⟩) hS.2.2 d_PV_isSound_15
abbrev b_PV_isBreath : ByteArray := prog_1_method_33_code
def y_PV_isBreath : MethodName := ⟨R_PV, "isBreath", "(I)Z"⟩
abbrev w_PV_isBreath : List Cond := Cond.code y_PV_isBreath b_PV_isBreath 1 (some .boolean) :: gw_tbl
theorem d_PV_isBreath_0 : decode b_PV_isBreath 0 = .ok (.iload_n 0, 1) := by decide +kernel
theorem d_PV_isBreath_1 : decode b_PV_isBreath 1 = .ok (.ifCond .lt 13, 3) := by decide +kernel
theorem d_PV_isBreath_4 : decode b_PV_isBreath 4 = .ok (.iload_n 0, 1) := by decide +kernel
theorem d_PV_isBreath_5 : decode b_PV_isBreath 5 = .ok (.bipush 40, 2) := by decide +kernel
theorem d_PV_isBreath_7 : decode b_PV_isBreath 7 = .ok (.if_icmp .gt 7, 3) := by decide +kernel
theorem d_PV_isBreath_10 : decode b_PV_isBreath 10 = .ok (.iconst 1, 1) := by decide +kernel
theorem d_PV_isBreath_11 : decode b_PV_isBreath 11 = .ok (.goto 4, 3) := by decide +kernel
theorem d_PV_isBreath_14 : decode b_PV_isBreath 14 = .ok (.iconst 0, 1) := by decide +kernel
theorem d_PV_isBreath_15 : decode b_PV_isBreath 15 = .ok (.ireturn, 1) := by decide +kernel
def f_PV_isBreath (a0 : Int32) (Q : Int32 → Prop) : Prop := (a0 < 0 → (Q (0 : Int32))) ∧ (¬ a0 < 0 → (((40 : Int32) < a0 → (Q (0 : Int32))) ∧ (¬ (40 : Int32) < a0 → (Q (1 : Int32)))))
abbrev rm_PV_isBreath : Room := { frames := 0, cells := 0, slots := 0, locals := 0 }
set_option maxHeartbeats 4000000 in
set_option maxRecDepth 100000 in
theorem c_PV_isBreath {l : Launch} {G : Gl} {a0 : Int32} {Q : Int32 → Prop} (sz : Nat) (h : f_PV_isBreath a0 Q) : Met l y_PV_isBreath w_PV_isBreath rm_PV_isBreath (PcW G [.int a0] sz ([])) (va_Qi (fun (r : Int32) (u : Unit) => Q r) (fun (u : Unit) t => BW G (va_A ([]) sz) ([]) t) (va_A ([]) sz)) 0 0 (va_A ([]) sz) := by
  refine Met.ofW (cc := b_PV_isBreath) (maxL := 1) (ret := (some .boolean)) (by decide +kernel) rfl ?_
  intro p e s m args below meth c s₁ B hml hv
  obtain ⟨rfl, hsz, hP, hK, hD0, hE⟩ := hv
  have hx := B.exec
  have hb := B.bytes
  have hr := B.returns
  have hts0 := atoms_spec (ws := w_PV_isBreath) B.pre
  have hts : ∀ w ∈ gw_tbl, w.before ([.int a0]).toArray s = true := fun w hw => hts0 w (List.mem_cons_of_mem _ hw)
  have hown : s.vm.findClass R_PV = some m.cls := findClass_of_methodNamed B.named
  have hlocks := B.notSynchronized
  subst hsz
  have hD := hD0.self (sz := s.heap.size)
  generalize hAe : va_A ([]) s.heap.size = A at hD hE ⊢
  have hA : ∀ q : Nat, s.heap.size ≤ q → A q := fun q h => by rw [← hAe]; exact Or.inr h
  have hS : va_S A s.heap s.heap [] := va_S.rf
  have C : Cx p s m ([.int a0]).toArray meth c R_PV b_PV_isBreath 1 (some .boolean) G A := ⟨hx, hb, hml, hown, hr, hts, hK, hA, hlocks, hE⟩
  have hl := lv_entry ([.int a0]) (n := 1) (Nat.le_of_ble_eq_true rfl)
  rw [lg_entry_eq]
  generalize (lg_sl ([.int a0]) ++ List.replicate (1 - (lg_sl ([.int a0])).length) Slot.unset).toArray = ls at hl ⊢
  have hl : lv_has ls 1 [(0, .int a0)] := hl
  have hD : va_D A [] := hD
  unfold f_PV_isBreath at h
  suffices key : ∀ (H : Heap) (locs : List Loc), va_P G.1 CL [] H → va_S A s.heap H locs → W p l e rm_PV_isBreath s m ([.int a0]).toArray below meth c H locs 0 0 (MQ below (va_Qi (fun (r : Int32) (u : Unit) => Q r) (fun (u : Unit) t => BW G A ([]) t) A) ([.int a0]).toArray s 0 0 A) (F0 m 0 ls []) from key s.heap [] hP hS
  intro H locs hP hS
  refine lv_iload_n hx hb d_PV_isBreath_0 rfl (lv_at hl 0 rfl) ?_
  refine lv_if_lt (tgt := 14) hx hb d_PV_isBreath_1 (by decide) (fun c1 => ?_) (fun c1 => ?_)
  · have h := h.1 c1
    refine lv_iconst (v := (0 : Int32)) hx hb d_PV_isBreath_14 (by decide) ?_
    have hP : va_P G.1 CL ([]) H := hP
    have hD : va_D A ([]) := hD
    exact W.zret (v := (0 : Int32)) hx hb hr rfl (fun t ht hW => ⟨⟨(0 : Int32), (), rfl, h, by rw [ht]; exact hP, va_K.moved hW.alike hK, hD⟩, hS.F ht⟩) hS.2.2 d_PV_isBreath_15
  · have h := h.2 c1
    refine lv_iload_n hx hb d_PV_isBreath_4 rfl (lv_at hl 0 rfl) ?_
    refine lv_bipush (v := (40 : Int32)) hx hb d_PV_isBreath_5 (by decide) ?_
    refine lv_icmp_gt (tgt := 14) hx hb d_PV_isBreath_7 (by decide) (fun c2 => ?_) (fun c2 => ?_)
    · have h := h.1 c2
      refine lv_iconst (v := (0 : Int32)) hx hb d_PV_isBreath_14 (by decide) ?_
      have hP : va_P G.1 CL ([]) H := hP
      have hD : va_D A ([]) := hD
      exact W.zret (v := (0 : Int32)) hx hb hr rfl (fun t ht hW => ⟨⟨(0 : Int32), (), rfl, h, by rw [ht]; exact hP, va_K.moved hW.alike hK, hD⟩, hS.F ht⟩) hS.2.2 d_PV_isBreath_15
    · have h := h.2 c2
      refine lv_iconst (v := (1 : Int32)) hx hb d_PV_isBreath_10 (by decide) ?_
      refine lv_goto (tgt := 15) hx hb d_PV_isBreath_11 (by decide) ?_
      have hP : va_P G.1 CL ([]) H := hP
      have hD : va_D A ([]) := hD
      exact W.zret (v := (1 : Int32)) hx hb hr rfl (fun t ht hW => ⟨⟨(1 : Int32), (), rfl, h, by rw [ht]; exact hP, va_K.moved hW.alike hK, hD⟩, hS.F ht⟩) hS.2.2 d_PV_isBreath_15
abbrev b_PV_countShapes : ByteArray := prog_1_method_35_code
def y_PV_countShapes : MethodName := ⟨R_PV, "countShapes", "()I"⟩
abbrev w_PV_countShapes : List Cond := Cond.code y_PV_countShapes b_PV_countShapes 3 (some .int) :: gw_tbl
theorem d_PV_countShapes_0 : decode b_PV_countShapes 0 = .ok (.iconst 1, 1) := by decide +kernel
theorem d_PV_countShapes_1 : decode b_PV_countShapes 1 = .ok (.istore_n 1, 1) := by decide +kernel
theorem d_PV_countShapes_2 : decode b_PV_countShapes 2 = .ok (.iconst 0, 1) := by decide +kernel
theorem d_PV_countShapes_3 : decode b_PV_countShapes 3 = .ok (.istore_n 2, 1) := by decide +kernel
theorem d_PV_countShapes_4 : decode b_PV_countShapes 4 = .ok (.iload_n 2, 1) := by decide +kernel
theorem d_PV_countShapes_5 : decode b_PV_countShapes 5 = .ok (.aload_n 0, 1) := by decide +kernel
theorem d_PV_countShapes_6 : decode b_PV_countShapes 6 = .ok (.getfield 18, 3) := by decide +kernel
theorem d_PV_countShapes_9 : decode b_PV_countShapes 9 = .ok (.if_icmp .ge 24, 3) := by decide +kernel
theorem d_PV_countShapes_12 : decode b_PV_countShapes 12 = .ok (.iload_n 1, 1) := by decide +kernel
theorem d_PV_countShapes_13 : decode b_PV_countShapes 13 = .ok (.aload_n 0, 1) := by decide +kernel
theorem d_PV_countShapes_14 : decode b_PV_countShapes 14 = .ok (.getfield 50, 3) := by decide +kernel
theorem d_PV_countShapes_17 : decode b_PV_countShapes 17 = .ok (.getfield 259, 3) := by decide +kernel
theorem d_PV_countShapes_20 : decode b_PV_countShapes 20 = .ok (.iload_n 2, 1) := by decide +kernel
theorem d_PV_countShapes_21 : decode b_PV_countShapes 21 = .ok (.iaload, 1) := by decide +kernel
theorem d_PV_countShapes_22 : decode b_PV_countShapes 22 = .ok (.invokestatic 253, 3) := by decide +kernel
theorem d_PV_countShapes_25 : decode b_PV_countShapes 25 = .ok (.imul, 1) := by decide +kernel
theorem d_PV_countShapes_26 : decode b_PV_countShapes 26 = .ok (.istore_n 1, 1) := by decide +kernel
theorem d_PV_countShapes_27 : decode b_PV_countShapes 27 = .ok (.iinc 2 1, 3) := by decide +kernel
theorem d_PV_countShapes_30 : decode b_PV_countShapes 30 = .ok (.goto (-26), 3) := by decide +kernel
theorem d_PV_countShapes_33 : decode b_PV_countShapes 33 = .ok (.iload_n 1, 1) := by decide +kernel
theorem d_PV_countShapes_34 : decode b_PV_countShapes 34 = .ok (.ireturn, 1) := by decide +kernel
theorem wf_PV_50 : Cond.fieldLink R_PV 50 R_PV "now" "LPipeVoice$Moment;" ∈ gw_tbl := gw_tb (List.mem_of_getElem? (i := 442) (by decide +kernel)) rfl
theorem wf_PV_259 : Cond.fieldLink R_PV 259 R_Mo "grid" "[I" ∈ gw_tbl := gw_tb (List.mem_of_getElem? (i := 266) (by decide +kernel)) rfl
theorem ws_PV_253 : wS R_PV 253 y_Ig_bitCount b_Ig_bitCount 1 (some .int) 1 := ⟨⟨gw_tb (List.mem_of_getElem? (i := 808) (by decide +kernel)) rfl, gw_tb (List.mem_of_getElem? (i := 19) (by decide +kernel)) rfl, gw_tb (List.mem_of_getElem? (i := 810) (by decide +kernel)) rfl, by decide, by decide, by decide +kernel⟩, gw_tb (List.mem_of_getElem? (i := 809) (by decide +kernel)) rfl⟩
def f_PV_countShapes_4 (o0 : Ob) (r1 : (Nat → Nat)) (o1 : Ob) (Q : Int32 → Prop) : Nat → Int32 → Int32 → Prop
  | 0, _, _ => False
  | n + 1, x1, x2 => ((gI o0 0) ≤ x2 → (Q x1)) ∧ (¬ (gI o0 0) ≤ x2 → ((vp_in x2 5) ∧ (f_Ig_bitCount ((gA o1 10) x2.toNatClampNeg) (fun z3 => (f_PV_countShapes_4 o0 r1 o1 Q n) (x1 * z3) (x2 + (1 : Int32))))))
def f_PV_countShapes (o0 : Ob) (r1 : (Nat → Nat)) (o1 : Ob) (Q : Int32 → Prop) : Prop := (∃ w, f_PV_countShapes_4 o0 r1 o1 Q w (1 : Int32) (0 : Int32))
abbrev rm_PV_countShapes : Room := { frames := 1, cells := 0, slots := 0, locals := 20 }
set_option maxHeartbeats 4000000 in
set_option maxRecDepth 100000 in
theorem t_PV_countShapes_4 {p : Program} {l : Launch} {e : Env} {s : State} {m : MethodId} {args : Array Value} {below : List Frame} {meth : Method} {c : Code} {A : Nat → Prop} {G : Gl} {h0 : Nat} {q0 : Nat → Nat} {q1 : Nat → Nat} (o0 : Ob) (r1 : (Nat → Nat)) (o1 : Ob) (Q : Int32 → Prop) (C : Cx p s m args meth c R_PV b_PV_countShapes 3 (some .int) G A) :
    ∀ (n : Nat) (x1 : Int32) (x2 : Int32) (ls : Array Slot) (H : Heap) (locs : List Loc), lv_has ls 3 [(0, .ref h0), (1, .int x1), (2, .int x2)] → va_P G.1 CL (cw_PV G h0 q0 o0 ++ (cw_Mo G (q0 4) q1 r1 o1)) H → va_D A (cw_PV G h0 q0 o0 ++ (cw_Mo G (q0 4) q1 r1 o1)) → va_S A s.heap H locs → f_PV_countShapes_4 o0 r1 o1 Q n x1 x2 → W p l e rm_PV_countShapes s m args below meth c H locs 0 0 (MQ below (va_Qi (fun (r : Int32) (u : Unit) => Q r) (fun (u : Unit) t => BW G A (cw_PV G h0 q0 o0 ++ (cw_Mo G (q0 4) q1 r1 o1)) t) A) args s 0 0 A) (F0 m 4 ls []) := by
  obtain ⟨hx, hb, hml, hown, hr, hts, hK, hA, hlocks, hE⟩ := id C
  intro n
  induction n with
  | zero => intro x1 x2 ls H locs hl hP hD hS h; exact absurd h id
  | succ n ih =>
    intro x1 x2 ls H locs hl hP hD hS h
    have hP : va_P G.1 CL [(h0, .inr (0, [.int (gI o0 0), .ref (q0 1), .ref (q0 2), .ref (q0 3), .ref (q0 4), .ref (q0 5), .ref (q0 6), .ref (q0 7), .ref (q0 8), .ref (q0 9), .ref (q0 10), .ref (q0 11), .ref (q0 12), .ref (q0 13)])), kQ G (q0 3) 3 (fun i => some (q0 (50 + i))), kI G (q0 6) 1000 (gA o0 6), kJ G (q0 7) 2000 (gB o0 7), kI G (q0 13) 5 (gA o0 13), ((q0 4), .inr (5, [.ref (r1 0), .int (gI o1 1), .int (gI o1 2), .ref (q1 3), .ref (q1 4), .ref (q1 5), .ref (q1 6), .ref (q1 7), .ref (q1 8), .ref (q1 9), .ref (q1 10), .int (gI o1 11), .int (gI o1 12)])), kI G (q1 3) 20 (gA o1 3), kI G (q1 4) 20 (gA o1 4), kI G (q1 5) 5 (gA o1 5), kJ G (q1 6) 5 (gB o1 6), kJ G (q1 7) 5 (gB o1 7), kJ G (q1 8) 6 (gB o1 8), kI G (q1 10) 5 (gA o1 10)] H := hP
    have hD : va_D A [(h0, .inr (0, [.int (gI o0 0), .ref (q0 1), .ref (q0 2), .ref (q0 3), .ref (q0 4), .ref (q0 5), .ref (q0 6), .ref (q0 7), .ref (q0 8), .ref (q0 9), .ref (q0 10), .ref (q0 11), .ref (q0 12), .ref (q0 13)])), kQ G (q0 3) 3 (fun i => some (q0 (50 + i))), kI G (q0 6) 1000 (gA o0 6), kJ G (q0 7) 2000 (gB o0 7), kI G (q0 13) 5 (gA o0 13), ((q0 4), .inr (5, [.ref (r1 0), .int (gI o1 1), .int (gI o1 2), .ref (q1 3), .ref (q1 4), .ref (q1 5), .ref (q1 6), .ref (q1 7), .ref (q1 8), .ref (q1 9), .ref (q1 10), .int (gI o1 11), .int (gI o1 12)])), kI G (q1 3) 20 (gA o1 3), kI G (q1 4) 20 (gA o1 4), kI G (q1 5) 5 (gA o1 5), kJ G (q1 6) 5 (gB o1 6), kJ G (q1 7) 5 (gB o1 7), kJ G (q1 8) 6 (gB o1 8), kI G (q1 10) 5 (gA o1 10)] := hD
    unfold f_PV_countShapes_4 at h
    refine lv_iload_n hx hb d_PV_countShapes_4 rfl (lv_at hl 2 rfl) ?_
    refine lv_aload_n hx hb d_PV_countShapes_5 rfl (lv_at hl 0 rfl) ?_
    refine va_get (D := G.1) (ci := 0) (v := .int (gI o0 0)) (C := R_PV) (T := T_PV) (N := 14) hx hb hts i_PV hown hK hP 0 rfl rfl 0 (by decide) (hts _ wf_PV_18) (fun _ h9 => h9) rfl d_PV_countShapes_6 ?_
    refine lv_icmp_ge (tgt := 33) hx hb d_PV_countShapes_9 (by decide) (fun c1 => ?_) (fun c1 => ?_)
    · have h := h.1 c1
      refine lv_iload_n hx hb d_PV_countShapes_33 rfl (lv_at hl 1 rfl) ?_
      have hP : va_P G.1 CL (cw_PV G h0 q0 o0 ++ (cw_Mo G (q0 4) q1 r1 o1)) H := hP
      have hD : va_D A (cw_PV G h0 q0 o0 ++ (cw_Mo G (q0 4) q1 r1 o1)) := hD
      exact W.iret (v := x1) hx hb hr (fun t ht hW => ⟨⟨x1, (), rfl, h, by rw [ht]; exact hP, va_K.moved hW.alike hK, hD⟩, hS.F ht⟩) hS.2.2 d_PV_countShapes_34
    · have h := h.2 c1
      refine lv_iload_n hx hb d_PV_countShapes_12 rfl (lv_at hl 1 rfl) ?_
      refine lv_aload_n hx hb d_PV_countShapes_13 rfl (lv_at hl 0 rfl) ?_
      refine va_get (D := G.1) (ci := 0) (v := .ref (q0 4)) (C := R_PV) (T := T_PV) (N := 14) hx hb hts i_PV hown hK hP 0 rfl rfl 4 (by decide) (hts _ wf_PV_50) (fun _ h9 => h9) rfl d_PV_countShapes_14 ?_
      refine va_get (D := G.1) (ci := 5) (v := .ref (q1 10)) (C := R_Mo) (T := T_Mo) (N := 13) hx hb hts i_Mo hown hK hP 5 rfl rfl 10 (by decide) (hts _ wf_PV_259) (fun _ h9 => h9) rfl d_PV_countShapes_17 ?_
      refine lv_iload_n hx hb d_PV_countShapes_20 rfl (lv_at hl 2 rfl) ?_
      have g2 := h.1
      have h := h.2
      refine xa_iald hx hb hK hP 12 0 rfl rfl g2 (k := x2.toNatClampNeg) rfl d_PV_countShapes_21 ?_
      refine cl_Si (b := b_PV_countShapes) (As := [.int ((gA o1 10) x2.toNatClampNeg)]) (rest := [.int x1]) (ws := [(h0, .inr (0, [.int (gI o0 0), .ref (q0 1), .ref (q0 2), .ref (q0 3), .ref (q0 4), .ref (q0 5), .ref (q0 6), .ref (q0 7), .ref (q0 8), .ref (q0 9), .ref (q0 10), .ref (q0 11), .ref (q0 12), .ref (q0 13)])), kQ G (q0 3) 3 (fun i => some (q0 (50 + i))), kI G (q0 6) 1000 (gA o0 6), kJ G (q0 7) 2000 (gB o0 7), kI G (q0 13) 5 (gA o0 13), ((q0 4), .inr (5, [.ref (r1 0), .int (gI o1 1), .int (gI o1 2), .ref (q1 3), .ref (q1 4), .ref (q1 5), .ref (q1 6), .ref (q1 7), .ref (q1 8), .ref (q1 9), .ref (q1 10), .int (gI o1 11), .int (gI o1 12)])), kI G (q1 3) 20 (gA o1 3), kI G (q1 4) 20 (gA o1 4), kI G (q1 5) 5 (gA o1 5), kJ G (q1 6) 5 (gB o1 6), kJ G (q1 7) 5 (gB o1 7), kJ G (q1 8) 6 (gB o1 8), kI G (q1 10) 5 (gA o1 10)]) (wr := [(h0, .inr (0, [.int (gI o0 0), .ref (q0 1), .ref (q0 2), .ref (q0 3), .ref (q0 4), .ref (q0 5), .ref (q0 6), .ref (q0 7), .ref (q0 8), .ref (q0 9), .ref (q0 10), .ref (q0 11), .ref (q0 12), .ref (q0 13)])), kQ G (q0 3) 3 (fun i => some (q0 (50 + i))), kI G (q0 6) 1000 (gA o0 6), kJ G (q0 7) 2000 (gB o0 7), kI G (q0 13) 5 (gA o0 13), ((q0 4), .inr (5, [.ref (r1 0), .int (gI o1 1), .int (gI o1 2), .ref (q1 3), .ref (q1 4), .ref (q1 5), .ref (q1 6), .ref (q1 7), .ref (q1 8), .ref (q1 9), .ref (q1 10), .int (gI o1 11), .int (gI o1 12)])), kI G (q1 3) 20 (gA o1 3), kI G (q1 4) 20 (gA o1 4), kI G (q1 5) 5 (gA o1 5), kJ G (q1 6) 5 (gB o1 6), kJ G (q1 7) 5 (gB o1 7), kJ G (q1 8) 6 (gB o1 8), kI G (q1 10) 5 (gA o1 10)]) (w2 := fun (u : Unit) => [(h0, .inr (0, [.int (gI o0 0), .ref (q0 1), .ref (q0 2), .ref (q0 3), .ref (q0 4), .ref (q0 5), .ref (q0 6), .ref (q0 7), .ref (q0 8), .ref (q0 9), .ref (q0 10), .ref (q0 11), .ref (q0 12), .ref (q0 13)])), kQ G (q0 3) 3 (fun i => some (q0 (50 + i))), kI G (q0 6) 1000 (gA o0 6), kJ G (q0 7) 2000 (gB o0 7), kI G (q0 13) 5 (gA o0 13), ((q0 4), .inr (5, [.ref (r1 0), .int (gI o1 1), .int (gI o1 2), .ref (q1 3), .ref (q1 4), .ref (q1 5), .ref (q1 6), .ref (q1 7), .ref (q1 8), .ref (q1 9), .ref (q1 10), .int (gI o1 11), .int (gI o1 12)])), kI G (q1 3) 20 (gA o1 3), kI G (q1 4) 20 (gA o1 4), kI G (q1 5) 5 (gA o1 5), kJ G (q1 6) 5 (gB o1 6), kJ G (q1 7) 5 (gB o1 7), kJ G (q1 8) 6 (gB o1 8), kI G (q1 10) 5 (gA o1 10)]) C (c_Ig_bitCount H.size h) ws_PV_253 ⟨Nat.le_of_ble_eq_true rfl, Nat.le_of_ble_eq_true rfl⟩ hP hD hS [] [0, 1, 2, 3, 4, 5, 6, 7, 8, 9, 10, 11, 12] rfl rfl (by decide) (by decide) (by decide) [0, 1, 2, 3, 4, 5, 6, 7, 8, 9, 10, 11, 12] (by decide) (fun u => rfl) rfl hl.1 rfl (lv_room (Nat.le_of_ble_eq_true rfl)) d_PV_countShapes_22 ⟨Nat.le_of_ble_eq_true rfl, Nat.le_of_ble_eq_true rfl⟩ rfl rfl (fun z3 u H locs h hP hD hS => ?_)
      have hP : va_P G.1 CL [(h0, .inr (0, [.int (gI o0 0), .ref (q0 1), .ref (q0 2), .ref (q0 3), .ref (q0 4), .ref (q0 5), .ref (q0 6), .ref (q0 7), .ref (q0 8), .ref (q0 9), .ref (q0 10), .ref (q0 11), .ref (q0 12), .ref (q0 13)])), kQ G (q0 3) 3 (fun i => some (q0 (50 + i))), kI G (q0 6) 1000 (gA o0 6), kJ G (q0 7) 2000 (gB o0 7), kI G (q0 13) 5 (gA o0 13), ((q0 4), .inr (5, [.ref (r1 0), .int (gI o1 1), .int (gI o1 2), .ref (q1 3), .ref (q1 4), .ref (q1 5), .ref (q1 6), .ref (q1 7), .ref (q1 8), .ref (q1 9), .ref (q1 10), .int (gI o1 11), .int (gI o1 12)])), kI G (q1 3) 20 (gA o1 3), kI G (q1 4) 20 (gA o1 4), kI G (q1 5) 5 (gA o1 5), kJ G (q1 6) 5 (gB o1 6), kJ G (q1 7) 5 (gB o1 7), kJ G (q1 8) 6 (gB o1 8), kI G (q1 10) 5 (gA o1 10)] H := hP
      have hD : va_D A [(h0, .inr (0, [.int (gI o0 0), .ref (q0 1), .ref (q0 2), .ref (q0 3), .ref (q0 4), .ref (q0 5), .ref (q0 6), .ref (q0 7), .ref (q0 8), .ref (q0 9), .ref (q0 10), .ref (q0 11), .ref (q0 12), .ref (q0 13)])), kQ G (q0 3) 3 (fun i => some (q0 (50 + i))), kI G (q0 6) 1000 (gA o0 6), kJ G (q0 7) 2000 (gB o0 7), kI G (q0 13) 5 (gA o0 13), ((q0 4), .inr (5, [.ref (r1 0), .int (gI o1 1), .int (gI o1 2), .ref (q1 3), .ref (q1 4), .ref (q1 5), .ref (q1 6), .ref (q1 7), .ref (q1 8), .ref (q1 9), .ref (q1 10), .int (gI o1 11), .int (gI o1 12)])), kI G (q1 3) 20 (gA o1 3), kI G (q1 4) 20 (gA o1 4), kI G (q1 5) 5 (gA o1 5), kJ G (q1 6) 5 (gB o1 6), kJ G (q1 7) 5 (gB o1 7), kJ G (q1 8) 6 (gB o1 8), kI G (q1 10) 5 (gA o1 10)] := hD
      refine lv_imul hx hb d_PV_countShapes_25 ?_
      refine lv_istore_n (lv' := [(1, .int (x1 * z3)), (0, .ref h0), (2, .int x2)]) hx hb d_PV_countShapes_26 rfl hl (by decide) rfl (fun ls hl => ?_)
      refine lv_iinc (v := (x2 + (1 : Int32))) (lv' := [(2, .int (x2 + (1 : Int32))), (1, .int (x1 * z3)), (0, .ref h0)]) hx hb d_PV_countShapes_27 hl (k := 2) rfl rfl (by decide) rfl (fun ls hl => ?_)
      refine lv_goto (tgt := 4) hx hb d_PV_countShapes_30 (by decide) ?_
      have hl := lv_sub (l' := [(0, .ref h0), (1, .int (x1 * z3)), (2, .int (x2 + (1 : Int32)))]) hl [2, 1, 0] rfl
      have hP : va_P G.1 CL (cw_PV G h0 q0 o0 ++ (cw_Mo G (q0 4) q1 r1 o1)) H := hP
      have hD : va_D A (cw_PV G h0 q0 o0 ++ (cw_Mo G (q0 4) q1 r1 o1)) := hD
      exact ih (x1 * z3) (x2 + (1 : Int32)) ls H locs hl hP hD hS h
set_option maxHeartbeats 4000000 in
set_option maxRecDepth 100000 in
theorem c_PV_countShapes {l : Launch} {G : Gl} {h0 : Nat} {q0 : Nat → Nat} {q1 : Nat → Nat} {o0 : Ob} {r1 : (Nat → Nat)} {o1 : Ob} {Q : Int32 → Prop} (sz : Nat) (h : f_PV_countShapes o0 r1 o1 Q) : Met l y_PV_countShapes w_PV_countShapes rm_PV_countShapes (PcW G [.ref h0] sz (cw_PV G h0 q0 o0 ++ (cw_Mo G (q0 4) q1 r1 o1))) (va_Qi (fun (r : Int32) (u : Unit) => Q r) (fun (u : Unit) t => BW G (va_A (cw_PV G h0 q0 o0 ++ (cw_Mo G (q0 4) q1 r1 o1)) sz) (cw_PV G h0 q0 o0 ++ (cw_Mo G (q0 4) q1 r1 o1)) t) (va_A (cw_PV G h0 q0 o0 ++ (cw_Mo G (q0 4) q1 r1 o1)) sz)) 0 0 (va_A (cw_PV G h0 q0 o0 ++ (cw_Mo G (q0 4) q1 r1 o1)) sz) := by
  refine Met.ofW (cc := b_PV_countShapes) (maxL := 3) (ret := (some .int)) (by decide +kernel) rfl ?_
  intro p e s m args below meth c s₁ B hml hv
  obtain ⟨rfl, hsz, hP, hK, hD0, hE⟩ := hv
  have hx := B.exec
  have hb := B.bytes
  have hr := B.returns
  have hts0 := atoms_spec (ws := w_PV_countShapes) B.pre
  have hts : ∀ w ∈ gw_tbl, w.before ([.ref h0]).toArray s = true := fun w hw => hts0 w (List.mem_cons_of_mem _ hw)
  have hown : s.vm.findClass R_PV = some m.cls := findClass_of_methodNamed B.named
  have hlocks := B.notSynchronized
  subst hsz
  have hD := hD0.self (sz := s.heap.size)
  generalize hAe : va_A (cw_PV G h0 q0 o0 ++ (cw_Mo G (q0 4) q1 r1 o1)) s.heap.size = A at hD hE ⊢
  have hA : ∀ q : Nat, s.heap.size ≤ q → A q := fun q h => by rw [← hAe]; exact Or.inr h
  have hS : va_S A s.heap s.heap [] := va_S.rf
  have C : Cx p s m ([.ref h0]).toArray meth c R_PV b_PV_countShapes 3 (some .int) G A := ⟨hx, hb, hml, hown, hr, hts, hK, hA, hlocks, hE⟩
  have hl := lv_entry ([.ref h0]) (n := 3) (Nat.le_of_ble_eq_true rfl)
  rw [lg_entry_eq]
  generalize (lg_sl ([.ref h0]) ++ List.replicate (3 - (lg_sl ([.ref h0])).length) Slot.unset).toArray = ls at hl ⊢
  have hl : lv_has ls 3 [(0, .ref h0)] := hl
  have hD : va_D A [(h0, .inr (0, [.int (gI o0 0), .ref (q0 1), .ref (q0 2), .ref (q0 3), .ref (q0 4), .ref (q0 5), .ref (q0 6), .ref (q0 7), .ref (q0 8), .ref (q0 9), .ref (q0 10), .ref (q0 11), .ref (q0 12), .ref (q0 13)])), kQ G (q0 3) 3 (fun i => some (q0 (50 + i))), kI G (q0 6) 1000 (gA o0 6), kJ G (q0 7) 2000 (gB o0 7), kI G (q0 13) 5 (gA o0 13), ((q0 4), .inr (5, [.ref (r1 0), .int (gI o1 1), .int (gI o1 2), .ref (q1 3), .ref (q1 4), .ref (q1 5), .ref (q1 6), .ref (q1 7), .ref (q1 8), .ref (q1 9), .ref (q1 10), .int (gI o1 11), .int (gI o1 12)])), kI G (q1 3) 20 (gA o1 3), kI G (q1 4) 20 (gA o1 4), kI G (q1 5) 5 (gA o1 5), kJ G (q1 6) 5 (gB o1 6), kJ G (q1 7) 5 (gB o1 7), kJ G (q1 8) 6 (gB o1 8), kI G (q1 10) 5 (gA o1 10)] := hD
  unfold f_PV_countShapes at h
  suffices key : ∀ (H : Heap) (locs : List Loc), va_P G.1 CL [(h0, .inr (0, [.int (gI o0 0), .ref (q0 1), .ref (q0 2), .ref (q0 3), .ref (q0 4), .ref (q0 5), .ref (q0 6), .ref (q0 7), .ref (q0 8), .ref (q0 9), .ref (q0 10), .ref (q0 11), .ref (q0 12), .ref (q0 13)])), kQ G (q0 3) 3 (fun i => some (q0 (50 + i))), kI G (q0 6) 1000 (gA o0 6), kJ G (q0 7) 2000 (gB o0 7), kI G (q0 13) 5 (gA o0 13), ((q0 4), .inr (5, [.ref (r1 0), .int (gI o1 1), .int (gI o1 2), .ref (q1 3), .ref (q1 4), .ref (q1 5), .ref (q1 6), .ref (q1 7), .ref (q1 8), .ref (q1 9), .ref (q1 10), .int (gI o1 11), .int (gI o1 12)])), kI G (q1 3) 20 (gA o1 3), kI G (q1 4) 20 (gA o1 4), kI G (q1 5) 5 (gA o1 5), kJ G (q1 6) 5 (gB o1 6), kJ G (q1 7) 5 (gB o1 7), kJ G (q1 8) 6 (gB o1 8), kI G (q1 10) 5 (gA o1 10)] H → va_S A s.heap H locs → W p l e rm_PV_countShapes s m ([.ref h0]).toArray below meth c H locs 0 0 (MQ below (va_Qi (fun (r : Int32) (u : Unit) => Q r) (fun (u : Unit) t => BW G A (cw_PV G h0 q0 o0 ++ (cw_Mo G (q0 4) q1 r1 o1)) t) A) ([.ref h0]).toArray s 0 0 A) (F0 m 0 ls []) from key s.heap [] hP hS
  intro H locs hP hS
  refine lv_iconst (v := (1 : Int32)) hx hb d_PV_countShapes_0 (by decide) ?_
  refine lv_istore_n (lv' := [(1, .int (1 : Int32)), (0, .ref h0)]) hx hb d_PV_countShapes_1 rfl hl (by decide) rfl (fun ls hl => ?_)
  refine lv_iconst (v := (0 : Int32)) hx hb d_PV_countShapes_2 (by decide) ?_
  refine lv_istore_n (lv' := [(2, .int (0 : Int32)), (1, .int (1 : Int32)), (0, .ref h0)]) hx hb d_PV_countShapes_3 rfl hl (by decide) rfl (fun ls hl => ?_)
  have hl := lv_sub (l' := [(0, .ref h0), (1, .int (1 : Int32)), (2, .int (0 : Int32))]) hl [2, 1, 0] rfl
  have hP : va_P G.1 CL (cw_PV G h0 q0 o0 ++ (cw_Mo G (q0 4) q1 r1 o1)) H := hP
  have hD : va_D A (cw_PV G h0 q0 o0 ++ (cw_Mo G (q0 4) q1 r1 o1)) := hD
  obtain ⟨w, h⟩ := h
  exact t_PV_countShapes_4 o0 r1 o1 Q C w (1 : Int32) (0 : Int32) ls _ locs hl hP hD hS h
abbrev b_PV_askShape : ByteArray := prog_1_method_36_code
def y_PV_askShape : MethodName := ⟨R_PV, "askShape", "(IIIII)Z"⟩
abbrev w_PV_askShape : List Cond := Cond.code y_PV_askShape b_PV_askShape 7 (some .boolean) :: gw_tbl
theorem d_PV_askShape_0 : decode b_PV_askShape 0 = .ok (.aload_n 0, 1) := by decide +kernel
theorem d_PV_askShape_1 : decode b_PV_askShape 1 = .ok (.getfield 102, 3) := by decide +kernel
theorem d_PV_askShape_4 : decode b_PV_askShape 4 = .ok (.iconst 0, 1) := by decide +kernel
theorem d_PV_askShape_5 : decode b_PV_askShape 5 = .ok (.iload_n 1, 1) := by decide +kernel
theorem d_PV_askShape_6 : decode b_PV_askShape 6 = .ok (.iastore, 1) := by decide +kernel
theorem d_PV_askShape_7 : decode b_PV_askShape 7 = .ok (.aload_n 0, 1) := by decide +kernel
theorem d_PV_askShape_8 : decode b_PV_askShape 8 = .ok (.getfield 102, 3) := by decide +kernel
theorem d_PV_askShape_11 : decode b_PV_askShape 11 = .ok (.iconst 1, 1) := by decide +kernel
theorem d_PV_askShape_12 : decode b_PV_askShape 12 = .ok (.iload_n 2, 1) := by decide +kernel
theorem d_PV_askShape_13 : decode b_PV_askShape 13 = .ok (.iastore, 1) := by decide +kernel
theorem d_PV_askShape_14 : decode b_PV_askShape 14 = .ok (.aload_n 0, 1) := by decide +kernel
theorem d_PV_askShape_15 : decode b_PV_askShape 15 = .ok (.getfield 102, 3) := by decide +kernel
theorem d_PV_askShape_18 : decode b_PV_askShape 18 = .ok (.iconst 2, 1) := by decide +kernel
theorem d_PV_askShape_19 : decode b_PV_askShape 19 = .ok (.iload_n 3, 1) := by decide +kernel
theorem d_PV_askShape_20 : decode b_PV_askShape 20 = .ok (.iastore, 1) := by decide +kernel
theorem d_PV_askShape_21 : decode b_PV_askShape 21 = .ok (.aload_n 0, 1) := by decide +kernel
theorem d_PV_askShape_22 : decode b_PV_askShape 22 = .ok (.getfield 102, 3) := by decide +kernel
theorem d_PV_askShape_25 : decode b_PV_askShape 25 = .ok (.iconst 3, 1) := by decide +kernel
theorem d_PV_askShape_26 : decode b_PV_askShape 26 = .ok (.iload 4, 2) := by decide +kernel
theorem d_PV_askShape_28 : decode b_PV_askShape 28 = .ok (.iastore, 1) := by decide +kernel
theorem d_PV_askShape_29 : decode b_PV_askShape 29 = .ok (.aload_n 0, 1) := by decide +kernel
theorem d_PV_askShape_30 : decode b_PV_askShape 30 = .ok (.getfield 102, 3) := by decide +kernel
theorem d_PV_askShape_33 : decode b_PV_askShape 33 = .ok (.iconst 4, 1) := by decide +kernel
theorem d_PV_askShape_34 : decode b_PV_askShape 34 = .ok (.iload 5, 2) := by decide +kernel
theorem d_PV_askShape_36 : decode b_PV_askShape 36 = .ok (.iastore, 1) := by decide +kernel
theorem d_PV_askShape_37 : decode b_PV_askShape 37 = .ok (.iconst 0, 1) := by decide +kernel
theorem d_PV_askShape_38 : decode b_PV_askShape 38 = .ok (.istore 6, 2) := by decide +kernel
theorem d_PV_askShape_40 : decode b_PV_askShape 40 = .ok (.iload 6, 2) := by decide +kernel
theorem d_PV_askShape_42 : decode b_PV_askShape 42 = .ok (.aload_n 0, 1) := by decide +kernel
theorem d_PV_askShape_43 : decode b_PV_askShape 43 = .ok (.getfield 18, 3) := by decide +kernel
theorem d_PV_askShape_46 : decode b_PV_askShape 46 = .ok (.if_icmp .ge 34, 3) := by decide +kernel
theorem d_PV_askShape_49 : decode b_PV_askShape 49 = .ok (.aload_n 0, 1) := by decide +kernel
theorem d_PV_askShape_50 : decode b_PV_askShape 50 = .ok (.getfield 102, 3) := by decide +kernel
theorem d_PV_askShape_53 : decode b_PV_askShape 53 = .ok (.iload 6, 2) := by decide +kernel
theorem d_PV_askShape_55 : decode b_PV_askShape 55 = .ok (.iaload, 1) := by decide +kernel
theorem d_PV_askShape_56 : decode b_PV_askShape 56 = .ok (.iconst 1, 1) := by decide +kernel
theorem d_PV_askShape_57 : decode b_PV_askShape 57 = .ok (.if_icmp .lt 15, 3) := by decide +kernel
theorem d_PV_askShape_60 : decode b_PV_askShape 60 = .ok (.aload_n 0, 1) := by decide +kernel
theorem d_PV_askShape_61 : decode b_PV_askShape 61 = .ok (.getfield 102, 3) := by decide +kernel
theorem d_PV_askShape_64 : decode b_PV_askShape 64 = .ok (.iload 6, 2) := by decide +kernel
theorem d_PV_askShape_66 : decode b_PV_askShape 66 = .ok (.iaload, 1) := by decide +kernel
theorem d_PV_askShape_67 : decode b_PV_askShape 67 = .ok (.bipush 12, 2) := by decide +kernel
theorem d_PV_askShape_69 : decode b_PV_askShape 69 = .ok (.if_icmp .le 5, 3) := by decide +kernel
theorem d_PV_askShape_72 : decode b_PV_askShape 72 = .ok (.iconst 0, 1) := by decide +kernel
theorem d_PV_askShape_73 : decode b_PV_askShape 73 = .ok (.ireturn, 1) := by decide +kernel
theorem d_PV_askShape_74 : decode b_PV_askShape 74 = .ok (.iinc 6 1, 3) := by decide +kernel
theorem d_PV_askShape_77 : decode b_PV_askShape 77 = .ok (.goto (-37), 3) := by decide +kernel
theorem d_PV_askShape_80 : decode b_PV_askShape 80 = .ok (.iconst 1, 1) := by decide +kernel
theorem d_PV_askShape_81 : decode b_PV_askShape 81 = .ok (.ireturn, 1) := by decide +kernel
theorem wf_PV_102 : Cond.fieldLink R_PV 102 R_PV "asked" "[I" ∈ gw_tbl := gw_tb (List.mem_of_getElem? (i := 451) (by decide +kernel)) rfl
def f_PV_askShape_40 (Q : Int32 → Ob → Prop) : Nat → Int32 → Ob → Prop
  | 0, _, _ => False
  | n + 1, x6, o0 => ((gI o0 0) ≤ x6 → (Q (1 : Int32) o0)) ∧ (¬ (gI o0 0) ≤ x6 → ((vp_in x6 5) ∧ ((((gA o0 13) x6.toNatClampNeg) < (1 : Int32) → (Q (0 : Int32) o0)) ∧ (¬ ((gA o0 13) x6.toNatClampNeg) < (1 : Int32) → ((vp_in x6 5) ∧ ((((gA o0 13) x6.toNatClampNeg) ≤ (12 : Int32) → ((f_PV_askShape_40 Q n) (x6 + (1 : Int32)) o0)) ∧ (¬ ((gA o0 13) x6.toNatClampNeg) ≤ (12 : Int32) → (Q (0 : Int32) o0))))))))
def f_PV_askShape (a0 : Int32) (a1 : Int32) (a2 : Int32) (a3 : Int32) (a4 : Int32) (o0 : Ob) (Q : Int32 → Ob → Prop) : Prop := (∃ w, f_PV_askShape_40 Q w (0 : Int32) (sA o0 13 (upd (upd (upd (upd (upd (gA o0 13) 0 a0) 1 a1) 2 a2) 3 a3) 4 a4)))
abbrev rm_PV_askShape : Room := { frames := 0, cells := 0, slots := 0, locals := 0 }
set_option maxHeartbeats 4000000 in
set_option maxRecDepth 100000 in
theorem t_PV_askShape_40 {p : Program} {l : Launch} {e : Env} {s : State} {m : MethodId} {args : Array Value} {below : List Frame} {meth : Method} {c : Code} {A : Nat → Prop} {G : Gl} {h0 : Nat} {q0 : Nat → Nat} (Q : Int32 → Ob → Prop) (C : Cx p s m args meth c R_PV b_PV_askShape 7 (some .boolean) G A) :
    ∀ (n : Nat) (x6 : Int32) (o0 : Ob) (ls : Array Slot) (H : Heap) (locs : List Loc), lv_has ls 7 [(0, .ref h0), (6, .int x6)] → va_P G.1 CL (cw_PV G h0 q0 o0) H → va_D A (cw_PV G h0 q0 o0) → va_S A s.heap H locs → f_PV_askShape_40 Q n x6 o0 → W p l e rm_PV_askShape s m args below meth c H locs 0 0 (MQ below (va_Qi (fun (r : Int32) (u : Ob) => Q r u) (fun (u : Ob) t => BW G A (cw_PV G h0 q0 u) t) A) args s 0 0 A) (F0 m 40 ls []) := by
  obtain ⟨hx, hb, hml, hown, hr, hts, hK, hA, hlocks, hE⟩ := id C
  intro n
  induction n with
  | zero => intro x6 o0 ls H locs hl hP hD hS h; exact absurd h id
  | succ n ih =>
    intro x6 o0 ls H locs hl hP hD hS h
    have hP : va_P G.1 CL [(h0, .inr (0, [.int (gI o0 0), .ref (q0 1), .ref (q0 2), .ref (q0 3), .ref (q0 4), .ref (q0 5), .ref (q0 6), .ref (q0 7), .ref (q0 8), .ref (q0 9), .ref (q0 10), .ref (q0 11), .ref (q0 12), .ref (q0 13)])), kQ G (q0 3) 3 (fun i => some (q0 (50 + i))), kI G (q0 6) 1000 (gA o0 6), kJ G (q0 7) 2000 (gB o0 7), kI G (q0 13) 5 (gA o0 13)] H := hP
    have hD : va_D A [(h0, .inr (0, [.int (gI o0 0), .ref (q0 1), .ref (q0 2), .ref (q0 3), .ref (q0 4), .ref (q0 5), .ref (q0 6), .ref (q0 7), .ref (q0 8), .ref (q0 9), .ref (q0 10), .ref (q0 11), .ref (q0 12), .ref (q0 13)])), kQ G (q0 3) 3 (fun i => some (q0 (50 + i))), kI G (q0 6) 1000 (gA o0 6), kJ G (q0 7) 2000 (gB o0 7), kI G (q0 13) 5 (gA o0 13)] := hD
    unfold f_PV_askShape_40 at h
    refine lv_iload hx hb d_PV_askShape_40 (lv_at hl 1 rfl) ?_
    refine lv_aload_n hx hb d_PV_askShape_42 rfl (lv_at hl 0 rfl) ?_
    refine va_get (D := G.1) (ci := 0) (v := .int (gI o0 0)) (C := R_PV) (T := T_PV) (N := 14) hx hb hts i_PV hown hK hP 0 rfl rfl 0 (by decide) (hts _ wf_PV_18) (fun _ h9 => h9) rfl d_PV_askShape_43 ?_
    refine lv_icmp_ge (tgt := 80) hx hb d_PV_askShape_46 (by decide) (fun c1 => ?_) (fun c1 => ?_)
    · have h := h.1 c1
      refine lv_iconst (v := (1 : Int32)) hx hb d_PV_askShape_80 (by decide) ?_
      have hP : va_P G.1 CL (cw_PV G h0 q0 o0) H := hP
      have hD : va_D A (cw_PV G h0 q0 o0) := hD
      exact W.zret (v := (1 : Int32)) hx hb hr rfl (fun t ht hW => ⟨⟨(1 : Int32), o0, rfl, h, by rw [ht]; exact hP, va_K.moved hW.alike hK, hD⟩, hS.F ht⟩) hS.2.2 d_PV_askShape_81
    · have h := h.2 c1
      refine lv_aload_n hx hb d_PV_askShape_49 rfl (lv_at hl 0 rfl) ?_
      refine va_get (D := G.1) (ci := 0) (v := .ref (q0 13)) (C := R_PV) (T := T_PV) (N := 14) hx hb hts i_PV hown hK hP 0 rfl rfl 13 (by decide) (hts _ wf_PV_102) (fun _ h9 => h9) rfl d_PV_askShape_50 ?_
      refine lv_iload hx hb d_PV_askShape_53 (lv_at hl 1 rfl) ?_
      have g2 := h.1
      have h := h.2
      refine xa_iald hx hb hK hP 4 0 rfl rfl g2 (k := x6.toNatClampNeg) rfl d_PV_askShape_55 ?_
      refine lv_iconst (v := (1 : Int32)) hx hb d_PV_askShape_56 (by decide) ?_
      refine lv_icmp_lt (tgt := 72) hx hb d_PV_askShape_57 (by decide) (fun c3 => ?_) (fun c3 => ?_)
      · have h := h.1 c3
        refine lv_iconst (v := (0 : Int32)) hx hb d_PV_askShape_72 (by decide) ?_
        have hP : va_P G.1 CL (cw_PV G h0 q0 o0) H := hP
        have hD : va_D A (cw_PV G h0 q0 o0) := hD
        exact W.zret (v := (0 : Int32)) hx hb hr rfl (fun t ht hW => ⟨⟨(0 : Int32), o0, rfl, h, by rw [ht]; exact hP, va_K.moved hW.alike hK, hD⟩, hS.F ht⟩) hS.2.2 d_PV_askShape_73
      · have h := h.2 c3
        refine lv_aload_n hx hb d_PV_askShape_60 rfl (lv_at hl 0 rfl) ?_
        refine va_get (D := G.1) (ci := 0) (v := .ref (q0 13)) (C := R_PV) (T := T_PV) (N := 14) hx hb hts i_PV hown hK hP 0 rfl rfl 13 (by decide) (hts _ wf_PV_102) (fun _ h9 => h9) rfl d_PV_askShape_61 ?_
        refine lv_iload hx hb d_PV_askShape_64 (lv_at hl 1 rfl) ?_
        have g4 := h.1
        have h := h.2
        refine xa_iald hx hb hK hP 4 0 rfl rfl g4 (k := x6.toNatClampNeg) rfl d_PV_askShape_66 ?_
        refine lv_bipush (v := (12 : Int32)) hx hb d_PV_askShape_67 (by decide) ?_
        refine lv_icmp_le (tgt := 74) hx hb d_PV_askShape_69 (by decide) (fun c5 => ?_) (fun c5 => ?_)
        · have h := h.1 c5
          refine lv_iinc (v := (x6 + (1 : Int32))) (lv' := [(6, .int (x6 + (1 : Int32))), (0, .ref h0)]) hx hb d_PV_askShape_74 hl (k := 1) rfl rfl (by decide) rfl (fun ls hl => ?_)
          refine lv_goto (tgt := 40) hx hb d_PV_askShape_77 (by decide) ?_
          have hl := lv_sub (l' := [(0, .ref h0), (6, .int (x6 + (1 : Int32)))]) hl [1, 0] rfl
          have hP : va_P G.1 CL (cw_PV G h0 q0 o0) H := hP
          have hD : va_D A (cw_PV G h0 q0 o0) := hD
          exact ih (x6 + (1 : Int32)) o0 ls H locs hl hP hD hS h
        · have h := h.2 c5
          refine lv_iconst (v := (0 : Int32)) hx hb d_PV_askShape_72 (by decide) ?_
          have hP : va_P G.1 CL (cw_PV G h0 q0 o0) H := hP
          have hD : va_D A (cw_PV G h0 q0 o0) := hD
          exact W.zret (v := (0 : Int32)) hx hb hr rfl (fun t ht hW => ⟨⟨(0 : Int32), o0, rfl, h, by rw [ht]; exact hP, va_K.moved hW.alike hK, hD⟩, hS.F ht⟩) hS.2.2 d_PV_askShape_73
set_option maxHeartbeats 4000000 in
set_option maxRecDepth 100000 in
theorem c_PV_askShape {l : Launch} {G : Gl} {h0 : Nat} {q0 : Nat → Nat} {a0 : Int32} {a1 : Int32} {a2 : Int32} {a3 : Int32} {a4 : Int32} {o0 : Ob} {Q : Int32 → Ob → Prop} (sz : Nat) (h : f_PV_askShape a0 a1 a2 a3 a4 o0 Q) : Met l y_PV_askShape w_PV_askShape rm_PV_askShape (PcW G [.ref h0, .int a0, .int a1, .int a2, .int a3, .int a4] sz (cw_PV G h0 q0 o0)) (va_Qi (fun (r : Int32) (u : Ob) => Q r u) (fun (u : Ob) t => BW G (va_A (cw_PV G h0 q0 o0) sz) (cw_PV G h0 q0 u) t) (va_A (cw_PV G h0 q0 o0) sz)) 0 0 (va_A (cw_PV G h0 q0 o0) sz) := by
  refine Met.ofW (cc := b_PV_askShape) (maxL := 7) (ret := (some .boolean)) (by decide +kernel) rfl ?_
  intro p e s m args below meth c s₁ B hml hv
  obtain ⟨rfl, hsz, hP, hK, hD0, hE⟩ := hv
  have hx := B.exec
  have hb := B.bytes
  have hr := B.returns
  have hts0 := atoms_spec (ws := w_PV_askShape) B.pre
  have hts : ∀ w ∈ gw_tbl, w.before ([.ref h0, .int a0, .int a1, .int a2, .int a3, .int a4]).toArray s = true := fun w hw => hts0 w (List.mem_cons_of_mem _ hw)
  have hown : s.vm.findClass R_PV = some m.cls := findClass_of_methodNamed B.named
  have hlocks := B.notSynchronized
  subst hsz
  have hD := hD0.self (sz := s.heap.size)
  generalize hAe : va_A (cw_PV G h0 q0 o0) s.heap.size = A at hD hE ⊢
  have hA : ∀ q : Nat, s.heap.size ≤ q → A q := fun q h => by rw [← hAe]; exact Or.inr h
  have hS : va_S A s.heap s.heap [] := va_S.rf
  have C : Cx p s m ([.ref h0, .int a0, .int a1, .int a2, .int a3, .int a4]).toArray meth c R_PV b_PV_askShape 7 (some .boolean) G A := ⟨hx, hb, hml, hown, hr, hts, hK, hA, hlocks, hE⟩
  have hl := lv_entry ([.ref h0, .int a0, .int a1, .int a2, .int a3, .int a4]) (n := 7) (Nat.le_of_ble_eq_true rfl)
  rw [lg_entry_eq]
  generalize (lg_sl ([.ref h0, .int a0, .int a1, .int a2, .int a3, .int a4]) ++ List.replicate (7 - (lg_sl ([.ref h0, .int a0, .int a1, .int a2, .int a3, .int a4])).length) Slot.unset).toArray = ls at hl ⊢
  have hl : lv_has ls 7 [(0, .ref h0), (1, .int a0), (2, .int a1), (3, .int a2), (4, .int a3), (5, .int a4)] := hl
  have hD : va_D A [(h0, .inr (0, [.int (gI o0 0), .ref (q0 1), .ref (q0 2), .ref (q0 3), .ref (q0 4), .ref (q0 5), .ref (q0 6), .ref (q0 7), .ref (q0 8), .ref (q0 9), .ref (q0 10), .ref (q0 11), .ref (q0 12), .ref (q0 13)])), kQ G (q0 3) 3 (fun i => some (q0 (50 + i))), kI G (q0 6) 1000 (gA o0 6), kJ G (q0 7) 2000 (gB o0 7), kI G (q0 13) 5 (gA o0 13)] := hD
  unfold f_PV_askShape at h
  suffices key : ∀ (H : Heap) (locs : List Loc), va_P G.1 CL [(h0, .inr (0, [.int (gI o0 0), .ref (q0 1), .ref (q0 2), .ref (q0 3), .ref (q0 4), .ref (q0 5), .ref (q0 6), .ref (q0 7), .ref (q0 8), .ref (q0 9), .ref (q0 10), .ref (q0 11), .ref (q0 12), .ref (q0 13)])), kQ G (q0 3) 3 (fun i => some (q0 (50 + i))), kI G (q0 6) 1000 (gA o0 6), kJ G (q0 7) 2000 (gB o0 7), kI G (q0 13) 5 (gA o0 13)] H → va_S A s.heap H locs → W p l e rm_PV_askShape s m ([.ref h0, .int a0, .int a1, .int a2, .int a3, .int a4]).toArray below meth c H locs 0 0 (MQ below (va_Qi (fun (r : Int32) (u : Ob) => Q r u) (fun (u : Ob) t => BW G A (cw_PV G h0 q0 u) t) A) ([.ref h0, .int a0, .int a1, .int a2, .int a3, .int a4]).toArray s 0 0 A) (F0 m 0 ls []) from key s.heap [] hP hS
  intro H locs hP hS
  refine lv_aload_n hx hb d_PV_askShape_0 rfl (lv_at hl 0 rfl) ?_
  refine va_get (D := G.1) (ci := 0) (v := .ref (q0 13)) (C := R_PV) (T := T_PV) (N := 14) hx hb hts i_PV hown hK hP 0 rfl rfl 13 (by decide) (hts _ wf_PV_102) (fun _ h9 => h9) rfl d_PV_askShape_1 ?_
  refine lv_iconst (v := (0 : Int32)) hx hb d_PV_askShape_4 (by decide) ?_
  refine lv_iload_n hx hb d_PV_askShape_5 rfl (lv_at hl 1 rfl) ?_
  refine xa_iast hx hb hK hP hD hS 4 0 rfl rfl (vp_lit rfl) (k := 0) rfl d_PV_askShape_6 (fun H locs hP hD hS => ?_)
  have hP : va_P G.1 CL [(h0, .inr (0, [.int (gI o0 0), .ref (q0 1), .ref (q0 2), .ref (q0 3), .ref (q0 4), .ref (q0 5), .ref (q0 6), .ref (q0 7), .ref (q0 8), .ref (q0 9), .ref (q0 10), .ref (q0 11), .ref (q0 12), .ref (q0 13)])), kQ G (q0 3) 3 (fun i => some (q0 (50 + i))), kI G (q0 6) 1000 (gA o0 6), kJ G (q0 7) 2000 (gB o0 7), kI G (q0 13) 5 (upd (gA o0 13) 0 a0)] H := hP
  have hD : va_D A [(h0, .inr (0, [.int (gI o0 0), .ref (q0 1), .ref (q0 2), .ref (q0 3), .ref (q0 4), .ref (q0 5), .ref (q0 6), .ref (q0 7), .ref (q0 8), .ref (q0 9), .ref (q0 10), .ref (q0 11), .ref (q0 12), .ref (q0 13)])), kQ G (q0 3) 3 (fun i => some (q0 (50 + i))), kI G (q0 6) 1000 (gA o0 6), kJ G (q0 7) 2000 (gB o0 7), kI G (q0 13) 5 (upd (gA o0 13) 0 a0)] := hD
  refine lv_aload_n hx hb d_PV_askShape_7 rfl (lv_at hl 0 rfl) ?_
  refine va_get (D := G.1) (ci := 0) (v := .ref (q0 13)) (C := R_PV) (T := T_PV) (N := 14) hx hb hts i_PV hown hK hP 0 rfl rfl 13 (by decide) (hts _ wf_PV_102) (fun _ h9 => h9) rfl d_PV_askShape_8 ?_
  refine lv_iconst (v := (1 : Int32)) hx hb d_PV_askShape_11 (by decide) ?_
  refine lv_iload_n hx hb d_PV_askShape_12 rfl (lv_at hl 2 rfl) ?_
  refine xa_iast hx hb hK hP hD hS 4 0 rfl rfl (vp_lit rfl) (k := 1) rfl d_PV_askShape_13 (fun H locs hP hD hS => ?_)
  have hP : va_P G.1 CL [(h0, .inr (0, [.int (gI o0 0), .ref (q0 1), .ref (q0 2), .ref (q0 3), .ref (q0 4), .ref (q0 5), .ref (q0 6), .ref (q0 7), .ref (q0 8), .ref (q0 9), .ref (q0 10), .ref (q0 11), .ref (q0 12), .ref (q0 13)])), kQ G (q0 3) 3 (fun i => some (q0 (50 + i))), kI G (q0 6) 1000 (gA o0 6), kJ G (q0 7) 2000 (gB o0 7), kI G (q0 13) 5 (upd (upd (gA o0 13) 0 a0) 1 a1)] H := hP
  have hD : va_D A [(h0, .inr (0, [.int (gI o0 0), .ref (q0 1), .ref (q0 2), .ref (q0 3), .ref (q0 4), .ref (q0 5), .ref (q0 6), .ref (q0 7), .ref (q0 8), .ref (q0 9), .ref (q0 10), .ref (q0 11), .ref (q0 12), .ref (q0 13)])), kQ G (q0 3) 3 (fun i => some (q0 (50 + i))), kI G (q0 6) 1000 (gA o0 6), kJ G (q0 7) 2000 (gB o0 7), kI G (q0 13) 5 (upd (upd (gA o0 13) 0 a0) 1 a1)] := hD
  refine lv_aload_n hx hb d_PV_askShape_14 rfl (lv_at hl 0 rfl) ?_
  refine va_get (D := G.1) (ci := 0) (v := .ref (q0 13)) (C := R_PV) (T := T_PV) (N := 14) hx hb hts i_PV hown hK hP 0 rfl rfl 13 (by decide) (hts _ wf_PV_102) (fun _ h9 => h9) rfl d_PV_askShape_15 ?_
  refine lv_iconst (v := (2 : Int32)) hx hb d_PV_askShape_18 (by decide) ?_
  refine lv_iload_n hx hb d_PV_askShape_19 rfl (lv_at hl 3 rfl) ?_
  refine xa_iast hx hb hK hP hD hS 4 0 rfl rfl (vp_lit rfl) (k := 2) rfl d_PV_askShape_20 (fun H locs hP hD hS => ?_)
  have hP : va_P G.1 CL [(h0, .inr (0, [.int (gI o0 0), .ref (q0 1), .ref (q0 2), .ref (q0 3), .ref (q0 4), .ref (q0 5), .ref (q0 6), .ref (q0 7), .ref (q0 8), .ref (q0 9), .ref (q0 10), .ref (q0 11), .ref (q0 12), .ref (q0 13)])), kQ G (q0 3) 3 (fun i => some (q0 (50 + i))), kI G (q0 6) 1000 (gA o0 6), kJ G (q0 7) 2000 (gB o0 7), kI G (q0 13) 5 (upd (upd (upd (gA o0 13) 0 a0) 1 a1) 2 a2)] H := hP
  have hD : va_D A [(h0, .inr (0, [.int (gI o0 0), .ref (q0 1), .ref (q0 2), .ref (q0 3), .ref (q0 4), .ref (q0 5), .ref (q0 6), .ref (q0 7), .ref (q0 8), .ref (q0 9), .ref (q0 10), .ref (q0 11), .ref (q0 12), .ref (q0 13)])), kQ G (q0 3) 3 (fun i => some (q0 (50 + i))), kI G (q0 6) 1000 (gA o0 6), kJ G (q0 7) 2000 (gB o0 7), kI G (q0 13) 5 (upd (upd (upd (gA o0 13) 0 a0) 1 a1) 2 a2)] := hD
  refine lv_aload_n hx hb d_PV_askShape_21 rfl (lv_at hl 0 rfl) ?_
  refine va_get (D := G.1) (ci := 0) (v := .ref (q0 13)) (C := R_PV) (T := T_PV) (N := 14) hx hb hts i_PV hown hK hP 0 rfl rfl 13 (by decide) (hts _ wf_PV_102) (fun _ h9 => h9) rfl d_PV_askShape_22 ?_
  refine lv_iconst (v := (3 : Int32)) hx hb d_PV_askShape_25 (by decide) ?_
  refine lv_iload hx hb d_PV_askShape_26 (lv_at hl 4 rfl) ?_
  refine xa_iast hx hb hK hP hD hS 4 0 rfl rfl (vp_lit rfl) (k := 3) rfl d_PV_askShape_28 (fun H locs hP hD hS => ?_)
  have hP : va_P G.1 CL [(h0, .inr (0, [.int (gI o0 0), .ref (q0 1), .ref (q0 2), .ref (q0 3), .ref (q0 4), .ref (q0 5), .ref (q0 6), .ref (q0 7), .ref (q0 8), .ref (q0 9), .ref (q0 10), .ref (q0 11), .ref (q0 12), .ref (q0 13)])), kQ G (q0 3) 3 (fun i => some (q0 (50 + i))), kI G (q0 6) 1000 (gA o0 6), kJ G (q0 7) 2000 (gB o0 7), kI G (q0 13) 5 (upd (upd (upd (upd (gA o0 13) 0 a0) 1 a1) 2 a2) 3 a3)] H := hP
  have hD : va_D A [(h0, .inr (0, [.int (gI o0 0), .ref (q0 1), .ref (q0 2), .ref (q0 3), .ref (q0 4), .ref (q0 5), .ref (q0 6), .ref (q0 7), .ref (q0 8), .ref (q0 9), .ref (q0 10), .ref (q0 11), .ref (q0 12), .ref (q0 13)])), kQ G (q0 3) 3 (fun i => some (q0 (50 + i))), kI G (q0 6) 1000 (gA o0 6), kJ G (q0 7) 2000 (gB o0 7), kI G (q0 13) 5 (upd (upd (upd (upd (gA o0 13) 0 a0) 1 a1) 2 a2) 3 a3)] := hD
  refine lv_aload_n hx hb d_PV_askShape_29 rfl (lv_at hl 0 rfl) ?_
  refine va_get (D := G.1) (ci := 0) (v := .ref (q0 13)) (C := R_PV) (T := T_PV) (N := 14) hx hb hts i_PV hown hK hP 0 rfl rfl 13 (by decide) (hts _ wf_PV_102) (fun _ h9 => h9) rfl d_PV_askShape_30 ?_
  refine lv_iconst (v := (4 : Int32)) hx hb d_PV_askShape_33 (by decide) ?_
  refine lv_iload hx hb d_PV_askShape_34 (lv_at hl 5 rfl) ?_
  refine xa_iast hx hb hK hP hD hS 4 0 rfl rfl (vp_lit rfl) (k := 4) rfl d_PV_askShape_36 (fun H locs hP hD hS => ?_)
  have hP : va_P G.1 CL [(h0, .inr (0, [.int (gI o0 0), .ref (q0 1), .ref (q0 2), .ref (q0 3), .ref (q0 4), .ref (q0 5), .ref (q0 6), .ref (q0 7), .ref (q0 8), .ref (q0 9), .ref (q0 10), .ref (q0 11), .ref (q0 12), .ref (q0 13)])), kQ G (q0 3) 3 (fun i => some (q0 (50 + i))), kI G (q0 6) 1000 (gA o0 6), kJ G (q0 7) 2000 (gB o0 7), kI G (q0 13) 5 (upd (upd (upd (upd (upd (gA o0 13) 0 a0) 1 a1) 2 a2) 3 a3) 4 a4)] H := hP
  have hD : va_D A [(h0, .inr (0, [.int (gI o0 0), .ref (q0 1), .ref (q0 2), .ref (q0 3), .ref (q0 4), .ref (q0 5), .ref (q0 6), .ref (q0 7), .ref (q0 8), .ref (q0 9), .ref (q0 10), .ref (q0 11), .ref (q0 12), .ref (q0 13)])), kQ G (q0 3) 3 (fun i => some (q0 (50 + i))), kI G (q0 6) 1000 (gA o0 6), kJ G (q0 7) 2000 (gB o0 7), kI G (q0 13) 5 (upd (upd (upd (upd (upd (gA o0 13) 0 a0) 1 a1) 2 a2) 3 a3) 4 a4)] := hD
  refine lv_iconst (v := (0 : Int32)) hx hb d_PV_askShape_37 (by decide) ?_
  refine lv_istore (lv' := [(6, .int (0 : Int32)), (0, .ref h0), (1, .int a0), (2, .int a1), (3, .int a2), (4, .int a3), (5, .int a4)]) hx hb d_PV_askShape_38 hl (by decide) rfl (fun ls hl => ?_)
  have hl := lv_sub (l' := [(0, .ref h0), (6, .int (0 : Int32))]) hl [1, 0] rfl
  have hP : va_P G.1 CL (cw_PV G h0 q0 (sA o0 13 (upd (upd (upd (upd (upd (gA o0 13) 0 a0) 1 a1) 2 a2) 3 a3) 4 a4))) H := hP
  have hD : va_D A (cw_PV G h0 q0 (sA o0 13 (upd (upd (upd (upd (upd (gA o0 13) 0 a0) 1 a1) 2 a2) 3 a3) 4 a4))) := hD
  obtain ⟨w, h⟩ := h
  exact t_PV_askShape_40 Q C w (0 : Int32) (sA o0 13 (upd (upd (upd (upd (upd (gA o0 13) 0 a0) 1 a1) 2 a2) 3 a3) 4 a4)) ls _ locs hl hP hD hS h
abbrev b_PV_passTick : ByteArray := prog_1_method_37_code
def y_PV_passTick : MethodName := ⟨R_PV, "passTick", "()V"⟩
abbrev w_PV_passTick : List Cond := Cond.code y_PV_passTick b_PV_passTick 3 none :: gw_tbl
theorem d_PV_passTick_0 : decode b_PV_passTick 0 = .ok (.iconst 0, 1) := by decide +kernel
theorem d_PV_passTick_1 : decode b_PV_passTick 1 = .ok (.istore_n 1, 1) := by decide +kernel
theorem d_PV_passTick_2 : decode b_PV_passTick 2 = .ok (.iload_n 1, 1) := by decide +kernel
theorem d_PV_passTick_3 : decode b_PV_passTick 3 = .ok (.aload_n 0, 1) := by decide +kernel
theorem d_PV_passTick_4 : decode b_PV_passTick 4 = .ok (.getfield 18, 3) := by decide +kernel
theorem d_PV_passTick_7 : decode b_PV_passTick 7 = .ok (.if_icmp .ge 105, 3) := by decide +kernel
theorem d_PV_passTick_10 : decode b_PV_passTick 10 = .ok (.aload_n 0, 1) := by decide +kernel
theorem d_PV_passTick_11 : decode b_PV_passTick 11 = .ok (.getfield 75, 3) := by decide +kernel
theorem d_PV_passTick_14 : decode b_PV_passTick 14 = .ok (.aload_n 0, 1) := by decide +kernel
theorem d_PV_passTick_15 : decode b_PV_passTick 15 = .ok (.getfield 50, 3) := by decide +kernel
theorem d_PV_passTick_18 : decode b_PV_passTick 18 = .ok (.iload_n 1, 1) := by decide +kernel
theorem d_PV_passTick_19 : decode b_PV_passTick 19 = .ok (.invokevirtual 316, 3) := by decide +kernel
theorem d_PV_passTick_22 : decode b_PV_passTick 22 = .ok (.aload_n 0, 1) := by decide +kernel
theorem d_PV_passTick_23 : decode b_PV_passTick 23 = .ok (.getfield 75, 3) := by decide +kernel
theorem d_PV_passTick_26 : decode b_PV_passTick 26 = .ok (.getfield 319, 3) := by decide +kernel
theorem d_PV_passTick_29 : decode b_PV_passTick 29 = .ok (.aload_n 0, 1) := by decide +kernel
theorem d_PV_passTick_30 : decode b_PV_passTick 30 = .ok (.getfield 50, 3) := by decide +kernel
theorem d_PV_passTick_33 : decode b_PV_passTick 33 = .ok (.getfield 197, 3) := by decide +kernel
theorem d_PV_passTick_36 : decode b_PV_passTick 36 = .ok (.iload_n 1, 1) := by decide +kernel
theorem d_PV_passTick_37 : decode b_PV_passTick 37 = .ok (.iaload, 1) := by decide +kernel
theorem d_PV_passTick_38 : decode b_PV_passTick 38 = .ok (.isub, 1) := by decide +kernel
theorem d_PV_passTick_39 : decode b_PV_passTick 39 = .ok (.istore_n 2, 1) := by decide +kernel
theorem d_PV_passTick_40 : decode b_PV_passTick 40 = .ok (.aload_n 0, 1) := by decide +kernel
theorem d_PV_passTick_41 : decode b_PV_passTick 41 = .ok (.getfield 50, 3) := by decide +kernel
theorem d_PV_passTick_44 : decode b_PV_passTick 44 = .ok (.getfield 197, 3) := by decide +kernel
theorem d_PV_passTick_47 : decode b_PV_passTick 47 = .ok (.iload_n 1, 1) := by decide +kernel
theorem d_PV_passTick_48 : decode b_PV_passTick 48 = .ok (.dup2, 1) := by decide +kernel
theorem d_PV_passTick_49 : decode b_PV_passTick 49 = .ok (.iaload, 1) := by decide +kernel
theorem d_PV_passTick_50 : decode b_PV_passTick 50 = .ok (.aload_n 0, 1) := by decide +kernel
theorem d_PV_passTick_51 : decode b_PV_passTick 51 = .ok (.getfield 75, 3) := by decide +kernel
theorem d_PV_passTick_54 : decode b_PV_passTick 54 = .ok (.getfield 322, 3) := by decide +kernel
theorem d_PV_passTick_57 : decode b_PV_passTick 57 = .ok (.ineg, 1) := by decide +kernel
theorem d_PV_passTick_58 : decode b_PV_passTick 58 = .ok (.aload_n 0, 1) := by decide +kernel
theorem d_PV_passTick_59 : decode b_PV_passTick 59 = .ok (.getfield 75, 3) := by decide +kernel
theorem d_PV_passTick_62 : decode b_PV_passTick 62 = .ok (.getfield 322, 3) := by decide +kernel
theorem d_PV_passTick_65 : decode b_PV_passTick 65 = .ok (.iload_n 2, 1) := by decide +kernel
theorem d_PV_passTick_66 : decode b_PV_passTick 66 = .ok (.invokestatic 9, 3) := by decide +kernel
theorem d_PV_passTick_69 : decode b_PV_passTick 69 = .ok (.invokestatic 15, 3) := by decide +kernel
theorem d_PV_passTick_72 : decode b_PV_passTick 72 = .ok (.iadd, 1) := by decide +kernel
theorem d_PV_passTick_73 : decode b_PV_passTick 73 = .ok (.iastore, 1) := by decide +kernel
theorem d_PV_passTick_74 : decode b_PV_passTick 74 = .ok (.aload_n 0, 1) := by decide +kernel
theorem d_PV_passTick_75 : decode b_PV_passTick 75 = .ok (.getfield 57, 3) := by decide +kernel
theorem d_PV_passTick_78 : decode b_PV_passTick 78 = .ok (.aload_n 0, 1) := by decide +kernel
theorem d_PV_passTick_79 : decode b_PV_passTick 79 = .ok (.getfield 50, 3) := by decide +kernel
theorem d_PV_passTick_82 : decode b_PV_passTick 82 = .ok (.getfield 173, 3) := by decide +kernel
theorem d_PV_passTick_85 : decode b_PV_passTick 85 = .ok (.iconst 5, 1) := by decide +kernel
theorem d_PV_passTick_86 : decode b_PV_passTick 86 = .ok (.imul, 1) := by decide +kernel
theorem d_PV_passTick_87 : decode b_PV_passTick 87 = .ok (.iload_n 1, 1) := by decide +kernel
theorem d_PV_passTick_88 : decode b_PV_passTick 88 = .ok (.iadd, 1) := by decide +kernel
theorem d_PV_passTick_89 : decode b_PV_passTick 89 = .ok (.aload_n 0, 1) := by decide +kernel
theorem d_PV_passTick_90 : decode b_PV_passTick 90 = .ok (.getfield 75, 3) := by decide +kernel
theorem d_PV_passTick_93 : decode b_PV_passTick 93 = .ok (.aload_n 0, 1) := by decide +kernel
theorem d_PV_passTick_94 : decode b_PV_passTick 94 = .ok (.getfield 50, 3) := by decide +kernel
theorem d_PV_passTick_97 : decode b_PV_passTick 97 = .ok (.getfield 197, 3) := by decide +kernel
theorem d_PV_passTick_100 : decode b_PV_passTick 100 = .ok (.iload_n 1, 1) := by decide +kernel
theorem d_PV_passTick_101 : decode b_PV_passTick 101 = .ok (.iaload, 1) := by decide +kernel
theorem d_PV_passTick_102 : decode b_PV_passTick 102 = .ok (.invokevirtual 325, 3) := by decide +kernel
theorem d_PV_passTick_105 : decode b_PV_passTick 105 = .ok (.iastore, 1) := by decide +kernel
theorem d_PV_passTick_106 : decode b_PV_passTick 106 = .ok (.iinc 1 1, 3) := by decide +kernel
theorem d_PV_passTick_109 : decode b_PV_passTick 109 = .ok (.goto (-107), 3) := by decide +kernel
theorem d_PV_passTick_112 : decode b_PV_passTick 112 = .ok (.iconst 0, 1) := by decide +kernel
theorem d_PV_passTick_113 : decode b_PV_passTick 113 = .ok (.istore_n 1, 1) := by decide +kernel
theorem d_PV_passTick_114 : decode b_PV_passTick 114 = .ok (.iload_n 1, 1) := by decide +kernel
theorem d_PV_passTick_115 : decode b_PV_passTick 115 = .ok (.bipush 10, 2) := by decide +kernel
theorem d_PV_passTick_117 : decode b_PV_passTick 117 = .ok (.if_icmp .ge 37, 3) := by decide +kernel
theorem d_PV_passTick_120 : decode b_PV_passTick 120 = .ok (.aload_n 0, 1) := by decide +kernel
theorem d_PV_passTick_121 : decode b_PV_passTick 121 = .ok (.getfield 61, 3) := by decide +kernel
theorem d_PV_passTick_124 : decode b_PV_passTick 124 = .ok (.aload_n 0, 1) := by decide +kernel
theorem d_PV_passTick_125 : decode b_PV_passTick 125 = .ok (.getfield 50, 3) := by decide +kernel
theorem d_PV_passTick_128 : decode b_PV_passTick 128 = .ok (.getfield 173, 3) := by decide +kernel
theorem d_PV_passTick_131 : decode b_PV_passTick 131 = .ok (.bipush 10, 2) := by decide +kernel
theorem d_PV_passTick_133 : decode b_PV_passTick 133 = .ok (.imul, 1) := by decide +kernel
theorem d_PV_passTick_134 : decode b_PV_passTick 134 = .ok (.iload_n 1, 1) := by decide +kernel
theorem d_PV_passTick_135 : decode b_PV_passTick 135 = .ok (.iadd, 1) := by decide +kernel
theorem d_PV_passTick_136 : decode b_PV_passTick 136 = .ok (.aload_n 0, 1) := by decide +kernel
theorem d_PV_passTick_137 : decode b_PV_passTick 137 = .ok (.getfield 84, 3) := by decide +kernel
theorem d_PV_passTick_140 : decode b_PV_passTick 140 = .ok (.aload_n 0, 1) := by decide +kernel
theorem d_PV_passTick_141 : decode b_PV_passTick 141 = .ok (.getfield 50, 3) := by decide +kernel
theorem d_PV_passTick_144 : decode b_PV_passTick 144 = .ok (.invokevirtual 328, 3) := by decide +kernel
theorem d_PV_passTick_147 : decode b_PV_passTick 147 = .ok (.lastore, 1) := by decide +kernel
theorem d_PV_passTick_148 : decode b_PV_passTick 148 = .ok (.iinc 1 1, 3) := by decide +kernel
theorem d_PV_passTick_151 : decode b_PV_passTick 151 = .ok (.goto (-37), 3) := by decide +kernel
theorem d_PV_passTick_154 : decode b_PV_passTick 154 = .ok (.aload_n 0, 1) := by decide +kernel
theorem d_PV_passTick_155 : decode b_PV_passTick 155 = .ok (.getfield 50, 3) := by decide +kernel
theorem d_PV_passTick_158 : decode b_PV_passTick 158 = .ok (.dup, 1) := by decide +kernel
theorem d_PV_passTick_159 : decode b_PV_passTick 159 = .ok (.getfield 173, 3) := by decide +kernel
theorem d_PV_passTick_162 : decode b_PV_passTick 162 = .ok (.iconst 1, 1) := by decide +kernel
theorem d_PV_passTick_163 : decode b_PV_passTick 163 = .ok (.iadd, 1) := by decide +kernel
theorem d_PV_passTick_164 : decode b_PV_passTick 164 = .ok (.putfield 173, 3) := by decide +kernel
theorem d_PV_passTick_167 : decode b_PV_passTick 167 = .ok (.return_, 1) := by decide +kernel
theorem wf_PV_75 : Cond.fieldLink R_PV 75 R_PV "lead" "LPipeVoice$Lead;" ∈ gw_tbl := gw_tb (List.mem_of_getElem? (i := 447) (by decide +kernel)) rfl
theorem wv_PV_316 : wV R_PV 316 y_Le_find b_Le_find 6 none 2 := ⟨⟨gw_tb (List.mem_of_getElem? (i := 676) (by decide +kernel)) rfl, gw_tb (List.mem_of_getElem? (i := 9) (by decide +kernel)) rfl, gw_tb (List.mem_of_getElem? (i := 679) (by decide +kernel)) rfl, by decide, by decide, by decide +kernel⟩, gw_tb (List.mem_of_getElem? (i := 677) (by decide +kernel)) rfl, gw_tb (List.mem_of_getElem? (i := 678) (by decide +kernel)) rfl⟩
theorem wf_PV_319 : Cond.fieldLink R_PV 319 R_Le "aim" "I" ∈ gw_tbl := gw_tb (List.mem_of_getElem? (i := 322) (by decide +kernel)) rfl
theorem wf_PV_197 : Cond.fieldLink R_PV 197 R_Mo "widths" "[I" ∈ gw_tbl := gw_tb (List.mem_of_getElem? (i := 251) (by decide +kernel)) rfl
theorem wf_PV_322 : Cond.fieldLink R_PV 322 R_Le "speed" "I" ∈ gw_tbl := gw_tb (List.mem_of_getElem? (i := 324) (by decide +kernel)) rfl
theorem wm_PV_9 : Cond.methodLink R_PV 9 ⟨"java/lang/Math", "min", "(II)I"⟩ ∈ gw_tbl := gw_tb (List.mem_of_getElem? (i := 29) (by decide +kernel)) rfl
theorem wm_PV_15 : Cond.methodLink R_PV 15 ⟨"java/lang/Math", "max", "(II)I"⟩ ∈ gw_tbl := gw_tb (List.mem_of_getElem? (i := 32) (by decide +kernel)) rfl
theorem wf_PV_57 : Cond.fieldLink R_PV 57 R_PV "leads" "[I" ∈ gw_tbl := gw_tb (List.mem_of_getElem? (i := 444) (by decide +kernel)) rfl
theorem wf_PV_173 : Cond.fieldLink R_PV 173 R_Mo "clock" "I" ∈ gw_tbl := gw_tb (List.mem_of_getElem? (i := 239) (by decide +kernel)) rfl
theorem wv_PV_325 : wV R_PV 325 y_Le_packed b_Le_packed 3 (some .int) 1 := ⟨⟨gw_tb (List.mem_of_getElem? (i := 685) (by decide +kernel)) rfl, gw_tb (List.mem_of_getElem? (i := 9) (by decide +kernel)) rfl, gw_tb (List.mem_of_getElem? (i := 688) (by decide +kernel)) rfl, by decide, by decide, by decide +kernel⟩, gw_tb (List.mem_of_getElem? (i := 686) (by decide +kernel)) rfl, gw_tb (List.mem_of_getElem? (i := 687) (by decide +kernel)) rfl⟩
theorem wf_PV_61 : Cond.fieldLink R_PV 61 R_PV "sounds" "[J" ∈ gw_tbl := gw_tb (List.mem_of_getElem? (i := 445) (by decide +kernel)) rfl
theorem wf_PV_84 : Cond.fieldLink R_PV 84 R_PV "pipes" "LPipeVoice$Pipes;" ∈ gw_tbl := gw_tb (List.mem_of_getElem? (i := 448) (by decide +kernel)) rfl
theorem wv_PV_328 : wV R_PV 328 y_Pi_pass b_Pi_pass 11 (some .long) 1 := ⟨⟨gw_tb (List.mem_of_getElem? (i := 689) (by decide +kernel)) rfl, gw_tb (List.mem_of_getElem? (i := 10) (by decide +kernel)) rfl, gw_tb (List.mem_of_getElem? (i := 692) (by decide +kernel)) rfl, by decide, by decide, by decide +kernel⟩, gw_tb (List.mem_of_getElem? (i := 690) (by decide +kernel)) rfl, gw_tb (List.mem_of_getElem? (i := 691) (by decide +kernel)) rfl⟩
def f_PV_passTick_114 (r1 : (Nat → Nat)) (o3 : Ob) (Q : Ob → Ob → Ob → Ob → Ob → Prop) : Nat → Int32 → Ob → Ob → Ob → Ob → Ob → Prop
  | 0, _, _, _, _, _, _ => False
  | n + 1, x1, o0, o1, o2, o4, o5 => ((10 : Int32) ≤ x1 → (Q o0 (sI o1 1 ((gI o1 1) + (1 : Int32))) o2 o4 o5)) ∧ (¬ (10 : Int32) ≤ x1 → (f_Pi_pass o5 r1 o1 o2 o3 (fun z2 u3 u4 u5 => (vp_in (((gI o1 1) * (10 : Int32)) + x1) 2000) ∧ ((f_PV_passTick_114 r1 o3 Q n) (x1 + (1 : Int32)) (sB o0 7 (vp_updL (gB o0 7) ((((gI o1 1) * (10 : Int32)) + x1).toNatClampNeg) z2)) u4 u5 o4 u3))))
def f_PV_passTick_2 (r1 : (Nat → Nat)) (o3 : Ob) (Q : Ob → Ob → Ob → Ob → Ob → Prop) : Nat → Int32 → Ob → Ob → Ob → Ob → Ob → Prop
  | 0, _, _, _, _, _, _ => False
  | n + 1, x1, o0, o1, o2, o4, o5 => ((gI o0 0) ≤ x1 → ((∃ w, f_PV_passTick_114 r1 o3 Q w (0 : Int32) o0 o1 o2 o4 o5))) ∧ (¬ (gI o0 0) ≤ x1 → (f_Le_find x1 o4 r1 o1 o3 (fun u8 => (vp_in x1 5) ∧ ((vp_in x1 5) ∧ (∀ y11 : Int32, y11 = (if ((gI u8 0) - ((gA o1 5) x1.toNatClampNeg)) < (gI u8 1) then ((gI u8 0) - ((gA o1 5) x1.toNatClampNeg)) else (gI u8 1)) → (∀ y12 : Int32, y12 = (if (-(gI u8 1)) < y11 then y11 else (-(gI u8 1))) → ((vp_in x1 5) ∧ ((vp_in x1 5) ∧ (∀ y15 : Int32, y15 = ((upd (gA o1 5) x1.toNatClampNeg (((gA o1 5) x1.toNatClampNeg) + y12)) x1.toNatClampNeg) → (f_Le_packed y15 u8 (fun z16 => (vp_in (((gI o1 1) * (5 : Int32)) + x1) 1000) ∧ ((f_PV_passTick_2 r1 o3 Q n) (x1 + (1 : Int32)) (sA o0 6 (upd (gA o0 6) ((((gI o1 1) * (5 : Int32)) + x1).toNatClampNeg) z16)) (sA o1 5 (upd (gA o1 5) x1.toNatClampNeg (((gA o1 5) x1.toNatClampNeg) + y12))) o2 u8 o5))))))))))))
def f_PV_passTick (o0 : Ob) (r1 : (Nat → Nat)) (o1 : Ob) (o2 : Ob) (o3 : Ob) (o4 : Ob) (o5 : Ob) (Q : Ob → Ob → Ob → Ob → Ob → Prop) : Prop := (∃ w, f_PV_passTick_2 r1 o3 Q w (0 : Int32) o0 o1 o2 o4 o5)
abbrev rm_PV_passTick : Room := { frames := 3, cells := 0, slots := 0, locals := 89 }
set_option maxHeartbeats 4000000 in
set_option maxRecDepth 100000 in
theorem t_PV_passTick_114 {p : Program} {l : Launch} {e : Env} {s : State} {m : MethodId} {args : Array Value} {below : List Frame} {meth : Method} {c : Code} {A : Nat → Prop} {G : Gl} {h0 : Nat} {q0 : Nat → Nat} {q1 : Nat → Nat} {q2 : Nat → Nat} {q3 : Nat → Nat} {q4 : Nat → Nat} {q5 : Nat → Nat} (r1 : (Nat → Nat)) (o3 : Ob) (Q : Ob → Ob → Ob → Ob → Ob → Prop) (C : Cx p s m args meth c R_PV b_PV_passTick 3 none G A) :
    ∀ (n : Nat) (x1 : Int32) (o0 : Ob) (o1 : Ob) (o2 : Ob) (o4 : Ob) (o5 : Ob) (ls : Array Slot) (H : Heap) (locs : List Loc), lv_has ls 3 [(0, .ref h0), (1, .int x1)] → va_P G.1 CL (cw_PV G h0 q0 o0 ++ (cw_Mo G (q0 4) q1 r1 o1 ++ (cw_Fo G (q1 9) q2 o2 ++ (cw_La G (r1 0) q3 o3 ++ (cw_Le G (q0 9) q4 o4 ++ (cw_Pi G (q0 10) q5 o5)))))) H → va_D A (cw_PV G h0 q0 o0 ++ (cw_Mo G (q0 4) q1 r1 o1 ++ (cw_Fo G (q1 9) q2 o2 ++ (cw_La G (r1 0) q3 o3 ++ (cw_Le G (q0 9) q4 o4 ++ (cw_Pi G (q0 10) q5 o5)))))) → va_S A s.heap H locs → f_PV_passTick_114 r1 o3 Q n x1 o0 o1 o2 o4 o5 → W p l e rm_PV_passTick s m args below meth c H locs 0 0 (MQ below (va_Qv (fun (u : Ob × Ob × Ob × Ob × Ob) => Q u.1 u.2.1 u.2.2.1 u.2.2.2.1 u.2.2.2.2) (fun (u : Ob × Ob × Ob × Ob × Ob) t => BW G A (cw_PV G h0 q0 u.1 ++ (cw_Mo G (q0 4) q1 r1 u.2.1 ++ (cw_Fo G (q1 9) q2 u.2.2.1 ++ (cw_La G (r1 0) q3 o3 ++ (cw_Le G (q0 9) q4 u.2.2.2.1 ++ (cw_Pi G (q0 10) q5 u.2.2.2.2)))))) t) A) args s 0 0 A) (F0 m 114 ls []) := by
  obtain ⟨hx, hb, hml, hown, hr, hts, hK, hA, hlocks, hE⟩ := id C
  intro n
  induction n with
  | zero => intro x1 o0 o1 o2 o4 o5 ls H locs hl hP hD hS h; exact absurd h id
  | succ n ih =>
    intro x1 o0 o1 o2 o4 o5 ls H locs hl hP hD hS h
    have hP : va_P G.1 CL [(h0, .inr (0, [.int (gI o0 0), .ref (q0 1), .ref (q0 2), .ref (q0 3), .ref (q0 4), .ref (q0 5), .ref (q0 6), .ref (q0 7), .ref (q0 8), .ref (q0 9), .ref (q0 10), .ref (q0 11), .ref (q0 12), .ref (q0 13)])), kQ G (q0 3) 3 (fun i => some (q0 (50 + i))), kI G (q0 6) 1000 (gA o0 6), kJ G (q0 7) 2000 (gB o0 7), kI G (q0 13) 5 (gA o0 13), ((q0 4), .inr (5, [.ref (r1 0), .int (gI o1 1), .int (gI o1 2), .ref (q1 3), .ref (q1 4), .ref (q1 5), .ref (q1 6), .ref (q1 7), .ref (q1 8), .ref (q1 9), .ref (q1 10), .int (gI o1 11), .int (gI o1 12)])), kI G (q1 3) 20 (gA o1 3), kI G (q1 4) 20 (gA o1 4), kI G (q1 5) 5 (gA o1 5), kJ G (q1 6) 5 (gB o1 6), kJ G (q1 7) 5 (gB o1 7), kJ G (q1 8) 6 (gB o1 8), kI G (q1 10) 5 (gA o1 10), ((q1 9), .inr (1, [.int (gI o2 0), .int (gI o2 1), .int (gI o2 2), .int (gI o2 3), .int (gI o2 4), .int (gI o2 5), .int (gI o2 6)])), ((r1 0), .inr (3, [.ref (q3 0), .int (gI o3 1), .int (gI o3 2), .int (gI o3 3), .int (gI o3 4), .int (gI o3 5), .ref (q3 6), .ref (q3 7), .ref (q3 8), .ref (q3 9), .ref (q3 10), .ref (q3 11), .ref (q3 12), .ref (q3 13), .ref (q3 14)])), kI G (q3 0) 5 (gA o3 0), kI G (q3 6) 20 (gA o3 6), kI G (q3 7) 20 (gA o3 7), kI G (q3 8) 20 (gA o3 8), kI G (q3 9) 20 (gA o3 9), kI G (q3 10) 20 (gA o3 10), kI G (q3 11) 20 (gA o3 11), kI G (q3 12) 8 (gA o3 12), kI G (q3 13) 64 (gA o3 13), kI G (q3 14) 64 (gA o3 14), ((q0 9), .inr (4, [.int (gI o4 0), .int (gI o4 1), .int (gI o4 2), .int (gI o4 3), .int (gI o4 4), .int (gI o4 5), .int (gI o4 6), .int (gI o4 7)])), ((q0 10), .inr (6, [.int (gI o5 0), .ref (q5 1), .ref (q5 2)])), kJ G (q5 1) 5 (gB o5 1), kJ G (q5 2) 5 (gB o5 2)] H := hP
    have hD : va_D A [(h0, .inr (0, [.int (gI o0 0), .ref (q0 1), .ref (q0 2), .ref (q0 3), .ref (q0 4), .ref (q0 5), .ref (q0 6), .ref (q0 7), .ref (q0 8), .ref (q0 9), .ref (q0 10), .ref (q0 11), .ref (q0 12), .ref (q0 13)])), kQ G (q0 3) 3 (fun i => some (q0 (50 + i))), kI G (q0 6) 1000 (gA o0 6), kJ G (q0 7) 2000 (gB o0 7), kI G (q0 13) 5 (gA o0 13), ((q0 4), .inr (5, [.ref (r1 0), .int (gI o1 1), .int (gI o1 2), .ref (q1 3), .ref (q1 4), .ref (q1 5), .ref (q1 6), .ref (q1 7), .ref (q1 8), .ref (q1 9), .ref (q1 10), .int (gI o1 11), .int (gI o1 12)])), kI G (q1 3) 20 (gA o1 3), kI G (q1 4) 20 (gA o1 4), kI G (q1 5) 5 (gA o1 5), kJ G (q1 6) 5 (gB o1 6), kJ G (q1 7) 5 (gB o1 7), kJ G (q1 8) 6 (gB o1 8), kI G (q1 10) 5 (gA o1 10), ((q1 9), .inr (1, [.int (gI o2 0), .int (gI o2 1), .int (gI o2 2), .int (gI o2 3), .int (gI o2 4), .int (gI o2 5), .int (gI o2 6)])), ((r1 0), .inr (3, [.ref (q3 0), .int (gI o3 1), .int (gI o3 2), .int (gI o3 3), .int (gI o3 4), .int (gI o3 5), .ref (q3 6), .ref (q3 7), .ref (q3 8), .ref (q3 9), .ref (q3 10), .ref (q3 11), .ref (q3 12), .ref (q3 13), .ref (q3 14)])), kI G (q3 0) 5 (gA o3 0), kI G (q3 6) 20 (gA o3 6), kI G (q3 7) 20 (gA o3 7), kI G (q3 8) 20 (gA o3 8), kI G (q3 9) 20 (gA o3 9), kI G (q3 10) 20 (gA o3 10), kI G (q3 11) 20 (gA o3 11), kI G (q3 12) 8 (gA o3 12), kI G (q3 13) 64 (gA o3 13), kI G (q3 14) 64 (gA o3 14), ((q0 9), .inr (4, [.int (gI o4 0), .int (gI o4 1), .int (gI o4 2), .int (gI o4 3), .int (gI o4 4), .int (gI o4 5), .int (gI o4 6), .int (gI o4 7)])), ((q0 10), .inr (6, [.int (gI o5 0), .ref (q5 1), .ref (q5 2)])), kJ G (q5 1) 5 (gB o5 1), kJ G (q5 2) 5 (gB o5 2)] := hD
    unfold f_PV_passTick_114 at h
    refine lv_iload_n hx hb d_PV_passTick_114 rfl (lv_at hl 1 rfl) ?_
    refine lv_bipush (v := (10 : Int32)) hx hb d_PV_passTick_115 (by decide) ?_
    refine lv_icmp_ge (tgt := 154) hx hb d_PV_passTick_117 (by decide) (fun c1 => ?_) (fun c1 => ?_)
    · have h := h.1 c1
      refine lv_aload_n hx hb d_PV_passTick_154 rfl (lv_at hl 0 rfl) ?_
      refine va_get (D := G.1) (ci := 0) (v := .ref (q0 4)) (C := R_PV) (T := T_PV) (N := 14) hx hb hts i_PV hown hK hP 0 rfl rfl 4 (by decide) (hts _ wf_PV_50) (fun _ h9 => h9) rfl d_PV_passTick_155 ?_
      refine lv_dup hx hb d_PV_passTick_158 rfl ?_
      refine va_get (D := G.1) (ci := 5) (v := .int (gI o1 1)) (C := R_Mo) (T := T_Mo) (N := 13) hx hb hts i_Mo hown hK hP 5 rfl rfl 1 (by decide) (hts _ wf_PV_173) (fun _ h9 => h9) rfl d_PV_passTick_159 ?_
      refine lv_iconst (v := (1 : Int32)) hx hb d_PV_passTick_162 (by decide) ?_
      refine lv_iadd hx hb d_PV_passTick_163 ?_
      refine va_put (D := G.1) (ci := 5) (v := .int ((gI o1 1) + (1 : Int32))) (ty := .int) (C := R_Mo) (T := T_Mo) (N := 13) hx hb hts i_Mo ty_Mo ty_Mo_ok nm_Mo hown hK hP hD hS 5 rfl rfl 1 (by decide) (hts _ wf_PV_173) (fun _ h9 => h9) rfl (ty_Mo_ok 1 (by decide)) rfl rfl (Nat.le_of_ble_eq_true rfl) d_PV_passTick_164 (fun H locs hP hD hS => ?_)
      have hP : va_P G.1 CL [(h0, .inr (0, [.int (gI o0 0), .ref (q0 1), .ref (q0 2), .ref (q0 3), .ref (q0 4), .ref (q0 5), .ref (q0 6), .ref (q0 7), .ref (q0 8), .ref (q0 9), .ref (q0 10), .ref (q0 11), .ref (q0 12), .ref (q0 13)])), kQ G (q0 3) 3 (fun i => some (q0 (50 + i))), kI G (q0 6) 1000 (gA o0 6), kJ G (q0 7) 2000 (gB o0 7), kI G (q0 13) 5 (gA o0 13), ((q0 4), .inr (5, [.ref (r1 0), .int ((gI o1 1) + (1 : Int32)), .int (gI o1 2), .ref (q1 3), .ref (q1 4), .ref (q1 5), .ref (q1 6), .ref (q1 7), .ref (q1 8), .ref (q1 9), .ref (q1 10), .int (gI o1 11), .int (gI o1 12)])), kI G (q1 3) 20 (gA o1 3), kI G (q1 4) 20 (gA o1 4), kI G (q1 5) 5 (gA o1 5), kJ G (q1 6) 5 (gB o1 6), kJ G (q1 7) 5 (gB o1 7), kJ G (q1 8) 6 (gB o1 8), kI G (q1 10) 5 (gA o1 10), ((q1 9), .inr (1, [.int (gI o2 0), .int (gI o2 1), .int (gI o2 2), .int (gI o2 3), .int (gI o2 4), .int (gI o2 5), .int (gI o2 6)])), ((r1 0), .inr (3, [.ref (q3 0), .int (gI o3 1), .int (gI o3 2), .int (gI o3 3), .int (gI o3 4), .int (gI o3 5), .ref (q3 6), .ref (q3 7), .ref (q3 8), .ref (q3 9), .ref (q3 10), .ref (q3 11), .ref (q3 12), .ref (q3 13), .ref (q3 14)])), kI G (q3 0) 5 (gA o3 0), kI G (q3 6) 20 (gA o3 6), kI G (q3 7) 20 (gA o3 7), kI G (q3 8) 20 (gA o3 8), kI G (q3 9) 20 (gA o3 9), kI G (q3 10) 20 (gA o3 10), kI G (q3 11) 20 (gA o3 11), kI G (q3 12) 8 (gA o3 12), kI G (q3 13) 64 (gA o3 13), kI G (q3 14) 64 (gA o3 14), ((q0 9), .inr (4, [.int (gI o4 0), .int (gI o4 1), .int (gI o4 2), .int (gI o4 3), .int (gI o4 4), .int (gI o4 5), .int (gI o4 6), .int (gI o4 7)])), ((q0 10), .inr (6, [.int (gI o5 0), .ref (q5 1), .ref (q5 2)])), kJ G (q5 1) 5 (gB o5 1), kJ G (q5 2) 5 (gB o5 2)] H := hP
      have hD : va_D A [(h0, .inr (0, [.int (gI o0 0), .ref (q0 1), .ref (q0 2), .ref (q0 3), .ref (q0 4), .ref (q0 5), .ref (q0 6), .ref (q0 7), .ref (q0 8), .ref (q0 9), .ref (q0 10), .ref (q0 11), .ref (q0 12), .ref (q0 13)])), kQ G (q0 3) 3 (fun i => some (q0 (50 + i))), kI G (q0 6) 1000 (gA o0 6), kJ G (q0 7) 2000 (gB o0 7), kI G (q0 13) 5 (gA o0 13), ((q0 4), .inr (5, [.ref (r1 0), .int ((gI o1 1) + (1 : Int32)), .int (gI o1 2), .ref (q1 3), .ref (q1 4), .ref (q1 5), .ref (q1 6), .ref (q1 7), .ref (q1 8), .ref (q1 9), .ref (q1 10), .int (gI o1 11), .int (gI o1 12)])), kI G (q1 3) 20 (gA o1 3), kI G (q1 4) 20 (gA o1 4), kI G (q1 5) 5 (gA o1 5), kJ G (q1 6) 5 (gB o1 6), kJ G (q1 7) 5 (gB o1 7), kJ G (q1 8) 6 (gB o1 8), kI G (q1 10) 5 (gA o1 10), ((q1 9), .inr (1, [.int (gI o2 0), .int (gI o2 1), .int (gI o2 2), .int (gI o2 3), .int (gI o2 4), .int (gI o2 5), .int (gI o2 6)])), ((r1 0), .inr (3, [.ref (q3 0), .int (gI o3 1), .int (gI o3 2), .int (gI o3 3), .int (gI o3 4), .int (gI o3 5), .ref (q3 6), .ref (q3 7), .ref (q3 8), .ref (q3 9), .ref (q3 10), .ref (q3 11), .ref (q3 12), .ref (q3 13), .ref (q3 14)])), kI G (q3 0) 5 (gA o3 0), kI G (q3 6) 20 (gA o3 6), kI G (q3 7) 20 (gA o3 7), kI G (q3 8) 20 (gA o3 8), kI G (q3 9) 20 (gA o3 9), kI G (q3 10) 20 (gA o3 10), kI G (q3 11) 20 (gA o3 11), kI G (q3 12) 8 (gA o3 12), kI G (q3 13) 64 (gA o3 13), kI G (q3 14) 64 (gA o3 14), ((q0 9), .inr (4, [.int (gI o4 0), .int (gI o4 1), .int (gI o4 2), .int (gI o4 3), .int (gI o4 4), .int (gI o4 5), .int (gI o4 6), .int (gI o4 7)])), ((q0 10), .inr (6, [.int (gI o5 0), .ref (q5 1), .ref (q5 2)])), kJ G (q5 1) 5 (gB o5 1), kJ G (q5 2) 5 (gB o5 2)] := hD
      have hP : va_P G.1 CL (cw_PV G h0 q0 o0 ++ (cw_Mo G (q0 4) q1 r1 (sI o1 1 ((gI o1 1) + (1 : Int32))) ++ (cw_Fo G (q1 9) q2 o2 ++ (cw_La G (r1 0) q3 o3 ++ (cw_Le G (q0 9) q4 o4 ++ (cw_Pi G (q0 10) q5 o5)))))) H := hP
      have hD : va_D A (cw_PV G h0 q0 o0 ++ (cw_Mo G (q0 4) q1 r1 (sI o1 1 ((gI o1 1) + (1 : Int32))) ++ (cw_Fo G (q1 9) q2 o2 ++ (cw_La G (r1 0) q3 o3 ++ (cw_Le G (q0 9) q4 o4 ++ (cw_Pi G (q0 10) q5 o5)))))) := hD
      exact W.vret hx hb hr (fun t ht hW => ⟨⟨(o0, (sI o1 1 ((gI o1 1) + (1 : Int32))), o2, o4, o5), rfl, h, by rw [ht]; exact hP, va_K.moved hW.alike hK, hD⟩, hS.F ht⟩) hS.2.2 d_PV_passTick_167
    · have h := h.2 c1
      refine lv_aload_n hx hb d_PV_passTick_120 rfl (lv_at hl 0 rfl) ?_
      refine va_get (D := G.1) (ci := 0) (v := .ref (q0 7)) (C := R_PV) (T := T_PV) (N := 14) hx hb hts i_PV hown hK hP 0 rfl rfl 7 (by decide) (hts _ wf_PV_61) (fun _ h9 => h9) rfl d_PV_passTick_121 ?_
      refine lv_aload_n hx hb d_PV_passTick_124 rfl (lv_at hl 0 rfl) ?_
      refine va_get (D := G.1) (ci := 0) (v := .ref (q0 4)) (C := R_PV) (T := T_PV) (N := 14) hx hb hts i_PV hown hK hP 0 rfl rfl 4 (by decide) (hts _ wf_PV_50) (fun _ h9 => h9) rfl d_PV_passTick_125 ?_
      refine va_get (D := G.1) (ci := 5) (v := .int (gI o1 1)) (C := R_Mo) (T := T_Mo) (N := 13) hx hb hts i_Mo hown hK hP 5 rfl rfl 1 (by decide) (hts _ wf_PV_173) (fun _ h9 => h9) rfl d_PV_passTick_128 ?_
      refine lv_bipush (v := (10 : Int32)) hx hb d_PV_passTick_131 (by decide) ?_
      refine lv_imul hx hb d_PV_passTick_133 ?_
      refine lv_iload_n hx hb d_PV_passTick_134 rfl (lv_at hl 1 rfl) ?_
      refine lv_iadd hx hb d_PV_passTick_135 ?_
      refine lv_aload_n hx hb d_PV_passTick_136 rfl (lv_at hl 0 rfl) ?_
      refine va_get (D := G.1) (ci := 0) (v := .ref (q0 10)) (C := R_PV) (T := T_PV) (N := 14) hx hb hts i_PV hown hK hP 0 rfl rfl 10 (by decide) (hts _ wf_PV_84) (fun _ h9 => h9) rfl d_PV_passTick_137 ?_
      refine lv_aload_n hx hb d_PV_passTick_140 rfl (lv_at hl 0 rfl) ?_
      refine va_get (D := G.1) (ci := 0) (v := .ref (q0 4)) (C := R_PV) (T := T_PV) (N := 14) hx hb hts i_PV hown hK hP 0 rfl rfl 4 (by decide) (hts _ wf_PV_50) (fun _ h9 => h9) rfl d_PV_passTick_141 ?_
      refine cl_Vl (b := b_PV_passTick) (As := [.ref (q0 4)]) (rest := [.int (((gI o1 1) * (10 : Int32)) + x1), .ref (q0 7)]) (ws := [(h0, .inr (0, [.int (gI o0 0), .ref (q0 1), .ref (q0 2), .ref (q0 3), .ref (q0 4), .ref (q0 5), .ref (q0 6), .ref (q0 7), .ref (q0 8), .ref (q0 9), .ref (q0 10), .ref (q0 11), .ref (q0 12), .ref (q0 13)])), kQ G (q0 3) 3 (fun i => some (q0 (50 + i))), kI G (q0 6) 1000 (gA o0 6), kJ G (q0 7) 2000 (gB o0 7), kI G (q0 13) 5 (gA o0 13), ((q0 4), .inr (5, [.ref (r1 0), .int (gI o1 1), .int (gI o1 2), .ref (q1 3), .ref (q1 4), .ref (q1 5), .ref (q1 6), .ref (q1 7), .ref (q1 8), .ref (q1 9), .ref (q1 10), .int (gI o1 11), .int (gI o1 12)])), kI G (q1 3) 20 (gA o1 3), kI G (q1 4) 20 (gA o1 4), kI G (q1 5) 5 (gA o1 5), kJ G (q1 6) 5 (gB o1 6), kJ G (q1 7) 5 (gB o1 7), kJ G (q1 8) 6 (gB o1 8), kI G (q1 10) 5 (gA o1 10), ((q1 9), .inr (1, [.int (gI o2 0), .int (gI o2 1), .int (gI o2 2), .int (gI o2 3), .int (gI o2 4), .int (gI o2 5), .int (gI o2 6)])), ((r1 0), .inr (3, [.ref (q3 0), .int (gI o3 1), .int (gI o3 2), .int (gI o3 3), .int (gI o3 4), .int (gI o3 5), .ref (q3 6), .ref (q3 7), .ref (q3 8), .ref (q3 9), .ref (q3 10), .ref (q3 11), .ref (q3 12), .ref (q3 13), .ref (q3 14)])), kI G (q3 0) 5 (gA o3 0), kI G (q3 6) 20 (gA o3 6), kI G (q3 7) 20 (gA o3 7), kI G (q3 8) 20 (gA o3 8), kI G (q3 9) 20 (gA o3 9), kI G (q3 10) 20 (gA o3 10), kI G (q3 11) 20 (gA o3 11), kI G (q3 12) 8 (gA o3 12), kI G (q3 13) 64 (gA o3 13), kI G (q3 14) 64 (gA o3 14), ((q0 9), .inr (4, [.int (gI o4 0), .int (gI o4 1), .int (gI o4 2), .int (gI o4 3), .int (gI o4 4), .int (gI o4 5), .int (gI o4 6), .int (gI o4 7)])), ((q0 10), .inr (6, [.int (gI o5 0), .ref (q5 1), .ref (q5 2)])), kJ G (q5 1) 5 (gB o5 1), kJ G (q5 2) 5 (gB o5 2)]) (wr := [(h0, .inr (0, [.int (gI o0 0), .ref (q0 1), .ref (q0 2), .ref (q0 3), .ref (q0 4), .ref (q0 5), .ref (q0 6), .ref (q0 7), .ref (q0 8), .ref (q0 9), .ref (q0 10), .ref (q0 11), .ref (q0 12), .ref (q0 13)])), kQ G (q0 3) 3 (fun i => some (q0 (50 + i))), kI G (q0 6) 1000 (gA o0 6), kJ G (q0 7) 2000 (gB o0 7), kI G (q0 13) 5 (gA o0 13), ((q0 9), .inr (4, [.int (gI o4 0), .int (gI o4 1), .int (gI o4 2), .int (gI o4 3), .int (gI o4 4), .int (gI o4 5), .int (gI o4 6), .int (gI o4 7)]))]) (w2 := fun (u : Ob × Ob × Ob) => [(h0, .inr (0, [.int (gI o0 0), .ref (q0 1), .ref (q0 2), .ref (q0 3), .ref (q0 4), .ref (q0 5), .ref (q0 6), .ref (q0 7), .ref (q0 8), .ref (q0 9), .ref (q0 10), .ref (q0 11), .ref (q0 12), .ref (q0 13)])), kQ G (q0 3) 3 (fun i => some (q0 (50 + i))), kI G (q0 6) 1000 (gA o0 6), kJ G (q0 7) 2000 (gB o0 7), kI G (q0 13) 5 (gA o0 13), ((q0 4), .inr (5, [.ref (r1 0), .int (gI u.2.1 1), .int (gI u.2.1 2), .ref (q1 3), .ref (q1 4), .ref (q1 5), .ref (q1 6), .ref (q1 7), .ref (q1 8), .ref (q1 9), .ref (q1 10), .int (gI u.2.1 11), .int (gI u.2.1 12)])), kI G (q1 3) 20 (gA u.2.1 3), kI G (q1 4) 20 (gA u.2.1 4), kI G (q1 5) 5 (gA u.2.1 5), kJ G (q1 6) 5 (gB u.2.1 6), kJ G (q1 7) 5 (gB u.2.1 7), kJ G (q1 8) 6 (gB u.2.1 8), kI G (q1 10) 5 (gA u.2.1 10), ((q1 9), .inr (1, [.int (gI u.2.2 0), .int (gI u.2.2 1), .int (gI u.2.2 2), .int (gI u.2.2 3), .int (gI u.2.2 4), .int (gI u.2.2 5), .int (gI u.2.2 6)])), ((r1 0), .inr (3, [.ref (q3 0), .int (gI o3 1), .int (gI o3 2), .int (gI o3 3), .int (gI o3 4), .int (gI o3 5), .ref (q3 6), .ref (q3 7), .ref (q3 8), .ref (q3 9), .ref (q3 10), .ref (q3 11), .ref (q3 12), .ref (q3 13), .ref (q3 14)])), kI G (q3 0) 5 (gA o3 0), kI G (q3 6) 20 (gA o3 6), kI G (q3 7) 20 (gA o3 7), kI G (q3 8) 20 (gA o3 8), kI G (q3 9) 20 (gA o3 9), kI G (q3 10) 20 (gA o3 10), kI G (q3 11) 20 (gA o3 11), kI G (q3 12) 8 (gA o3 12), kI G (q3 13) 64 (gA o3 13), kI G (q3 14) 64 (gA o3 14), ((q0 9), .inr (4, [.int (gI o4 0), .int (gI o4 1), .int (gI o4 2), .int (gI o4 3), .int (gI o4 4), .int (gI o4 5), .int (gI o4 6), .int (gI o4 7)])), ((q0 10), .inr (6, [.int (gI u.1 0), .ref (q5 1), .ref (q5 2)])), kJ G (q5 1) 5 (gB u.1 1), kJ G (q5 2) 5 (gB u.1 2)]) C (c_Pi_pass (h0 := (q0 10)) (q0 := q5) (h1 := (q0 4)) (q1 := q1) (q2 := q2) (q3 := q3) H.size h) wv_PV_328 ⟨Nat.le_of_ble_eq_true rfl, Nat.le_of_ble_eq_true rfl⟩ hP hD hS 26 rfl rfl [26, 27, 28, 5, 6, 7, 8, 9, 10, 11, 12, 13, 14, 15, 16, 17, 18, 19, 20, 21, 22, 23, 24] [0, 1, 2, 3, 4, 25] rfl rfl (by decide) (by decide) (by decide) [0, 1, 2, 3, 4, 9, 10, 11, 12, 13, 14, 15, 16, 17, 18, 19, 20, 21, 22, 23, 24, 25, 26, 27, 28, 5, 6, 7, 8] (by decide) (fun u => rfl) rfl hl.1 rfl (lv_room (Nat.le_of_ble_eq_true rfl)) d_PV_passTick_144 ⟨Nat.le_of_ble_eq_true rfl, Nat.le_of_ble_eq_true rfl⟩ rfl rfl (fun z2 u H locs h hP hD hS => ?_)
      obtain ⟨u3, u4, u5⟩ := u
      have hP : va_P G.1 CL [(h0, .inr (0, [.int (gI o0 0), .ref (q0 1), .ref (q0 2), .ref (q0 3), .ref (q0 4), .ref (q0 5), .ref (q0 6), .ref (q0 7), .ref (q0 8), .ref (q0 9), .ref (q0 10), .ref (q0 11), .ref (q0 12), .ref (q0 13)])), kQ G (q0 3) 3 (fun i => some (q0 (50 + i))), kI G (q0 6) 1000 (gA o0 6), kJ G (q0 7) 2000 (gB o0 7), kI G (q0 13) 5 (gA o0 13), ((q0 4), .inr (5, [.ref (r1 0), .int (gI u4 1), .int (gI u4 2), .ref (q1 3), .ref (q1 4), .ref (q1 5), .ref (q1 6), .ref (q1 7), .ref (q1 8), .ref (q1 9), .ref (q1 10), .int (gI u4 11), .int (gI u4 12)])), kI G (q1 3) 20 (gA u4 3), kI G (q1 4) 20 (gA u4 4), kI G (q1 5) 5 (gA u4 5), kJ G (q1 6) 5 (gB u4 6), kJ G (q1 7) 5 (gB u4 7), kJ G (q1 8) 6 (gB u4 8), kI G (q1 10) 5 (gA u4 10), ((q1 9), .inr (1, [.int (gI u5 0), .int (gI u5 1), .int (gI u5 2), .int (gI u5 3), .int (gI u5 4), .int (gI u5 5), .int (gI u5 6)])), ((r1 0), .inr (3, [.ref (q3 0), .int (gI o3 1), .int (gI o3 2), .int (gI o3 3), .int (gI o3 4), .int (gI o3 5), .ref (q3 6), .ref (q3 7), .ref (q3 8), .ref (q3 9), .ref (q3 10), .ref (q3 11), .ref (q3 12), .ref (q3 13), .ref (q3 14)])), kI G (q3 0) 5 (gA o3 0), kI G (q3 6) 20 (gA o3 6), kI G (q3 7) 20 (gA o3 7), kI G (q3 8) 20 (gA o3 8), kI G (q3 9) 20 (gA o3 9), kI G (q3 10) 20 (gA o3 10), kI G (q3 11) 20 (gA o3 11), kI G (q3 12) 8 (gA o3 12), kI G (q3 13) 64 (gA o3 13), kI G (q3 14) 64 (gA o3 14), ((q0 9), .inr (4, [.int (gI o4 0), .int (gI o4 1), .int (gI o4 2), .int (gI o4 3), .int (gI o4 4), .int (gI o4 5), .int (gI o4 6), .int (gI o4 7)])), ((q0 10), .inr (6, [.int (gI u3 0), .ref (q5 1), .ref (q5 2)])), kJ G (q5 1) 5 (gB u3 1), kJ G (q5 2) 5 (gB u3 2)] H := hP
      have hD : va_D A [(h0, .inr (0, [.int (gI o0 0), .ref (q0 1), .ref (q0 2), .ref (q0 3), .ref (q0 4), .ref (q0 5), .ref (q0 6), .ref (q0 7), .ref (q0 8), .ref (q0 9), .ref (q0 10), .ref (q0 11), .ref (q0 12), .ref (q0 13)])), kQ G (q0 3) 3 (fun i => some (q0 (50 + i))), kI G (q0 6) 1000 (gA o0 6), kJ G (q0 7) 2000 (gB o0 7), kI G (q0 13) 5 (gA o0 13), ((q0 4), .inr (5, [.ref (r1 0), .int (gI u4 1), .int (gI u4 2), .ref (q1 3), .ref (q1 4), .ref (q1 5), .ref (q1 6), .ref (q1 7), .ref (q1 8), .ref (q1 9), .ref (q1 10), .int (gI u4 11), .int (gI u4 12)])), kI G (q1 3) 20 (gA u4 3), kI G (q1 4) 20 (gA u4 4), kI G (q1 5) 5 (gA u4 5), kJ G (q1 6) 5 (gB u4 6), kJ G (q1 7) 5 (gB u4 7), kJ G (q1 8) 6 (gB u4 8), kI G (q1 10) 5 (gA u4 10), ((q1 9), .inr (1, [.int (gI u5 0), .int (gI u5 1), .int (gI u5 2), .int (gI u5 3), .int (gI u5 4), .int (gI u5 5), .int (gI u5 6)])), ((r1 0), .inr (3, [.ref (q3 0), .int (gI o3 1), .int (gI o3 2), .int (gI o3 3), .int (gI o3 4), .int (gI o3 5), .ref (q3 6), .ref (q3 7), .ref (q3 8), .ref (q3 9), .ref (q3 10), .ref (q3 11), .ref (q3 12), .ref (q3 13), .ref (q3 14)])), kI G (q3 0) 5 (gA o3 0), kI G (q3 6) 20 (gA o3 6), kI G (q3 7) 20 (gA o3 7), kI G (q3 8) 20 (gA o3 8), kI G (q3 9) 20 (gA o3 9), kI G (q3 10) 20 (gA o3 10), kI G (q3 11) 20 (gA o3 11), kI G (q3 12) 8 (gA o3 12), kI G (q3 13) 64 (gA o3 13), kI G (q3 14) 64 (gA o3 14), ((q0 9), .inr (4, [.int (gI o4 0), .int (gI o4 1), .int (gI o4 2), .int (gI o4 3), .int (gI o4 4), .int (gI o4 5), .int (gI o4 6), .int (gI o4 7)])), ((q0 10), .inr (6, [.int (gI u3 0), .ref (q5 1), .ref (q5 2)])), kJ G (q5 1) 5 (gB u3 1), kJ G (q5 2) 5 (gB u3 2)] := hD
      have g6 := h.1
      have h := h.2
      refine xa_last hx hb hK hP hD hS 3 1 rfl rfl g6 (k := (((gI o1 1) * (10 : Int32)) + x1).toNatClampNeg) rfl d_PV_passTick_147 (fun H locs hP hD hS => ?_)
      have hP : va_P G.1 CL [(h0, .inr (0, [.int (gI o0 0), .ref (q0 1), .ref (q0 2), .ref (q0 3), .ref (q0 4), .ref (q0 5), .ref (q0 6), .ref (q0 7), .ref (q0 8), .ref (q0 9), .ref (q0 10), .ref (q0 11), .ref (q0 12), .ref (q0 13)])), kQ G (q0 3) 3 (fun i => some (q0 (50 + i))), kI G (q0 6) 1000 (gA o0 6), kJ G (q0 7) 2000 (vp_updL (gB o0 7) ((((gI o1 1) * (10 : Int32)) + x1).toNatClampNeg) z2), kI G (q0 13) 5 (gA o0 13), ((q0 4), .inr (5, [.ref (r1 0), .int (gI u4 1), .int (gI u4 2), .ref (q1 3), .ref (q1 4), .ref (q1 5), .ref (q1 6), .ref (q1 7), .ref (q1 8), .ref (q1 9), .ref (q1 10), .int (gI u4 11), .int (gI u4 12)])), kI G (q1 3) 20 (gA u4 3), kI G (q1 4) 20 (gA u4 4), kI G (q1 5) 5 (gA u4 5), kJ G (q1 6) 5 (gB u4 6), kJ G (q1 7) 5 (gB u4 7), kJ G (q1 8) 6 (gB u4 8), kI G (q1 10) 5 (gA u4 10), ((q1 9), .inr (1, [.int (gI u5 0), .int (gI u5 1), .int (gI u5 2), .int (gI u5 3), .int (gI u5 4), .int (gI u5 5), .int (gI u5 6)])), ((r1 0), .inr (3, [.ref (q3 0), .int (gI o3 1), .int (gI o3 2), .int (gI o3 3), .int (gI o3 4), .int (gI o3 5), .ref (q3 6), .ref (q3 7), .ref (q3 8), .ref (q3 9), .ref (q3 10), .ref (q3 11), .ref (q3 12), .ref (q3 13), .ref (q3 14)])), kI G (q3 0) 5 (gA o3 0), kI G (q3 6) 20 (gA o3 6), kI G (q3 7) 20 (gA o3 7), kI G (q3 8) 20 (gA o3 8), kI G (q3 9) 20 (gA o3 9), kI G (q3 10) 20 (gA o3 10), kI G (q3 11) 20 (gA o3 11), kI G (q3 12) 8 (gA o3 12), kI G (q3 13) 64 (gA o3 13), kI G (q3 14) 64 (gA o3 14), ((q0 9), .inr (4, [.int (gI o4 0), .int (gI o4 1), .int (gI o4 2), .int (gI o4 3), .int (gI o4 4), .int (gI o4 5), .int (gI o4 6), .int (gI o4 7)])), ((q0 10), .inr (6, [.int (gI u3 0), .ref (q5 1), .ref (q5 2)])), kJ G (q5 1) 5 (gB u3 1), kJ G (q5 2) 5 (gB u3 2)] H := hP
      have hD : va_D A [(h0, .inr (0, [.int (gI o0 0), .ref (q0 1), .ref (q0 2), .ref (q0 3), .ref (q0 4), .ref (q0 5), .ref (q0 6), .ref (q0 7), .ref (q0 8), .ref (q0 9), .ref (q0 10), .ref (q0 11), .ref (q0 12), .ref (q0 13)])), kQ G (q0 3) 3 (fun i => some (q0 (50 + i))), kI G (q0 6) 1000 (gA o0 6), kJ G (q0 7) 2000 (vp_updL (gB o0 7) ((((gI o1 1) * (10 : Int32)) + x1).toNatClampNeg) z2), kI G (q0 13) 5 (gA o0 13), ((q0 4), .inr (5, [.ref (r1 0), .int (gI u4 1), .int (gI u4 2), .ref (q1 3), .ref (q1 4), .ref (q1 5), .ref (q1 6), .ref (q1 7), .ref (q1 8), .ref (q1 9), .ref (q1 10), .int (gI u4 11), .int (gI u4 12)])), kI G (q1 3) 20 (gA u4 3), kI G (q1 4) 20 (gA u4 4), kI G (q1 5) 5 (gA u4 5), kJ G (q1 6) 5 (gB u4 6), kJ G (q1 7) 5 (gB u4 7), kJ G (q1 8) 6 (gB u4 8), kI G (q1 10) 5 (gA u4 10), ((q1 9), .inr (1, [.int (gI u5 0), .int (gI u5 1), .int (gI u5 2), .int (gI u5 3), .int (gI u5 4), .int (gI u5 5), .int (gI u5 6)])), ((r1 0), .inr (3, [.ref (q3 0), .int (gI o3 1), .int (gI o3 2), .int (gI o3 3), .int (gI o3 4), .int (gI o3 5), .ref (q3 6), .ref (q3 7), .ref (q3 8), .ref (q3 9), .ref (q3 10), .ref (q3 11), .ref (q3 12), .ref (q3 13), .ref (q3 14)])), kI G (q3 0) 5 (gA o3 0), kI G (q3 6) 20 (gA o3 6), kI G (q3 7) 20 (gA o3 7), kI G (q3 8) 20 (gA o3 8), kI G (q3 9) 20 (gA o3 9), kI G (q3 10) 20 (gA o3 10), kI G (q3 11) 20 (gA o3 11), kI G (q3 12) 8 (gA o3 12), kI G (q3 13) 64 (gA o3 13), kI G (q3 14) 64 (gA o3 14), ((q0 9), .inr (4, [.int (gI o4 0), .int (gI o4 1), .int (gI o4 2), .int (gI o4 3), .int (gI o4 4), .int (gI o4 5), .int (gI o4 6), .int (gI o4 7)])), ((q0 10), .inr (6, [.int (gI u3 0), .ref (q5 1), .ref (q5 2)])), kJ G (q5 1) 5 (gB u3 1), kJ G (q5 2) 5 (gB u3 2)] := hD
      refine lv_iinc (v := (x1 + (1 : Int32))) (lv' := [(1, .int (x1 + (1 : Int32))), (0, .ref h0)]) hx hb d_PV_passTick_148 hl (k := 1) rfl rfl (by decide) rfl (fun ls hl => ?_)
      refine lv_goto (tgt := 114) hx hb d_PV_passTick_151 (by decide) ?_
      have hl := lv_sub (l' := [(0, .ref h0), (1, .int (x1 + (1 : Int32)))]) hl [1, 0] rfl
      have hP : va_P G.1 CL (cw_PV G h0 q0 (sB o0 7 (vp_updL (gB o0 7) ((((gI o1 1) * (10 : Int32)) + x1).toNatClampNeg) z2)) ++ (cw_Mo G (q0 4) q1 r1 u4 ++ (cw_Fo G (q1 9) q2 u5 ++ (cw_La G (r1 0) q3 o3 ++ (cw_Le G (q0 9) q4 o4 ++ (cw_Pi G (q0 10) q5 u3)))))) H := hP
      have hD : va_D A (cw_PV G h0 q0 (sB o0 7 (vp_updL (gB o0 7) ((((gI o1 1) * (10 : Int32)) + x1).toNatClampNeg) z2)) ++ (cw_Mo G (q0 4) q1 r1 u4 ++ (cw_Fo G (q1 9) q2 u5 ++ (cw_La G (r1 0) q3 o3 ++ (cw_Le G (q0 9) q4 o4 ++ (cw_Pi G (q0 10) q5 u3)))))) := hD
      exact ih (x1 + (1 : Int32)) (sB o0 7 (vp_updL (gB o0 7) ((((gI o1 1) * (10 : Int32)) + x1).toNatClampNeg) z2)) u4 u5 o4 u3 ls H locs hl hP hD hS h
set_option maxHeartbeats 4000000 in
set_option maxRecDepth 100000 in
theorem t_PV_passTick_2 {p : Program} {l : Launch} {e : Env} {s : State} {m : MethodId} {args : Array Value} {below : List Frame} {meth : Method} {c : Code} {A : Nat → Prop} {G : Gl} {h0 : Nat} {q0 : Nat → Nat} {q1 : Nat → Nat} {q2 : Nat → Nat} {q3 : Nat → Nat} {q4 : Nat → Nat} {q5 : Nat → Nat} (r1 : (Nat → Nat)) (o3 : Ob) (Q : Ob → Ob → Ob → Ob → Ob → Prop) (C : Cx p s m args meth c R_PV b_PV_passTick 3 none G A) :
    ∀ (n : Nat) (x1 : Int32) (o0 : Ob) (o1 : Ob) (o2 : Ob) (o4 : Ob) (o5 : Ob) (ls : Array Slot) (H : Heap) (locs : List Loc), lv_has ls 3 [(0, .ref h0), (1, .int x1)] → va_P G.1 CL (cw_PV G h0 q0 o0 ++ (cw_Mo G (q0 4) q1 r1 o1 ++ (cw_Fo G (q1 9) q2 o2 ++ (cw_La G (r1 0) q3 o3 ++ (cw_Le G (q0 9) q4 o4 ++ (cw_Pi G (q0 10) q5 o5)))))) H → va_D A (cw_PV G h0 q0 o0 ++ (cw_Mo G (q0 4) q1 r1 o1 ++ (cw_Fo G (q1 9) q2 o2 ++ (cw_La G (r1 0) q3 o3 ++ (cw_Le G (q0 9) q4 o4 ++ (cw_Pi G (q0 10) q5 o5)))))) → va_S A s.heap H locs → f_PV_passTick_2 r1 o3 Q n x1 o0 o1 o2 o4 o5 → W p l e rm_PV_passTick s m args below meth c H locs 0 0 (MQ below (va_Qv (fun (u : Ob × Ob × Ob × Ob × Ob) => Q u.1 u.2.1 u.2.2.1 u.2.2.2.1 u.2.2.2.2) (fun (u : Ob × Ob × Ob × Ob × Ob) t => BW G A (cw_PV G h0 q0 u.1 ++ (cw_Mo G (q0 4) q1 r1 u.2.1 ++ (cw_Fo G (q1 9) q2 u.2.2.1 ++ (cw_La G (r1 0) q3 o3 ++ (cw_Le G (q0 9) q4 u.2.2.2.1 ++ (cw_Pi G (q0 10) q5 u.2.2.2.2)))))) t) A) args s 0 0 A) (F0 m 2 ls []) := by
  obtain ⟨hx, hb, hml, hown, hr, hts, hK, hA, hlocks, hE⟩ := id C
  intro n
  induction n with
  | zero => intro x1 o0 o1 o2 o4 o5 ls H locs hl hP hD hS h; exact absurd h id
  | succ n ih =>
    intro x1 o0 o1 o2 o4 o5 ls H locs hl hP hD hS h
    have hP : va_P G.1 CL [(h0, .inr (0, [.int (gI o0 0), .ref (q0 1), .ref (q0 2), .ref (q0 3), .ref (q0 4), .ref (q0 5), .ref (q0 6), .ref (q0 7), .ref (q0 8), .ref (q0 9), .ref (q0 10), .ref (q0 11), .ref (q0 12), .ref (q0 13)])), kQ G (q0 3) 3 (fun i => some (q0 (50 + i))), kI G (q0 6) 1000 (gA o0 6), kJ G (q0 7) 2000 (gB o0 7), kI G (q0 13) 5 (gA o0 13), ((q0 4), .inr (5, [.ref (r1 0), .int (gI o1 1), .int (gI o1 2), .ref (q1 3), .ref (q1 4), .ref (q1 5), .ref (q1 6), .ref (q1 7), .ref (q1 8), .ref (q1 9), .ref (q1 10), .int (gI o1 11), .int (gI o1 12)])), kI G (q1 3) 20 (gA o1 3), kI G (q1 4) 20 (gA o1 4), kI G (q1 5) 5 (gA o1 5), kJ G (q1 6) 5 (gB o1 6), kJ G (q1 7) 5 (gB o1 7), kJ G (q1 8) 6 (gB o1 8), kI G (q1 10) 5 (gA o1 10), ((q1 9), .inr (1, [.int (gI o2 0), .int (gI o2 1), .int (gI o2 2), .int (gI o2 3), .int (gI o2 4), .int (gI o2 5), .int (gI o2 6)])), ((r1 0), .inr (3, [.ref (q3 0), .int (gI o3 1), .int (gI o3 2), .int (gI o3 3), .int (gI o3 4), .int (gI o3 5), .ref (q3 6), .ref (q3 7), .ref (q3 8), .ref (q3 9), .ref (q3 10), .ref (q3 11), .ref (q3 12), .ref (q3 13), .ref (q3 14)])), kI G (q3 0) 5 (gA o3 0), kI G (q3 6) 20 (gA o3 6), kI G (q3 7) 20 (gA o3 7), kI G (q3 8) 20 (gA o3 8), kI G (q3 9) 20 (gA o3 9), kI G (q3 10) 20 (gA o3 10), kI G (q3 11) 20 (gA o3 11), kI G (q3 12) 8 (gA o3 12), kI G (q3 13) 64 (gA o3 13), kI G (q3 14) 64 (gA o3 14), ((q0 9), .inr (4, [.int (gI o4 0), .int (gI o4 1), .int (gI o4 2), .int (gI o4 3), .int (gI o4 4), .int (gI o4 5), .int (gI o4 6), .int (gI o4 7)])), ((q0 10), .inr (6, [.int (gI o5 0), .ref (q5 1), .ref (q5 2)])), kJ G (q5 1) 5 (gB o5 1), kJ G (q5 2) 5 (gB o5 2)] H := hP
    have hD : va_D A [(h0, .inr (0, [.int (gI o0 0), .ref (q0 1), .ref (q0 2), .ref (q0 3), .ref (q0 4), .ref (q0 5), .ref (q0 6), .ref (q0 7), .ref (q0 8), .ref (q0 9), .ref (q0 10), .ref (q0 11), .ref (q0 12), .ref (q0 13)])), kQ G (q0 3) 3 (fun i => some (q0 (50 + i))), kI G (q0 6) 1000 (gA o0 6), kJ G (q0 7) 2000 (gB o0 7), kI G (q0 13) 5 (gA o0 13), ((q0 4), .inr (5, [.ref (r1 0), .int (gI o1 1), .int (gI o1 2), .ref (q1 3), .ref (q1 4), .ref (q1 5), .ref (q1 6), .ref (q1 7), .ref (q1 8), .ref (q1 9), .ref (q1 10), .int (gI o1 11), .int (gI o1 12)])), kI G (q1 3) 20 (gA o1 3), kI G (q1 4) 20 (gA o1 4), kI G (q1 5) 5 (gA o1 5), kJ G (q1 6) 5 (gB o1 6), kJ G (q1 7) 5 (gB o1 7), kJ G (q1 8) 6 (gB o1 8), kI G (q1 10) 5 (gA o1 10), ((q1 9), .inr (1, [.int (gI o2 0), .int (gI o2 1), .int (gI o2 2), .int (gI o2 3), .int (gI o2 4), .int (gI o2 5), .int (gI o2 6)])), ((r1 0), .inr (3, [.ref (q3 0), .int (gI o3 1), .int (gI o3 2), .int (gI o3 3), .int (gI o3 4), .int (gI o3 5), .ref (q3 6), .ref (q3 7), .ref (q3 8), .ref (q3 9), .ref (q3 10), .ref (q3 11), .ref (q3 12), .ref (q3 13), .ref (q3 14)])), kI G (q3 0) 5 (gA o3 0), kI G (q3 6) 20 (gA o3 6), kI G (q3 7) 20 (gA o3 7), kI G (q3 8) 20 (gA o3 8), kI G (q3 9) 20 (gA o3 9), kI G (q3 10) 20 (gA o3 10), kI G (q3 11) 20 (gA o3 11), kI G (q3 12) 8 (gA o3 12), kI G (q3 13) 64 (gA o3 13), kI G (q3 14) 64 (gA o3 14), ((q0 9), .inr (4, [.int (gI o4 0), .int (gI o4 1), .int (gI o4 2), .int (gI o4 3), .int (gI o4 4), .int (gI o4 5), .int (gI o4 6), .int (gI o4 7)])), ((q0 10), .inr (6, [.int (gI o5 0), .ref (q5 1), .ref (q5 2)])), kJ G (q5 1) 5 (gB o5 1), kJ G (q5 2) 5 (gB o5 2)] := hD
    unfold f_PV_passTick_2 at h
    refine lv_iload_n hx hb d_PV_passTick_2 rfl (lv_at hl 1 rfl) ?_
    refine lv_aload_n hx hb d_PV_passTick_3 rfl (lv_at hl 0 rfl) ?_
    refine va_get (D := G.1) (ci := 0) (v := .int (gI o0 0)) (C := R_PV) (T := T_PV) (N := 14) hx hb hts i_PV hown hK hP 0 rfl rfl 0 (by decide) (hts _ wf_PV_18) (fun _ h9 => h9) rfl d_PV_passTick_4 ?_
    refine lv_icmp_ge (tgt := 112) hx hb d_PV_passTick_7 (by decide) (fun c7 => ?_) (fun c7 => ?_)
    · have h := h.1 c7
      refine lv_iconst (v := (0 : Int32)) hx hb d_PV_passTick_112 (by decide) ?_
      refine lv_istore_n (lv' := [(1, .int (0 : Int32)), (0, .ref h0)]) hx hb d_PV_passTick_113 rfl hl (by decide) rfl (fun ls hl => ?_)
      have hl := lv_sub (l' := [(0, .ref h0), (1, .int (0 : Int32))]) hl [1, 0] rfl
      have hP : va_P G.1 CL (cw_PV G h0 q0 o0 ++ (cw_Mo G (q0 4) q1 r1 o1 ++ (cw_Fo G (q1 9) q2 o2 ++ (cw_La G (r1 0) q3 o3 ++ (cw_Le G (q0 9) q4 o4 ++ (cw_Pi G (q0 10) q5 o5)))))) H := hP
      have hD : va_D A (cw_PV G h0 q0 o0 ++ (cw_Mo G (q0 4) q1 r1 o1 ++ (cw_Fo G (q1 9) q2 o2 ++ (cw_La G (r1 0) q3 o3 ++ (cw_Le G (q0 9) q4 o4 ++ (cw_Pi G (q0 10) q5 o5)))))) := hD
      obtain ⟨w, h⟩ := h
      exact t_PV_passTick_114 r1 o3 Q C w (0 : Int32) o0 o1 o2 o4 o5 ls _ locs hl hP hD hS h
    · have h := h.2 c7
      refine lv_aload_n hx hb d_PV_passTick_10 rfl (lv_at hl 0 rfl) ?_
      refine va_get (D := G.1) (ci := 0) (v := .ref (q0 9)) (C := R_PV) (T := T_PV) (N := 14) hx hb hts i_PV hown hK hP 0 rfl rfl 9 (by decide) (hts _ wf_PV_75) (fun _ h9 => h9) rfl d_PV_passTick_11 ?_
      refine lv_aload_n hx hb d_PV_passTick_14 rfl (lv_at hl 0 rfl) ?_
      refine va_get (D := G.1) (ci := 0) (v := .ref (q0 4)) (C := R_PV) (T := T_PV) (N := 14) hx hb hts i_PV hown hK hP 0 rfl rfl 4 (by decide) (hts _ wf_PV_50) (fun _ h9 => h9) rfl d_PV_passTick_15 ?_
      refine lv_iload_n hx hb d_PV_passTick_18 rfl (lv_at hl 1 rfl) ?_
      refine cl_Vv (b := b_PV_passTick) (As := [.ref (q0 4), .int x1]) (rest := []) (ws := [(h0, .inr (0, [.int (gI o0 0), .ref (q0 1), .ref (q0 2), .ref (q0 3), .ref (q0 4), .ref (q0 5), .ref (q0 6), .ref (q0 7), .ref (q0 8), .ref (q0 9), .ref (q0 10), .ref (q0 11), .ref (q0 12), .ref (q0 13)])), kQ G (q0 3) 3 (fun i => some (q0 (50 + i))), kI G (q0 6) 1000 (gA o0 6), kJ G (q0 7) 2000 (gB o0 7), kI G (q0 13) 5 (gA o0 13), ((q0 4), .inr (5, [.ref (r1 0), .int (gI o1 1), .int (gI o1 2), .ref (q1 3), .ref (q1 4), .ref (q1 5), .ref (q1 6), .ref (q1 7), .ref (q1 8), .ref (q1 9), .ref (q1 10), .int (gI o1 11), .int (gI o1 12)])), kI G (q1 3) 20 (gA o1 3), kI G (q1 4) 20 (gA o1 4), kI G (q1 5) 5 (gA o1 5), kJ G (q1 6) 5 (gB o1 6), kJ G (q1 7) 5 (gB o1 7), kJ G (q1 8) 6 (gB o1 8), kI G (q1 10) 5 (gA o1 10), ((q1 9), .inr (1, [.int (gI o2 0), .int (gI o2 1), .int (gI o2 2), .int (gI o2 3), .int (gI o2 4), .int (gI o2 5), .int (gI o2 6)])), ((r1 0), .inr (3, [.ref (q3 0), .int (gI o3 1), .int (gI o3 2), .int (gI o3 3), .int (gI o3 4), .int (gI o3 5), .ref (q3 6), .ref (q3 7), .ref (q3 8), .ref (q3 9), .ref (q3 10), .ref (q3 11), .ref (q3 12), .ref (q3 13), .ref (q3 14)])), kI G (q3 0) 5 (gA o3 0), kI G (q3 6) 20 (gA o3 6), kI G (q3 7) 20 (gA o3 7), kI G (q3 8) 20 (gA o3 8), kI G (q3 9) 20 (gA o3 9), kI G (q3 10) 20 (gA o3 10), kI G (q3 11) 20 (gA o3 11), kI G (q3 12) 8 (gA o3 12), kI G (q3 13) 64 (gA o3 13), kI G (q3 14) 64 (gA o3 14), ((q0 9), .inr (4, [.int (gI o4 0), .int (gI o4 1), .int (gI o4 2), .int (gI o4 3), .int (gI o4 4), .int (gI o4 5), .int (gI o4 6), .int (gI o4 7)])), ((q0 10), .inr (6, [.int (gI o5 0), .ref (q5 1), .ref (q5 2)])), kJ G (q5 1) 5 (gB o5 1), kJ G (q5 2) 5 (gB o5 2)]) (wr := [(h0, .inr (0, [.int (gI o0 0), .ref (q0 1), .ref (q0 2), .ref (q0 3), .ref (q0 4), .ref (q0 5), .ref (q0 6), .ref (q0 7), .ref (q0 8), .ref (q0 9), .ref (q0 10), .ref (q0 11), .ref (q0 12), .ref (q0 13)])), kQ G (q0 3) 3 (fun i => some (q0 (50 + i))), kI G (q0 6) 1000 (gA o0 6), kJ G (q0 7) 2000 (gB o0 7), kI G (q0 13) 5 (gA o0 13), ((q1 9), .inr (1, [.int (gI o2 0), .int (gI o2 1), .int (gI o2 2), .int (gI o2 3), .int (gI o2 4), .int (gI o2 5), .int (gI o2 6)])), ((q0 10), .inr (6, [.int (gI o5 0), .ref (q5 1), .ref (q5 2)])), kJ G (q5 1) 5 (gB o5 1), kJ G (q5 2) 5 (gB o5 2)]) (w2 := fun (u : Ob) => [(h0, .inr (0, [.int (gI o0 0), .ref (q0 1), .ref (q0 2), .ref (q0 3), .ref (q0 4), .ref (q0 5), .ref (q0 6), .ref (q0 7), .ref (q0 8), .ref (q0 9), .ref (q0 10), .ref (q0 11), .ref (q0 12), .ref (q0 13)])), kQ G (q0 3) 3 (fun i => some (q0 (50 + i))), kI G (q0 6) 1000 (gA o0 6), kJ G (q0 7) 2000 (gB o0 7), kI G (q0 13) 5 (gA o0 13), ((q0 4), .inr (5, [.ref (r1 0), .int (gI o1 1), .int (gI o1 2), .ref (q1 3), .ref (q1 4), .ref (q1 5), .ref (q1 6), .ref (q1 7), .ref (q1 8), .ref (q1 9), .ref (q1 10), .int (gI o1 11), .int (gI o1 12)])), kI G (q1 3) 20 (gA o1 3), kI G (q1 4) 20 (gA o1 4), kI G (q1 5) 5 (gA o1 5), kJ G (q1 6) 5 (gB o1 6), kJ G (q1 7) 5 (gB o1 7), kJ G (q1 8) 6 (gB o1 8), kI G (q1 10) 5 (gA o1 10), ((q1 9), .inr (1, [.int (gI o2 0), .int (gI o2 1), .int (gI o2 2), .int (gI o2 3), .int (gI o2 4), .int (gI o2 5), .int (gI o2 6)])), ((r1 0), .inr (3, [.ref (q3 0), .int (gI o3 1), .int (gI o3 2), .int (gI o3 3), .int (gI o3 4), .int (gI o3 5), .ref (q3 6), .ref (q3 7), .ref (q3 8), .ref (q3 9), .ref (q3 10), .ref (q3 11), .ref (q3 12), .ref (q3 13), .ref (q3 14)])), kI G (q3 0) 5 (gA o3 0), kI G (q3 6) 20 (gA o3 6), kI G (q3 7) 20 (gA o3 7), kI G (q3 8) 20 (gA o3 8), kI G (q3 9) 20 (gA o3 9), kI G (q3 10) 20 (gA o3 10), kI G (q3 11) 20 (gA o3 11), kI G (q3 12) 8 (gA o3 12), kI G (q3 13) 64 (gA o3 13), kI G (q3 14) 64 (gA o3 14), ((q0 9), .inr (4, [.int (gI u 0), .int (gI u 1), .int (gI u 2), .int (gI u 3), .int (gI u 4), .int (gI u 5), .int (gI u 6), .int (gI u 7)])), ((q0 10), .inr (6, [.int (gI o5 0), .ref (q5 1), .ref (q5 2)])), kJ G (q5 1) 5 (gB o5 1), kJ G (q5 2) 5 (gB o5 2)]) C (c_Le_find (h0 := (q0 9)) (q0 := q4) (h1 := (q0 4)) (q1 := q1) (q2 := q3) H.size h) wv_PV_316 ⟨Nat.le_of_ble_eq_true rfl, Nat.le_of_ble_eq_true rfl⟩ hP hD hS 25 rfl rfl [25, 5, 6, 7, 8, 9, 10, 11, 12, 14, 15, 16, 17, 18, 19, 20, 21, 22, 23, 24] [0, 1, 2, 3, 4, 13, 26, 27, 28] rfl rfl (by decide) (by decide) (by decide) [0, 1, 2, 3, 4, 10, 11, 12, 13, 14, 15, 16, 17, 5, 18, 19, 20, 21, 22, 23, 24, 25, 26, 27, 28, 9, 6, 7, 8] (by decide) (fun u => rfl) rfl hl.1 rfl (lv_room (Nat.le_of_ble_eq_true rfl)) d_PV_passTick_19 ⟨Nat.le_of_ble_eq_true rfl, Nat.le_of_ble_eq_true rfl⟩ rfl rfl (fun u H locs h hP hD hS => ?_)
      generalize u = u8 at h hP hD
      have hP : va_P G.1 CL [(h0, .inr (0, [.int (gI o0 0), .ref (q0 1), .ref (q0 2), .ref (q0 3), .ref (q0 4), .ref (q0 5), .ref (q0 6), .ref (q0 7), .ref (q0 8), .ref (q0 9), .ref (q0 10), .ref (q0 11), .ref (q0 12), .ref (q0 13)])), kQ G (q0 3) 3 (fun i => some (q0 (50 + i))), kI G (q0 6) 1000 (gA o0 6), kJ G (q0 7) 2000 (gB o0 7), kI G (q0 13) 5 (gA o0 13), ((q0 4), .inr (5, [.ref (r1 0), .int (gI o1 1), .int (gI o1 2), .ref (q1 3), .ref (q1 4), .ref (q1 5), .ref (q1 6), .ref (q1 7), .ref (q1 8), .ref (q1 9), .ref (q1 10), .int (gI o1 11), .int (gI o1 12)])), kI G (q1 3) 20 (gA o1 3), kI G (q1 4) 20 (gA o1 4), kI G (q1 5) 5 (gA o1 5), kJ G (q1 6) 5 (gB o1 6), kJ G (q1 7) 5 (gB o1 7), kJ G (q1 8) 6 (gB o1 8), kI G (q1 10) 5 (gA o1 10), ((q1 9), .inr (1, [.int (gI o2 0), .int (gI o2 1), .int (gI o2 2), .int (gI o2 3), .int (gI o2 4), .int (gI o2 5), .int (gI o2 6)])), ((r1 0), .inr (3, [.ref (q3 0), .int (gI o3 1), .int (gI o3 2), .int (gI o3 3), .int (gI o3 4), .int (gI o3 5), .ref (q3 6), .ref (q3 7), .ref (q3 8), .ref (q3 9), .ref (q3 10), .ref (q3 11), .ref (q3 12), .ref (q3 13), .ref (q3 14)])), kI G (q3 0) 5 (gA o3 0), kI G (q3 6) 20 (gA o3 6), kI G (q3 7) 20 (gA o3 7), kI G (q3 8) 20 (gA o3 8), kI G (q3 9) 20 (gA o3 9), kI G (q3 10) 20 (gA o3 10), kI G (q3 11) 20 (gA o3 11), kI G (q3 12) 8 (gA o3 12), kI G (q3 13) 64 (gA o3 13), kI G (q3 14) 64 (gA o3 14), ((q0 9), .inr (4, [.int (gI u8 0), .int (gI u8 1), .int (gI u8 2), .int (gI u8 3), .int (gI u8 4), .int (gI u8 5), .int (gI u8 6), .int (gI u8 7)])), ((q0 10), .inr (6, [.int (gI o5 0), .ref (q5 1), .ref (q5 2)])), kJ G (q5 1) 5 (gB o5 1), kJ G (q5 2) 5 (gB o5 2)] H := hP
      have hD : va_D A [(h0, .inr (0, [.int (gI o0 0), .ref (q0 1), .ref (q0 2), .ref (q0 3), .ref (q0 4), .ref (q0 5), .ref (q0 6), .ref (q0 7), .ref (q0 8), .ref (q0 9), .ref (q0 10), .ref (q0 11), .ref (q0 12), .ref (q0 13)])), kQ G (q0 3) 3 (fun i => some (q0 (50 + i))), kI G (q0 6) 1000 (gA o0 6), kJ G (q0 7) 2000 (gB o0 7), kI G (q0 13) 5 (gA o0 13), ((q0 4), .inr (5, [.ref (r1 0), .int (gI o1 1), .int (gI o1 2), .ref (q1 3), .ref (q1 4), .ref (q1 5), .ref (q1 6), .ref (q1 7), .ref (q1 8), .ref (q1 9), .ref (q1 10), .int (gI o1 11), .int (gI o1 12)])), kI G (q1 3) 20 (gA o1 3), kI G (q1 4) 20 (gA o1 4), kI G (q1 5) 5 (gA o1 5), kJ G (q1 6) 5 (gB o1 6), kJ G (q1 7) 5 (gB o1 7), kJ G (q1 8) 6 (gB o1 8), kI G (q1 10) 5 (gA o1 10), ((q1 9), .inr (1, [.int (gI o2 0), .int (gI o2 1), .int (gI o2 2), .int (gI o2 3), .int (gI o2 4), .int (gI o2 5), .int (gI o2 6)])), ((r1 0), .inr (3, [.ref (q3 0), .int (gI o3 1), .int (gI o3 2), .int (gI o3 3), .int (gI o3 4), .int (gI o3 5), .ref (q3 6), .ref (q3 7), .ref (q3 8), .ref (q3 9), .ref (q3 10), .ref (q3 11), .ref (q3 12), .ref (q3 13), .ref (q3 14)])), kI G (q3 0) 5 (gA o3 0), kI G (q3 6) 20 (gA o3 6), kI G (q3 7) 20 (gA o3 7), kI G (q3 8) 20 (gA o3 8), kI G (q3 9) 20 (gA o3 9), kI G (q3 10) 20 (gA o3 10), kI G (q3 11) 20 (gA o3 11), kI G (q3 12) 8 (gA o3 12), kI G (q3 13) 64 (gA o3 13), kI G (q3 14) 64 (gA o3 14), ((q0 9), .inr (4, [.int (gI u8 0), .int (gI u8 1), .int (gI u8 2), .int (gI u8 3), .int (gI u8 4), .int (gI u8 5), .int (gI u8 6), .int (gI u8 7)])), ((q0 10), .inr (6, [.int (gI o5 0), .ref (q5 1), .ref (q5 2)])), kJ G (q5 1) 5 (gB o5 1), kJ G (q5 2) 5 (gB o5 2)] := hD
      refine lv_aload_n hx hb d_PV_passTick_22 rfl (lv_at hl 0 rfl) ?_
      refine va_get (D := G.1) (ci := 0) (v := .ref (q0 9)) (C := R_PV) (T := T_PV) (N := 14) hx hb hts i_PV hown hK hP 0 rfl rfl 9 (by decide) (hts _ wf_PV_75) (fun _ h9 => h9) rfl d_PV_passTick_23 ?_
      refine va_get (D := G.1) (ci := 4) (v := .int (gI u8 0)) (C := R_Le) (T := T_Le) (N := 8) hx hb hts i_Le hown hK hP 25 rfl rfl 0 (by decide) (hts _ wf_PV_319) (fun _ h9 => h9) rfl d_PV_passTick_26 ?_
      refine lv_aload_n hx hb d_PV_passTick_29 rfl (lv_at hl 0 rfl) ?_
      refine va_get (D := G.1) (ci := 0) (v := .ref (q0 4)) (C := R_PV) (T := T_PV) (N := 14) hx hb hts i_PV hown hK hP 0 rfl rfl 4 (by decide) (hts _ wf_PV_50) (fun _ h9 => h9) rfl d_PV_passTick_30 ?_
      refine va_get (D := G.1) (ci := 5) (v := .ref (q1 5)) (C := R_Mo) (T := T_Mo) (N := 13) hx hb hts i_Mo hown hK hP 5 rfl rfl 5 (by decide) (hts _ wf_PV_197) (fun _ h9 => h9) rfl d_PV_passTick_33 ?_
      refine lv_iload_n hx hb d_PV_passTick_36 rfl (lv_at hl 1 rfl) ?_
      have g9 := h.1
      have h := h.2
      refine xa_iald hx hb hK hP 8 0 rfl rfl g9 (k := x1.toNatClampNeg) rfl d_PV_passTick_37 ?_
      refine lv_isub hx hb d_PV_passTick_38 ?_
      refine lv_istore_n (lv' := [(2, .int ((gI u8 0) - ((gA o1 5) x1.toNatClampNeg))), (0, .ref h0), (1, .int x1)]) hx hb d_PV_passTick_39 rfl hl (by decide) rfl (fun ls hl => ?_)
      refine lv_aload_n hx hb d_PV_passTick_40 rfl (lv_at hl 1 rfl) ?_
      refine va_get (D := G.1) (ci := 0) (v := .ref (q0 4)) (C := R_PV) (T := T_PV) (N := 14) hx hb hts i_PV hown hK hP 0 rfl rfl 4 (by decide) (hts _ wf_PV_50) (fun _ h9 => h9) rfl d_PV_passTick_41 ?_
      refine va_get (D := G.1) (ci := 5) (v := .ref (q1 5)) (C := R_Mo) (T := T_Mo) (N := 13) hx hb hts i_Mo hown hK hP 5 rfl rfl 5 (by decide) (hts _ wf_PV_197) (fun _ h9 => h9) rfl d_PV_passTick_44 ?_
      refine lv_iload_n hx hb d_PV_passTick_47 rfl (lv_at hl 2 rfl) ?_
      refine lv_dup2_11 hx hb d_PV_passTick_48 rfl rfl ?_
      have g10 := h.1
      have h := h.2
      refine xa_iald hx hb hK hP 8 0 rfl rfl g10 (k := x1.toNatClampNeg) rfl d_PV_passTick_49 ?_
      refine lv_aload_n hx hb d_PV_passTick_50 rfl (lv_at hl 1 rfl) ?_
      refine va_get (D := G.1) (ci := 0) (v := .ref (q0 9)) (C := R_PV) (T := T_PV) (N := 14) hx hb hts i_PV hown hK hP 0 rfl rfl 9 (by decide) (hts _ wf_PV_75) (fun _ h9 => h9) rfl d_PV_passTick_51 ?_
      refine va_get (D := G.1) (ci := 4) (v := .int (gI u8 1)) (C := R_Le) (T := T_Le) (N := 8) hx hb hts i_Le hown hK hP 25 rfl rfl 1 (by decide) (hts _ wf_PV_322) (fun _ h9 => h9) rfl d_PV_passTick_54 ?_
      refine lv_ineg hx hb d_PV_passTick_57 ?_
      refine lv_aload_n hx hb d_PV_passTick_58 rfl (lv_at hl 1 rfl) ?_
      refine va_get (D := G.1) (ci := 0) (v := .ref (q0 9)) (C := R_PV) (T := T_PV) (N := 14) hx hb hts i_PV hown hK hP 0 rfl rfl 9 (by decide) (hts _ wf_PV_75) (fun _ h9 => h9) rfl d_PV_passTick_59 ?_
      refine va_get (D := G.1) (ci := 4) (v := .int (gI u8 1)) (C := R_Le) (T := T_Le) (N := 8) hx hb hts i_Le hown hK hP 25 rfl rfl 1 (by decide) (hts _ wf_PV_322) (fun _ h9 => h9) rfl d_PV_passTick_62 ?_
      refine lv_iload_n hx hb d_PV_passTick_65 rfl (lv_at hl 0 rfl) ?_
      refine va_mmin hx hb (hml.trans hl.1.symm) hown (hts _ wm_PV_9) (hts _ wms_min) (hts _ wmi) (hts _ wmc_min) (Nat.le_of_ble_eq_true rfl) (Nat.le_of_ble_eq_true rfl) (Nat.le_of_ble_eq_true rfl) (Nat.le_of_ble_eq_true rfl) d_PV_passTick_66 ?_
      refine lv_topi (fun y11 ey11 => ?_)
      have h := h y11 ey11
      refine va_mmax hx hb (hml.trans hl.1.symm) hown (hts _ wm_PV_15) (hts _ wms_max) (hts _ wmi) (hts _ wmc_max) (Nat.le_of_ble_eq_true rfl) (Nat.le_of_ble_eq_true rfl) (Nat.le_of_ble_eq_true rfl) (Nat.le_of_ble_eq_true rfl) d_PV_passTick_69 ?_
      refine lv_topi (fun y12 ey12 => ?_)
      have h := h y12 ey12
      refine lv_iadd hx hb d_PV_passTick_72 ?_
      have g13 := h.1
      have h := h.2
      refine xa_iast hx hb hK hP hD hS 8 0 rfl rfl g13 (k := x1.toNatClampNeg) rfl d_PV_passTick_73 (fun H locs hP hD hS => ?_)
      have hP : va_P G.1 CL [(h0, .inr (0, [.int (gI o0 0), .ref (q0 1), .ref (q0 2), .ref (q0 3), .ref (q0 4), .ref (q0 5), .ref (q0 6), .ref (q0 7), .ref (q0 8), .ref (q0 9), .ref (q0 10), .ref (q0 11), .ref (q0 12), .ref (q0 13)])), kQ G (q0 3) 3 (fun i => some (q0 (50 + i))), kI G (q0 6) 1000 (gA o0 6), kJ G (q0 7) 2000 (gB o0 7), kI G (q0 13) 5 (gA o0 13), ((q0 4), .inr (5, [.ref (r1 0), .int (gI o1 1), .int (gI o1 2), .ref (q1 3), .ref (q1 4), .ref (q1 5), .ref (q1 6), .ref (q1 7), .ref (q1 8), .ref (q1 9), .ref (q1 10), .int (gI o1 11), .int (gI o1 12)])), kI G (q1 3) 20 (gA o1 3), kI G (q1 4) 20 (gA o1 4), kI G (q1 5) 5 (upd (gA o1 5) x1.toNatClampNeg (((gA o1 5) x1.toNatClampNeg) + y12)), kJ G (q1 6) 5 (gB o1 6), kJ G (q1 7) 5 (gB o1 7), kJ G (q1 8) 6 (gB o1 8), kI G (q1 10) 5 (gA o1 10), ((q1 9), .inr (1, [.int (gI o2 0), .int (gI o2 1), .int (gI o2 2), .int (gI o2 3), .int (gI o2 4), .int (gI o2 5), .int (gI o2 6)])), ((r1 0), .inr (3, [.ref (q3 0), .int (gI o3 1), .int (gI o3 2), .int (gI o3 3), .int (gI o3 4), .int (gI o3 5), .ref (q3 6), .ref (q3 7), .ref (q3 8), .ref (q3 9), .ref (q3 10), .ref (q3 11), .ref (q3 12), .ref (q3 13), .ref (q3 14)])), kI G (q3 0) 5 (gA o3 0), kI G (q3 6) 20 (gA o3 6), kI G (q3 7) 20 (gA o3 7), kI G (q3 8) 20 (gA o3 8), kI G (q3 9) 20 (gA o3 9), kI G (q3 10) 20 (gA o3 10), kI G (q3 11) 20 (gA o3 11), kI G (q3 12) 8 (gA o3 12), kI G (q3 13) 64 (gA o3 13), kI G (q3 14) 64 (gA o3 14), ((q0 9), .inr (4, [.int (gI u8 0), .int (gI u8 1), .int (gI u8 2), .int (gI u8 3), .int (gI u8 4), .int (gI u8 5), .int (gI u8 6), .int (gI u8 7)])), ((q0 10), .inr (6, [.int (gI o5 0), .ref (q5 1), .ref (q5 2)])), kJ G (q5 1) 5 (gB o5 1), kJ G (q5 2) 5 (gB o5 2)] H := hP
      have hD : va_D A [(h0, .inr (0, [.int (gI o0 0), .ref (q0 1), .ref (q0 2), .ref (q0 3), .ref (q0 4), .ref (q0 5), .ref (q0 6), .ref (q0 7), .ref (q0 8), .ref (q0 9), .ref (q0 10), .ref (q0 11), .ref (q0 12), .ref (q0 13)])), kQ G (q0 3) 3 (fun i => some (q0 (50 + i))), kI G (q0 6) 1000 (gA o0 6), kJ G (q0 7) 2000 (gB o0 7), kI G (q0 13) 5 (gA o0 13), ((q0 4), .inr (5, [.ref (r1 0), .int (gI o1 1), .int (gI o1 2), .ref (q1 3), .ref (q1 4), .ref (q1 5), .ref (q1 6), .ref (q1 7), .ref (q1 8), .ref (q1 9), .ref (q1 10), .int (gI o1 11), .int (gI o1 12)])), kI G (q1 3) 20 (gA o1 3), kI G (q1 4) 20 (gA o1 4), kI G (q1 5) 5 (upd (gA o1 5) x1.toNatClampNeg (((gA o1 5) x1.toNatClampNeg) + y12)), kJ G (q1 6) 5 (gB o1 6), kJ G (q1 7) 5 (gB o1 7), kJ G (q1 8) 6 (gB o1 8), kI G (q1 10) 5 (gA o1 10), ((q1 9), .inr (1, [.int (gI o2 0), .int (gI o2 1), .int (gI o2 2), .int (gI o2 3), .int (gI o2 4), .int (gI o2 5), .int (gI o2 6)])), ((r1 0), .inr (3, [.ref (q3 0), .int (gI o3 1), .int (gI o3 2), .int (gI o3 3), .int (gI o3 4), .int (gI o3 5), .ref (q3 6), .ref (q3 7), .ref (q3 8), .ref (q3 9), .ref (q3 10), .ref (q3 11), .ref (q3 12), .ref (q3 13), .ref (q3 14)])), kI G (q3 0) 5 (gA o3 0), kI G (q3 6) 20 (gA o3 6), kI G (q3 7) 20 (gA o3 7), kI G (q3 8) 20 (gA o3 8), kI G (q3 9) 20 (gA o3 9), kI G (q3 10) 20 (gA o3 10), kI G (q3 11) 20 (gA o3 11), kI G (q3 12) 8 (gA o3 12), kI G (q3 13) 64 (gA o3 13), kI G (q3 14) 64 (gA o3 14), ((q0 9), .inr (4, [.int (gI u8 0), .int (gI u8 1), .int (gI u8 2), .int (gI u8 3), .int (gI u8 4), .int (gI u8 5), .int (gI u8 6), .int (gI u8 7)])), ((q0 10), .inr (6, [.int (gI o5 0), .ref (q5 1), .ref (q5 2)])), kJ G (q5 1) 5 (gB o5 1), kJ G (q5 2) 5 (gB o5 2)] := hD
      refine lv_aload_n hx hb d_PV_passTick_74 rfl (lv_at hl 1 rfl) ?_
      refine va_get (D := G.1) (ci := 0) (v := .ref (q0 6)) (C := R_PV) (T := T_PV) (N := 14) hx hb hts i_PV hown hK hP 0 rfl rfl 6 (by decide) (hts _ wf_PV_57) (fun _ h9 => h9) rfl d_PV_passTick_75 ?_
      refine lv_aload_n hx hb d_PV_passTick_78 rfl (lv_at hl 1 rfl) ?_
      refine va_get (D := G.1) (ci := 0) (v := .ref (q0 4)) (C := R_PV) (T := T_PV) (N := 14) hx hb hts i_PV hown hK hP 0 rfl rfl 4 (by decide) (hts _ wf_PV_50) (fun _ h9 => h9) rfl d_PV_passTick_79 ?_
      refine va_get (D := G.1) (ci := 5) (v := .int (gI o1 1)) (C := R_Mo) (T := T_Mo) (N := 13) hx hb hts i_Mo hown hK hP 5 rfl rfl 1 (by decide) (hts _ wf_PV_173) (fun _ h9 => h9) rfl d_PV_passTick_82 ?_
      refine lv_iconst (v := (5 : Int32)) hx hb d_PV_passTick_85 (by decide) ?_
      refine lv_imul hx hb d_PV_passTick_86 ?_
      refine lv_iload_n hx hb d_PV_passTick_87 rfl (lv_at hl 2 rfl) ?_
      refine lv_iadd hx hb d_PV_passTick_88 ?_
      refine lv_aload_n hx hb d_PV_passTick_89 rfl (lv_at hl 1 rfl) ?_
      refine va_get (D := G.1) (ci := 0) (v := .ref (q0 9)) (C := R_PV) (T := T_PV) (N := 14) hx hb hts i_PV hown hK hP 0 rfl rfl 9 (by decide) (hts _ wf_PV_75) (fun _ h9 => h9) rfl d_PV_passTick_90 ?_
      refine lv_aload_n hx hb d_PV_passTick_93 rfl (lv_at hl 1 rfl) ?_
      refine va_get (D := G.1) (ci := 0) (v := .ref (q0 4)) (C := R_PV) (T := T_PV) (N := 14) hx hb hts i_PV hown hK hP 0 rfl rfl 4 (by decide) (hts _ wf_PV_50) (fun _ h9 => h9) rfl d_PV_passTick_94 ?_
      refine va_get (D := G.1) (ci := 5) (v := .ref (q1 5)) (C := R_Mo) (T := T_Mo) (N := 13) hx hb hts i_Mo hown hK hP 5 rfl rfl 5 (by decide) (hts _ wf_PV_197) (fun _ h9 => h9) rfl d_PV_passTick_97 ?_
      refine lv_iload_n hx hb d_PV_passTick_100 rfl (lv_at hl 2 rfl) ?_
      have g14 := h.1
      have h := h.2
      refine xa_iald hx hb hK hP 8 0 rfl rfl g14 (k := x1.toNatClampNeg) rfl d_PV_passTick_101 ?_
      refine lv_topi (fun y15 ey15 => ?_)
      have h := h y15 ey15
      refine cl_Vi (b := b_PV_passTick) (As := [.int y15]) (rest := [.int (((gI o1 1) * (5 : Int32)) + x1), .ref (q0 6)]) (ws := [(h0, .inr (0, [.int (gI o0 0), .ref (q0 1), .ref (q0 2), .ref (q0 3), .ref (q0 4), .ref (q0 5), .ref (q0 6), .ref (q0 7), .ref (q0 8), .ref (q0 9), .ref (q0 10), .ref (q0 11), .ref (q0 12), .ref (q0 13)])), kQ G (q0 3) 3 (fun i => some (q0 (50 + i))), kI G (q0 6) 1000 (gA o0 6), kJ G (q0 7) 2000 (gB o0 7), kI G (q0 13) 5 (gA o0 13), ((q0 4), .inr (5, [.ref (r1 0), .int (gI o1 1), .int (gI o1 2), .ref (q1 3), .ref (q1 4), .ref (q1 5), .ref (q1 6), .ref (q1 7), .ref (q1 8), .ref (q1 9), .ref (q1 10), .int (gI o1 11), .int (gI o1 12)])), kI G (q1 3) 20 (gA o1 3), kI G (q1 4) 20 (gA o1 4), kI G (q1 5) 5 (upd (gA o1 5) x1.toNatClampNeg (((gA o1 5) x1.toNatClampNeg) + y12)), kJ G (q1 6) 5 (gB o1 6), kJ G (q1 7) 5 (gB o1 7), kJ G (q1 8) 6 (gB o1 8), kI G (q1 10) 5 (gA o1 10), ((q1 9), .inr (1, [.int (gI o2 0), .int (gI o2 1), .int (gI o2 2), .int (gI o2 3), .int (gI o2 4), .int (gI o2 5), .int (gI o2 6)])), ((r1 0), .inr (3, [.ref (q3 0), .int (gI o3 1), .int (gI o3 2), .int (gI o3 3), .int (gI o3 4), .int (gI o3 5), .ref (q3 6), .ref (q3 7), .ref (q3 8), .ref (q3 9), .ref (q3 10), .ref (q3 11), .ref (q3 12), .ref (q3 13), .ref (q3 14)])), kI G (q3 0) 5 (gA o3 0), kI G (q3 6) 20 (gA o3 6), kI G (q3 7) 20 (gA o3 7), kI G (q3 8) 20 (gA o3 8), kI G (q3 9) 20 (gA o3 9), kI G (q3 10) 20 (gA o3 10), kI G (q3 11) 20 (gA o3 11), kI G (q3 12) 8 (gA o3 12), kI G (q3 13) 64 (gA o3 13), kI G (q3 14) 64 (gA o3 14), ((q0 9), .inr (4, [.int (gI u8 0), .int (gI u8 1), .int (gI u8 2), .int (gI u8 3), .int (gI u8 4), .int (gI u8 5), .int (gI u8 6), .int (gI u8 7)])), ((q0 10), .inr (6, [.int (gI o5 0), .ref (q5 1), .ref (q5 2)])), kJ G (q5 1) 5 (gB o5 1), kJ G (q5 2) 5 (gB o5 2)]) (wr := [(h0, .inr (0, [.int (gI o0 0), .ref (q0 1), .ref (q0 2), .ref (q0 3), .ref (q0 4), .ref (q0 5), .ref (q0 6), .ref (q0 7), .ref (q0 8), .ref (q0 9), .ref (q0 10), .ref (q0 11), .ref (q0 12), .ref (q0 13)])), kQ G (q0 3) 3 (fun i => some (q0 (50 + i))), kI G (q0 6) 1000 (gA o0 6), kJ G (q0 7) 2000 (gB o0 7), kI G (q0 13) 5 (gA o0 13), ((q0 4), .inr (5, [.ref (r1 0), .int (gI o1 1), .int (gI o1 2), .ref (q1 3), .ref (q1 4), .ref (q1 5), .ref (q1 6), .ref (q1 7), .ref (q1 8), .ref (q1 9), .ref (q1 10), .int (gI o1 11), .int (gI o1 12)])), kI G (q1 3) 20 (gA o1 3), kI G (q1 4) 20 (gA o1 4), kI G (q1 5) 5 (upd (gA o1 5) x1.toNatClampNeg (((gA o1 5) x1.toNatClampNeg) + y12)), kJ G (q1 6) 5 (gB o1 6), kJ G (q1 7) 5 (gB o1 7), kJ G (q1 8) 6 (gB o1 8), kI G (q1 10) 5 (gA o1 10), ((q1 9), .inr (1, [.int (gI o2 0), .int (gI o2 1), .int (gI o2 2), .int (gI o2 3), .int (gI o2 4), .int (gI o2 5), .int (gI o2 6)])), ((r1 0), .inr (3, [.ref (q3 0), .int (gI o3 1), .int (gI o3 2), .int (gI o3 3), .int (gI o3 4), .int (gI o3 5), .ref (q3 6), .ref (q3 7), .ref (q3 8), .ref (q3 9), .ref (q3 10), .ref (q3 11), .ref (q3 12), .ref (q3 13), .ref (q3 14)])), kI G (q3 0) 5 (gA o3 0), kI G (q3 6) 20 (gA o3 6), kI G (q3 7) 20 (gA o3 7), kI G (q3 8) 20 (gA o3 8), kI G (q3 9) 20 (gA o3 9), kI G (q3 10) 20 (gA o3 10), kI G (q3 11) 20 (gA o3 11), kI G (q3 12) 8 (gA o3 12), kI G (q3 13) 64 (gA o3 13), kI G (q3 14) 64 (gA o3 14), ((q0 10), .inr (6, [.int (gI o5 0), .ref (q5 1), .ref (q5 2)])), kJ G (q5 1) 5 (gB o5 1), kJ G (q5 2) 5 (gB o5 2)]) (w2 := fun (u : Unit) => [(h0, .inr (0, [.int (gI o0 0), .ref (q0 1), .ref (q0 2), .ref (q0 3), .ref (q0 4), .ref (q0 5), .ref (q0 6), .ref (q0 7), .ref (q0 8), .ref (q0 9), .ref (q0 10), .ref (q0 11), .ref (q0 12), .ref (q0 13)])), kQ G (q0 3) 3 (fun i => some (q0 (50 + i))), kI G (q0 6) 1000 (gA o0 6), kJ G (q0 7) 2000 (gB o0 7), kI G (q0 13) 5 (gA o0 13), ((q0 4), .inr (5, [.ref (r1 0), .int (gI o1 1), .int (gI o1 2), .ref (q1 3), .ref (q1 4), .ref (q1 5), .ref (q1 6), .ref (q1 7), .ref (q1 8), .ref (q1 9), .ref (q1 10), .int (gI o1 11), .int (gI o1 12)])), kI G (q1 3) 20 (gA o1 3), kI G (q1 4) 20 (gA o1 4), kI G (q1 5) 5 (upd (gA o1 5) x1.toNatClampNeg (((gA o1 5) x1.toNatClampNeg) + y12)), kJ G (q1 6) 5 (gB o1 6), kJ G (q1 7) 5 (gB o1 7), kJ G (q1 8) 6 (gB o1 8), kI G (q1 10) 5 (gA o1 10), ((q1 9), .inr (1, [.int (gI o2 0), .int (gI o2 1), .int (gI o2 2), .int (gI o2 3), .int (gI o2 4), .int (gI o2 5), .int (gI o2 6)])), ((r1 0), .inr (3, [.ref (q3 0), .int (gI o3 1), .int (gI o3 2), .int (gI o3 3), .int (gI o3 4), .int (gI o3 5), .ref (q3 6), .ref (q3 7), .ref (q3 8), .ref (q3 9), .ref (q3 10), .ref (q3 11), .ref (q3 12), .ref (q3 13), .ref (q3 14)])), kI G (q3 0) 5 (gA o3 0), kI G (q3 6) 20 (gA o3 6), kI G (q3 7) 20 (gA o3 7), kI G (q3 8) 20 (gA o3 8), kI G (q3 9) 20 (gA o3 9), kI G (q3 10) 20 (gA o3 10), kI G (q3 11) 20 (gA o3 11), kI G (q3 12) 8 (gA o3 12), kI G (q3 13) 64 (gA o3 13), kI G (q3 14) 64 (gA o3 14), ((q0 9), .inr (4, [.int (gI u8 0), .int (gI u8 1), .int (gI u8 2), .int (gI u8 3), .int (gI u8 4), .int (gI u8 5), .int (gI u8 6), .int (gI u8 7)])), ((q0 10), .inr (6, [.int (gI o5 0), .ref (q5 1), .ref (q5 2)])), kJ G (q5 1) 5 (gB o5 1), kJ G (q5 2) 5 (gB o5 2)]) C (c_Le_packed (h0 := (q0 9)) (q0 := q4) H.size h) wv_PV_325 ⟨Nat.le_of_ble_eq_true rfl, Nat.le_of_ble_eq_true rfl⟩ hP hD hS 25 rfl rfl [25] [0, 1, 2, 3, 4, 5, 6, 7, 8, 9, 10, 11, 12, 13, 14, 15, 16, 17, 18, 19, 20, 21, 22, 23, 24, 26, 27, 28] rfl rfl (by decide) (by decide) (by decide) [0, 1, 2, 3, 4, 5, 6, 7, 8, 9, 10, 11, 12, 13, 14, 15, 16, 17, 18, 19, 20, 21, 22, 23, 24, 28, 25, 26, 27] (by decide) (fun u => rfl) rfl hl.1 rfl (lv_room (Nat.le_of_ble_eq_true rfl)) d_PV_passTick_102 ⟨Nat.le_of_ble_eq_true rfl, Nat.le_of_ble_eq_true rfl⟩ rfl rfl (fun z16 u H locs h hP hD hS => ?_)
      have hP : va_P G.1 CL [(h0, .inr (0, [.int (gI o0 0), .ref (q0 1), .ref (q0 2), .ref (q0 3), .ref (q0 4), .ref (q0 5), .ref (q0 6), .ref (q0 7), .ref (q0 8), .ref (q0 9), .ref (q0 10), .ref (q0 11), .ref (q0 12), .ref (q0 13)])), kQ G (q0 3) 3 (fun i => some (q0 (50 + i))), kI G (q0 6) 1000 (gA o0 6), kJ G (q0 7) 2000 (gB o0 7), kI G (q0 13) 5 (gA o0 13), ((q0 4), .inr (5, [.ref (r1 0), .int (gI o1 1), .int (gI o1 2), .ref (q1 3), .ref (q1 4), .ref (q1 5), .ref (q1 6), .ref (q1 7), .ref (q1 8), .ref (q1 9), .ref (q1 10), .int (gI o1 11), .int (gI o1 12)])), kI G (q1 3) 20 (gA o1 3), kI G (q1 4) 20 (gA o1 4), kI G (q1 5) 5 (upd (gA o1 5) x1.toNatClampNeg (((gA o1 5) x1.toNatClampNeg) + y12)), kJ G (q1 6) 5 (gB o1 6), kJ G (q1 7) 5 (gB o1 7), kJ G (q1 8) 6 (gB o1 8), kI G (q1 10) 5 (gA o1 10), ((q1 9), .inr (1, [.int (gI o2 0), .int (gI o2 1), .int (gI o2 2), .int (gI o2 3), .int (gI o2 4), .int (gI o2 5), .int (gI o2 6)])), ((r1 0), .inr (3, [.ref (q3 0), .int (gI o3 1), .int (gI o3 2), .int (gI o3 3), .int (gI o3 4), .int (gI o3 5), .ref (q3 6), .ref (q3 7), .ref (q3 8), .ref (q3 9), .ref (q3 10), .ref (q3 11), .ref (q3 12), .ref (q3 13), .ref (q3 14)])), kI G (q3 0) 5 (gA o3 0), kI G (q3 6) 20 (gA o3 6), kI G (q3 7) 20 (gA o3 7), kI G (q3 8) 20 (gA o3 8), kI G (q3 9) 20 (gA o3 9), kI G (q3 10) 20 (gA o3 10), kI G (q3 11) 20 (gA o3 11), kI G (q3 12) 8 (gA o3 12), kI G (q3 13) 64 (gA o3 13), kI G (q3 14) 64 (gA o3 14), ((q0 9), .inr (4, [.int (gI u8 0), .int (gI u8 1), .int (gI u8 2), .int (gI u8 3), .int (gI u8 4), .int (gI u8 5), .int (gI u8 6), .int (gI u8 7)])), ((q0 10), .inr (6, [.int (gI o5 0), .ref (q5 1), .ref (q5 2)])), kJ G (q5 1) 5 (gB o5 1), kJ G (q5 2) 5 (gB o5 2)] H := hP
      have hD : va_D A [(h0, .inr (0, [.int (gI o0 0), .ref (q0 1), .ref (q0 2), .ref (q0 3), .ref (q0 4), .ref (q0 5), .ref (q0 6), .ref (q0 7), .ref (q0 8), .ref (q0 9), .ref (q0 10), .ref (q0 11), .ref (q0 12), .ref (q0 13)])), kQ G (q0 3) 3 (fun i => some (q0 (50 + i))), kI G (q0 6) 1000 (gA o0 6), kJ G (q0 7) 2000 (gB o0 7), kI G (q0 13) 5 (gA o0 13), ((q0 4), .inr (5, [.ref (r1 0), .int (gI o1 1), .int (gI o1 2), .ref (q1 3), .ref (q1 4), .ref (q1 5), .ref (q1 6), .ref (q1 7), .ref (q1 8), .ref (q1 9), .ref (q1 10), .int (gI o1 11), .int (gI o1 12)])), kI G (q1 3) 20 (gA o1 3), kI G (q1 4) 20 (gA o1 4), kI G (q1 5) 5 (upd (gA o1 5) x1.toNatClampNeg (((gA o1 5) x1.toNatClampNeg) + y12)), kJ G (q1 6) 5 (gB o1 6), kJ G (q1 7) 5 (gB o1 7), kJ G (q1 8) 6 (gB o1 8), kI G (q1 10) 5 (gA o1 10), ((q1 9), .inr (1, [.int (gI o2 0), .int (gI o2 1), .int (gI o2 2), .int (gI o2 3), .int (gI o2 4), .int (gI o2 5), .int (gI o2 6)])), ((r1 0), .inr (3, [.ref (q3 0), .int (gI o3 1), .int (gI o3 2), .int (gI o3 3), .int (gI o3 4), .int (gI o3 5), .ref (q3 6), .ref (q3 7), .ref (q3 8), .ref (q3 9), .ref (q3 10), .ref (q3 11), .ref (q3 12), .ref (q3 13), .ref (q3 14)])), kI G (q3 0) 5 (gA o3 0), kI G (q3 6) 20 (gA o3 6), kI G (q3 7) 20 (gA o3 7), kI G (q3 8) 20 (gA o3 8), kI G (q3 9) 20 (gA o3 9), kI G (q3 10) 20 (gA o3 10), kI G (q3 11) 20 (gA o3 11), kI G (q3 12) 8 (gA o3 12), kI G (q3 13) 64 (gA o3 13), kI G (q3 14) 64 (gA o3 14), ((q0 9), .inr (4, [.int (gI u8 0), .int (gI u8 1), .int (gI u8 2), .int (gI u8 3), .int (gI u8 4), .int (gI u8 5), .int (gI u8 6), .int (gI u8 7)])), ((q0 10), .inr (6, [.int (gI o5 0), .ref (q5 1), .ref (q5 2)])), kJ G (q5 1) 5 (gB o5 1), kJ G (q5 2) 5 (gB o5 2)] := hD
      have g17 := h.1
      have h := h.2
      refine xa_iast hx hb hK hP hD hS 2 0 rfl rfl g17 (k := (((gI o1 1) * (5 : Int32)) + x1).toNatClampNeg) rfl d_PV_passTick_105 (fun H locs hP hD hS => ?_)
      have hP : va_P G.1 CL [(h0, .inr (0, [.int (gI o0 0), .ref (q0 1), .ref (q0 2), .ref (q0 3), .ref (q0 4), .ref (q0 5), .ref (q0 6), .ref (q0 7), .ref (q0 8), .ref (q0 9), .ref (q0 10), .ref (q0 11), .ref (q0 12), .ref (q0 13)])), kQ G (q0 3) 3 (fun i => some (q0 (50 + i))), kI G (q0 6) 1000 (upd (gA o0 6) ((((gI o1 1) * (5 : Int32)) + x1).toNatClampNeg) z16), kJ G (q0 7) 2000 (gB o0 7), kI G (q0 13) 5 (gA o0 13), ((q0 4), .inr (5, [.ref (r1 0), .int (gI o1 1), .int (gI o1 2), .ref (q1 3), .ref (q1 4), .ref (q1 5), .ref (q1 6), .ref (q1 7), .ref (q1 8), .ref (q1 9), .ref (q1 10), .int (gI o1 11), .int (gI o1 12)])), kI G (q1 3) 20 (gA o1 3), kI G (q1 4) 20 (gA o1 4), kI G (q1 5) 5 (upd (gA o1 5) x1.toNatClampNeg (((gA o1 5) x1.toNatClampNeg) + y12)), kJ G (q1 6) 5 (gB o1 6), kJ G (q1 7) 5 (gB o1 7), kJ G (q1 8) 6 (gB o1 8), kI G (q1 10) 5 (gA o1 10), ((q1 9), .inr (1, [.int (gI o2 0), .int (gI o2 1), .int (gI o2 2), .int (gI o2 3), .int (gI o2 4), .int (gI o2 5), .int (gI o2 6)])), ((r1 0), .inr (3, [.ref (q3 0), .int (gI o3 1), .int (gI o3 2), .int (gI o3 3), .int (gI o3 4), .int (gI o3 5), .ref (q3 6), .ref (q3 7), .ref (q3 8), .ref (q3 9), .ref (q3 10), .ref (q3 11), .ref (q3 12), .ref (q3 13), .ref (q3 14)])), kI G (q3 0) 5 (gA o3 0), kI G (q3 6) 20 (gA o3 6), kI G (q3 7) 20 (gA o3 7), kI G (q3 8) 20 (gA o3 8), kI G (q3 9) 20 (gA o3 9), kI G (q3 10) 20 (gA o3 10), kI G (q3 11) 20 (gA o3 11), kI G (q3 12) 8 (gA o3 12), kI G (q3 13) 64 (gA o3 13), kI G (q3 14) 64 (gA o3 14), ((q0 9), .inr (4, [.int (gI u8 0), .int (gI u8 1), .int (gI u8 2), .int (gI u8 3), .int (gI u8 4), .int (gI u8 5), .int (gI u8 6), .int (gI u8 7)])), ((q0 10), .inr (6, [.int (gI o5 0), .ref (q5 1), .ref (q5 2)])), kJ G (q5 1) 5 (gB o5 1), kJ G (q5 2) 5 (gB o5 2)] H := hP
      have hD : va_D A [(h0, .inr (0, [.int (gI o0 0), .ref (q0 1), .ref (q0 2), .ref (q0 3), .ref (q0 4), .ref (q0 5), .ref (q0 6), .ref (q0 7), .ref (q0 8), .ref (q0 9), .ref (q0 10), .ref (q0 11), .ref (q0 12), .ref (q0 13)])), kQ G (q0 3) 3 (fun i => some (q0 (50 + i))), kI G (q0 6) 1000 (upd (gA o0 6) ((((gI o1 1) * (5 : Int32)) + x1).toNatClampNeg) z16), kJ G (q0 7) 2000 (gB o0 7), kI G (q0 13) 5 (gA o0 13), ((q0 4), .inr (5, [.ref (r1 0), .int (gI o1 1), .int (gI o1 2), .ref (q1 3), .ref (q1 4), .ref (q1 5), .ref (q1 6), .ref (q1 7), .ref (q1 8), .ref (q1 9), .ref (q1 10), .int (gI o1 11), .int (gI o1 12)])), kI G (q1 3) 20 (gA o1 3), kI G (q1 4) 20 (gA o1 4), kI G (q1 5) 5 (upd (gA o1 5) x1.toNatClampNeg (((gA o1 5) x1.toNatClampNeg) + y12)), kJ G (q1 6) 5 (gB o1 6), kJ G (q1 7) 5 (gB o1 7), kJ G (q1 8) 6 (gB o1 8), kI G (q1 10) 5 (gA o1 10), ((q1 9), .inr (1, [.int (gI o2 0), .int (gI o2 1), .int (gI o2 2), .int (gI o2 3), .int (gI o2 4), .int (gI o2 5), .int (gI o2 6)])), ((r1 0), .inr (3, [.ref (q3 0), .int (gI o3 1), .int (gI o3 2), .int (gI o3 3), .int (gI o3 4), .int (gI o3 5), .ref (q3 6), .ref (q3 7), .ref (q3 8), .ref (q3 9), .ref (q3 10), .ref (q3 11), .ref (q3 12), .ref (q3 13), .ref (q3 14)])), kI G (q3 0) 5 (gA o3 0), kI G (q3 6) 20 (gA o3 6), kI G (q3 7) 20 (gA o3 7), kI G (q3 8) 20 (gA o3 8), kI G (q3 9) 20 (gA o3 9), kI G (q3 10) 20 (gA o3 10), kI G (q3 11) 20 (gA o3 11), kI G (q3 12) 8 (gA o3 12), kI G (q3 13) 64 (gA o3 13), kI G (q3 14) 64 (gA o3 14), ((q0 9), .inr (4, [.int (gI u8 0), .int (gI u8 1), .int (gI u8 2), .int (gI u8 3), .int (gI u8 4), .int (gI u8 5), .int (gI u8 6), .int (gI u8 7)])), ((q0 10), .inr (6, [.int (gI o5 0), .ref (q5 1), .ref (q5 2)])), kJ G (q5 1) 5 (gB o5 1), kJ G (q5 2) 5 (gB o5 2)] := hD
      refine lv_iinc (v := (x1 + (1 : Int32))) (lv' := [(1, .int (x1 + (1 : Int32))), (2, .int ((gI u8 0) - ((gA o1 5) x1.toNatClampNeg))), (0, .ref h0)]) hx hb d_PV_passTick_106 hl (k := 2) rfl rfl (by decide) rfl (fun ls hl => ?_)
      refine lv_goto (tgt := 2) hx hb d_PV_passTick_109 (by decide) ?_
      have hl := lv_sub (l' := [(0, .ref h0), (1, .int (x1 + (1 : Int32)))]) hl [2, 0] rfl
      have hP : va_P G.1 CL (cw_PV G h0 q0 (sA o0 6 (upd (gA o0 6) ((((gI o1 1) * (5 : Int32)) + x1).toNatClampNeg) z16)) ++ (cw_Mo G (q0 4) q1 r1 (sA o1 5 (upd (gA o1 5) x1.toNatClampNeg (((gA o1 5) x1.toNatClampNeg) + y12))) ++ (cw_Fo G (q1 9) q2 o2 ++ (cw_La G (r1 0) q3 o3 ++ (cw_Le G (q0 9) q4 u8 ++ (cw_Pi G (q0 10) q5 o5)))))) H := hP
      have hD : va_D A (cw_PV G h0 q0 (sA o0 6 (upd (gA o0 6) ((((gI o1 1) * (5 : Int32)) + x1).toNatClampNeg) z16)) ++ (cw_Mo G (q0 4) q1 r1 (sA o1 5 (upd (gA o1 5) x1.toNatClampNeg (((gA o1 5) x1.toNatClampNeg) + y12))) ++ (cw_Fo G (q1 9) q2 o2 ++ (cw_La G (r1 0) q3 o3 ++ (cw_Le G (q0 9) q4 u8 ++ (cw_Pi G (q0 10) q5 o5)))))) := hD
      exact ih (x1 + (1 : Int32)) (sA o0 6 (upd (gA o0 6) ((((gI o1 1) * (5 : Int32)) + x1).toNatClampNeg) z16)) (sA o1 5 (upd (gA o1 5) x1.toNatClampNeg (((gA o1 5) x1.toNatClampNeg) + y12))) o2 u8 o5 ls H locs hl hP hD hS h
set_option maxHeartbeats 4000000 in
set_option maxRecDepth 100000 in
theorem c_PV_passTick {l : Launch} {G : Gl} {h0 : Nat} {q0 : Nat → Nat} {q1 : Nat → Nat} {q2 : Nat → Nat} {q3 : Nat → Nat} {q4 : Nat → Nat} {q5 : Nat → Nat} {o0 : Ob} {r1 : (Nat → Nat)} {o1 : Ob} {o2 : Ob} {o3 : Ob} {o4 : Ob} {o5 : Ob} {Q : Ob → Ob → Ob → Ob → Ob → Prop} (sz : Nat) (h : f_PV_passTick o0 r1 o1 o2 o3 o4 o5 Q) : Met l y_PV_passTick w_PV_passTick rm_PV_passTick (PcW G [.ref h0] sz (cw_PV G h0 q0 o0 ++ (cw_Mo G (q0 4) q1 r1 o1 ++ (cw_Fo G (q1 9) q2 o2 ++ (cw_La G (r1 0) q3 o3 ++ (cw_Le G (q0 9) q4 o4 ++ (cw_Pi G (q0 10) q5 o5))))))) (va_Qv (fun (u : Ob × Ob × Ob × Ob × Ob) => Q u.1 u.2.1 u.2.2.1 u.2.2.2.1 u.2.2.2.2) (fun (u : Ob × Ob × Ob × Ob × Ob) t => BW G (va_A (cw_PV G h0 q0 o0 ++ (cw_Mo G (q0 4) q1 r1 o1 ++ (cw_Fo G (q1 9) q2 o2 ++ (cw_La G (r1 0) q3 o3 ++ (cw_Le G (q0 9) q4 o4 ++ (cw_Pi G (q0 10) q5 o5)))))) sz) (cw_PV G h0 q0 u.1 ++ (cw_Mo G (q0 4) q1 r1 u.2.1 ++ (cw_Fo G (q1 9) q2 u.2.2.1 ++ (cw_La G (r1 0) q3 o3 ++ (cw_Le G (q0 9) q4 u.2.2.2.1 ++ (cw_Pi G (q0 10) q5 u.2.2.2.2)))))) t) (va_A (cw_PV G h0 q0 o0 ++ (cw_Mo G (q0 4) q1 r1 o1 ++ (cw_Fo G (q1 9) q2 o2 ++ (cw_La G (r1 0) q3 o3 ++ (cw_Le G (q0 9) q4 o4 ++ (cw_Pi G (q0 10) q5 o5)))))) sz)) 0 0 (va_A (cw_PV G h0 q0 o0 ++ (cw_Mo G (q0 4) q1 r1 o1 ++ (cw_Fo G (q1 9) q2 o2 ++ (cw_La G (r1 0) q3 o3 ++ (cw_Le G (q0 9) q4 o4 ++ (cw_Pi G (q0 10) q5 o5)))))) sz) := by
  refine Met.ofW (cc := b_PV_passTick) (maxL := 3) (ret := none) (by decide +kernel) rfl ?_
  intro p e s m args below meth c s₁ B hml hv
  obtain ⟨rfl, hsz, hP, hK, hD0, hE⟩ := hv
  have hx := B.exec
  have hb := B.bytes
  have hr := B.returns
  have hts0 := atoms_spec (ws := w_PV_passTick) B.pre
  have hts : ∀ w ∈ gw_tbl, w.before ([.ref h0]).toArray s = true := fun w hw => hts0 w (List.mem_cons_of_mem _ hw)
  have hown : s.vm.findClass R_PV = some m.cls := findClass_of_methodNamed B.named
  have hlocks := B.notSynchronized
  subst hsz
  have hD := hD0.self (sz := s.heap.size)
  generalize hAe : va_A (cw_PV G h0 q0 o0 ++ (cw_Mo G (q0 4) q1 r1 o1 ++ (cw_Fo G (q1 9) q2 o2 ++ (cw_La G (r1 0) q3 o3 ++ (cw_Le G (q0 9) q4 o4 ++ (cw_Pi G (q0 10) q5 o5)))))) s.heap.size = A at hD hE ⊢
  have hA : ∀ q : Nat, s.heap.size ≤ q → A q := fun q h => by rw [← hAe]; exact Or.inr h
  have hS : va_S A s.heap s.heap [] := va_S.rf
  have C : Cx p s m ([.ref h0]).toArray meth c R_PV b_PV_passTick 3 none G A := ⟨hx, hb, hml, hown, hr, hts, hK, hA, hlocks, hE⟩
  have hl := lv_entry ([.ref h0]) (n := 3) (Nat.le_of_ble_eq_true rfl)
  rw [lg_entry_eq]
  generalize (lg_sl ([.ref h0]) ++ List.replicate (3 - (lg_sl ([.ref h0])).length) Slot.unset).toArray = ls at hl ⊢
  have hl : lv_has ls 3 [(0, .ref h0)] := hl
  have hD : va_D A [(h0, .inr (0, [.int (gI o0 0), .ref (q0 1), .ref (q0 2), .ref (q0 3), .ref (q0 4), .ref (q0 5), .ref (q0 6), .ref (q0 7), .ref (q0 8), .ref (q0 9), .ref (q0 10), .ref (q0 11), .ref (q0 12), .ref (q0 13)])), kQ G (q0 3) 3 (fun i => some (q0 (50 + i))), kI G (q0 6) 1000 (gA o0 6), kJ G (q0 7) 2000 (gB o0 7), kI G (q0 13) 5 (gA o0 13), ((q0 4), .inr (5, [.ref (r1 0), .int (gI o1 1), .int (gI o1 2), .ref (q1 3), .ref (q1 4), .ref (q1 5), .ref (q1 6), .ref (q1 7), .ref (q1 8), .ref (q1 9), .ref (q1 10), .int (gI o1 11), .int (gI o1 12)])), kI G (q1 3) 20 (gA o1 3), kI G (q1 4) 20 (gA o1 4), kI G (q1 5) 5 (gA o1 5), kJ G (q1 6) 5 (gB o1 6), kJ G (q1 7) 5 (gB o1 7), kJ G (q1 8) 6 (gB o1 8), kI G (q1 10) 5 (gA o1 10), ((q1 9), .inr (1, [.int (gI o2 0), .int (gI o2 1), .int (gI o2 2), .int (gI o2 3), .int (gI o2 4), .int (gI o2 5), .int (gI o2 6)])), ((r1 0), .inr (3, [.ref (q3 0), .int (gI o3 1), .int (gI o3 2), .int (gI o3 3), .int (gI o3 4), .int (gI o3 5), .ref (q3 6), .ref (q3 7), .ref (q3 8), .ref (q3 9), .ref (q3 10), .ref (q3 11), .ref (q3 12), .ref (q3 13), .ref (q3 14)])), kI G (q3 0) 5 (gA o3 0), kI G (q3 6) 20 (gA o3 6), kI G (q3 7) 20 (gA o3 7), kI G (q3 8) 20 (gA o3 8), kI G (q3 9) 20 (gA o3 9), kI G (q3 10) 20 (gA o3 10), kI G (q3 11) 20 (gA o3 11), kI G (q3 12) 8 (gA o3 12), kI G (q3 13) 64 (gA o3 13), kI G (q3 14) 64 (gA o3 14), ((q0 9), .inr (4, [.int (gI o4 0), .int (gI o4 1), .int (gI o4 2), .int (gI o4 3), .int (gI o4 4), .int (gI o4 5), .int (gI o4 6), .int (gI o4 7)])), ((q0 10), .inr (6, [.int (gI o5 0), .ref (q5 1), .ref (q5 2)])), kJ G (q5 1) 5 (gB o5 1), kJ G (q5 2) 5 (gB o5 2)] := hD
  unfold f_PV_passTick at h
  suffices key : ∀ (H : Heap) (locs : List Loc), va_P G.1 CL [(h0, .inr (0, [.int (gI o0 0), .ref (q0 1), .ref (q0 2), .ref (q0 3), .ref (q0 4), .ref (q0 5), .ref (q0 6), .ref (q0 7), .ref (q0 8), .ref (q0 9), .ref (q0 10), .ref (q0 11), .ref (q0 12), .ref (q0 13)])), kQ G (q0 3) 3 (fun i => some (q0 (50 + i))), kI G (q0 6) 1000 (gA o0 6), kJ G (q0 7) 2000 (gB o0 7), kI G (q0 13) 5 (gA o0 13), ((q0 4), .inr (5, [.ref (r1 0), .int (gI o1 1), .int (gI o1 2), .ref (q1 3), .ref (q1 4), .ref (q1 5), .ref (q1 6), .ref (q1 7), .ref (q1 8), .ref (q1 9), .ref (q1 10), .int (gI o1 11), .int (gI o1 12)])), kI G (q1 3) 20 (gA o1 3), kI G (q1 4) 20 (gA o1 4), kI G (q1 5) 5 (gA o1 5), kJ G (q1 6) 5 (gB o1 6), kJ G (q1 7) 5 (gB o1 7), kJ G (q1 8) 6 (gB o1 8), kI G (q1 10) 5 (gA o1 10), ((q1 9), .inr (1, [.int (gI o2 0), .int (gI o2 1), .int (gI o2 2), .int (gI o2 3), .int (gI o2 4), .int (gI o2 5), .int (gI o2 6)])), ((r1 0), .inr (3, [.ref (q3 0), .int (gI o3 1), .int (gI o3 2), .int (gI o3 3), .int (gI o3 4), .int (gI o3 5), .ref (q3 6), .ref (q3 7), .ref (q3 8), .ref (q3 9), .ref (q3 10), .ref (q3 11), .ref (q3 12), .ref (q3 13), .ref (q3 14)])), kI G (q3 0) 5 (gA o3 0), kI G (q3 6) 20 (gA o3 6), kI G (q3 7) 20 (gA o3 7), kI G (q3 8) 20 (gA o3 8), kI G (q3 9) 20 (gA o3 9), kI G (q3 10) 20 (gA o3 10), kI G (q3 11) 20 (gA o3 11), kI G (q3 12) 8 (gA o3 12), kI G (q3 13) 64 (gA o3 13), kI G (q3 14) 64 (gA o3 14), ((q0 9), .inr (4, [.int (gI o4 0), .int (gI o4 1), .int (gI o4 2), .int (gI o4 3), .int (gI o4 4), .int (gI o4 5), .int (gI o4 6), .int (gI o4 7)])), ((q0 10), .inr (6, [.int (gI o5 0), .ref (q5 1), .ref (q5 2)])), kJ G (q5 1) 5 (gB o5 1), kJ G (q5 2) 5 (gB o5 2)] H → va_S A s.heap H locs → W p l e rm_PV_passTick s m ([.ref h0]).toArray below meth c H locs 0 0 (MQ below (va_Qv (fun (u : Ob × Ob × Ob × Ob × Ob) => Q u.1 u.2.1 u.2.2.1 u.2.2.2.1 u.2.2.2.2) (fun (u : Ob × Ob × Ob × Ob × Ob) t => BW G A (cw_PV G h0 q0 u.1 ++ (cw_Mo G (q0 4) q1 r1 u.2.1 ++ (cw_Fo G (q1 9) q2 u.2.2.1 ++ (cw_La G (r1 0) q3 o3 ++ (cw_Le G (q0 9) q4 u.2.2.2.1 ++ (cw_Pi G (q0 10) q5 u.2.2.2.2)))))) t) A) ([.ref h0]).toArray s 0 0 A) (F0 m 0 ls []) from key s.heap [] hP hS
  intro H locs hP hS
  refine lv_iconst (v := (0 : Int32)) hx hb d_PV_passTick_0 (by decide) ?_
  refine lv_istore_n (lv' := [(1, .int (0 : Int32)), (0, .ref h0)]) hx hb d_PV_passTick_1 rfl hl (by decide) rfl (fun ls hl => ?_)
  have hl := lv_sub (l' := [(0, .ref h0), (1, .int (0 : Int32))]) hl [1, 0] rfl
  have hP : va_P G.1 CL (cw_PV G h0 q0 o0 ++ (cw_Mo G (q0 4) q1 r1 o1 ++ (cw_Fo G (q1 9) q2 o2 ++ (cw_La G (r1 0) q3 o3 ++ (cw_Le G (q0 9) q4 o4 ++ (cw_Pi G (q0 10) q5 o5)))))) H := hP
  have hD : va_D A (cw_PV G h0 q0 o0 ++ (cw_Mo G (q0 4) q1 r1 o1 ++ (cw_Fo G (q1 9) q2 o2 ++ (cw_La G (r1 0) q3 o3 ++ (cw_Le G (q0 9) q4 o4 ++ (cw_Pi G (q0 10) q5 o5)))))) := hD
  obtain ⟨w, h⟩ := h
  exact t_PV_passTick_2 r1 o3 Q C w (0 : Int32) o0 o1 o2 o4 o5 ls _ locs hl hP hD hS h
abbrev b_PV_feed : ByteArray := prog_1_method_2_code
def y_PV_feed : MethodName := ⟨R_PV, "feed", "(IIIII)I"⟩
abbrev w_PV_feed : List Cond := Cond.code y_PV_feed b_PV_feed 6 (some .int) :: gw_tbl
theorem d_PV_feed_0 : decode b_PV_feed 0 = .ok (.aload_n 0, 1) := by decide +kernel
theorem d_PV_feed_1 : decode b_PV_feed 1 = .ok (.getfield 25, 3) := by decide +kernel
theorem d_PV_feed_4 : decode b_PV_feed 4 = .ok (.getfield 105, 3) := by decide +kernel
theorem d_PV_feed_7 : decode b_PV_feed 7 = .ok (.bipush 20, 2) := by decide +kernel
theorem d_PV_feed_9 : decode b_PV_feed 9 = .ok (.iadd, 1) := by decide +kernel
theorem d_PV_feed_10 : decode b_PV_feed 10 = .ok (.sipush 400, 3) := by decide +kernel
theorem d_PV_feed_13 : decode b_PV_feed 13 = .ok (.if_icmp .le 5, 3) := by decide +kernel
theorem d_PV_feed_16 : decode b_PV_feed 16 = .ok (.iconst (-1), 1) := by decide +kernel
theorem d_PV_feed_17 : decode b_PV_feed 17 = .ok (.ireturn, 1) := by decide +kernel
theorem d_PV_feed_18 : decode b_PV_feed 18 = .ok (.aload_n 0, 1) := by decide +kernel
theorem d_PV_feed_19 : decode b_PV_feed 19 = .ok (.getfield 25, 3) := by decide +kernel
theorem d_PV_feed_22 : decode b_PV_feed 22 = .ok (.iload_n 1, 1) := by decide +kernel
theorem d_PV_feed_23 : decode b_PV_feed 23 = .ok (.invokevirtual 108, 3) := by decide +kernel
theorem d_PV_feed_26 : decode b_PV_feed 26 = .ok (.aload_n 0, 1) := by decide +kernel
theorem d_PV_feed_27 : decode b_PV_feed 27 = .ok (.getfield 25, 3) := by decide +kernel
theorem d_PV_feed_30 : decode b_PV_feed 30 = .ok (.iload_n 2, 1) := by decide +kernel
theorem d_PV_feed_31 : decode b_PV_feed 31 = .ok (.invokevirtual 108, 3) := by decide +kernel
theorem d_PV_feed_34 : decode b_PV_feed 34 = .ok (.aload_n 0, 1) := by decide +kernel
theorem d_PV_feed_35 : decode b_PV_feed 35 = .ok (.getfield 25, 3) := by decide +kernel
theorem d_PV_feed_38 : decode b_PV_feed 38 = .ok (.iload_n 3, 1) := by decide +kernel
theorem d_PV_feed_39 : decode b_PV_feed 39 = .ok (.invokevirtual 108, 3) := by decide +kernel
theorem d_PV_feed_42 : decode b_PV_feed 42 = .ok (.aload_n 0, 1) := by decide +kernel
theorem d_PV_feed_43 : decode b_PV_feed 43 = .ok (.getfield 25, 3) := by decide +kernel
theorem d_PV_feed_46 : decode b_PV_feed 46 = .ok (.iload 4, 2) := by decide +kernel
theorem d_PV_feed_48 : decode b_PV_feed 48 = .ok (.invokevirtual 108, 3) := by decide +kernel
theorem d_PV_feed_51 : decode b_PV_feed 51 = .ok (.aload_n 0, 1) := by decide +kernel
theorem d_PV_feed_52 : decode b_PV_feed 52 = .ok (.getfield 25, 3) := by decide +kernel
theorem d_PV_feed_55 : decode b_PV_feed 55 = .ok (.iload 5, 2) := by decide +kernel
theorem d_PV_feed_57 : decode b_PV_feed 57 = .ok (.invokevirtual 108, 3) := by decide +kernel
theorem d_PV_feed_60 : decode b_PV_feed 60 = .ok (.aload_n 0, 1) := by decide +kernel
theorem d_PV_feed_61 : decode b_PV_feed 61 = .ok (.getfield 25, 3) := by decide +kernel
theorem d_PV_feed_64 : decode b_PV_feed 64 = .ok (.getfield 105, 3) := by decide +kernel
theorem d_PV_feed_67 : decode b_PV_feed 67 = .ok (.ireturn, 1) := by decide +kernel
theorem wf_PV_25 : Cond.fieldLink R_PV 25 R_PV "tape" "LPipeVoice$Tape;" ∈ gw_tbl := gw_tb (List.mem_of_getElem? (i := 439) (by decide +kernel)) rfl
theorem wf_PV_105 : Cond.fieldLink R_PV 105 R_Ta "size" "I" ∈ gw_tbl := gw_tb (List.mem_of_getElem? (i := 44) (by decide +kernel)) rfl
theorem wv_PV_108 : wV R_PV 108 y_Ta_add b_Ta_add 3 none 1 := ⟨⟨gw_tb (List.mem_of_getElem? (i := 485) (by decide +kernel)) rfl, gw_tb (List.mem_of_getElem? (i := 3) (by decide +kernel)) rfl, gw_tb (List.mem_of_getElem? (i := 488) (by decide +kernel)) rfl, by decide, by decide, by decide +kernel⟩, gw_tb (List.mem_of_getElem? (i := 486) (by decide +kernel)) rfl, gw_tb (List.mem_of_getElem? (i := 487) (by decide +kernel)) rfl⟩
def f_PV_feed (a0 : Int32) (a1 : Int32) (a2 : Int32) (a3 : Int32) (a4 : Int32) (o0 : Ob) (o1 : Ob) (Q : Int32 → Ob → Prop) : Prop := (((gI o1 1) + (20 : Int32)) ≤ (400 : Int32) → (f_Ta_add a0 o1 (fun u2 => f_Ta_add a1 u2 (fun u3 => f_Ta_add a2 u3 (fun u4 => f_Ta_add a3 u4 (fun u5 => f_Ta_add a4 u5 (fun u6 => Q (gI u6 1) u6))))))) ∧ (¬ ((gI o1 1) + (20 : Int32)) ≤ (400 : Int32) → (Q (-1 : Int32) o1))
abbrev rm_PV_feed : Room := { frames := 1, cells := 0, slots := 0, locals := 22 }
set_option maxHeartbeats 4000000 in
set_option maxRecDepth 100000 in
theorem c_PV_feed {l : Launch} {G : Gl} {h0 : Nat} {q0 : Nat → Nat} {q1 : Nat → Nat} {a0 : Int32} {a1 : Int32} {a2 : Int32} {a3 : Int32} {a4 : Int32} {o0 : Ob} {o1 : Ob} {Q : Int32 → Ob → Prop} (sz : Nat) (h : f_PV_feed a0 a1 a2 a3 a4 o0 o1 Q) : Met l y_PV_feed w_PV_feed rm_PV_feed (PcW G [.ref h0, .int a0, .int a1, .int a2, .int a3, .int a4] sz (cw_PV G h0 q0 o0 ++ (cw_Ta G (q0 1) q1 o1))) (va_Qi (fun (r : Int32) (u : Ob) => Q r u) (fun (u : Ob) t => BW G (va_A (cw_PV G h0 q0 o0 ++ (cw_Ta G (q0 1) q1 o1)) sz) (cw_PV G h0 q0 o0 ++ (cw_Ta G (q0 1) q1 u)) t) (va_A (cw_PV G h0 q0 o0 ++ (cw_Ta G (q0 1) q1 o1)) sz)) 0 0 (va_A (cw_PV G h0 q0 o0 ++ (cw_Ta G (q0 1) q1 o1)) sz) := by
  refine Met.ofW (cc := b_PV_feed) (maxL := 6) (ret := (some .int)) (by decide +kernel) rfl ?_
  intro p e s m args below meth c s₁ B hml hv
  obtain ⟨rfl, hsz, hP, hK, hD0, hE⟩ := hv
  have hx := B.exec
  have hb := B.bytes
  have hr := B.returns
  have hts0 := atoms_spec (ws := w_PV_feed) B.pre
  have hts : ∀ w ∈ gw_tbl, w.before ([.ref h0, .int a0, .int a1, .int a2, .int a3, .int a4]).toArray s = true := fun w hw => hts0 w (List.mem_cons_of_mem _ hw)
  have hown : s.vm.findClass R_PV = some m.cls := findClass_of_methodNamed B.named
  have hlocks := B.notSynchronized
  subst hsz
  have hD := hD0.self (sz := s.heap.size)
  generalize hAe : va_A (cw_PV G h0 q0 o0 ++ (cw_Ta G (q0 1) q1 o1)) s.heap.size = A at hD hE ⊢
  have hA : ∀ q : Nat, s.heap.size ≤ q → A q := fun q h => by rw [← hAe]; exact Or.inr h
  have hS : va_S A s.heap s.heap [] := va_S.rf
  have C : Cx p s m ([.ref h0, .int a0, .int a1, .int a2, .int a3, .int a4]).toArray meth c R_PV b_PV_feed 6 (some .int) G A := ⟨hx, hb, hml, hown, hr, hts, hK, hA, hlocks, hE⟩
  have hl := lv_entry ([.ref h0, .int a0, .int a1, .int a2, .int a3, .int a4]) (n := 6) (Nat.le_of_ble_eq_true rfl)
  rw [lg_entry_eq]
  generalize (lg_sl ([.ref h0, .int a0, .int a1, .int a2, .int a3, .int a4]) ++ List.replicate (6 - (lg_sl ([.ref h0, .int a0, .int a1, .int a2, .int a3, .int a4])).length) Slot.unset).toArray = ls at hl ⊢
  have hl : lv_has ls 6 [(0, .ref h0), (1, .int a0), (2, .int a1), (3, .int a2), (4, .int a3), (5, .int a4)] := hl
  have hD : va_D A [(h0, .inr (0, [.int (gI o0 0), .ref (q0 1), .ref (q0 2), .ref (q0 3), .ref (q0 4), .ref (q0 5), .ref (q0 6), .ref (q0 7), .ref (q0 8), .ref (q0 9), .ref (q0 10), .ref (q0 11), .ref (q0 12), .ref (q0 13)])), kQ G (q0 3) 3 (fun i => some (q0 (50 + i))), kI G (q0 6) 1000 (gA o0 6), kJ G (q0 7) 2000 (gB o0 7), kI G (q0 13) 5 (gA o0 13), ((q0 1), .inr (10, [.ref (q1 0), .int (gI o1 1)])), kB G (q1 0) 400 (gA o1 0)] := hD
  unfold f_PV_feed at h
  suffices key : ∀ (H : Heap) (locs : List Loc), va_P G.1 CL [(h0, .inr (0, [.int (gI o0 0), .ref (q0 1), .ref (q0 2), .ref (q0 3), .ref (q0 4), .ref (q0 5), .ref (q0 6), .ref (q0 7), .ref (q0 8), .ref (q0 9), .ref (q0 10), .ref (q0 11), .ref (q0 12), .ref (q0 13)])), kQ G (q0 3) 3 (fun i => some (q0 (50 + i))), kI G (q0 6) 1000 (gA o0 6), kJ G (q0 7) 2000 (gB o0 7), kI G (q0 13) 5 (gA o0 13), ((q0 1), .inr (10, [.ref (q1 0), .int (gI o1 1)])), kB G (q1 0) 400 (gA o1 0)] H → va_S A s.heap H locs → W p l e rm_PV_feed s m ([.ref h0, .int a0, .int a1, .int a2, .int a3, .int a4]).toArray below meth c H locs 0 0 (MQ below (va_Qi (fun (r : Int32) (u : Ob) => Q r u) (fun (u : Ob) t => BW G A (cw_PV G h0 q0 o0 ++ (cw_Ta G (q0 1) q1 u)) t) A) ([.ref h0, .int a0, .int a1, .int a2, .int a3, .int a4]).toArray s 0 0 A) (F0 m 0 ls []) from key s.heap [] hP hS
  intro H locs hP hS
  refine lv_aload_n hx hb d_PV_feed_0 rfl (lv_at hl 0 rfl) ?_
  refine va_get (D := G.1) (ci := 0) (v := .ref (q0 1)) (C := R_PV) (T := T_PV) (N := 14) hx hb hts i_PV hown hK hP 0 rfl rfl 1 (by decide) (hts _ wf_PV_25) (fun _ h9 => h9) rfl d_PV_feed_1 ?_
  refine va_get (D := G.1) (ci := 10) (v := .int (gI o1 1)) (C := R_Ta) (T := T_Ta) (N := 2) hx hb hts i_Ta hown hK hP 5 rfl rfl 1 (by decide) (hts _ wf_PV_105) (fun _ h9 => h9) rfl d_PV_feed_4 ?_
  refine lv_bipush (v := (20 : Int32)) hx hb d_PV_feed_7 (by decide) ?_
  refine lv_iadd hx hb d_PV_feed_9 ?_
  refine lv_sipush (v := (400 : Int32)) hx hb d_PV_feed_10 (by decide) ?_
  refine lv_icmp_le (tgt := 18) hx hb d_PV_feed_13 (by decide) (fun c1 => ?_) (fun c1 => ?_)
  · have h := h.1 c1
    refine lv_aload_n hx hb d_PV_feed_18 rfl (lv_at hl 0 rfl) ?_
    refine va_get (D := G.1) (ci := 0) (v := .ref (q0 1)) (C := R_PV) (T := T_PV) (N := 14) hx hb hts i_PV hown hK hP 0 rfl rfl 1 (by decide) (hts _ wf_PV_25) (fun _ h9 => h9) rfl d_PV_feed_19 ?_
    refine lv_iload_n hx hb d_PV_feed_22 rfl (lv_at hl 1 rfl) ?_
    refine cl_Vv (b := b_PV_feed) (As := [.int a0]) (rest := []) (ws := [(h0, .inr (0, [.int (gI o0 0), .ref (q0 1), .ref (q0 2), .ref (q0 3), .ref (q0 4), .ref (q0 5), .ref (q0 6), .ref (q0 7), .ref (q0 8), .ref (q0 9), .ref (q0 10), .ref (q0 11), .ref (q0 12), .ref (q0 13)])), kQ G (q0 3) 3 (fun i => some (q0 (50 + i))), kI G (q0 6) 1000 (gA o0 6), kJ G (q0 7) 2000 (gB o0 7), kI G (q0 13) 5 (gA o0 13), ((q0 1), .inr (10, [.ref (q1 0), .int (gI o1 1)])), kB G (q1 0) 400 (gA o1 0)]) (wr := [(h0, .inr (0, [.int (gI o0 0), .ref (q0 1), .ref (q0 2), .ref (q0 3), .ref (q0 4), .ref (q0 5), .ref (q0 6), .ref (q0 7), .ref (q0 8), .ref (q0 9), .ref (q0 10), .ref (q0 11), .ref (q0 12), .ref (q0 13)])), kQ G (q0 3) 3 (fun i => some (q0 (50 + i))), kI G (q0 6) 1000 (gA o0 6), kJ G (q0 7) 2000 (gB o0 7), kI G (q0 13) 5 (gA o0 13)]) (w2 := fun (u : Ob) => [(h0, .inr (0, [.int (gI o0 0), .ref (q0 1), .ref (q0 2), .ref (q0 3), .ref (q0 4), .ref (q0 5), .ref (q0 6), .ref (q0 7), .ref (q0 8), .ref (q0 9), .ref (q0 10), .ref (q0 11), .ref (q0 12), .ref (q0 13)])), kQ G (q0 3) 3 (fun i => some (q0 (50 + i))), kI G (q0 6) 1000 (gA o0 6), kJ G (q0 7) 2000 (gB o0 7), kI G (q0 13) 5 (gA o0 13), ((q0 1), .inr (10, [.ref (q1 0), .int (gI u 1)])), kB G (q1 0) 400 (gA u 0)]) C (c_Ta_add (h0 := (q0 1)) (q0 := q1) H.size h) wv_PV_108 ⟨Nat.le_of_ble_eq_true rfl, Nat.le_of_ble_eq_true rfl⟩ hP hD hS 5 rfl rfl [5, 6] [0, 1, 2, 3, 4] rfl rfl (by decide) (by decide) (by decide) [0, 1, 2, 3, 4, 5, 6] (by decide) (fun u => rfl) rfl hl.1 rfl (lv_room (Nat.le_of_ble_eq_true rfl)) d_PV_feed_23 ⟨Nat.le_of_ble_eq_true rfl, Nat.le_of_ble_eq_true rfl⟩ rfl rfl (fun u H locs h hP hD hS => ?_)
    generalize u = u2 at h hP hD
    have hP : va_P G.1 CL [(h0, .inr (0, [.int (gI o0 0), .ref (q0 1), .ref (q0 2), .ref (q0 3), .ref (q0 4), .ref (q0 5), .ref (q0 6), .ref (q0 7), .ref (q0 8), .ref (q0 9), .ref (q0 10), .ref (q0 11), .ref (q0 12), .ref (q0 13)])), kQ G (q0 3) 3 (fun i => some (q0 (50 + i))), kI G (q0 6) 1000 (gA o0 6), kJ G (q0 7) 2000 (gB o0 7), kI G (q0 13) 5 (gA o0 13), ((q0 1), .inr (10, [.ref (q1 0), .int (gI u2 1)])), kB G (q1 0) 400 (gA u2 0)] H := hP
    have hD : va_D A [(h0, .inr (0, [.int (gI o0 0), .ref (q0 1), .ref (q0 2), .ref (q0 3), .ref (q0 4), .ref (q0 5), .ref (q0 6), .ref (q0 7), .ref (q0 8), .ref (q0 9), .ref (q0 10), .ref (q0 11), .ref (q0 12), .ref (q0 13)])), kQ G (q0 3) 3 (fun i => some (q0 (50 + i))), kI G (q0 6) 1000 (gA o0 6), kJ G (q0 7) 2000 (gB o0 7), kI G (q0 13) 5 (gA o0 13), ((q0 1), .inr (10, [.ref (q1 0), .int (gI u2 1)])), kB G (q1 0) 400 (gA u2 0)] := hD
    refine lv_aload_n hx hb d_PV_feed_26 rfl (lv_at hl 0 rfl) ?_
    refine va_get (D := G.1) (ci := 0) (v := .ref (q0 1)) (C := R_PV) (T := T_PV) (N := 14) hx hb hts i_PV hown hK hP 0 rfl rfl 1 (by decide) (hts _ wf_PV_25) (fun _ h9 => h9) rfl d_PV_feed_27 ?_
    refine lv_iload_n hx hb d_PV_feed_30 rfl (lv_at hl 2 rfl) ?_
    refine cl_Vv (b := b_PV_feed) (As := [.int a1]) (rest := []) (ws := [(h0, .inr (0, [.int (gI o0 0), .ref (q0 1), .ref (q0 2), .ref (q0 3), .ref (q0 4), .ref (q0 5), .ref (q0 6), .ref (q0 7), .ref (q0 8), .ref (q0 9), .ref (q0 10), .ref (q0 11), .ref (q0 12), .ref (q0 13)])), kQ G (q0 3) 3 (fun i => some (q0 (50 + i))), kI G (q0 6) 1000 (gA o0 6), kJ G (q0 7) 2000 (gB o0 7), kI G (q0 13) 5 (gA o0 13), ((q0 1), .inr (10, [.ref (q1 0), .int (gI u2 1)])), kB G (q1 0) 400 (gA u2 0)]) (wr := [(h0, .inr (0, [.int (gI o0 0), .ref (q0 1), .ref (q0 2), .ref (q0 3), .ref (q0 4), .ref (q0 5), .ref (q0 6), .ref (q0 7), .ref (q0 8), .ref (q0 9), .ref (q0 10), .ref (q0 11), .ref (q0 12), .ref (q0 13)])), kQ G (q0 3) 3 (fun i => some (q0 (50 + i))), kI G (q0 6) 1000 (gA o0 6), kJ G (q0 7) 2000 (gB o0 7), kI G (q0 13) 5 (gA o0 13)]) (w2 := fun (u : Ob) => [(h0, .inr (0, [.int (gI o0 0), .ref (q0 1), .ref (q0 2), .ref (q0 3), .ref (q0 4), .ref (q0 5), .ref (q0 6), .ref (q0 7), .ref (q0 8), .ref (q0 9), .ref (q0 10), .ref (q0 11), .ref (q0 12), .ref (q0 13)])), kQ G (q0 3) 3 (fun i => some (q0 (50 + i))), kI G (q0 6) 1000 (gA o0 6), kJ G (q0 7) 2000 (gB o0 7), kI G (q0 13) 5 (gA o0 13), ((q0 1), .inr (10, [.ref (q1 0), .int (gI u 1)])), kB G (q1 0) 400 (gA u 0)]) C (c_Ta_add (h0 := (q0 1)) (q0 := q1) H.size h) wv_PV_108 ⟨Nat.le_of_ble_eq_true rfl, Nat.le_of_ble_eq_true rfl⟩ hP hD hS 5 rfl rfl [5, 6] [0, 1, 2, 3, 4] rfl rfl (by decide) (by decide) (by decide) [0, 1, 2, 3, 4, 5, 6] (by decide) (fun u => rfl) rfl hl.1 rfl (lv_room (Nat.le_of_ble_eq_true rfl)) d_PV_feed_31 ⟨Nat.le_of_ble_eq_true rfl, Nat.le_of_ble_eq_true rfl⟩ rfl rfl (fun u H locs h hP hD hS => ?_)
    generalize u = u3 at h hP hD
    have hP : va_P G.1 CL [(h0, .inr (0, [.int (gI o0 0), .ref (q0 1), .ref (q0 2), .ref (q0 3), .ref (q0 4), .ref (q0 5), .ref (q0 6), .ref (q0 7), .ref (q0 8), .ref (q0 9), .ref (q0 10), .ref (q0 11), .ref (q0 12), .ref (q0 13)])), kQ G (q0 3) 3 (fun i => some (q0 (50 + i))), kI G (q0 6) 1000 (gA o0 6), kJ G (q0 7) 2000 (gB o0 7), kI G (q0 13) 5 (gA o0 13), ((q0 1), .inr (10, [.ref (q1 0), .int (gI u3 1)])), kB G (q1 0) 400 (gA u3 0)] H := hP
    have hD : va_D A [(h0, .inr (0, [.int (gI o0 0), .ref (q0 1), .ref (q0 2), .ref (q0 3), .ref (q0 4), .ref (q0 5), .ref (q0 6), .ref (q0 7), .ref (q0 8), .ref (q0 9), .ref (q0 10), .ref (q0 11), .ref (q0 12), .ref (q0 13)])), kQ G (q0 3) 3 (fun i => some (q0 (50 + i))), kI G (q0 6) 1000 (gA o0 6), kJ G (q0 7) 2000 (gB o0 7), kI G (q0 13) 5 (gA o0 13), ((q0 1), .inr (10, [.ref (q1 0), .int (gI u3 1)])), kB G (q1 0) 400 (gA u3 0)] := hD
    refine lv_aload_n hx hb d_PV_feed_34 rfl (lv_at hl 0 rfl) ?_
    refine va_get (D := G.1) (ci := 0) (v := .ref (q0 1)) (C := R_PV) (T := T_PV) (N := 14) hx hb hts i_PV hown hK hP 0 rfl rfl 1 (by decide) (hts _ wf_PV_25) (fun _ h9 => h9) rfl d_PV_feed_35 ?_
    refine lv_iload_n hx hb d_PV_feed_38 rfl (lv_at hl 3 rfl) ?_
    refine cl_Vv (b := b_PV_feed) (As := [.int a2]) (rest := []) (ws := [(h0, .inr (0, [.int (gI o0 0), .ref (q0 1), .ref (q0 2), .ref (q0 3), .ref (q0 4), .ref (q0 5), .ref (q0 6), .ref (q0 7), .ref (q0 8), .ref (q0 9), .ref (q0 10), .ref (q0 11), .ref (q0 12), .ref (q0 13)])), kQ G (q0 3) 3 (fun i => some (q0 (50 + i))), kI G (q0 6) 1000 (gA o0 6), kJ G (q0 7) 2000 (gB o0 7), kI G (q0 13) 5 (gA o0 13), ((q0 1), .inr (10, [.ref (q1 0), .int (gI u3 1)])), kB G (q1 0) 400 (gA u3 0)]) (wr := [(h0, .inr (0, [.int (gI o0 0), .ref (q0 1), .ref (q0 2), .ref (q0 3), .ref (q0 4), .ref (q0 5), .ref (q0 6), .ref (q0 7), .ref (q0 8), .ref (q0 9), .ref (q0 10), .ref (q0 11), .ref (q0 12), .ref (q0 13)])), kQ G (q0 3) 3 (fun i => some (q0 (50 + i))), kI G (q0 6) 1000 (gA o0 6), kJ G (q0 7) 2000 (gB o0 7), kI G (q0 13) 5 (gA o0 13)]) (w2 := fun (u : Ob) => [(h0, .inr (0, [.int (gI o0 0), .ref (q0 1), .ref (q0 2), .ref (q0 3), .ref (q0 4), .ref (q0 5), .ref (q0 6), .ref (q0 7), .ref (q0 8), .ref (q0 9), .ref (q0 10), .ref (q0 11), .ref (q0 12), .ref (q0 13)])), kQ G (q0 3) 3 (fun i => some (q0 (50 + i))), kI G (q0 6) 1000 (gA o0 6), kJ G (q0 7) 2000 (gB o0 7), kI G (q0 13) 5 (gA o0 13), ((q0 1), .inr (10, [.ref (q1 0), .int (gI u 1)])), kB G (q1 0) 400 (gA u 0)]) C (c_Ta_add (h0 := (q0 1)) (q0 := q1) H.size h) wv_PV_108 ⟨Nat.le_of_ble_eq_true rfl, Nat.le_of_ble_eq_true rfl⟩ hP hD hS 5 rfl rfl [5, 6] [0, 1, 2, 3, 4] rfl rfl (by decide) (by decide) (by decide) [0, 1, 2, 3, 4, 5, 6] (by decide) (fun u => rfl) rfl hl.1 rfl (lv_room (Nat.le_of_ble_eq_true rfl)) d_PV_feed_39 ⟨Nat.le_of_ble_eq_true rfl, Nat.le_of_ble_eq_true rfl⟩ rfl rfl (fun u H locs h hP hD hS => ?_)
    generalize u = u4 at h hP hD
    have hP : va_P G.1 CL [(h0, .inr (0, [.int (gI o0 0), .ref (q0 1), .ref (q0 2), .ref (q0 3), .ref (q0 4), .ref (q0 5), .ref (q0 6), .ref (q0 7), .ref (q0 8), .ref (q0 9), .ref (q0 10), .ref (q0 11), .ref (q0 12), .ref (q0 13)])), kQ G (q0 3) 3 (fun i => some (q0 (50 + i))), kI G (q0 6) 1000 (gA o0 6), kJ G (q0 7) 2000 (gB o0 7), kI G (q0 13) 5 (gA o0 13), ((q0 1), .inr (10, [.ref (q1 0), .int (gI u4 1)])), kB G (q1 0) 400 (gA u4 0)] H := hP
    have hD : va_D A [(h0, .inr (0, [.int (gI o0 0), .ref (q0 1), .ref (q0 2), .ref (q0 3), .ref (q0 4), .ref (q0 5), .ref (q0 6), .ref (q0 7), .ref (q0 8), .ref (q0 9), .ref (q0 10), .ref (q0 11), .ref (q0 12), .ref (q0 13)])), kQ G (q0 3) 3 (fun i => some (q0 (50 + i))), kI G (q0 6) 1000 (gA o0 6), kJ G (q0 7) 2000 (gB o0 7), kI G (q0 13) 5 (gA o0 13), ((q0 1), .inr (10, [.ref (q1 0), .int (gI u4 1)])), kB G (q1 0) 400 (gA u4 0)] := hD
    refine lv_aload_n hx hb d_PV_feed_42 rfl (lv_at hl 0 rfl) ?_
    refine va_get (D := G.1) (ci := 0) (v := .ref (q0 1)) (C := R_PV) (T := T_PV) (N := 14) hx hb hts i_PV hown hK hP 0 rfl rfl 1 (by decide) (hts _ wf_PV_25) (fun _ h9 => h9) rfl d_PV_feed_43 ?_
    refine lv_iload hx hb d_PV_feed_46 (lv_at hl 4 rfl) ?_
    refine cl_Vv (b := b_PV_feed) (As := [.int a3]) (rest := []) (ws := [(h0, .inr (0, [.int (gI o0 0), .ref (q0 1), .ref (q0 2), .ref (q0 3), .ref (q0 4), .ref (q0 5), .ref (q0 6), .ref (q0 7), .ref (q0 8), .ref (q0 9), .ref (q0 10), .ref (q0 11), .ref (q0 12), .ref (q0 13)])), kQ G (q0 3) 3 (fun i => some (q0 (50 + i))), kI G (q0 6) 1000 (gA o0 6), kJ G (q0 7) 2000 (gB o0 7), kI G (q0 13) 5 (gA o0 13), ((q0 1), .inr (10, [.ref (q1 0), .int (gI u4 1)])), kB G (q1 0) 400 (gA u4 0)]) (wr := [(h0, .inr (0, [.int (gI o0 0), .ref (q0 1), .ref (q0 2), .ref (q0 3), .ref (q0 4), .ref (q0 5), .ref (q0 6), .ref (q0 7), .ref (q0 8), .ref (q0 9), .ref (q0 10), .ref (q0 11), .ref (q0 12), .ref (q0 13)])), kQ G (q0 3) 3 (fun i => some (q0 (50 + i))), kI G (q0 6) 1000 (gA o0 6), kJ G (q0 7) 2000 (gB o0 7), kI G (q0 13) 5 (gA o0 13)]) (w2 := fun (u : Ob) => [(h0, .inr (0, [.int (gI o0 0), .ref (q0 1), .ref (q0 2), .ref (q0 3), .ref (q0 4), .ref (q0 5), .ref (q0 6), .ref (q0 7), .ref (q0 8), .ref (q0 9), .ref (q0 10), .ref (q0 11), .ref (q0 12), .ref (q0 13)])), kQ G (q0 3) 3 (fun i => some (q0 (50 + i))), kI G (q0 6) 1000 (gA o0 6), kJ G (q0 7) 2000 (gB o0 7), kI G (q0 13) 5 (gA o0 13), ((q0 1), .inr (10, [.ref (q1 0), .int (gI u 1)])), kB G (q1 0) 400 (gA u 0)]) C (c_Ta_add (h0 := (q0 1)) (q0 := q1) H.size h) wv_PV_108 ⟨Nat.le_of_ble_eq_true rfl, Nat.le_of_ble_eq_true rfl⟩ hP hD hS 5 rfl rfl [5, 6] [0, 1, 2, 3, 4] rfl rfl (by decide) (by decide) (by decide) [0, 1, 2, 3, 4, 5, 6] (by decide) (fun u => rfl) rfl hl.1 rfl (lv_room (Nat.le_of_ble_eq_true rfl)) d_PV_feed_48 ⟨Nat.le_of_ble_eq_true rfl, Nat.le_of_ble_eq_true rfl⟩ rfl rfl (fun u H locs h hP hD hS => ?_)
    generalize u = u5 at h hP hD
    have hP : va_P G.1 CL [(h0, .inr (0, [.int (gI o0 0), .ref (q0 1), .ref (q0 2), .ref (q0 3), .ref (q0 4), .ref (q0 5), .ref (q0 6), .ref (q0 7), .ref (q0 8), .ref (q0 9), .ref (q0 10), .ref (q0 11), .ref (q0 12), .ref (q0 13)])), kQ G (q0 3) 3 (fun i => some (q0 (50 + i))), kI G (q0 6) 1000 (gA o0 6), kJ G (q0 7) 2000 (gB o0 7), kI G (q0 13) 5 (gA o0 13), ((q0 1), .inr (10, [.ref (q1 0), .int (gI u5 1)])), kB G (q1 0) 400 (gA u5 0)] H := hP
    have hD : va_D A [(h0, .inr (0, [.int (gI o0 0), .ref (q0 1), .ref (q0 2), .ref (q0 3), .ref (q0 4), .ref (q0 5), .ref (q0 6), .ref (q0 7), .ref (q0 8), .ref (q0 9), .ref (q0 10), .ref (q0 11), .ref (q0 12), .ref (q0 13)])), kQ G (q0 3) 3 (fun i => some (q0 (50 + i))), kI G (q0 6) 1000 (gA o0 6), kJ G (q0 7) 2000 (gB o0 7), kI G (q0 13) 5 (gA o0 13), ((q0 1), .inr (10, [.ref (q1 0), .int (gI u5 1)])), kB G (q1 0) 400 (gA u5 0)] := hD
    refine lv_aload_n hx hb d_PV_feed_51 rfl (lv_at hl 0 rfl) ?_
    refine va_get (D := G.1) (ci := 0) (v := .ref (q0 1)) (C := R_PV) (T := T_PV) (N := 14) hx hb hts i_PV hown hK hP 0 rfl rfl 1 (by decide) (hts _ wf_PV_25) (fun _ h9 => h9) rfl d_PV_feed_52 ?_
    refine lv_iload hx hb d_PV_feed_55 (lv_at hl 5 rfl) ?_
    refine cl_Vv (b := b_PV_feed) (As := [.int a4]) (rest := []) (ws := [(h0, .inr (0, [.int (gI o0 0), .ref (q0 1), .ref (q0 2), .ref (q0 3), .ref (q0 4), .ref (q0 5), .ref (q0 6), .ref (q0 7), .ref (q0 8), .ref (q0 9), .ref (q0 10), .ref (q0 11), .ref (q0 12), .ref (q0 13)])), kQ G (q0 3) 3 (fun i => some (q0 (50 + i))), kI G (q0 6) 1000 (gA o0 6), kJ G (q0 7) 2000 (gB o0 7), kI G (q0 13) 5 (gA o0 13), ((q0 1), .inr (10, [.ref (q1 0), .int (gI u5 1)])), kB G (q1 0) 400 (gA u5 0)]) (wr := [(h0, .inr (0, [.int (gI o0 0), .ref (q0 1), .ref (q0 2), .ref (q0 3), .ref (q0 4), .ref (q0 5), .ref (q0 6), .ref (q0 7), .ref (q0 8), .ref (q0 9), .ref (q0 10), .ref (q0 11), .ref (q0 12), .ref (q0 13)])), kQ G (q0 3) 3 (fun i => some (q0 (50 + i))), kI G (q0 6) 1000 (gA o0 6), kJ G (q0 7) 2000 (gB o0 7), kI G (q0 13) 5 (gA o0 13)]) (w2 := fun (u : Ob) => [(h0, .inr (0, [.int (gI o0 0), .ref (q0 1), .ref (q0 2), .ref (q0 3), .ref (q0 4), .ref (q0 5), .ref (q0 6), .ref (q0 7), .ref (q0 8), .ref (q0 9), .ref (q0 10), .ref (q0 11), .ref (q0 12), .ref (q0 13)])), kQ G (q0 3) 3 (fun i => some (q0 (50 + i))), kI G (q0 6) 1000 (gA o0 6), kJ G (q0 7) 2000 (gB o0 7), kI G (q0 13) 5 (gA o0 13), ((q0 1), .inr (10, [.ref (q1 0), .int (gI u 1)])), kB G (q1 0) 400 (gA u 0)]) C (c_Ta_add (h0 := (q0 1)) (q0 := q1) H.size h) wv_PV_108 ⟨Nat.le_of_ble_eq_true rfl, Nat.le_of_ble_eq_true rfl⟩ hP hD hS 5 rfl rfl [5, 6] [0, 1, 2, 3, 4] rfl rfl (by decide) (by decide) (by decide) [0, 1, 2, 3, 4, 5, 6] (by decide) (fun u => rfl) rfl hl.1 rfl (lv_room (Nat.le_of_ble_eq_true rfl)) d_PV_feed_57 ⟨Nat.le_of_ble_eq_true rfl, Nat.le_of_ble_eq_true rfl⟩ rfl rfl (fun u H locs h hP hD hS => ?_)
    generalize u = u6 at h hP hD
    have hP : va_P G.1 CL [(h0, .inr (0, [.int (gI o0 0), .ref (q0 1), .ref (q0 2), .ref (q0 3), .ref (q0 4), .ref (q0 5), .ref (q0 6), .ref (q0 7), .ref (q0 8), .ref (q0 9), .ref (q0 10), .ref (q0 11), .ref (q0 12), .ref (q0 13)])), kQ G (q0 3) 3 (fun i => some (q0 (50 + i))), kI G (q0 6) 1000 (gA o0 6), kJ G (q0 7) 2000 (gB o0 7), kI G (q0 13) 5 (gA o0 13), ((q0 1), .inr (10, [.ref (q1 0), .int (gI u6 1)])), kB G (q1 0) 400 (gA u6 0)] H := hP
    have hD : va_D A [(h0, .inr (0, [.int (gI o0 0), .ref (q0 1), .ref (q0 2), .ref (q0 3), .ref (q0 4), .ref (q0 5), .ref (q0 6), .ref (q0 7), .ref (q0 8), .ref (q0 9), .ref (q0 10), .ref (q0 11), .ref (q0 12), .ref (q0 13)])), kQ G (q0 3) 3 (fun i => some (q0 (50 + i))), kI G (q0 6) 1000 (gA o0 6), kJ G (q0 7) 2000 (gB o0 7), kI G (q0 13) 5 (gA o0 13), ((q0 1), .inr (10, [.ref (q1 0), .int (gI u6 1)])), kB G (q1 0) 400 (gA u6 0)] := hD
    refine lv_aload_n hx hb d_PV_feed_60 rfl (lv_at hl 0 rfl) ?_
    refine va_get (D := G.1) (ci := 0) (v := .ref (q0 1)) (C := R_PV) (T := T_PV) (N := 14) hx hb hts i_PV hown hK hP 0 rfl rfl 1 (by decide) (hts _ wf_PV_25) (fun _ h9 => h9) rfl d_PV_feed_61 ?_
    refine va_get (D := G.1) (ci := 10) (v := .int (gI u6 1)) (C := R_Ta) (T := T_Ta) (N := 2) hx hb hts i_Ta hown hK hP 5 rfl rfl 1 (by decide) (hts _ wf_PV_105) (fun _ h9 => h9) rfl d_PV_feed_64 ?_
    have hP : va_P G.1 CL (cw_PV G h0 q0 o0 ++ (cw_Ta G (q0 1) q1 u6)) H := hP
    have hD : va_D A (cw_PV G h0 q0 o0 ++ (cw_Ta G (q0 1) q1 u6)) := hD
    exact W.iret (v := (gI u6 1)) hx hb hr (fun t ht hW => ⟨⟨(gI u6 1), u6, rfl, h, by rw [ht]; exact hP, va_K.moved hW.alike hK, hD⟩, hS.F ht⟩) hS.2.2 d_PV_feed_67
  · have h := h.2 c1
    refine lv_iconst (v := (-1 : Int32)) hx hb d_PV_feed_16 (by decide) ?_
    have hP : va_P G.1 CL (cw_PV G h0 q0 o0 ++ (cw_Ta G (q0 1) q1 o1)) H := hP
    have hD : va_D A (cw_PV G h0 q0 o0 ++ (cw_Ta G (q0 1) q1 o1)) := hD
    exact W.iret (v := (-1 : Int32)) hx hb hr (fun t ht hW => ⟨⟨(-1 : Int32), o1, rfl, h, by rw [ht]; exact hP, va_K.moved hW.alike hK, hD⟩, hS.F ht⟩) hS.2.2 d_PV_feed_17
abbrev b_PV_end : ByteArray := prog_1_method_3_code
def y_PV_end : MethodName := ⟨R_PV, "end", "(I)I"⟩
abbrev w_PV_end : List Cond := Cond.code y_PV_end b_PV_end 2 (some .int) :: gw_tbl
theorem d_PV_end_0 : decode b_PV_end 0 = .ok (.iload_n 1, 1) := by decide +kernel
theorem d_PV_end_1 : decode b_PV_end 1 = .ok (.ifCond .lt 14, 3) := by decide +kernel
theorem d_PV_end_4 : decode b_PV_end 4 = .ok (.iload_n 1, 1) := by decide +kernel
theorem d_PV_end_5 : decode b_PV_end 5 = .ok (.aload_n 0, 1) := by decide +kernel
theorem d_PV_end_6 : decode b_PV_end 6 = .ok (.getfield 25, 3) := by decide +kernel
theorem d_PV_end_9 : decode b_PV_end 9 = .ok (.getfield 105, 3) := by decide +kernel
theorem d_PV_end_12 : decode b_PV_end 12 = .ok (.if_icmp .le 5, 3) := by decide +kernel
theorem d_PV_end_15 : decode b_PV_end 15 = .ok (.iconst (-1), 1) := by decide +kernel
theorem d_PV_end_16 : decode b_PV_end 16 = .ok (.ireturn, 1) := by decide +kernel
theorem d_PV_end_17 : decode b_PV_end 17 = .ok (.aload_n 0, 1) := by decide +kernel
theorem d_PV_end_18 : decode b_PV_end 18 = .ok (.getfield 25, 3) := by decide +kernel
theorem d_PV_end_21 : decode b_PV_end 21 = .ok (.iload_n 1, 1) := by decide +kernel
theorem d_PV_end_22 : decode b_PV_end 22 = .ok (.putfield 105, 3) := by decide +kernel
theorem d_PV_end_25 : decode b_PV_end 25 = .ok (.iload_n 1, 1) := by decide +kernel
theorem d_PV_end_26 : decode b_PV_end 26 = .ok (.ireturn, 1) := by decide +kernel
def f_PV_end (a0 : Int32) (o0 : Ob) (o1 : Ob) (Q : Int32 → Ob → Prop) : Prop := (a0 < 0 → (Q (-1 : Int32) o1)) ∧ (¬ a0 < 0 → ((a0 ≤ (gI o1 1) → (Q a0 (sI o1 1 a0))) ∧ (¬ a0 ≤ (gI o1 1) → (Q (-1 : Int32) o1))))
abbrev rm_PV_end : Room := { frames := 0, cells := 0, slots := 0, locals := 0 }
set_option maxHeartbeats 4000000 in
set_option maxRecDepth 100000 in
theorem c_PV_end {l : Launch} {G : Gl} {h0 : Nat} {q0 : Nat → Nat} {q1 : Nat → Nat} {a0 : Int32} {o0 : Ob} {o1 : Ob} {Q : Int32 → Ob → Prop} (sz : Nat) (h : f_PV_end a0 o0 o1 Q) : Met l y_PV_end w_PV_end rm_PV_end (PcW G [.ref h0, .int a0] sz (cw_PV G h0 q0 o0 ++ (cw_Ta G (q0 1) q1 o1))) (va_Qi (fun (r : Int32) (u : Ob) => Q r u) (fun (u : Ob) t => BW G (va_A (cw_PV G h0 q0 o0 ++ (cw_Ta G (q0 1) q1 o1)) sz) (cw_PV G h0 q0 o0 ++ (cw_Ta G (q0 1) q1 u)) t) (va_A (cw_PV G h0 q0 o0 ++ (cw_Ta G (q0 1) q1 o1)) sz)) 0 0 (va_A (cw_PV G h0 q0 o0 ++ (cw_Ta G (q0 1) q1 o1)) sz) := by
  refine Met.ofW (cc := b_PV_end) (maxL := 2) (ret := (some .int)) (by decide +kernel) rfl ?_
  intro p e s m args below meth c s₁ B hml hv
  obtain ⟨rfl, hsz, hP, hK, hD0, hE⟩ := hv
  have hx := B.exec
  have hb := B.bytes
  have hr := B.returns
  have hts0 := atoms_spec (ws := w_PV_end) B.pre
  have hts : ∀ w ∈ gw_tbl, w.before ([.ref h0, .int a0]).toArray s = true := fun w hw => hts0 w (List.mem_cons_of_mem _ hw)
  have hown : s.vm.findClass R_PV = some m.cls := findClass_of_methodNamed B.named
  have hlocks := B.notSynchronized
  subst hsz
  have hD := hD0.self (sz := s.heap.size)
  generalize hAe : va_A (cw_PV G h0 q0 o0 ++ (cw_Ta G (q0 1) q1 o1)) s.heap.size = A at hD hE ⊢
  have hA : ∀ q : Nat, s.heap.size ≤ q → A q := fun q h => by rw [← hAe]; exact Or.inr h
  have hS : va_S A s.heap s.heap [] := va_S.rf
  have C : Cx p s m ([.ref h0, .int a0]).toArray meth c R_PV b_PV_end 2 (some .int) G A := ⟨hx, hb, hml, hown, hr, hts, hK, hA, hlocks, hE⟩
  have hl := lv_entry ([.ref h0, .int a0]) (n := 2) (Nat.le_of_ble_eq_true rfl)
  rw [lg_entry_eq]
  generalize (lg_sl ([.ref h0, .int a0]) ++ List.replicate (2 - (lg_sl ([.ref h0, .int a0])).length) Slot.unset).toArray = ls at hl ⊢
  have hl : lv_has ls 2 [(0, .ref h0), (1, .int a0)] := hl
  have hD : va_D A [(h0, .inr (0, [.int (gI o0 0), .ref (q0 1), .ref (q0 2), .ref (q0 3), .ref (q0 4), .ref (q0 5), .ref (q0 6), .ref (q0 7), .ref (q0 8), .ref (q0 9), .ref (q0 10), .ref (q0 11), .ref (q0 12), .ref (q0 13)])), kQ G (q0 3) 3 (fun i => some (q0 (50 + i))), kI G (q0 6) 1000 (gA o0 6), kJ G (q0 7) 2000 (gB o0 7), kI G (q0 13) 5 (gA o0 13), ((q0 1), .inr (10, [.ref (q1 0), .int (gI o1 1)])), kB G (q1 0) 400 (gA o1 0)] := hD
  unfold f_PV_end at h
  suffices key : ∀ (H : Heap) (locs : List Loc), va_P G.1 CL [(h0, .inr (0, [.int (gI o0 0), .ref (q0 1), .ref (q0 2), .ref (q0 3), .ref (q0 4), .ref (q0 5), .ref (q0 6), .ref (q0 7), .ref (q0 8), .ref (q0 9), .ref (q0 10), .ref (q0 11), .ref (q0 12), .ref (q0 13)])), kQ G (q0 3) 3 (fun i => some (q0 (50 + i))), kI G (q0 6) 1000 (gA o0 6), kJ G (q0 7) 2000 (gB o0 7), kI G (q0 13) 5 (gA o0 13), ((q0 1), .inr (10, [.ref (q1 0), .int (gI o1 1)])), kB G (q1 0) 400 (gA o1 0)] H → va_S A s.heap H locs → W p l e rm_PV_end s m ([.ref h0, .int a0]).toArray below meth c H locs 0 0 (MQ below (va_Qi (fun (r : Int32) (u : Ob) => Q r u) (fun (u : Ob) t => BW G A (cw_PV G h0 q0 o0 ++ (cw_Ta G (q0 1) q1 u)) t) A) ([.ref h0, .int a0]).toArray s 0 0 A) (F0 m 0 ls []) from key s.heap [] hP hS
  intro H locs hP hS
  refine lv_iload_n hx hb d_PV_end_0 rfl (lv_at hl 1 rfl) ?_
  refine lv_if_lt (tgt := 15) hx hb d_PV_end_1 (by decide) (fun c1 => ?_) (fun c1 => ?_)
  · have h := h.1 c1
    refine lv_iconst (v := (-1 : Int32)) hx hb d_PV_end_15 (by decide) ?_
    have hP : va_P G.1 CL (cw_PV G h0 q0 o0 ++ (cw_Ta G (q0 1) q1 o1)) H := hP
    have hD : va_D A (cw_PV G h0 q0 o0 ++ (cw_Ta G (q0 1) q1 o1)) := hD
    exact W.iret (v := (-1 : Int32)) hx hb hr (fun t ht hW => ⟨⟨(-1 : Int32), o1, rfl, h, by rw [ht]; exact hP, va_K.moved hW.alike hK, hD⟩, hS.F ht⟩) hS.2.2 d_PV_end_16
  · have h := h.2 c1
    refine lv_iload_n hx hb d_PV_end_4 rfl (lv_at hl 1 rfl) ?_
    refine lv_aload_n hx hb d_PV_end_5 rfl (lv_at hl 0 rfl) ?_
    refine va_get (D := G.1) (ci := 0) (v := .ref (q0 1)) (C := R_PV) (T := T_PV) (N := 14) hx hb hts i_PV hown hK hP 0 rfl rfl 1 (by decide) (hts _ wf_PV_25) (fun _ h9 => h9) rfl d_PV_end_6 ?_
    refine va_get (D := G.1) (ci := 10) (v := .int (gI o1 1)) (C := R_Ta) (T := T_Ta) (N := 2) hx hb hts i_Ta hown hK hP 5 rfl rfl 1 (by decide) (hts _ wf_PV_105) (fun _ h9 => h9) rfl d_PV_end_9 ?_
    refine lv_icmp_le (tgt := 17) hx hb d_PV_end_12 (by decide) (fun c2 => ?_) (fun c2 => ?_)
    · have h := h.1 c2
      refine lv_aload_n hx hb d_PV_end_17 rfl (lv_at hl 0 rfl) ?_
      refine va_get (D := G.1) (ci := 0) (v := .ref (q0 1)) (C := R_PV) (T := T_PV) (N := 14) hx hb hts i_PV hown hK hP 0 rfl rfl 1 (by decide) (hts _ wf_PV_25) (fun _ h9 => h9) rfl d_PV_end_18 ?_
      refine lv_iload_n hx hb d_PV_end_21 rfl (lv_at hl 1 rfl) ?_
      refine va_put (D := G.1) (ci := 10) (v := .int a0) (ty := .int) (C := R_Ta) (T := T_Ta) (N := 2) hx hb hts i_Ta ty_Ta ty_Ta_ok nm_Ta hown hK hP hD hS 5 rfl rfl 1 (by decide) (hts _ wf_PV_105) (fun _ h9 => h9) rfl (ty_Ta_ok 1 (by decide)) rfl rfl (Nat.le_of_ble_eq_true rfl) d_PV_end_22 (fun H locs hP hD hS => ?_)
      have hP : va_P G.1 CL [(h0, .inr (0, [.int (gI o0 0), .ref (q0 1), .ref (q0 2), .ref (q0 3), .ref (q0 4), .ref (q0 5), .ref (q0 6), .ref (q0 7), .ref (q0 8), .ref (q0 9), .ref (q0 10), .ref (q0 11), .ref (q0 12), .ref (q0 13)])), kQ G (q0 3) 3 (fun i => some (q0 (50 + i))), kI G (q0 6) 1000 (gA o0 6), kJ G (q0 7) 2000 (gB o0 7), kI G (q0 13) 5 (gA o0 13), ((q0 1), .inr (10, [.ref (q1 0), .int a0])), kB G (q1 0) 400 (gA o1 0)] H := hP
      have hD : va_D A [(h0, .inr (0, [.int (gI o0 0), .ref (q0 1), .ref (q0 2), .ref (q0 3), .ref (q0 4), .ref (q0 5), .ref (q0 6), .ref (q0 7), .ref (q0 8), .ref (q0 9), .ref (q0 10), .ref (q0 11), .ref (q0 12), .ref (q0 13)])), kQ G (q0 3) 3 (fun i => some (q0 (50 + i))), kI G (q0 6) 1000 (gA o0 6), kJ G (q0 7) 2000 (gB o0 7), kI G (q0 13) 5 (gA o0 13), ((q0 1), .inr (10, [.ref (q1 0), .int a0])), kB G (q1 0) 400 (gA o1 0)] := hD
      refine lv_iload_n hx hb d_PV_end_25 rfl (lv_at hl 1 rfl) ?_
      have hP : va_P G.1 CL (cw_PV G h0 q0 o0 ++ (cw_Ta G (q0 1) q1 (sI o1 1 a0))) H := hP
      have hD : va_D A (cw_PV G h0 q0 o0 ++ (cw_Ta G (q0 1) q1 (sI o1 1 a0))) := hD
      exact W.iret (v := a0) hx hb hr (fun t ht hW => ⟨⟨a0, (sI o1 1 a0), rfl, h, by rw [ht]; exact hP, va_K.moved hW.alike hK, hD⟩, hS.F ht⟩) hS.2.2 d_PV_end_26
    · have h := h.2 c2
      refine lv_iconst (v := (-1 : Int32)) hx hb d_PV_end_15 (by decide) ?_
      have hP : va_P G.1 CL (cw_PV G h0 q0 o0 ++ (cw_Ta G (q0 1) q1 o1)) H := hP
      have hD : va_D A (cw_PV G h0 q0 o0 ++ (cw_Ta G (q0 1) q1 o1)) := hD
      exact W.iret (v := (-1 : Int32)) hx hb hr (fun t ht hW => ⟨⟨(-1 : Int32), o1, rfl, h, by rw [ht]; exact hP, va_K.moved hW.alike hK, hD⟩, hS.F ht⟩) hS.2.2 d_PV_end_16
abbrev b_PV_fault : ByteArray := prog_1_method_5_code
def y_PV_fault : MethodName := ⟨R_PV, "fault", "(I)I"⟩
abbrev w_PV_fault : List Cond := Cond.code y_PV_fault b_PV_fault 2 (some .int) :: gw_tbl
theorem d_PV_fault_0 : decode b_PV_fault 0 = .ok (.aload_n 0, 1) := by decide +kernel
theorem d_PV_fault_1 : decode b_PV_fault 1 = .ok (.getfield 41, 3) := by decide +kernel
theorem d_PV_fault_4 : decode b_PV_fault 4 = .ok (.getfield 138, 3) := by decide +kernel
theorem d_PV_fault_7 : decode b_PV_fault 7 = .ok (.ifCond .ne 5, 3) := by decide +kernel
theorem d_PV_fault_10 : decode b_PV_fault 10 = .ok (.iconst (-1), 1) := by decide +kernel
theorem d_PV_fault_11 : decode b_PV_fault 11 = .ok (.ireturn, 1) := by decide +kernel
theorem d_PV_fault_12 : decode b_PV_fault 12 = .ok (.iload_n 1, 1) := by decide +kernel
theorem d_PV_fault_13 : decode b_PV_fault 13 = .ok (.ifCond .ne 11, 3) := by decide +kernel
theorem d_PV_fault_16 : decode b_PV_fault 16 = .ok (.aload_n 0, 1) := by decide +kernel
theorem d_PV_fault_17 : decode b_PV_fault 17 = .ok (.getfield 41, 3) := by decide +kernel
theorem d_PV_fault_20 : decode b_PV_fault 20 = .ok (.getfield 125, 3) := by decide +kernel
theorem d_PV_fault_23 : decode b_PV_fault 23 = .ok (.ireturn, 1) := by decide +kernel
theorem d_PV_fault_24 : decode b_PV_fault 24 = .ok (.iload_n 1, 1) := by decide +kernel
theorem d_PV_fault_25 : decode b_PV_fault 25 = .ok (.iconst 1, 1) := by decide +kernel
theorem d_PV_fault_26 : decode b_PV_fault 26 = .ok (.if_icmp .ne 13, 3) := by decide +kernel
theorem d_PV_fault_29 : decode b_PV_fault 29 = .ok (.aload_n 0, 1) := by decide +kernel
theorem d_PV_fault_30 : decode b_PV_fault 30 = .ok (.getfield 41, 3) := by decide +kernel
theorem d_PV_fault_33 : decode b_PV_fault 33 = .ok (.getfield 142, 3) := by decide +kernel
theorem d_PV_fault_36 : decode b_PV_fault 36 = .ok (.goto 4, 3) := by decide +kernel
theorem d_PV_fault_39 : decode b_PV_fault 39 = .ok (.iconst (-1), 1) := by decide +kernel
theorem d_PV_fault_40 : decode b_PV_fault 40 = .ok (.ireturn, 1) := by decide +kernel
theorem wf_PV_41 : Cond.fieldLink R_PV 41 R_PV "reader" "LPipeVoice$Reader;" ∈ gw_tbl := gw_tb (List.mem_of_getElem? (i := 440) (by decide +kernel)) rfl
theorem wf_PV_138 : Cond.fieldLink R_PV 138 R_Re "hasRead" "Z" ∈ gw_tbl := gw_tb (List.mem_of_getElem? (i := 161) (by decide +kernel)) rfl
theorem wf_PV_142 : Cond.fieldLink R_PV 142 R_Re "place" "I" ∈ gw_tbl := gw_tb (List.mem_of_getElem? (i := 165) (by decide +kernel)) rfl
theorem wf_PV_125 : Cond.fieldLink R_PV 125 R_Re "flaw" "I" ∈ gw_tbl := gw_tb (List.mem_of_getElem? (i := 163) (by decide +kernel)) rfl
def f_PV_fault (a0 : Int32) (o0 : Ob) (r1 : (Nat → Nat)) (o1 : Ob) (Q : Int32 → Prop) : Prop := ((gI o1 8) = 0 → (Q (-1 : Int32))) ∧ (¬ (gI o1 8) = 0 → ((a0 = 0 → (Q (gI o1 9))) ∧ (¬ a0 = 0 → ((a0 = (1 : Int32) → (Q (gI o1 10))) ∧ (¬ a0 = (1 : Int32) → (Q (-1 : Int32)))))))
abbrev rm_PV_fault : Room := { frames := 0, cells := 0, slots := 0, locals := 0 }
set_option maxHeartbeats 4000000 in
set_option maxRecDepth 100000 in
theorem c_PV_fault {l : Launch} {G : Gl} {h0 : Nat} {q0 : Nat → Nat} {q1 : Nat → Nat} {a0 : Int32} {o0 : Ob} {r1 : (Nat → Nat)} {o1 : Ob} {Q : Int32 → Prop} (sz : Nat) (h : f_PV_fault a0 o0 r1 o1 Q) : Met l y_PV_fault w_PV_fault rm_PV_fault (PcW G [.ref h0, .int a0] sz (cw_PV G h0 q0 o0 ++ (cw_Re G (q0 2) q1 r1 o1))) (va_Qi (fun (r : Int32) (u : Unit) => Q r) (fun (u : Unit) t => BW G (va_A (cw_PV G h0 q0 o0 ++ (cw_Re G (q0 2) q1 r1 o1)) sz) (cw_PV G h0 q0 o0 ++ (cw_Re G (q0 2) q1 r1 o1)) t) (va_A (cw_PV G h0 q0 o0 ++ (cw_Re G (q0 2) q1 r1 o1)) sz)) 0 0 (va_A (cw_PV G h0 q0 o0 ++ (cw_Re G (q0 2) q1 r1 o1)) sz) := by
  refine Met.ofW (cc := b_PV_fault) (maxL := 2) (ret := (some .int)) (by decide +kernel) rfl ?_
  intro p e s m args below meth c s₁ B hml hv
  obtain ⟨rfl, hsz, hP, hK, hD0, hE⟩ := hv
  have hx := B.exec
  have hb := B.bytes
  have hr := B.returns
  have hts0 := atoms_spec (ws := w_PV_fault) B.pre
  have hts : ∀ w ∈ gw_tbl, w.before ([.ref h0, .int a0]).toArray s = true := fun w hw => hts0 w (List.mem_cons_of_mem _ hw)
  have hown : s.vm.findClass R_PV = some m.cls := findClass_of_methodNamed B.named
  have hlocks := B.notSynchronized
  subst hsz
  have hD := hD0.self (sz := s.heap.size)
  generalize hAe : va_A (cw_PV G h0 q0 o0 ++ (cw_Re G (q0 2) q1 r1 o1)) s.heap.size = A at hD hE ⊢
  have hA : ∀ q : Nat, s.heap.size ≤ q → A q := fun q h => by rw [← hAe]; exact Or.inr h
  have hS : va_S A s.heap s.heap [] := va_S.rf
  have C : Cx p s m ([.ref h0, .int a0]).toArray meth c R_PV b_PV_fault 2 (some .int) G A := ⟨hx, hb, hml, hown, hr, hts, hK, hA, hlocks, hE⟩
  have hl := lv_entry ([.ref h0, .int a0]) (n := 2) (Nat.le_of_ble_eq_true rfl)
  rw [lg_entry_eq]
  generalize (lg_sl ([.ref h0, .int a0]) ++ List.replicate (2 - (lg_sl ([.ref h0, .int a0])).length) Slot.unset).toArray = ls at hl ⊢
  have hl : lv_has ls 2 [(0, .ref h0), (1, .int a0)] := hl
  have hD : va_D A [(h0, .inr (0, [.int (gI o0 0), .ref (q0 1), .ref (q0 2), .ref (q0 3), .ref (q0 4), .ref (q0 5), .ref (q0 6), .ref (q0 7), .ref (q0 8), .ref (q0 9), .ref (q0 10), .ref (q0 11), .ref (q0 12), .ref (q0 13)])), kQ G (q0 3) 3 (fun i => some (q0 (50 + i))), kI G (q0 6) 1000 (gA o0 6), kJ G (q0 7) 2000 (gB o0 7), kI G (q0 13) 5 (gA o0 13), ((q0 2), .inr (7, [.ref (q1 0), .int (gI o1 1), .ref (r1 2), .int (gI o1 3), .int (gI o1 4), .int (gI o1 5), .int (gI o1 6), .int (gI o1 7), .int (gI o1 8), .int (gI o1 9), .int (gI o1 10)]))] := hD
  unfold f_PV_fault at h
  suffices key : ∀ (H : Heap) (locs : List Loc), va_P G.1 CL [(h0, .inr (0, [.int (gI o0 0), .ref (q0 1), .ref (q0 2), .ref (q0 3), .ref (q0 4), .ref (q0 5), .ref (q0 6), .ref (q0 7), .ref (q0 8), .ref (q0 9), .ref (q0 10), .ref (q0 11), .ref (q0 12), .ref (q0 13)])), kQ G (q0 3) 3 (fun i => some (q0 (50 + i))), kI G (q0 6) 1000 (gA o0 6), kJ G (q0 7) 2000 (gB o0 7), kI G (q0 13) 5 (gA o0 13), ((q0 2), .inr (7, [.ref (q1 0), .int (gI o1 1), .ref (r1 2), .int (gI o1 3), .int (gI o1 4), .int (gI o1 5), .int (gI o1 6), .int (gI o1 7), .int (gI o1 8), .int (gI o1 9), .int (gI o1 10)]))] H → va_S A s.heap H locs → W p l e rm_PV_fault s m ([.ref h0, .int a0]).toArray below meth c H locs 0 0 (MQ below (va_Qi (fun (r : Int32) (u : Unit) => Q r) (fun (u : Unit) t => BW G A (cw_PV G h0 q0 o0 ++ (cw_Re G (q0 2) q1 r1 o1)) t) A) ([.ref h0, .int a0]).toArray s 0 0 A) (F0 m 0 ls []) from key s.heap [] hP hS
  intro H locs hP hS
  refine lv_aload_n hx hb d_PV_fault_0 rfl (lv_at hl 0 rfl) ?_
  refine va_get (D := G.1) (ci := 0) (v := .ref (q0 2)) (C := R_PV) (T := T_PV) (N := 14) hx hb hts i_PV hown hK hP 0 rfl rfl 2 (by decide) (hts _ wf_PV_41) (fun _ h9 => h9) rfl d_PV_fault_1 ?_
  refine va_get (D := G.1) (ci := 7) (v := .int (gI o1 8)) (C := R_Re) (T := T_Re) (N := 11) hx hb hts i_Re hown hK hP 5 rfl rfl 8 (by decide) (hts _ wf_PV_138) (fun _ h9 => h9) rfl d_PV_fault_4 ?_
  refine lv_if_ne (tgt := 12) hx hb d_PV_fault_7 (by decide) (fun c1 => ?_) (fun c1 => ?_)
  · have h := h.2 c1
    refine lv_iload_n hx hb d_PV_fault_12 rfl (lv_at hl 1 rfl) ?_
    refine lv_if_ne (tgt := 24) hx hb d_PV_fault_13 (by decide) (fun c2 => ?_) (fun c2 => ?_)
    · have h := h.2 c2
      refine lv_iload_n hx hb d_PV_fault_24 rfl (lv_at hl 1 rfl) ?_
      refine lv_iconst (v := (1 : Int32)) hx hb d_PV_fault_25 (by decide) ?_
      refine lv_icmp_ne (tgt := 39) hx hb d_PV_fault_26 (by decide) (fun c3 => ?_) (fun c3 => ?_)
      · have h := h.2 c3
        refine lv_iconst (v := (-1 : Int32)) hx hb d_PV_fault_39 (by decide) ?_
        have hP : va_P G.1 CL (cw_PV G h0 q0 o0 ++ (cw_Re G (q0 2) q1 r1 o1)) H := hP
        have hD : va_D A (cw_PV G h0 q0 o0 ++ (cw_Re G (q0 2) q1 r1 o1)) := hD
        exact W.iret (v := (-1 : Int32)) hx hb hr (fun t ht hW => ⟨⟨(-1 : Int32), (), rfl, h, by rw [ht]; exact hP, va_K.moved hW.alike hK, hD⟩, hS.F ht⟩) hS.2.2 d_PV_fault_40
      · have h := h.1 c3
        refine lv_aload_n hx hb d_PV_fault_29 rfl (lv_at hl 0 rfl) ?_
        refine va_get (D := G.1) (ci := 0) (v := .ref (q0 2)) (C := R_PV) (T := T_PV) (N := 14) hx hb hts i_PV hown hK hP 0 rfl rfl 2 (by decide) (hts _ wf_PV_41) (fun _ h9 => h9) rfl d_PV_fault_30 ?_
        refine va_get (D := G.1) (ci := 7) (v := .int (gI o1 10)) (C := R_Re) (T := T_Re) (N := 11) hx hb hts i_Re hown hK hP 5 rfl rfl 10 (by decide) (hts _ wf_PV_142) (fun _ h9 => h9) rfl d_PV_fault_33 ?_
        refine lv_goto (tgt := 40) hx hb d_PV_fault_36 (by decide) ?_
        have hP : va_P G.1 CL (cw_PV G h0 q0 o0 ++ (cw_Re G (q0 2) q1 r1 o1)) H := hP
        have hD : va_D A (cw_PV G h0 q0 o0 ++ (cw_Re G (q0 2) q1 r1 o1)) := hD
        exact W.iret (v := (gI o1 10)) hx hb hr (fun t ht hW => ⟨⟨(gI o1 10), (), rfl, h, by rw [ht]; exact hP, va_K.moved hW.alike hK, hD⟩, hS.F ht⟩) hS.2.2 d_PV_fault_40
    · have h := h.1 c2
      refine lv_aload_n hx hb d_PV_fault_16 rfl (lv_at hl 0 rfl) ?_
      refine va_get (D := G.1) (ci := 0) (v := .ref (q0 2)) (C := R_PV) (T := T_PV) (N := 14) hx hb hts i_PV hown hK hP 0 rfl rfl 2 (by decide) (hts _ wf_PV_41) (fun _ h9 => h9) rfl d_PV_fault_17 ?_
      refine va_get (D := G.1) (ci := 7) (v := .int (gI o1 9)) (C := R_Re) (T := T_Re) (N := 11) hx hb hts i_Re hown hK hP 5 rfl rfl 9 (by decide) (hts _ wf_PV_125) (fun _ h9 => h9) rfl d_PV_fault_20 ?_
      have hP : va_P G.1 CL (cw_PV G h0 q0 o0 ++ (cw_Re G (q0 2) q1 r1 o1)) H := hP
      have hD : va_D A (cw_PV G h0 q0 o0 ++ (cw_Re G (q0 2) q1 r1 o1)) := hD
      exact W.iret (v := (gI o1 9)) hx hb hr (fun t ht hW => ⟨⟨(gI o1 9), (), rfl, h, by rw [ht]; exact hP, va_K.moved hW.alike hK, hD⟩, hS.F ht⟩) hS.2.2 d_PV_fault_23
  · have h := h.1 c1
    refine lv_iconst (v := (-1 : Int32)) hx hb d_PV_fault_10 (by decide) ?_
    have hP : va_P G.1 CL (cw_PV G h0 q0 o0 ++ (cw_Re G (q0 2) q1 r1 o1)) H := hP
    have hD : va_D A (cw_PV G h0 q0 o0 ++ (cw_Re G (q0 2) q1 r1 o1)) := hD
    exact W.iret (v := (-1 : Int32)) hx hb hr (fun t ht hW => ⟨⟨(-1 : Int32), (), rfl, h, by rw [ht]; exact hP, va_K.moved hW.alike hK, hD⟩, hS.F ht⟩) hS.2.2 d_PV_fault_11
abbrev b_PV_law : ByteArray := prog_1_method_6_code
def y_PV_law : MethodName := ⟨R_PV, "law", "(I)I"⟩
abbrev w_PV_law : List Cond := Cond.code y_PV_law b_PV_law 2 (some .int) :: gw_tbl
theorem d_PV_law_0 : decode b_PV_law 0 = .ok (.aload_n 0, 1) := by decide +kernel
theorem d_PV_law_1 : decode b_PV_law 1 = .ok (.iload_n 1, 1) := by decide +kernel
theorem d_PV_law_2 : decode b_PV_law 2 = .ok (.invokevirtual 145, 3) := by decide +kernel
theorem d_PV_law_5 : decode b_PV_law 5 = .ok (.ifCond .eq 16, 3) := by decide +kernel
theorem d_PV_law_8 : decode b_PV_law 8 = .ok (.aload_n 0, 1) := by decide +kernel
theorem d_PV_law_9 : decode b_PV_law 9 = .ok (.getfield 50, 3) := by decide +kernel
theorem d_PV_law_12 : decode b_PV_law 12 = .ok (.getfield 128, 3) := by decide +kernel
theorem d_PV_law_15 : decode b_PV_law 15 = .ok (.getfield 149, 3) := by decide +kernel
theorem d_PV_law_18 : decode b_PV_law 18 = .ok (.iload_n 1, 1) := by decide +kernel
theorem d_PV_law_19 : decode b_PV_law 19 = .ok (.iaload, 1) := by decide +kernel
theorem d_PV_law_20 : decode b_PV_law 20 = .ok (.ireturn, 1) := by decide +kernel
theorem d_PV_law_21 : decode b_PV_law 21 = .ok (.iload_n 1, 1) := by decide +kernel
theorem d_PV_law_22 : decode b_PV_law 22 = .ok (.tableswitch 74 10 13 #[30, 41, 52, 63], 30) := by decide +kernel
theorem d_PV_law_52 : decode b_PV_law 52 = .ok (.aload_n 0, 1) := by decide +kernel
theorem d_PV_law_53 : decode b_PV_law 53 = .ok (.getfield 50, 3) := by decide +kernel
theorem d_PV_law_56 : decode b_PV_law 56 = .ok (.getfield 128, 3) := by decide +kernel
theorem d_PV_law_59 : decode b_PV_law 59 = .ok (.getfield 152, 3) := by decide +kernel
theorem d_PV_law_62 : decode b_PV_law 62 = .ok (.ireturn, 1) := by decide +kernel
theorem d_PV_law_63 : decode b_PV_law 63 = .ok (.aload_n 0, 1) := by decide +kernel
theorem d_PV_law_64 : decode b_PV_law 64 = .ok (.getfield 50, 3) := by decide +kernel
theorem d_PV_law_67 : decode b_PV_law 67 = .ok (.getfield 128, 3) := by decide +kernel
theorem d_PV_law_70 : decode b_PV_law 70 = .ok (.getfield 155, 3) := by decide +kernel
theorem d_PV_law_73 : decode b_PV_law 73 = .ok (.ireturn, 1) := by decide +kernel
theorem d_PV_law_74 : decode b_PV_law 74 = .ok (.aload_n 0, 1) := by decide +kernel
theorem d_PV_law_75 : decode b_PV_law 75 = .ok (.getfield 50, 3) := by decide +kernel
theorem d_PV_law_78 : decode b_PV_law 78 = .ok (.getfield 128, 3) := by decide +kernel
theorem d_PV_law_81 : decode b_PV_law 81 = .ok (.getfield 158, 3) := by decide +kernel
theorem d_PV_law_84 : decode b_PV_law 84 = .ok (.ireturn, 1) := by decide +kernel
theorem d_PV_law_85 : decode b_PV_law 85 = .ok (.aload_n 0, 1) := by decide +kernel
theorem d_PV_law_86 : decode b_PV_law 86 = .ok (.getfield 50, 3) := by decide +kernel
theorem d_PV_law_89 : decode b_PV_law 89 = .ok (.getfield 128, 3) := by decide +kernel
theorem d_PV_law_92 : decode b_PV_law 92 = .ok (.getfield 161, 3) := by decide +kernel
theorem d_PV_law_95 : decode b_PV_law 95 = .ok (.ireturn, 1) := by decide +kernel
theorem d_PV_law_96 : decode b_PV_law 96 = .ok (.iconst (-1), 1) := by decide +kernel
theorem d_PV_law_97 : decode b_PV_law 97 = .ok (.ireturn, 1) := by decide +kernel
theorem wv_PV_145 : wV R_PV 145 y_PV_isPiece b_PV_isPiece 2 (some .boolean) 1 := ⟨⟨gw_tb (List.mem_of_getElem? (i := 653) (by decide +kernel)) rfl, gw_tb (List.mem_of_getElem? (i := 1) (by decide +kernel)) rfl, gw_tb (List.mem_of_getElem? (i := 656) (by decide +kernel)) rfl, by decide, by decide, by decide +kernel⟩, gw_tb (List.mem_of_getElem? (i := 655) (by decide +kernel)) rfl, gw_of (List.mem_append_left _ (List.mem_of_getElem? (i := 17) (by decide +kernel))) rfl⟩
theorem wf_PV_128 : Cond.fieldLink R_PV 128 R_Mo "law" "LPipeVoice$Law;" ∈ gw_tbl := gw_tb (List.mem_of_getElem? (i := 236) (by decide +kernel)) rfl
theorem wf_PV_152 : Cond.fieldLink R_PV 152 R_La "loss" "I" ∈ gw_tbl := gw_tb (List.mem_of_getElem? (i := 70) (by decide +kernel)) rfl
theorem wf_PV_155 : Cond.fieldLink R_PV 155 R_La "lips" "I" ∈ gw_tbl := gw_tb (List.mem_of_getElem? (i := 74) (by decide +kernel)) rfl
theorem wf_PV_158 : Cond.fieldLink R_PV 158 R_La "back" "I" ∈ gw_tbl := gw_tb (List.mem_of_getElem? (i := 78) (by decide +kernel)) rfl
theorem wf_PV_161 : Cond.fieldLink R_PV 161 R_La "gestures" "I" ∈ gw_tbl := gw_tb (List.mem_of_getElem? (i := 84) (by decide +kernel)) rfl
theorem wf_PV_149 : Cond.fieldLink R_PV 149 R_La "rest" "[I" ∈ gw_tbl := gw_tb (List.mem_of_getElem? (i := 66) (by decide +kernel)) rfl
def f_PV_law (a0 : Int32) (o0 : Ob) (r1 : (Nat → Nat)) (o1 : Ob) (o2 : Ob) (Q : Int32 → Prop) : Prop := f_PV_isPiece a0 o0 (fun z1 => (z1 = 0 → ((a0 = (10 : Int32) → (Q (gI o2 1))) ∧ (¬ a0 = (10 : Int32) → ((a0 = (11 : Int32) → (Q (gI o2 2))) ∧ (¬ a0 = (11 : Int32) → ((a0 = (12 : Int32) → (Q (gI o2 3))) ∧ (¬ a0 = (12 : Int32) → ((a0 = (13 : Int32) → (Q (gI o2 5))) ∧ (¬ a0 = (13 : Int32) → (Q (-1 : Int32))))))))))) ∧ (¬ z1 = 0 → ((vp_in a0 5) ∧ (Q ((gA o2 0) a0.toNatClampNeg)))))
abbrev rm_PV_law : Room := { frames := 1, cells := 0, slots := 0, locals := 21 }
set_option maxHeartbeats 4000000 in
set_option maxRecDepth 100000 in
theorem c_PV_law {l : Launch} {G : Gl} {h0 : Nat} {q0 : Nat → Nat} {q1 : Nat → Nat} {q2 : Nat → Nat} {a0 : Int32} {o0 : Ob} {r1 : (Nat → Nat)} {o1 : Ob} {o2 : Ob} {Q : Int32 → Prop} (sz : Nat) (h : f_PV_law a0 o0 r1 o1 o2 Q) : Met l y_PV_law w_PV_law rm_PV_law (PcW G [.ref h0, .int a0] sz (cw_PV G h0 q0 o0 ++ (cw_Mo G (q0 4) q1 r1 o1 ++ (cw_La G (r1 0) q2 o2)))) (va_Qi (fun (r : Int32) (u : Unit) => Q r) (fun (u : Unit) t => BW G (va_A (cw_PV G h0 q0 o0 ++ (cw_Mo G (q0 4) q1 r1 o1 ++ (cw_La G (r1 0) q2 o2))) sz) (cw_PV G h0 q0 o0 ++ (cw_Mo G (q0 4) q1 r1 o1 ++ (cw_La G (r1 0) q2 o2))) t) (va_A (cw_PV G h0 q0 o0 ++ (cw_Mo G (q0 4) q1 r1 o1 ++ (cw_La G (r1 0) q2 o2))) sz)) 0 0 (va_A (cw_PV G h0 q0 o0 ++ (cw_Mo G (q0 4) q1 r1 o1 ++ (cw_La G (r1 0) q2 o2))) sz) := by
  refine Met.ofW (cc := b_PV_law) (maxL := 2) (ret := (some .int)) (by decide +kernel) rfl ?_
  intro p e s m args below meth c s₁ B hml hv
  obtain ⟨rfl, hsz, hP, hK, hD0, hE⟩ := hv
  have hx := B.exec
  have hb := B.bytes
  have hr := B.returns
  have hts0 := atoms_spec (ws := w_PV_law) B.pre
  have hts : ∀ w ∈ gw_tbl, w.before ([.ref h0, .int a0]).toArray s = true := fun w hw => hts0 w (List.mem_cons_of_mem _ hw)
  have hown : s.vm.findClass R_PV = some m.cls := findClass_of_methodNamed B.named
  have hlocks := B.notSynchronized
  subst hsz
  have hD := hD0.self (sz := s.heap.size)
  generalize hAe : va_A (cw_PV G h0 q0 o0 ++ (cw_Mo G (q0 4) q1 r1 o1 ++ (cw_La G (r1 0) q2 o2))) s.heap.size = A at hD hE ⊢
  have hA : ∀ q : Nat, s.heap.size ≤ q → A q := fun q h => by rw [← hAe]; exact Or.inr h
  have hS : va_S A s.heap s.heap [] := va_S.rf
  have C : Cx p s m ([.ref h0, .int a0]).toArray meth c R_PV b_PV_law 2 (some .int) G A := ⟨hx, hb, hml, hown, hr, hts, hK, hA, hlocks, hE⟩
  have hl := lv_entry ([.ref h0, .int a0]) (n := 2) (Nat.le_of_ble_eq_true rfl)
  rw [lg_entry_eq]
  generalize (lg_sl ([.ref h0, .int a0]) ++ List.replicate (2 - (lg_sl ([.ref h0, .int a0])).length) Slot.unset).toArray = ls at hl ⊢
  have hl : lv_has ls 2 [(0, .ref h0), (1, .int a0)] := hl
  have hD : va_D A [(h0, .inr (0, [.int (gI o0 0), .ref (q0 1), .ref (q0 2), .ref (q0 3), .ref (q0 4), .ref (q0 5), .ref (q0 6), .ref (q0 7), .ref (q0 8), .ref (q0 9), .ref (q0 10), .ref (q0 11), .ref (q0 12), .ref (q0 13)])), kQ G (q0 3) 3 (fun i => some (q0 (50 + i))), kI G (q0 6) 1000 (gA o0 6), kJ G (q0 7) 2000 (gB o0 7), kI G (q0 13) 5 (gA o0 13), ((q0 4), .inr (5, [.ref (r1 0), .int (gI o1 1), .int (gI o1 2), .ref (q1 3), .ref (q1 4), .ref (q1 5), .ref (q1 6), .ref (q1 7), .ref (q1 8), .ref (q1 9), .ref (q1 10), .int (gI o1 11), .int (gI o1 12)])), kI G (q1 3) 20 (gA o1 3), kI G (q1 4) 20 (gA o1 4), kI G (q1 5) 5 (gA o1 5), kJ G (q1 6) 5 (gB o1 6), kJ G (q1 7) 5 (gB o1 7), kJ G (q1 8) 6 (gB o1 8), kI G (q1 10) 5 (gA o1 10), ((r1 0), .inr (3, [.ref (q2 0), .int (gI o2 1), .int (gI o2 2), .int (gI o2 3), .int (gI o2 4), .int (gI o2 5), .ref (q2 6), .ref (q2 7), .ref (q2 8), .ref (q2 9), .ref (q2 10), .ref (q2 11), .ref (q2 12), .ref (q2 13), .ref (q2 14)])), kI G (q2 0) 5 (gA o2 0), kI G (q2 6) 20 (gA o2 6), kI G (q2 7) 20 (gA o2 7), kI G (q2 8) 20 (gA o2 8), kI G (q2 9) 20 (gA o2 9), kI G (q2 10) 20 (gA o2 10), kI G (q2 11) 20 (gA o2 11), kI G (q2 12) 8 (gA o2 12), kI G (q2 13) 64 (gA o2 13), kI G (q2 14) 64 (gA o2 14)] := hD
  unfold f_PV_law at h
  suffices key : ∀ (H : Heap) (locs : List Loc), va_P G.1 CL [(h0, .inr (0, [.int (gI o0 0), .ref (q0 1), .ref (q0 2), .ref (q0 3), .ref (q0 4), .ref (q0 5), .ref (q0 6), .ref (q0 7), .ref (q0 8), .ref (q0 9), .ref (q0 10), .ref (q0 11), .ref (q0 12), .ref (q0 13)])), kQ G (q0 3) 3 (fun i => some (q0 (50 + i))), kI G (q0 6) 1000 (gA o0 6), kJ G (q0 7) 2000 (gB o0 7), kI G (q0 13) 5 (gA o0 13), ((q0 4), .inr (5, [.ref (r1 0), .int (gI o1 1), .int (gI o1 2), .ref (q1 3), .ref (q1 4), .ref (q1 5), .ref (q1 6), .ref (q1 7), .ref (q1 8), .ref (q1 9), .ref (q1 10), .int (gI o1 11), .int (gI o1 12)])), kI G (q1 3) 20 (gA o1 3), kI G (q1 4) 20 (gA o1 4), kI G (q1 5) 5 (gA o1 5), kJ G (q1 6) 5 (gB o1 6), kJ G (q1 7) 5 (gB o1 7), kJ G (q1 8) 6 (gB o1 8), kI G (q1 10) 5 (gA o1 10), ((r1 0), .inr (3, [.ref (q2 0), .int (gI o2 1), .int (gI o2 2), .int (gI o2 3), .int (gI o2 4), .int (gI o2 5), .ref (q2 6), .ref (q2 7), .ref (q2 8), .ref (q2 9), .ref (q2 10), .ref (q2 11), .ref (q2 12), .ref (q2 13), .ref (q2 14)])), kI G (q2 0) 5 (gA o2 0), kI G (q2 6) 20 (gA o2 6), kI G (q2 7) 20 (gA o2 7), kI G (q2 8) 20 (gA o2 8), kI G (q2 9) 20 (gA o2 9), kI G (q2 10) 20 (gA o2 10), kI G (q2 11) 20 (gA o2 11), kI G (q2 12) 8 (gA o2 12), kI G (q2 13) 64 (gA o2 13), kI G (q2 14) 64 (gA o2 14)] H → va_S A s.heap H locs → W p l e rm_PV_law s m ([.ref h0, .int a0]).toArray below meth c H locs 0 0 (MQ below (va_Qi (fun (r : Int32) (u : Unit) => Q r) (fun (u : Unit) t => BW G A (cw_PV G h0 q0 o0 ++ (cw_Mo G (q0 4) q1 r1 o1 ++ (cw_La G (r1 0) q2 o2))) t) A) ([.ref h0, .int a0]).toArray s 0 0 A) (F0 m 0 ls []) from key s.heap [] hP hS
  intro H locs hP hS
  refine lv_aload_n hx hb d_PV_law_0 rfl (lv_at hl 0 rfl) ?_
  refine lv_iload_n hx hb d_PV_law_1 rfl (lv_at hl 1 rfl) ?_
  refine cl_Vi (b := b_PV_law) (As := [.int a0]) (rest := []) (ws := [(h0, .inr (0, [.int (gI o0 0), .ref (q0 1), .ref (q0 2), .ref (q0 3), .ref (q0 4), .ref (q0 5), .ref (q0 6), .ref (q0 7), .ref (q0 8), .ref (q0 9), .ref (q0 10), .ref (q0 11), .ref (q0 12), .ref (q0 13)])), kQ G (q0 3) 3 (fun i => some (q0 (50 + i))), kI G (q0 6) 1000 (gA o0 6), kJ G (q0 7) 2000 (gB o0 7), kI G (q0 13) 5 (gA o0 13), ((q0 4), .inr (5, [.ref (r1 0), .int (gI o1 1), .int (gI o1 2), .ref (q1 3), .ref (q1 4), .ref (q1 5), .ref (q1 6), .ref (q1 7), .ref (q1 8), .ref (q1 9), .ref (q1 10), .int (gI o1 11), .int (gI o1 12)])), kI G (q1 3) 20 (gA o1 3), kI G (q1 4) 20 (gA o1 4), kI G (q1 5) 5 (gA o1 5), kJ G (q1 6) 5 (gB o1 6), kJ G (q1 7) 5 (gB o1 7), kJ G (q1 8) 6 (gB o1 8), kI G (q1 10) 5 (gA o1 10), ((r1 0), .inr (3, [.ref (q2 0), .int (gI o2 1), .int (gI o2 2), .int (gI o2 3), .int (gI o2 4), .int (gI o2 5), .ref (q2 6), .ref (q2 7), .ref (q2 8), .ref (q2 9), .ref (q2 10), .ref (q2 11), .ref (q2 12), .ref (q2 13), .ref (q2 14)])), kI G (q2 0) 5 (gA o2 0), kI G (q2 6) 20 (gA o2 6), kI G (q2 7) 20 (gA o2 7), kI G (q2 8) 20 (gA o2 8), kI G (q2 9) 20 (gA o2 9), kI G (q2 10) 20 (gA o2 10), kI G (q2 11) 20 (gA o2 11), kI G (q2 12) 8 (gA o2 12), kI G (q2 13) 64 (gA o2 13), kI G (q2 14) 64 (gA o2 14)]) (wr := [((q0 4), .inr (5, [.ref (r1 0), .int (gI o1 1), .int (gI o1 2), .ref (q1 3), .ref (q1 4), .ref (q1 5), .ref (q1 6), .ref (q1 7), .ref (q1 8), .ref (q1 9), .ref (q1 10), .int (gI o1 11), .int (gI o1 12)])), kI G (q1 3) 20 (gA o1 3), kI G (q1 4) 20 (gA o1 4), kI G (q1 5) 5 (gA o1 5), kJ G (q1 6) 5 (gB o1 6), kJ G (q1 7) 5 (gB o1 7), kJ G (q1 8) 6 (gB o1 8), kI G (q1 10) 5 (gA o1 10), ((r1 0), .inr (3, [.ref (q2 0), .int (gI o2 1), .int (gI o2 2), .int (gI o2 3), .int (gI o2 4), .int (gI o2 5), .ref (q2 6), .ref (q2 7), .ref (q2 8), .ref (q2 9), .ref (q2 10), .ref (q2 11), .ref (q2 12), .ref (q2 13), .ref (q2 14)])), kI G (q2 0) 5 (gA o2 0), kI G (q2 6) 20 (gA o2 6), kI G (q2 7) 20 (gA o2 7), kI G (q2 8) 20 (gA o2 8), kI G (q2 9) 20 (gA o2 9), kI G (q2 10) 20 (gA o2 10), kI G (q2 11) 20 (gA o2 11), kI G (q2 12) 8 (gA o2 12), kI G (q2 13) 64 (gA o2 13), kI G (q2 14) 64 (gA o2 14)]) (w2 := fun (u : Unit) => [(h0, .inr (0, [.int (gI o0 0), .ref (q0 1), .ref (q0 2), .ref (q0 3), .ref (q0 4), .ref (q0 5), .ref (q0 6), .ref (q0 7), .ref (q0 8), .ref (q0 9), .ref (q0 10), .ref (q0 11), .ref (q0 12), .ref (q0 13)])), kQ G (q0 3) 3 (fun i => some (q0 (50 + i))), kI G (q0 6) 1000 (gA o0 6), kJ G (q0 7) 2000 (gB o0 7), kI G (q0 13) 5 (gA o0 13), ((q0 4), .inr (5, [.ref (r1 0), .int (gI o1 1), .int (gI o1 2), .ref (q1 3), .ref (q1 4), .ref (q1 5), .ref (q1 6), .ref (q1 7), .ref (q1 8), .ref (q1 9), .ref (q1 10), .int (gI o1 11), .int (gI o1 12)])), kI G (q1 3) 20 (gA o1 3), kI G (q1 4) 20 (gA o1 4), kI G (q1 5) 5 (gA o1 5), kJ G (q1 6) 5 (gB o1 6), kJ G (q1 7) 5 (gB o1 7), kJ G (q1 8) 6 (gB o1 8), kI G (q1 10) 5 (gA o1 10), ((r1 0), .inr (3, [.ref (q2 0), .int (gI o2 1), .int (gI o2 2), .int (gI o2 3), .int (gI o2 4), .int (gI o2 5), .ref (q2 6), .ref (q2 7), .ref (q2 8), .ref (q2 9), .ref (q2 10), .ref (q2 11), .ref (q2 12), .ref (q2 13), .ref (q2 14)])), kI G (q2 0) 5 (gA o2 0), kI G (q2 6) 20 (gA o2 6), kI G (q2 7) 20 (gA o2 7), kI G (q2 8) 20 (gA o2 8), kI G (q2 9) 20 (gA o2 9), kI G (q2 10) 20 (gA o2 10), kI G (q2 11) 20 (gA o2 11), kI G (q2 12) 8 (gA o2 12), kI G (q2 13) 64 (gA o2 13), kI G (q2 14) 64 (gA o2 14)]) C (c_PV_isPiece (h0 := h0) (q0 := q0) H.size h) wv_PV_145 ⟨Nat.le_of_ble_eq_true rfl, Nat.le_of_ble_eq_true rfl⟩ hP hD hS 0 rfl rfl [0, 1, 2, 3, 4] [5, 6, 7, 8, 9, 10, 11, 12, 13, 14, 15, 16, 17, 18, 19, 20, 21, 22, 23] rfl rfl (by decide) (by decide) (by decide) [19, 20, 21, 22, 23, 0, 1, 2, 3, 4, 5, 6, 7, 8, 9, 10, 11, 12, 13, 14, 15, 16, 17, 18] (by decide) (fun u => rfl) rfl hl.1 rfl (lv_room (Nat.le_of_ble_eq_true rfl)) d_PV_law_2 ⟨Nat.le_of_ble_eq_true rfl, Nat.le_of_ble_eq_true rfl⟩ rfl rfl (fun z1 u H locs h hP hD hS => ?_)
  have hP : va_P G.1 CL [(h0, .inr (0, [.int (gI o0 0), .ref (q0 1), .ref (q0 2), .ref (q0 3), .ref (q0 4), .ref (q0 5), .ref (q0 6), .ref (q0 7), .ref (q0 8), .ref (q0 9), .ref (q0 10), .ref (q0 11), .ref (q0 12), .ref (q0 13)])), kQ G (q0 3) 3 (fun i => some (q0 (50 + i))), kI G (q0 6) 1000 (gA o0 6), kJ G (q0 7) 2000 (gB o0 7), kI G (q0 13) 5 (gA o0 13), ((q0 4), .inr (5, [.ref (r1 0), .int (gI o1 1), .int (gI o1 2), .ref (q1 3), .ref (q1 4), .ref (q1 5), .ref (q1 6), .ref (q1 7), .ref (q1 8), .ref (q1 9), .ref (q1 10), .int (gI o1 11), .int (gI o1 12)])), kI G (q1 3) 20 (gA o1 3), kI G (q1 4) 20 (gA o1 4), kI G (q1 5) 5 (gA o1 5), kJ G (q1 6) 5 (gB o1 6), kJ G (q1 7) 5 (gB o1 7), kJ G (q1 8) 6 (gB o1 8), kI G (q1 10) 5 (gA o1 10), ((r1 0), .inr (3, [.ref (q2 0), .int (gI o2 1), .int (gI o2 2), .int (gI o2 3), .int (gI o2 4), .int (gI o2 5), .ref (q2 6), .ref (q2 7), .ref (q2 8), .ref (q2 9), .ref (q2 10), .ref (q2 11), .ref (q2 12), .ref (q2 13), .ref (q2 14)])), kI G (q2 0) 5 (gA o2 0), kI G (q2 6) 20 (gA o2 6), kI G (q2 7) 20 (gA o2 7), kI G (q2 8) 20 (gA o2 8), kI G (q2 9) 20 (gA o2 9), kI G (q2 10) 20 (gA o2 10), kI G (q2 11) 20 (gA o2 11), kI G (q2 12) 8 (gA o2 12), kI G (q2 13) 64 (gA o2 13), kI G (q2 14) 64 (gA o2 14)] H := hP
  have hD : va_D A [(h0, .inr (0, [.int (gI o0 0), .ref (q0 1), .ref (q0 2), .ref (q0 3), .ref (q0 4), .ref (q0 5), .ref (q0 6), .ref (q0 7), .ref (q0 8), .ref (q0 9), .ref (q0 10), .ref (q0 11), .ref (q0 12), .ref (q0 13)])), kQ G (q0 3) 3 (fun i => some (q0 (50 + i))), kI G (q0 6) 1000 (gA o0 6), kJ G (q0 7) 2000 (gB o0 7), kI G (q0 13) 5 (gA o0 13), ((q0 4), .inr (5, [.ref (r1 0), .int (gI o1 1), .int (gI o1 2), .ref (q1 3), .ref (q1 4), .ref (q1 5), .ref (q1 6), .ref (q1 7), .ref (q1 8), .ref (q1 9), .ref (q1 10), .int (gI o1 11), .int (gI o1 12)])), kI G (q1 3) 20 (gA o1 3), kI G (q1 4) 20 (gA o1 4), kI G (q1 5) 5 (gA o1 5), kJ G (q1 6) 5 (gB o1 6), kJ G (q1 7) 5 (gB o1 7), kJ G (q1 8) 6 (gB o1 8), kI G (q1 10) 5 (gA o1 10), ((r1 0), .inr (3, [.ref (q2 0), .int (gI o2 1), .int (gI o2 2), .int (gI o2 3), .int (gI o2 4), .int (gI o2 5), .ref (q2 6), .ref (q2 7), .ref (q2 8), .ref (q2 9), .ref (q2 10), .ref (q2 11), .ref (q2 12), .ref (q2 13), .ref (q2 14)])), kI G (q2 0) 5 (gA o2 0), kI G (q2 6) 20 (gA o2 6), kI G (q2 7) 20 (gA o2 7), kI G (q2 8) 20 (gA o2 8), kI G (q2 9) 20 (gA o2 9), kI G (q2 10) 20 (gA o2 10), kI G (q2 11) 20 (gA o2 11), kI G (q2 12) 8 (gA o2 12), kI G (q2 13) 64 (gA o2 13), kI G (q2 14) 64 (gA o2 14)] := hD
  refine lv_if_eq (tgt := 21) hx hb d_PV_law_5 (by decide) (fun c2 => ?_) (fun c2 => ?_)
  · have h := h.1 c2
    refine lv_iload_n hx hb d_PV_law_21 rfl (lv_at hl 1 rfl) ?_
    by_cases c3 : a0 = (10 : Int32)
    · have h := h.1 c3
      refine lv_tableIn (tgt := 52) hx hb d_PV_law_22 (by rw [c3]; decide) (by rw [c3]; decide) (off := 30) (by rw [c3]; rfl) (by decide) ?_
      refine lv_aload_n hx hb d_PV_law_52 rfl (lv_at hl 0 rfl) ?_
      refine va_get (D := G.1) (ci := 0) (v := .ref (q0 4)) (C := R_PV) (T := T_PV) (N := 14) hx hb hts i_PV hown hK hP 0 rfl rfl 4 (by decide) (hts _ wf_PV_50) (fun _ h9 => h9) rfl d_PV_law_53 ?_
      refine va_get (D := G.1) (ci := 5) (v := .ref (r1 0)) (C := R_Mo) (T := T_Mo) (N := 13) hx hb hts i_Mo hown hK hP 5 rfl rfl 0 (by decide) (hts _ wf_PV_128) (fun _ h9 => h9) rfl d_PV_law_56 ?_
      refine va_get (D := G.1) (ci := 3) (v := .int (gI o2 1)) (C := R_La) (T := T_La) (N := 15) hx hb hts i_La hown hK hP 13 rfl rfl 1 (by decide) (hts _ wf_PV_152) (fun _ h9 => h9) rfl d_PV_law_59 ?_
      have hP : va_P G.1 CL (cw_PV G h0 q0 o0 ++ (cw_Mo G (q0 4) q1 r1 o1 ++ (cw_La G (r1 0) q2 o2))) H := hP
      have hD : va_D A (cw_PV G h0 q0 o0 ++ (cw_Mo G (q0 4) q1 r1 o1 ++ (cw_La G (r1 0) q2 o2))) := hD
      exact W.iret (v := (gI o2 1)) hx hb hr (fun t ht hW => ⟨⟨(gI o2 1), (), rfl, h, by rw [ht]; exact hP, va_K.moved hW.alike hK, hD⟩, hS.F ht⟩) hS.2.2 d_PV_law_62
    have h := h.2 c3
    by_cases c4 : a0 = (11 : Int32)
    · have h := h.1 c4
      refine lv_tableIn (tgt := 63) hx hb d_PV_law_22 (by rw [c4]; decide) (by rw [c4]; decide) (off := 41) (by rw [c4]; rfl) (by decide) ?_
      refine lv_aload_n hx hb d_PV_law_63 rfl (lv_at hl 0 rfl) ?_
      refine va_get (D := G.1) (ci := 0) (v := .ref (q0 4)) (C := R_PV) (T := T_PV) (N := 14) hx hb hts i_PV hown hK hP 0 rfl rfl 4 (by decide) (hts _ wf_PV_50) (fun _ h9 => h9) rfl d_PV_law_64 ?_
      refine va_get (D := G.1) (ci := 5) (v := .ref (r1 0)) (C := R_Mo) (T := T_Mo) (N := 13) hx hb hts i_Mo hown hK hP 5 rfl rfl 0 (by decide) (hts _ wf_PV_128) (fun _ h9 => h9) rfl d_PV_law_67 ?_
      refine va_get (D := G.1) (ci := 3) (v := .int (gI o2 2)) (C := R_La) (T := T_La) (N := 15) hx hb hts i_La hown hK hP 13 rfl rfl 2 (by decide) (hts _ wf_PV_155) (fun _ h9 => h9) rfl d_PV_law_70 ?_
      have hP : va_P G.1 CL (cw_PV G h0 q0 o0 ++ (cw_Mo G (q0 4) q1 r1 o1 ++ (cw_La G (r1 0) q2 o2))) H := hP
      have hD : va_D A (cw_PV G h0 q0 o0 ++ (cw_Mo G (q0 4) q1 r1 o1 ++ (cw_La G (r1 0) q2 o2))) := hD
      exact W.iret (v := (gI o2 2)) hx hb hr (fun t ht hW => ⟨⟨(gI o2 2), (), rfl, h, by rw [ht]; exact hP, va_K.moved hW.alike hK, hD⟩, hS.F ht⟩) hS.2.2 d_PV_law_73
    have h := h.2 c4
    by_cases c5 : a0 = (12 : Int32)
    · have h := h.1 c5
      refine lv_tableIn (tgt := 74) hx hb d_PV_law_22 (by rw [c5]; decide) (by rw [c5]; decide) (off := 52) (by rw [c5]; rfl) (by decide) ?_
      refine lv_aload_n hx hb d_PV_law_74 rfl (lv_at hl 0 rfl) ?_
      refine va_get (D := G.1) (ci := 0) (v := .ref (q0 4)) (C := R_PV) (T := T_PV) (N := 14) hx hb hts i_PV hown hK hP 0 rfl rfl 4 (by decide) (hts _ wf_PV_50) (fun _ h9 => h9) rfl d_PV_law_75 ?_
      refine va_get (D := G.1) (ci := 5) (v := .ref (r1 0)) (C := R_Mo) (T := T_Mo) (N := 13) hx hb hts i_Mo hown hK hP 5 rfl rfl 0 (by decide) (hts _ wf_PV_128) (fun _ h9 => h9) rfl d_PV_law_78 ?_
      refine va_get (D := G.1) (ci := 3) (v := .int (gI o2 3)) (C := R_La) (T := T_La) (N := 15) hx hb hts i_La hown hK hP 13 rfl rfl 3 (by decide) (hts _ wf_PV_158) (fun _ h9 => h9) rfl d_PV_law_81 ?_
      have hP : va_P G.1 CL (cw_PV G h0 q0 o0 ++ (cw_Mo G (q0 4) q1 r1 o1 ++ (cw_La G (r1 0) q2 o2))) H := hP
      have hD : va_D A (cw_PV G h0 q0 o0 ++ (cw_Mo G (q0 4) q1 r1 o1 ++ (cw_La G (r1 0) q2 o2))) := hD
      exact W.iret (v := (gI o2 3)) hx hb hr (fun t ht hW => ⟨⟨(gI o2 3), (), rfl, h, by rw [ht]; exact hP, va_K.moved hW.alike hK, hD⟩, hS.F ht⟩) hS.2.2 d_PV_law_84
    have h := h.2 c5
    by_cases c6 : a0 = (13 : Int32)
    · have h := h.1 c6
      refine lv_tableIn (tgt := 85) hx hb d_PV_law_22 (by rw [c6]; decide) (by rw [c6]; decide) (off := 63) (by rw [c6]; rfl) (by decide) ?_
      refine lv_aload_n hx hb d_PV_law_85 rfl (lv_at hl 0 rfl) ?_
      refine va_get (D := G.1) (ci := 0) (v := .ref (q0 4)) (C := R_PV) (T := T_PV) (N := 14) hx hb hts i_PV hown hK hP 0 rfl rfl 4 (by decide) (hts _ wf_PV_50) (fun _ h9 => h9) rfl d_PV_law_86 ?_
      refine va_get (D := G.1) (ci := 5) (v := .ref (r1 0)) (C := R_Mo) (T := T_Mo) (N := 13) hx hb hts i_Mo hown hK hP 5 rfl rfl 0 (by decide) (hts _ wf_PV_128) (fun _ h9 => h9) rfl d_PV_law_89 ?_
      refine va_get (D := G.1) (ci := 3) (v := .int (gI o2 5)) (C := R_La) (T := T_La) (N := 15) hx hb hts i_La hown hK hP 13 rfl rfl 5 (by decide) (hts _ wf_PV_161) (fun _ h9 => h9) rfl d_PV_law_92 ?_
      have hP : va_P G.1 CL (cw_PV G h0 q0 o0 ++ (cw_Mo G (q0 4) q1 r1 o1 ++ (cw_La G (r1 0) q2 o2))) H := hP
      have hD : va_D A (cw_PV G h0 q0 o0 ++ (cw_Mo G (q0 4) q1 r1 o1 ++ (cw_La G (r1 0) q2 o2))) := hD
      exact W.iret (v := (gI o2 5)) hx hb hr (fun t ht hW => ⟨⟨(gI o2 5), (), rfl, h, by rw [ht]; exact hP, va_K.moved hW.alike hK, hD⟩, hS.F ht⟩) hS.2.2 d_PV_law_95
    have h := h.2 c6
    refine lv_tableOut (tgt := 96) hx hb d_PV_law_22 (sw_out a0 [(10 : Int32), (11 : Int32), (12 : Int32), (13 : Int32)] rfl (by intro k hk; simp only [List.mem_cons, List.not_mem_nil, or_false] at hk; rcases hk with rfl | rfl | rfl | rfl <;> assumption)) (by decide) ?_
    refine lv_iconst (v := (-1 : Int32)) hx hb d_PV_law_96 (by decide) ?_
    have hP : va_P G.1 CL (cw_PV G h0 q0 o0 ++ (cw_Mo G (q0 4) q1 r1 o1 ++ (cw_La G (r1 0) q2 o2))) H := hP
    have hD : va_D A (cw_PV G h0 q0 o0 ++ (cw_Mo G (q0 4) q1 r1 o1 ++ (cw_La G (r1 0) q2 o2))) := hD
    exact W.iret (v := (-1 : Int32)) hx hb hr (fun t ht hW => ⟨⟨(-1 : Int32), (), rfl, h, by rw [ht]; exact hP, va_K.moved hW.alike hK, hD⟩, hS.F ht⟩) hS.2.2 d_PV_law_97
  · have h := h.2 c2
    refine lv_aload_n hx hb d_PV_law_8 rfl (lv_at hl 0 rfl) ?_
    refine va_get (D := G.1) (ci := 0) (v := .ref (q0 4)) (C := R_PV) (T := T_PV) (N := 14) hx hb hts i_PV hown hK hP 0 rfl rfl 4 (by decide) (hts _ wf_PV_50) (fun _ h9 => h9) rfl d_PV_law_9 ?_
    refine va_get (D := G.1) (ci := 5) (v := .ref (r1 0)) (C := R_Mo) (T := T_Mo) (N := 13) hx hb hts i_Mo hown hK hP 5 rfl rfl 0 (by decide) (hts _ wf_PV_128) (fun _ h9 => h9) rfl d_PV_law_12 ?_
    refine va_get (D := G.1) (ci := 3) (v := .ref (q2 0)) (C := R_La) (T := T_La) (N := 15) hx hb hts i_La hown hK hP 13 rfl rfl 0 (by decide) (hts _ wf_PV_149) (fun _ h9 => h9) rfl d_PV_law_15 ?_
    refine lv_iload_n hx hb d_PV_law_18 rfl (lv_at hl 1 rfl) ?_
    have g7 := h.1
    have h := h.2
    refine xa_iald hx hb hK hP 14 0 rfl rfl g7 (k := a0.toNatClampNeg) rfl d_PV_law_19 ?_
    have hP : va_P G.1 CL (cw_PV G h0 q0 o0 ++ (cw_Mo G (q0 4) q1 r1 o1 ++ (cw_La G (r1 0) q2 o2))) H := hP
    have hD : va_D A (cw_PV G h0 q0 o0 ++ (cw_Mo G (q0 4) q1 r1 o1 ++ (cw_La G (r1 0) q2 o2))) := hD
    exact W.iret (v := ((gA o2 0) a0.toNatClampNeg)) hx hb hr (fun t ht hW => ⟨⟨((gA o2 0) a0.toNatClampNeg), (), rfl, h, by rw [ht]; exact hP, va_K.moved hW.alike hK, hD⟩, hS.F ht⟩) hS.2.2 d_PV_law_20
abbrev b_PV_say : ByteArray := prog_1_method_7_code
def y_PV_say : MethodName := ⟨R_PV, "say", "(I)I"⟩
abbrev w_PV_say : List Cond := Cond.code y_PV_say b_PV_say 2 (some .int) :: gw_tbl
theorem d_PV_say_0 : decode b_PV_say 0 = .ok (.iload_n 1, 1) := by decide +kernel
theorem d_PV_say_1 : decode b_PV_say 1 = .ok (.ifCond .lt 36, 3) := by decide +kernel
theorem d_PV_say_4 : decode b_PV_say 4 = .ok (.iload_n 1, 1) := by decide +kernel
theorem d_PV_say_5 : decode b_PV_say 5 = .ok (.bipush 8, 2) := by decide +kernel
theorem d_PV_say_7 : decode b_PV_say 7 = .ok (.if_icmp .ge 30, 3) := by decide +kernel
theorem d_PV_say_10 : decode b_PV_say 10 = .ok (.aload_n 0, 1) := by decide +kernel
theorem d_PV_say_11 : decode b_PV_say 11 = .ok (.getfield 50, 3) := by decide +kernel
theorem d_PV_say_14 : decode b_PV_say 14 = .ok (.getfield 128, 3) := by decide +kernel
theorem d_PV_say_17 : decode b_PV_say 17 = .ok (.getfield 164, 3) := by decide +kernel
theorem d_PV_say_20 : decode b_PV_say 20 = .ok (.iload_n 1, 1) := by decide +kernel
theorem d_PV_say_21 : decode b_PV_say 21 = .ok (.iaload, 1) := by decide +kernel
theorem d_PV_say_22 : decode b_PV_say 22 = .ok (.ifCond .eq 15, 3) := by decide +kernel
theorem d_PV_say_25 : decode b_PV_say 25 = .ok (.aload_n 0, 1) := by decide +kernel
theorem d_PV_say_26 : decode b_PV_say 26 = .ok (.getfield 50, 3) := by decide +kernel
theorem d_PV_say_29 : decode b_PV_say 29 = .ok (.getfield 132, 3) := by decide +kernel
theorem d_PV_say_32 : decode b_PV_say 32 = .ok (.bipush 20, 2) := by decide +kernel
theorem d_PV_say_34 : decode b_PV_say 34 = .ok (.if_icmp .lt 5, 3) := by decide +kernel
theorem d_PV_say_37 : decode b_PV_say 37 = .ok (.iconst (-1), 1) := by decide +kernel
theorem d_PV_say_38 : decode b_PV_say 38 = .ok (.ireturn, 1) := by decide +kernel
theorem d_PV_say_39 : decode b_PV_say 39 = .ok (.aload_n 0, 1) := by decide +kernel
theorem d_PV_say_40 : decode b_PV_say 40 = .ok (.getfield 50, 3) := by decide +kernel
theorem d_PV_say_43 : decode b_PV_say 43 = .ok (.getfield 167, 3) := by decide +kernel
theorem d_PV_say_46 : decode b_PV_say 46 = .ok (.aload_n 0, 1) := by decide +kernel
theorem d_PV_say_47 : decode b_PV_say 47 = .ok (.getfield 50, 3) := by decide +kernel
theorem d_PV_say_50 : decode b_PV_say 50 = .ok (.getfield 132, 3) := by decide +kernel
theorem d_PV_say_53 : decode b_PV_say 53 = .ok (.iload_n 1, 1) := by decide +kernel
theorem d_PV_say_54 : decode b_PV_say 54 = .ok (.iastore, 1) := by decide +kernel
theorem d_PV_say_55 : decode b_PV_say 55 = .ok (.aload_n 0, 1) := by decide +kernel
theorem d_PV_say_56 : decode b_PV_say 56 = .ok (.getfield 50, 3) := by decide +kernel
theorem d_PV_say_59 : decode b_PV_say 59 = .ok (.getfield 170, 3) := by decide +kernel
theorem d_PV_say_62 : decode b_PV_say 62 = .ok (.aload_n 0, 1) := by decide +kernel
theorem d_PV_say_63 : decode b_PV_say 63 = .ok (.getfield 50, 3) := by decide +kernel
theorem d_PV_say_66 : decode b_PV_say 66 = .ok (.getfield 132, 3) := by decide +kernel
theorem d_PV_say_69 : decode b_PV_say 69 = .ok (.aload_n 0, 1) := by decide +kernel
theorem d_PV_say_70 : decode b_PV_say 70 = .ok (.getfield 50, 3) := by decide +kernel
theorem d_PV_say_73 : decode b_PV_say 73 = .ok (.getfield 173, 3) := by decide +kernel
theorem d_PV_say_76 : decode b_PV_say 76 = .ok (.iastore, 1) := by decide +kernel
theorem d_PV_say_77 : decode b_PV_say 77 = .ok (.aload_n 0, 1) := by decide +kernel
theorem d_PV_say_78 : decode b_PV_say 78 = .ok (.getfield 50, 3) := by decide +kernel
theorem d_PV_say_81 : decode b_PV_say 81 = .ok (.dup, 1) := by decide +kernel
theorem d_PV_say_82 : decode b_PV_say 82 = .ok (.getfield 132, 3) := by decide +kernel
theorem d_PV_say_85 : decode b_PV_say 85 = .ok (.iconst 1, 1) := by decide +kernel
theorem d_PV_say_86 : decode b_PV_say 86 = .ok (.iadd, 1) := by decide +kernel
theorem d_PV_say_87 : decode b_PV_say 87 = .ok (.putfield 132, 3) := by decide +kernel
theorem d_PV_say_90 : decode b_PV_say 90 = .ok (.aload_n 0, 1) := by decide +kernel
theorem d_PV_say_91 : decode b_PV_say 91 = .ok (.getfield 50, 3) := by decide +kernel
theorem d_PV_say_94 : decode b_PV_say 94 = .ok (.getfield 132, 3) := by decide +kernel
theorem d_PV_say_97 : decode b_PV_say 97 = .ok (.ireturn, 1) := by decide +kernel
theorem wf_PV_164 : Cond.fieldLink R_PV 164 R_La "itemsOf" "[I" ∈ gw_tbl := gw_tb (List.mem_of_getElem? (i := 106) (by decide +kernel)) rfl
theorem wf_PV_132 : Cond.fieldLink R_PV 132 R_Mo "said" "I" ∈ gw_tbl := gw_tb (List.mem_of_getElem? (i := 242) (by decide +kernel)) rfl
theorem wf_PV_167 : Cond.fieldLink R_PV 167 R_Mo "saidWord" "[I" ∈ gw_tbl := gw_tb (List.mem_of_getElem? (i := 245) (by decide +kernel)) rfl
theorem wf_PV_170 : Cond.fieldLink R_PV 170 R_Mo "saidTick" "[I" ∈ gw_tbl := gw_tb (List.mem_of_getElem? (i := 248) (by decide +kernel)) rfl
def f_PV_say (a0 : Int32) (o0 : Ob) (r1 : (Nat → Nat)) (o1 : Ob) (o2 : Ob) (Q : Int32 → Ob → Prop) : Prop := (a0 < 0 → (Q (-1 : Int32) o1)) ∧ (¬ a0 < 0 → (((8 : Int32) ≤ a0 → (Q (-1 : Int32) o1)) ∧ (¬ (8 : Int32) ≤ a0 → ((vp_in a0 8) ∧ ((((gA o2 12) a0.toNatClampNeg) = 0 → (Q (-1 : Int32) o1)) ∧ (¬ ((gA o2 12) a0.toNatClampNeg) = 0 → (((gI o1 2) < (20 : Int32) → ((vp_in (gI o1 2) 20) ∧ ((vp_in (gI o1 2) 20) ∧ (Q ((gI o1 2) + (1 : Int32)) (sA (sA (sI o1 2 ((gI o1 2) + (1 : Int32))) 3 (upd (gA o1 3) ((gI o1 2).toNatClampNeg) a0)) 4 (upd (gA o1 4) ((gI o1 2).toNatClampNeg) (gI o1 1))))))) ∧ (¬ (gI o1 2) < (20 : Int32) → (Q (-1 : Int32) o1)))))))))
abbrev rm_PV_say : Room := { frames := 0, cells := 0, slots := 0, locals := 0 }
set_option maxHeartbeats 4000000 in
set_option maxRecDepth 100000 in
theorem c_PV_say {l : Launch} {G : Gl} {h0 : Nat} {q0 : Nat → Nat} {q1 : Nat → Nat} {q2 : Nat → Nat} {a0 : Int32} {o0 : Ob} {r1 : (Nat → Nat)} {o1 : Ob} {o2 : Ob} {Q : Int32 → Ob → Prop} (sz : Nat) (h : f_PV_say a0 o0 r1 o1 o2 Q) : Met l y_PV_say w_PV_say rm_PV_say (PcW G [.ref h0, .int a0] sz (cw_PV G h0 q0 o0 ++ (cw_Mo G (q0 4) q1 r1 o1 ++ (cw_La G (r1 0) q2 o2)))) (va_Qi (fun (r : Int32) (u : Ob) => Q r u) (fun (u : Ob) t => BW G (va_A (cw_PV G h0 q0 o0 ++ (cw_Mo G (q0 4) q1 r1 o1 ++ (cw_La G (r1 0) q2 o2))) sz) (cw_PV G h0 q0 o0 ++ (cw_Mo G (q0 4) q1 r1 u ++ (cw_La G (r1 0) q2 o2))) t) (va_A (cw_PV G h0 q0 o0 ++ (cw_Mo G (q0 4) q1 r1 o1 ++ (cw_La G (r1 0) q2 o2))) sz)) 0 0 (va_A (cw_PV G h0 q0 o0 ++ (cw_Mo G (q0 4) q1 r1 o1 ++ (cw_La G (r1 0) q2 o2))) sz) := by
  refine Met.ofW (cc := b_PV_say) (maxL := 2) (ret := (some .int)) (by decide +kernel) rfl ?_
  intro p e s m args below meth c s₁ B hml hv
  obtain ⟨rfl, hsz, hP, hK, hD0, hE⟩ := hv
  have hx := B.exec
  have hb := B.bytes
  have hr := B.returns
  have hts0 := atoms_spec (ws := w_PV_say) B.pre
  have hts : ∀ w ∈ gw_tbl, w.before ([.ref h0, .int a0]).toArray s = true := fun w hw => hts0 w (List.mem_cons_of_mem _ hw)
  have hown : s.vm.findClass R_PV = some m.cls := findClass_of_methodNamed B.named
  have hlocks := B.notSynchronized
  subst hsz
  have hD := hD0.self (sz := s.heap.size)
  generalize hAe : va_A (cw_PV G h0 q0 o0 ++ (cw_Mo G (q0 4) q1 r1 o1 ++ (cw_La G (r1 0) q2 o2))) s.heap.size = A at hD hE ⊢
  have hA : ∀ q : Nat, s.heap.size ≤ q → A q := fun q h => by rw [← hAe]; exact Or.inr h
  have hS : va_S A s.heap s.heap [] := va_S.rf
  have C : Cx p s m ([.ref h0, .int a0]).toArray meth c R_PV b_PV_say 2 (some .int) G A := ⟨hx, hb, hml, hown, hr, hts, hK, hA, hlocks, hE⟩
  have hl := lv_entry ([.ref h0, .int a0]) (n := 2) (Nat.le_of_ble_eq_true rfl)
  rw [lg_entry_eq]
  generalize (lg_sl ([.ref h0, .int a0]) ++ List.replicate (2 - (lg_sl ([.ref h0, .int a0])).length) Slot.unset).toArray = ls at hl ⊢
  have hl : lv_has ls 2 [(0, .ref h0), (1, .int a0)] := hl
  have hD : va_D A [(h0, .inr (0, [.int (gI o0 0), .ref (q0 1), .ref (q0 2), .ref (q0 3), .ref (q0 4), .ref (q0 5), .ref (q0 6), .ref (q0 7), .ref (q0 8), .ref (q0 9), .ref (q0 10), .ref (q0 11), .ref (q0 12), .ref (q0 13)])), kQ G (q0 3) 3 (fun i => some (q0 (50 + i))), kI G (q0 6) 1000 (gA o0 6), kJ G (q0 7) 2000 (gB o0 7), kI G (q0 13) 5 (gA o0 13), ((q0 4), .inr (5, [.ref (r1 0), .int (gI o1 1), .int (gI o1 2), .ref (q1 3), .ref (q1 4), .ref (q1 5), .ref (q1 6), .ref (q1 7), .ref (q1 8), .ref (q1 9), .ref (q1 10), .int (gI o1 11), .int (gI o1 12)])), kI G (q1 3) 20 (gA o1 3), kI G (q1 4) 20 (gA o1 4), kI G (q1 5) 5 (gA o1 5), kJ G (q1 6) 5 (gB o1 6), kJ G (q1 7) 5 (gB o1 7), kJ G (q1 8) 6 (gB o1 8), kI G (q1 10) 5 (gA o1 10), ((r1 0), .inr (3, [.ref (q2 0), .int (gI o2 1), .int (gI o2 2), .int (gI o2 3), .int (gI o2 4), .int (gI o2 5), .ref (q2 6), .ref (q2 7), .ref (q2 8), .ref (q2 9), .ref (q2 10), .ref (q2 11), .ref (q2 12), .ref (q2 13), .ref (q2 14)])), kI G (q2 0) 5 (gA o2 0), kI G (q2 6) 20 (gA o2 6), kI G (q2 7) 20 (gA o2 7), kI G (q2 8) 20 (gA o2 8), kI G (q2 9) 20 (gA o2 9), kI G (q2 10) 20 (gA o2 10), kI G (q2 11) 20 (gA o2 11), kI G (q2 12) 8 (gA o2 12), kI G (q2 13) 64 (gA o2 13), kI G (q2 14) 64 (gA o2 14)] := hD
  unfold f_PV_say at h
  suffices key : ∀ (H : Heap) (locs : List Loc), va_P G.1 CL [(h0, .inr (0, [.int (gI o0 0), .ref (q0 1), .ref (q0 2), .ref (q0 3), .ref (q0 4), .ref (q0 5), .ref (q0 6), .ref (q0 7), .ref (q0 8), .ref (q0 9), .ref (q0 10), .ref (q0 11), .ref (q0 12), .ref (q0 13)])), kQ G (q0 3) 3 (fun i => some (q0 (50 + i))), kI G (q0 6) 1000 (gA o0 6), kJ G (q0 7) 2000 (gB o0 7), kI G (q0 13) 5 (gA o0 13), ((q0 4), .inr (5, [.ref (r1 0), .int (gI o1 1), .int (gI o1 2), .ref (q1 3), .ref (q1 4), .ref (q1 5), .ref (q1 6), .ref (q1 7), .ref (q1 8), .ref (q1 9), .ref (q1 10), .int (gI o1 11), .int (gI o1 12)])), kI G (q1 3) 20 (gA o1 3), kI G (q1 4) 20 (gA o1 4), kI G (q1 5) 5 (gA o1 5), kJ G (q1 6) 5 (gB o1 6), kJ G (q1 7) 5 (gB o1 7), kJ G (q1 8) 6 (gB o1 8), kI G (q1 10) 5 (gA o1 10), ((r1 0), .inr (3, [.ref (q2 0), .int (gI o2 1), .int (gI o2 2), .int (gI o2 3), .int (gI o2 4), .int (gI o2 5), .ref (q2 6), .ref (q2 7), .ref (q2 8), .ref (q2 9), .ref (q2 10), .ref (q2 11), .ref (q2 12), .ref (q2 13), .ref (q2 14)])), kI G (q2 0) 5 (gA o2 0), kI G (q2 6) 20 (gA o2 6), kI G (q2 7) 20 (gA o2 7), kI G (q2 8) 20 (gA o2 8), kI G (q2 9) 20 (gA o2 9), kI G (q2 10) 20 (gA o2 10), kI G (q2 11) 20 (gA o2 11), kI G (q2 12) 8 (gA o2 12), kI G (q2 13) 64 (gA o2 13), kI G (q2 14) 64 (gA o2 14)] H → va_S A s.heap H locs → W p l e rm_PV_say s m ([.ref h0, .int a0]).toArray below meth c H locs 0 0 (MQ below (va_Qi (fun (r : Int32) (u : Ob) => Q r u) (fun (u : Ob) t => BW G A (cw_PV G h0 q0 o0 ++ (cw_Mo G (q0 4) q1 r1 u ++ (cw_La G (r1 0) q2 o2))) t) A) ([.ref h0, .int a0]).toArray s 0 0 A) (F0 m 0 ls []) from key s.heap [] hP hS
  intro H locs hP hS
  refine lv_iload_n hx hb d_PV_say_0 rfl (lv_at hl 1 rfl) ?_
  refine lv_if_lt (tgt := 37) hx hb d_PV_say_1 (by decide) (fun c1 => ?_) (fun c1 => ?_)
  · have h := h.1 c1
    refine lv_iconst (v := (-1 : Int32)) hx hb d_PV_say_37 (by decide) ?_
    have hP : va_P G.1 CL (cw_PV G h0 q0 o0 ++ (cw_Mo G (q0 4) q1 r1 o1 ++ (cw_La G (r1 0) q2 o2))) H := hP
    have hD : va_D A (cw_PV G h0 q0 o0 ++ (cw_Mo G (q0 4) q1 r1 o1 ++ (cw_La G (r1 0) q2 o2))) := hD
    exact W.iret (v := (-1 : Int32)) hx hb hr (fun t ht hW => ⟨⟨(-1 : Int32), o1, rfl, h, by rw [ht]; exact hP, va_K.moved hW.alike hK, hD⟩, hS.F ht⟩) hS.2.2 d_PV_say_38
  · have h := h.2 c1
    refine lv_iload_n hx hb d_PV_say_4 rfl (lv_at hl 1 rfl) ?_
    refine lv_bipush (v := (8 : Int32)) hx hb d_PV_say_5 (by decide) ?_
    refine lv_icmp_ge (tgt := 37) hx hb d_PV_say_7 (by decide) (fun c2 => ?_) (fun c2 => ?_)
    · have h := h.1 c2
      refine lv_iconst (v := (-1 : Int32)) hx hb d_PV_say_37 (by decide) ?_
      have hP : va_P G.1 CL (cw_PV G h0 q0 o0 ++ (cw_Mo G (q0 4) q1 r1 o1 ++ (cw_La G (r1 0) q2 o2))) H := hP
      have hD : va_D A (cw_PV G h0 q0 o0 ++ (cw_Mo G (q0 4) q1 r1 o1 ++ (cw_La G (r1 0) q2 o2))) := hD
      exact W.iret (v := (-1 : Int32)) hx hb hr (fun t ht hW => ⟨⟨(-1 : Int32), o1, rfl, h, by rw [ht]; exact hP, va_K.moved hW.alike hK, hD⟩, hS.F ht⟩) hS.2.2 d_PV_say_38
    · have h := h.2 c2
      refine lv_aload_n hx hb d_PV_say_10 rfl (lv_at hl 0 rfl) ?_
      refine va_get (D := G.1) (ci := 0) (v := .ref (q0 4)) (C := R_PV) (T := T_PV) (N := 14) hx hb hts i_PV hown hK hP 0 rfl rfl 4 (by decide) (hts _ wf_PV_50) (fun _ h9 => h9) rfl d_PV_say_11 ?_
      refine va_get (D := G.1) (ci := 5) (v := .ref (r1 0)) (C := R_Mo) (T := T_Mo) (N := 13) hx hb hts i_Mo hown hK hP 5 rfl rfl 0 (by decide) (hts _ wf_PV_128) (fun _ h9 => h9) rfl d_PV_say_14 ?_
      refine va_get (D := G.1) (ci := 3) (v := .ref (q2 12)) (C := R_La) (T := T_La) (N := 15) hx hb hts i_La hown hK hP 13 rfl rfl 12 (by decide) (hts _ wf_PV_164) (fun _ h9 => h9) rfl d_PV_say_17 ?_
      refine lv_iload_n hx hb d_PV_say_20 rfl (lv_at hl 1 rfl) ?_
      have g3 := h.1
      have h := h.2
      refine xa_iald hx hb hK hP 21 0 rfl rfl g3 (k := a0.toNatClampNeg) rfl d_PV_say_21 ?_
      refine lv_if_eq (tgt := 37) hx hb d_PV_say_22 (by decide) (fun c4 => ?_) (fun c4 => ?_)
      · have h := h.1 c4
        refine lv_iconst (v := (-1 : Int32)) hx hb d_PV_say_37 (by decide) ?_
        have hP : va_P G.1 CL (cw_PV G h0 q0 o0 ++ (cw_Mo G (q0 4) q1 r1 o1 ++ (cw_La G (r1 0) q2 o2))) H := hP
        have hD : va_D A (cw_PV G h0 q0 o0 ++ (cw_Mo G (q0 4) q1 r1 o1 ++ (cw_La G (r1 0) q2 o2))) := hD
        exact W.iret (v := (-1 : Int32)) hx hb hr (fun t ht hW => ⟨⟨(-1 : Int32), o1, rfl, h, by rw [ht]; exact hP, va_K.moved hW.alike hK, hD⟩, hS.F ht⟩) hS.2.2 d_PV_say_38
      · have h := h.2 c4
        refine lv_aload_n hx hb d_PV_say_25 rfl (lv_at hl 0 rfl) ?_
        refine va_get (D := G.1) (ci := 0) (v := .ref (q0 4)) (C := R_PV) (T := T_PV) (N := 14) hx hb hts i_PV hown hK hP 0 rfl rfl 4 (by decide) (hts _ wf_PV_50) (fun _ h9 => h9) rfl d_PV_say_26 ?_
        refine va_get (D := G.1) (ci := 5) (v := .int (gI o1 2)) (C := R_Mo) (T := T_Mo) (N := 13) hx hb hts i_Mo hown hK hP 5 rfl rfl 2 (by decide) (hts _ wf_PV_132) (fun _ h9 => h9) rfl d_PV_say_29 ?_
        refine lv_bipush (v := (20 : Int32)) hx hb d_PV_say_32 (by decide) ?_
        refine lv_icmp_lt (tgt := 39) hx hb d_PV_say_34 (by decide) (fun c5 => ?_) (fun c5 => ?_)
        · have h := h.1 c5
          refine lv_aload_n hx hb d_PV_say_39 rfl (lv_at hl 0 rfl) ?_
          refine va_get (D := G.1) (ci := 0) (v := .ref (q0 4)) (C := R_PV) (T := T_PV) (N := 14) hx hb hts i_PV hown hK hP 0 rfl rfl 4 (by decide) (hts _ wf_PV_50) (fun _ h9 => h9) rfl d_PV_say_40 ?_
          refine va_get (D := G.1) (ci := 5) (v := .ref (q1 3)) (C := R_Mo) (T := T_Mo) (N := 13) hx hb hts i_Mo hown hK hP 5 rfl rfl 3 (by decide) (hts _ wf_PV_167) (fun _ h9 => h9) rfl d_PV_say_43 ?_
          refine lv_aload_n hx hb d_PV_say_46 rfl (lv_at hl 0 rfl) ?_
          refine va_get (D := G.1) (ci := 0) (v := .ref (q0 4)) (C := R_PV) (T := T_PV) (N := 14) hx hb hts i_PV hown hK hP 0 rfl rfl 4 (by decide) (hts _ wf_PV_50) (fun _ h9 => h9) rfl d_PV_say_47 ?_
          refine va_get (D := G.1) (ci := 5) (v := .int (gI o1 2)) (C := R_Mo) (T := T_Mo) (N := 13) hx hb hts i_Mo hown hK hP 5 rfl rfl 2 (by decide) (hts _ wf_PV_132) (fun _ h9 => h9) rfl d_PV_say_50 ?_
          refine lv_iload_n hx hb d_PV_say_53 rfl (lv_at hl 1 rfl) ?_
          have g6 := h.1
          have h := h.2
          refine xa_iast hx hb hK hP hD hS 6 0 rfl rfl g6 (k := (gI o1 2).toNatClampNeg) rfl d_PV_say_54 (fun H locs hP hD hS => ?_)
          have hP : va_P G.1 CL [(h0, .inr (0, [.int (gI o0 0), .ref (q0 1), .ref (q0 2), .ref (q0 3), .ref (q0 4), .ref (q0 5), .ref (q0 6), .ref (q0 7), .ref (q0 8), .ref (q0 9), .ref (q0 10), .ref (q0 11), .ref (q0 12), .ref (q0 13)])), kQ G (q0 3) 3 (fun i => some (q0 (50 + i))), kI G (q0 6) 1000 (gA o0 6), kJ G (q0 7) 2000 (gB o0 7), kI G (q0 13) 5 (gA o0 13), ((q0 4), .inr (5, [.ref (r1 0), .int (gI o1 1), .int (gI o1 2), .ref (q1 3), .ref (q1 4), .ref (q1 5), .ref (q1 6), .ref (q1 7), .ref (q1 8), .ref (q1 9), .ref (q1 10), .int (gI o1 11), .int (gI o1 12)])), kI G (q1 3) 20 (upd (gA o1 3) ((gI o1 2).toNatClampNeg) a0), kI G (q1 4) 20 (gA o1 4), kI G (q1 5) 5 (gA o1 5), kJ G (q1 6) 5 (gB o1 6), kJ G (q1 7) 5 (gB o1 7), kJ G (q1 8) 6 (gB o1 8), kI G (q1 10) 5 (gA o1 10), ((r1 0), .inr (3, [.ref (q2 0), .int (gI o2 1), .int (gI o2 2), .int (gI o2 3), .int (gI o2 4), .int (gI o2 5), .ref (q2 6), .ref (q2 7), .ref (q2 8), .ref (q2 9), .ref (q2 10), .ref (q2 11), .ref (q2 12), .ref (q2 13), .ref (q2 14)])), kI G (q2 0) 5 (gA o2 0), kI G (q2 6) 20 (gA o2 6), kI G (q2 7) 20 (gA o2 7), kI G (q2 8) 20 (gA o2 8), kI G (q2 9) 20 (gA o2 9), kI G (q2 10) 20 (gA o2 10), kI G (q2 11) 20 (gA o2 11), kI G (q2 12) 8 (gA o2 12), kI G (q2 13) 64 (gA o2 13), kI G (q2 14) 64 (gA o2 14)] H := hP
          have hD : va_D A [(h0, .inr (0, [.int (gI o0 0), .ref (q0 1), .ref (q0 2), .ref (q0 3), .ref (q0 4), .ref (q0 5), .ref (q0 6), .ref (q0 7), .ref (q0 8), .ref (q0 9), .ref (q0 10), .ref (q0 11), .ref (q0 12), .ref (q0 13)])), kQ G (q0 3) 3 (fun i => some (q0 (50 + i))), kI G (q0 6) 1000 (gA o0 6), kJ G (q0 7) 2000 (gB o0 7), kI G (q0 13) 5 (gA o0 13), ((q0 4), .inr (5, [.ref (r1 0), .int (gI o1 1), .int (gI o1 2), .ref (q1 3), .ref (q1 4), .ref (q1 5), .ref (q1 6), .ref (q1 7), .ref (q1 8), .ref (q1 9), .ref (q1 10), .int (gI o1 11), .int (gI o1 12)])), kI G (q1 3) 20 (upd (gA o1 3) ((gI o1 2).toNatClampNeg) a0), kI G (q1 4) 20 (gA o1 4), kI G (q1 5) 5 (gA o1 5), kJ G (q1 6) 5 (gB o1 6), kJ G (q1 7) 5 (gB o1 7), kJ G (q1 8) 6 (gB o1 8), kI G (q1 10) 5 (gA o1 10), ((r1 0), .inr (3, [.ref (q2 0), .int (gI o2 1), .int (gI o2 2), .int (gI o2 3), .int (gI o2 4), .int (gI o2 5), .ref (q2 6), .ref (q2 7), .ref (q2 8), .ref (q2 9), .ref (q2 10), .ref (q2 11), .ref (q2 12), .ref (q2 13), .ref (q2 14)])), kI G (q2 0) 5 (gA o2 0), kI G (q2 6) 20 (gA o2 6), kI G (q2 7) 20 (gA o2 7), kI G (q2 8) 20 (gA o2 8), kI G (q2 9) 20 (gA o2 9), kI G (q2 10) 20 (gA o2 10), kI G (q2 11) 20 (gA o2 11), kI G (q2 12) 8 (gA o2 12), kI G (q2 13) 64 (gA o2 13), kI G (q2 14) 64 (gA o2 14)] := hD
          refine lv_aload_n hx hb d_PV_say_55 rfl (lv_at hl 0 rfl) ?_
          refine va_get (D := G.1) (ci := 0) (v := .ref (q0 4)) (C := R_PV) (T := T_PV) (N := 14) hx hb hts i_PV hown hK hP 0 rfl rfl 4 (by decide) (hts _ wf_PV_50) (fun _ h9 => h9) rfl d_PV_say_56 ?_
          refine va_get (D := G.1) (ci := 5) (v := .ref (q1 4)) (C := R_Mo) (T := T_Mo) (N := 13) hx hb hts i_Mo hown hK hP 5 rfl rfl 4 (by decide) (hts _ wf_PV_170) (fun _ h9 => h9) rfl d_PV_say_59 ?_
          refine lv_aload_n hx hb d_PV_say_62 rfl (lv_at hl 0 rfl) ?_
          refine va_get (D := G.1) (ci := 0) (v := .ref (q0 4)) (C := R_PV) (T := T_PV) (N := 14) hx hb hts i_PV hown hK hP 0 rfl rfl 4 (by decide) (hts _ wf_PV_50) (fun _ h9 => h9) rfl d_PV_say_63 ?_
          refine va_get (D := G.1) (ci := 5) (v := .int (gI o1 2)) (C := R_Mo) (T := T_Mo) (N := 13) hx hb hts i_Mo hown hK hP 5 rfl rfl 2 (by decide) (hts _ wf_PV_132) (fun _ h9 => h9) rfl d_PV_say_66 ?_
          refine lv_aload_n hx hb d_PV_say_69 rfl (lv_at hl 0 rfl) ?_
          refine va_get (D := G.1) (ci := 0) (v := .ref (q0 4)) (C := R_PV) (T := T_PV) (N := 14) hx hb hts i_PV hown hK hP 0 rfl rfl 4 (by decide) (hts _ wf_PV_50) (fun _ h9 => h9) rfl d_PV_say_70 ?_
          refine va_get (D := G.1) (ci := 5) (v := .int (gI o1 1)) (C := R_Mo) (T := T_Mo) (N := 13) hx hb hts i_Mo hown hK hP 5 rfl rfl 1 (by decide) (hts _ wf_PV_173) (fun _ h9 => h9) rfl d_PV_say_73 ?_
          have g7 := h.1
          have h := h.2
          refine xa_iast hx hb hK hP hD hS 7 0 rfl rfl g7 (k := (gI o1 2).toNatClampNeg) rfl d_PV_say_76 (fun H locs hP hD hS => ?_)
          have hP : va_P G.1 CL [(h0, .inr (0, [.int (gI o0 0), .ref (q0 1), .ref (q0 2), .ref (q0 3), .ref (q0 4), .ref (q0 5), .ref (q0 6), .ref (q0 7), .ref (q0 8), .ref (q0 9), .ref (q0 10), .ref (q0 11), .ref (q0 12), .ref (q0 13)])), kQ G (q0 3) 3 (fun i => some (q0 (50 + i))), kI G (q0 6) 1000 (gA o0 6), kJ G (q0 7) 2000 (gB o0 7), kI G (q0 13) 5 (gA o0 13), ((q0 4), .inr (5, [.ref (r1 0), .int (gI o1 1), .int (gI o1 2), .ref (q1 3), .ref (q1 4), .ref (q1 5), .ref (q1 6), .ref (q1 7), .ref (q1 8), .ref (q1 9), .ref (q1 10), .int (gI o1 11), .int (gI o1 12)])), kI G (q1 3) 20 (upd (gA o1 3) ((gI o1 2).toNatClampNeg) a0), kI G (q1 4) 20 (upd (gA o1 4) ((gI o1 2).toNatClampNeg) (gI o1 1)), kI G (q1 5) 5 (gA o1 5), kJ G (q1 6) 5 (gB o1 6), kJ G (q1 7) 5 (gB o1 7), kJ G (q1 8) 6 (gB o1 8), kI G (q1 10) 5 (gA o1 10), ((r1 0), .inr (3, [.ref (q2 0), .int (gI o2 1), .int (gI o2 2), .int (gI o2 3), .int (gI o2 4), .int (gI o2 5), .ref (q2 6), .ref (q2 7), .ref (q2 8), .ref (q2 9), .ref (q2 10), .ref (q2 11), .ref (q2 12), .ref (q2 13), .ref (q2 14)])), kI G (q2 0) 5 (gA o2 0), kI G (q2 6) 20 (gA o2 6), kI G (q2 7) 20 (gA o2 7), kI G (q2 8) 20 (gA o2 8), kI G (q2 9) 20 (gA o2 9), kI G (q2 10) 20 (gA o2 10), kI G (q2 11) 20 (gA o2 11), kI G (q2 12) 8 (gA o2 12), kI G (q2 13) 64 (gA o2 13), kI G (q2 14) 64 (gA o2 14)] H := hP
          have hD : va_D A [(h0, .inr (0, [.int (gI o0 0), .ref (q0 1), .ref (q0 2), .ref (q0 3), .ref (q0 4), .ref (q0 5), .ref (q0 6), .ref (q0 7), .ref (q0 8), .ref (q0 9), .ref (q0 10), .ref (q0 11), .ref (q0 12), .ref (q0 13)])), kQ G (q0 3) 3 (fun i => some (q0 (50 + i))), kI G (q0 6) 1000 (gA o0 6), kJ G (q0 7) 2000 (gB o0 7), kI G (q0 13) 5 (gA o0 13), ((q0 4), .inr (5, [.ref (r1 0), .int (gI o1 1), .int (gI o1 2), .ref (q1 3), .ref (q1 4), .ref (q1 5), .ref (q1 6), .ref (q1 7), .ref (q1 8), .ref (q1 9), .ref (q1 10), .int (gI o1 11), .int (gI o1 12)])), kI G (q1 3) 20 (upd (gA o1 3) ((gI o1 2).toNatClampNeg) a0), kI G (q1 4) 20 (upd (gA o1 4) ((gI o1 2).toNatClampNeg) (gI o1 1)), kI G (q1 5) 5 (gA o1 5), kJ G (q1 6) 5 (gB o1 6), kJ G (q1 7) 5 (gB o1 7), kJ G (q1 8) 6 (gB o1 8), kI G (q1 10) 5 (gA o1 10), ((r1 0), .inr (3, [.ref (q2 0), .int (gI o2 1), .int (gI o2 2), .int (gI o2 3), .int (gI o2 4), .int (gI o2 5), .ref (q2 6), .ref (q2 7), .ref (q2 8), .ref (q2 9), .ref (q2 10), .ref (q2 11), .ref (q2 12), .ref (q2 13), .ref (q2 14)])), kI G (q2 0) 5 (gA o2 0), kI G (q2 6) 20 (gA o2 6), kI G (q2 7) 20 (gA o2 7), kI G (q2 8) 20 (gA o2 8), kI G (q2 9) 20 (gA o2 9), kI G (q2 10) 20 (gA o2 10), kI G (q2 11) 20 (gA o2 11), kI G (q2 12) 8 (gA o2 12), kI G (q2 13) 64 (gA o2 13), kI G (q2 14) 64 (gA o2 14)] := hD
          refine lv_aload_n hx hb d_PV_say_77 rfl (lv_at hl 0 rfl) ?_
          refine va_get (D := G.1) (ci := 0) (v := .ref (q0 4)) (C := R_PV) (T := T_PV) (N := 14) hx hb hts i_PV hown hK hP 0 rfl rfl 4 (by decide) (hts _ wf_PV_50) (fun _ h9 => h9) rfl d_PV_say_78 ?_
          refine lv_dup hx hb d_PV_say_81 rfl ?_
          refine va_get (D := G.1) (ci := 5) (v := .int (gI o1 2)) (C := R_Mo) (T := T_Mo) (N := 13) hx hb hts i_Mo hown hK hP 5 rfl rfl 2 (by decide) (hts _ wf_PV_132) (fun _ h9 => h9) rfl d_PV_say_82 ?_
          refine lv_iconst (v := (1 : Int32)) hx hb d_PV_say_85 (by decide) ?_
          refine lv_iadd hx hb d_PV_say_86 ?_
          refine va_put (D := G.1) (ci := 5) (v := .int ((gI o1 2) + (1 : Int32))) (ty := .int) (C := R_Mo) (T := T_Mo) (N := 13) hx hb hts i_Mo ty_Mo ty_Mo_ok nm_Mo hown hK hP hD hS 5 rfl rfl 2 (by decide) (hts _ wf_PV_132) (fun _ h9 => h9) rfl (ty_Mo_ok 2 (by decide)) rfl rfl (Nat.le_of_ble_eq_true rfl) d_PV_say_87 (fun H locs hP hD hS => ?_)
          have hP : va_P G.1 CL [(h0, .inr (0, [.int (gI o0 0), .ref (q0 1), .ref (q0 2), .ref (q0 3), .ref (q0 4), .ref (q0 5), .ref (q0 6), .ref (q0 7), .ref (q0 8), .ref (q0 9), .ref (q0 10), .ref (q0 11), .ref (q0 12), .ref (q0 13)])), kQ G (q0 3) 3 (fun i => some (q0 (50 + i))), kI G (q0 6) 1000 (gA o0 6), kJ G (q0 7) 2000 (gB o0 7), kI G (q0 13) 5 (gA o0 13), ((q0 4), .inr (5, [.ref (r1 0), .int (gI o1 1), .int ((gI o1 2) + (1 : Int32)), .ref (q1 3), .ref (q1 4), .ref (q1 5), .ref (q1 6), .ref (q1 7), .ref (q1 8), .ref (q1 9), .ref (q1 10), .int (gI o1 11), .int (gI o1 12)])), kI G (q1 3) 20 (upd (gA o1 3) ((gI o1 2).toNatClampNeg) a0), kI G (q1 4) 20 (upd (gA o1 4) ((gI o1 2).toNatClampNeg) (gI o1 1)), kI G (q1 5) 5 (gA o1 5), kJ G (q1 6) 5 (gB o1 6), kJ G (q1 7) 5 (gB o1 7), kJ G (q1 8) 6 (gB o1 8), kI G (q1 10) 5 (gA o1 10), ((r1 0), .inr (3, [.ref (q2 0), .int (gI o2 1), .int (gI o2 2), .int (gI o2 3), .int (gI o2 4), .int (gI o2 5), .ref (q2 6), .ref (q2 7), .ref (q2 8), .ref (q2 9), .ref (q2 10), .ref (q2 11), .ref (q2 12), .ref (q2 13), .ref (q2 14)])), kI G (q2 0) 5 (gA o2 0), kI G (q2 6) 20 (gA o2 6), kI G (q2 7) 20 (gA o2 7), kI G (q2 8) 20 (gA o2 8), kI G (q2 9) 20 (gA o2 9), kI G (q2 10) 20 (gA o2 10), kI G (q2 11) 20 (gA o2 11), kI G (q2 12) 8 (gA o2 12), kI G (q2 13) 64 (gA o2 13), kI G (q2 14) 64 (gA o2 14)] H := hP
          have hD : va_D A [(h0, .inr (0, [.int (gI o0 0), .ref (q0 1), .ref (q0 2), .ref (q0 3), .ref (q0 4), .ref (q0 5), .ref (q0 6), .ref (q0 7), .ref (q0 8), .ref (q0 9), .ref (q0 10), .ref (q0 11), .ref (q0 12), .ref (q0 13)])), kQ G (q0 3) 3 (fun i => some (q0 (50 + i))), kI G (q0 6) 1000 (gA o0 6), kJ G (q0 7) 2000 (gB o0 7), kI G (q0 13) 5 (gA o0 13), ((q0 4), .inr (5, [.ref (r1 0), .int (gI o1 1), .int ((gI o1 2) + (1 : Int32)), .ref (q1 3), .ref (q1 4), .ref (q1 5), .ref (q1 6), .ref (q1 7), .ref (q1 8), .ref (q1 9), .ref (q1 10), .int (gI o1 11), .int (gI o1 12)])), kI G (q1 3) 20 (upd (gA o1 3) ((gI o1 2).toNatClampNeg) a0), kI G (q1 4) 20 (upd (gA o1 4) ((gI o1 2).toNatClampNeg) (gI o1 1)), kI G (q1 5) 5 (gA o1 5), kJ G (q1 6) 5 (gB o1 6), kJ G (q1 7) 5 (gB o1 7), kJ G (q1 8) 6 (gB o1 8), kI G (q1 10) 5 (gA o1 10), ((r1 0), .inr (3, [.ref (q2 0), .int (gI o2 1), .int (gI o2 2), .int (gI o2 3), .int (gI o2 4), .int (gI o2 5), .ref (q2 6), .ref (q2 7), .ref (q2 8), .ref (q2 9), .ref (q2 10), .ref (q2 11), .ref (q2 12), .ref (q2 13), .ref (q2 14)])), kI G (q2 0) 5 (gA o2 0), kI G (q2 6) 20 (gA o2 6), kI G (q2 7) 20 (gA o2 7), kI G (q2 8) 20 (gA o2 8), kI G (q2 9) 20 (gA o2 9), kI G (q2 10) 20 (gA o2 10), kI G (q2 11) 20 (gA o2 11), kI G (q2 12) 8 (gA o2 12), kI G (q2 13) 64 (gA o2 13), kI G (q2 14) 64 (gA o2 14)] := hD
          refine lv_aload_n hx hb d_PV_say_90 rfl (lv_at hl 0 rfl) ?_
          refine va_get (D := G.1) (ci := 0) (v := .ref (q0 4)) (C := R_PV) (T := T_PV) (N := 14) hx hb hts i_PV hown hK hP 0 rfl rfl 4 (by decide) (hts _ wf_PV_50) (fun _ h9 => h9) rfl d_PV_say_91 ?_
          refine va_get (D := G.1) (ci := 5) (v := .int ((gI o1 2) + (1 : Int32))) (C := R_Mo) (T := T_Mo) (N := 13) hx hb hts i_Mo hown hK hP 5 rfl rfl 2 (by decide) (hts _ wf_PV_132) (fun _ h9 => h9) rfl d_PV_say_94 ?_
          have hP : va_P G.1 CL (cw_PV G h0 q0 o0 ++ (cw_Mo G (q0 4) q1 r1 (sA (sA (sI o1 2 ((gI o1 2) + (1 : Int32))) 3 (upd (gA o1 3) ((gI o1 2).toNatClampNeg) a0)) 4 (upd (gA o1 4) ((gI o1 2).toNatClampNeg) (gI o1 1))) ++ (cw_La G (r1 0) q2 o2))) H := hP
          have hD : va_D A (cw_PV G h0 q0 o0 ++ (cw_Mo G (q0 4) q1 r1 (sA (sA (sI o1 2 ((gI o1 2) + (1 : Int32))) 3 (upd (gA o1 3) ((gI o1 2).toNatClampNeg) a0)) 4 (upd (gA o1 4) ((gI o1 2).toNatClampNeg) (gI o1 1))) ++ (cw_La G (r1 0) q2 o2))) := hD
          exact W.iret (v := ((gI o1 2) + (1 : Int32))) hx hb hr (fun t ht hW => ⟨⟨((gI o1 2) + (1 : Int32)), (sA (sA (sI o1 2 ((gI o1 2) + (1 : Int32))) 3 (upd (gA o1 3) ((gI o1 2).toNatClampNeg) a0)) 4 (upd (gA o1 4) ((gI o1 2).toNatClampNeg) (gI o1 1))), rfl, h, by rw [ht]; exact hP, va_K.moved hW.alike hK, hD⟩, hS.F ht⟩) hS.2.2 d_PV_say_97
        · have h := h.2 c5
          refine lv_iconst (v := (-1 : Int32)) hx hb d_PV_say_37 (by decide) ?_
          have hP : va_P G.1 CL (cw_PV G h0 q0 o0 ++ (cw_Mo G (q0 4) q1 r1 o1 ++ (cw_La G (r1 0) q2 o2))) H := hP
          have hD : va_D A (cw_PV G h0 q0 o0 ++ (cw_Mo G (q0 4) q1 r1 o1 ++ (cw_La G (r1 0) q2 o2))) := hD
          exact W.iret (v := (-1 : Int32)) hx hb hr (fun t ht hW => ⟨⟨(-1 : Int32), o1, rfl, h, by rw [ht]; exact hP, va_K.moved hW.alike hK, hD⟩, hS.F ht⟩) hS.2.2 d_PV_say_38
abbrev b_PV_folds : ByteArray := prog_1_method_8_code
def y_PV_folds : MethodName := ⟨R_PV, "folds", "(III)Z"⟩
abbrev w_PV_folds : List Cond := Cond.code y_PV_folds b_PV_folds 4 (some .boolean) :: gw_tbl
theorem d_PV_folds_0 : decode b_PV_folds 0 = .ok (.iload_n 1, 1) := by decide +kernel
theorem d_PV_folds_1 : decode b_PV_folds 1 = .ok (.invokestatic 176, 3) := by decide +kernel
theorem d_PV_folds_4 : decode b_PV_folds 4 = .ok (.ifCond .eq 25, 3) := by decide +kernel
theorem d_PV_folds_7 : decode b_PV_folds 7 = .ok (.iload_n 2, 1) := by decide +kernel
theorem d_PV_folds_8 : decode b_PV_folds 8 = .ok (.iconst 1, 1) := by decide +kernel
theorem d_PV_folds_9 : decode b_PV_folds 9 = .ok (.if_icmp .lt 20, 3) := by decide +kernel
theorem d_PV_folds_12 : decode b_PV_folds 12 = .ok (.iload_n 2, 1) := by decide +kernel
theorem d_PV_folds_13 : decode b_PV_folds 13 = .ok (.bipush 20, 2) := by decide +kernel
theorem d_PV_folds_15 : decode b_PV_folds 15 = .ok (.if_icmp .gt 14, 3) := by decide +kernel
theorem d_PV_folds_18 : decode b_PV_folds 18 = .ok (.iload_n 3, 1) := by decide +kernel
theorem d_PV_folds_19 : decode b_PV_folds 19 = .ok (.iconst 1, 1) := by decide +kernel
theorem d_PV_folds_20 : decode b_PV_folds 20 = .ok (.if_icmp .lt 9, 3) := by decide +kernel
theorem d_PV_folds_23 : decode b_PV_folds 23 = .ok (.iload_n 3, 1) := by decide +kernel
theorem d_PV_folds_24 : decode b_PV_folds 24 = .ok (.bipush 20, 2) := by decide +kernel
theorem d_PV_folds_26 : decode b_PV_folds 26 = .ok (.if_icmp .le 5, 3) := by decide +kernel
theorem d_PV_folds_29 : decode b_PV_folds 29 = .ok (.iconst 0, 1) := by decide +kernel
theorem d_PV_folds_30 : decode b_PV_folds 30 = .ok (.ireturn, 1) := by decide +kernel
theorem d_PV_folds_31 : decode b_PV_folds 31 = .ok (.aload_n 0, 1) := by decide +kernel
theorem d_PV_folds_32 : decode b_PV_folds 32 = .ok (.getfield 50, 3) := by decide +kernel
theorem d_PV_folds_35 : decode b_PV_folds 35 = .ok (.getfield 179, 3) := by decide +kernel
theorem d_PV_folds_38 : decode b_PV_folds 38 = .ok (.iload_n 1, 1) := by decide +kernel
theorem d_PV_folds_39 : decode b_PV_folds 39 = .ok (.putfield 183, 3) := by decide +kernel
theorem d_PV_folds_42 : decode b_PV_folds 42 = .ok (.aload_n 0, 1) := by decide +kernel
theorem d_PV_folds_43 : decode b_PV_folds 43 = .ok (.getfield 50, 3) := by decide +kernel
theorem d_PV_folds_46 : decode b_PV_folds 46 = .ok (.getfield 179, 3) := by decide +kernel
theorem d_PV_folds_49 : decode b_PV_folds 49 = .ok (.iload_n 2, 1) := by decide +kernel
theorem d_PV_folds_50 : decode b_PV_folds 50 = .ok (.putfield 188, 3) := by decide +kernel
theorem d_PV_folds_53 : decode b_PV_folds 53 = .ok (.aload_n 0, 1) := by decide +kernel
theorem d_PV_folds_54 : decode b_PV_folds 54 = .ok (.getfield 50, 3) := by decide +kernel
theorem d_PV_folds_57 : decode b_PV_folds 57 = .ok (.getfield 179, 3) := by decide +kernel
theorem d_PV_folds_60 : decode b_PV_folds 60 = .ok (.iload_n 3, 1) := by decide +kernel
theorem d_PV_folds_61 : decode b_PV_folds 61 = .ok (.putfield 191, 3) := by decide +kernel
theorem d_PV_folds_64 : decode b_PV_folds 64 = .ok (.iconst 1, 1) := by decide +kernel
theorem d_PV_folds_65 : decode b_PV_folds 65 = .ok (.ireturn, 1) := by decide +kernel
theorem ws_PV_176 : wS R_PV 176 y_PV_isBreath b_PV_isBreath 1 (some .boolean) 1 := ⟨⟨gw_tb (List.mem_of_getElem? (i := 665) (by decide +kernel)) rfl, gw_tb (List.mem_of_getElem? (i := 1) (by decide +kernel)) rfl, gw_tb (List.mem_of_getElem? (i := 667) (by decide +kernel)) rfl, by decide, by decide, by decide +kernel⟩, gw_tb (List.mem_of_getElem? (i := 666) (by decide +kernel)) rfl⟩
theorem wf_PV_179 : Cond.fieldLink R_PV 179 R_Mo "folds" "LPipeVoice$Folds;" ∈ gw_tbl := gw_tb (List.mem_of_getElem? (i := 263) (by decide +kernel)) rfl
theorem wf_PV_183 : Cond.fieldLink R_PV 183 R_Fo "breath" "I" ∈ gw_tbl := gw_tb (List.mem_of_getElem? (i := 206) (by decide +kernel)) rfl
theorem wf_PV_188 : Cond.fieldLink R_PV 188 R_Fo "stiff" "I" ∈ gw_tbl := gw_tb (List.mem_of_getElem? (i := 208) (by decide +kernel)) rfl
theorem wf_PV_191 : Cond.fieldLink R_PV 191 R_Fo "weight" "I" ∈ gw_tbl := gw_tb (List.mem_of_getElem? (i := 210) (by decide +kernel)) rfl
def f_PV_folds (a0 : Int32) (a1 : Int32) (a2 : Int32) (o0 : Ob) (r1 : (Nat → Nat)) (o1 : Ob) (o2 : Ob) (Q : Int32 → Ob → Prop) : Prop := f_PV_isBreath a0 (fun z1 => (z1 = 0 → (Q (0 : Int32) o2)) ∧ (¬ z1 = 0 → ((a1 < (1 : Int32) → (Q (0 : Int32) o2)) ∧ (¬ a1 < (1 : Int32) → (((20 : Int32) < a1 → (Q (0 : Int32) o2)) ∧ (¬ (20 : Int32) < a1 → ((a2 < (1 : Int32) → (Q (0 : Int32) o2)) ∧ (¬ a2 < (1 : Int32) → ((a2 ≤ (20 : Int32) → (Q (1 : Int32) (sI (sI (sI o2 2 a0) 3 a1) 4 a2))) ∧ (¬ a2 ≤ (20 : Int32) → (Q (0 : Int32) o2)))))))))))
abbrev rm_PV_folds : Room := { frames := 1, cells := 0, slots := 0, locals := 20 }
set_option maxHeartbeats 4000000 in
set_option maxRecDepth 100000 in
theorem c_PV_folds {l : Launch} {G : Gl} {h0 : Nat} {q0 : Nat → Nat} {q1 : Nat → Nat} {q2 : Nat → Nat} {a0 : Int32} {a1 : Int32} {a2 : Int32} {o0 : Ob} {r1 : (Nat → Nat)} {o1 : Ob} {o2 : Ob} {Q : Int32 → Ob → Prop} (sz : Nat) (h : f_PV_folds a0 a1 a2 o0 r1 o1 o2 Q) : Met l y_PV_folds w_PV_folds rm_PV_folds (PcW G [.ref h0, .int a0, .int a1, .int a2] sz (cw_PV G h0 q0 o0 ++ (cw_Mo G (q0 4) q1 r1 o1 ++ (cw_Fo G (q1 9) q2 o2)))) (va_Qi (fun (r : Int32) (u : Ob) => Q r u) (fun (u : Ob) t => BW G (va_A (cw_PV G h0 q0 o0 ++ (cw_Mo G (q0 4) q1 r1 o1 ++ (cw_Fo G (q1 9) q2 o2))) sz) (cw_PV G h0 q0 o0 ++ (cw_Mo G (q0 4) q1 r1 o1 ++ (cw_Fo G (q1 9) q2 u))) t) (va_A (cw_PV G h0 q0 o0 ++ (cw_Mo G (q0 4) q1 r1 o1 ++ (cw_Fo G (q1 9) q2 o2))) sz)) 0 0 (va_A (cw_PV G h0 q0 o0 ++ (cw_Mo G (q0 4) q1 r1 o1 ++ (cw_Fo G (q1 9) q2 o2))) sz) := by
  refine Met.ofW (cc := b_PV_folds) (maxL := 4) (ret := (some .boolean)) (by decide +kernel) rfl ?_
  intro p e s m args below meth c s₁ B hml hv
  obtain ⟨rfl, hsz, hP, hK, hD0, hE⟩ := hv
  have hx := B.exec
  have hb := B.bytes
  have hr := B.returns
  have hts0 := atoms_spec (ws := w_PV_folds) B.pre
  have hts : ∀ w ∈ gw_tbl, w.before ([.ref h0, .int a0, .int a1, .int a2]).toArray s = true := fun w hw => hts0 w (List.mem_cons_of_mem _ hw)
  have hown : s.vm.findClass R_PV = some m.cls := findClass_of_methodNamed B.named
  have hlocks := B.notSynchronized
  subst hsz
  have hD := hD0.self (sz := s.heap.size)
  generalize hAe : va_A (cw_PV G h0 q0 o0 ++ (cw_Mo G (q0 4) q1 r1 o1 ++ (cw_Fo G (q1 9) q2 o2))) s.heap.size = A at hD hE ⊢
  have hA : ∀ q : Nat, s.heap.size ≤ q → A q := fun q h => by rw [← hAe]; exact Or.inr h
  have hS : va_S A s.heap s.heap [] := va_S.rf
  have C : Cx p s m ([.ref h0, .int a0, .int a1, .int a2]).toArray meth c R_PV b_PV_folds 4 (some .boolean) G A := ⟨hx, hb, hml, hown, hr, hts, hK, hA, hlocks, hE⟩
  have hl := lv_entry ([.ref h0, .int a0, .int a1, .int a2]) (n := 4) (Nat.le_of_ble_eq_true rfl)
  rw [lg_entry_eq]
  generalize (lg_sl ([.ref h0, .int a0, .int a1, .int a2]) ++ List.replicate (4 - (lg_sl ([.ref h0, .int a0, .int a1, .int a2])).length) Slot.unset).toArray = ls at hl ⊢
  have hl : lv_has ls 4 [(0, .ref h0), (1, .int a0), (2, .int a1), (3, .int a2)] := hl
  have hD : va_D A [(h0, .inr (0, [.int (gI o0 0), .ref (q0 1), .ref (q0 2), .ref (q0 3), .ref (q0 4), .ref (q0 5), .ref (q0 6), .ref (q0 7), .ref (q0 8), .ref (q0 9), .ref (q0 10), .ref (q0 11), .ref (q0 12), .ref (q0 13)])), kQ G (q0 3) 3 (fun i => some (q0 (50 + i))), kI G (q0 6) 1000 (gA o0 6), kJ G (q0 7) 2000 (gB o0 7), kI G (q0 13) 5 (gA o0 13), ((q0 4), .inr (5, [.ref (r1 0), .int (gI o1 1), .int (gI o1 2), .ref (q1 3), .ref (q1 4), .ref (q1 5), .ref (q1 6), .ref (q1 7), .ref (q1 8), .ref (q1 9), .ref (q1 10), .int (gI o1 11), .int (gI o1 12)])), kI G (q1 3) 20 (gA o1 3), kI G (q1 4) 20 (gA o1 4), kI G (q1 5) 5 (gA o1 5), kJ G (q1 6) 5 (gB o1 6), kJ G (q1 7) 5 (gB o1 7), kJ G (q1 8) 6 (gB o1 8), kI G (q1 10) 5 (gA o1 10), ((q1 9), .inr (1, [.int (gI o2 0), .int (gI o2 1), .int (gI o2 2), .int (gI o2 3), .int (gI o2 4), .int (gI o2 5), .int (gI o2 6)]))] := hD
  unfold f_PV_folds at h
  suffices key : ∀ (H : Heap) (locs : List Loc), va_P G.1 CL [(h0, .inr (0, [.int (gI o0 0), .ref (q0 1), .ref (q0 2), .ref (q0 3), .ref (q0 4), .ref (q0 5), .ref (q0 6), .ref (q0 7), .ref (q0 8), .ref (q0 9), .ref (q0 10), .ref (q0 11), .ref (q0 12), .ref (q0 13)])), kQ G (q0 3) 3 (fun i => some (q0 (50 + i))), kI G (q0 6) 1000 (gA o0 6), kJ G (q0 7) 2000 (gB o0 7), kI G (q0 13) 5 (gA o0 13), ((q0 4), .inr (5, [.ref (r1 0), .int (gI o1 1), .int (gI o1 2), .ref (q1 3), .ref (q1 4), .ref (q1 5), .ref (q1 6), .ref (q1 7), .ref (q1 8), .ref (q1 9), .ref (q1 10), .int (gI o1 11), .int (gI o1 12)])), kI G (q1 3) 20 (gA o1 3), kI G (q1 4) 20 (gA o1 4), kI G (q1 5) 5 (gA o1 5), kJ G (q1 6) 5 (gB o1 6), kJ G (q1 7) 5 (gB o1 7), kJ G (q1 8) 6 (gB o1 8), kI G (q1 10) 5 (gA o1 10), ((q1 9), .inr (1, [.int (gI o2 0), .int (gI o2 1), .int (gI o2 2), .int (gI o2 3), .int (gI o2 4), .int (gI o2 5), .int (gI o2 6)]))] H → va_S A s.heap H locs → W p l e rm_PV_folds s m ([.ref h0, .int a0, .int a1, .int a2]).toArray below meth c H locs 0 0 (MQ below (va_Qi (fun (r : Int32) (u : Ob) => Q r u) (fun (u : Ob) t => BW G A (cw_PV G h0 q0 o0 ++ (cw_Mo G (q0 4) q1 r1 o1 ++ (cw_Fo G (q1 9) q2 u))) t) A) ([.ref h0, .int a0, .int a1, .int a2]).toArray s 0 0 A) (F0 m 0 ls []) from key s.heap [] hP hS
  intro H locs hP hS
  refine lv_iload_n hx hb d_PV_folds_0 rfl (lv_at hl 1 rfl) ?_
  refine cl_Si (b := b_PV_folds) (As := [.int a0]) (rest := []) (ws := [(h0, .inr (0, [.int (gI o0 0), .ref (q0 1), .ref (q0 2), .ref (q0 3), .ref (q0 4), .ref (q0 5), .ref (q0 6), .ref (q0 7), .ref (q0 8), .ref (q0 9), .ref (q0 10), .ref (q0 11), .ref (q0 12), .ref (q0 13)])), kQ G (q0 3) 3 (fun i => some (q0 (50 + i))), kI G (q0 6) 1000 (gA o0 6), kJ G (q0 7) 2000 (gB o0 7), kI G (q0 13) 5 (gA o0 13), ((q0 4), .inr (5, [.ref (r1 0), .int (gI o1 1), .int (gI o1 2), .ref (q1 3), .ref (q1 4), .ref (q1 5), .ref (q1 6), .ref (q1 7), .ref (q1 8), .ref (q1 9), .ref (q1 10), .int (gI o1 11), .int (gI o1 12)])), kI G (q1 3) 20 (gA o1 3), kI G (q1 4) 20 (gA o1 4), kI G (q1 5) 5 (gA o1 5), kJ G (q1 6) 5 (gB o1 6), kJ G (q1 7) 5 (gB o1 7), kJ G (q1 8) 6 (gB o1 8), kI G (q1 10) 5 (gA o1 10), ((q1 9), .inr (1, [.int (gI o2 0), .int (gI o2 1), .int (gI o2 2), .int (gI o2 3), .int (gI o2 4), .int (gI o2 5), .int (gI o2 6)]))]) (wr := [(h0, .inr (0, [.int (gI o0 0), .ref (q0 1), .ref (q0 2), .ref (q0 3), .ref (q0 4), .ref (q0 5), .ref (q0 6), .ref (q0 7), .ref (q0 8), .ref (q0 9), .ref (q0 10), .ref (q0 11), .ref (q0 12), .ref (q0 13)])), kQ G (q0 3) 3 (fun i => some (q0 (50 + i))), kI G (q0 6) 1000 (gA o0 6), kJ G (q0 7) 2000 (gB o0 7), kI G (q0 13) 5 (gA o0 13), ((q0 4), .inr (5, [.ref (r1 0), .int (gI o1 1), .int (gI o1 2), .ref (q1 3), .ref (q1 4), .ref (q1 5), .ref (q1 6), .ref (q1 7), .ref (q1 8), .ref (q1 9), .ref (q1 10), .int (gI o1 11), .int (gI o1 12)])), kI G (q1 3) 20 (gA o1 3), kI G (q1 4) 20 (gA o1 4), kI G (q1 5) 5 (gA o1 5), kJ G (q1 6) 5 (gB o1 6), kJ G (q1 7) 5 (gB o1 7), kJ G (q1 8) 6 (gB o1 8), kI G (q1 10) 5 (gA o1 10), ((q1 9), .inr (1, [.int (gI o2 0), .int (gI o2 1), .int (gI o2 2), .int (gI o2 3), .int (gI o2 4), .int (gI o2 5), .int (gI o2 6)]))]) (w2 := fun (u : Unit) => [(h0, .inr (0, [.int (gI o0 0), .ref (q0 1), .ref (q0 2), .ref (q0 3), .ref (q0 4), .ref (q0 5), .ref (q0 6), .ref (q0 7), .ref (q0 8), .ref (q0 9), .ref (q0 10), .ref (q0 11), .ref (q0 12), .ref (q0 13)])), kQ G (q0 3) 3 (fun i => some (q0 (50 + i))), kI G (q0 6) 1000 (gA o0 6), kJ G (q0 7) 2000 (gB o0 7), kI G (q0 13) 5 (gA o0 13), ((q0 4), .inr (5, [.ref (r1 0), .int (gI o1 1), .int (gI o1 2), .ref (q1 3), .ref (q1 4), .ref (q1 5), .ref (q1 6), .ref (q1 7), .ref (q1 8), .ref (q1 9), .ref (q1 10), .int (gI o1 11), .int (gI o1 12)])), kI G (q1 3) 20 (gA o1 3), kI G (q1 4) 20 (gA o1 4), kI G (q1 5) 5 (gA o1 5), kJ G (q1 6) 5 (gB o1 6), kJ G (q1 7) 5 (gB o1 7), kJ G (q1 8) 6 (gB o1 8), kI G (q1 10) 5 (gA o1 10), ((q1 9), .inr (1, [.int (gI o2 0), .int (gI o2 1), .int (gI o2 2), .int (gI o2 3), .int (gI o2 4), .int (gI o2 5), .int (gI o2 6)]))]) C (c_PV_isBreath H.size h) ws_PV_176 ⟨Nat.le_of_ble_eq_true rfl, Nat.le_of_ble_eq_true rfl⟩ hP hD hS [] [0, 1, 2, 3, 4, 5, 6, 7, 8, 9, 10, 11, 12, 13] rfl rfl (by decide) (by decide) (by decide) [0, 1, 2, 3, 4, 5, 6, 7, 8, 9, 10, 11, 12, 13] (by decide) (fun u => rfl) rfl hl.1 rfl (lv_room (Nat.le_of_ble_eq_true rfl)) d_PV_folds_1 ⟨Nat.le_of_ble_eq_true rfl, Nat.le_of_ble_eq_true rfl⟩ rfl rfl (fun z1 u H locs h hP hD hS => ?_)
  have hP : va_P G.1 CL [(h0, .inr (0, [.int (gI o0 0), .ref (q0 1), .ref (q0 2), .ref (q0 3), .ref (q0 4), .ref (q0 5), .ref (q0 6), .ref (q0 7), .ref (q0 8), .ref (q0 9), .ref (q0 10), .ref (q0 11), .ref (q0 12), .ref (q0 13)])), kQ G (q0 3) 3 (fun i => some (q0 (50 + i))), kI G (q0 6) 1000 (gA o0 6), kJ G (q0 7) 2000 (gB o0 7), kI G (q0 13) 5 (gA o0 13), ((q0 4), .inr (5, [.ref (r1 0), .int (gI o1 1), .int (gI o1 2), .ref (q1 3), .ref (q1 4), .ref (q1 5), .ref (q1 6), .ref (q1 7), .ref (q1 8), .ref (q1 9), .ref (q1 10), .int (gI o1 11), .int (gI o1 12)])), kI G (q1 3) 20 (gA o1 3), kI G (q1 4) 20 (gA o1 4), kI G (q1 5) 5 (gA o1 5), kJ G (q1 6) 5 (gB o1 6), kJ G (q1 7) 5 (gB o1 7), kJ G (q1 8) 6 (gB o1 8), kI G (q1 10) 5 (gA o1 10), ((q1 9), .inr (1, [.int (gI o2 0), .int (gI o2 1), .int (gI o2 2), .int (gI o2 3), .int (gI o2 4), .int (gI o2 5), .int (gI o2 6)]))] H := hP
  have hD : va_D A [(h0, .inr (0, [.int (gI o0 0), .ref (q0 1), .ref (q0 2), .ref (q0 3), .ref (q0 4), .ref (q0 5), .ref (q0 6), .ref (q0 7), .ref (q0 8), .ref (q0 9), .ref (q0 10), .ref (q0 11), .ref (q0 12), .ref (q0 13)])), kQ G (q0 3) 3 (fun i => some (q0 (50 + i))), kI G (q0 6) 1000 (gA o0 6), kJ G (q0 7) 2000 (gB o0 7), kI G (q0 13) 5 (gA o0 13), ((q0 4), .inr (5, [.ref (r1 0), .int (gI o1 1), .int (gI o1 2), .ref (q1 3), .ref (q1 4), .ref (q1 5), .ref (q1 6), .ref (q1 7), .ref (q1 8), .ref (q1 9), .ref (q1 10), .int (gI o1 11), .int (gI o1 12)])), kI G (q1 3) 20 (gA o1 3), kI G (q1 4) 20 (gA o1 4), kI G (q1 5) 5 (gA o1 5), kJ G (q1 6) 5 (gB o1 6), kJ G (q1 7) 5 (gB o1 7), kJ G (q1 8) 6 (gB o1 8), kI G (q1 10) 5 (gA o1 10), ((q1 9), .inr (1, [.int (gI o2 0), .int (gI o2 1), .int (gI o2 2), .int (gI o2 3), .int (gI o2 4), .int (gI o2 5), .int (gI o2 6)]))] := hD
  refine lv_if_eq (tgt := 29) hx hb d_PV_folds_4 (by decide) (fun c2 => ?_) (fun c2 => ?_)
  · have h := h.1 c2
    refine lv_iconst (v := (0 : Int32)) hx hb d_PV_folds_29 (by decide) ?_
    have hP : va_P G.1 CL (cw_PV G h0 q0 o0 ++ (cw_Mo G (q0 4) q1 r1 o1 ++ (cw_Fo G (q1 9) q2 o2))) H := hP
    have hD : va_D A (cw_PV G h0 q0 o0 ++ (cw_Mo G (q0 4) q1 r1 o1 ++ (cw_Fo G (q1 9) q2 o2))) := hD
    exact W.zret (v := (0 : Int32)) hx hb hr rfl (fun t ht hW => ⟨⟨(0 : Int32), o2, rfl, h, by rw [ht]; exact hP, va_K.moved hW.alike hK, hD⟩, hS.F ht⟩) hS.2.2 d_PV_folds_30
  · have h := h.2 c2
    refine lv_iload_n hx hb d_PV_folds_7 rfl (lv_at hl 2 rfl) ?_
    refine lv_iconst (v := (1 : Int32)) hx hb d_PV_folds_8 (by decide) ?_
    refine lv_icmp_lt (tgt := 29) hx hb d_PV_folds_9 (by decide) (fun c3 => ?_) (fun c3 => ?_)
    · have h := h.1 c3
      refine lv_iconst (v := (0 : Int32)) hx hb d_PV_folds_29 (by decide) ?_
      have hP : va_P G.1 CL (cw_PV G h0 q0 o0 ++ (cw_Mo G (q0 4) q1 r1 o1 ++ (cw_Fo G (q1 9) q2 o2))) H := hP
      have hD : va_D A (cw_PV G h0 q0 o0 ++ (cw_Mo G (q0 4) q1 r1 o1 ++ (cw_Fo G (q1 9) q2 o2))) := hD
      exact W.zret (v := (0 : Int32)) hx hb hr rfl (fun t ht hW => ⟨⟨(0 : Int32), o2, rfl, h, by rw [ht]; exact hP, va_K.moved hW.alike hK, hD⟩, hS.F ht⟩) hS.2.2 d_PV_folds_30
    · have h := h.2 c3
      refine lv_iload_n hx hb d_PV_folds_12 rfl (lv_at hl 2 rfl) ?_
      refine lv_bipush (v := (20 : Int32)) hx hb d_PV_folds_13 (by decide) ?_
      refine lv_icmp_gt (tgt := 29) hx hb d_PV_folds_15 (by decide) (fun c4 => ?_) (fun c4 => ?_)
      · have h := h.1 c4
        refine lv_iconst (v := (0 : Int32)) hx hb d_PV_folds_29 (by decide) ?_
        have hP : va_P G.1 CL (cw_PV G h0 q0 o0 ++ (cw_Mo G (q0 4) q1 r1 o1 ++ (cw_Fo G (q1 9) q2 o2))) H := hP
        have hD : va_D A (cw_PV G h0 q0 o0 ++ (cw_Mo G (q0 4) q1 r1 o1 ++ (cw_Fo G (q1 9) q2 o2))) := hD
        exact W.zret (v := (0 : Int32)) hx hb hr rfl (fun t ht hW => ⟨⟨(0 : Int32), o2, rfl, h, by rw [ht]; exact hP, va_K.moved hW.alike hK, hD⟩, hS.F ht⟩) hS.2.2 d_PV_folds_30
      · have h := h.2 c4
        refine lv_iload_n hx hb d_PV_folds_18 rfl (lv_at hl 3 rfl) ?_
        refine lv_iconst (v := (1 : Int32)) hx hb d_PV_folds_19 (by decide) ?_
        refine lv_icmp_lt (tgt := 29) hx hb d_PV_folds_20 (by decide) (fun c5 => ?_) (fun c5 => ?_)
        · have h := h.1 c5
          refine lv_iconst (v := (0 : Int32)) hx hb d_PV_folds_29 (by decide) ?_
          have hP : va_P G.1 CL (cw_PV G h0 q0 o0 ++ (cw_Mo G (q0 4) q1 r1 o1 ++ (cw_Fo G (q1 9) q2 o2))) H := hP
          have hD : va_D A (cw_PV G h0 q0 o0 ++ (cw_Mo G (q0 4) q1 r1 o1 ++ (cw_Fo G (q1 9) q2 o2))) := hD
          exact W.zret (v := (0 : Int32)) hx hb hr rfl (fun t ht hW => ⟨⟨(0 : Int32), o2, rfl, h, by rw [ht]; exact hP, va_K.moved hW.alike hK, hD⟩, hS.F ht⟩) hS.2.2 d_PV_folds_30
        · have h := h.2 c5
          refine lv_iload_n hx hb d_PV_folds_23 rfl (lv_at hl 3 rfl) ?_
          refine lv_bipush (v := (20 : Int32)) hx hb d_PV_folds_24 (by decide) ?_
          refine lv_icmp_le (tgt := 31) hx hb d_PV_folds_26 (by decide) (fun c6 => ?_) (fun c6 => ?_)
          · have h := h.1 c6
            refine lv_aload_n hx hb d_PV_folds_31 rfl (lv_at hl 0 rfl) ?_
            refine va_get (D := G.1) (ci := 0) (v := .ref (q0 4)) (C := R_PV) (T := T_PV) (N := 14) hx hb hts i_PV hown hK hP 0 rfl rfl 4 (by decide) (hts _ wf_PV_50) (fun _ h9 => h9) rfl d_PV_folds_32 ?_
            refine va_get (D := G.1) (ci := 5) (v := .ref (q1 9)) (C := R_Mo) (T := T_Mo) (N := 13) hx hb hts i_Mo hown hK hP 5 rfl rfl 9 (by decide) (hts _ wf_PV_179) (fun _ h9 => h9) rfl d_PV_folds_35 ?_
            refine lv_iload_n hx hb d_PV_folds_38 rfl (lv_at hl 1 rfl) ?_
            refine va_put (D := G.1) (ci := 1) (v := .int a0) (ty := .int) (C := R_Fo) (T := T_Fo) (N := 7) hx hb hts i_Fo ty_Fo ty_Fo_ok nm_Fo hown hK hP hD hS 13 rfl rfl 2 (by decide) (hts _ wf_PV_183) (fun _ h9 => h9) rfl (ty_Fo_ok 2 (by decide)) rfl rfl (Nat.le_of_ble_eq_true rfl) d_PV_folds_39 (fun H locs hP hD hS => ?_)
            have hP : va_P G.1 CL [(h0, .inr (0, [.int (gI o0 0), .ref (q0 1), .ref (q0 2), .ref (q0 3), .ref (q0 4), .ref (q0 5), .ref (q0 6), .ref (q0 7), .ref (q0 8), .ref (q0 9), .ref (q0 10), .ref (q0 11), .ref (q0 12), .ref (q0 13)])), kQ G (q0 3) 3 (fun i => some (q0 (50 + i))), kI G (q0 6) 1000 (gA o0 6), kJ G (q0 7) 2000 (gB o0 7), kI G (q0 13) 5 (gA o0 13), ((q0 4), .inr (5, [.ref (r1 0), .int (gI o1 1), .int (gI o1 2), .ref (q1 3), .ref (q1 4), .ref (q1 5), .ref (q1 6), .ref (q1 7), .ref (q1 8), .ref (q1 9), .ref (q1 10), .int (gI o1 11), .int (gI o1 12)])), kI G (q1 3) 20 (gA o1 3), kI G (q1 4) 20 (gA o1 4), kI G (q1 5) 5 (gA o1 5), kJ G (q1 6) 5 (gB o1 6), kJ G (q1 7) 5 (gB o1 7), kJ G (q1 8) 6 (gB o1 8), kI G (q1 10) 5 (gA o1 10), ((q1 9), .inr (1, [.int (gI o2 0), .int (gI o2 1), .int a0, .int (gI o2 3), .int (gI o2 4), .int (gI o2 5), .int (gI o2 6)]))] H := hP
            have hD : va_D A [(h0, .inr (0, [.int (gI o0 0), .ref (q0 1), .ref (q0 2), .ref (q0 3), .ref (q0 4), .ref (q0 5), .ref (q0 6), .ref (q0 7), .ref (q0 8), .ref (q0 9), .ref (q0 10), .ref (q0 11), .ref (q0 12), .ref (q0 13)])), kQ G (q0 3) 3 (fun i => some (q0 (50 + i))), kI G (q0 6) 1000 (gA o0 6), kJ G (q0 7) 2000 (gB o0 7), kI G (q0 13) 5 (gA o0 13), ((q0 4), .inr (5, [.ref (r1 0), .int (gI o1 1), .int (gI o1 2), .ref (q1 3), .ref (q1 4), .ref (q1 5), .ref (q1 6), .ref (q1 7), .ref (q1 8), .ref (q1 9), .ref (q1 10), .int (gI o1 11), .int (gI o1 12)])), kI G (q1 3) 20 (gA o1 3), kI G (q1 4) 20 (gA o1 4), kI G (q1 5) 5 (gA o1 5), kJ G (q1 6) 5 (gB o1 6), kJ G (q1 7) 5 (gB o1 7), kJ G (q1 8) 6 (gB o1 8), kI G (q1 10) 5 (gA o1 10), ((q1 9), .inr (1, [.int (gI o2 0), .int (gI o2 1), .int a0, .int (gI o2 3), .int (gI o2 4), .int (gI o2 5), .int (gI o2 6)]))] := hD
            refine lv_aload_n hx hb d_PV_folds_42 rfl (lv_at hl 0 rfl) ?_
            refine va_get (D := G.1) (ci := 0) (v := .ref (q0 4)) (C := R_PV) (T := T_PV) (N := 14) hx hb hts i_PV hown hK hP 0 rfl rfl 4 (by decide) (hts _ wf_PV_50) (fun _ h9 => h9) rfl d_PV_folds_43 ?_
            refine va_get (D := G.1) (ci := 5) (v := .ref (q1 9)) (C := R_Mo) (T := T_Mo) (N := 13) hx hb hts i_Mo hown hK hP 5 rfl rfl 9 (by decide) (hts _ wf_PV_179) (fun _ h9 => h9) rfl d_PV_folds_46 ?_
            refine lv_iload_n hx hb d_PV_folds_49 rfl (lv_at hl 2 rfl) ?_
            refine va_put (D := G.1) (ci := 1) (v := .int a1) (ty := .int) (C := R_Fo) (T := T_Fo) (N := 7) hx hb hts i_Fo ty_Fo ty_Fo_ok nm_Fo hown hK hP hD hS 13 rfl rfl 3 (by decide) (hts _ wf_PV_188) (fun _ h9 => h9) rfl (ty_Fo_ok 3 (by decide)) rfl rfl (Nat.le_of_ble_eq_true rfl) d_PV_folds_50 (fun H locs hP hD hS => ?_)
            have hP : va_P G.1 CL [(h0, .inr (0, [.int (gI o0 0), .ref (q0 1), .ref (q0 2), .ref (q0 3), .ref (q0 4), .ref (q0 5), .ref (q0 6), .ref (q0 7), .ref (q0 8), .ref (q0 9), .ref (q0 10), .ref (q0 11), .ref (q0 12), .ref (q0 13)])), kQ G (q0 3) 3 (fun i => some (q0 (50 + i))), kI G (q0 6) 1000 (gA o0 6), kJ G (q0 7) 2000 (gB o0 7), kI G (q0 13) 5 (gA o0 13), ((q0 4), .inr (5, [.ref (r1 0), .int (gI o1 1), .int (gI o1 2), .ref (q1 3), .ref (q1 4), .ref (q1 5), .ref (q1 6), .ref (q1 7), .ref (q1 8), .ref (q1 9), .ref (q1 10), .int (gI o1 11), .int (gI o1 12)])), kI G (q1 3) 20 (gA o1 3), kI G (q1 4) 20 (gA o1 4), kI G (q1 5) 5 (gA o1 5), kJ G (q1 6) 5 (gB o1 6), kJ G (q1 7) 5 (gB o1 7), kJ G (q1 8) 6 (gB o1 8), kI G (q1 10) 5 (gA o1 10), ((q1 9), .inr (1, [.int (gI o2 0), .int (gI o2 1), .int a0, .int a1, .int (gI o2 4), .int (gI o2 5), .int (gI o2 6)]))] H := hP
            have hD : va_D A [(h0, .inr (0, [.int (gI o0 0), .ref (q0 1), .ref (q0 2), .ref (q0 3), .ref (q0 4), .ref (q0 5), .ref (q0 6), .ref (q0 7), .ref (q0 8), .ref (q0 9), .ref (q0 10), .ref (q0 11), .ref (q0 12), .ref (q0 13)])), kQ G (q0 3) 3 (fun i => some (q0 (50 + i))), kI G (q0 6) 1000 (gA o0 6), kJ G (q0 7) 2000 (gB o0 7), kI G (q0 13) 5 (gA o0 13), ((q0 4), .inr (5, [.ref (r1 0), .int (gI o1 1), .int (gI o1 2), .ref (q1 3), .ref (q1 4), .ref (q1 5), .ref (q1 6), .ref (q1 7), .ref (q1 8), .ref (q1 9), .ref (q1 10), .int (gI o1 11), .int (gI o1 12)])), kI G (q1 3) 20 (gA o1 3), kI G (q1 4) 20 (gA o1 4), kI G (q1 5) 5 (gA o1 5), kJ G (q1 6) 5 (gB o1 6), kJ G (q1 7) 5 (gB o1 7), kJ G (q1 8) 6 (gB o1 8), kI G (q1 10) 5 (gA o1 10), ((q1 9), .inr (1, [.int (gI o2 0), .int (gI o2 1), .int a0, .int a1, .int (gI o2 4), .int (gI o2 5), .int (gI o2 6)]))] := hD
            refine lv_aload_n hx hb d_PV_folds_53 rfl (lv_at hl 0 rfl) ?_
            refine va_get (D := G.1) (ci := 0) (v := .ref (q0 4)) (C := R_PV) (T := T_PV) (N := 14) hx hb hts i_PV hown hK hP 0 rfl rfl 4 (by decide) (hts _ wf_PV_50) (fun _ h9 => h9) rfl d_PV_folds_54 ?_
            refine va_get (D := G.1) (ci := 5) (v := .ref (q1 9)) (C := R_Mo) (T := T_Mo) (N := 13) hx hb hts i_Mo hown hK hP 5 rfl rfl 9 (by decide) (hts _ wf_PV_179) (fun _ h9 => h9) rfl d_PV_folds_57 ?_
            refine lv_iload_n hx hb d_PV_folds_60 rfl (lv_at hl 3 rfl) ?_
            refine va_put (D := G.1) (ci := 1) (v := .int a2) (ty := .int) (C := R_Fo) (T := T_Fo) (N := 7) hx hb hts i_Fo ty_Fo ty_Fo_ok nm_Fo hown hK hP hD hS 13 rfl rfl 4 (by decide) (hts _ wf_PV_191) (fun _ h9 => h9) rfl (ty_Fo_ok 4 (by decide)) rfl rfl (Nat.le_of_ble_eq_true rfl) d_PV_folds_61 (fun H locs hP hD hS => ?_)
            have hP : va_P G.1 CL [(h0, .inr (0, [.int (gI o0 0), .ref (q0 1), .ref (q0 2), .ref (q0 3), .ref (q0 4), .ref (q0 5), .ref (q0 6), .ref (q0 7), .ref (q0 8), .ref (q0 9), .ref (q0 10), .ref (q0 11), .ref (q0 12), .ref (q0 13)])), kQ G (q0 3) 3 (fun i => some (q0 (50 + i))), kI G (q0 6) 1000 (gA o0 6), kJ G (q0 7) 2000 (gB o0 7), kI G (q0 13) 5 (gA o0 13), ((q0 4), .inr (5, [.ref (r1 0), .int (gI o1 1), .int (gI o1 2), .ref (q1 3), .ref (q1 4), .ref (q1 5), .ref (q1 6), .ref (q1 7), .ref (q1 8), .ref (q1 9), .ref (q1 10), .int (gI o1 11), .int (gI o1 12)])), kI G (q1 3) 20 (gA o1 3), kI G (q1 4) 20 (gA o1 4), kI G (q1 5) 5 (gA o1 5), kJ G (q1 6) 5 (gB o1 6), kJ G (q1 7) 5 (gB o1 7), kJ G (q1 8) 6 (gB o1 8), kI G (q1 10) 5 (gA o1 10), ((q1 9), .inr (1, [.int (gI o2 0), .int (gI o2 1), .int a0, .int a1, .int a2, .int (gI o2 5), .int (gI o2 6)]))] H := hP
            have hD : va_D A [(h0, .inr (0, [.int (gI o0 0), .ref (q0 1), .ref (q0 2), .ref (q0 3), .ref (q0 4), .ref (q0 5), .ref (q0 6), .ref (q0 7), .ref (q0 8), .ref (q0 9), .ref (q0 10), .ref (q0 11), .ref (q0 12), .ref (q0 13)])), kQ G (q0 3) 3 (fun i => some (q0 (50 + i))), kI G (q0 6) 1000 (gA o0 6), kJ G (q0 7) 2000 (gB o0 7), kI G (q0 13) 5 (gA o0 13), ((q0 4), .inr (5, [.ref (r1 0), .int (gI o1 1), .int (gI o1 2), .ref (q1 3), .ref (q1 4), .ref (q1 5), .ref (q1 6), .ref (q1 7), .ref (q1 8), .ref (q1 9), .ref (q1 10), .int (gI o1 11), .int (gI o1 12)])), kI G (q1 3) 20 (gA o1 3), kI G (q1 4) 20 (gA o1 4), kI G (q1 5) 5 (gA o1 5), kJ G (q1 6) 5 (gB o1 6), kJ G (q1 7) 5 (gB o1 7), kJ G (q1 8) 6 (gB o1 8), kI G (q1 10) 5 (gA o1 10), ((q1 9), .inr (1, [.int (gI o2 0), .int (gI o2 1), .int a0, .int a1, .int a2, .int (gI o2 5), .int (gI o2 6)]))] := hD
            refine lv_iconst (v := (1 : Int32)) hx hb d_PV_folds_64 (by decide) ?_
            have hP : va_P G.1 CL (cw_PV G h0 q0 o0 ++ (cw_Mo G (q0 4) q1 r1 o1 ++ (cw_Fo G (q1 9) q2 (sI (sI (sI o2 2 a0) 3 a1) 4 a2)))) H := hP
            have hD : va_D A (cw_PV G h0 q0 o0 ++ (cw_Mo G (q0 4) q1 r1 o1 ++ (cw_Fo G (q1 9) q2 (sI (sI (sI o2 2 a0) 3 a1) 4 a2)))) := hD
            exact W.zret (v := (1 : Int32)) hx hb hr rfl (fun t ht hW => ⟨⟨(1 : Int32), (sI (sI (sI o2 2 a0) 3 a1) 4 a2), rfl, h, by rw [ht]; exact hP, va_K.moved hW.alike hK, hD⟩, hS.F ht⟩) hS.2.2 d_PV_folds_65
          · have h := h.2 c6
            refine lv_iconst (v := (0 : Int32)) hx hb d_PV_folds_29 (by decide) ?_
            have hP : va_P G.1 CL (cw_PV G h0 q0 o0 ++ (cw_Mo G (q0 4) q1 r1 o1 ++ (cw_Fo G (q1 9) q2 o2))) H := hP
            have hD : va_D A (cw_PV G h0 q0 o0 ++ (cw_Mo G (q0 4) q1 r1 o1 ++ (cw_Fo G (q1 9) q2 o2))) := hD
            exact W.zret (v := (0 : Int32)) hx hb hr rfl (fun t ht hW => ⟨⟨(0 : Int32), o2, rfl, h, by rw [ht]; exact hP, va_K.moved hW.alike hK, hD⟩, hS.F ht⟩) hS.2.2 d_PV_folds_30
abbrev b_PV_ticks : ByteArray := prog_1_method_9_code
def y_PV_ticks : MethodName := ⟨R_PV, "ticks", "(I)I"⟩
abbrev w_PV_ticks : List Cond := Cond.code y_PV_ticks b_PV_ticks 3 (some .int) :: gw_tbl
theorem d_PV_ticks_0 : decode b_PV_ticks 0 = .ok (.iload_n 1, 1) := by decide +kernel
theorem d_PV_ticks_1 : decode b_PV_ticks 1 = .ok (.iconst 1, 1) := by decide +kernel
theorem d_PV_ticks_2 : decode b_PV_ticks 2 = .ok (.if_icmp .lt 24, 3) := by decide +kernel
theorem d_PV_ticks_5 : decode b_PV_ticks 5 = .ok (.iload_n 1, 1) := by decide +kernel
theorem d_PV_ticks_6 : decode b_PV_ticks 6 = .ok (.bipush 50, 2) := by decide +kernel
theorem d_PV_ticks_8 : decode b_PV_ticks 8 = .ok (.if_icmp .gt 18, 3) := by decide +kernel
theorem d_PV_ticks_11 : decode b_PV_ticks 11 = .ok (.aload_n 0, 1) := by decide +kernel
theorem d_PV_ticks_12 : decode b_PV_ticks 12 = .ok (.getfield 50, 3) := by decide +kernel
theorem d_PV_ticks_15 : decode b_PV_ticks 15 = .ok (.getfield 173, 3) := by decide +kernel
theorem d_PV_ticks_18 : decode b_PV_ticks 18 = .ok (.iload_n 1, 1) := by decide +kernel
theorem d_PV_ticks_19 : decode b_PV_ticks 19 = .ok (.iadd, 1) := by decide +kernel
theorem d_PV_ticks_20 : decode b_PV_ticks 20 = .ok (.sipush 200, 3) := by decide +kernel
theorem d_PV_ticks_23 : decode b_PV_ticks 23 = .ok (.if_icmp .le 5, 3) := by decide +kernel
theorem d_PV_ticks_26 : decode b_PV_ticks 26 = .ok (.iconst (-1), 1) := by decide +kernel
theorem d_PV_ticks_27 : decode b_PV_ticks 27 = .ok (.ireturn, 1) := by decide +kernel
theorem d_PV_ticks_28 : decode b_PV_ticks 28 = .ok (.iconst 0, 1) := by decide +kernel
theorem d_PV_ticks_29 : decode b_PV_ticks 29 = .ok (.istore_n 2, 1) := by decide +kernel
theorem d_PV_ticks_30 : decode b_PV_ticks 30 = .ok (.iload_n 2, 1) := by decide +kernel
theorem d_PV_ticks_31 : decode b_PV_ticks 31 = .ok (.iload_n 1, 1) := by decide +kernel
theorem d_PV_ticks_32 : decode b_PV_ticks 32 = .ok (.if_icmp .ge 13, 3) := by decide +kernel
theorem d_PV_ticks_35 : decode b_PV_ticks 35 = .ok (.aload_n 0, 1) := by decide +kernel
theorem d_PV_ticks_36 : decode b_PV_ticks 36 = .ok (.invokevirtual 194, 3) := by decide +kernel
theorem d_PV_ticks_39 : decode b_PV_ticks 39 = .ok (.iinc 2 1, 3) := by decide +kernel
theorem d_PV_ticks_42 : decode b_PV_ticks 42 = .ok (.goto (-12), 3) := by decide +kernel
theorem d_PV_ticks_45 : decode b_PV_ticks 45 = .ok (.aload_n 0, 1) := by decide +kernel
theorem d_PV_ticks_46 : decode b_PV_ticks 46 = .ok (.getfield 50, 3) := by decide +kernel
theorem d_PV_ticks_49 : decode b_PV_ticks 49 = .ok (.getfield 173, 3) := by decide +kernel
theorem d_PV_ticks_52 : decode b_PV_ticks 52 = .ok (.ireturn, 1) := by decide +kernel
theorem wv_PV_194 : wV R_PV 194 y_PV_passTick b_PV_passTick 3 none 0 := ⟨⟨gw_tb (List.mem_of_getElem? (i := 672) (by decide +kernel)) rfl, gw_tb (List.mem_of_getElem? (i := 1) (by decide +kernel)) rfl, gw_tb (List.mem_of_getElem? (i := 675) (by decide +kernel)) rfl, by decide, by decide, by decide +kernel⟩, gw_tb (List.mem_of_getElem? (i := 674) (by decide +kernel)) rfl, gw_of (List.mem_append_left _ (List.mem_of_getElem? (i := 18) (by decide +kernel))) rfl⟩
def f_PV_ticks_30 (r1 : (Nat → Nat)) (o3 : Ob) (Q : Int32 → Ob → Ob → Ob → Ob → Ob → Prop) : Nat → Int32 → Int32 → Ob → Ob → Ob → Ob → Ob → Prop
  | 0, _, _, _, _, _, _, _ => False
  | n + 1, x1, x2, o0, o1, o2, o4, o5 => (x1 ≤ x2 → (Q (gI o1 1) o0 o1 o2 o4 o5)) ∧ (¬ x1 ≤ x2 → (f_PV_passTick o0 r1 o1 o2 o3 o4 o5 (fun u2 u3 u4 u5 u6 => (f_PV_ticks_30 r1 o3 Q n) x1 (x2 + (1 : Int32)) u2 u3 u4 u5 u6)))
def f_PV_ticks (a0 : Int32) (o0 : Ob) (r1 : (Nat → Nat)) (o1 : Ob) (o2 : Ob) (o3 : Ob) (o4 : Ob) (o5 : Ob) (Q : Int32 → Ob → Ob → Ob → Ob → Ob → Prop) : Prop := (a0 < (1 : Int32) → (Q (-1 : Int32) o0 o1 o2 o4 o5)) ∧ (¬ a0 < (1 : Int32) → (((50 : Int32) < a0 → (Q (-1 : Int32) o0 o1 o2 o4 o5)) ∧ (¬ (50 : Int32) < a0 → ((((gI o1 1) + a0) ≤ (200 : Int32) → ((∃ w, f_PV_ticks_30 r1 o3 Q w a0 (0 : Int32) o0 o1 o2 o4 o5))) ∧ (¬ ((gI o1 1) + a0) ≤ (200 : Int32) → (Q (-1 : Int32) o0 o1 o2 o4 o5))))))
abbrev rm_PV_ticks : Room := { frames := 4, cells := 0, slots := 0, locals := 111 }
set_option maxHeartbeats 4000000 in
set_option maxRecDepth 100000 in
theorem t_PV_ticks_30 {p : Program} {l : Launch} {e : Env} {s : State} {m : MethodId} {args : Array Value} {below : List Frame} {meth : Method} {c : Code} {A : Nat → Prop} {G : Gl} {h0 : Nat} {q0 : Nat → Nat} {q1 : Nat → Nat} {q2 : Nat → Nat} {q3 : Nat → Nat} {q4 : Nat → Nat} {q5 : Nat → Nat} (r1 : (Nat → Nat)) (o3 : Ob) (Q : Int32 → Ob → Ob → Ob → Ob → Ob → Prop) (C : Cx p s m args meth c R_PV b_PV_ticks 3 (some .int) G A) :
    ∀ (n : Nat) (x1 : Int32) (x2 : Int32) (o0 : Ob) (o1 : Ob) (o2 : Ob) (o4 : Ob) (o5 : Ob) (ls : Array Slot) (H : Heap) (locs : List Loc), lv_has ls 3 [(0, .ref h0), (1, .int x1), (2, .int x2)] → va_P G.1 CL (cw_PV G h0 q0 o0 ++ (cw_Mo G (q0 4) q1 r1 o1 ++ (cw_Fo G (q1 9) q2 o2 ++ (cw_La G (r1 0) q3 o3 ++ (cw_Le G (q0 9) q4 o4 ++ (cw_Pi G (q0 10) q5 o5)))))) H → va_D A (cw_PV G h0 q0 o0 ++ (cw_Mo G (q0 4) q1 r1 o1 ++ (cw_Fo G (q1 9) q2 o2 ++ (cw_La G (r1 0) q3 o3 ++ (cw_Le G (q0 9) q4 o4 ++ (cw_Pi G (q0 10) q5 o5)))))) → va_S A s.heap H locs → f_PV_ticks_30 r1 o3 Q n x1 x2 o0 o1 o2 o4 o5 → W p l e rm_PV_ticks s m args below meth c H locs 0 0 (MQ below (va_Qi (fun (r : Int32) (u : Ob × Ob × Ob × Ob × Ob) => Q r u.1 u.2.1 u.2.2.1 u.2.2.2.1 u.2.2.2.2) (fun (u : Ob × Ob × Ob × Ob × Ob) t => BW G A (cw_PV G h0 q0 u.1 ++ (cw_Mo G (q0 4) q1 r1 u.2.1 ++ (cw_Fo G (q1 9) q2 u.2.2.1 ++ (cw_La G (r1 0) q3 o3 ++ (cw_Le G (q0 9) q4 u.2.2.2.1 ++ (cw_Pi G (q0 10) q5 u.2.2.2.2)))))) t) A) args s 0 0 A) (F0 m 30 ls []) := by
  obtain ⟨hx, hb, hml, hown, hr, hts, hK, hA, hlocks, hE⟩ := id C
  intro n
  induction n with
  | zero => intro x1 x2 o0 o1 o2 o4 o5 ls H locs hl hP hD hS h; exact absurd h id
  | succ n ih =>
    intro x1 x2 o0 o1 o2 o4 o5 ls H locs hl hP hD hS h
    have hP : va_P G.1 CL [(h0, .inr (0, [.int (gI o0 0), .ref (q0 1), .ref (q0 2), .ref (q0 3), .ref (q0 4), .ref (q0 5), .ref (q0 6), .ref (q0 7), .ref (q0 8), .ref (q0 9), .ref (q0 10), .ref (q0 11), .ref (q0 12), .ref (q0 13)])), kQ G (q0 3) 3 (fun i => some (q0 (50 + i))), kI G (q0 6) 1000 (gA o0 6), kJ G (q0 7) 2000 (gB o0 7), kI G (q0 13) 5 (gA o0 13), ((q0 4), .inr (5, [.ref (r1 0), .int (gI o1 1), .int (gI o1 2), .ref (q1 3), .ref (q1 4), .ref (q1 5), .ref (q1 6), .ref (q1 7), .ref (q1 8), .ref (q1 9), .ref (q1 10), .int (gI o1 11), .int (gI o1 12)])), kI G (q1 3) 20 (gA o1 3), kI G (q1 4) 20 (gA o1 4), kI G (q1 5) 5 (gA o1 5), kJ G (q1 6) 5 (gB o1 6), kJ G (q1 7) 5 (gB o1 7), kJ G (q1 8) 6 (gB o1 8), kI G (q1 10) 5 (gA o1 10), ((q1 9), .inr (1, [.int (gI o2 0), .int (gI o2 1), .int (gI o2 2), .int (gI o2 3), .int (gI o2 4), .int (gI o2 5), .int (gI o2 6)])), ((r1 0), .inr (3, [.ref (q3 0), .int (gI o3 1), .int (gI o3 2), .int (gI o3 3), .int (gI o3 4), .int (gI o3 5), .ref (q3 6), .ref (q3 7), .ref (q3 8), .ref (q3 9), .ref (q3 10), .ref (q3 11), .ref (q3 12), .ref (q3 13), .ref (q3 14)])), kI G (q3 0) 5 (gA o3 0), kI G (q3 6) 20 (gA o3 6), kI G (q3 7) 20 (gA o3 7), kI G (q3 8) 20 (gA o3 8), kI G (q3 9) 20 (gA o3 9), kI G (q3 10) 20 (gA o3 10), kI G (q3 11) 20 (gA o3 11), kI G (q3 12) 8 (gA o3 12), kI G (q3 13) 64 (gA o3 13), kI G (q3 14) 64 (gA o3 14), ((q0 9), .inr (4, [.int (gI o4 0), .int (gI o4 1), .int (gI o4 2), .int (gI o4 3), .int (gI o4 4), .int (gI o4 5), .int (gI o4 6), .int (gI o4 7)])), ((q0 10), .inr (6, [.int (gI o5 0), .ref (q5 1), .ref (q5 2)])), kJ G (q5 1) 5 (gB o5 1), kJ G (q5 2) 5 (gB o5 2)] H := hP
    have hD : va_D A [(h0, .inr (0, [.int (gI o0 0), .ref (q0 1), .ref (q0 2), .ref (q0 3), .ref (q0 4), .ref (q0 5), .ref (q0 6), .ref (q0 7), .ref (q0 8), .ref (q0 9), .ref (q0 10), .ref (q0 11), .ref (q0 12), .ref (q0 13)])), kQ G (q0 3) 3 (fun i => some (q0 (50 + i))), kI G (q0 6) 1000 (gA o0 6), kJ G (q0 7) 2000 (gB o0 7), kI G (q0 13) 5 (gA o0 13), ((q0 4), .inr (5, [.ref (r1 0), .int (gI o1 1), .int (gI o1 2), .ref (q1 3), .ref (q1 4), .ref (q1 5), .ref (q1 6), .ref (q1 7), .ref (q1 8), .ref (q1 9), .ref (q1 10), .int (gI o1 11), .int (gI o1 12)])), kI G (q1 3) 20 (gA o1 3), kI G (q1 4) 20 (gA o1 4), kI G (q1 5) 5 (gA o1 5), kJ G (q1 6) 5 (gB o1 6), kJ G (q1 7) 5 (gB o1 7), kJ G (q1 8) 6 (gB o1 8), kI G (q1 10) 5 (gA o1 10), ((q1 9), .inr (1, [.int (gI o2 0), .int (gI o2 1), .int (gI o2 2), .int (gI o2 3), .int (gI o2 4), .int (gI o2 5), .int (gI o2 6)])), ((r1 0), .inr (3, [.ref (q3 0), .int (gI o3 1), .int (gI o3 2), .int (gI o3 3), .int (gI o3 4), .int (gI o3 5), .ref (q3 6), .ref (q3 7), .ref (q3 8), .ref (q3 9), .ref (q3 10), .ref (q3 11), .ref (q3 12), .ref (q3 13), .ref (q3 14)])), kI G (q3 0) 5 (gA o3 0), kI G (q3 6) 20 (gA o3 6), kI G (q3 7) 20 (gA o3 7), kI G (q3 8) 20 (gA o3 8), kI G (q3 9) 20 (gA o3 9), kI G (q3 10) 20 (gA o3 10), kI G (q3 11) 20 (gA o3 11), kI G (q3 12) 8 (gA o3 12), kI G (q3 13) 64 (gA o3 13), kI G (q3 14) 64 (gA o3 14), ((q0 9), .inr (4, [.int (gI o4 0), .int (gI o4 1), .int (gI o4 2), .int (gI o4 3), .int (gI o4 4), .int (gI o4 5), .int (gI o4 6), .int (gI o4 7)])), ((q0 10), .inr (6, [.int (gI o5 0), .ref (q5 1), .ref (q5 2)])), kJ G (q5 1) 5 (gB o5 1), kJ G (q5 2) 5 (gB o5 2)] := hD
    unfold f_PV_ticks_30 at h
    refine lv_iload_n hx hb d_PV_ticks_30 rfl (lv_at hl 2 rfl) ?_
    refine lv_iload_n hx hb d_PV_ticks_31 rfl (lv_at hl 1 rfl) ?_
    refine lv_icmp_ge (tgt := 45) hx hb d_PV_ticks_32 (by decide) (fun c1 => ?_) (fun c1 => ?_)
    · have h := h.1 c1
      refine lv_aload_n hx hb d_PV_ticks_45 rfl (lv_at hl 0 rfl) ?_
      refine va_get (D := G.1) (ci := 0) (v := .ref (q0 4)) (C := R_PV) (T := T_PV) (N := 14) hx hb hts i_PV hown hK hP 0 rfl rfl 4 (by decide) (hts _ wf_PV_50) (fun _ h9 => h9) rfl d_PV_ticks_46 ?_
      refine va_get (D := G.1) (ci := 5) (v := .int (gI o1 1)) (C := R_Mo) (T := T_Mo) (N := 13) hx hb hts i_Mo hown hK hP 5 rfl rfl 1 (by decide) (hts _ wf_PV_173) (fun _ h9 => h9) rfl d_PV_ticks_49 ?_
      have hP : va_P G.1 CL (cw_PV G h0 q0 o0 ++ (cw_Mo G (q0 4) q1 r1 o1 ++ (cw_Fo G (q1 9) q2 o2 ++ (cw_La G (r1 0) q3 o3 ++ (cw_Le G (q0 9) q4 o4 ++ (cw_Pi G (q0 10) q5 o5)))))) H := hP
      have hD : va_D A (cw_PV G h0 q0 o0 ++ (cw_Mo G (q0 4) q1 r1 o1 ++ (cw_Fo G (q1 9) q2 o2 ++ (cw_La G (r1 0) q3 o3 ++ (cw_Le G (q0 9) q4 o4 ++ (cw_Pi G (q0 10) q5 o5)))))) := hD
      exact W.iret (v := (gI o1 1)) hx hb hr (fun t ht hW => ⟨⟨(gI o1 1), (o0, o1, o2, o4, o5), rfl, h, by rw [ht]; exact hP, va_K.moved hW.alike hK, hD⟩, hS.F ht⟩) hS.2.2 d_PV_ticks_52
    · have h := h.2 c1
      refine lv_aload_n hx hb d_PV_ticks_35 rfl (lv_at hl 0 rfl) ?_
      refine cl_Vv (b := b_PV_ticks) (As := []) (rest := []) (ws := [(h0, .inr (0, [.int (gI o0 0), .ref (q0 1), .ref (q0 2), .ref (q0 3), .ref (q0 4), .ref (q0 5), .ref (q0 6), .ref (q0 7), .ref (q0 8), .ref (q0 9), .ref (q0 10), .ref (q0 11), .ref (q0 12), .ref (q0 13)])), kQ G (q0 3) 3 (fun i => some (q0 (50 + i))), kI G (q0 6) 1000 (gA o0 6), kJ G (q0 7) 2000 (gB o0 7), kI G (q0 13) 5 (gA o0 13), ((q0 4), .inr (5, [.ref (r1 0), .int (gI o1 1), .int (gI o1 2), .ref (q1 3), .ref (q1 4), .ref (q1 5), .ref (q1 6), .ref (q1 7), .ref (q1 8), .ref (q1 9), .ref (q1 10), .int (gI o1 11), .int (gI o1 12)])), kI G (q1 3) 20 (gA o1 3), kI G (q1 4) 20 (gA o1 4), kI G (q1 5) 5 (gA o1 5), kJ G (q1 6) 5 (gB o1 6), kJ G (q1 7) 5 (gB o1 7), kJ G (q1 8) 6 (gB o1 8), kI G (q1 10) 5 (gA o1 10), ((q1 9), .inr (1, [.int (gI o2 0), .int (gI o2 1), .int (gI o2 2), .int (gI o2 3), .int (gI o2 4), .int (gI o2 5), .int (gI o2 6)])), ((r1 0), .inr (3, [.ref (q3 0), .int (gI o3 1), .int (gI o3 2), .int (gI o3 3), .int (gI o3 4), .int (gI o3 5), .ref (q3 6), .ref (q3 7), .ref (q3 8), .ref (q3 9), .ref (q3 10), .ref (q3 11), .ref (q3 12), .ref (q3 13), .ref (q3 14)])), kI G (q3 0) 5 (gA o3 0), kI G (q3 6) 20 (gA o3 6), kI G (q3 7) 20 (gA o3 7), kI G (q3 8) 20 (gA o3 8), kI G (q3 9) 20 (gA o3 9), kI G (q3 10) 20 (gA o3 10), kI G (q3 11) 20 (gA o3 11), kI G (q3 12) 8 (gA o3 12), kI G (q3 13) 64 (gA o3 13), kI G (q3 14) 64 (gA o3 14), ((q0 9), .inr (4, [.int (gI o4 0), .int (gI o4 1), .int (gI o4 2), .int (gI o4 3), .int (gI o4 4), .int (gI o4 5), .int (gI o4 6), .int (gI o4 7)])), ((q0 10), .inr (6, [.int (gI o5 0), .ref (q5 1), .ref (q5 2)])), kJ G (q5 1) 5 (gB o5 1), kJ G (q5 2) 5 (gB o5 2)]) (wr := []) (w2 := fun (u : Ob × Ob × Ob × Ob × Ob) => [(h0, .inr (0, [.int (gI u.1 0), .ref (q0 1), .ref (q0 2), .ref (q0 3), .ref (q0 4), .ref (q0 5), .ref (q0 6), .ref (q0 7), .ref (q0 8), .ref (q0 9), .ref (q0 10), .ref (q0 11), .ref (q0 12), .ref (q0 13)])), kQ G (q0 3) 3 (fun i => some (q0 (50 + i))), kI G (q0 6) 1000 (gA u.1 6), kJ G (q0 7) 2000 (gB u.1 7), kI G (q0 13) 5 (gA u.1 13), ((q0 4), .inr (5, [.ref (r1 0), .int (gI u.2.1 1), .int (gI u.2.1 2), .ref (q1 3), .ref (q1 4), .ref (q1 5), .ref (q1 6), .ref (q1 7), .ref (q1 8), .ref (q1 9), .ref (q1 10), .int (gI u.2.1 11), .int (gI u.2.1 12)])), kI G (q1 3) 20 (gA u.2.1 3), kI G (q1 4) 20 (gA u.2.1 4), kI G (q1 5) 5 (gA u.2.1 5), kJ G (q1 6) 5 (gB u.2.1 6), kJ G (q1 7) 5 (gB u.2.1 7), kJ G (q1 8) 6 (gB u.2.1 8), kI G (q1 10) 5 (gA u.2.1 10), ((q1 9), .inr (1, [.int (gI u.2.2.1 0), .int (gI u.2.2.1 1), .int (gI u.2.2.1 2), .int (gI u.2.2.1 3), .int (gI u.2.2.1 4), .int (gI u.2.2.1 5), .int (gI u.2.2.1 6)])), ((r1 0), .inr (3, [.ref (q3 0), .int (gI o3 1), .int (gI o3 2), .int (gI o3 3), .int (gI o3 4), .int (gI o3 5), .ref (q3 6), .ref (q3 7), .ref (q3 8), .ref (q3 9), .ref (q3 10), .ref (q3 11), .ref (q3 12), .ref (q3 13), .ref (q3 14)])), kI G (q3 0) 5 (gA o3 0), kI G (q3 6) 20 (gA o3 6), kI G (q3 7) 20 (gA o3 7), kI G (q3 8) 20 (gA o3 8), kI G (q3 9) 20 (gA o3 9), kI G (q3 10) 20 (gA o3 10), kI G (q3 11) 20 (gA o3 11), kI G (q3 12) 8 (gA o3 12), kI G (q3 13) 64 (gA o3 13), kI G (q3 14) 64 (gA o3 14), ((q0 9), .inr (4, [.int (gI u.2.2.2.1 0), .int (gI u.2.2.2.1 1), .int (gI u.2.2.2.1 2), .int (gI u.2.2.2.1 3), .int (gI u.2.2.2.1 4), .int (gI u.2.2.2.1 5), .int (gI u.2.2.2.1 6), .int (gI u.2.2.2.1 7)])), ((q0 10), .inr (6, [.int (gI u.2.2.2.2 0), .ref (q5 1), .ref (q5 2)])), kJ G (q5 1) 5 (gB u.2.2.2.2 1), kJ G (q5 2) 5 (gB u.2.2.2.2 2)]) C (c_PV_passTick (h0 := h0) (q0 := q0) (q1 := q1) (q2 := q2) (q3 := q3) (q4 := q4) (q5 := q5) H.size h) wv_PV_194 ⟨Nat.le_of_ble_eq_true rfl, Nat.le_of_ble_eq_true rfl⟩ hP hD hS 0 rfl rfl [0, 1, 2, 3, 4, 5, 6, 7, 8, 9, 10, 11, 12, 13, 14, 15, 16, 17, 18, 19, 20, 21, 22, 23, 24, 25, 26, 27, 28] [] rfl rfl (by decide) (by decide) (by decide) [0, 1, 2, 3, 4, 5, 6, 7, 8, 9, 10, 11, 12, 13, 14, 15, 16, 17, 18, 19, 20, 21, 22, 23, 24, 25, 26, 27, 28] (by decide) (fun u => rfl) rfl hl.1 rfl (lv_room (Nat.le_of_ble_eq_true rfl)) d_PV_ticks_36 ⟨Nat.le_of_ble_eq_true rfl, Nat.le_of_ble_eq_true rfl⟩ rfl rfl (fun u H locs h hP hD hS => ?_)
      obtain ⟨u2, u3, u4, u5, u6⟩ := u
      have hP : va_P G.1 CL [(h0, .inr (0, [.int (gI u2 0), .ref (q0 1), .ref (q0 2), .ref (q0 3), .ref (q0 4), .ref (q0 5), .ref (q0 6), .ref (q0 7), .ref (q0 8), .ref (q0 9), .ref (q0 10), .ref (q0 11), .ref (q0 12), .ref (q0 13)])), kQ G (q0 3) 3 (fun i => some (q0 (50 + i))), kI G (q0 6) 1000 (gA u2 6), kJ G (q0 7) 2000 (gB u2 7), kI G (q0 13) 5 (gA u2 13), ((q0 4), .inr (5, [.ref (r1 0), .int (gI u3 1), .int (gI u3 2), .ref (q1 3), .ref (q1 4), .ref (q1 5), .ref (q1 6), .ref (q1 7), .ref (q1 8), .ref (q1 9), .ref (q1 10), .int (gI u3 11), .int (gI u3 12)])), kI G (q1 3) 20 (gA u3 3), kI G (q1 4) 20 (gA u3 4), kI G (q1 5) 5 (gA u3 5), kJ G (q1 6) 5 (gB u3 6), kJ G (q1 7) 5 (gB u3 7), kJ G (q1 8) 6 (gB u3 8), kI G (q1 10) 5 (gA u3 10), ((q1 9), .inr (1, [.int (gI u4 0), .int (gI u4 1), .int (gI u4 2), .int (gI u4 3), .int (gI u4 4), .int (gI u4 5), .int (gI u4 6)])), ((r1 0), .inr (3, [.ref (q3 0), .int (gI o3 1), .int (gI o3 2), .int (gI o3 3), .int (gI o3 4), .int (gI o3 5), .ref (q3 6), .ref (q3 7), .ref (q3 8), .ref (q3 9), .ref (q3 10), .ref (q3 11), .ref (q3 12), .ref (q3 13), .ref (q3 14)])), kI G (q3 0) 5 (gA o3 0), kI G (q3 6) 20 (gA o3 6), kI G (q3 7) 20 (gA o3 7), kI G (q3 8) 20 (gA o3 8), kI G (q3 9) 20 (gA o3 9), kI G (q3 10) 20 (gA o3 10), kI G (q3 11) 20 (gA o3 11), kI G (q3 12) 8 (gA o3 12), kI G (q3 13) 64 (gA o3 13), kI G (q3 14) 64 (gA o3 14), ((q0 9), .inr (4, [.int (gI u5 0), .int (gI u5 1), .int (gI u5 2), .int (gI u5 3), .int (gI u5 4), .int (gI u5 5), .int (gI u5 6), .int (gI u5 7)])), ((q0 10), .inr (6, [.int (gI u6 0), .ref (q5 1), .ref (q5 2)])), kJ G (q5 1) 5 (gB u6 1), kJ G (q5 2) 5 (gB u6 2)] H := hP
      have hD : va_D A [(h0, .inr (0, [.int (gI u2 0), .ref (q0 1), .ref (q0 2), .ref (q0 3), .ref (q0 4), .ref (q0 5), .ref (q0 6), .ref (q0 7), .ref (q0 8), .ref (q0 9), .ref (q0 10), .ref (q0 11), .ref (q0 12), .ref (q0 13)])), kQ G (q0 3) 3 (fun i => some (q0 (50 + i))), kI G (q0 6) 1000 (gA u2 6), kJ G (q0 7) 2000 (gB u2 7), kI G (q0 13) 5 (gA u2 13), ((q0 4), .inr (5, [.ref (r1 0), .int (gI u3 1), .int (gI u3 2), .ref (q1 3), .ref (q1 4), .ref (q1 5), .ref (q1 6), .ref (q1 7), .ref (q1 8), .ref (q1 9), .ref (q1 10), .int (gI u3 11), .int (gI u3 12)])), kI G (q1 3) 20 (gA u3 3), kI G (q1 4) 20 (gA u3 4), kI G (q1 5) 5 (gA u3 5), kJ G (q1 6) 5 (gB u3 6), kJ G (q1 7) 5 (gB u3 7), kJ G (q1 8) 6 (gB u3 8), kI G (q1 10) 5 (gA u3 10), ((q1 9), .inr (1, [.int (gI u4 0), .int (gI u4 1), .int (gI u4 2), .int (gI u4 3), .int (gI u4 4), .int (gI u4 5), .int (gI u4 6)])), ((r1 0), .inr (3, [.ref (q3 0), .int (gI o3 1), .int (gI o3 2), .int (gI o3 3), .int (gI o3 4), .int (gI o3 5), .ref (q3 6), .ref (q3 7), .ref (q3 8), .ref (q3 9), .ref (q3 10), .ref (q3 11), .ref (q3 12), .ref (q3 13), .ref (q3 14)])), kI G (q3 0) 5 (gA o3 0), kI G (q3 6) 20 (gA o3 6), kI G (q3 7) 20 (gA o3 7), kI G (q3 8) 20 (gA o3 8), kI G (q3 9) 20 (gA o3 9), kI G (q3 10) 20 (gA o3 10), kI G (q3 11) 20 (gA o3 11), kI G (q3 12) 8 (gA o3 12), kI G (q3 13) 64 (gA o3 13), kI G (q3 14) 64 (gA o3 14), ((q0 9), .inr (4, [.int (gI u5 0), .int (gI u5 1), .int (gI u5 2), .int (gI u5 3), .int (gI u5 4), .int (gI u5 5), .int (gI u5 6), .int (gI u5 7)])), ((q0 10), .inr (6, [.int (gI u6 0), .ref (q5 1), .ref (q5 2)])), kJ G (q5 1) 5 (gB u6 1), kJ G (q5 2) 5 (gB u6 2)] := hD
      refine lv_iinc (v := (x2 + (1 : Int32))) (lv' := [(2, .int (x2 + (1 : Int32))), (0, .ref h0), (1, .int x1)]) hx hb d_PV_ticks_39 hl (k := 2) rfl rfl (by decide) rfl (fun ls hl => ?_)
      refine lv_goto (tgt := 30) hx hb d_PV_ticks_42 (by decide) ?_
      have hl := lv_sub (l' := [(0, .ref h0), (1, .int x1), (2, .int (x2 + (1 : Int32)))]) hl [1, 2, 0] rfl
      have hP : va_P G.1 CL (cw_PV G h0 q0 u2 ++ (cw_Mo G (q0 4) q1 r1 u3 ++ (cw_Fo G (q1 9) q2 u4 ++ (cw_La G (r1 0) q3 o3 ++ (cw_Le G (q0 9) q4 u5 ++ (cw_Pi G (q0 10) q5 u6)))))) H := hP
      have hD : va_D A (cw_PV G h0 q0 u2 ++ (cw_Mo G (q0 4) q1 r1 u3 ++ (cw_Fo G (q1 9) q2 u4 ++ (cw_La G (r1 0) q3 o3 ++ (cw_Le G (q0 9) q4 u5 ++ (cw_Pi G (q0 10) q5 u6)))))) := hD
      exact ih x1 (x2 + (1 : Int32)) u2 u3 u4 u5 u6 ls H locs hl hP hD hS h
set_option maxHeartbeats 4000000 in
set_option maxRecDepth 100000 in
theorem c_PV_ticks {l : Launch} {G : Gl} {h0 : Nat} {q0 : Nat → Nat} {q1 : Nat → Nat} {q2 : Nat → Nat} {q3 : Nat → Nat} {q4 : Nat → Nat} {q5 : Nat → Nat} {a0 : Int32} {o0 : Ob} {r1 : (Nat → Nat)} {o1 : Ob} {o2 : Ob} {o3 : Ob} {o4 : Ob} {o5 : Ob} {Q : Int32 → Ob → Ob → Ob → Ob → Ob → Prop} (sz : Nat) (h : f_PV_ticks a0 o0 r1 o1 o2 o3 o4 o5 Q) : Met l y_PV_ticks w_PV_ticks rm_PV_ticks (PcW G [.ref h0, .int a0] sz (cw_PV G h0 q0 o0 ++ (cw_Mo G (q0 4) q1 r1 o1 ++ (cw_Fo G (q1 9) q2 o2 ++ (cw_La G (r1 0) q3 o3 ++ (cw_Le G (q0 9) q4 o4 ++ (cw_Pi G (q0 10) q5 o5))))))) (va_Qi (fun (r : Int32) (u : Ob × Ob × Ob × Ob × Ob) => Q r u.1 u.2.1 u.2.2.1 u.2.2.2.1 u.2.2.2.2) (fun (u : Ob × Ob × Ob × Ob × Ob) t => BW G (va_A (cw_PV G h0 q0 o0 ++ (cw_Mo G (q0 4) q1 r1 o1 ++ (cw_Fo G (q1 9) q2 o2 ++ (cw_La G (r1 0) q3 o3 ++ (cw_Le G (q0 9) q4 o4 ++ (cw_Pi G (q0 10) q5 o5)))))) sz) (cw_PV G h0 q0 u.1 ++ (cw_Mo G (q0 4) q1 r1 u.2.1 ++ (cw_Fo G (q1 9) q2 u.2.2.1 ++ (cw_La G (r1 0) q3 o3 ++ (cw_Le G (q0 9) q4 u.2.2.2.1 ++ (cw_Pi G (q0 10) q5 u.2.2.2.2)))))) t) (va_A (cw_PV G h0 q0 o0 ++ (cw_Mo G (q0 4) q1 r1 o1 ++ (cw_Fo G (q1 9) q2 o2 ++ (cw_La G (r1 0) q3 o3 ++ (cw_Le G (q0 9) q4 o4 ++ (cw_Pi G (q0 10) q5 o5)))))) sz)) 0 0 (va_A (cw_PV G h0 q0 o0 ++ (cw_Mo G (q0 4) q1 r1 o1 ++ (cw_Fo G (q1 9) q2 o2 ++ (cw_La G (r1 0) q3 o3 ++ (cw_Le G (q0 9) q4 o4 ++ (cw_Pi G (q0 10) q5 o5)))))) sz) := by
  refine Met.ofW (cc := b_PV_ticks) (maxL := 3) (ret := (some .int)) (by decide +kernel) rfl ?_
  intro p e s m args below meth c s₁ B hml hv
  obtain ⟨rfl, hsz, hP, hK, hD0, hE⟩ := hv
  have hx := B.exec
  have hb := B.bytes
  have hr := B.returns
  have hts0 := atoms_spec (ws := w_PV_ticks) B.pre
  have hts : ∀ w ∈ gw_tbl, w.before ([.ref h0, .int a0]).toArray s = true := fun w hw => hts0 w (List.mem_cons_of_mem _ hw)
  have hown : s.vm.findClass R_PV = some m.cls := findClass_of_methodNamed B.named
  have hlocks := B.notSynchronized
  subst hsz
  have hD := hD0.self (sz := s.heap.size)
  generalize hAe : va_A (cw_PV G h0 q0 o0 ++ (cw_Mo G (q0 4) q1 r1 o1 ++ (cw_Fo G (q1 9) q2 o2 ++ (cw_La G (r1 0) q3 o3 ++ (cw_Le G (q0 9) q4 o4 ++ (cw_Pi G (q0 10) q5 o5)))))) s.heap.size = A at hD hE ⊢
  have hA : ∀ q : Nat, s.heap.size ≤ q → A q := fun q h => by rw [← hAe]; exact Or.inr h
  have hS : va_S A s.heap s.heap [] := va_S.rf
  have C : Cx p s m ([.ref h0, .int a0]).toArray meth c R_PV b_PV_ticks 3 (some .int) G A := ⟨hx, hb, hml, hown, hr, hts, hK, hA, hlocks, hE⟩
  have hl := lv_entry ([.ref h0, .int a0]) (n := 3) (Nat.le_of_ble_eq_true rfl)
  rw [lg_entry_eq]
  generalize (lg_sl ([.ref h0, .int a0]) ++ List.replicate (3 - (lg_sl ([.ref h0, .int a0])).length) Slot.unset).toArray = ls at hl ⊢
  have hl : lv_has ls 3 [(0, .ref h0), (1, .int a0)] := hl
  have hD : va_D A [(h0, .inr (0, [.int (gI o0 0), .ref (q0 1), .ref (q0 2), .ref (q0 3), .ref (q0 4), .ref (q0 5), .ref (q0 6), .ref (q0 7), .ref (q0 8), .ref (q0 9), .ref (q0 10), .ref (q0 11), .ref (q0 12), .ref (q0 13)])), kQ G (q0 3) 3 (fun i => some (q0 (50 + i))), kI G (q0 6) 1000 (gA o0 6), kJ G (q0 7) 2000 (gB o0 7), kI G (q0 13) 5 (gA o0 13), ((q0 4), .inr (5, [.ref (r1 0), .int (gI o1 1), .int (gI o1 2), .ref (q1 3), .ref (q1 4), .ref (q1 5), .ref (q1 6), .ref (q1 7), .ref (q1 8), .ref (q1 9), .ref (q1 10), .int (gI o1 11), .int (gI o1 12)])), kI G (q1 3) 20 (gA o1 3), kI G (q1 4) 20 (gA o1 4), kI G (q1 5) 5 (gA o1 5), kJ G (q1 6) 5 (gB o1 6), kJ G (q1 7) 5 (gB o1 7), kJ G (q1 8) 6 (gB o1 8), kI G (q1 10) 5 (gA o1 10), ((q1 9), .inr (1, [.int (gI o2 0), .int (gI o2 1), .int (gI o2 2), .int (gI o2 3), .int (gI o2 4), .int (gI o2 5), .int (gI o2 6)])), ((r1 0), .inr (3, [.ref (q3 0), .int (gI o3 1), .int (gI o3 2), .int (gI o3 3), .int (gI o3 4), .int (gI o3 5), .ref (q3 6), .ref (q3 7), .ref (q3 8), .ref (q3 9), .ref (q3 10), .ref (q3 11), .ref (q3 12), .ref (q3 13), .ref (q3 14)])), kI G (q3 0) 5 (gA o3 0), kI G (q3 6) 20 (gA o3 6), kI G (q3 7) 20 (gA o3 7), kI G (q3 8) 20 (gA o3 8), kI G (q3 9) 20 (gA o3 9), kI G (q3 10) 20 (gA o3 10), kI G (q3 11) 20 (gA o3 11), kI G (q3 12) 8 (gA o3 12), kI G (q3 13) 64 (gA o3 13), kI G (q3 14) 64 (gA o3 14), ((q0 9), .inr (4, [.int (gI o4 0), .int (gI o4 1), .int (gI o4 2), .int (gI o4 3), .int (gI o4 4), .int (gI o4 5), .int (gI o4 6), .int (gI o4 7)])), ((q0 10), .inr (6, [.int (gI o5 0), .ref (q5 1), .ref (q5 2)])), kJ G (q5 1) 5 (gB o5 1), kJ G (q5 2) 5 (gB o5 2)] := hD
  unfold f_PV_ticks at h
  suffices key : ∀ (H : Heap) (locs : List Loc), va_P G.1 CL [(h0, .inr (0, [.int (gI o0 0), .ref (q0 1), .ref (q0 2), .ref (q0 3), .ref (q0 4), .ref (q0 5), .ref (q0 6), .ref (q0 7), .ref (q0 8), .ref (q0 9), .ref (q0 10), .ref (q0 11), .ref (q0 12), .ref (q0 13)])), kQ G (q0 3) 3 (fun i => some (q0 (50 + i))), kI G (q0 6) 1000 (gA o0 6), kJ G (q0 7) 2000 (gB o0 7), kI G (q0 13) 5 (gA o0 13), ((q0 4), .inr (5, [.ref (r1 0), .int (gI o1 1), .int (gI o1 2), .ref (q1 3), .ref (q1 4), .ref (q1 5), .ref (q1 6), .ref (q1 7), .ref (q1 8), .ref (q1 9), .ref (q1 10), .int (gI o1 11), .int (gI o1 12)])), kI G (q1 3) 20 (gA o1 3), kI G (q1 4) 20 (gA o1 4), kI G (q1 5) 5 (gA o1 5), kJ G (q1 6) 5 (gB o1 6), kJ G (q1 7) 5 (gB o1 7), kJ G (q1 8) 6 (gB o1 8), kI G (q1 10) 5 (gA o1 10), ((q1 9), .inr (1, [.int (gI o2 0), .int (gI o2 1), .int (gI o2 2), .int (gI o2 3), .int (gI o2 4), .int (gI o2 5), .int (gI o2 6)])), ((r1 0), .inr (3, [.ref (q3 0), .int (gI o3 1), .int (gI o3 2), .int (gI o3 3), .int (gI o3 4), .int (gI o3 5), .ref (q3 6), .ref (q3 7), .ref (q3 8), .ref (q3 9), .ref (q3 10), .ref (q3 11), .ref (q3 12), .ref (q3 13), .ref (q3 14)])), kI G (q3 0) 5 (gA o3 0), kI G (q3 6) 20 (gA o3 6), kI G (q3 7) 20 (gA o3 7), kI G (q3 8) 20 (gA o3 8), kI G (q3 9) 20 (gA o3 9), kI G (q3 10) 20 (gA o3 10), kI G (q3 11) 20 (gA o3 11), kI G (q3 12) 8 (gA o3 12), kI G (q3 13) 64 (gA o3 13), kI G (q3 14) 64 (gA o3 14), ((q0 9), .inr (4, [.int (gI o4 0), .int (gI o4 1), .int (gI o4 2), .int (gI o4 3), .int (gI o4 4), .int (gI o4 5), .int (gI o4 6), .int (gI o4 7)])), ((q0 10), .inr (6, [.int (gI o5 0), .ref (q5 1), .ref (q5 2)])), kJ G (q5 1) 5 (gB o5 1), kJ G (q5 2) 5 (gB o5 2)] H → va_S A s.heap H locs → W p l e rm_PV_ticks s m ([.ref h0, .int a0]).toArray below meth c H locs 0 0 (MQ below (va_Qi (fun (r : Int32) (u : Ob × Ob × Ob × Ob × Ob) => Q r u.1 u.2.1 u.2.2.1 u.2.2.2.1 u.2.2.2.2) (fun (u : Ob × Ob × Ob × Ob × Ob) t => BW G A (cw_PV G h0 q0 u.1 ++ (cw_Mo G (q0 4) q1 r1 u.2.1 ++ (cw_Fo G (q1 9) q2 u.2.2.1 ++ (cw_La G (r1 0) q3 o3 ++ (cw_Le G (q0 9) q4 u.2.2.2.1 ++ (cw_Pi G (q0 10) q5 u.2.2.2.2)))))) t) A) ([.ref h0, .int a0]).toArray s 0 0 A) (F0 m 0 ls []) from key s.heap [] hP hS
  intro H locs hP hS
  refine lv_iload_n hx hb d_PV_ticks_0 rfl (lv_at hl 1 rfl) ?_
  refine lv_iconst (v := (1 : Int32)) hx hb d_PV_ticks_1 (by decide) ?_
  refine lv_icmp_lt (tgt := 26) hx hb d_PV_ticks_2 (by decide) (fun c7 => ?_) (fun c7 => ?_)
  · have h := h.1 c7
    refine lv_iconst (v := (-1 : Int32)) hx hb d_PV_ticks_26 (by decide) ?_
    have hP : va_P G.1 CL (cw_PV G h0 q0 o0 ++ (cw_Mo G (q0 4) q1 r1 o1 ++ (cw_Fo G (q1 9) q2 o2 ++ (cw_La G (r1 0) q3 o3 ++ (cw_Le G (q0 9) q4 o4 ++ (cw_Pi G (q0 10) q5 o5)))))) H := hP
    have hD : va_D A (cw_PV G h0 q0 o0 ++ (cw_Mo G (q0 4) q1 r1 o1 ++ (cw_Fo G (q1 9) q2 o2 ++ (cw_La G (r1 0) q3 o3 ++ (cw_Le G (q0 9) q4 o4 ++ (cw_Pi G (q0 10) q5 o5)))))) := hD
    exact W.iret (v := (-1 : Int32)) hx hb hr (fun t ht hW => ⟨⟨(-1 : Int32), (o0, o1, o2, o4, o5), rfl, h, by rw [ht]; exact hP, va_K.moved hW.alike hK, hD⟩, hS.F ht⟩) hS.2.2 d_PV_ticks_27
  · have h := h.2 c7
    refine lv_iload_n hx hb d_PV_ticks_5 rfl (lv_at hl 1 rfl) ?_
    refine lv_bipush (v := (50 : Int32)) hx hb d_PV_ticks_6 (by decide) ?_
    refine lv_icmp_gt (tgt := 26) hx hb d_PV_ticks_8 (by decide) (fun c8 => ?_) (fun c8 => ?_)
    · have h := h.1 c8
      refine lv_iconst (v := (-1 : Int32)) hx hb d_PV_ticks_26 (by decide) ?_
      have hP : va_P G.1 CL (cw_PV G h0 q0 o0 ++ (cw_Mo G (q0 4) q1 r1 o1 ++ (cw_Fo G (q1 9) q2 o2 ++ (cw_La G (r1 0) q3 o3 ++ (cw_Le G (q0 9) q4 o4 ++ (cw_Pi G (q0 10) q5 o5)))))) H := hP
      have hD : va_D A (cw_PV G h0 q0 o0 ++ (cw_Mo G (q0 4) q1 r1 o1 ++ (cw_Fo G (q1 9) q2 o2 ++ (cw_La G (r1 0) q3 o3 ++ (cw_Le G (q0 9) q4 o4 ++ (cw_Pi G (q0 10) q5 o5)))))) := hD
      exact W.iret (v := (-1 : Int32)) hx hb hr (fun t ht hW => ⟨⟨(-1 : Int32), (o0, o1, o2, o4, o5), rfl, h, by rw [ht]; exact hP, va_K.moved hW.alike hK, hD⟩, hS.F ht⟩) hS.2.2 d_PV_ticks_27
    · have h := h.2 c8
      refine lv_aload_n hx hb d_PV_ticks_11 rfl (lv_at hl 0 rfl) ?_
      refine va_get (D := G.1) (ci := 0) (v := .ref (q0 4)) (C := R_PV) (T := T_PV) (N := 14) hx hb hts i_PV hown hK hP 0 rfl rfl 4 (by decide) (hts _ wf_PV_50) (fun _ h9 => h9) rfl d_PV_ticks_12 ?_
      refine va_get (D := G.1) (ci := 5) (v := .int (gI o1 1)) (C := R_Mo) (T := T_Mo) (N := 13) hx hb hts i_Mo hown hK hP 5 rfl rfl 1 (by decide) (hts _ wf_PV_173) (fun _ h9 => h9) rfl d_PV_ticks_15 ?_
      refine lv_iload_n hx hb d_PV_ticks_18 rfl (lv_at hl 1 rfl) ?_
      refine lv_iadd hx hb d_PV_ticks_19 ?_
      refine lv_sipush (v := (200 : Int32)) hx hb d_PV_ticks_20 (by decide) ?_
      refine lv_icmp_le (tgt := 28) hx hb d_PV_ticks_23 (by decide) (fun c9 => ?_) (fun c9 => ?_)
      · have h := h.1 c9
        refine lv_iconst (v := (0 : Int32)) hx hb d_PV_ticks_28 (by decide) ?_
        refine lv_istore_n (lv' := [(2, .int (0 : Int32)), (0, .ref h0), (1, .int a0)]) hx hb d_PV_ticks_29 rfl hl (by decide) rfl (fun ls hl => ?_)
        have hl := lv_sub (l' := [(0, .ref h0), (1, .int a0), (2, .int (0 : Int32))]) hl [1, 2, 0] rfl
        have hP : va_P G.1 CL (cw_PV G h0 q0 o0 ++ (cw_Mo G (q0 4) q1 r1 o1 ++ (cw_Fo G (q1 9) q2 o2 ++ (cw_La G (r1 0) q3 o3 ++ (cw_Le G (q0 9) q4 o4 ++ (cw_Pi G (q0 10) q5 o5)))))) H := hP
        have hD : va_D A (cw_PV G h0 q0 o0 ++ (cw_Mo G (q0 4) q1 r1 o1 ++ (cw_Fo G (q1 9) q2 o2 ++ (cw_La G (r1 0) q3 o3 ++ (cw_Le G (q0 9) q4 o4 ++ (cw_Pi G (q0 10) q5 o5)))))) := hD
        obtain ⟨w, h⟩ := h
        exact t_PV_ticks_30 r1 o3 Q C w a0 (0 : Int32) o0 o1 o2 o4 o5 ls _ locs hl hP hD hS h
      · have h := h.2 c9
        refine lv_iconst (v := (-1 : Int32)) hx hb d_PV_ticks_26 (by decide) ?_
        have hP : va_P G.1 CL (cw_PV G h0 q0 o0 ++ (cw_Mo G (q0 4) q1 r1 o1 ++ (cw_Fo G (q1 9) q2 o2 ++ (cw_La G (r1 0) q3 o3 ++ (cw_Le G (q0 9) q4 o4 ++ (cw_Pi G (q0 10) q5 o5)))))) H := hP
        have hD : va_D A (cw_PV G h0 q0 o0 ++ (cw_Mo G (q0 4) q1 r1 o1 ++ (cw_Fo G (q1 9) q2 o2 ++ (cw_La G (r1 0) q3 o3 ++ (cw_Le G (q0 9) q4 o4 ++ (cw_Pi G (q0 10) q5 o5)))))) := hD
        exact W.iret (v := (-1 : Int32)) hx hb hr (fun t ht hW => ⟨⟨(-1 : Int32), (o0, o1, o2, o4, o5), rfl, h, by rw [ht]; exact hP, va_K.moved hW.alike hK, hD⟩, hS.F ht⟩) hS.2.2 d_PV_ticks_27
abbrev b_PV_width : ByteArray := prog_1_method_10_code
def y_PV_width : MethodName := ⟨R_PV, "width", "(I)I"⟩
abbrev w_PV_width : List Cond := Cond.code y_PV_width b_PV_width 2 (some .int) :: gw_tbl
theorem d_PV_width_0 : decode b_PV_width 0 = .ok (.aload_n 0, 1) := by decide +kernel
theorem d_PV_width_1 : decode b_PV_width 1 = .ok (.iload_n 1, 1) := by decide +kernel
theorem d_PV_width_2 : decode b_PV_width 2 = .ok (.invokevirtual 145, 3) := by decide +kernel
theorem d_PV_width_5 : decode b_PV_width 5 = .ok (.ifCond .eq 15, 3) := by decide +kernel
theorem d_PV_width_8 : decode b_PV_width 8 = .ok (.aload_n 0, 1) := by decide +kernel
theorem d_PV_width_9 : decode b_PV_width 9 = .ok (.getfield 50, 3) := by decide +kernel
theorem d_PV_width_12 : decode b_PV_width 12 = .ok (.getfield 197, 3) := by decide +kernel
theorem d_PV_width_15 : decode b_PV_width 15 = .ok (.iload_n 1, 1) := by decide +kernel
theorem d_PV_width_16 : decode b_PV_width 16 = .ok (.iaload, 1) := by decide +kernel
theorem d_PV_width_17 : decode b_PV_width 17 = .ok (.goto 4, 3) := by decide +kernel
theorem d_PV_width_20 : decode b_PV_width 20 = .ok (.iconst (-1), 1) := by decide +kernel
theorem d_PV_width_21 : decode b_PV_width 21 = .ok (.ireturn, 1) := by decide +kernel
def f_PV_width (a0 : Int32) (o0 : Ob) (r1 : (Nat → Nat)) (o1 : Ob) (Q : Int32 → Prop) : Prop := f_PV_isPiece a0 o0 (fun z1 => (z1 = 0 → (Q (-1 : Int32))) ∧ (¬ z1 = 0 → ((vp_in a0 5) ∧ (Q ((gA o1 5) a0.toNatClampNeg)))))
abbrev rm_PV_width : Room := { frames := 1, cells := 0, slots := 0, locals := 21 }
set_option maxHeartbeats 4000000 in
set_option maxRecDepth 100000 in
theorem c_PV_width {l : Launch} {G : Gl} {h0 : Nat} {q0 : Nat → Nat} {q1 : Nat → Nat} {a0 : Int32} {o0 : Ob} {r1 : (Nat → Nat)} {o1 : Ob} {Q : Int32 → Prop} (sz : Nat) (h : f_PV_width a0 o0 r1 o1 Q) : Met l y_PV_width w_PV_width rm_PV_width (PcW G [.ref h0, .int a0] sz (cw_PV G h0 q0 o0 ++ (cw_Mo G (q0 4) q1 r1 o1))) (va_Qi (fun (r : Int32) (u : Unit) => Q r) (fun (u : Unit) t => BW G (va_A (cw_PV G h0 q0 o0 ++ (cw_Mo G (q0 4) q1 r1 o1)) sz) (cw_PV G h0 q0 o0 ++ (cw_Mo G (q0 4) q1 r1 o1)) t) (va_A (cw_PV G h0 q0 o0 ++ (cw_Mo G (q0 4) q1 r1 o1)) sz)) 0 0 (va_A (cw_PV G h0 q0 o0 ++ (cw_Mo G (q0 4) q1 r1 o1)) sz) := by
  refine Met.ofW (cc := b_PV_width) (maxL := 2) (ret := (some .int)) (by decide +kernel) rfl ?_
  intro p e s m args below meth c s₁ B hml hv
  obtain ⟨rfl, hsz, hP, hK, hD0, hE⟩ := hv
  have hx := B.exec
  have hb := B.bytes
  have hr := B.returns
  have hts0 := atoms_spec (ws := w_PV_width) B.pre
  have hts : ∀ w ∈ gw_tbl, w.before ([.ref h0, .int a0]).toArray s = true := fun w hw => hts0 w (List.mem_cons_of_mem _ hw)
  have hown : s.vm.findClass R_PV = some m.cls := findClass_of_methodNamed B.named
  have hlocks := B.notSynchronized
  subst hsz
  have hD := hD0.self (sz := s.heap.size)
  generalize hAe : va_A (cw_PV G h0 q0 o0 ++ (cw_Mo G (q0 4) q1 r1 o1)) s.heap.size = A at hD hE ⊢
  have hA : ∀ q : Nat, s.heap.size ≤ q → A q := fun q h => by rw [← hAe]; exact Or.inr h
  have hS : va_S A s.heap s.heap [] := va_S.rf
  have C : Cx p s m ([.ref h0, .int a0]).toArray meth c R_PV b_PV_width 2 (some .int) G A := ⟨hx, hb, hml, hown, hr, hts, hK, hA, hlocks, hE⟩
  have hl := lv_entry ([.ref h0, .int a0]) (n := 2) (Nat.le_of_ble_eq_true rfl)
  rw [lg_entry_eq]
  generalize (lg_sl ([.ref h0, .int a0]) ++ List.replicate (2 - (lg_sl ([.ref h0, .int a0])).length) Slot.unset).toArray = ls at hl ⊢
  have hl : lv_has ls 2 [(0, .ref h0), (1, .int a0)] := hl
  have hD : va_D A [(h0, .inr (0, [.int (gI o0 0), .ref (q0 1), .ref (q0 2), .ref (q0 3), .ref (q0 4), .ref (q0 5), .ref (q0 6), .ref (q0 7), .ref (q0 8), .ref (q0 9), .ref (q0 10), .ref (q0 11), .ref (q0 12), .ref (q0 13)])), kQ G (q0 3) 3 (fun i => some (q0 (50 + i))), kI G (q0 6) 1000 (gA o0 6), kJ G (q0 7) 2000 (gB o0 7), kI G (q0 13) 5 (gA o0 13), ((q0 4), .inr (5, [.ref (r1 0), .int (gI o1 1), .int (gI o1 2), .ref (q1 3), .ref (q1 4), .ref (q1 5), .ref (q1 6), .ref (q1 7), .ref (q1 8), .ref (q1 9), .ref (q1 10), .int (gI o1 11), .int (gI o1 12)])), kI G (q1 3) 20 (gA o1 3), kI G (q1 4) 20 (gA o1 4), kI G (q1 5) 5 (gA o1 5), kJ G (q1 6) 5 (gB o1 6), kJ G (q1 7) 5 (gB o1 7), kJ G (q1 8) 6 (gB o1 8), kI G (q1 10) 5 (gA o1 10)] := hD
  unfold f_PV_width at h
  suffices key : ∀ (H : Heap) (locs : List Loc), va_P G.1 CL [(h0, .inr (0, [.int (gI o0 0), .ref (q0 1), .ref (q0 2), .ref (q0 3), .ref (q0 4), .ref (q0 5), .ref (q0 6), .ref (q0 7), .ref (q0 8), .ref (q0 9), .ref (q0 10), .ref (q0 11), .ref (q0 12), .ref (q0 13)])), kQ G (q0 3) 3 (fun i => some (q0 (50 + i))), kI G (q0 6) 1000 (gA o0 6), kJ G (q0 7) 2000 (gB o0 7), kI G (q0 13) 5 (gA o0 13), ((q0 4), .inr (5, [.ref (r1 0), .int (gI o1 1), .int (gI o1 2), .ref (q1 3), .ref (q1 4), .ref (q1 5), .ref (q1 6), .ref (q1 7), .ref (q1 8), .ref (q1 9), .ref (q1 10), .int (gI o1 11), .int (gI o1 12)])), kI G (q1 3) 20 (gA o1 3), kI G (q1 4) 20 (gA o1 4), kI G (q1 5) 5 (gA o1 5), kJ G (q1 6) 5 (gB o1 6), kJ G (q1 7) 5 (gB o1 7), kJ G (q1 8) 6 (gB o1 8), kI G (q1 10) 5 (gA o1 10)] H → va_S A s.heap H locs → W p l e rm_PV_width s m ([.ref h0, .int a0]).toArray below meth c H locs 0 0 (MQ below (va_Qi (fun (r : Int32) (u : Unit) => Q r) (fun (u : Unit) t => BW G A (cw_PV G h0 q0 o0 ++ (cw_Mo G (q0 4) q1 r1 o1)) t) A) ([.ref h0, .int a0]).toArray s 0 0 A) (F0 m 0 ls []) from key s.heap [] hP hS
  intro H locs hP hS
  refine lv_aload_n hx hb d_PV_width_0 rfl (lv_at hl 0 rfl) ?_
  refine lv_iload_n hx hb d_PV_width_1 rfl (lv_at hl 1 rfl) ?_
  refine cl_Vi (b := b_PV_width) (As := [.int a0]) (rest := []) (ws := [(h0, .inr (0, [.int (gI o0 0), .ref (q0 1), .ref (q0 2), .ref (q0 3), .ref (q0 4), .ref (q0 5), .ref (q0 6), .ref (q0 7), .ref (q0 8), .ref (q0 9), .ref (q0 10), .ref (q0 11), .ref (q0 12), .ref (q0 13)])), kQ G (q0 3) 3 (fun i => some (q0 (50 + i))), kI G (q0 6) 1000 (gA o0 6), kJ G (q0 7) 2000 (gB o0 7), kI G (q0 13) 5 (gA o0 13), ((q0 4), .inr (5, [.ref (r1 0), .int (gI o1 1), .int (gI o1 2), .ref (q1 3), .ref (q1 4), .ref (q1 5), .ref (q1 6), .ref (q1 7), .ref (q1 8), .ref (q1 9), .ref (q1 10), .int (gI o1 11), .int (gI o1 12)])), kI G (q1 3) 20 (gA o1 3), kI G (q1 4) 20 (gA o1 4), kI G (q1 5) 5 (gA o1 5), kJ G (q1 6) 5 (gB o1 6), kJ G (q1 7) 5 (gB o1 7), kJ G (q1 8) 6 (gB o1 8), kI G (q1 10) 5 (gA o1 10)]) (wr := [((q0 4), .inr (5, [.ref (r1 0), .int (gI o1 1), .int (gI o1 2), .ref (q1 3), .ref (q1 4), .ref (q1 5), .ref (q1 6), .ref (q1 7), .ref (q1 8), .ref (q1 9), .ref (q1 10), .int (gI o1 11), .int (gI o1 12)])), kI G (q1 3) 20 (gA o1 3), kI G (q1 4) 20 (gA o1 4), kI G (q1 5) 5 (gA o1 5), kJ G (q1 6) 5 (gB o1 6), kJ G (q1 7) 5 (gB o1 7), kJ G (q1 8) 6 (gB o1 8), kI G (q1 10) 5 (gA o1 10)]) (w2 := fun (u : Unit) => [(h0, .inr (0, [.int (gI o0 0), .ref (q0 1), .ref (q0 2), .ref (q0 3), .ref (q0 4), .ref (q0 5), .ref (q0 6), .ref (q0 7), .ref (q0 8), .ref (q0 9), .ref (q0 10), .ref (q0 11), .ref (q0 12), .ref (q0 13)])), kQ G (q0 3) 3 (fun i => some (q0 (50 + i))), kI G (q0 6) 1000 (gA o0 6), kJ G (q0 7) 2000 (gB o0 7), kI G (q0 13) 5 (gA o0 13), ((q0 4), .inr (5, [.ref (r1 0), .int (gI o1 1), .int (gI o1 2), .ref (q1 3), .ref (q1 4), .ref (q1 5), .ref (q1 6), .ref (q1 7), .ref (q1 8), .ref (q1 9), .ref (q1 10), .int (gI o1 11), .int (gI o1 12)])), kI G (q1 3) 20 (gA o1 3), kI G (q1 4) 20 (gA o1 4), kI G (q1 5) 5 (gA o1 5), kJ G (q1 6) 5 (gB o1 6), kJ G (q1 7) 5 (gB o1 7), kJ G (q1 8) 6 (gB o1 8), kI G (q1 10) 5 (gA o1 10)]) C (c_PV_isPiece (h0 := h0) (q0 := q0) H.size h) wv_PV_145 ⟨Nat.le_of_ble_eq_true rfl, Nat.le_of_ble_eq_true rfl⟩ hP hD hS 0 rfl rfl [0, 1, 2, 3, 4] [5, 6, 7, 8, 9, 10, 11, 12] rfl rfl (by decide) (by decide) (by decide) [8, 9, 10, 11, 12, 0, 1, 2, 3, 4, 5, 6, 7] (by decide) (fun u => rfl) rfl hl.1 rfl (lv_room (Nat.le_of_ble_eq_true rfl)) d_PV_width_2 ⟨Nat.le_of_ble_eq_true rfl, Nat.le_of_ble_eq_true rfl⟩ rfl rfl (fun z1 u H locs h hP hD hS => ?_)
  have hP : va_P G.1 CL [(h0, .inr (0, [.int (gI o0 0), .ref (q0 1), .ref (q0 2), .ref (q0 3), .ref (q0 4), .ref (q0 5), .ref (q0 6), .ref (q0 7), .ref (q0 8), .ref (q0 9), .ref (q0 10), .ref (q0 11), .ref (q0 12), .ref (q0 13)])), kQ G (q0 3) 3 (fun i => some (q0 (50 + i))), kI G (q0 6) 1000 (gA o0 6), kJ G (q0 7) 2000 (gB o0 7), kI G (q0 13) 5 (gA o0 13), ((q0 4), .inr (5, [.ref (r1 0), .int (gI o1 1), .int (gI o1 2), .ref (q1 3), .ref (q1 4), .ref (q1 5), .ref (q1 6), .ref (q1 7), .ref (q1 8), .ref (q1 9), .ref (q1 10), .int (gI o1 11), .int (gI o1 12)])), kI G (q1 3) 20 (gA o1 3), kI G (q1 4) 20 (gA o1 4), kI G (q1 5) 5 (gA o1 5), kJ G (q1 6) 5 (gB o1 6), kJ G (q1 7) 5 (gB o1 7), kJ G (q1 8) 6 (gB o1 8), kI G (q1 10) 5 (gA o1 10)] H := hP
  have hD : va_D A [(h0, .inr (0, [.int (gI o0 0), .ref (q0 1), .ref (q0 2), .ref (q0 3), .ref (q0 4), .ref (q0 5), .ref (q0 6), .ref (q0 7), .ref (q0 8), .ref (q0 9), .ref (q0 10), .ref (q0 11), .ref (q0 12), .ref (q0 13)])), kQ G (q0 3) 3 (fun i => some (q0 (50 + i))), kI G (q0 6) 1000 (gA o0 6), kJ G (q0 7) 2000 (gB o0 7), kI G (q0 13) 5 (gA o0 13), ((q0 4), .inr (5, [.ref (r1 0), .int (gI o1 1), .int (gI o1 2), .ref (q1 3), .ref (q1 4), .ref (q1 5), .ref (q1 6), .ref (q1 7), .ref (q1 8), .ref (q1 9), .ref (q1 10), .int (gI o1 11), .int (gI o1 12)])), kI G (q1 3) 20 (gA o1 3), kI G (q1 4) 20 (gA o1 4), kI G (q1 5) 5 (gA o1 5), kJ G (q1 6) 5 (gB o1 6), kJ G (q1 7) 5 (gB o1 7), kJ G (q1 8) 6 (gB o1 8), kI G (q1 10) 5 (gA o1 10)] := hD
  refine lv_if_eq (tgt := 20) hx hb d_PV_width_5 (by decide) (fun c2 => ?_) (fun c2 => ?_)
  · have h := h.1 c2
    refine lv_iconst (v := (-1 : Int32)) hx hb d_PV_width_20 (by decide) ?_
    have hP : va_P G.1 CL (cw_PV G h0 q0 o0 ++ (cw_Mo G (q0 4) q1 r1 o1)) H := hP
    have hD : va_D A (cw_PV G h0 q0 o0 ++ (cw_Mo G (q0 4) q1 r1 o1)) := hD
    exact W.iret (v := (-1 : Int32)) hx hb hr (fun t ht hW => ⟨⟨(-1 : Int32), (), rfl, h, by rw [ht]; exact hP, va_K.moved hW.alike hK, hD⟩, hS.F ht⟩) hS.2.2 d_PV_width_21
  · have h := h.2 c2
    refine lv_aload_n hx hb d_PV_width_8 rfl (lv_at hl 0 rfl) ?_
    refine va_get (D := G.1) (ci := 0) (v := .ref (q0 4)) (C := R_PV) (T := T_PV) (N := 14) hx hb hts i_PV hown hK hP 0 rfl rfl 4 (by decide) (hts _ wf_PV_50) (fun _ h9 => h9) rfl d_PV_width_9 ?_
    refine va_get (D := G.1) (ci := 5) (v := .ref (q1 5)) (C := R_Mo) (T := T_Mo) (N := 13) hx hb hts i_Mo hown hK hP 5 rfl rfl 5 (by decide) (hts _ wf_PV_197) (fun _ h9 => h9) rfl d_PV_width_12 ?_
    refine lv_iload_n hx hb d_PV_width_15 rfl (lv_at hl 1 rfl) ?_
    have g3 := h.1
    have h := h.2
    refine xa_iald hx hb hK hP 8 0 rfl rfl g3 (k := a0.toNatClampNeg) rfl d_PV_width_16 ?_
    refine lv_goto (tgt := 21) hx hb d_PV_width_17 (by decide) ?_
    have hP : va_P G.1 CL (cw_PV G h0 q0 o0 ++ (cw_Mo G (q0 4) q1 r1 o1)) H := hP
    have hD : va_D A (cw_PV G h0 q0 o0 ++ (cw_Mo G (q0 4) q1 r1 o1)) := hD
    exact W.iret (v := ((gA o1 5) a0.toNatClampNeg)) hx hb hr (fun t ht hW => ⟨⟨((gA o1 5) a0.toNatClampNeg), (), rfl, h, by rw [ht]; exact hP, va_K.moved hW.alike hK, hD⟩, hS.F ht⟩) hS.2.2 d_PV_width_21
abbrev b_PV_led : ByteArray := prog_1_method_11_code
def y_PV_led : MethodName := ⟨R_PV, "led", "(III)I"⟩
abbrev w_PV_led : List Cond := Cond.code y_PV_led b_PV_led 4 (some .int) :: gw_tbl
theorem d_PV_led_0 : decode b_PV_led 0 = .ok (.iload_n 1, 1) := by decide +kernel
theorem d_PV_led_1 : decode b_PV_led 1 = .ok (.ifCond .lt 31, 3) := by decide +kernel
theorem d_PV_led_4 : decode b_PV_led 4 = .ok (.iload_n 1, 1) := by decide +kernel
theorem d_PV_led_5 : decode b_PV_led 5 = .ok (.aload_n 0, 1) := by decide +kernel
theorem d_PV_led_6 : decode b_PV_led 6 = .ok (.getfield 50, 3) := by decide +kernel
theorem d_PV_led_9 : decode b_PV_led 9 = .ok (.getfield 173, 3) := by decide +kernel
theorem d_PV_led_12 : decode b_PV_led 12 = .ok (.if_icmp .ge 20, 3) := by decide +kernel
theorem d_PV_led_15 : decode b_PV_led 15 = .ok (.aload_n 0, 1) := by decide +kernel
theorem d_PV_led_16 : decode b_PV_led 16 = .ok (.iload_n 2, 1) := by decide +kernel
theorem d_PV_led_17 : decode b_PV_led 17 = .ok (.invokevirtual 145, 3) := by decide +kernel
theorem d_PV_led_20 : decode b_PV_led 20 = .ok (.ifCond .eq 12, 3) := by decide +kernel
theorem d_PV_led_23 : decode b_PV_led 23 = .ok (.iload_n 3, 1) := by decide +kernel
theorem d_PV_led_24 : decode b_PV_led 24 = .ok (.ifCond .lt 8, 3) := by decide +kernel
theorem d_PV_led_27 : decode b_PV_led 27 = .ok (.iload_n 3, 1) := by decide +kernel
theorem d_PV_led_28 : decode b_PV_led 28 = .ok (.iconst 4, 1) := by decide +kernel
theorem d_PV_led_29 : decode b_PV_led 29 = .ok (.if_icmp .le 5, 3) := by decide +kernel
theorem d_PV_led_32 : decode b_PV_led 32 = .ok (.iconst (-1), 1) := by decide +kernel
theorem d_PV_led_33 : decode b_PV_led 33 = .ok (.ireturn, 1) := by decide +kernel
theorem d_PV_led_34 : decode b_PV_led 34 = .ok (.aload_n 0, 1) := by decide +kernel
theorem d_PV_led_35 : decode b_PV_led 35 = .ok (.getfield 57, 3) := by decide +kernel
theorem d_PV_led_38 : decode b_PV_led 38 = .ok (.iload_n 1, 1) := by decide +kernel
theorem d_PV_led_39 : decode b_PV_led 39 = .ok (.iconst 5, 1) := by decide +kernel
theorem d_PV_led_40 : decode b_PV_led 40 = .ok (.imul, 1) := by decide +kernel
theorem d_PV_led_41 : decode b_PV_led 41 = .ok (.iload_n 2, 1) := by decide +kernel
theorem d_PV_led_42 : decode b_PV_led 42 = .ok (.iadd, 1) := by decide +kernel
theorem d_PV_led_43 : decode b_PV_led 43 = .ok (.iaload, 1) := by decide +kernel
theorem d_PV_led_44 : decode b_PV_led 44 = .ok (.iload_n 3, 1) := by decide +kernel
theorem d_PV_led_45 : decode b_PV_led 45 = .ok (.invokestatic 200, 3) := by decide +kernel
theorem d_PV_led_48 : decode b_PV_led 48 = .ok (.ireturn, 1) := by decide +kernel
theorem ws_PV_200 : wS R_PV 200 y_Le_unpacked b_Le_unpacked 2 (some .int) 2 := ⟨⟨gw_tb (List.mem_of_getElem? (i := 734) (by decide +kernel)) rfl, gw_tb (List.mem_of_getElem? (i := 9) (by decide +kernel)) rfl, gw_tb (List.mem_of_getElem? (i := 736) (by decide +kernel)) rfl, by decide, by decide, by decide +kernel⟩, gw_tb (List.mem_of_getElem? (i := 735) (by decide +kernel)) rfl⟩
def f_PV_led (a0 : Int32) (a1 : Int32) (a2 : Int32) (o0 : Ob) (r1 : (Nat → Nat)) (o1 : Ob) (Q : Int32 → Prop) : Prop := (a0 < 0 → (Q (-1 : Int32))) ∧ (¬ a0 < 0 → (((gI o1 1) ≤ a0 → (Q (-1 : Int32))) ∧ (¬ (gI o1 1) ≤ a0 → (f_PV_isPiece a1 o0 (fun z3 => (z3 = 0 → (Q (-1 : Int32))) ∧ (¬ z3 = 0 → ((a2 < 0 → (Q (-1 : Int32))) ∧ (¬ a2 < 0 → ((a2 ≤ (4 : Int32) → ((vp_in ((a0 * (5 : Int32)) + a1) 1000) ∧ (∀ y8 : Int32, y8 = ((gA o0 6) (((a0 * (5 : Int32)) + a1).toNatClampNeg)) → (f_Le_unpacked y8 a2 (fun z9 => Q z9))))) ∧ (¬ a2 ≤ (4 : Int32) → (Q (-1 : Int32))))))))))))
abbrev rm_PV_led : Room := { frames := 1, cells := 0, slots := 0, locals := 21 }
set_option maxHeartbeats 4000000 in
set_option maxRecDepth 100000 in
theorem c_PV_led {l : Launch} {G : Gl} {h0 : Nat} {q0 : Nat → Nat} {q1 : Nat → Nat} {a0 : Int32} {a1 : Int32} {a2 : Int32} {o0 : Ob} {r1 : (Nat → Nat)} {o1 : Ob} {Q : Int32 → Prop} (sz : Nat) (h : f_PV_led a0 a1 a2 o0 r1 o1 Q) : Met l y_PV_led w_PV_led rm_PV_led (PcW G [.ref h0, .int a0, .int a1, .int a2] sz (cw_PV G h0 q0 o0 ++ (cw_Mo G (q0 4) q1 r1 o1))) (va_Qi (fun (r : Int32) (u : Unit) => Q r) (fun (u : Unit) t => BW G (va_A (cw_PV G h0 q0 o0 ++ (cw_Mo G (q0 4) q1 r1 o1)) sz) (cw_PV G h0 q0 o0 ++ (cw_Mo G (q0 4) q1 r1 o1)) t) (va_A (cw_PV G h0 q0 o0 ++ (cw_Mo G (q0 4) q1 r1 o1)) sz)) 0 0 (va_A (cw_PV G h0 q0 o0 ++ (cw_Mo G (q0 4) q1 r1 o1)) sz) := by
  refine Met.ofW (cc := b_PV_led) (maxL := 4) (ret := (some .int)) (by decide +kernel) rfl ?_
  intro p e s m args below meth c s₁ B hml hv
  obtain ⟨rfl, hsz, hP, hK, hD0, hE⟩ := hv
  have hx := B.exec
  have hb := B.bytes
  have hr := B.returns
  have hts0 := atoms_spec (ws := w_PV_led) B.pre
  have hts : ∀ w ∈ gw_tbl, w.before ([.ref h0, .int a0, .int a1, .int a2]).toArray s = true := fun w hw => hts0 w (List.mem_cons_of_mem _ hw)
  have hown : s.vm.findClass R_PV = some m.cls := findClass_of_methodNamed B.named
  have hlocks := B.notSynchronized
  subst hsz
  have hD := hD0.self (sz := s.heap.size)
  generalize hAe : va_A (cw_PV G h0 q0 o0 ++ (cw_Mo G (q0 4) q1 r1 o1)) s.heap.size = A at hD hE ⊢
  have hA : ∀ q : Nat, s.heap.size ≤ q → A q := fun q h => by rw [← hAe]; exact Or.inr h
  have hS : va_S A s.heap s.heap [] := va_S.rf
  have C : Cx p s m ([.ref h0, .int a0, .int a1, .int a2]).toArray meth c R_PV b_PV_led 4 (some .int) G A := ⟨hx, hb, hml, hown, hr, hts, hK, hA, hlocks, hE⟩
  have hl := lv_entry ([.ref h0, .int a0, .int a1, .int a2]) (n := 4) (Nat.le_of_ble_eq_true rfl)
  rw [lg_entry_eq]
  generalize (lg_sl ([.ref h0, .int a0, .int a1, .int a2]) ++ List.replicate (4 - (lg_sl ([.ref h0, .int a0, .int a1, .int a2])).length) Slot.unset).toArray = ls at hl ⊢
  have hl : lv_has ls 4 [(0, .ref h0), (1, .int a0), (2, .int a1), (3, .int a2)] := hl
  have hD : va_D A [(h0, .inr (0, [.int (gI o0 0), .ref (q0 1), .ref (q0 2), .ref (q0 3), .ref (q0 4), .ref (q0 5), .ref (q0 6), .ref (q0 7), .ref (q0 8), .ref (q0 9), .ref (q0 10), .ref (q0 11), .ref (q0 12), .ref (q0 13)])), kQ G (q0 3) 3 (fun i => some (q0 (50 + i))), kI G (q0 6) 1000 (gA o0 6), kJ G (q0 7) 2000 (gB o0 7), kI G (q0 13) 5 (gA o0 13), ((q0 4), .inr (5, [.ref (r1 0), .int (gI o1 1), .int (gI o1 2), .ref (q1 3), .ref (q1 4), .ref (q1 5), .ref (q1 6), .ref (q1 7), .ref (q1 8), .ref (q1 9), .ref (q1 10), .int (gI o1 11), .int (gI o1 12)])), kI G (q1 3) 20 (gA o1 3), kI G (q1 4) 20 (gA o1 4), kI G (q1 5) 5 (gA o1 5), kJ G (q1 6) 5 (gB o1 6), kJ G (q1 7) 5 (gB o1 7), kJ G (q1 8) 6 (gB o1 8), kI G (q1 10) 5 (gA o1 10)] := hD
  unfold f_PV_led at h
  suffices key : ∀ (H : Heap) (locs : List Loc), va_P G.1 CL [(h0, .inr (0, [.int (gI o0 0), .ref (q0 1), .ref (q0 2), .ref (q0 3), .ref (q0 4), .ref (q0 5), .ref (q0 6), .ref (q0 7), .ref (q0 8), .ref (q0 9), .ref (q0 10), .ref (q0 11), .ref (q0 12), .ref (q0 13)])), kQ G (q0 3) 3 (fun i => some (q0 (50 + i))), kI G (q0 6) 1000 (gA o0 6), kJ G (q0 7) 2000 (gB o0 7), kI G (q0 13) 5 (gA o0 13), ((q0 4), .inr (5, [.ref (r1 0), .int (gI o1 1), .int (gI o1 2), .ref (q1 3), .ref (q1 4), .ref (q1 5), .ref (q1 6), .ref (q1 7), .ref (q1 8), .ref (q1 9), .ref (q1 10), .int (gI o1 11), .int (gI o1 12)])), kI G (q1 3) 20 (gA o1 3), kI G (q1 4) 20 (gA o1 4), kI G (q1 5) 5 (gA o1 5), kJ G (q1 6) 5 (gB o1 6), kJ G (q1 7) 5 (gB o1 7), kJ G (q1 8) 6 (gB o1 8), kI G (q1 10) 5 (gA o1 10)] H → va_S A s.heap H locs → W p l e rm_PV_led s m ([.ref h0, .int a0, .int a1, .int a2]).toArray below meth c H locs 0 0 (MQ below (va_Qi (fun (r : Int32) (u : Unit) => Q r) (fun (u : Unit) t => BW G A (cw_PV G h0 q0 o0 ++ (cw_Mo G (q0 4) q1 r1 o1)) t) A) ([.ref h0, .int a0, .int a1, .int a2]).toArray s 0 0 A) (F0 m 0 ls []) from key s.heap [] hP hS
  intro H locs hP hS
  refine lv_iload_n hx hb d_PV_led_0 rfl (lv_at hl 1 rfl) ?_
  refine lv_if_lt (tgt := 32) hx hb d_PV_led_1 (by decide) (fun c1 => ?_) (fun c1 => ?_)
  · have h := h.1 c1
    refine lv_iconst (v := (-1 : Int32)) hx hb d_PV_led_32 (by decide) ?_
    have hP : va_P G.1 CL (cw_PV G h0 q0 o0 ++ (cw_Mo G (q0 4) q1 r1 o1)) H := hP
    have hD : va_D A (cw_PV G h0 q0 o0 ++ (cw_Mo G (q0 4) q1 r1 o1)) := hD
    exact W.iret (v := (-1 : Int32)) hx hb hr (fun t ht hW => ⟨⟨(-1 : Int32), (), rfl, h, by rw [ht]; exact hP, va_K.moved hW.alike hK, hD⟩, hS.F ht⟩) hS.2.2 d_PV_led_33
  · have h := h.2 c1
    refine lv_iload_n hx hb d_PV_led_4 rfl (lv_at hl 1 rfl) ?_
    refine lv_aload_n hx hb d_PV_led_5 rfl (lv_at hl 0 rfl) ?_
    refine va_get (D := G.1) (ci := 0) (v := .ref (q0 4)) (C := R_PV) (T := T_PV) (N := 14) hx hb hts i_PV hown hK hP 0 rfl rfl 4 (by decide) (hts _ wf_PV_50) (fun _ h9 => h9) rfl d_PV_led_6 ?_
    refine va_get (D := G.1) (ci := 5) (v := .int (gI o1 1)) (C := R_Mo) (T := T_Mo) (N := 13) hx hb hts i_Mo hown hK hP 5 rfl rfl 1 (by decide) (hts _ wf_PV_173) (fun _ h9 => h9) rfl d_PV_led_9 ?_
    refine lv_icmp_ge (tgt := 32) hx hb d_PV_led_12 (by decide) (fun c2 => ?_) (fun c2 => ?_)
    · have h := h.1 c2
      refine lv_iconst (v := (-1 : Int32)) hx hb d_PV_led_32 (by decide) ?_
      have hP : va_P G.1 CL (cw_PV G h0 q0 o0 ++ (cw_Mo G (q0 4) q1 r1 o1)) H := hP
      have hD : va_D A (cw_PV G h0 q0 o0 ++ (cw_Mo G (q0 4) q1 r1 o1)) := hD
      exact W.iret (v := (-1 : Int32)) hx hb hr (fun t ht hW => ⟨⟨(-1 : Int32), (), rfl, h, by rw [ht]; exact hP, va_K.moved hW.alike hK, hD⟩, hS.F ht⟩) hS.2.2 d_PV_led_33
    · have h := h.2 c2
      refine lv_aload_n hx hb d_PV_led_15 rfl (lv_at hl 0 rfl) ?_
      refine lv_iload_n hx hb d_PV_led_16 rfl (lv_at hl 2 rfl) ?_
      refine cl_Vi (b := b_PV_led) (As := [.int a1]) (rest := []) (ws := [(h0, .inr (0, [.int (gI o0 0), .ref (q0 1), .ref (q0 2), .ref (q0 3), .ref (q0 4), .ref (q0 5), .ref (q0 6), .ref (q0 7), .ref (q0 8), .ref (q0 9), .ref (q0 10), .ref (q0 11), .ref (q0 12), .ref (q0 13)])), kQ G (q0 3) 3 (fun i => some (q0 (50 + i))), kI G (q0 6) 1000 (gA o0 6), kJ G (q0 7) 2000 (gB o0 7), kI G (q0 13) 5 (gA o0 13), ((q0 4), .inr (5, [.ref (r1 0), .int (gI o1 1), .int (gI o1 2), .ref (q1 3), .ref (q1 4), .ref (q1 5), .ref (q1 6), .ref (q1 7), .ref (q1 8), .ref (q1 9), .ref (q1 10), .int (gI o1 11), .int (gI o1 12)])), kI G (q1 3) 20 (gA o1 3), kI G (q1 4) 20 (gA o1 4), kI G (q1 5) 5 (gA o1 5), kJ G (q1 6) 5 (gB o1 6), kJ G (q1 7) 5 (gB o1 7), kJ G (q1 8) 6 (gB o1 8), kI G (q1 10) 5 (gA o1 10)]) (wr := [((q0 4), .inr (5, [.ref (r1 0), .int (gI o1 1), .int (gI o1 2), .ref (q1 3), .ref (q1 4), .ref (q1 5), .ref (q1 6), .ref (q1 7), .ref (q1 8), .ref (q1 9), .ref (q1 10), .int (gI o1 11), .int (gI o1 12)])), kI G (q1 3) 20 (gA o1 3), kI G (q1 4) 20 (gA o1 4), kI G (q1 5) 5 (gA o1 5), kJ G (q1 6) 5 (gB o1 6), kJ G (q1 7) 5 (gB o1 7), kJ G (q1 8) 6 (gB o1 8), kI G (q1 10) 5 (gA o1 10)]) (w2 := fun (u : Unit) => [(h0, .inr (0, [.int (gI o0 0), .ref (q0 1), .ref (q0 2), .ref (q0 3), .ref (q0 4), .ref (q0 5), .ref (q0 6), .ref (q0 7), .ref (q0 8), .ref (q0 9), .ref (q0 10), .ref (q0 11), .ref (q0 12), .ref (q0 13)])), kQ G (q0 3) 3 (fun i => some (q0 (50 + i))), kI G (q0 6) 1000 (gA o0 6), kJ G (q0 7) 2000 (gB o0 7), kI G (q0 13) 5 (gA o0 13), ((q0 4), .inr (5, [.ref (r1 0), .int (gI o1 1), .int (gI o1 2), .ref (q1 3), .ref (q1 4), .ref (q1 5), .ref (q1 6), .ref (q1 7), .ref (q1 8), .ref (q1 9), .ref (q1 10), .int (gI o1 11), .int (gI o1 12)])), kI G (q1 3) 20 (gA o1 3), kI G (q1 4) 20 (gA o1 4), kI G (q1 5) 5 (gA o1 5), kJ G (q1 6) 5 (gB o1 6), kJ G (q1 7) 5 (gB o1 7), kJ G (q1 8) 6 (gB o1 8), kI G (q1 10) 5 (gA o1 10)]) C (c_PV_isPiece (h0 := h0) (q0 := q0) H.size h) wv_PV_145 ⟨Nat.le_of_ble_eq_true rfl, Nat.le_of_ble_eq_true rfl⟩ hP hD hS 0 rfl rfl [0, 1, 2, 3, 4] [5, 6, 7, 8, 9, 10, 11, 12] rfl rfl (by decide) (by decide) (by decide) [8, 9, 10, 11, 12, 0, 1, 2, 3, 4, 5, 6, 7] (by decide) (fun u => rfl) rfl hl.1 rfl (lv_room (Nat.le_of_ble_eq_true rfl)) d_PV_led_17 ⟨Nat.le_of_ble_eq_true rfl, Nat.le_of_ble_eq_true rfl⟩ rfl rfl (fun z3 u H locs h hP hD hS => ?_)
      have hP : va_P G.1 CL [(h0, .inr (0, [.int (gI o0 0), .ref (q0 1), .ref (q0 2), .ref (q0 3), .ref (q0 4), .ref (q0 5), .ref (q0 6), .ref (q0 7), .ref (q0 8), .ref (q0 9), .ref (q0 10), .ref (q0 11), .ref (q0 12), .ref (q0 13)])), kQ G (q0 3) 3 (fun i => some (q0 (50 + i))), kI G (q0 6) 1000 (gA o0 6), kJ G (q0 7) 2000 (gB o0 7), kI G (q0 13) 5 (gA o0 13), ((q0 4), .inr (5, [.ref (r1 0), .int (gI o1 1), .int (gI o1 2), .ref (q1 3), .ref (q1 4), .ref (q1 5), .ref (q1 6), .ref (q1 7), .ref (q1 8), .ref (q1 9), .ref (q1 10), .int (gI o1 11), .int (gI o1 12)])), kI G (q1 3) 20 (gA o1 3), kI G (q1 4) 20 (gA o1 4), kI G (q1 5) 5 (gA o1 5), kJ G (q1 6) 5 (gB o1 6), kJ G (q1 7) 5 (gB o1 7), kJ G (q1 8) 6 (gB o1 8), kI G (q1 10) 5 (gA o1 10)] H := hP
      have hD : va_D A [(h0, .inr (0, [.int (gI o0 0), .ref (q0 1), .ref (q0 2), .ref (q0 3), .ref (q0 4), .ref (q0 5), .ref (q0 6), .ref (q0 7), .ref (q0 8), .ref (q0 9), .ref (q0 10), .ref (q0 11), .ref (q0 12), .ref (q0 13)])), kQ G (q0 3) 3 (fun i => some (q0 (50 + i))), kI G (q0 6) 1000 (gA o0 6), kJ G (q0 7) 2000 (gB o0 7), kI G (q0 13) 5 (gA o0 13), ((q0 4), .inr (5, [.ref (r1 0), .int (gI o1 1), .int (gI o1 2), .ref (q1 3), .ref (q1 4), .ref (q1 5), .ref (q1 6), .ref (q1 7), .ref (q1 8), .ref (q1 9), .ref (q1 10), .int (gI o1 11), .int (gI o1 12)])), kI G (q1 3) 20 (gA o1 3), kI G (q1 4) 20 (gA o1 4), kI G (q1 5) 5 (gA o1 5), kJ G (q1 6) 5 (gB o1 6), kJ G (q1 7) 5 (gB o1 7), kJ G (q1 8) 6 (gB o1 8), kI G (q1 10) 5 (gA o1 10)] := hD
      refine lv_if_eq (tgt := 32) hx hb d_PV_led_20 (by decide) (fun c4 => ?_) (fun c4 => ?_)
      · have h := h.1 c4
        refine lv_iconst (v := (-1 : Int32)) hx hb d_PV_led_32 (by decide) ?_
        have hP : va_P G.1 CL (cw_PV G h0 q0 o0 ++ (cw_Mo G (q0 4) q1 r1 o1)) H := hP
        have hD : va_D A (cw_PV G h0 q0 o0 ++ (cw_Mo G (q0 4) q1 r1 o1)) := hD
        exact W.iret (v := (-1 : Int32)) hx hb hr (fun t ht hW => ⟨⟨(-1 : Int32), (), rfl, h, by rw [ht]; exact hP, va_K.moved hW.alike hK, hD⟩, hS.F ht⟩) hS.2.2 d_PV_led_33
      · have h := h.2 c4
        refine lv_iload_n hx hb d_PV_led_23 rfl (lv_at hl 3 rfl) ?_
        refine lv_if_lt (tgt := 32) hx hb d_PV_led_24 (by decide) (fun c5 => ?_) (fun c5 => ?_)
        · have h := h.1 c5
          refine lv_iconst (v := (-1 : Int32)) hx hb d_PV_led_32 (by decide) ?_
          have hP : va_P G.1 CL (cw_PV G h0 q0 o0 ++ (cw_Mo G (q0 4) q1 r1 o1)) H := hP
          have hD : va_D A (cw_PV G h0 q0 o0 ++ (cw_Mo G (q0 4) q1 r1 o1)) := hD
          exact W.iret (v := (-1 : Int32)) hx hb hr (fun t ht hW => ⟨⟨(-1 : Int32), (), rfl, h, by rw [ht]; exact hP, va_K.moved hW.alike hK, hD⟩, hS.F ht⟩) hS.2.2 d_PV_led_33
        · have h := h.2 c5
          refine lv_iload_n hx hb d_PV_led_27 rfl (lv_at hl 3 rfl) ?_
          refine lv_iconst (v := (4 : Int32)) hx hb d_PV_led_28 (by decide) ?_
          refine lv_icmp_le (tgt := 34) hx hb d_PV_led_29 (by decide) (fun c6 => ?_) (fun c6 => ?_)
          · have h := h.1 c6
            refine lv_aload_n hx hb d_PV_led_34 rfl (lv_at hl 0 rfl) ?_
            refine va_get (D := G.1) (ci := 0) (v := .ref (q0 6)) (C := R_PV) (T := T_PV) (N := 14) hx hb hts i_PV hown hK hP 0 rfl rfl 6 (by decide) (hts _ wf_PV_57) (fun _ h9 => h9) rfl d_PV_led_35 ?_
            refine lv_iload_n hx hb d_PV_led_38 rfl (lv_at hl 1 rfl) ?_
            refine lv_iconst (v := (5 : Int32)) hx hb d_PV_led_39 (by decide) ?_
            refine lv_imul hx hb d_PV_led_40 ?_
            refine lv_iload_n hx hb d_PV_led_41 rfl (lv_at hl 2 rfl) ?_
            refine lv_iadd hx hb d_PV_led_42 ?_
            have g7 := h.1
            have h := h.2
            refine xa_iald hx hb hK hP 2 0 rfl rfl g7 (k := ((a0 * (5 : Int32)) + a1).toNatClampNeg) rfl d_PV_led_43 ?_
            refine lv_topi (fun y8 ey8 => ?_)
            have h := h y8 ey8
            refine lv_iload_n hx hb d_PV_led_44 rfl (lv_at hl 3 rfl) ?_
            refine cl_Si (b := b_PV_led) (As := [.int y8, .int a2]) (rest := []) (ws := [(h0, .inr (0, [.int (gI o0 0), .ref (q0 1), .ref (q0 2), .ref (q0 3), .ref (q0 4), .ref (q0 5), .ref (q0 6), .ref (q0 7), .ref (q0 8), .ref (q0 9), .ref (q0 10), .ref (q0 11), .ref (q0 12), .ref (q0 13)])), kQ G (q0 3) 3 (fun i => some (q0 (50 + i))), kI G (q0 6) 1000 (gA o0 6), kJ G (q0 7) 2000 (gB o0 7), kI G (q0 13) 5 (gA o0 13), ((q0 4), .inr (5, [.ref (r1 0), .int (gI o1 1), .int (gI o1 2), .ref (q1 3), .ref (q1 4), .ref (q1 5), .ref (q1 6), .ref (q1 7), .ref (q1 8), .ref (q1 9), .ref (q1 10), .int (gI o1 11), .int (gI o1 12)])), kI G (q1 3) 20 (gA o1 3), kI G (q1 4) 20 (gA o1 4), kI G (q1 5) 5 (gA o1 5), kJ G (q1 6) 5 (gB o1 6), kJ G (q1 7) 5 (gB o1 7), kJ G (q1 8) 6 (gB o1 8), kI G (q1 10) 5 (gA o1 10)]) (wr := [(h0, .inr (0, [.int (gI o0 0), .ref (q0 1), .ref (q0 2), .ref (q0 3), .ref (q0 4), .ref (q0 5), .ref (q0 6), .ref (q0 7), .ref (q0 8), .ref (q0 9), .ref (q0 10), .ref (q0 11), .ref (q0 12), .ref (q0 13)])), kQ G (q0 3) 3 (fun i => some (q0 (50 + i))), kI G (q0 6) 1000 (gA o0 6), kJ G (q0 7) 2000 (gB o0 7), kI G (q0 13) 5 (gA o0 13), ((q0 4), .inr (5, [.ref (r1 0), .int (gI o1 1), .int (gI o1 2), .ref (q1 3), .ref (q1 4), .ref (q1 5), .ref (q1 6), .ref (q1 7), .ref (q1 8), .ref (q1 9), .ref (q1 10), .int (gI o1 11), .int (gI o1 12)])), kI G (q1 3) 20 (gA o1 3), kI G (q1 4) 20 (gA o1 4), kI G (q1 5) 5 (gA o1 5), kJ G (q1 6) 5 (gB o1 6), kJ G (q1 7) 5 (gB o1 7), kJ G (q1 8) 6 (gB o1 8), kI G (q1 10) 5 (gA o1 10)]) (w2 := fun (u : Unit) => [(h0, .inr (0, [.int (gI o0 0), .ref (q0 1), .ref (q0 2), .ref (q0 3), .ref (q0 4), .ref (q0 5), .ref (q0 6), .ref (q0 7), .ref (q0 8), .ref (q0 9), .ref (q0 10), .ref (q0 11), .ref (q0 12), .ref (q0 13)])), kQ G (q0 3) 3 (fun i => some (q0 (50 + i))), kI G (q0 6) 1000 (gA o0 6), kJ G (q0 7) 2000 (gB o0 7), kI G (q0 13) 5 (gA o0 13), ((q0 4), .inr (5, [.ref (r1 0), .int (gI o1 1), .int (gI o1 2), .ref (q1 3), .ref (q1 4), .ref (q1 5), .ref (q1 6), .ref (q1 7), .ref (q1 8), .ref (q1 9), .ref (q1 10), .int (gI o1 11), .int (gI o1 12)])), kI G (q1 3) 20 (gA o1 3), kI G (q1 4) 20 (gA o1 4), kI G (q1 5) 5 (gA o1 5), kJ G (q1 6) 5 (gB o1 6), kJ G (q1 7) 5 (gB o1 7), kJ G (q1 8) 6 (gB o1 8), kI G (q1 10) 5 (gA o1 10)]) C (c_Le_unpacked H.size h) ws_PV_200 ⟨Nat.le_of_ble_eq_true rfl, Nat.le_of_ble_eq_true rfl⟩ hP hD hS [] [0, 1, 2, 3, 4, 5, 6, 7, 8, 9, 10, 11, 12] rfl rfl (by decide) (by decide) (by decide) [0, 1, 2, 3, 4, 5, 6, 7, 8, 9, 10, 11, 12] (by decide) (fun u => rfl) rfl hl.1 rfl (lv_room (Nat.le_of_ble_eq_true rfl)) d_PV_led_45 ⟨Nat.le_of_ble_eq_true rfl, Nat.le_of_ble_eq_true rfl⟩ rfl rfl (fun z9 u H locs h hP hD hS => ?_)
            have hP : va_P G.1 CL [(h0, .inr (0, [.int (gI o0 0), .ref (q0 1), .ref (q0 2), .ref (q0 3), .ref (q0 4), .ref (q0 5), .ref (q0 6), .ref (q0 7), .ref (q0 8), .ref (q0 9), .ref (q0 10), .ref (q0 11), .ref (q0 12), .ref (q0 13)])), kQ G (q0 3) 3 (fun i => some (q0 (50 + i))), kI G (q0 6) 1000 (gA o0 6), kJ G (q0 7) 2000 (gB o0 7), kI G (q0 13) 5 (gA o0 13), ((q0 4), .inr (5, [.ref (r1 0), .int (gI o1 1), .int (gI o1 2), .ref (q1 3), .ref (q1 4), .ref (q1 5), .ref (q1 6), .ref (q1 7), .ref (q1 8), .ref (q1 9), .ref (q1 10), .int (gI o1 11), .int (gI o1 12)])), kI G (q1 3) 20 (gA o1 3), kI G (q1 4) 20 (gA o1 4), kI G (q1 5) 5 (gA o1 5), kJ G (q1 6) 5 (gB o1 6), kJ G (q1 7) 5 (gB o1 7), kJ G (q1 8) 6 (gB o1 8), kI G (q1 10) 5 (gA o1 10)] H := hP
            have hD : va_D A [(h0, .inr (0, [.int (gI o0 0), .ref (q0 1), .ref (q0 2), .ref (q0 3), .ref (q0 4), .ref (q0 5), .ref (q0 6), .ref (q0 7), .ref (q0 8), .ref (q0 9), .ref (q0 10), .ref (q0 11), .ref (q0 12), .ref (q0 13)])), kQ G (q0 3) 3 (fun i => some (q0 (50 + i))), kI G (q0 6) 1000 (gA o0 6), kJ G (q0 7) 2000 (gB o0 7), kI G (q0 13) 5 (gA o0 13), ((q0 4), .inr (5, [.ref (r1 0), .int (gI o1 1), .int (gI o1 2), .ref (q1 3), .ref (q1 4), .ref (q1 5), .ref (q1 6), .ref (q1 7), .ref (q1 8), .ref (q1 9), .ref (q1 10), .int (gI o1 11), .int (gI o1 12)])), kI G (q1 3) 20 (gA o1 3), kI G (q1 4) 20 (gA o1 4), kI G (q1 5) 5 (gA o1 5), kJ G (q1 6) 5 (gB o1 6), kJ G (q1 7) 5 (gB o1 7), kJ G (q1 8) 6 (gB o1 8), kI G (q1 10) 5 (gA o1 10)] := hD
            have hP : va_P G.1 CL (cw_PV G h0 q0 o0 ++ (cw_Mo G (q0 4) q1 r1 o1)) H := hP
            have hD : va_D A (cw_PV G h0 q0 o0 ++ (cw_Mo G (q0 4) q1 r1 o1)) := hD
            exact W.iret (v := z9) hx hb hr (fun t ht hW => ⟨⟨z9, (), rfl, h, by rw [ht]; exact hP, va_K.moved hW.alike hK, hD⟩, hS.F ht⟩) hS.2.2 d_PV_led_48
          · have h := h.2 c6
            refine lv_iconst (v := (-1 : Int32)) hx hb d_PV_led_32 (by decide) ?_
            have hP : va_P G.1 CL (cw_PV G h0 q0 o0 ++ (cw_Mo G (q0 4) q1 r1 o1)) H := hP
            have hD : va_D A (cw_PV G h0 q0 o0 ++ (cw_Mo G (q0 4) q1 r1 o1)) := hD
            exact W.iret (v := (-1 : Int32)) hx hb hr (fun t ht hW => ⟨⟨(-1 : Int32), (), rfl, h, by rw [ht]; exact hP, va_K.moved hW.alike hK, hD⟩, hS.F ht⟩) hS.2.2 d_PV_led_33
abbrev b_PV_sound : ByteArray := prog_1_method_12_code
def y_PV_sound : MethodName := ⟨R_PV, "sound", "(I)J"⟩
abbrev w_PV_sound : List Cond := Cond.code y_PV_sound b_PV_sound 2 (some .long) :: gw_tbl
theorem d_PV_sound_0 : decode b_PV_sound 0 = .ok (.iload_n 1, 1) := by decide +kernel
theorem d_PV_sound_1 : decode b_PV_sound 1 = .ok (.ifCond .lt 17, 3) := by decide +kernel
theorem d_PV_sound_4 : decode b_PV_sound 4 = .ok (.iload_n 1, 1) := by decide +kernel
theorem d_PV_sound_5 : decode b_PV_sound 5 = .ok (.aload_n 0, 1) := by decide +kernel
theorem d_PV_sound_6 : decode b_PV_sound 6 = .ok (.getfield 50, 3) := by decide +kernel
theorem d_PV_sound_9 : decode b_PV_sound 9 = .ok (.getfield 173, 3) := by decide +kernel
theorem d_PV_sound_12 : decode b_PV_sound 12 = .ok (.bipush 10, 2) := by decide +kernel
theorem d_PV_sound_14 : decode b_PV_sound 14 = .ok (.imul, 1) := by decide +kernel
theorem d_PV_sound_15 : decode b_PV_sound 15 = .ok (.if_icmp .lt 7, 3) := by decide +kernel
theorem d_PV_sound_18 : decode b_PV_sound 18 = .ok (.lconst 0, 1) := by decide +kernel
theorem d_PV_sound_19 : decode b_PV_sound 19 = .ok (.goto 9, 3) := by decide +kernel
theorem d_PV_sound_22 : decode b_PV_sound 22 = .ok (.aload_n 0, 1) := by decide +kernel
theorem d_PV_sound_23 : decode b_PV_sound 23 = .ok (.getfield 61, 3) := by decide +kernel
theorem d_PV_sound_26 : decode b_PV_sound 26 = .ok (.iload_n 1, 1) := by decide +kernel
theorem d_PV_sound_27 : decode b_PV_sound 27 = .ok (.laload, 1) := by decide +kernel
theorem d_PV_sound_28 : decode b_PV_sound 28 = .ok (.lreturn, 1) := by decide +kernel
def f_PV_sound (a0 : Int32) (o0 : Ob) (r1 : (Nat → Nat)) (o1 : Ob) (Q : Int64 → Prop) : Prop := (a0 < 0 → (Q (0 : Int64))) ∧ (¬ a0 < 0 → ((a0 < ((gI o1 1) * (10 : Int32)) → ((vp_in a0 2000) ∧ (Q ((gB o0 7) a0.toNatClampNeg)))) ∧ (¬ a0 < ((gI o1 1) * (10 : Int32)) → (Q (0 : Int64)))))
abbrev rm_PV_sound : Room := { frames := 0, cells := 0, slots := 0, locals := 0 }
set_option maxHeartbeats 4000000 in
set_option maxRecDepth 100000 in
theorem c_PV_sound {l : Launch} {G : Gl} {h0 : Nat} {q0 : Nat → Nat} {q1 : Nat → Nat} {a0 : Int32} {o0 : Ob} {r1 : (Nat → Nat)} {o1 : Ob} {Q : Int64 → Prop} (sz : Nat) (h : f_PV_sound a0 o0 r1 o1 Q) : Met l y_PV_sound w_PV_sound rm_PV_sound (PcW G [.ref h0, .int a0] sz (cw_PV G h0 q0 o0 ++ (cw_Mo G (q0 4) q1 r1 o1))) (va_Ql (fun (r : Int64) (u : Unit) => Q r) (fun (u : Unit) t => BW G (va_A (cw_PV G h0 q0 o0 ++ (cw_Mo G (q0 4) q1 r1 o1)) sz) (cw_PV G h0 q0 o0 ++ (cw_Mo G (q0 4) q1 r1 o1)) t) (va_A (cw_PV G h0 q0 o0 ++ (cw_Mo G (q0 4) q1 r1 o1)) sz)) 0 0 (va_A (cw_PV G h0 q0 o0 ++ (cw_Mo G (q0 4) q1 r1 o1)) sz) := by
  refine Met.ofW (cc := b_PV_sound) (maxL := 2) (ret := (some .long)) (by decide +kernel) rfl ?_
  intro p e s m args below meth c s₁ B hml hv
  obtain ⟨rfl, hsz, hP, hK, hD0, hE⟩ := hv
  have hx := B.exec
  have hb := B.bytes
  have hr := B.returns
  have hts0 := atoms_spec (ws := w_PV_sound) B.pre
  have hts : ∀ w ∈ gw_tbl, w.before ([.ref h0, .int a0]).toArray s = true := fun w hw => hts0 w (List.mem_cons_of_mem _ hw)
  have hown : s.vm.findClass R_PV = some m.cls := findClass_of_methodNamed B.named
  have hlocks := B.notSynchronized
  subst hsz
  have hD := hD0.self (sz := s.heap.size)
  generalize hAe : va_A (cw_PV G h0 q0 o0 ++ (cw_Mo G (q0 4) q1 r1 o1)) s.heap.size = A at hD hE ⊢
  have hA : ∀ q : Nat, s.heap.size ≤ q → A q := fun q h => by rw [← hAe]; exact Or.inr h
  have hS : va_S A s.heap s.heap [] := va_S.rf
  have C : Cx p s m ([.ref h0, .int a0]).toArray meth c R_PV b_PV_sound 2 (some .long) G A := ⟨hx, hb, hml, hown, hr, hts, hK, hA, hlocks, hE⟩
  have hl := lv_entry ([.ref h0, .int a0]) (n := 2) (Nat.le_of_ble_eq_true rfl)
  rw [lg_entry_eq]
  generalize (lg_sl ([.ref h0, .int a0]) ++ List.replicate (2 - (lg_sl ([.ref h0, .int a0])).length) Slot.unset).toArray = ls at hl ⊢
  have hl : lv_has ls 2 [(0, .ref h0), (1, .int a0)] := hl
  have hD : va_D A [(h0, .inr (0, [.int (gI o0 0), .ref (q0 1), .ref (q0 2), .ref (q0 3), .ref (q0 4), .ref (q0 5), .ref (q0 6), .ref (q0 7), .ref (q0 8), .ref (q0 9), .ref (q0 10), .ref (q0 11), .ref (q0 12), .ref (q0 13)])), kQ G (q0 3) 3 (fun i => some (q0 (50 + i))), kI G (q0 6) 1000 (gA o0 6), kJ G (q0 7) 2000 (gB o0 7), kI G (q0 13) 5 (gA o0 13), ((q0 4), .inr (5, [.ref (r1 0), .int (gI o1 1), .int (gI o1 2), .ref (q1 3), .ref (q1 4), .ref (q1 5), .ref (q1 6), .ref (q1 7), .ref (q1 8), .ref (q1 9), .ref (q1 10), .int (gI o1 11), .int (gI o1 12)])), kI G (q1 3) 20 (gA o1 3), kI G (q1 4) 20 (gA o1 4), kI G (q1 5) 5 (gA o1 5), kJ G (q1 6) 5 (gB o1 6), kJ G (q1 7) 5 (gB o1 7), kJ G (q1 8) 6 (gB o1 8), kI G (q1 10) 5 (gA o1 10)] := hD
  unfold f_PV_sound at h
  suffices key : ∀ (H : Heap) (locs : List Loc), va_P G.1 CL [(h0, .inr (0, [.int (gI o0 0), .ref (q0 1), .ref (q0 2), .ref (q0 3), .ref (q0 4), .ref (q0 5), .ref (q0 6), .ref (q0 7), .ref (q0 8), .ref (q0 9), .ref (q0 10), .ref (q0 11), .ref (q0 12), .ref (q0 13)])), kQ G (q0 3) 3 (fun i => some (q0 (50 + i))), kI G (q0 6) 1000 (gA o0 6), kJ G (q0 7) 2000 (gB o0 7), kI G (q0 13) 5 (gA o0 13), ((q0 4), .inr (5, [.ref (r1 0), .int (gI o1 1), .int (gI o1 2), .ref (q1 3), .ref (q1 4), .ref (q1 5), .ref (q1 6), .ref (q1 7), .ref (q1 8), .ref (q1 9), .ref (q1 10), .int (gI o1 11), .int (gI o1 12)])), kI G (q1 3) 20 (gA o1 3), kI G (q1 4) 20 (gA o1 4), kI G (q1 5) 5 (gA o1 5), kJ G (q1 6) 5 (gB o1 6), kJ G (q1 7) 5 (gB o1 7), kJ G (q1 8) 6 (gB o1 8), kI G (q1 10) 5 (gA o1 10)] H → va_S A s.heap H locs → W p l e rm_PV_sound s m ([.ref h0, .int a0]).toArray below meth c H locs 0 0 (MQ below (va_Ql (fun (r : Int64) (u : Unit) => Q r) (fun (u : Unit) t => BW G A (cw_PV G h0 q0 o0 ++ (cw_Mo G (q0 4) q1 r1 o1)) t) A) ([.ref h0, .int a0]).toArray s 0 0 A) (F0 m 0 ls []) from key s.heap [] hP hS
  intro H locs hP hS
  refine lv_iload_n hx hb d_PV_sound_0 rfl (lv_at hl 1 rfl) ?_
  refine lv_if_lt (tgt := 18) hx hb d_PV_sound_1 (by decide) (fun c1 => ?_) (fun c1 => ?_)
  · have h := h.1 c1
    refine lv_lconst (v := (0 : Int64)) hx hb d_PV_sound_18 (by decide) ?_
    refine lv_goto (tgt := 28) hx hb d_PV_sound_19 (by decide) ?_
    have hP : va_P G.1 CL (cw_PV G h0 q0 o0 ++ (cw_Mo G (q0 4) q1 r1 o1)) H := hP
    have hD : va_D A (cw_PV G h0 q0 o0 ++ (cw_Mo G (q0 4) q1 r1 o1)) := hD
    exact W.lret (v := (0 : Int64)) hx hb hr (fun t ht hW => ⟨⟨(0 : Int64), (), rfl, h, by rw [ht]; exact hP, va_K.moved hW.alike hK, hD⟩, hS.F ht⟩) hS.2.2 d_PV_sound_28
  · have h := h.2 c1
    refine lv_iload_n hx hb d_PV_sound_4 rfl (lv_at hl 1 rfl) ?_
    refine lv_aload_n hx hb d_PV_sound_5 rfl (lv_at hl 0 rfl) ?_
    refine va_get (D := G.1) (ci := 0) (v := .ref (q0 4)) (C := R_PV) (T := T_PV) (N := 14) hx hb hts i_PV hown hK hP 0 rfl rfl 4 (by decide) (hts _ wf_PV_50) (fun _ h9 => h9) rfl d_PV_sound_6 ?_
    refine va_get (D := G.1) (ci := 5) (v := .int (gI o1 1)) (C := R_Mo) (T := T_Mo) (N := 13) hx hb hts i_Mo hown hK hP 5 rfl rfl 1 (by decide) (hts _ wf_PV_173) (fun _ h9 => h9) rfl d_PV_sound_9 ?_
    refine lv_bipush (v := (10 : Int32)) hx hb d_PV_sound_12 (by decide) ?_
    refine lv_imul hx hb d_PV_sound_14 ?_
    refine lv_icmp_lt (tgt := 22) hx hb d_PV_sound_15 (by decide) (fun c2 => ?_) (fun c2 => ?_)
    · have h := h.1 c2
      refine lv_aload_n hx hb d_PV_sound_22 rfl (lv_at hl 0 rfl) ?_
      refine va_get (D := G.1) (ci := 0) (v := .ref (q0 7)) (C := R_PV) (T := T_PV) (N := 14) hx hb hts i_PV hown hK hP 0 rfl rfl 7 (by decide) (hts _ wf_PV_61) (fun _ h9 => h9) rfl d_PV_sound_23 ?_
      refine lv_iload_n hx hb d_PV_sound_26 rfl (lv_at hl 1 rfl) ?_
      have g3 := h.1
      have h := h.2
      refine xa_lald hx hb hK hP 3 1 rfl rfl g3 (k := a0.toNatClampNeg) rfl d_PV_sound_27 ?_
      have hP : va_P G.1 CL (cw_PV G h0 q0 o0 ++ (cw_Mo G (q0 4) q1 r1 o1)) H := hP
      have hD : va_D A (cw_PV G h0 q0 o0 ++ (cw_Mo G (q0 4) q1 r1 o1)) := hD
      exact W.lret (v := ((gB o0 7) a0.toNatClampNeg)) hx hb hr (fun t ht hW => ⟨⟨((gB o0 7) a0.toNatClampNeg), (), rfl, h, by rw [ht]; exact hP, va_K.moved hW.alike hK, hD⟩, hS.F ht⟩) hS.2.2 d_PV_sound_28
    · have h := h.2 c2
      refine lv_lconst (v := (0 : Int64)) hx hb d_PV_sound_18 (by decide) ?_
      refine lv_goto (tgt := 28) hx hb d_PV_sound_19 (by decide) ?_
      have hP : va_P G.1 CL (cw_PV G h0 q0 o0 ++ (cw_Mo G (q0 4) q1 r1 o1)) H := hP
      have hD : va_D A (cw_PV G h0 q0 o0 ++ (cw_Mo G (q0 4) q1 r1 o1)) := hD
      exact W.lret (v := (0 : Int64)) hx hb hr (fun t ht hW => ⟨⟨(0 : Int64), (), rfl, h, by rw [ht]; exact hP, va_K.moved hW.alike hK, hD⟩, hS.F ht⟩) hS.2.2 d_PV_sound_28
abbrev b_PV_wave : ByteArray := prog_1_method_13_code
def y_PV_wave : MethodName := ⟨R_PV, "wave", "(IZ)J"⟩
abbrev w_PV_wave : List Cond := Cond.code y_PV_wave b_PV_wave 3 (some .long) :: gw_tbl
theorem d_PV_wave_0 : decode b_PV_wave 0 = .ok (.aload_n 0, 1) := by decide +kernel
theorem d_PV_wave_1 : decode b_PV_wave 1 = .ok (.iload_n 1, 1) := by decide +kernel
theorem d_PV_wave_2 : decode b_PV_wave 2 = .ok (.invokevirtual 145, 3) := by decide +kernel
theorem d_PV_wave_5 : decode b_PV_wave 5 = .ok (.ifCond .ne 5, 3) := by decide +kernel
theorem d_PV_wave_8 : decode b_PV_wave 8 = .ok (.lconst 0, 1) := by decide +kernel
theorem d_PV_wave_9 : decode b_PV_wave 9 = .ok (.lreturn, 1) := by decide +kernel
theorem d_PV_wave_10 : decode b_PV_wave 10 = .ok (.iload_n 2, 1) := by decide +kernel
theorem d_PV_wave_11 : decode b_PV_wave 11 = .ok (.ifCond .eq 15, 3) := by decide +kernel
theorem d_PV_wave_14 : decode b_PV_wave 14 = .ok (.aload_n 0, 1) := by decide +kernel
theorem d_PV_wave_15 : decode b_PV_wave 15 = .ok (.getfield 50, 3) := by decide +kernel
theorem d_PV_wave_18 : decode b_PV_wave 18 = .ok (.getfield 203, 3) := by decide +kernel
theorem d_PV_wave_21 : decode b_PV_wave 21 = .ok (.iload_n 1, 1) := by decide +kernel
theorem d_PV_wave_22 : decode b_PV_wave 22 = .ok (.laload, 1) := by decide +kernel
theorem d_PV_wave_23 : decode b_PV_wave 23 = .ok (.goto 12, 3) := by decide +kernel
theorem d_PV_wave_26 : decode b_PV_wave 26 = .ok (.aload_n 0, 1) := by decide +kernel
theorem d_PV_wave_27 : decode b_PV_wave 27 = .ok (.getfield 50, 3) := by decide +kernel
theorem d_PV_wave_30 : decode b_PV_wave 30 = .ok (.getfield 206, 3) := by decide +kernel
theorem d_PV_wave_33 : decode b_PV_wave 33 = .ok (.iload_n 1, 1) := by decide +kernel
theorem d_PV_wave_34 : decode b_PV_wave 34 = .ok (.laload, 1) := by decide +kernel
theorem d_PV_wave_35 : decode b_PV_wave 35 = .ok (.lreturn, 1) := by decide +kernel
theorem wf_PV_206 : Cond.fieldLink R_PV 206 R_Mo "toFolds" "[J" ∈ gw_tbl := gw_tb (List.mem_of_getElem? (i := 257) (by decide +kernel)) rfl
theorem wf_PV_203 : Cond.fieldLink R_PV 203 R_Mo "toLips" "[J" ∈ gw_tbl := gw_tb (List.mem_of_getElem? (i := 254) (by decide +kernel)) rfl
def f_PV_wave (a0 : Int32) (a1 : Int32) (o0 : Ob) (r1 : (Nat → Nat)) (o1 : Ob) (Q : Int64 → Prop) : Prop := f_PV_isPiece a0 o0 (fun z1 => (z1 = 0 → (Q (0 : Int64))) ∧ (¬ z1 = 0 → ((a1 = 0 → ((vp_in a0 5) ∧ (Q ((gB o1 7) a0.toNatClampNeg)))) ∧ (¬ a1 = 0 → ((vp_in a0 5) ∧ (Q ((gB o1 6) a0.toNatClampNeg)))))))
abbrev rm_PV_wave : Room := { frames := 1, cells := 0, slots := 0, locals := 21 }
set_option maxHeartbeats 4000000 in
set_option maxRecDepth 100000 in
theorem c_PV_wave {l : Launch} {G : Gl} {h0 : Nat} {q0 : Nat → Nat} {q1 : Nat → Nat} {a0 : Int32} {a1 : Int32} {o0 : Ob} {r1 : (Nat → Nat)} {o1 : Ob} {Q : Int64 → Prop} (sz : Nat) (h : f_PV_wave a0 a1 o0 r1 o1 Q) : Met l y_PV_wave w_PV_wave rm_PV_wave (PcW G [.ref h0, .int a0, .int a1] sz (cw_PV G h0 q0 o0 ++ (cw_Mo G (q0 4) q1 r1 o1))) (va_Ql (fun (r : Int64) (u : Unit) => Q r) (fun (u : Unit) t => BW G (va_A (cw_PV G h0 q0 o0 ++ (cw_Mo G (q0 4) q1 r1 o1)) sz) (cw_PV G h0 q0 o0 ++ (cw_Mo G (q0 4) q1 r1 o1)) t) (va_A (cw_PV G h0 q0 o0 ++ (cw_Mo G (q0 4) q1 r1 o1)) sz)) 0 0 (va_A (cw_PV G h0 q0 o0 ++ (cw_Mo G (q0 4) q1 r1 o1)) sz) := by
  refine Met.ofW (cc := b_PV_wave) (maxL := 3) (ret := (some .long)) (by decide +kernel) rfl ?_
  intro p e s m args below meth c s₁ B hml hv
  obtain ⟨rfl, hsz, hP, hK, hD0, hE⟩ := hv
  have hx := B.exec
  have hb := B.bytes
  have hr := B.returns
  have hts0 := atoms_spec (ws := w_PV_wave) B.pre
  have hts : ∀ w ∈ gw_tbl, w.before ([.ref h0, .int a0, .int a1]).toArray s = true := fun w hw => hts0 w (List.mem_cons_of_mem _ hw)
  have hown : s.vm.findClass R_PV = some m.cls := findClass_of_methodNamed B.named
  have hlocks := B.notSynchronized
  subst hsz
  have hD := hD0.self (sz := s.heap.size)
  generalize hAe : va_A (cw_PV G h0 q0 o0 ++ (cw_Mo G (q0 4) q1 r1 o1)) s.heap.size = A at hD hE ⊢
  have hA : ∀ q : Nat, s.heap.size ≤ q → A q := fun q h => by rw [← hAe]; exact Or.inr h
  have hS : va_S A s.heap s.heap [] := va_S.rf
  have C : Cx p s m ([.ref h0, .int a0, .int a1]).toArray meth c R_PV b_PV_wave 3 (some .long) G A := ⟨hx, hb, hml, hown, hr, hts, hK, hA, hlocks, hE⟩
  have hl := lv_entry ([.ref h0, .int a0, .int a1]) (n := 3) (Nat.le_of_ble_eq_true rfl)
  rw [lg_entry_eq]
  generalize (lg_sl ([.ref h0, .int a0, .int a1]) ++ List.replicate (3 - (lg_sl ([.ref h0, .int a0, .int a1])).length) Slot.unset).toArray = ls at hl ⊢
  have hl : lv_has ls 3 [(0, .ref h0), (1, .int a0), (2, .int a1)] := hl
  have hD : va_D A [(h0, .inr (0, [.int (gI o0 0), .ref (q0 1), .ref (q0 2), .ref (q0 3), .ref (q0 4), .ref (q0 5), .ref (q0 6), .ref (q0 7), .ref (q0 8), .ref (q0 9), .ref (q0 10), .ref (q0 11), .ref (q0 12), .ref (q0 13)])), kQ G (q0 3) 3 (fun i => some (q0 (50 + i))), kI G (q0 6) 1000 (gA o0 6), kJ G (q0 7) 2000 (gB o0 7), kI G (q0 13) 5 (gA o0 13), ((q0 4), .inr (5, [.ref (r1 0), .int (gI o1 1), .int (gI o1 2), .ref (q1 3), .ref (q1 4), .ref (q1 5), .ref (q1 6), .ref (q1 7), .ref (q1 8), .ref (q1 9), .ref (q1 10), .int (gI o1 11), .int (gI o1 12)])), kI G (q1 3) 20 (gA o1 3), kI G (q1 4) 20 (gA o1 4), kI G (q1 5) 5 (gA o1 5), kJ G (q1 6) 5 (gB o1 6), kJ G (q1 7) 5 (gB o1 7), kJ G (q1 8) 6 (gB o1 8), kI G (q1 10) 5 (gA o1 10)] := hD
  unfold f_PV_wave at h
  suffices key : ∀ (H : Heap) (locs : List Loc), va_P G.1 CL [(h0, .inr (0, [.int (gI o0 0), .ref (q0 1), .ref (q0 2), .ref (q0 3), .ref (q0 4), .ref (q0 5), .ref (q0 6), .ref (q0 7), .ref (q0 8), .ref (q0 9), .ref (q0 10), .ref (q0 11), .ref (q0 12), .ref (q0 13)])), kQ G (q0 3) 3 (fun i => some (q0 (50 + i))), kI G (q0 6) 1000 (gA o0 6), kJ G (q0 7) 2000 (gB o0 7), kI G (q0 13) 5 (gA o0 13), ((q0 4), .inr (5, [.ref (r1 0), .int (gI o1 1), .int (gI o1 2), .ref (q1 3), .ref (q1 4), .ref (q1 5), .ref (q1 6), .ref (q1 7), .ref (q1 8), .ref (q1 9), .ref (q1 10), .int (gI o1 11), .int (gI o1 12)])), kI G (q1 3) 20 (gA o1 3), kI G (q1 4) 20 (gA o1 4), kI G (q1 5) 5 (gA o1 5), kJ G (q1 6) 5 (gB o1 6), kJ G (q1 7) 5 (gB o1 7), kJ G (q1 8) 6 (gB o1 8), kI G (q1 10) 5 (gA o1 10)] H → va_S A s.heap H locs → W p l e rm_PV_wave s m ([.ref h0, .int a0, .int a1]).toArray below meth c H locs 0 0 (MQ below (va_Ql (fun (r : Int64) (u : Unit) => Q r) (fun (u : Unit) t => BW G A (cw_PV G h0 q0 o0 ++ (cw_Mo G (q0 4) q1 r1 o1)) t) A) ([.ref h0, .int a0, .int a1]).toArray s 0 0 A) (F0 m 0 ls []) from key s.heap [] hP hS
  intro H locs hP hS
  refine lv_aload_n hx hb d_PV_wave_0 rfl (lv_at hl 0 rfl) ?_
  refine lv_iload_n hx hb d_PV_wave_1 rfl (lv_at hl 1 rfl) ?_
  refine cl_Vi (b := b_PV_wave) (As := [.int a0]) (rest := []) (ws := [(h0, .inr (0, [.int (gI o0 0), .ref (q0 1), .ref (q0 2), .ref (q0 3), .ref (q0 4), .ref (q0 5), .ref (q0 6), .ref (q0 7), .ref (q0 8), .ref (q0 9), .ref (q0 10), .ref (q0 11), .ref (q0 12), .ref (q0 13)])), kQ G (q0 3) 3 (fun i => some (q0 (50 + i))), kI G (q0 6) 1000 (gA o0 6), kJ G (q0 7) 2000 (gB o0 7), kI G (q0 13) 5 (gA o0 13), ((q0 4), .inr (5, [.ref (r1 0), .int (gI o1 1), .int (gI o1 2), .ref (q1 3), .ref (q1 4), .ref (q1 5), .ref (q1 6), .ref (q1 7), .ref (q1 8), .ref (q1 9), .ref (q1 10), .int (gI o1 11), .int (gI o1 12)])), kI G (q1 3) 20 (gA o1 3), kI G (q1 4) 20 (gA o1 4), kI G (q1 5) 5 (gA o1 5), kJ G (q1 6) 5 (gB o1 6), kJ G (q1 7) 5 (gB o1 7), kJ G (q1 8) 6 (gB o1 8), kI G (q1 10) 5 (gA o1 10)]) (wr := [((q0 4), .inr (5, [.ref (r1 0), .int (gI o1 1), .int (gI o1 2), .ref (q1 3), .ref (q1 4), .ref (q1 5), .ref (q1 6), .ref (q1 7), .ref (q1 8), .ref (q1 9), .ref (q1 10), .int (gI o1 11), .int (gI o1 12)])), kI G (q1 3) 20 (gA o1 3), kI G (q1 4) 20 (gA o1 4), kI G (q1 5) 5 (gA o1 5), kJ G (q1 6) 5 (gB o1 6), kJ G (q1 7) 5 (gB o1 7), kJ G (q1 8) 6 (gB o1 8), kI G (q1 10) 5 (gA o1 10)]) (w2 := fun (u : Unit) => [(h0, .inr (0, [.int (gI o0 0), .ref (q0 1), .ref (q0 2), .ref (q0 3), .ref (q0 4), .ref (q0 5), .ref (q0 6), .ref (q0 7), .ref (q0 8), .ref (q0 9), .ref (q0 10), .ref (q0 11), .ref (q0 12), .ref (q0 13)])), kQ G (q0 3) 3 (fun i => some (q0 (50 + i))), kI G (q0 6) 1000 (gA o0 6), kJ G (q0 7) 2000 (gB o0 7), kI G (q0 13) 5 (gA o0 13), ((q0 4), .inr (5, [.ref (r1 0), .int (gI o1 1), .int (gI o1 2), .ref (q1 3), .ref (q1 4), .ref (q1 5), .ref (q1 6), .ref (q1 7), .ref (q1 8), .ref (q1 9), .ref (q1 10), .int (gI o1 11), .int (gI o1 12)])), kI G (q1 3) 20 (gA o1 3), kI G (q1 4) 20 (gA o1 4), kI G (q1 5) 5 (gA o1 5), kJ G (q1 6) 5 (gB o1 6), kJ G (q1 7) 5 (gB o1 7), kJ G (q1 8) 6 (gB o1 8), kI G (q1 10) 5 (gA o1 10)]) C (c_PV_isPiece (h0 := h0) (q0 := q0) H.size h) wv_PV_145 ⟨Nat.le_of_ble_eq_true rfl, Nat.le_of_ble_eq_true rfl⟩ hP hD hS 0 rfl rfl [0, 1, 2, 3, 4] [5, 6, 7, 8, 9, 10, 11, 12] rfl rfl (by decide) (by decide) (by decide) [8, 9, 10, 11, 12, 0, 1, 2, 3, 4, 5, 6, 7] (by decide) (fun u => rfl) rfl hl.1 rfl (lv_room (Nat.le_of_ble_eq_true rfl)) d_PV_wave_2 ⟨Nat.le_of_ble_eq_true rfl, Nat.le_of_ble_eq_true rfl⟩ rfl rfl (fun z1 u H locs h hP hD hS => ?_)
  have hP : va_P G.1 CL [(h0, .inr (0, [.int (gI o0 0), .ref (q0 1), .ref (q0 2), .ref (q0 3), .ref (q0 4), .ref (q0 5), .ref (q0 6), .ref (q0 7), .ref (q0 8), .ref (q0 9), .ref (q0 10), .ref (q0 11), .ref (q0 12), .ref (q0 13)])), kQ G (q0 3) 3 (fun i => some (q0 (50 + i))), kI G (q0 6) 1000 (gA o0 6), kJ G (q0 7) 2000 (gB o0 7), kI G (q0 13) 5 (gA o0 13), ((q0 4), .inr (5, [.ref (r1 0), .int (gI o1 1), .int (gI o1 2), .ref (q1 3), .ref (q1 4), .ref (q1 5), .ref (q1 6), .ref (q1 7), .ref (q1 8), .ref (q1 9), .ref (q1 10), .int (gI o1 11), .int (gI o1 12)])), kI G (q1 3) 20 (gA o1 3), kI G (q1 4) 20 (gA o1 4), kI G (q1 5) 5 (gA o1 5), kJ G (q1 6) 5 (gB o1 6), kJ G (q1 7) 5 (gB o1 7), kJ G (q1 8) 6 (gB o1 8), kI G (q1 10) 5 (gA o1 10)] H := hP
  have hD : va_D A [(h0, .inr (0, [.int (gI o0 0), .ref (q0 1), .ref (q0 2), .ref (q0 3), .ref (q0 4), .ref (q0 5), .ref (q0 6), .ref (q0 7), .ref (q0 8), .ref (q0 9), .ref (q0 10), .ref (q0 11), .ref (q0 12), .ref (q0 13)])), kQ G (q0 3) 3 (fun i => some (q0 (50 + i))), kI G (q0 6) 1000 (gA o0 6), kJ G (q0 7) 2000 (gB o0 7), kI G (q0 13) 5 (gA o0 13), ((q0 4), .inr (5, [.ref (r1 0), .int (gI o1 1), .int (gI o1 2), .ref (q1 3), .ref (q1 4), .ref (q1 5), .ref (q1 6), .ref (q1 7), .ref (q1 8), .ref (q1 9), .ref (q1 10), .int (gI o1 11), .int (gI o1 12)])), kI G (q1 3) 20 (gA o1 3), kI G (q1 4) 20 (gA o1 4), kI G (q1 5) 5 (gA o1 5), kJ G (q1 6) 5 (gB o1 6), kJ G (q1 7) 5 (gB o1 7), kJ G (q1 8) 6 (gB o1 8), kI G (q1 10) 5 (gA o1 10)] := hD
  refine lv_if_ne (tgt := 10) hx hb d_PV_wave_5 (by decide) (fun c2 => ?_) (fun c2 => ?_)
  · have h := h.2 c2
    refine lv_iload_n hx hb d_PV_wave_10 rfl (lv_at hl 2 rfl) ?_
    refine lv_if_eq (tgt := 26) hx hb d_PV_wave_11 (by decide) (fun c3 => ?_) (fun c3 => ?_)
    · have h := h.1 c3
      refine lv_aload_n hx hb d_PV_wave_26 rfl (lv_at hl 0 rfl) ?_
      refine va_get (D := G.1) (ci := 0) (v := .ref (q0 4)) (C := R_PV) (T := T_PV) (N := 14) hx hb hts i_PV hown hK hP 0 rfl rfl 4 (by decide) (hts _ wf_PV_50) (fun _ h9 => h9) rfl d_PV_wave_27 ?_
      refine va_get (D := G.1) (ci := 5) (v := .ref (q1 7)) (C := R_Mo) (T := T_Mo) (N := 13) hx hb hts i_Mo hown hK hP 5 rfl rfl 7 (by decide) (hts _ wf_PV_206) (fun _ h9 => h9) rfl d_PV_wave_30 ?_
      refine lv_iload_n hx hb d_PV_wave_33 rfl (lv_at hl 1 rfl) ?_
      have g4 := h.1
      have h := h.2
      refine xa_lald hx hb hK hP 10 1 rfl rfl g4 (k := a0.toNatClampNeg) rfl d_PV_wave_34 ?_
      have hP : va_P G.1 CL (cw_PV G h0 q0 o0 ++ (cw_Mo G (q0 4) q1 r1 o1)) H := hP
      have hD : va_D A (cw_PV G h0 q0 o0 ++ (cw_Mo G (q0 4) q1 r1 o1)) := hD
      exact W.lret (v := ((gB o1 7) a0.toNatClampNeg)) hx hb hr (fun t ht hW => ⟨⟨((gB o1 7) a0.toNatClampNeg), (), rfl, h, by rw [ht]; exact hP, va_K.moved hW.alike hK, hD⟩, hS.F ht⟩) hS.2.2 d_PV_wave_35
    · have h := h.2 c3
      refine lv_aload_n hx hb d_PV_wave_14 rfl (lv_at hl 0 rfl) ?_
      refine va_get (D := G.1) (ci := 0) (v := .ref (q0 4)) (C := R_PV) (T := T_PV) (N := 14) hx hb hts i_PV hown hK hP 0 rfl rfl 4 (by decide) (hts _ wf_PV_50) (fun _ h9 => h9) rfl d_PV_wave_15 ?_
      refine va_get (D := G.1) (ci := 5) (v := .ref (q1 6)) (C := R_Mo) (T := T_Mo) (N := 13) hx hb hts i_Mo hown hK hP 5 rfl rfl 6 (by decide) (hts _ wf_PV_203) (fun _ h9 => h9) rfl d_PV_wave_18 ?_
      refine lv_iload_n hx hb d_PV_wave_21 rfl (lv_at hl 1 rfl) ?_
      have g5 := h.1
      have h := h.2
      refine xa_lald hx hb hK hP 9 1 rfl rfl g5 (k := a0.toNatClampNeg) rfl d_PV_wave_22 ?_
      refine lv_goto (tgt := 35) hx hb d_PV_wave_23 (by decide) ?_
      have hP : va_P G.1 CL (cw_PV G h0 q0 o0 ++ (cw_Mo G (q0 4) q1 r1 o1)) H := hP
      have hD : va_D A (cw_PV G h0 q0 o0 ++ (cw_Mo G (q0 4) q1 r1 o1)) := hD
      exact W.lret (v := ((gB o1 6) a0.toNatClampNeg)) hx hb hr (fun t ht hW => ⟨⟨((gB o1 6) a0.toNatClampNeg), (), rfl, h, by rw [ht]; exact hP, va_K.moved hW.alike hK, hD⟩, hS.F ht⟩) hS.2.2 d_PV_wave_35
  · have h := h.1 c2
    refine lv_lconst (v := (0 : Int64)) hx hb d_PV_wave_8 (by decide) ?_
    have hP : va_P G.1 CL (cw_PV G h0 q0 o0 ++ (cw_Mo G (q0 4) q1 r1 o1)) H := hP
    have hD : va_D A (cw_PV G h0 q0 o0 ++ (cw_Mo G (q0 4) q1 r1 o1)) := hD
    exact W.lret (v := (0 : Int64)) hx hb hr (fun t ht hW => ⟨⟨(0 : Int64), (), rfl, h, by rw [ht]; exact hP, va_K.moved hW.alike hK, hD⟩, hS.F ht⟩) hS.2.2 d_PV_wave_9
abbrev b_PV_left : ByteArray := prog_1_method_14_code
def y_PV_left : MethodName := ⟨R_PV, "left", "(I)J"⟩
abbrev w_PV_left : List Cond := Cond.code y_PV_left b_PV_left 2 (some .long) :: gw_tbl
theorem d_PV_left_0 : decode b_PV_left 0 = .ok (.iload_n 1, 1) := by decide +kernel
theorem d_PV_left_1 : decode b_PV_left 1 = .ok (.ifCond .lt 23, 3) := by decide +kernel
theorem d_PV_left_4 : decode b_PV_left 4 = .ok (.iload_n 1, 1) := by decide +kernel
theorem d_PV_left_5 : decode b_PV_left 5 = .ok (.aload_n 0, 1) := by decide +kernel
theorem d_PV_left_6 : decode b_PV_left 6 = .ok (.getfield 18, 3) := by decide +kernel
theorem d_PV_left_9 : decode b_PV_left 9 = .ok (.iconst 1, 1) := by decide +kernel
theorem d_PV_left_10 : decode b_PV_left 10 = .ok (.isub, 1) := by decide +kernel
theorem d_PV_left_11 : decode b_PV_left 11 = .ok (.if_icmp .ge 13, 3) := by decide +kernel
theorem d_PV_left_14 : decode b_PV_left 14 = .ok (.aload_n 0, 1) := by decide +kernel
theorem d_PV_left_15 : decode b_PV_left 15 = .ok (.getfield 50, 3) := by decide +kernel
theorem d_PV_left_18 : decode b_PV_left 18 = .ok (.getfield 209, 3) := by decide +kernel
theorem d_PV_left_21 : decode b_PV_left 21 = .ok (.iload_n 1, 1) := by decide +kernel
theorem d_PV_left_22 : decode b_PV_left 22 = .ok (.laload, 1) := by decide +kernel
theorem d_PV_left_23 : decode b_PV_left 23 = .ok (.lreturn, 1) := by decide +kernel
theorem d_PV_left_24 : decode b_PV_left 24 = .ok (.iload_n 1, 1) := by decide +kernel
theorem d_PV_left_25 : decode b_PV_left 25 = .ok (.bipush 10, 2) := by decide +kernel
theorem d_PV_left_27 : decode b_PV_left 27 = .ok (.if_icmp .ne 13, 3) := by decide +kernel
theorem d_PV_left_30 : decode b_PV_left 30 = .ok (.aload_n 0, 1) := by decide +kernel
theorem d_PV_left_31 : decode b_PV_left 31 = .ok (.getfield 50, 3) := by decide +kernel
theorem d_PV_left_34 : decode b_PV_left 34 = .ok (.getfield 209, 3) := by decide +kernel
theorem d_PV_left_37 : decode b_PV_left 37 = .ok (.iconst 4, 1) := by decide +kernel
theorem d_PV_left_38 : decode b_PV_left 38 = .ok (.laload, 1) := by decide +kernel
theorem d_PV_left_39 : decode b_PV_left 39 = .ok (.lreturn, 1) := by decide +kernel
theorem d_PV_left_40 : decode b_PV_left 40 = .ok (.iload_n 1, 1) := by decide +kernel
theorem d_PV_left_41 : decode b_PV_left 41 = .ok (.bipush 11, 2) := by decide +kernel
theorem d_PV_left_43 : decode b_PV_left 43 = .ok (.if_icmp .ne 15, 3) := by decide +kernel
theorem d_PV_left_46 : decode b_PV_left 46 = .ok (.aload_n 0, 1) := by decide +kernel
theorem d_PV_left_47 : decode b_PV_left 47 = .ok (.getfield 50, 3) := by decide +kernel
theorem d_PV_left_50 : decode b_PV_left 50 = .ok (.getfield 209, 3) := by decide +kernel
theorem d_PV_left_53 : decode b_PV_left 53 = .ok (.iconst 5, 1) := by decide +kernel
theorem d_PV_left_54 : decode b_PV_left 54 = .ok (.laload, 1) := by decide +kernel
theorem d_PV_left_55 : decode b_PV_left 55 = .ok (.goto 6, 3) := by decide +kernel
theorem d_PV_left_58 : decode b_PV_left 58 = .ok (.ldc2_w 212, 3) := by decide +kernel
theorem d_PV_left_61 : decode b_PV_left 61 = .ok (.lreturn, 1) := by decide +kernel
theorem wf_PV_209 : Cond.fieldLink R_PV 209 R_Mo "rests" "[J" ∈ gw_tbl := gw_tb (List.mem_of_getElem? (i := 260) (by decide +kernel)) rfl
theorem wc_PV_212 : Cond.constantLong R_PV 212 (-1) ∈ gw_tbl := gw_tb (List.mem_of_getElem? (i := 749) (by decide +kernel)) rfl
def f_PV_left_24 (o0 : Ob) (r1 : (Nat → Nat)) (o1 : Ob) (Q : Int64 → Prop) (x1 : Int32) : Prop := (x1 = (10 : Int32) → (Q ((gB o1 8) 4))) ∧ (¬ x1 = (10 : Int32) → ((x1 = (11 : Int32) → (Q ((gB o1 8) 5))) ∧ (¬ x1 = (11 : Int32) → (Q (-1 : Int64)))))
def f_PV_left (a0 : Int32) (o0 : Ob) (r1 : (Nat → Nat)) (o1 : Ob) (Q : Int64 → Prop) : Prop := (a0 < 0 → (f_PV_left_24 o0 r1 o1 Q a0)) ∧ (¬ a0 < 0 → ((((gI o0 0) - (1 : Int32)) ≤ a0 → (f_PV_left_24 o0 r1 o1 Q a0)) ∧ (¬ ((gI o0 0) - (1 : Int32)) ≤ a0 → ((vp_in a0 6) ∧ (Q ((gB o1 8) a0.toNatClampNeg))))))
abbrev rm_PV_left : Room := { frames := 0, cells := 0, slots := 0, locals := 0 }
set_option maxHeartbeats 4000000 in
set_option maxRecDepth 100000 in
theorem t_PV_left_24 {p : Program} {l : Launch} {e : Env} {s : State} {m : MethodId} {args : Array Value} {below : List Frame} {meth : Method} {c : Code} {A : Nat → Prop} {G : Gl} {h0 : Nat} {q0 : Nat → Nat} {q1 : Nat → Nat} (o0 : Ob) (r1 : (Nat → Nat)) (o1 : Ob) (Q : Int64 → Prop) (C : Cx p s m args meth c R_PV b_PV_left 2 (some .long) G A) :
    ∀ (x1 : Int32) (ls : Array Slot) (H : Heap) (locs : List Loc), lv_has ls 2 [(0, .ref h0), (1, .int x1)] → va_P G.1 CL (cw_PV G h0 q0 o0 ++ (cw_Mo G (q0 4) q1 r1 o1)) H → va_D A (cw_PV G h0 q0 o0 ++ (cw_Mo G (q0 4) q1 r1 o1)) → va_S A s.heap H locs → f_PV_left_24 o0 r1 o1 Q x1 → W p l e rm_PV_left s m args below meth c H locs 0 0 (MQ below (va_Ql (fun (r : Int64) (u : Unit) => Q r) (fun (u : Unit) t => BW G A (cw_PV G h0 q0 o0 ++ (cw_Mo G (q0 4) q1 r1 o1)) t) A) args s 0 0 A) (F0 m 24 ls []) := by
  obtain ⟨hx, hb, hml, hown, hr, hts, hK, hA, hlocks, hE⟩ := id C
  intro x1 ls H locs hl hP hD hS h
  have hP : va_P G.1 CL [(h0, .inr (0, [.int (gI o0 0), .ref (q0 1), .ref (q0 2), .ref (q0 3), .ref (q0 4), .ref (q0 5), .ref (q0 6), .ref (q0 7), .ref (q0 8), .ref (q0 9), .ref (q0 10), .ref (q0 11), .ref (q0 12), .ref (q0 13)])), kQ G (q0 3) 3 (fun i => some (q0 (50 + i))), kI G (q0 6) 1000 (gA o0 6), kJ G (q0 7) 2000 (gB o0 7), kI G (q0 13) 5 (gA o0 13), ((q0 4), .inr (5, [.ref (r1 0), .int (gI o1 1), .int (gI o1 2), .ref (q1 3), .ref (q1 4), .ref (q1 5), .ref (q1 6), .ref (q1 7), .ref (q1 8), .ref (q1 9), .ref (q1 10), .int (gI o1 11), .int (gI o1 12)])), kI G (q1 3) 20 (gA o1 3), kI G (q1 4) 20 (gA o1 4), kI G (q1 5) 5 (gA o1 5), kJ G (q1 6) 5 (gB o1 6), kJ G (q1 7) 5 (gB o1 7), kJ G (q1 8) 6 (gB o1 8), kI G (q1 10) 5 (gA o1 10)] H := hP
  have hD : va_D A [(h0, .inr (0, [.int (gI o0 0), .ref (q0 1), .ref (q0 2), .ref (q0 3), .ref (q0 4), .ref (q0 5), .ref (q0 6), .ref (q0 7), .ref (q0 8), .ref (q0 9), .ref (q0 10), .ref (q0 11), .ref (q0 12), .ref (q0 13)])), kQ G (q0 3) 3 (fun i => some (q0 (50 + i))), kI G (q0 6) 1000 (gA o0 6), kJ G (q0 7) 2000 (gB o0 7), kI G (q0 13) 5 (gA o0 13), ((q0 4), .inr (5, [.ref (r1 0), .int (gI o1 1), .int (gI o1 2), .ref (q1 3), .ref (q1 4), .ref (q1 5), .ref (q1 6), .ref (q1 7), .ref (q1 8), .ref (q1 9), .ref (q1 10), .int (gI o1 11), .int (gI o1 12)])), kI G (q1 3) 20 (gA o1 3), kI G (q1 4) 20 (gA o1 4), kI G (q1 5) 5 (gA o1 5), kJ G (q1 6) 5 (gB o1 6), kJ G (q1 7) 5 (gB o1 7), kJ G (q1 8) 6 (gB o1 8), kI G (q1 10) 5 (gA o1 10)] := hD
  unfold f_PV_left_24 at h
  refine lv_iload_n hx hb d_PV_left_24 rfl (lv_at hl 1 rfl) ?_
  refine lv_bipush (v := (10 : Int32)) hx hb d_PV_left_25 (by decide) ?_
  refine lv_icmp_ne (tgt := 40) hx hb d_PV_left_27 (by decide) (fun c1 => ?_) (fun c1 => ?_)
  · have h := h.2 c1
    refine lv_iload_n hx hb d_PV_left_40 rfl (lv_at hl 1 rfl) ?_
    refine lv_bipush (v := (11 : Int32)) hx hb d_PV_left_41 (by decide) ?_
    refine lv_icmp_ne (tgt := 58) hx hb d_PV_left_43 (by decide) (fun c2 => ?_) (fun c2 => ?_)
    · have h := h.2 c2
      refine lv_ldc2 hx hb hown (hts _ wc_PV_212) d_PV_left_58 ?_
      have hP : va_P G.1 CL (cw_PV G h0 q0 o0 ++ (cw_Mo G (q0 4) q1 r1 o1)) H := hP
      have hD : va_D A (cw_PV G h0 q0 o0 ++ (cw_Mo G (q0 4) q1 r1 o1)) := hD
      exact W.lret (v := (-1 : Int64)) hx hb hr (fun t ht hW => ⟨⟨(-1 : Int64), (), rfl, h, by rw [ht]; exact hP, va_K.moved hW.alike hK, hD⟩, hS.F ht⟩) hS.2.2 d_PV_left_61
    · have h := h.1 c2
      refine lv_aload_n hx hb d_PV_left_46 rfl (lv_at hl 0 rfl) ?_
      refine va_get (D := G.1) (ci := 0) (v := .ref (q0 4)) (C := R_PV) (T := T_PV) (N := 14) hx hb hts i_PV hown hK hP 0 rfl rfl 4 (by decide) (hts _ wf_PV_50) (fun _ h9 => h9) rfl d_PV_left_47 ?_
      refine va_get (D := G.1) (ci := 5) (v := .ref (q1 8)) (C := R_Mo) (T := T_Mo) (N := 13) hx hb hts i_Mo hown hK hP 5 rfl rfl 8 (by decide) (hts _ wf_PV_209) (fun _ h9 => h9) rfl d_PV_left_50 ?_
      refine lv_iconst (v := (5 : Int32)) hx hb d_PV_left_53 (by decide) ?_
      refine xa_lald hx hb hK hP 11 1 rfl rfl (vp_lit rfl) (k := 5) rfl d_PV_left_54 ?_
      refine lv_goto (tgt := 61) hx hb d_PV_left_55 (by decide) ?_
      have hP : va_P G.1 CL (cw_PV G h0 q0 o0 ++ (cw_Mo G (q0 4) q1 r1 o1)) H := hP
      have hD : va_D A (cw_PV G h0 q0 o0 ++ (cw_Mo G (q0 4) q1 r1 o1)) := hD
      exact W.lret (v := ((gB o1 8) 5)) hx hb hr (fun t ht hW => ⟨⟨((gB o1 8) 5), (), rfl, h, by rw [ht]; exact hP, va_K.moved hW.alike hK, hD⟩, hS.F ht⟩) hS.2.2 d_PV_left_61
  · have h := h.1 c1
    refine lv_aload_n hx hb d_PV_left_30 rfl (lv_at hl 0 rfl) ?_
    refine va_get (D := G.1) (ci := 0) (v := .ref (q0 4)) (C := R_PV) (T := T_PV) (N := 14) hx hb hts i_PV hown hK hP 0 rfl rfl 4 (by decide) (hts _ wf_PV_50) (fun _ h9 => h9) rfl d_PV_left_31 ?_
    refine va_get (D := G.1) (ci := 5) (v := .ref (q1 8)) (C := R_Mo) (T := T_Mo) (N := 13) hx hb hts i_Mo hown hK hP 5 rfl rfl 8 (by decide) (hts _ wf_PV_209) (fun _ h9 => h9) rfl d_PV_left_34 ?_
    refine lv_iconst (v := (4 : Int32)) hx hb d_PV_left_37 (by decide) ?_
    refine xa_lald hx hb hK hP 11 1 rfl rfl (vp_lit rfl) (k := 4) rfl d_PV_left_38 ?_
    have hP : va_P G.1 CL (cw_PV G h0 q0 o0 ++ (cw_Mo G (q0 4) q1 r1 o1)) H := hP
    have hD : va_D A (cw_PV G h0 q0 o0 ++ (cw_Mo G (q0 4) q1 r1 o1)) := hD
    exact W.lret (v := ((gB o1 8) 4)) hx hb hr (fun t ht hW => ⟨⟨((gB o1 8) 4), (), rfl, h, by rw [ht]; exact hP, va_K.moved hW.alike hK, hD⟩, hS.F ht⟩) hS.2.2 d_PV_left_39
set_option maxHeartbeats 4000000 in
set_option maxRecDepth 100000 in
theorem c_PV_left {l : Launch} {G : Gl} {h0 : Nat} {q0 : Nat → Nat} {q1 : Nat → Nat} {a0 : Int32} {o0 : Ob} {r1 : (Nat → Nat)} {o1 : Ob} {Q : Int64 → Prop} (sz : Nat) (h : f_PV_left a0 o0 r1 o1 Q) : Met l y_PV_left w_PV_left rm_PV_left (PcW G [.ref h0, .int a0] sz (cw_PV G h0 q0 o0 ++ (cw_Mo G (q0 4) q1 r1 o1))) (va_Ql (fun (r : Int64) (u : Unit) => Q r) (fun (u : Unit) t => BW G (va_A (cw_PV G h0 q0 o0 ++ (cw_Mo G (q0 4) q1 r1 o1)) sz) (cw_PV G h0 q0 o0 ++ (cw_Mo G (q0 4) q1 r1 o1)) t) (va_A (cw_PV G h0 q0 o0 ++ (cw_Mo G (q0 4) q1 r1 o1)) sz)) 0 0 (va_A (cw_PV G h0 q0 o0 ++ (cw_Mo G (q0 4) q1 r1 o1)) sz) := by
  refine Met.ofW (cc := b_PV_left) (maxL := 2) (ret := (some .long)) (by decide +kernel) rfl ?_
  intro p e s m args below meth c s₁ B hml hv
  obtain ⟨rfl, hsz, hP, hK, hD0, hE⟩ := hv
  have hx := B.exec
  have hb := B.bytes
  have hr := B.returns
  have hts0 := atoms_spec (ws := w_PV_left) B.pre
  have hts : ∀ w ∈ gw_tbl, w.before ([.ref h0, .int a0]).toArray s = true := fun w hw => hts0 w (List.mem_cons_of_mem _ hw)
  have hown : s.vm.findClass R_PV = some m.cls := findClass_of_methodNamed B.named
  have hlocks := B.notSynchronized
  subst hsz
  have hD := hD0.self (sz := s.heap.size)
  generalize hAe : va_A (cw_PV G h0 q0 o0 ++ (cw_Mo G (q0 4) q1 r1 o1)) s.heap.size = A at hD hE ⊢
  have hA : ∀ q : Nat, s.heap.size ≤ q → A q := fun q h => by rw [← hAe]; exact Or.inr h
  have hS : va_S A s.heap s.heap [] := va_S.rf
  have C : Cx p s m ([.ref h0, .int a0]).toArray meth c R_PV b_PV_left 2 (some .long) G A := ⟨hx, hb, hml, hown, hr, hts, hK, hA, hlocks, hE⟩
  have hl := lv_entry ([.ref h0, .int a0]) (n := 2) (Nat.le_of_ble_eq_true rfl)
  rw [lg_entry_eq]
  generalize (lg_sl ([.ref h0, .int a0]) ++ List.replicate (2 - (lg_sl ([.ref h0, .int a0])).length) Slot.unset).toArray = ls at hl ⊢
  have hl : lv_has ls 2 [(0, .ref h0), (1, .int a0)] := hl
  have hD : va_D A [(h0, .inr (0, [.int (gI o0 0), .ref (q0 1), .ref (q0 2), .ref (q0 3), .ref (q0 4), .ref (q0 5), .ref (q0 6), .ref (q0 7), .ref (q0 8), .ref (q0 9), .ref (q0 10), .ref (q0 11), .ref (q0 12), .ref (q0 13)])), kQ G (q0 3) 3 (fun i => some (q0 (50 + i))), kI G (q0 6) 1000 (gA o0 6), kJ G (q0 7) 2000 (gB o0 7), kI G (q0 13) 5 (gA o0 13), ((q0 4), .inr (5, [.ref (r1 0), .int (gI o1 1), .int (gI o1 2), .ref (q1 3), .ref (q1 4), .ref (q1 5), .ref (q1 6), .ref (q1 7), .ref (q1 8), .ref (q1 9), .ref (q1 10), .int (gI o1 11), .int (gI o1 12)])), kI G (q1 3) 20 (gA o1 3), kI G (q1 4) 20 (gA o1 4), kI G (q1 5) 5 (gA o1 5), kJ G (q1 6) 5 (gB o1 6), kJ G (q1 7) 5 (gB o1 7), kJ G (q1 8) 6 (gB o1 8), kI G (q1 10) 5 (gA o1 10)] := hD
  unfold f_PV_left at h
  suffices key : ∀ (H : Heap) (locs : List Loc), va_P G.1 CL [(h0, .inr (0, [.int (gI o0 0), .ref (q0 1), .ref (q0 2), .ref (q0 3), .ref (q0 4), .ref (q0 5), .ref (q0 6), .ref (q0 7), .ref (q0 8), .ref (q0 9), .ref (q0 10), .ref (q0 11), .ref (q0 12), .ref (q0 13)])), kQ G (q0 3) 3 (fun i => some (q0 (50 + i))), kI G (q0 6) 1000 (gA o0 6), kJ G (q0 7) 2000 (gB o0 7), kI G (q0 13) 5 (gA o0 13), ((q0 4), .inr (5, [.ref (r1 0), .int (gI o1 1), .int (gI o1 2), .ref (q1 3), .ref (q1 4), .ref (q1 5), .ref (q1 6), .ref (q1 7), .ref (q1 8), .ref (q1 9), .ref (q1 10), .int (gI o1 11), .int (gI o1 12)])), kI G (q1 3) 20 (gA o1 3), kI G (q1 4) 20 (gA o1 4), kI G (q1 5) 5 (gA o1 5), kJ G (q1 6) 5 (gB o1 6), kJ G (q1 7) 5 (gB o1 7), kJ G (q1 8) 6 (gB o1 8), kI G (q1 10) 5 (gA o1 10)] H → va_S A s.heap H locs → W p l e rm_PV_left s m ([.ref h0, .int a0]).toArray below meth c H locs 0 0 (MQ below (va_Ql (fun (r : Int64) (u : Unit) => Q r) (fun (u : Unit) t => BW G A (cw_PV G h0 q0 o0 ++ (cw_Mo G (q0 4) q1 r1 o1)) t) A) ([.ref h0, .int a0]).toArray s 0 0 A) (F0 m 0 ls []) from key s.heap [] hP hS
  intro H locs hP hS
  refine lv_iload_n hx hb d_PV_left_0 rfl (lv_at hl 1 rfl) ?_
  refine lv_if_lt (tgt := 24) hx hb d_PV_left_1 (by decide) (fun c3 => ?_) (fun c3 => ?_)
  · have h := h.1 c3
    have hl := lv_sub (l' := [(0, .ref h0), (1, .int a0)]) hl [0, 1] rfl
    have hP : va_P G.1 CL (cw_PV G h0 q0 o0 ++ (cw_Mo G (q0 4) q1 r1 o1)) H := hP
    have hD : va_D A (cw_PV G h0 q0 o0 ++ (cw_Mo G (q0 4) q1 r1 o1)) := hD
    exact t_PV_left_24 o0 r1 o1 Q C a0 ls _ locs hl hP hD hS h
  · have h := h.2 c3
    refine lv_iload_n hx hb d_PV_left_4 rfl (lv_at hl 1 rfl) ?_
    refine lv_aload_n hx hb d_PV_left_5 rfl (lv_at hl 0 rfl) ?_
    refine va_get (D := G.1) (ci := 0) (v := .int (gI o0 0)) (C := R_PV) (T := T_PV) (N := 14) hx hb hts i_PV hown hK hP 0 rfl rfl 0 (by decide) (hts _ wf_PV_18) (fun _ h9 => h9) rfl d_PV_left_6 ?_
    refine lv_iconst (v := (1 : Int32)) hx hb d_PV_left_9 (by decide) ?_
    refine lv_isub hx hb d_PV_left_10 ?_
    refine lv_icmp_ge (tgt := 24) hx hb d_PV_left_11 (by decide) (fun c4 => ?_) (fun c4 => ?_)
    · have h := h.1 c4
      have hl := lv_sub (l' := [(0, .ref h0), (1, .int a0)]) hl [0, 1] rfl
      have hP : va_P G.1 CL (cw_PV G h0 q0 o0 ++ (cw_Mo G (q0 4) q1 r1 o1)) H := hP
      have hD : va_D A (cw_PV G h0 q0 o0 ++ (cw_Mo G (q0 4) q1 r1 o1)) := hD
      exact t_PV_left_24 o0 r1 o1 Q C a0 ls _ locs hl hP hD hS h
    · have h := h.2 c4
      refine lv_aload_n hx hb d_PV_left_14 rfl (lv_at hl 0 rfl) ?_
      refine va_get (D := G.1) (ci := 0) (v := .ref (q0 4)) (C := R_PV) (T := T_PV) (N := 14) hx hb hts i_PV hown hK hP 0 rfl rfl 4 (by decide) (hts _ wf_PV_50) (fun _ h9 => h9) rfl d_PV_left_15 ?_
      refine va_get (D := G.1) (ci := 5) (v := .ref (q1 8)) (C := R_Mo) (T := T_Mo) (N := 13) hx hb hts i_Mo hown hK hP 5 rfl rfl 8 (by decide) (hts _ wf_PV_209) (fun _ h9 => h9) rfl d_PV_left_18 ?_
      refine lv_iload_n hx hb d_PV_left_21 rfl (lv_at hl 1 rfl) ?_
      have g5 := h.1
      have h := h.2
      refine xa_lald hx hb hK hP 11 1 rfl rfl g5 (k := a0.toNatClampNeg) rfl d_PV_left_22 ?_
      have hP : va_P G.1 CL (cw_PV G h0 q0 o0 ++ (cw_Mo G (q0 4) q1 r1 o1)) H := hP
      have hD : va_D A (cw_PV G h0 q0 o0 ++ (cw_Mo G (q0 4) q1 r1 o1)) := hD
      exact W.lret (v := ((gB o1 8) a0.toNatClampNeg)) hx hb hr (fun t ht hW => ⟨⟨((gB o1 8) a0.toNatClampNeg), (), rfl, h, by rw [ht]; exact hP, va_K.moved hW.alike hK, hD⟩, hS.F ht⟩) hS.2.2 d_PV_left_23
abbrev b_PV_foldsOf : ByteArray := prog_1_method_15_code
def y_PV_foldsOf : MethodName := ⟨R_PV, "foldsOf", "(I)I"⟩
abbrev w_PV_foldsOf : List Cond := Cond.code y_PV_foldsOf b_PV_foldsOf 2 (some .int) :: gw_tbl
theorem d_PV_foldsOf_0 : decode b_PV_foldsOf 0 = .ok (.iload_n 1, 1) := by decide +kernel
theorem d_PV_foldsOf_1 : decode b_PV_foldsOf 1 = .ok (.tableswitch 75 0 3 #[31, 42, 53, 64], 31) := by decide +kernel
theorem d_PV_foldsOf_32 : decode b_PV_foldsOf 32 = .ok (.aload_n 0, 1) := by decide +kernel
theorem d_PV_foldsOf_33 : decode b_PV_foldsOf 33 = .ok (.getfield 50, 3) := by decide +kernel
theorem d_PV_foldsOf_36 : decode b_PV_foldsOf 36 = .ok (.getfield 179, 3) := by decide +kernel
theorem d_PV_foldsOf_39 : decode b_PV_foldsOf 39 = .ok (.getfield 214, 3) := by decide +kernel
theorem d_PV_foldsOf_42 : decode b_PV_foldsOf 42 = .ok (.ireturn, 1) := by decide +kernel
theorem d_PV_foldsOf_43 : decode b_PV_foldsOf 43 = .ok (.aload_n 0, 1) := by decide +kernel
theorem d_PV_foldsOf_44 : decode b_PV_foldsOf 44 = .ok (.getfield 50, 3) := by decide +kernel
theorem d_PV_foldsOf_47 : decode b_PV_foldsOf 47 = .ok (.getfield 179, 3) := by decide +kernel
theorem d_PV_foldsOf_50 : decode b_PV_foldsOf 50 = .ok (.getfield 217, 3) := by decide +kernel
theorem d_PV_foldsOf_53 : decode b_PV_foldsOf 53 = .ok (.ireturn, 1) := by decide +kernel
theorem d_PV_foldsOf_54 : decode b_PV_foldsOf 54 = .ok (.aload_n 0, 1) := by decide +kernel
theorem d_PV_foldsOf_55 : decode b_PV_foldsOf 55 = .ok (.getfield 50, 3) := by decide +kernel
theorem d_PV_foldsOf_58 : decode b_PV_foldsOf 58 = .ok (.getfield 179, 3) := by decide +kernel
theorem d_PV_foldsOf_61 : decode b_PV_foldsOf 61 = .ok (.getfield 220, 3) := by decide +kernel
theorem d_PV_foldsOf_64 : decode b_PV_foldsOf 64 = .ok (.ireturn, 1) := by decide +kernel
theorem d_PV_foldsOf_65 : decode b_PV_foldsOf 65 = .ok (.aload_n 0, 1) := by decide +kernel
theorem d_PV_foldsOf_66 : decode b_PV_foldsOf 66 = .ok (.getfield 50, 3) := by decide +kernel
theorem d_PV_foldsOf_69 : decode b_PV_foldsOf 69 = .ok (.getfield 179, 3) := by decide +kernel
theorem d_PV_foldsOf_72 : decode b_PV_foldsOf 72 = .ok (.getfield 223, 3) := by decide +kernel
theorem d_PV_foldsOf_75 : decode b_PV_foldsOf 75 = .ok (.ireturn, 1) := by decide +kernel
theorem d_PV_foldsOf_76 : decode b_PV_foldsOf 76 = .ok (.bipush (-100), 2) := by decide +kernel
theorem d_PV_foldsOf_78 : decode b_PV_foldsOf 78 = .ok (.ireturn, 1) := by decide +kernel
theorem wf_PV_214 : Cond.fieldLink R_PV 214 R_Fo "gap" "I" ∈ gw_tbl := gw_tb (List.mem_of_getElem? (i := 202) (by decide +kernel)) rfl
theorem wf_PV_217 : Cond.fieldLink R_PV 217 R_Fo "pace" "I" ∈ gw_tbl := gw_tb (List.mem_of_getElem? (i := 204) (by decide +kernel)) rfl
theorem wf_PV_220 : Cond.fieldLink R_PV 220 R_Fo "strain" "I" ∈ gw_tbl := gw_tb (List.mem_of_getElem? (i := 213) (by decide +kernel)) rfl
theorem wf_PV_223 : Cond.fieldLink R_PV 223 R_Fo "met" "I" ∈ gw_tbl := gw_tb (List.mem_of_getElem? (i := 216) (by decide +kernel)) rfl
def f_PV_foldsOf (a0 : Int32) (o0 : Ob) (r1 : (Nat → Nat)) (o1 : Ob) (o2 : Ob) (Q : Int32 → Prop) : Prop := (a0 = (0 : Int32) → (Q (gI o2 0))) ∧ (¬ a0 = (0 : Int32) → ((a0 = (1 : Int32) → (Q (gI o2 1))) ∧ (¬ a0 = (1 : Int32) → ((a0 = (2 : Int32) → (Q (gI o2 5))) ∧ (¬ a0 = (2 : Int32) → ((a0 = (3 : Int32) → (Q (gI o2 6))) ∧ (¬ a0 = (3 : Int32) → (Q (-100 : Int32)))))))))
abbrev rm_PV_foldsOf : Room := { frames := 0, cells := 0, slots := 0, locals := 0 }
set_option maxHeartbeats 4000000 in
set_option maxRecDepth 100000 in
theorem c_PV_foldsOf {l : Launch} {G : Gl} {h0 : Nat} {q0 : Nat → Nat} {q1 : Nat → Nat} {q2 : Nat → Nat} {a0 : Int32} {o0 : Ob} {r1 : (Nat → Nat)} {o1 : Ob} {o2 : Ob} {Q : Int32 → Prop} (sz : Nat) (h : f_PV_foldsOf a0 o0 r1 o1 o2 Q) : Met l y_PV_foldsOf w_PV_foldsOf rm_PV_foldsOf (PcW G [.ref h0, .int a0] sz (cw_PV G h0 q0 o0 ++ (cw_Mo G (q0 4) q1 r1 o1 ++ (cw_Fo G (q1 9) q2 o2)))) (va_Qi (fun (r : Int32) (u : Unit) => Q r) (fun (u : Unit) t => BW G (va_A (cw_PV G h0 q0 o0 ++ (cw_Mo G (q0 4) q1 r1 o1 ++ (cw_Fo G (q1 9) q2 o2))) sz) (cw_PV G h0 q0 o0 ++ (cw_Mo G (q0 4) q1 r1 o1 ++ (cw_Fo G (q1 9) q2 o2))) t) (va_A (cw_PV G h0 q0 o0 ++ (cw_Mo G (q0 4) q1 r1 o1 ++ (cw_Fo G (q1 9) q2 o2))) sz)) 0 0 (va_A (cw_PV G h0 q0 o0 ++ (cw_Mo G (q0 4) q1 r1 o1 ++ (cw_Fo G (q1 9) q2 o2))) sz) := by
  refine Met.ofW (cc := b_PV_foldsOf) (maxL := 2) (ret := (some .int)) (by decide +kernel) rfl ?_
  intro p e s m args below meth c s₁ B hml hv
  obtain ⟨rfl, hsz, hP, hK, hD0, hE⟩ := hv
  have hx := B.exec
  have hb := B.bytes
  have hr := B.returns
  have hts0 := atoms_spec (ws := w_PV_foldsOf) B.pre
  have hts : ∀ w ∈ gw_tbl, w.before ([.ref h0, .int a0]).toArray s = true := fun w hw => hts0 w (List.mem_cons_of_mem _ hw)
  have hown : s.vm.findClass R_PV = some m.cls := findClass_of_methodNamed B.named
  have hlocks := B.notSynchronized
  subst hsz
  have hD := hD0.self (sz := s.heap.size)
  generalize hAe : va_A (cw_PV G h0 q0 o0 ++ (cw_Mo G (q0 4) q1 r1 o1 ++ (cw_Fo G (q1 9) q2 o2))) s.heap.size = A at hD hE ⊢
  have hA : ∀ q : Nat, s.heap.size ≤ q → A q := fun q h => by rw [← hAe]; exact Or.inr h
  have hS : va_S A s.heap s.heap [] := va_S.rf
  have C : Cx p s m ([.ref h0, .int a0]).toArray meth c R_PV b_PV_foldsOf 2 (some .int) G A := ⟨hx, hb, hml, hown, hr, hts, hK, hA, hlocks, hE⟩
  have hl := lv_entry ([.ref h0, .int a0]) (n := 2) (Nat.le_of_ble_eq_true rfl)
  rw [lg_entry_eq]
  generalize (lg_sl ([.ref h0, .int a0]) ++ List.replicate (2 - (lg_sl ([.ref h0, .int a0])).length) Slot.unset).toArray = ls at hl ⊢
  have hl : lv_has ls 2 [(0, .ref h0), (1, .int a0)] := hl
  have hD : va_D A [(h0, .inr (0, [.int (gI o0 0), .ref (q0 1), .ref (q0 2), .ref (q0 3), .ref (q0 4), .ref (q0 5), .ref (q0 6), .ref (q0 7), .ref (q0 8), .ref (q0 9), .ref (q0 10), .ref (q0 11), .ref (q0 12), .ref (q0 13)])), kQ G (q0 3) 3 (fun i => some (q0 (50 + i))), kI G (q0 6) 1000 (gA o0 6), kJ G (q0 7) 2000 (gB o0 7), kI G (q0 13) 5 (gA o0 13), ((q0 4), .inr (5, [.ref (r1 0), .int (gI o1 1), .int (gI o1 2), .ref (q1 3), .ref (q1 4), .ref (q1 5), .ref (q1 6), .ref (q1 7), .ref (q1 8), .ref (q1 9), .ref (q1 10), .int (gI o1 11), .int (gI o1 12)])), kI G (q1 3) 20 (gA o1 3), kI G (q1 4) 20 (gA o1 4), kI G (q1 5) 5 (gA o1 5), kJ G (q1 6) 5 (gB o1 6), kJ G (q1 7) 5 (gB o1 7), kJ G (q1 8) 6 (gB o1 8), kI G (q1 10) 5 (gA o1 10), ((q1 9), .inr (1, [.int (gI o2 0), .int (gI o2 1), .int (gI o2 2), .int (gI o2 3), .int (gI o2 4), .int (gI o2 5), .int (gI o2 6)]))] := hD
  unfold f_PV_foldsOf at h
  suffices key : ∀ (H : Heap) (locs : List Loc), va_P G.1 CL [(h0, .inr (0, [.int (gI o0 0), .ref (q0 1), .ref (q0 2), .ref (q0 3), .ref (q0 4), .ref (q0 5), .ref (q0 6), .ref (q0 7), .ref (q0 8), .ref (q0 9), .ref (q0 10), .ref (q0 11), .ref (q0 12), .ref (q0 13)])), kQ G (q0 3) 3 (fun i => some (q0 (50 + i))), kI G (q0 6) 1000 (gA o0 6), kJ G (q0 7) 2000 (gB o0 7), kI G (q0 13) 5 (gA o0 13), ((q0 4), .inr (5, [.ref (r1 0), .int (gI o1 1), .int (gI o1 2), .ref (q1 3), .ref (q1 4), .ref (q1 5), .ref (q1 6), .ref (q1 7), .ref (q1 8), .ref (q1 9), .ref (q1 10), .int (gI o1 11), .int (gI o1 12)])), kI G (q1 3) 20 (gA o1 3), kI G (q1 4) 20 (gA o1 4), kI G (q1 5) 5 (gA o1 5), kJ G (q1 6) 5 (gB o1 6), kJ G (q1 7) 5 (gB o1 7), kJ G (q1 8) 6 (gB o1 8), kI G (q1 10) 5 (gA o1 10), ((q1 9), .inr (1, [.int (gI o2 0), .int (gI o2 1), .int (gI o2 2), .int (gI o2 3), .int (gI o2 4), .int (gI o2 5), .int (gI o2 6)]))] H → va_S A s.heap H locs → W p l e rm_PV_foldsOf s m ([.ref h0, .int a0]).toArray below meth c H locs 0 0 (MQ below (va_Qi (fun (r : Int32) (u : Unit) => Q r) (fun (u : Unit) t => BW G A (cw_PV G h0 q0 o0 ++ (cw_Mo G (q0 4) q1 r1 o1 ++ (cw_Fo G (q1 9) q2 o2))) t) A) ([.ref h0, .int a0]).toArray s 0 0 A) (F0 m 0 ls []) from key s.heap [] hP hS
  intro H locs hP hS
  refine lv_iload_n hx hb d_PV_foldsOf_0 rfl (lv_at hl 1 rfl) ?_
  by_cases c1 : a0 = (0 : Int32)
  · have h := h.1 c1
    refine lv_tableIn (tgt := 32) hx hb d_PV_foldsOf_1 (by rw [c1]; decide) (by rw [c1]; decide) (off := 31) (by rw [c1]; rfl) (by decide) ?_
    refine lv_aload_n hx hb d_PV_foldsOf_32 rfl (lv_at hl 0 rfl) ?_
    refine va_get (D := G.1) (ci := 0) (v := .ref (q0 4)) (C := R_PV) (T := T_PV) (N := 14) hx hb hts i_PV hown hK hP 0 rfl rfl 4 (by decide) (hts _ wf_PV_50) (fun _ h9 => h9) rfl d_PV_foldsOf_33 ?_
    refine va_get (D := G.1) (ci := 5) (v := .ref (q1 9)) (C := R_Mo) (T := T_Mo) (N := 13) hx hb hts i_Mo hown hK hP 5 rfl rfl 9 (by decide) (hts _ wf_PV_179) (fun _ h9 => h9) rfl d_PV_foldsOf_36 ?_
    refine va_get (D := G.1) (ci := 1) (v := .int (gI o2 0)) (C := R_Fo) (T := T_Fo) (N := 7) hx hb hts i_Fo hown hK hP 13 rfl rfl 0 (by decide) (hts _ wf_PV_214) (fun _ h9 => h9) rfl d_PV_foldsOf_39 ?_
    have hP : va_P G.1 CL (cw_PV G h0 q0 o0 ++ (cw_Mo G (q0 4) q1 r1 o1 ++ (cw_Fo G (q1 9) q2 o2))) H := hP
    have hD : va_D A (cw_PV G h0 q0 o0 ++ (cw_Mo G (q0 4) q1 r1 o1 ++ (cw_Fo G (q1 9) q2 o2))) := hD
    exact W.iret (v := (gI o2 0)) hx hb hr (fun t ht hW => ⟨⟨(gI o2 0), (), rfl, h, by rw [ht]; exact hP, va_K.moved hW.alike hK, hD⟩, hS.F ht⟩) hS.2.2 d_PV_foldsOf_42
  have h := h.2 c1
  by_cases c2 : a0 = (1 : Int32)
  · have h := h.1 c2
    refine lv_tableIn (tgt := 43) hx hb d_PV_foldsOf_1 (by rw [c2]; decide) (by rw [c2]; decide) (off := 42) (by rw [c2]; rfl) (by decide) ?_
    refine lv_aload_n hx hb d_PV_foldsOf_43 rfl (lv_at hl 0 rfl) ?_
    refine va_get (D := G.1) (ci := 0) (v := .ref (q0 4)) (C := R_PV) (T := T_PV) (N := 14) hx hb hts i_PV hown hK hP 0 rfl rfl 4 (by decide) (hts _ wf_PV_50) (fun _ h9 => h9) rfl d_PV_foldsOf_44 ?_
    refine va_get (D := G.1) (ci := 5) (v := .ref (q1 9)) (C := R_Mo) (T := T_Mo) (N := 13) hx hb hts i_Mo hown hK hP 5 rfl rfl 9 (by decide) (hts _ wf_PV_179) (fun _ h9 => h9) rfl d_PV_foldsOf_47 ?_
    refine va_get (D := G.1) (ci := 1) (v := .int (gI o2 1)) (C := R_Fo) (T := T_Fo) (N := 7) hx hb hts i_Fo hown hK hP 13 rfl rfl 1 (by decide) (hts _ wf_PV_217) (fun _ h9 => h9) rfl d_PV_foldsOf_50 ?_
    have hP : va_P G.1 CL (cw_PV G h0 q0 o0 ++ (cw_Mo G (q0 4) q1 r1 o1 ++ (cw_Fo G (q1 9) q2 o2))) H := hP
    have hD : va_D A (cw_PV G h0 q0 o0 ++ (cw_Mo G (q0 4) q1 r1 o1 ++ (cw_Fo G (q1 9) q2 o2))) := hD
    exact W.iret (v := (gI o2 1)) hx hb hr (fun t ht hW => ⟨⟨(gI o2 1), (), rfl, h, by rw [ht]; exact hP, va_K.moved hW.alike hK, hD⟩, hS.F ht⟩) hS.2.2 d_PV_foldsOf_53
  have h := h.2 c2
  by_cases c3 : a0 = (2 : Int32)
  · have h := h.1 c3
    refine lv_tableIn (tgt := 54) hx hb d_PV_foldsOf_1 (by rw [c3]; decide) (by rw [c3]; decide) (off := 53) (by rw [c3]; rfl) (by decide) ?_
    refine lv_aload_n hx hb d_PV_foldsOf_54 rfl (lv_at hl 0 rfl) ?_
    refine va_get (D := G.1) (ci := 0) (v := .ref (q0 4)) (C := R_PV) (T := T_PV) (N := 14) hx hb hts i_PV hown hK hP 0 rfl rfl 4 (by decide) (hts _ wf_PV_50) (fun _ h9 => h9) rfl d_PV_foldsOf_55 ?_
    refine va_get (D := G.1) (ci := 5) (v := .ref (q1 9)) (C := R_Mo) (T := T_Mo) (N := 13) hx hb hts i_Mo hown hK hP 5 rfl rfl 9 (by decide) (hts _ wf_PV_179) (fun _ h9 => h9) rfl d_PV_foldsOf_58 ?_
    refine va_get (D := G.1) (ci := 1) (v := .int (gI o2 5)) (C := R_Fo) (T := T_Fo) (N := 7) hx hb hts i_Fo hown hK hP 13 rfl rfl 5 (by decide) (hts _ wf_PV_220) (fun _ h9 => h9) rfl d_PV_foldsOf_61 ?_
    have hP : va_P G.1 CL (cw_PV G h0 q0 o0 ++ (cw_Mo G (q0 4) q1 r1 o1 ++ (cw_Fo G (q1 9) q2 o2))) H := hP
    have hD : va_D A (cw_PV G h0 q0 o0 ++ (cw_Mo G (q0 4) q1 r1 o1 ++ (cw_Fo G (q1 9) q2 o2))) := hD
    exact W.iret (v := (gI o2 5)) hx hb hr (fun t ht hW => ⟨⟨(gI o2 5), (), rfl, h, by rw [ht]; exact hP, va_K.moved hW.alike hK, hD⟩, hS.F ht⟩) hS.2.2 d_PV_foldsOf_64
  have h := h.2 c3
  by_cases c4 : a0 = (3 : Int32)
  · have h := h.1 c4
    refine lv_tableIn (tgt := 65) hx hb d_PV_foldsOf_1 (by rw [c4]; decide) (by rw [c4]; decide) (off := 64) (by rw [c4]; rfl) (by decide) ?_
    refine lv_aload_n hx hb d_PV_foldsOf_65 rfl (lv_at hl 0 rfl) ?_
    refine va_get (D := G.1) (ci := 0) (v := .ref (q0 4)) (C := R_PV) (T := T_PV) (N := 14) hx hb hts i_PV hown hK hP 0 rfl rfl 4 (by decide) (hts _ wf_PV_50) (fun _ h9 => h9) rfl d_PV_foldsOf_66 ?_
    refine va_get (D := G.1) (ci := 5) (v := .ref (q1 9)) (C := R_Mo) (T := T_Mo) (N := 13) hx hb hts i_Mo hown hK hP 5 rfl rfl 9 (by decide) (hts _ wf_PV_179) (fun _ h9 => h9) rfl d_PV_foldsOf_69 ?_
    refine va_get (D := G.1) (ci := 1) (v := .int (gI o2 6)) (C := R_Fo) (T := T_Fo) (N := 7) hx hb hts i_Fo hown hK hP 13 rfl rfl 6 (by decide) (hts _ wf_PV_223) (fun _ h9 => h9) rfl d_PV_foldsOf_72 ?_
    have hP : va_P G.1 CL (cw_PV G h0 q0 o0 ++ (cw_Mo G (q0 4) q1 r1 o1 ++ (cw_Fo G (q1 9) q2 o2))) H := hP
    have hD : va_D A (cw_PV G h0 q0 o0 ++ (cw_Mo G (q0 4) q1 r1 o1 ++ (cw_Fo G (q1 9) q2 o2))) := hD
    exact W.iret (v := (gI o2 6)) hx hb hr (fun t ht hW => ⟨⟨(gI o2 6), (), rfl, h, by rw [ht]; exact hP, va_K.moved hW.alike hK, hD⟩, hS.F ht⟩) hS.2.2 d_PV_foldsOf_75
  have h := h.2 c4
  refine lv_tableOut (tgt := 76) hx hb d_PV_foldsOf_1 (sw_out a0 [(0 : Int32), (1 : Int32), (2 : Int32), (3 : Int32)] rfl (by intro k hk; simp only [List.mem_cons, List.not_mem_nil, or_false] at hk; rcases hk with rfl | rfl | rfl | rfl <;> assumption)) (by decide) ?_
  refine lv_bipush (v := (-100 : Int32)) hx hb d_PV_foldsOf_76 (by decide) ?_
  have hP : va_P G.1 CL (cw_PV G h0 q0 o0 ++ (cw_Mo G (q0 4) q1 r1 o1 ++ (cw_Fo G (q1 9) q2 o2))) H := hP
  have hD : va_D A (cw_PV G h0 q0 o0 ++ (cw_Mo G (q0 4) q1 r1 o1 ++ (cw_Fo G (q1 9) q2 o2))) := hD
  exact W.iret (v := (-100 : Int32)) hx hb hr (fun t ht hW => ⟨⟨(-100 : Int32), (), rfl, h, by rw [ht]; exact hP, va_K.moved hW.alike hK, hD⟩, hS.F ht⟩) hS.2.2 d_PV_foldsOf_78
abbrev b_PV_rhythm : ByteArray := prog_1_method_16_code
def y_PV_rhythm : MethodName := ⟨R_PV, "rhythm", "(II)I"⟩
abbrev w_PV_rhythm : List Cond := Cond.code y_PV_rhythm b_PV_rhythm 3 (some .int) :: gw_tbl
theorem d_PV_rhythm_0 : decode b_PV_rhythm 0 = .ok (.iload_n 1, 1) := by decide +kernel
theorem d_PV_rhythm_1 : decode b_PV_rhythm 1 = .ok (.invokestatic 176, 3) := by decide +kernel
theorem d_PV_rhythm_4 : decode b_PV_rhythm 4 = .ok (.ifCond .eq 12, 3) := by decide +kernel
theorem d_PV_rhythm_7 : decode b_PV_rhythm 7 = .ok (.iload_n 2, 1) := by decide +kernel
theorem d_PV_rhythm_8 : decode b_PV_rhythm 8 = .ok (.ifCond .lt 8, 3) := by decide +kernel
theorem d_PV_rhythm_11 : decode b_PV_rhythm 11 = .ok (.iload_n 2, 1) := by decide +kernel
theorem d_PV_rhythm_12 : decode b_PV_rhythm 12 = .ok (.iconst 3, 1) := by decide +kernel
theorem d_PV_rhythm_13 : decode b_PV_rhythm 13 = .ok (.if_icmp .le 5, 3) := by decide +kernel
theorem d_PV_rhythm_16 : decode b_PV_rhythm 16 = .ok (.iconst (-1), 1) := by decide +kernel
theorem d_PV_rhythm_17 : decode b_PV_rhythm 17 = .ok (.ireturn, 1) := by decide +kernel
theorem d_PV_rhythm_18 : decode b_PV_rhythm 18 = .ok (.aload_n 0, 1) := by decide +kernel
theorem d_PV_rhythm_19 : decode b_PV_rhythm 19 = .ok (.getfield 91, 3) := by decide +kernel
theorem d_PV_rhythm_22 : decode b_PV_rhythm 22 = .ok (.iload_n 1, 1) := by decide +kernel
theorem d_PV_rhythm_23 : decode b_PV_rhythm 23 = .ok (.aload_n 0, 1) := by decide +kernel
theorem d_PV_rhythm_24 : decode b_PV_rhythm 24 = .ok (.getfield 50, 3) := by decide +kernel
theorem d_PV_rhythm_27 : decode b_PV_rhythm 27 = .ok (.getfield 179, 3) := by decide +kernel
theorem d_PV_rhythm_30 : decode b_PV_rhythm 30 = .ok (.getfield 188, 3) := by decide +kernel
theorem d_PV_rhythm_33 : decode b_PV_rhythm 33 = .ok (.aload_n 0, 1) := by decide +kernel
theorem d_PV_rhythm_34 : decode b_PV_rhythm 34 = .ok (.getfield 50, 3) := by decide +kernel
theorem d_PV_rhythm_37 : decode b_PV_rhythm 37 = .ok (.getfield 179, 3) := by decide +kernel
theorem d_PV_rhythm_40 : decode b_PV_rhythm 40 = .ok (.getfield 191, 3) := by decide +kernel
theorem d_PV_rhythm_43 : decode b_PV_rhythm 43 = .ok (.invokevirtual 226, 3) := by decide +kernel
theorem d_PV_rhythm_46 : decode b_PV_rhythm 46 = .ok (.iload_n 2, 1) := by decide +kernel
theorem d_PV_rhythm_47 : decode b_PV_rhythm 47 = .ok (.tableswitch 49 0 2 #[25, 33, 41], 25) := by decide +kernel
theorem d_PV_rhythm_72 : decode b_PV_rhythm 72 = .ok (.aload_n 0, 1) := by decide +kernel
theorem d_PV_rhythm_73 : decode b_PV_rhythm 73 = .ok (.getfield 91, 3) := by decide +kernel
theorem d_PV_rhythm_76 : decode b_PV_rhythm 76 = .ok (.getfield 230, 3) := by decide +kernel
theorem d_PV_rhythm_79 : decode b_PV_rhythm 79 = .ok (.ireturn, 1) := by decide +kernel
theorem d_PV_rhythm_80 : decode b_PV_rhythm 80 = .ok (.aload_n 0, 1) := by decide +kernel
theorem d_PV_rhythm_81 : decode b_PV_rhythm 81 = .ok (.getfield 91, 3) := by decide +kernel
theorem d_PV_rhythm_84 : decode b_PV_rhythm 84 = .ok (.getfield 233, 3) := by decide +kernel
theorem d_PV_rhythm_87 : decode b_PV_rhythm 87 = .ok (.ireturn, 1) := by decide +kernel
theorem d_PV_rhythm_88 : decode b_PV_rhythm 88 = .ok (.aload_n 0, 1) := by decide +kernel
theorem d_PV_rhythm_89 : decode b_PV_rhythm 89 = .ok (.getfield 91, 3) := by decide +kernel
theorem d_PV_rhythm_92 : decode b_PV_rhythm 92 = .ok (.getfield 236, 3) := by decide +kernel
theorem d_PV_rhythm_95 : decode b_PV_rhythm 95 = .ok (.ireturn, 1) := by decide +kernel
theorem d_PV_rhythm_96 : decode b_PV_rhythm 96 = .ok (.aload_n 0, 1) := by decide +kernel
theorem d_PV_rhythm_97 : decode b_PV_rhythm 97 = .ok (.getfield 91, 3) := by decide +kernel
theorem d_PV_rhythm_100 : decode b_PV_rhythm 100 = .ok (.getfield 239, 3) := by decide +kernel
theorem d_PV_rhythm_103 : decode b_PV_rhythm 103 = .ok (.ireturn, 1) := by decide +kernel
theorem wf_PV_91 : Cond.fieldLink R_PV 91 R_PV "ring" "LPipeVoice$Rhythm;" ∈ gw_tbl := gw_tb (List.mem_of_getElem? (i := 449) (by decide +kernel)) rfl
theorem wv_PV_226 : wV R_PV 226 y_Rh_find b_Rh_find 6 none 3 := ⟨⟨gw_tb (List.mem_of_getElem? (i := 758) (by decide +kernel)) rfl, gw_tb (List.mem_of_getElem? (i := 11) (by decide +kernel)) rfl, gw_tb (List.mem_of_getElem? (i := 761) (by decide +kernel)) rfl, by decide, by decide, by decide +kernel⟩, gw_tb (List.mem_of_getElem? (i := 759) (by decide +kernel)) rfl, gw_tb (List.mem_of_getElem? (i := 760) (by decide +kernel)) rfl⟩
theorem wf_PV_230 : Cond.fieldLink R_PV 230 R_Rh "leading" "I" ∈ gw_tbl := gw_tb (List.mem_of_getElem? (i := 375) (by decide +kernel)) rfl
theorem wf_PV_233 : Cond.fieldLink R_PV 233 R_Rh "length" "I" ∈ gw_tbl := gw_tb (List.mem_of_getElem? (i := 377) (by decide +kernel)) rfl
theorem wf_PV_236 : Cond.fieldLink R_PV 236 R_Rh "meets" "I" ∈ gw_tbl := gw_tb (List.mem_of_getElem? (i := 379) (by decide +kernel)) rfl
theorem wf_PV_239 : Cond.fieldLink R_PV 239 R_Rh "strain" "I" ∈ gw_tbl := gw_tb (List.mem_of_getElem? (i := 381) (by decide +kernel)) rfl
def f_PV_rhythm (a0 : Int32) (a1 : Int32) (o0 : Ob) (r1 : (Nat → Nat)) (o1 : Ob) (o2 : Ob) (o3 : Ob) (o4 : Ob) (Q : Int32 → Ob → Ob → Prop) : Prop := f_PV_isBreath a0 (fun z1 => (z1 = 0 → (Q (-1 : Int32) o3 o4)) ∧ (¬ z1 = 0 → ((a1 < 0 → (Q (-1 : Int32) o3 o4)) ∧ (¬ a1 < 0 → ((a1 ≤ (3 : Int32) → (f_Rh_find a0 (gI o2 3) (gI o2 4) o3 o4 (fun u5 u6 => (a1 = (0 : Int32) → (Q (gI u5 2) u5 u6)) ∧ (¬ a1 = (0 : Int32) → ((a1 = (1 : Int32) → (Q (gI u5 3) u5 u6)) ∧ (¬ a1 = (1 : Int32) → ((a1 = (2 : Int32) → (Q (gI u5 4) u5 u6)) ∧ (¬ a1 = (2 : Int32) → (Q (gI u5 5) u5 u6))))))))) ∧ (¬ a1 ≤ (3 : Int32) → (Q (-1 : Int32) o3 o4)))))))
abbrev rm_PV_rhythm : Room := { frames := 3, cells := 0, slots := 0, locals := 76 }
set_option maxHeartbeats 4000000 in
set_option maxRecDepth 100000 in
theorem c_PV_rhythm {l : Launch} {G : Gl} {h0 : Nat} {q0 : Nat → Nat} {q1 : Nat → Nat} {q2 : Nat → Nat} {q3 : Nat → Nat} {q4 : Nat → Nat} {a0 : Int32} {a1 : Int32} {o0 : Ob} {r1 : (Nat → Nat)} {o1 : Ob} {o2 : Ob} {o3 : Ob} {o4 : Ob} {Q : Int32 → Ob → Ob → Prop} (sz : Nat) (h : f_PV_rhythm a0 a1 o0 r1 o1 o2 o3 o4 Q) : Met l y_PV_rhythm w_PV_rhythm rm_PV_rhythm (PcW G [.ref h0, .int a0, .int a1] sz (cw_PV G h0 q0 o0 ++ (cw_Mo G (q0 4) q1 r1 o1 ++ (cw_Fo G (q1 9) q2 o2 ++ (cw_Rh G (q0 11) q3 o3 ++ (cw_Fo G (q3 0) q4 o4)))))) (va_Qi (fun (r : Int32) (u : Ob × Ob) => Q r u.1 u.2) (fun (u : Ob × Ob) t => BW G (va_A (cw_PV G h0 q0 o0 ++ (cw_Mo G (q0 4) q1 r1 o1 ++ (cw_Fo G (q1 9) q2 o2 ++ (cw_Rh G (q0 11) q3 o3 ++ (cw_Fo G (q3 0) q4 o4))))) sz) (cw_PV G h0 q0 o0 ++ (cw_Mo G (q0 4) q1 r1 o1 ++ (cw_Fo G (q1 9) q2 o2 ++ (cw_Rh G (q0 11) q3 u.1 ++ (cw_Fo G (q3 0) q4 u.2))))) t) (va_A (cw_PV G h0 q0 o0 ++ (cw_Mo G (q0 4) q1 r1 o1 ++ (cw_Fo G (q1 9) q2 o2 ++ (cw_Rh G (q0 11) q3 o3 ++ (cw_Fo G (q3 0) q4 o4))))) sz)) 0 0 (va_A (cw_PV G h0 q0 o0 ++ (cw_Mo G (q0 4) q1 r1 o1 ++ (cw_Fo G (q1 9) q2 o2 ++ (cw_Rh G (q0 11) q3 o3 ++ (cw_Fo G (q3 0) q4 o4))))) sz) := by
  refine Met.ofW (cc := b_PV_rhythm) (maxL := 3) (ret := (some .int)) (by decide +kernel) rfl ?_
  intro p e s m args below meth c s₁ B hml hv
  obtain ⟨rfl, hsz, hP, hK, hD0, hE⟩ := hv
  have hx := B.exec
  have hb := B.bytes
  have hr := B.returns
  have hts0 := atoms_spec (ws := w_PV_rhythm) B.pre
  have hts : ∀ w ∈ gw_tbl, w.before ([.ref h0, .int a0, .int a1]).toArray s = true := fun w hw => hts0 w (List.mem_cons_of_mem _ hw)
  have hown : s.vm.findClass R_PV = some m.cls := findClass_of_methodNamed B.named
  have hlocks := B.notSynchronized
  subst hsz
  have hD := hD0.self (sz := s.heap.size)
  generalize hAe : va_A (cw_PV G h0 q0 o0 ++ (cw_Mo G (q0 4) q1 r1 o1 ++ (cw_Fo G (q1 9) q2 o2 ++ (cw_Rh G (q0 11) q3 o3 ++ (cw_Fo G (q3 0) q4 o4))))) s.heap.size = A at hD hE ⊢
  have hA : ∀ q : Nat, s.heap.size ≤ q → A q := fun q h => by rw [← hAe]; exact Or.inr h
  have hS : va_S A s.heap s.heap [] := va_S.rf
  have C : Cx p s m ([.ref h0, .int a0, .int a1]).toArray meth c R_PV b_PV_rhythm 3 (some .int) G A := ⟨hx, hb, hml, hown, hr, hts, hK, hA, hlocks, hE⟩
  have hl := lv_entry ([.ref h0, .int a0, .int a1]) (n := 3) (Nat.le_of_ble_eq_true rfl)
  rw [lg_entry_eq]
  generalize (lg_sl ([.ref h0, .int a0, .int a1]) ++ List.replicate (3 - (lg_sl ([.ref h0, .int a0, .int a1])).length) Slot.unset).toArray = ls at hl ⊢
  have hl : lv_has ls 3 [(0, .ref h0), (1, .int a0), (2, .int a1)] := hl
  have hD : va_D A [(h0, .inr (0, [.int (gI o0 0), .ref (q0 1), .ref (q0 2), .ref (q0 3), .ref (q0 4), .ref (q0 5), .ref (q0 6), .ref (q0 7), .ref (q0 8), .ref (q0 9), .ref (q0 10), .ref (q0 11), .ref (q0 12), .ref (q0 13)])), kQ G (q0 3) 3 (fun i => some (q0 (50 + i))), kI G (q0 6) 1000 (gA o0 6), kJ G (q0 7) 2000 (gB o0 7), kI G (q0 13) 5 (gA o0 13), ((q0 4), .inr (5, [.ref (r1 0), .int (gI o1 1), .int (gI o1 2), .ref (q1 3), .ref (q1 4), .ref (q1 5), .ref (q1 6), .ref (q1 7), .ref (q1 8), .ref (q1 9), .ref (q1 10), .int (gI o1 11), .int (gI o1 12)])), kI G (q1 3) 20 (gA o1 3), kI G (q1 4) 20 (gA o1 4), kI G (q1 5) 5 (gA o1 5), kJ G (q1 6) 5 (gB o1 6), kJ G (q1 7) 5 (gB o1 7), kJ G (q1 8) 6 (gB o1 8), kI G (q1 10) 5 (gA o1 10), ((q1 9), .inr (1, [.int (gI o2 0), .int (gI o2 1), .int (gI o2 2), .int (gI o2 3), .int (gI o2 4), .int (gI o2 5), .int (gI o2 6)])), ((q0 11), .inr (8, [.ref (q3 0), .ref (q3 1), .int (gI o3 2), .int (gI o3 3), .int (gI o3 4), .int (gI o3 5)])), kI G (q3 1) 969 (gA o3 1), ((q3 0), .inr (1, [.int (gI o4 0), .int (gI o4 1), .int (gI o4 2), .int (gI o4 3), .int (gI o4 4), .int (gI o4 5), .int (gI o4 6)]))] := hD
  unfold f_PV_rhythm at h
  suffices key : ∀ (H : Heap) (locs : List Loc), va_P G.1 CL [(h0, .inr (0, [.int (gI o0 0), .ref (q0 1), .ref (q0 2), .ref (q0 3), .ref (q0 4), .ref (q0 5), .ref (q0 6), .ref (q0 7), .ref (q0 8), .ref (q0 9), .ref (q0 10), .ref (q0 11), .ref (q0 12), .ref (q0 13)])), kQ G (q0 3) 3 (fun i => some (q0 (50 + i))), kI G (q0 6) 1000 (gA o0 6), kJ G (q0 7) 2000 (gB o0 7), kI G (q0 13) 5 (gA o0 13), ((q0 4), .inr (5, [.ref (r1 0), .int (gI o1 1), .int (gI o1 2), .ref (q1 3), .ref (q1 4), .ref (q1 5), .ref (q1 6), .ref (q1 7), .ref (q1 8), .ref (q1 9), .ref (q1 10), .int (gI o1 11), .int (gI o1 12)])), kI G (q1 3) 20 (gA o1 3), kI G (q1 4) 20 (gA o1 4), kI G (q1 5) 5 (gA o1 5), kJ G (q1 6) 5 (gB o1 6), kJ G (q1 7) 5 (gB o1 7), kJ G (q1 8) 6 (gB o1 8), kI G (q1 10) 5 (gA o1 10), ((q1 9), .inr (1, [.int (gI o2 0), .int (gI o2 1), .int (gI o2 2), .int (gI o2 3), .int (gI o2 4), .int (gI o2 5), .int (gI o2 6)])), ((q0 11), .inr (8, [.ref (q3 0), .ref (q3 1), .int (gI o3 2), .int (gI o3 3), .int (gI o3 4), .int (gI o3 5)])), kI G (q3 1) 969 (gA o3 1), ((q3 0), .inr (1, [.int (gI o4 0), .int (gI o4 1), .int (gI o4 2), .int (gI o4 3), .int (gI o4 4), .int (gI o4 5), .int (gI o4 6)]))] H → va_S A s.heap H locs → W p l e rm_PV_rhythm s m ([.ref h0, .int a0, .int a1]).toArray below meth c H locs 0 0 (MQ below (va_Qi (fun (r : Int32) (u : Ob × Ob) => Q r u.1 u.2) (fun (u : Ob × Ob) t => BW G A (cw_PV G h0 q0 o0 ++ (cw_Mo G (q0 4) q1 r1 o1 ++ (cw_Fo G (q1 9) q2 o2 ++ (cw_Rh G (q0 11) q3 u.1 ++ (cw_Fo G (q3 0) q4 u.2))))) t) A) ([.ref h0, .int a0, .int a1]).toArray s 0 0 A) (F0 m 0 ls []) from key s.heap [] hP hS
  intro H locs hP hS
  refine lv_iload_n hx hb d_PV_rhythm_0 rfl (lv_at hl 1 rfl) ?_
  refine cl_Si (b := b_PV_rhythm) (As := [.int a0]) (rest := []) (ws := [(h0, .inr (0, [.int (gI o0 0), .ref (q0 1), .ref (q0 2), .ref (q0 3), .ref (q0 4), .ref (q0 5), .ref (q0 6), .ref (q0 7), .ref (q0 8), .ref (q0 9), .ref (q0 10), .ref (q0 11), .ref (q0 12), .ref (q0 13)])), kQ G (q0 3) 3 (fun i => some (q0 (50 + i))), kI G (q0 6) 1000 (gA o0 6), kJ G (q0 7) 2000 (gB o0 7), kI G (q0 13) 5 (gA o0 13), ((q0 4), .inr (5, [.ref (r1 0), .int (gI o1 1), .int (gI o1 2), .ref (q1 3), .ref (q1 4), .ref (q1 5), .ref (q1 6), .ref (q1 7), .ref (q1 8), .ref (q1 9), .ref (q1 10), .int (gI o1 11), .int (gI o1 12)])), kI G (q1 3) 20 (gA o1 3), kI G (q1 4) 20 (gA o1 4), kI G (q1 5) 5 (gA o1 5), kJ G (q1 6) 5 (gB o1 6), kJ G (q1 7) 5 (gB o1 7), kJ G (q1 8) 6 (gB o1 8), kI G (q1 10) 5 (gA o1 10), ((q1 9), .inr (1, [.int (gI o2 0), .int (gI o2 1), .int (gI o2 2), .int (gI o2 3), .int (gI o2 4), .int (gI o2 5), .int (gI o2 6)])), ((q0 11), .inr (8, [.ref (q3 0), .ref (q3 1), .int (gI o3 2), .int (gI o3 3), .int (gI o3 4), .int (gI o3 5)])), kI G (q3 1) 969 (gA o3 1), ((q3 0), .inr (1, [.int (gI o4 0), .int (gI o4 1), .int (gI o4 2), .int (gI o4 3), .int (gI o4 4), .int (gI o4 5), .int (gI o4 6)]))]) (wr := [(h0, .inr (0, [.int (gI o0 0), .ref (q0 1), .ref (q0 2), .ref (q0 3), .ref (q0 4), .ref (q0 5), .ref (q0 6), .ref (q0 7), .ref (q0 8), .ref (q0 9), .ref (q0 10), .ref (q0 11), .ref (q0 12), .ref (q0 13)])), kQ G (q0 3) 3 (fun i => some (q0 (50 + i))), kI G (q0 6) 1000 (gA o0 6), kJ G (q0 7) 2000 (gB o0 7), kI G (q0 13) 5 (gA o0 13), ((q0 4), .inr (5, [.ref (r1 0), .int (gI o1 1), .int (gI o1 2), .ref (q1 3), .ref (q1 4), .ref (q1 5), .ref (q1 6), .ref (q1 7), .ref (q1 8), .ref (q1 9), .ref (q1 10), .int (gI o1 11), .int (gI o1 12)])), kI G (q1 3) 20 (gA o1 3), kI G (q1 4) 20 (gA o1 4), kI G (q1 5) 5 (gA o1 5), kJ G (q1 6) 5 (gB o1 6), kJ G (q1 7) 5 (gB o1 7), kJ G (q1 8) 6 (gB o1 8), kI G (q1 10) 5 (gA o1 10), ((q1 9), .inr (1, [.int (gI o2 0), .int (gI o2 1), .int (gI o2 2), .int (gI o2 3), .int (gI o2 4), .int (gI o2 5), .int (gI o2 6)])), ((q0 11), .inr (8, [.ref (q3 0), .ref (q3 1), .int (gI o3 2), .int (gI o3 3), .int (gI o3 4), .int (gI o3 5)])), kI G (q3 1) 969 (gA o3 1), ((q3 0), .inr (1, [.int (gI o4 0), .int (gI o4 1), .int (gI o4 2), .int (gI o4 3), .int (gI o4 4), .int (gI o4 5), .int (gI o4 6)]))]) (w2 := fun (u : Unit) => [(h0, .inr (0, [.int (gI o0 0), .ref (q0 1), .ref (q0 2), .ref (q0 3), .ref (q0 4), .ref (q0 5), .ref (q0 6), .ref (q0 7), .ref (q0 8), .ref (q0 9), .ref (q0 10), .ref (q0 11), .ref (q0 12), .ref (q0 13)])), kQ G (q0 3) 3 (fun i => some (q0 (50 + i))), kI G (q0 6) 1000 (gA o0 6), kJ G (q0 7) 2000 (gB o0 7), kI G (q0 13) 5 (gA o0 13), ((q0 4), .inr (5, [.ref (r1 0), .int (gI o1 1), .int (gI o1 2), .ref (q1 3), .ref (q1 4), .ref (q1 5), .ref (q1 6), .ref (q1 7), .ref (q1 8), .ref (q1 9), .ref (q1 10), .int (gI o1 11), .int (gI o1 12)])), kI G (q1 3) 20 (gA o1 3), kI G (q1 4) 20 (gA o1 4), kI G (q1 5) 5 (gA o1 5), kJ G (q1 6) 5 (gB o1 6), kJ G (q1 7) 5 (gB o1 7), kJ G (q1 8) 6 (gB o1 8), kI G (q1 10) 5 (gA o1 10), ((q1 9), .inr (1, [.int (gI o2 0), .int (gI o2 1), .int (gI o2 2), .int (gI o2 3), .int (gI o2 4), .int (gI o2 5), .int (gI o2 6)])), ((q0 11), .inr (8, [.ref (q3 0), .ref (q3 1), .int (gI o3 2), .int (gI o3 3), .int (gI o3 4), .int (gI o3 5)])), kI G (q3 1) 969 (gA o3 1), ((q3 0), .inr (1, [.int (gI o4 0), .int (gI o4 1), .int (gI o4 2), .int (gI o4 3), .int (gI o4 4), .int (gI o4 5), .int (gI o4 6)]))]) C (c_PV_isBreath H.size h) ws_PV_176 ⟨Nat.le_of_ble_eq_true rfl, Nat.le_of_ble_eq_true rfl⟩ hP hD hS [] [0, 1, 2, 3, 4, 5, 6, 7, 8, 9, 10, 11, 12, 13, 14, 15, 16] rfl rfl (by decide) (by decide) (by decide) [0, 1, 2, 3, 4, 5, 6, 7, 8, 9, 10, 11, 12, 13, 14, 15, 16] (by decide) (fun u => rfl) rfl hl.1 rfl (lv_room (Nat.le_of_ble_eq_true rfl)) d_PV_rhythm_1 ⟨Nat.le_of_ble_eq_true rfl, Nat.le_of_ble_eq_true rfl⟩ rfl rfl (fun z1 u H locs h hP hD hS => ?_)
  have hP : va_P G.1 CL [(h0, .inr (0, [.int (gI o0 0), .ref (q0 1), .ref (q0 2), .ref (q0 3), .ref (q0 4), .ref (q0 5), .ref (q0 6), .ref (q0 7), .ref (q0 8), .ref (q0 9), .ref (q0 10), .ref (q0 11), .ref (q0 12), .ref (q0 13)])), kQ G (q0 3) 3 (fun i => some (q0 (50 + i))), kI G (q0 6) 1000 (gA o0 6), kJ G (q0 7) 2000 (gB o0 7), kI G (q0 13) 5 (gA o0 13), ((q0 4), .inr (5, [.ref (r1 0), .int (gI o1 1), .int (gI o1 2), .ref (q1 3), .ref (q1 4), .ref (q1 5), .ref (q1 6), .ref (q1 7), .ref (q1 8), .ref (q1 9), .ref (q1 10), .int (gI o1 11), .int (gI o1 12)])), kI G (q1 3) 20 (gA o1 3), kI G (q1 4) 20 (gA o1 4), kI G (q1 5) 5 (gA o1 5), kJ G (q1 6) 5 (gB o1 6), kJ G (q1 7) 5 (gB o1 7), kJ G (q1 8) 6 (gB o1 8), kI G (q1 10) 5 (gA o1 10), ((q1 9), .inr (1, [.int (gI o2 0), .int (gI o2 1), .int (gI o2 2), .int (gI o2 3), .int (gI o2 4), .int (gI o2 5), .int (gI o2 6)])), ((q0 11), .inr (8, [.ref (q3 0), .ref (q3 1), .int (gI o3 2), .int (gI o3 3), .int (gI o3 4), .int (gI o3 5)])), kI G (q3 1) 969 (gA o3 1), ((q3 0), .inr (1, [.int (gI o4 0), .int (gI o4 1), .int (gI o4 2), .int (gI o4 3), .int (gI o4 4), .int (gI o4 5), .int (gI o4 6)]))] H := hP
  have hD : va_D A [(h0, .inr (0, [.int (gI o0 0), .ref (q0 1), .ref (q0 2), .ref (q0 3), .ref (q0 4), .ref (q0 5), .ref (q0 6), .ref (q0 7), .ref (q0 8), .ref (q0 9), .ref (q0 10), .ref (q0 11), .ref (q0 12), .ref (q0 13)])), kQ G (q0 3) 3 (fun i => some (q0 (50 + i))), kI G (q0 6) 1000 (gA o0 6), kJ G (q0 7) 2000 (gB o0 7), kI G (q0 13) 5 (gA o0 13), ((q0 4), .inr (5, [.ref (r1 0), .int (gI o1 1), .int (gI o1 2), .ref (q1 3), .ref (q1 4), .ref (q1 5), .ref (q1 6), .ref (q1 7), .ref (q1 8), .ref (q1 9), .ref (q1 10), .int (gI o1 11), .int (gI o1 12)])), kI G (q1 3) 20 (gA o1 3), kI G (q1 4) 20 (gA o1 4), kI G (q1 5) 5 (gA o1 5), kJ G (q1 6) 5 (gB o1 6), kJ G (q1 7) 5 (gB o1 7), kJ G (q1 8) 6 (gB o1 8), kI G (q1 10) 5 (gA o1 10), ((q1 9), .inr (1, [.int (gI o2 0), .int (gI o2 1), .int (gI o2 2), .int (gI o2 3), .int (gI o2 4), .int (gI o2 5), .int (gI o2 6)])), ((q0 11), .inr (8, [.ref (q3 0), .ref (q3 1), .int (gI o3 2), .int (gI o3 3), .int (gI o3 4), .int (gI o3 5)])), kI G (q3 1) 969 (gA o3 1), ((q3 0), .inr (1, [.int (gI o4 0), .int (gI o4 1), .int (gI o4 2), .int (gI o4 3), .int (gI o4 4), .int (gI o4 5), .int (gI o4 6)]))] := hD
  refine lv_if_eq (tgt := 16) hx hb d_PV_rhythm_4 (by decide) (fun c2 => ?_) (fun c2 => ?_)
  · have h := h.1 c2
    refine lv_iconst (v := (-1 : Int32)) hx hb d_PV_rhythm_16 (by decide) ?_
    have hP : va_P G.1 CL (cw_PV G h0 q0 o0 ++ (cw_Mo G (q0 4) q1 r1 o1 ++ (cw_Fo G (q1 9) q2 o2 ++ (cw_Rh G (q0 11) q3 o3 ++ (cw_Fo G (q3 0) q4 o4))))) H := hP
    have hD : va_D A (cw_PV G h0 q0 o0 ++ (cw_Mo G (q0 4) q1 r1 o1 ++ (cw_Fo G (q1 9) q2 o2 ++ (cw_Rh G (q0 11) q3 o3 ++ (cw_Fo G (q3 0) q4 o4))))) := hD
    exact W.iret (v := (-1 : Int32)) hx hb hr (fun t ht hW => ⟨⟨(-1 : Int32), (o3, o4), rfl, h, by rw [ht]; exact hP, va_K.moved hW.alike hK, hD⟩, hS.F ht⟩) hS.2.2 d_PV_rhythm_17
  · have h := h.2 c2
    refine lv_iload_n hx hb d_PV_rhythm_7 rfl (lv_at hl 2 rfl) ?_
    refine lv_if_lt (tgt := 16) hx hb d_PV_rhythm_8 (by decide) (fun c3 => ?_) (fun c3 => ?_)
    · have h := h.1 c3
      refine lv_iconst (v := (-1 : Int32)) hx hb d_PV_rhythm_16 (by decide) ?_
      have hP : va_P G.1 CL (cw_PV G h0 q0 o0 ++ (cw_Mo G (q0 4) q1 r1 o1 ++ (cw_Fo G (q1 9) q2 o2 ++ (cw_Rh G (q0 11) q3 o3 ++ (cw_Fo G (q3 0) q4 o4))))) H := hP
      have hD : va_D A (cw_PV G h0 q0 o0 ++ (cw_Mo G (q0 4) q1 r1 o1 ++ (cw_Fo G (q1 9) q2 o2 ++ (cw_Rh G (q0 11) q3 o3 ++ (cw_Fo G (q3 0) q4 o4))))) := hD
      exact W.iret (v := (-1 : Int32)) hx hb hr (fun t ht hW => ⟨⟨(-1 : Int32), (o3, o4), rfl, h, by rw [ht]; exact hP, va_K.moved hW.alike hK, hD⟩, hS.F ht⟩) hS.2.2 d_PV_rhythm_17
    · have h := h.2 c3
      refine lv_iload_n hx hb d_PV_rhythm_11 rfl (lv_at hl 2 rfl) ?_
      refine lv_iconst (v := (3 : Int32)) hx hb d_PV_rhythm_12 (by decide) ?_
      refine lv_icmp_le (tgt := 18) hx hb d_PV_rhythm_13 (by decide) (fun c4 => ?_) (fun c4 => ?_)
      · have h := h.1 c4
        refine lv_aload_n hx hb d_PV_rhythm_18 rfl (lv_at hl 0 rfl) ?_
        refine va_get (D := G.1) (ci := 0) (v := .ref (q0 11)) (C := R_PV) (T := T_PV) (N := 14) hx hb hts i_PV hown hK hP 0 rfl rfl 11 (by decide) (hts _ wf_PV_91) (fun _ h9 => h9) rfl d_PV_rhythm_19 ?_
        refine lv_iload_n hx hb d_PV_rhythm_22 rfl (lv_at hl 1 rfl) ?_
        refine lv_aload_n hx hb d_PV_rhythm_23 rfl (lv_at hl 0 rfl) ?_
        refine va_get (D := G.1) (ci := 0) (v := .ref (q0 4)) (C := R_PV) (T := T_PV) (N := 14) hx hb hts i_PV hown hK hP 0 rfl rfl 4 (by decide) (hts _ wf_PV_50) (fun _ h9 => h9) rfl d_PV_rhythm_24 ?_
        refine va_get (D := G.1) (ci := 5) (v := .ref (q1 9)) (C := R_Mo) (T := T_Mo) (N := 13) hx hb hts i_Mo hown hK hP 5 rfl rfl 9 (by decide) (hts _ wf_PV_179) (fun _ h9 => h9) rfl d_PV_rhythm_27 ?_
        refine va_get (D := G.1) (ci := 1) (v := .int (gI o2 3)) (C := R_Fo) (T := T_Fo) (N := 7) hx hb hts i_Fo hown hK hP 13 rfl rfl 3 (by decide) (hts _ wf_PV_188) (fun _ h9 => h9) rfl d_PV_rhythm_30 ?_
        refine lv_aload_n hx hb d_PV_rhythm_33 rfl (lv_at hl 0 rfl) ?_
        refine va_get (D := G.1) (ci := 0) (v := .ref (q0 4)) (C := R_PV) (T := T_PV) (N := 14) hx hb hts i_PV hown hK hP 0 rfl rfl 4 (by decide) (hts _ wf_PV_50) (fun _ h9 => h9) rfl d_PV_rhythm_34 ?_
        refine va_get (D := G.1) (ci := 5) (v := .ref (q1 9)) (C := R_Mo) (T := T_Mo) (N := 13) hx hb hts i_Mo hown hK hP 5 rfl rfl 9 (by decide) (hts _ wf_PV_179) (fun _ h9 => h9) rfl d_PV_rhythm_37 ?_
        refine va_get (D := G.1) (ci := 1) (v := .int (gI o2 4)) (C := R_Fo) (T := T_Fo) (N := 7) hx hb hts i_Fo hown hK hP 13 rfl rfl 4 (by decide) (hts _ wf_PV_191) (fun _ h9 => h9) rfl d_PV_rhythm_40 ?_
        refine cl_Vv (b := b_PV_rhythm) (As := [.int a0, .int (gI o2 3), .int (gI o2 4)]) (rest := []) (ws := [(h0, .inr (0, [.int (gI o0 0), .ref (q0 1), .ref (q0 2), .ref (q0 3), .ref (q0 4), .ref (q0 5), .ref (q0 6), .ref (q0 7), .ref (q0 8), .ref (q0 9), .ref (q0 10), .ref (q0 11), .ref (q0 12), .ref (q0 13)])), kQ G (q0 3) 3 (fun i => some (q0 (50 + i))), kI G (q0 6) 1000 (gA o0 6), kJ G (q0 7) 2000 (gB o0 7), kI G (q0 13) 5 (gA o0 13), ((q0 4), .inr (5, [.ref (r1 0), .int (gI o1 1), .int (gI o1 2), .ref (q1 3), .ref (q1 4), .ref (q1 5), .ref (q1 6), .ref (q1 7), .ref (q1 8), .ref (q1 9), .ref (q1 10), .int (gI o1 11), .int (gI o1 12)])), kI G (q1 3) 20 (gA o1 3), kI G (q1 4) 20 (gA o1 4), kI G (q1 5) 5 (gA o1 5), kJ G (q1 6) 5 (gB o1 6), kJ G (q1 7) 5 (gB o1 7), kJ G (q1 8) 6 (gB o1 8), kI G (q1 10) 5 (gA o1 10), ((q1 9), .inr (1, [.int (gI o2 0), .int (gI o2 1), .int (gI o2 2), .int (gI o2 3), .int (gI o2 4), .int (gI o2 5), .int (gI o2 6)])), ((q0 11), .inr (8, [.ref (q3 0), .ref (q3 1), .int (gI o3 2), .int (gI o3 3), .int (gI o3 4), .int (gI o3 5)])), kI G (q3 1) 969 (gA o3 1), ((q3 0), .inr (1, [.int (gI o4 0), .int (gI o4 1), .int (gI o4 2), .int (gI o4 3), .int (gI o4 4), .int (gI o4 5), .int (gI o4 6)]))]) (wr := [(h0, .inr (0, [.int (gI o0 0), .ref (q0 1), .ref (q0 2), .ref (q0 3), .ref (q0 4), .ref (q0 5), .ref (q0 6), .ref (q0 7), .ref (q0 8), .ref (q0 9), .ref (q0 10), .ref (q0 11), .ref (q0 12), .ref (q0 13)])), kQ G (q0 3) 3 (fun i => some (q0 (50 + i))), kI G (q0 6) 1000 (gA o0 6), kJ G (q0 7) 2000 (gB o0 7), kI G (q0 13) 5 (gA o0 13), ((q0 4), .inr (5, [.ref (r1 0), .int (gI o1 1), .int (gI o1 2), .ref (q1 3), .ref (q1 4), .ref (q1 5), .ref (q1 6), .ref (q1 7), .ref (q1 8), .ref (q1 9), .ref (q1 10), .int (gI o1 11), .int (gI o1 12)])), kI G (q1 3) 20 (gA o1 3), kI G (q1 4) 20 (gA o1 4), kI G (q1 5) 5 (gA o1 5), kJ G (q1 6) 5 (gB o1 6), kJ G (q1 7) 5 (gB o1 7), kJ G (q1 8) 6 (gB o1 8), kI G (q1 10) 5 (gA o1 10), ((q1 9), .inr (1, [.int (gI o2 0), .int (gI o2 1), .int (gI o2 2), .int (gI o2 3), .int (gI o2 4), .int (gI o2 5), .int (gI o2 6)]))]) (w2 := fun (u : Ob × Ob) => [(h0, .inr (0, [.int (gI o0 0), .ref (q0 1), .ref (q0 2), .ref (q0 3), .ref (q0 4), .ref (q0 5), .ref (q0 6), .ref (q0 7), .ref (q0 8), .ref (q0 9), .ref (q0 10), .ref (q0 11), .ref (q0 12), .ref (q0 13)])), kQ G (q0 3) 3 (fun i => some (q0 (50 + i))), kI G (q0 6) 1000 (gA o0 6), kJ G (q0 7) 2000 (gB o0 7), kI G (q0 13) 5 (gA o0 13), ((q0 4), .inr (5, [.ref (r1 0), .int (gI o1 1), .int (gI o1 2), .ref (q1 3), .ref (q1 4), .ref (q1 5), .ref (q1 6), .ref (q1 7), .ref (q1 8), .ref (q1 9), .ref (q1 10), .int (gI o1 11), .int (gI o1 12)])), kI G (q1 3) 20 (gA o1 3), kI G (q1 4) 20 (gA o1 4), kI G (q1 5) 5 (gA o1 5), kJ G (q1 6) 5 (gB o1 6), kJ G (q1 7) 5 (gB o1 7), kJ G (q1 8) 6 (gB o1 8), kI G (q1 10) 5 (gA o1 10), ((q1 9), .inr (1, [.int (gI o2 0), .int (gI o2 1), .int (gI o2 2), .int (gI o2 3), .int (gI o2 4), .int (gI o2 5), .int (gI o2 6)])), ((q0 11), .inr (8, [.ref (q3 0), .ref (q3 1), .int (gI u.1 2), .int (gI u.1 3), .int (gI u.1 4), .int (gI u.1 5)])), kI G (q3 1) 969 (gA u.1 1), ((q3 0), .inr (1, [.int (gI u.2 0), .int (gI u.2 1), .int (gI u.2 2), .int (gI u.2 3), .int (gI u.2 4), .int (gI u.2 5), .int (gI u.2 6)]))]) C (c_Rh_find (h0 := (q0 11)) (q0 := q3) (q1 := q4) H.size h) wv_PV_226 ⟨Nat.le_of_ble_eq_true rfl, Nat.le_of_ble_eq_true rfl⟩ hP hD hS 14 rfl rfl [14, 15, 16] [0, 1, 2, 3, 4, 5, 6, 7, 8, 9, 10, 11, 12, 13] rfl rfl (by decide) (by decide) (by decide) [0, 1, 2, 3, 4, 5, 6, 7, 8, 9, 10, 11, 12, 13, 14, 15, 16] (by decide) (fun u => rfl) rfl hl.1 rfl (lv_room (Nat.le_of_ble_eq_true rfl)) d_PV_rhythm_43 ⟨Nat.le_of_ble_eq_true rfl, Nat.le_of_ble_eq_true rfl⟩ rfl rfl (fun u H locs h hP hD hS => ?_)
        obtain ⟨u5, u6⟩ := u
        have hP : va_P G.1 CL [(h0, .inr (0, [.int (gI o0 0), .ref (q0 1), .ref (q0 2), .ref (q0 3), .ref (q0 4), .ref (q0 5), .ref (q0 6), .ref (q0 7), .ref (q0 8), .ref (q0 9), .ref (q0 10), .ref (q0 11), .ref (q0 12), .ref (q0 13)])), kQ G (q0 3) 3 (fun i => some (q0 (50 + i))), kI G (q0 6) 1000 (gA o0 6), kJ G (q0 7) 2000 (gB o0 7), kI G (q0 13) 5 (gA o0 13), ((q0 4), .inr (5, [.ref (r1 0), .int (gI o1 1), .int (gI o1 2), .ref (q1 3), .ref (q1 4), .ref (q1 5), .ref (q1 6), .ref (q1 7), .ref (q1 8), .ref (q1 9), .ref (q1 10), .int (gI o1 11), .int (gI o1 12)])), kI G (q1 3) 20 (gA o1 3), kI G (q1 4) 20 (gA o1 4), kI G (q1 5) 5 (gA o1 5), kJ G (q1 6) 5 (gB o1 6), kJ G (q1 7) 5 (gB o1 7), kJ G (q1 8) 6 (gB o1 8), kI G (q1 10) 5 (gA o1 10), ((q1 9), .inr (1, [.int (gI o2 0), .int (gI o2 1), .int (gI o2 2), .int (gI o2 3), .int (gI o2 4), .int (gI o2 5), .int (gI o2 6)])), ((q0 11), .inr (8, [.ref (q3 0), .ref (q3 1), .int (gI u5 2), .int (gI u5 3), .int (gI u5 4), .int (gI u5 5)])), kI G (q3 1) 969 (gA u5 1), ((q3 0), .inr (1, [.int (gI u6 0), .int (gI u6 1), .int (gI u6 2), .int (gI u6 3), .int (gI u6 4), .int (gI u6 5), .int (gI u6 6)]))] H := hP
        have hD : va_D A [(h0, .inr (0, [.int (gI o0 0), .ref (q0 1), .ref (q0 2), .ref (q0 3), .ref (q0 4), .ref (q0 5), .ref (q0 6), .ref (q0 7), .ref (q0 8), .ref (q0 9), .ref (q0 10), .ref (q0 11), .ref (q0 12), .ref (q0 13)])), kQ G (q0 3) 3 (fun i => some (q0 (50 + i))), kI G (q0 6) 1000 (gA o0 6), kJ G (q0 7) 2000 (gB o0 7), kI G (q0 13) 5 (gA o0 13), ((q0 4), .inr (5, [.ref (r1 0), .int (gI o1 1), .int (gI o1 2), .ref (q1 3), .ref (q1 4), .ref (q1 5), .ref (q1 6), .ref (q1 7), .ref (q1 8), .ref (q1 9), .ref (q1 10), .int (gI o1 11), .int (gI o1 12)])), kI G (q1 3) 20 (gA o1 3), kI G (q1 4) 20 (gA o1 4), kI G (q1 5) 5 (gA o1 5), kJ G (q1 6) 5 (gB o1 6), kJ G (q1 7) 5 (gB o1 7), kJ G (q1 8) 6 (gB o1 8), kI G (q1 10) 5 (gA o1 10), ((q1 9), .inr (1, [.int (gI o2 0), .int (gI o2 1), .int (gI o2 2), .int (gI o2 3), .int (gI o2 4), .int (gI o2 5), .int (gI o2 6)])), ((q0 11), .inr (8, [.ref (q3 0), .ref (q3 1), .int (gI u5 2), .int (gI u5 3), .int (gI u5 4), .int (gI u5 5)])), kI G (q3 1) 969 (gA u5 1), ((q3 0), .inr (1, [.int (gI u6 0), .int (gI u6 1), .int (gI u6 2), .int (gI u6 3), .int (gI u6 4), .int (gI u6 5), .int (gI u6 6)]))] := hD
        refine lv_iload_n hx hb d_PV_rhythm_46 rfl (lv_at hl 2 rfl) ?_
        by_cases c7 : a1 = (0 : Int32)
        · have h := h.1 c7
          refine lv_tableIn (tgt := 72) hx hb d_PV_rhythm_47 (by rw [c7]; decide) (by rw [c7]; decide) (off := 25) (by rw [c7]; rfl) (by decide) ?_
          refine lv_aload_n hx hb d_PV_rhythm_72 rfl (lv_at hl 0 rfl) ?_
          refine va_get (D := G.1) (ci := 0) (v := .ref (q0 11)) (C := R_PV) (T := T_PV) (N := 14) hx hb hts i_PV hown hK hP 0 rfl rfl 11 (by decide) (hts _ wf_PV_91) (fun _ h9 => h9) rfl d_PV_rhythm_73 ?_
          refine va_get (D := G.1) (ci := 8) (v := .int (gI u5 2)) (C := R_Rh) (T := T_Rh) (N := 6) hx hb hts i_Rh hown hK hP 14 rfl rfl 2 (by decide) (hts _ wf_PV_230) (fun _ h9 => h9) rfl d_PV_rhythm_76 ?_
          have hP : va_P G.1 CL (cw_PV G h0 q0 o0 ++ (cw_Mo G (q0 4) q1 r1 o1 ++ (cw_Fo G (q1 9) q2 o2 ++ (cw_Rh G (q0 11) q3 u5 ++ (cw_Fo G (q3 0) q4 u6))))) H := hP
          have hD : va_D A (cw_PV G h0 q0 o0 ++ (cw_Mo G (q0 4) q1 r1 o1 ++ (cw_Fo G (q1 9) q2 o2 ++ (cw_Rh G (q0 11) q3 u5 ++ (cw_Fo G (q3 0) q4 u6))))) := hD
          exact W.iret (v := (gI u5 2)) hx hb hr (fun t ht hW => ⟨⟨(gI u5 2), (u5, u6), rfl, h, by rw [ht]; exact hP, va_K.moved hW.alike hK, hD⟩, hS.F ht⟩) hS.2.2 d_PV_rhythm_79
        have h := h.2 c7
        by_cases c8 : a1 = (1 : Int32)
        · have h := h.1 c8
          refine lv_tableIn (tgt := 80) hx hb d_PV_rhythm_47 (by rw [c8]; decide) (by rw [c8]; decide) (off := 33) (by rw [c8]; rfl) (by decide) ?_
          refine lv_aload_n hx hb d_PV_rhythm_80 rfl (lv_at hl 0 rfl) ?_
          refine va_get (D := G.1) (ci := 0) (v := .ref (q0 11)) (C := R_PV) (T := T_PV) (N := 14) hx hb hts i_PV hown hK hP 0 rfl rfl 11 (by decide) (hts _ wf_PV_91) (fun _ h9 => h9) rfl d_PV_rhythm_81 ?_
          refine va_get (D := G.1) (ci := 8) (v := .int (gI u5 3)) (C := R_Rh) (T := T_Rh) (N := 6) hx hb hts i_Rh hown hK hP 14 rfl rfl 3 (by decide) (hts _ wf_PV_233) (fun _ h9 => h9) rfl d_PV_rhythm_84 ?_
          have hP : va_P G.1 CL (cw_PV G h0 q0 o0 ++ (cw_Mo G (q0 4) q1 r1 o1 ++ (cw_Fo G (q1 9) q2 o2 ++ (cw_Rh G (q0 11) q3 u5 ++ (cw_Fo G (q3 0) q4 u6))))) H := hP
          have hD : va_D A (cw_PV G h0 q0 o0 ++ (cw_Mo G (q0 4) q1 r1 o1 ++ (cw_Fo G (q1 9) q2 o2 ++ (cw_Rh G (q0 11) q3 u5 ++ (cw_Fo G (q3 0) q4 u6))))) := hD
          exact W.iret (v := (gI u5 3)) hx hb hr (fun t ht hW => ⟨⟨(gI u5 3), (u5, u6), rfl, h, by rw [ht]; exact hP, va_K.moved hW.alike hK, hD⟩, hS.F ht⟩) hS.2.2 d_PV_rhythm_87
        have h := h.2 c8
        by_cases c9 : a1 = (2 : Int32)
        · have h := h.1 c9
          refine lv_tableIn (tgt := 88) hx hb d_PV_rhythm_47 (by rw [c9]; decide) (by rw [c9]; decide) (off := 41) (by rw [c9]; rfl) (by decide) ?_
          refine lv_aload_n hx hb d_PV_rhythm_88 rfl (lv_at hl 0 rfl) ?_
          refine va_get (D := G.1) (ci := 0) (v := .ref (q0 11)) (C := R_PV) (T := T_PV) (N := 14) hx hb hts i_PV hown hK hP 0 rfl rfl 11 (by decide) (hts _ wf_PV_91) (fun _ h9 => h9) rfl d_PV_rhythm_89 ?_
          refine va_get (D := G.1) (ci := 8) (v := .int (gI u5 4)) (C := R_Rh) (T := T_Rh) (N := 6) hx hb hts i_Rh hown hK hP 14 rfl rfl 4 (by decide) (hts _ wf_PV_236) (fun _ h9 => h9) rfl d_PV_rhythm_92 ?_
          have hP : va_P G.1 CL (cw_PV G h0 q0 o0 ++ (cw_Mo G (q0 4) q1 r1 o1 ++ (cw_Fo G (q1 9) q2 o2 ++ (cw_Rh G (q0 11) q3 u5 ++ (cw_Fo G (q3 0) q4 u6))))) H := hP
          have hD : va_D A (cw_PV G h0 q0 o0 ++ (cw_Mo G (q0 4) q1 r1 o1 ++ (cw_Fo G (q1 9) q2 o2 ++ (cw_Rh G (q0 11) q3 u5 ++ (cw_Fo G (q3 0) q4 u6))))) := hD
          exact W.iret (v := (gI u5 4)) hx hb hr (fun t ht hW => ⟨⟨(gI u5 4), (u5, u6), rfl, h, by rw [ht]; exact hP, va_K.moved hW.alike hK, hD⟩, hS.F ht⟩) hS.2.2 d_PV_rhythm_95
        have h := h.2 c9
        refine lv_tableOut (tgt := 96) hx hb d_PV_rhythm_47 (sw_out a1 [(0 : Int32), (1 : Int32), (2 : Int32)] rfl (by intro k hk; simp only [List.mem_cons, List.not_mem_nil, or_false] at hk; rcases hk with rfl | rfl | rfl <;> assumption)) (by decide) ?_
        refine lv_aload_n hx hb d_PV_rhythm_96 rfl (lv_at hl 0 rfl) ?_
        refine va_get (D := G.1) (ci := 0) (v := .ref (q0 11)) (C := R_PV) (T := T_PV) (N := 14) hx hb hts i_PV hown hK hP 0 rfl rfl 11 (by decide) (hts _ wf_PV_91) (fun _ h9 => h9) rfl d_PV_rhythm_97 ?_
        refine va_get (D := G.1) (ci := 8) (v := .int (gI u5 5)) (C := R_Rh) (T := T_Rh) (N := 6) hx hb hts i_Rh hown hK hP 14 rfl rfl 5 (by decide) (hts _ wf_PV_239) (fun _ h9 => h9) rfl d_PV_rhythm_100 ?_
        have hP : va_P G.1 CL (cw_PV G h0 q0 o0 ++ (cw_Mo G (q0 4) q1 r1 o1 ++ (cw_Fo G (q1 9) q2 o2 ++ (cw_Rh G (q0 11) q3 u5 ++ (cw_Fo G (q3 0) q4 u6))))) H := hP
        have hD : va_D A (cw_PV G h0 q0 o0 ++ (cw_Mo G (q0 4) q1 r1 o1 ++ (cw_Fo G (q1 9) q2 o2 ++ (cw_Rh G (q0 11) q3 u5 ++ (cw_Fo G (q3 0) q4 u6))))) := hD
        exact W.iret (v := (gI u5 5)) hx hb hr (fun t ht hW => ⟨⟨(gI u5 5), (u5, u6), rfl, h, by rw [ht]; exact hP, va_K.moved hW.alike hK, hD⟩, hS.F ht⟩) hS.2.2 d_PV_rhythm_103
      · have h := h.2 c4
        refine lv_iconst (v := (-1 : Int32)) hx hb d_PV_rhythm_16 (by decide) ?_
        have hP : va_P G.1 CL (cw_PV G h0 q0 o0 ++ (cw_Mo G (q0 4) q1 r1 o1 ++ (cw_Fo G (q1 9) q2 o2 ++ (cw_Rh G (q0 11) q3 o3 ++ (cw_Fo G (q3 0) q4 o4))))) H := hP
        have hD : va_D A (cw_PV G h0 q0 o0 ++ (cw_Mo G (q0 4) q1 r1 o1 ++ (cw_Fo G (q1 9) q2 o2 ++ (cw_Rh G (q0 11) q3 o3 ++ (cw_Fo G (q3 0) q4 o4))))) := hD
        exact W.iret (v := (-1 : Int32)) hx hb hr (fun t ht hW => ⟨⟨(-1 : Int32), (o3, o4), rfl, h, by rw [ht]; exact hP, va_K.moved hW.alike hK, hD⟩, hS.F ht⟩) hS.2.2 d_PV_rhythm_17
abbrev b_PV_notSafe : ByteArray := prog_1_method_17_code
def y_PV_notSafe : MethodName := ⟨R_PV, "un" ++ "safe", "(III)I"⟩
abbrev w_PV_notSafe : List Cond := Cond.code y_PV_notSafe b_PV_notSafe 5 (some .int) :: gw_tbl
theorem d_PV_notSafe_0 : decode b_PV_notSafe 0 = .ok (.iload_n 1, 1) := by decide +kernel
theorem d_PV_notSafe_1 : decode b_PV_notSafe 1 = .ok (.invokestatic 176, 3) := by decide +kernel
theorem d_PV_notSafe_4 : decode b_PV_notSafe 4 = .ok (.ifCond .eq 21, 3) := by decide +kernel
theorem d_PV_notSafe_7 : decode b_PV_notSafe 7 = .ok (.iload_n 2, 1) := by decide +kernel
theorem d_PV_notSafe_8 : decode b_PV_notSafe 8 = .ok (.invokestatic 176, 3) := by decide +kernel
theorem d_PV_notSafe_11 : decode b_PV_notSafe 11 = .ok (.ifCond .eq 14, 3) := by decide +kernel
theorem d_PV_notSafe_14 : decode b_PV_notSafe 14 = .ok (.iload_n 3, 1) := by decide +kernel
theorem d_PV_notSafe_15 : decode b_PV_notSafe 15 = .ok (.ifCond .lt 10, 3) := by decide +kernel
theorem d_PV_notSafe_18 : decode b_PV_notSafe 18 = .ok (.iload_n 3, 1) := by decide +kernel
theorem d_PV_notSafe_19 : decode b_PV_notSafe 19 = .ok (.sipush 1000, 3) := by decide +kernel
theorem d_PV_notSafe_22 : decode b_PV_notSafe 22 = .ok (.if_icmp .le 5, 3) := by decide +kernel
theorem d_PV_notSafe_25 : decode b_PV_notSafe 25 = .ok (.iconst (-1), 1) := by decide +kernel
theorem d_PV_notSafe_26 : decode b_PV_notSafe 26 = .ok (.ireturn, 1) := by decide +kernel
theorem d_PV_notSafe_27 : decode b_PV_notSafe 27 = .ok (.iload_n 1, 1) := by decide +kernel
theorem d_PV_notSafe_28 : decode b_PV_notSafe 28 = .ok (.istore 4, 2) := by decide +kernel
theorem d_PV_notSafe_30 : decode b_PV_notSafe 30 = .ok (.iload 4, 2) := by decide +kernel
theorem d_PV_notSafe_32 : decode b_PV_notSafe 32 = .ok (.iload_n 2, 1) := by decide +kernel
theorem d_PV_notSafe_33 : decode b_PV_notSafe 33 = .ok (.if_icmp .gt 63, 3) := by decide +kernel
theorem d_PV_notSafe_36 : decode b_PV_notSafe 36 = .ok (.aload_n 0, 1) := by decide +kernel
theorem d_PV_notSafe_37 : decode b_PV_notSafe 37 = .ok (.getfield 91, 3) := by decide +kernel
theorem d_PV_notSafe_40 : decode b_PV_notSafe 40 = .ok (.iload 4, 2) := by decide +kernel
theorem d_PV_notSafe_42 : decode b_PV_notSafe 42 = .ok (.aload_n 0, 1) := by decide +kernel
theorem d_PV_notSafe_43 : decode b_PV_notSafe 43 = .ok (.getfield 50, 3) := by decide +kernel
theorem d_PV_notSafe_46 : decode b_PV_notSafe 46 = .ok (.getfield 179, 3) := by decide +kernel
theorem d_PV_notSafe_49 : decode b_PV_notSafe 49 = .ok (.getfield 188, 3) := by decide +kernel
theorem d_PV_notSafe_52 : decode b_PV_notSafe 52 = .ok (.aload_n 0, 1) := by decide +kernel
theorem d_PV_notSafe_53 : decode b_PV_notSafe 53 = .ok (.getfield 50, 3) := by decide +kernel
theorem d_PV_notSafe_56 : decode b_PV_notSafe 56 = .ok (.getfield 179, 3) := by decide +kernel
theorem d_PV_notSafe_59 : decode b_PV_notSafe 59 = .ok (.getfield 191, 3) := by decide +kernel
theorem d_PV_notSafe_62 : decode b_PV_notSafe 62 = .ok (.invokevirtual 226, 3) := by decide +kernel
theorem d_PV_notSafe_65 : decode b_PV_notSafe 65 = .ok (.bipush 100, 2) := by decide +kernel
theorem d_PV_notSafe_67 : decode b_PV_notSafe 67 = .ok (.aload_n 0, 1) := by decide +kernel
theorem d_PV_notSafe_68 : decode b_PV_notSafe 68 = .ok (.getfield 91, 3) := by decide +kernel
theorem d_PV_notSafe_71 : decode b_PV_notSafe 71 = .ok (.getfield 239, 3) := by decide +kernel
theorem d_PV_notSafe_74 : decode b_PV_notSafe 74 = .ok (.imul, 1) := by decide +kernel
theorem d_PV_notSafe_75 : decode b_PV_notSafe 75 = .ok (.iload_n 3, 1) := by decide +kernel
theorem d_PV_notSafe_76 : decode b_PV_notSafe 76 = .ok (.aload_n 0, 1) := by decide +kernel
theorem d_PV_notSafe_77 : decode b_PV_notSafe 77 = .ok (.getfield 91, 3) := by decide +kernel
theorem d_PV_notSafe_80 : decode b_PV_notSafe 80 = .ok (.getfield 233, 3) := by decide +kernel
theorem d_PV_notSafe_83 : decode b_PV_notSafe 83 = .ok (.imul, 1) := by decide +kernel
theorem d_PV_notSafe_84 : decode b_PV_notSafe 84 = .ok (.if_icmp .le 6, 3) := by decide +kernel
theorem d_PV_notSafe_87 : decode b_PV_notSafe 87 = .ok (.iload 4, 2) := by decide +kernel
theorem d_PV_notSafe_89 : decode b_PV_notSafe 89 = .ok (.ireturn, 1) := by decide +kernel
theorem d_PV_notSafe_90 : decode b_PV_notSafe 90 = .ok (.iinc 4 1, 3) := by decide +kernel
theorem d_PV_notSafe_93 : decode b_PV_notSafe 93 = .ok (.goto (-63), 3) := by decide +kernel
theorem d_PV_notSafe_96 : decode b_PV_notSafe 96 = .ok (.iconst (-1), 1) := by decide +kernel
theorem d_PV_notSafe_97 : decode b_PV_notSafe 97 = .ok (.ireturn, 1) := by decide +kernel
def f_PV_notSafe_30 (o0 : Ob) (r1 : (Nat → Nat)) (o1 : Ob) (o2 : Ob) (Q : Int32 → Ob → Ob → Prop) : Nat → Int32 → Int32 → Int32 → Ob → Ob → Prop
  | 0, _, _, _, _, _ => False
  | n + 1, x2, x3, x4, o3, o4 => (x2 < x4 → (Q (-1 : Int32) o3 o4)) ∧ (¬ x2 < x4 → (f_Rh_find x4 (gI o2 3) (gI o2 4) o3 o4 (fun u2 u3 => (((100 : Int32) * (gI u2 5)) ≤ (x3 * (gI u2 3)) → ((f_PV_notSafe_30 o0 r1 o1 o2 Q n) x2 x3 (x4 + (1 : Int32)) u2 u3)) ∧ (¬ ((100 : Int32) * (gI u2 5)) ≤ (x3 * (gI u2 3)) → (Q x4 u2 u3)))))
def f_PV_notSafe (a0 : Int32) (a1 : Int32) (a2 : Int32) (o0 : Ob) (r1 : (Nat → Nat)) (o1 : Ob) (o2 : Ob) (o3 : Ob) (o4 : Ob) (Q : Int32 → Ob → Ob → Prop) : Prop := f_PV_isBreath a0 (fun z5 => (z5 = 0 → (Q (-1 : Int32) o3 o4)) ∧ (¬ z5 = 0 → (f_PV_isBreath a1 (fun z7 => (z7 = 0 → (Q (-1 : Int32) o3 o4)) ∧ (¬ z7 = 0 → ((a2 < 0 → (Q (-1 : Int32) o3 o4)) ∧ (¬ a2 < 0 → ((a2 ≤ (1000 : Int32) → ((∃ w, f_PV_notSafe_30 o0 r1 o1 o2 Q w a1 a2 a0 o3 o4))) ∧ (¬ a2 ≤ (1000 : Int32) → (Q (-1 : Int32) o3 o4))))))))))
abbrev rm_PV_notSafe : Room := { frames := 3, cells := 0, slots := 0, locals := 76 }
set_option maxHeartbeats 4000000 in
set_option maxRecDepth 100000 in
theorem t_PV_notSafe_30 {p : Program} {l : Launch} {e : Env} {s : State} {m : MethodId} {args : Array Value} {below : List Frame} {meth : Method} {c : Code} {A : Nat → Prop} {G : Gl} {h0 : Nat} {q0 : Nat → Nat} {q1 : Nat → Nat} {q2 : Nat → Nat} {q3 : Nat → Nat} {q4 : Nat → Nat} (o0 : Ob) (r1 : (Nat → Nat)) (o1 : Ob) (o2 : Ob) (Q : Int32 → Ob → Ob → Prop) (C : Cx p s m args meth c R_PV b_PV_notSafe 5 (some .int) G A) :
    ∀ (n : Nat) (x2 : Int32) (x3 : Int32) (x4 : Int32) (o3 : Ob) (o4 : Ob) (ls : Array Slot) (H : Heap) (locs : List Loc), lv_has ls 5 [(0, .ref h0), (2, .int x2), (3, .int x3), (4, .int x4)] → va_P G.1 CL (cw_PV G h0 q0 o0 ++ (cw_Mo G (q0 4) q1 r1 o1 ++ (cw_Fo G (q1 9) q2 o2 ++ (cw_Rh G (q0 11) q3 o3 ++ (cw_Fo G (q3 0) q4 o4))))) H → va_D A (cw_PV G h0 q0 o0 ++ (cw_Mo G (q0 4) q1 r1 o1 ++ (cw_Fo G (q1 9) q2 o2 ++ (cw_Rh G (q0 11) q3 o3 ++ (cw_Fo G (q3 0) q4 o4))))) → va_S A s.heap H locs → f_PV_notSafe_30 o0 r1 o1 o2 Q n x2 x3 x4 o3 o4 → W p l e rm_PV_notSafe s m args below meth c H locs 0 0 (MQ below (va_Qi (fun (r : Int32) (u : Ob × Ob) => Q r u.1 u.2) (fun (u : Ob × Ob) t => BW G A (cw_PV G h0 q0 o0 ++ (cw_Mo G (q0 4) q1 r1 o1 ++ (cw_Fo G (q1 9) q2 o2 ++ (cw_Rh G (q0 11) q3 u.1 ++ (cw_Fo G (q3 0) q4 u.2))))) t) A) args s 0 0 A) (F0 m 30 ls []) := by
  obtain ⟨hx, hb, hml, hown, hr, hts, hK, hA, hlocks, hE⟩ := id C
  intro n
  induction n with
  | zero => intro x2 x3 x4 o3 o4 ls H locs hl hP hD hS h; exact absurd h id
  | succ n ih =>
    intro x2 x3 x4 o3 o4 ls H locs hl hP hD hS h
    have hP : va_P G.1 CL [(h0, .inr (0, [.int (gI o0 0), .ref (q0 1), .ref (q0 2), .ref (q0 3), .ref (q0 4), .ref (q0 5), .ref (q0 6), .ref (q0 7), .ref (q0 8), .ref (q0 9), .ref (q0 10), .ref (q0 11), .ref (q0 12), .ref (q0 13)])), kQ G (q0 3) 3 (fun i => some (q0 (50 + i))), kI G (q0 6) 1000 (gA o0 6), kJ G (q0 7) 2000 (gB o0 7), kI G (q0 13) 5 (gA o0 13), ((q0 4), .inr (5, [.ref (r1 0), .int (gI o1 1), .int (gI o1 2), .ref (q1 3), .ref (q1 4), .ref (q1 5), .ref (q1 6), .ref (q1 7), .ref (q1 8), .ref (q1 9), .ref (q1 10), .int (gI o1 11), .int (gI o1 12)])), kI G (q1 3) 20 (gA o1 3), kI G (q1 4) 20 (gA o1 4), kI G (q1 5) 5 (gA o1 5), kJ G (q1 6) 5 (gB o1 6), kJ G (q1 7) 5 (gB o1 7), kJ G (q1 8) 6 (gB o1 8), kI G (q1 10) 5 (gA o1 10), ((q1 9), .inr (1, [.int (gI o2 0), .int (gI o2 1), .int (gI o2 2), .int (gI o2 3), .int (gI o2 4), .int (gI o2 5), .int (gI o2 6)])), ((q0 11), .inr (8, [.ref (q3 0), .ref (q3 1), .int (gI o3 2), .int (gI o3 3), .int (gI o3 4), .int (gI o3 5)])), kI G (q3 1) 969 (gA o3 1), ((q3 0), .inr (1, [.int (gI o4 0), .int (gI o4 1), .int (gI o4 2), .int (gI o4 3), .int (gI o4 4), .int (gI o4 5), .int (gI o4 6)]))] H := hP
    have hD : va_D A [(h0, .inr (0, [.int (gI o0 0), .ref (q0 1), .ref (q0 2), .ref (q0 3), .ref (q0 4), .ref (q0 5), .ref (q0 6), .ref (q0 7), .ref (q0 8), .ref (q0 9), .ref (q0 10), .ref (q0 11), .ref (q0 12), .ref (q0 13)])), kQ G (q0 3) 3 (fun i => some (q0 (50 + i))), kI G (q0 6) 1000 (gA o0 6), kJ G (q0 7) 2000 (gB o0 7), kI G (q0 13) 5 (gA o0 13), ((q0 4), .inr (5, [.ref (r1 0), .int (gI o1 1), .int (gI o1 2), .ref (q1 3), .ref (q1 4), .ref (q1 5), .ref (q1 6), .ref (q1 7), .ref (q1 8), .ref (q1 9), .ref (q1 10), .int (gI o1 11), .int (gI o1 12)])), kI G (q1 3) 20 (gA o1 3), kI G (q1 4) 20 (gA o1 4), kI G (q1 5) 5 (gA o1 5), kJ G (q1 6) 5 (gB o1 6), kJ G (q1 7) 5 (gB o1 7), kJ G (q1 8) 6 (gB o1 8), kI G (q1 10) 5 (gA o1 10), ((q1 9), .inr (1, [.int (gI o2 0), .int (gI o2 1), .int (gI o2 2), .int (gI o2 3), .int (gI o2 4), .int (gI o2 5), .int (gI o2 6)])), ((q0 11), .inr (8, [.ref (q3 0), .ref (q3 1), .int (gI o3 2), .int (gI o3 3), .int (gI o3 4), .int (gI o3 5)])), kI G (q3 1) 969 (gA o3 1), ((q3 0), .inr (1, [.int (gI o4 0), .int (gI o4 1), .int (gI o4 2), .int (gI o4 3), .int (gI o4 4), .int (gI o4 5), .int (gI o4 6)]))] := hD
    unfold f_PV_notSafe_30 at h
    refine lv_iload hx hb d_PV_notSafe_30 (lv_at hl 3 rfl) ?_
    refine lv_iload_n hx hb d_PV_notSafe_32 rfl (lv_at hl 1 rfl) ?_
    refine lv_icmp_gt (tgt := 96) hx hb d_PV_notSafe_33 (by decide) (fun c1 => ?_) (fun c1 => ?_)
    · have h := h.1 c1
      refine lv_iconst (v := (-1 : Int32)) hx hb d_PV_notSafe_96 (by decide) ?_
      have hP : va_P G.1 CL (cw_PV G h0 q0 o0 ++ (cw_Mo G (q0 4) q1 r1 o1 ++ (cw_Fo G (q1 9) q2 o2 ++ (cw_Rh G (q0 11) q3 o3 ++ (cw_Fo G (q3 0) q4 o4))))) H := hP
      have hD : va_D A (cw_PV G h0 q0 o0 ++ (cw_Mo G (q0 4) q1 r1 o1 ++ (cw_Fo G (q1 9) q2 o2 ++ (cw_Rh G (q0 11) q3 o3 ++ (cw_Fo G (q3 0) q4 o4))))) := hD
      exact W.iret (v := (-1 : Int32)) hx hb hr (fun t ht hW => ⟨⟨(-1 : Int32), (o3, o4), rfl, h, by rw [ht]; exact hP, va_K.moved hW.alike hK, hD⟩, hS.F ht⟩) hS.2.2 d_PV_notSafe_97
    · have h := h.2 c1
      refine lv_aload_n hx hb d_PV_notSafe_36 rfl (lv_at hl 0 rfl) ?_
      refine va_get (D := G.1) (ci := 0) (v := .ref (q0 11)) (C := R_PV) (T := T_PV) (N := 14) hx hb hts i_PV hown hK hP 0 rfl rfl 11 (by decide) (hts _ wf_PV_91) (fun _ h9 => h9) rfl d_PV_notSafe_37 ?_
      refine lv_iload hx hb d_PV_notSafe_40 (lv_at hl 3 rfl) ?_
      refine lv_aload_n hx hb d_PV_notSafe_42 rfl (lv_at hl 0 rfl) ?_
      refine va_get (D := G.1) (ci := 0) (v := .ref (q0 4)) (C := R_PV) (T := T_PV) (N := 14) hx hb hts i_PV hown hK hP 0 rfl rfl 4 (by decide) (hts _ wf_PV_50) (fun _ h9 => h9) rfl d_PV_notSafe_43 ?_
      refine va_get (D := G.1) (ci := 5) (v := .ref (q1 9)) (C := R_Mo) (T := T_Mo) (N := 13) hx hb hts i_Mo hown hK hP 5 rfl rfl 9 (by decide) (hts _ wf_PV_179) (fun _ h9 => h9) rfl d_PV_notSafe_46 ?_
      refine va_get (D := G.1) (ci := 1) (v := .int (gI o2 3)) (C := R_Fo) (T := T_Fo) (N := 7) hx hb hts i_Fo hown hK hP 13 rfl rfl 3 (by decide) (hts _ wf_PV_188) (fun _ h9 => h9) rfl d_PV_notSafe_49 ?_
      refine lv_aload_n hx hb d_PV_notSafe_52 rfl (lv_at hl 0 rfl) ?_
      refine va_get (D := G.1) (ci := 0) (v := .ref (q0 4)) (C := R_PV) (T := T_PV) (N := 14) hx hb hts i_PV hown hK hP 0 rfl rfl 4 (by decide) (hts _ wf_PV_50) (fun _ h9 => h9) rfl d_PV_notSafe_53 ?_
      refine va_get (D := G.1) (ci := 5) (v := .ref (q1 9)) (C := R_Mo) (T := T_Mo) (N := 13) hx hb hts i_Mo hown hK hP 5 rfl rfl 9 (by decide) (hts _ wf_PV_179) (fun _ h9 => h9) rfl d_PV_notSafe_56 ?_
      refine va_get (D := G.1) (ci := 1) (v := .int (gI o2 4)) (C := R_Fo) (T := T_Fo) (N := 7) hx hb hts i_Fo hown hK hP 13 rfl rfl 4 (by decide) (hts _ wf_PV_191) (fun _ h9 => h9) rfl d_PV_notSafe_59 ?_
      refine cl_Vv (b := b_PV_notSafe) (As := [.int x4, .int (gI o2 3), .int (gI o2 4)]) (rest := []) (ws := [(h0, .inr (0, [.int (gI o0 0), .ref (q0 1), .ref (q0 2), .ref (q0 3), .ref (q0 4), .ref (q0 5), .ref (q0 6), .ref (q0 7), .ref (q0 8), .ref (q0 9), .ref (q0 10), .ref (q0 11), .ref (q0 12), .ref (q0 13)])), kQ G (q0 3) 3 (fun i => some (q0 (50 + i))), kI G (q0 6) 1000 (gA o0 6), kJ G (q0 7) 2000 (gB o0 7), kI G (q0 13) 5 (gA o0 13), ((q0 4), .inr (5, [.ref (r1 0), .int (gI o1 1), .int (gI o1 2), .ref (q1 3), .ref (q1 4), .ref (q1 5), .ref (q1 6), .ref (q1 7), .ref (q1 8), .ref (q1 9), .ref (q1 10), .int (gI o1 11), .int (gI o1 12)])), kI G (q1 3) 20 (gA o1 3), kI G (q1 4) 20 (gA o1 4), kI G (q1 5) 5 (gA o1 5), kJ G (q1 6) 5 (gB o1 6), kJ G (q1 7) 5 (gB o1 7), kJ G (q1 8) 6 (gB o1 8), kI G (q1 10) 5 (gA o1 10), ((q1 9), .inr (1, [.int (gI o2 0), .int (gI o2 1), .int (gI o2 2), .int (gI o2 3), .int (gI o2 4), .int (gI o2 5), .int (gI o2 6)])), ((q0 11), .inr (8, [.ref (q3 0), .ref (q3 1), .int (gI o3 2), .int (gI o3 3), .int (gI o3 4), .int (gI o3 5)])), kI G (q3 1) 969 (gA o3 1), ((q3 0), .inr (1, [.int (gI o4 0), .int (gI o4 1), .int (gI o4 2), .int (gI o4 3), .int (gI o4 4), .int (gI o4 5), .int (gI o4 6)]))]) (wr := [(h0, .inr (0, [.int (gI o0 0), .ref (q0 1), .ref (q0 2), .ref (q0 3), .ref (q0 4), .ref (q0 5), .ref (q0 6), .ref (q0 7), .ref (q0 8), .ref (q0 9), .ref (q0 10), .ref (q0 11), .ref (q0 12), .ref (q0 13)])), kQ G (q0 3) 3 (fun i => some (q0 (50 + i))), kI G (q0 6) 1000 (gA o0 6), kJ G (q0 7) 2000 (gB o0 7), kI G (q0 13) 5 (gA o0 13), ((q0 4), .inr (5, [.ref (r1 0), .int (gI o1 1), .int (gI o1 2), .ref (q1 3), .ref (q1 4), .ref (q1 5), .ref (q1 6), .ref (q1 7), .ref (q1 8), .ref (q1 9), .ref (q1 10), .int (gI o1 11), .int (gI o1 12)])), kI G (q1 3) 20 (gA o1 3), kI G (q1 4) 20 (gA o1 4), kI G (q1 5) 5 (gA o1 5), kJ G (q1 6) 5 (gB o1 6), kJ G (q1 7) 5 (gB o1 7), kJ G (q1 8) 6 (gB o1 8), kI G (q1 10) 5 (gA o1 10), ((q1 9), .inr (1, [.int (gI o2 0), .int (gI o2 1), .int (gI o2 2), .int (gI o2 3), .int (gI o2 4), .int (gI o2 5), .int (gI o2 6)]))]) (w2 := fun (u : Ob × Ob) => [(h0, .inr (0, [.int (gI o0 0), .ref (q0 1), .ref (q0 2), .ref (q0 3), .ref (q0 4), .ref (q0 5), .ref (q0 6), .ref (q0 7), .ref (q0 8), .ref (q0 9), .ref (q0 10), .ref (q0 11), .ref (q0 12), .ref (q0 13)])), kQ G (q0 3) 3 (fun i => some (q0 (50 + i))), kI G (q0 6) 1000 (gA o0 6), kJ G (q0 7) 2000 (gB o0 7), kI G (q0 13) 5 (gA o0 13), ((q0 4), .inr (5, [.ref (r1 0), .int (gI o1 1), .int (gI o1 2), .ref (q1 3), .ref (q1 4), .ref (q1 5), .ref (q1 6), .ref (q1 7), .ref (q1 8), .ref (q1 9), .ref (q1 10), .int (gI o1 11), .int (gI o1 12)])), kI G (q1 3) 20 (gA o1 3), kI G (q1 4) 20 (gA o1 4), kI G (q1 5) 5 (gA o1 5), kJ G (q1 6) 5 (gB o1 6), kJ G (q1 7) 5 (gB o1 7), kJ G (q1 8) 6 (gB o1 8), kI G (q1 10) 5 (gA o1 10), ((q1 9), .inr (1, [.int (gI o2 0), .int (gI o2 1), .int (gI o2 2), .int (gI o2 3), .int (gI o2 4), .int (gI o2 5), .int (gI o2 6)])), ((q0 11), .inr (8, [.ref (q3 0), .ref (q3 1), .int (gI u.1 2), .int (gI u.1 3), .int (gI u.1 4), .int (gI u.1 5)])), kI G (q3 1) 969 (gA u.1 1), ((q3 0), .inr (1, [.int (gI u.2 0), .int (gI u.2 1), .int (gI u.2 2), .int (gI u.2 3), .int (gI u.2 4), .int (gI u.2 5), .int (gI u.2 6)]))]) C (c_Rh_find (h0 := (q0 11)) (q0 := q3) (q1 := q4) H.size h) wv_PV_226 ⟨Nat.le_of_ble_eq_true rfl, Nat.le_of_ble_eq_true rfl⟩ hP hD hS 14 rfl rfl [14, 15, 16] [0, 1, 2, 3, 4, 5, 6, 7, 8, 9, 10, 11, 12, 13] rfl rfl (by decide) (by decide) (by decide) [0, 1, 2, 3, 4, 5, 6, 7, 8, 9, 10, 11, 12, 13, 14, 15, 16] (by decide) (fun u => rfl) rfl hl.1 rfl (lv_room (Nat.le_of_ble_eq_true rfl)) d_PV_notSafe_62 ⟨Nat.le_of_ble_eq_true rfl, Nat.le_of_ble_eq_true rfl⟩ rfl rfl (fun u H locs h hP hD hS => ?_)
      obtain ⟨u2, u3⟩ := u
      have hP : va_P G.1 CL [(h0, .inr (0, [.int (gI o0 0), .ref (q0 1), .ref (q0 2), .ref (q0 3), .ref (q0 4), .ref (q0 5), .ref (q0 6), .ref (q0 7), .ref (q0 8), .ref (q0 9), .ref (q0 10), .ref (q0 11), .ref (q0 12), .ref (q0 13)])), kQ G (q0 3) 3 (fun i => some (q0 (50 + i))), kI G (q0 6) 1000 (gA o0 6), kJ G (q0 7) 2000 (gB o0 7), kI G (q0 13) 5 (gA o0 13), ((q0 4), .inr (5, [.ref (r1 0), .int (gI o1 1), .int (gI o1 2), .ref (q1 3), .ref (q1 4), .ref (q1 5), .ref (q1 6), .ref (q1 7), .ref (q1 8), .ref (q1 9), .ref (q1 10), .int (gI o1 11), .int (gI o1 12)])), kI G (q1 3) 20 (gA o1 3), kI G (q1 4) 20 (gA o1 4), kI G (q1 5) 5 (gA o1 5), kJ G (q1 6) 5 (gB o1 6), kJ G (q1 7) 5 (gB o1 7), kJ G (q1 8) 6 (gB o1 8), kI G (q1 10) 5 (gA o1 10), ((q1 9), .inr (1, [.int (gI o2 0), .int (gI o2 1), .int (gI o2 2), .int (gI o2 3), .int (gI o2 4), .int (gI o2 5), .int (gI o2 6)])), ((q0 11), .inr (8, [.ref (q3 0), .ref (q3 1), .int (gI u2 2), .int (gI u2 3), .int (gI u2 4), .int (gI u2 5)])), kI G (q3 1) 969 (gA u2 1), ((q3 0), .inr (1, [.int (gI u3 0), .int (gI u3 1), .int (gI u3 2), .int (gI u3 3), .int (gI u3 4), .int (gI u3 5), .int (gI u3 6)]))] H := hP
      have hD : va_D A [(h0, .inr (0, [.int (gI o0 0), .ref (q0 1), .ref (q0 2), .ref (q0 3), .ref (q0 4), .ref (q0 5), .ref (q0 6), .ref (q0 7), .ref (q0 8), .ref (q0 9), .ref (q0 10), .ref (q0 11), .ref (q0 12), .ref (q0 13)])), kQ G (q0 3) 3 (fun i => some (q0 (50 + i))), kI G (q0 6) 1000 (gA o0 6), kJ G (q0 7) 2000 (gB o0 7), kI G (q0 13) 5 (gA o0 13), ((q0 4), .inr (5, [.ref (r1 0), .int (gI o1 1), .int (gI o1 2), .ref (q1 3), .ref (q1 4), .ref (q1 5), .ref (q1 6), .ref (q1 7), .ref (q1 8), .ref (q1 9), .ref (q1 10), .int (gI o1 11), .int (gI o1 12)])), kI G (q1 3) 20 (gA o1 3), kI G (q1 4) 20 (gA o1 4), kI G (q1 5) 5 (gA o1 5), kJ G (q1 6) 5 (gB o1 6), kJ G (q1 7) 5 (gB o1 7), kJ G (q1 8) 6 (gB o1 8), kI G (q1 10) 5 (gA o1 10), ((q1 9), .inr (1, [.int (gI o2 0), .int (gI o2 1), .int (gI o2 2), .int (gI o2 3), .int (gI o2 4), .int (gI o2 5), .int (gI o2 6)])), ((q0 11), .inr (8, [.ref (q3 0), .ref (q3 1), .int (gI u2 2), .int (gI u2 3), .int (gI u2 4), .int (gI u2 5)])), kI G (q3 1) 969 (gA u2 1), ((q3 0), .inr (1, [.int (gI u3 0), .int (gI u3 1), .int (gI u3 2), .int (gI u3 3), .int (gI u3 4), .int (gI u3 5), .int (gI u3 6)]))] := hD
      refine lv_bipush (v := (100 : Int32)) hx hb d_PV_notSafe_65 (by decide) ?_
      refine lv_aload_n hx hb d_PV_notSafe_67 rfl (lv_at hl 0 rfl) ?_
      refine va_get (D := G.1) (ci := 0) (v := .ref (q0 11)) (C := R_PV) (T := T_PV) (N := 14) hx hb hts i_PV hown hK hP 0 rfl rfl 11 (by decide) (hts _ wf_PV_91) (fun _ h9 => h9) rfl d_PV_notSafe_68 ?_
      refine va_get (D := G.1) (ci := 8) (v := .int (gI u2 5)) (C := R_Rh) (T := T_Rh) (N := 6) hx hb hts i_Rh hown hK hP 14 rfl rfl 5 (by decide) (hts _ wf_PV_239) (fun _ h9 => h9) rfl d_PV_notSafe_71 ?_
      refine lv_imul hx hb d_PV_notSafe_74 ?_
      refine lv_iload_n hx hb d_PV_notSafe_75 rfl (lv_at hl 2 rfl) ?_
      refine lv_aload_n hx hb d_PV_notSafe_76 rfl (lv_at hl 0 rfl) ?_
      refine va_get (D := G.1) (ci := 0) (v := .ref (q0 11)) (C := R_PV) (T := T_PV) (N := 14) hx hb hts i_PV hown hK hP 0 rfl rfl 11 (by decide) (hts _ wf_PV_91) (fun _ h9 => h9) rfl d_PV_notSafe_77 ?_
      refine va_get (D := G.1) (ci := 8) (v := .int (gI u2 3)) (C := R_Rh) (T := T_Rh) (N := 6) hx hb hts i_Rh hown hK hP 14 rfl rfl 3 (by decide) (hts _ wf_PV_233) (fun _ h9 => h9) rfl d_PV_notSafe_80 ?_
      refine lv_imul hx hb d_PV_notSafe_83 ?_
      refine lv_icmp_le (tgt := 90) hx hb d_PV_notSafe_84 (by decide) (fun c4 => ?_) (fun c4 => ?_)
      · have h := h.1 c4
        refine lv_iinc (v := (x4 + (1 : Int32))) (lv' := [(4, .int (x4 + (1 : Int32))), (0, .ref h0), (2, .int x2), (3, .int x3)]) hx hb d_PV_notSafe_90 hl (k := 3) rfl rfl (by decide) rfl (fun ls hl => ?_)
        refine lv_goto (tgt := 30) hx hb d_PV_notSafe_93 (by decide) ?_
        have hl := lv_sub (l' := [(0, .ref h0), (2, .int x2), (3, .int x3), (4, .int (x4 + (1 : Int32)))]) hl [1, 2, 3, 0] rfl
        have hP : va_P G.1 CL (cw_PV G h0 q0 o0 ++ (cw_Mo G (q0 4) q1 r1 o1 ++ (cw_Fo G (q1 9) q2 o2 ++ (cw_Rh G (q0 11) q3 u2 ++ (cw_Fo G (q3 0) q4 u3))))) H := hP
        have hD : va_D A (cw_PV G h0 q0 o0 ++ (cw_Mo G (q0 4) q1 r1 o1 ++ (cw_Fo G (q1 9) q2 o2 ++ (cw_Rh G (q0 11) q3 u2 ++ (cw_Fo G (q3 0) q4 u3))))) := hD
        exact ih x2 x3 (x4 + (1 : Int32)) u2 u3 ls H locs hl hP hD hS h
      · have h := h.2 c4
        refine lv_iload hx hb d_PV_notSafe_87 (lv_at hl 3 rfl) ?_
        have hP : va_P G.1 CL (cw_PV G h0 q0 o0 ++ (cw_Mo G (q0 4) q1 r1 o1 ++ (cw_Fo G (q1 9) q2 o2 ++ (cw_Rh G (q0 11) q3 u2 ++ (cw_Fo G (q3 0) q4 u3))))) H := hP
        have hD : va_D A (cw_PV G h0 q0 o0 ++ (cw_Mo G (q0 4) q1 r1 o1 ++ (cw_Fo G (q1 9) q2 o2 ++ (cw_Rh G (q0 11) q3 u2 ++ (cw_Fo G (q3 0) q4 u3))))) := hD
        exact W.iret (v := x4) hx hb hr (fun t ht hW => ⟨⟨x4, (u2, u3), rfl, h, by rw [ht]; exact hP, va_K.moved hW.alike hK, hD⟩, hS.F ht⟩) hS.2.2 d_PV_notSafe_89
set_option maxHeartbeats 4000000 in
set_option maxRecDepth 100000 in
theorem c_PV_notSafe {l : Launch} {G : Gl} {h0 : Nat} {q0 : Nat → Nat} {q1 : Nat → Nat} {q2 : Nat → Nat} {q3 : Nat → Nat} {q4 : Nat → Nat} {a0 : Int32} {a1 : Int32} {a2 : Int32} {o0 : Ob} {r1 : (Nat → Nat)} {o1 : Ob} {o2 : Ob} {o3 : Ob} {o4 : Ob} {Q : Int32 → Ob → Ob → Prop} (sz : Nat) (h : f_PV_notSafe a0 a1 a2 o0 r1 o1 o2 o3 o4 Q) : Met l y_PV_notSafe w_PV_notSafe rm_PV_notSafe (PcW G [.ref h0, .int a0, .int a1, .int a2] sz (cw_PV G h0 q0 o0 ++ (cw_Mo G (q0 4) q1 r1 o1 ++ (cw_Fo G (q1 9) q2 o2 ++ (cw_Rh G (q0 11) q3 o3 ++ (cw_Fo G (q3 0) q4 o4)))))) (va_Qi (fun (r : Int32) (u : Ob × Ob) => Q r u.1 u.2) (fun (u : Ob × Ob) t => BW G (va_A (cw_PV G h0 q0 o0 ++ (cw_Mo G (q0 4) q1 r1 o1 ++ (cw_Fo G (q1 9) q2 o2 ++ (cw_Rh G (q0 11) q3 o3 ++ (cw_Fo G (q3 0) q4 o4))))) sz) (cw_PV G h0 q0 o0 ++ (cw_Mo G (q0 4) q1 r1 o1 ++ (cw_Fo G (q1 9) q2 o2 ++ (cw_Rh G (q0 11) q3 u.1 ++ (cw_Fo G (q3 0) q4 u.2))))) t) (va_A (cw_PV G h0 q0 o0 ++ (cw_Mo G (q0 4) q1 r1 o1 ++ (cw_Fo G (q1 9) q2 o2 ++ (cw_Rh G (q0 11) q3 o3 ++ (cw_Fo G (q3 0) q4 o4))))) sz)) 0 0 (va_A (cw_PV G h0 q0 o0 ++ (cw_Mo G (q0 4) q1 r1 o1 ++ (cw_Fo G (q1 9) q2 o2 ++ (cw_Rh G (q0 11) q3 o3 ++ (cw_Fo G (q3 0) q4 o4))))) sz) := by
  refine Met.ofW (cc := b_PV_notSafe) (maxL := 5) (ret := (some .int)) (by decide +kernel) rfl ?_
  intro p e s m args below meth c s₁ B hml hv
  obtain ⟨rfl, hsz, hP, hK, hD0, hE⟩ := hv
  have hx := B.exec
  have hb := B.bytes
  have hr := B.returns
  have hts0 := atoms_spec (ws := w_PV_notSafe) B.pre
  have hts : ∀ w ∈ gw_tbl, w.before ([.ref h0, .int a0, .int a1, .int a2]).toArray s = true := fun w hw => hts0 w (List.mem_cons_of_mem _ hw)
  have hown : s.vm.findClass R_PV = some m.cls := findClass_of_methodNamed B.named
  have hlocks := B.notSynchronized
  subst hsz
  have hD := hD0.self (sz := s.heap.size)
  generalize hAe : va_A (cw_PV G h0 q0 o0 ++ (cw_Mo G (q0 4) q1 r1 o1 ++ (cw_Fo G (q1 9) q2 o2 ++ (cw_Rh G (q0 11) q3 o3 ++ (cw_Fo G (q3 0) q4 o4))))) s.heap.size = A at hD hE ⊢
  have hA : ∀ q : Nat, s.heap.size ≤ q → A q := fun q h => by rw [← hAe]; exact Or.inr h
  have hS : va_S A s.heap s.heap [] := va_S.rf
  have C : Cx p s m ([.ref h0, .int a0, .int a1, .int a2]).toArray meth c R_PV b_PV_notSafe 5 (some .int) G A := ⟨hx, hb, hml, hown, hr, hts, hK, hA, hlocks, hE⟩
  have hl := lv_entry ([.ref h0, .int a0, .int a1, .int a2]) (n := 5) (Nat.le_of_ble_eq_true rfl)
  rw [lg_entry_eq]
  generalize (lg_sl ([.ref h0, .int a0, .int a1, .int a2]) ++ List.replicate (5 - (lg_sl ([.ref h0, .int a0, .int a1, .int a2])).length) Slot.unset).toArray = ls at hl ⊢
  have hl : lv_has ls 5 [(0, .ref h0), (1, .int a0), (2, .int a1), (3, .int a2)] := hl
  have hD : va_D A [(h0, .inr (0, [.int (gI o0 0), .ref (q0 1), .ref (q0 2), .ref (q0 3), .ref (q0 4), .ref (q0 5), .ref (q0 6), .ref (q0 7), .ref (q0 8), .ref (q0 9), .ref (q0 10), .ref (q0 11), .ref (q0 12), .ref (q0 13)])), kQ G (q0 3) 3 (fun i => some (q0 (50 + i))), kI G (q0 6) 1000 (gA o0 6), kJ G (q0 7) 2000 (gB o0 7), kI G (q0 13) 5 (gA o0 13), ((q0 4), .inr (5, [.ref (r1 0), .int (gI o1 1), .int (gI o1 2), .ref (q1 3), .ref (q1 4), .ref (q1 5), .ref (q1 6), .ref (q1 7), .ref (q1 8), .ref (q1 9), .ref (q1 10), .int (gI o1 11), .int (gI o1 12)])), kI G (q1 3) 20 (gA o1 3), kI G (q1 4) 20 (gA o1 4), kI G (q1 5) 5 (gA o1 5), kJ G (q1 6) 5 (gB o1 6), kJ G (q1 7) 5 (gB o1 7), kJ G (q1 8) 6 (gB o1 8), kI G (q1 10) 5 (gA o1 10), ((q1 9), .inr (1, [.int (gI o2 0), .int (gI o2 1), .int (gI o2 2), .int (gI o2 3), .int (gI o2 4), .int (gI o2 5), .int (gI o2 6)])), ((q0 11), .inr (8, [.ref (q3 0), .ref (q3 1), .int (gI o3 2), .int (gI o3 3), .int (gI o3 4), .int (gI o3 5)])), kI G (q3 1) 969 (gA o3 1), ((q3 0), .inr (1, [.int (gI o4 0), .int (gI o4 1), .int (gI o4 2), .int (gI o4 3), .int (gI o4 4), .int (gI o4 5), .int (gI o4 6)]))] := hD
  unfold f_PV_notSafe at h
  suffices key : ∀ (H : Heap) (locs : List Loc), va_P G.1 CL [(h0, .inr (0, [.int (gI o0 0), .ref (q0 1), .ref (q0 2), .ref (q0 3), .ref (q0 4), .ref (q0 5), .ref (q0 6), .ref (q0 7), .ref (q0 8), .ref (q0 9), .ref (q0 10), .ref (q0 11), .ref (q0 12), .ref (q0 13)])), kQ G (q0 3) 3 (fun i => some (q0 (50 + i))), kI G (q0 6) 1000 (gA o0 6), kJ G (q0 7) 2000 (gB o0 7), kI G (q0 13) 5 (gA o0 13), ((q0 4), .inr (5, [.ref (r1 0), .int (gI o1 1), .int (gI o1 2), .ref (q1 3), .ref (q1 4), .ref (q1 5), .ref (q1 6), .ref (q1 7), .ref (q1 8), .ref (q1 9), .ref (q1 10), .int (gI o1 11), .int (gI o1 12)])), kI G (q1 3) 20 (gA o1 3), kI G (q1 4) 20 (gA o1 4), kI G (q1 5) 5 (gA o1 5), kJ G (q1 6) 5 (gB o1 6), kJ G (q1 7) 5 (gB o1 7), kJ G (q1 8) 6 (gB o1 8), kI G (q1 10) 5 (gA o1 10), ((q1 9), .inr (1, [.int (gI o2 0), .int (gI o2 1), .int (gI o2 2), .int (gI o2 3), .int (gI o2 4), .int (gI o2 5), .int (gI o2 6)])), ((q0 11), .inr (8, [.ref (q3 0), .ref (q3 1), .int (gI o3 2), .int (gI o3 3), .int (gI o3 4), .int (gI o3 5)])), kI G (q3 1) 969 (gA o3 1), ((q3 0), .inr (1, [.int (gI o4 0), .int (gI o4 1), .int (gI o4 2), .int (gI o4 3), .int (gI o4 4), .int (gI o4 5), .int (gI o4 6)]))] H → va_S A s.heap H locs → W p l e rm_PV_notSafe s m ([.ref h0, .int a0, .int a1, .int a2]).toArray below meth c H locs 0 0 (MQ below (va_Qi (fun (r : Int32) (u : Ob × Ob) => Q r u.1 u.2) (fun (u : Ob × Ob) t => BW G A (cw_PV G h0 q0 o0 ++ (cw_Mo G (q0 4) q1 r1 o1 ++ (cw_Fo G (q1 9) q2 o2 ++ (cw_Rh G (q0 11) q3 u.1 ++ (cw_Fo G (q3 0) q4 u.2))))) t) A) ([.ref h0, .int a0, .int a1, .int a2]).toArray s 0 0 A) (F0 m 0 ls []) from key s.heap [] hP hS
  intro H locs hP hS
  refine lv_iload_n hx hb d_PV_notSafe_0 rfl (lv_at hl 1 rfl) ?_
  refine cl_Si (b := b_PV_notSafe) (As := [.int a0]) (rest := []) (ws := [(h0, .inr (0, [.int (gI o0 0), .ref (q0 1), .ref (q0 2), .ref (q0 3), .ref (q0 4), .ref (q0 5), .ref (q0 6), .ref (q0 7), .ref (q0 8), .ref (q0 9), .ref (q0 10), .ref (q0 11), .ref (q0 12), .ref (q0 13)])), kQ G (q0 3) 3 (fun i => some (q0 (50 + i))), kI G (q0 6) 1000 (gA o0 6), kJ G (q0 7) 2000 (gB o0 7), kI G (q0 13) 5 (gA o0 13), ((q0 4), .inr (5, [.ref (r1 0), .int (gI o1 1), .int (gI o1 2), .ref (q1 3), .ref (q1 4), .ref (q1 5), .ref (q1 6), .ref (q1 7), .ref (q1 8), .ref (q1 9), .ref (q1 10), .int (gI o1 11), .int (gI o1 12)])), kI G (q1 3) 20 (gA o1 3), kI G (q1 4) 20 (gA o1 4), kI G (q1 5) 5 (gA o1 5), kJ G (q1 6) 5 (gB o1 6), kJ G (q1 7) 5 (gB o1 7), kJ G (q1 8) 6 (gB o1 8), kI G (q1 10) 5 (gA o1 10), ((q1 9), .inr (1, [.int (gI o2 0), .int (gI o2 1), .int (gI o2 2), .int (gI o2 3), .int (gI o2 4), .int (gI o2 5), .int (gI o2 6)])), ((q0 11), .inr (8, [.ref (q3 0), .ref (q3 1), .int (gI o3 2), .int (gI o3 3), .int (gI o3 4), .int (gI o3 5)])), kI G (q3 1) 969 (gA o3 1), ((q3 0), .inr (1, [.int (gI o4 0), .int (gI o4 1), .int (gI o4 2), .int (gI o4 3), .int (gI o4 4), .int (gI o4 5), .int (gI o4 6)]))]) (wr := [(h0, .inr (0, [.int (gI o0 0), .ref (q0 1), .ref (q0 2), .ref (q0 3), .ref (q0 4), .ref (q0 5), .ref (q0 6), .ref (q0 7), .ref (q0 8), .ref (q0 9), .ref (q0 10), .ref (q0 11), .ref (q0 12), .ref (q0 13)])), kQ G (q0 3) 3 (fun i => some (q0 (50 + i))), kI G (q0 6) 1000 (gA o0 6), kJ G (q0 7) 2000 (gB o0 7), kI G (q0 13) 5 (gA o0 13), ((q0 4), .inr (5, [.ref (r1 0), .int (gI o1 1), .int (gI o1 2), .ref (q1 3), .ref (q1 4), .ref (q1 5), .ref (q1 6), .ref (q1 7), .ref (q1 8), .ref (q1 9), .ref (q1 10), .int (gI o1 11), .int (gI o1 12)])), kI G (q1 3) 20 (gA o1 3), kI G (q1 4) 20 (gA o1 4), kI G (q1 5) 5 (gA o1 5), kJ G (q1 6) 5 (gB o1 6), kJ G (q1 7) 5 (gB o1 7), kJ G (q1 8) 6 (gB o1 8), kI G (q1 10) 5 (gA o1 10), ((q1 9), .inr (1, [.int (gI o2 0), .int (gI o2 1), .int (gI o2 2), .int (gI o2 3), .int (gI o2 4), .int (gI o2 5), .int (gI o2 6)])), ((q0 11), .inr (8, [.ref (q3 0), .ref (q3 1), .int (gI o3 2), .int (gI o3 3), .int (gI o3 4), .int (gI o3 5)])), kI G (q3 1) 969 (gA o3 1), ((q3 0), .inr (1, [.int (gI o4 0), .int (gI o4 1), .int (gI o4 2), .int (gI o4 3), .int (gI o4 4), .int (gI o4 5), .int (gI o4 6)]))]) (w2 := fun (u : Unit) => [(h0, .inr (0, [.int (gI o0 0), .ref (q0 1), .ref (q0 2), .ref (q0 3), .ref (q0 4), .ref (q0 5), .ref (q0 6), .ref (q0 7), .ref (q0 8), .ref (q0 9), .ref (q0 10), .ref (q0 11), .ref (q0 12), .ref (q0 13)])), kQ G (q0 3) 3 (fun i => some (q0 (50 + i))), kI G (q0 6) 1000 (gA o0 6), kJ G (q0 7) 2000 (gB o0 7), kI G (q0 13) 5 (gA o0 13), ((q0 4), .inr (5, [.ref (r1 0), .int (gI o1 1), .int (gI o1 2), .ref (q1 3), .ref (q1 4), .ref (q1 5), .ref (q1 6), .ref (q1 7), .ref (q1 8), .ref (q1 9), .ref (q1 10), .int (gI o1 11), .int (gI o1 12)])), kI G (q1 3) 20 (gA o1 3), kI G (q1 4) 20 (gA o1 4), kI G (q1 5) 5 (gA o1 5), kJ G (q1 6) 5 (gB o1 6), kJ G (q1 7) 5 (gB o1 7), kJ G (q1 8) 6 (gB o1 8), kI G (q1 10) 5 (gA o1 10), ((q1 9), .inr (1, [.int (gI o2 0), .int (gI o2 1), .int (gI o2 2), .int (gI o2 3), .int (gI o2 4), .int (gI o2 5), .int (gI o2 6)])), ((q0 11), .inr (8, [.ref (q3 0), .ref (q3 1), .int (gI o3 2), .int (gI o3 3), .int (gI o3 4), .int (gI o3 5)])), kI G (q3 1) 969 (gA o3 1), ((q3 0), .inr (1, [.int (gI o4 0), .int (gI o4 1), .int (gI o4 2), .int (gI o4 3), .int (gI o4 4), .int (gI o4 5), .int (gI o4 6)]))]) C (c_PV_isBreath H.size h) ws_PV_176 ⟨Nat.le_of_ble_eq_true rfl, Nat.le_of_ble_eq_true rfl⟩ hP hD hS [] [0, 1, 2, 3, 4, 5, 6, 7, 8, 9, 10, 11, 12, 13, 14, 15, 16] rfl rfl (by decide) (by decide) (by decide) [0, 1, 2, 3, 4, 5, 6, 7, 8, 9, 10, 11, 12, 13, 14, 15, 16] (by decide) (fun u => rfl) rfl hl.1 rfl (lv_room (Nat.le_of_ble_eq_true rfl)) d_PV_notSafe_1 ⟨Nat.le_of_ble_eq_true rfl, Nat.le_of_ble_eq_true rfl⟩ rfl rfl (fun z5 u H locs h hP hD hS => ?_)
  have hP : va_P G.1 CL [(h0, .inr (0, [.int (gI o0 0), .ref (q0 1), .ref (q0 2), .ref (q0 3), .ref (q0 4), .ref (q0 5), .ref (q0 6), .ref (q0 7), .ref (q0 8), .ref (q0 9), .ref (q0 10), .ref (q0 11), .ref (q0 12), .ref (q0 13)])), kQ G (q0 3) 3 (fun i => some (q0 (50 + i))), kI G (q0 6) 1000 (gA o0 6), kJ G (q0 7) 2000 (gB o0 7), kI G (q0 13) 5 (gA o0 13), ((q0 4), .inr (5, [.ref (r1 0), .int (gI o1 1), .int (gI o1 2), .ref (q1 3), .ref (q1 4), .ref (q1 5), .ref (q1 6), .ref (q1 7), .ref (q1 8), .ref (q1 9), .ref (q1 10), .int (gI o1 11), .int (gI o1 12)])), kI G (q1 3) 20 (gA o1 3), kI G (q1 4) 20 (gA o1 4), kI G (q1 5) 5 (gA o1 5), kJ G (q1 6) 5 (gB o1 6), kJ G (q1 7) 5 (gB o1 7), kJ G (q1 8) 6 (gB o1 8), kI G (q1 10) 5 (gA o1 10), ((q1 9), .inr (1, [.int (gI o2 0), .int (gI o2 1), .int (gI o2 2), .int (gI o2 3), .int (gI o2 4), .int (gI o2 5), .int (gI o2 6)])), ((q0 11), .inr (8, [.ref (q3 0), .ref (q3 1), .int (gI o3 2), .int (gI o3 3), .int (gI o3 4), .int (gI o3 5)])), kI G (q3 1) 969 (gA o3 1), ((q3 0), .inr (1, [.int (gI o4 0), .int (gI o4 1), .int (gI o4 2), .int (gI o4 3), .int (gI o4 4), .int (gI o4 5), .int (gI o4 6)]))] H := hP
  have hD : va_D A [(h0, .inr (0, [.int (gI o0 0), .ref (q0 1), .ref (q0 2), .ref (q0 3), .ref (q0 4), .ref (q0 5), .ref (q0 6), .ref (q0 7), .ref (q0 8), .ref (q0 9), .ref (q0 10), .ref (q0 11), .ref (q0 12), .ref (q0 13)])), kQ G (q0 3) 3 (fun i => some (q0 (50 + i))), kI G (q0 6) 1000 (gA o0 6), kJ G (q0 7) 2000 (gB o0 7), kI G (q0 13) 5 (gA o0 13), ((q0 4), .inr (5, [.ref (r1 0), .int (gI o1 1), .int (gI o1 2), .ref (q1 3), .ref (q1 4), .ref (q1 5), .ref (q1 6), .ref (q1 7), .ref (q1 8), .ref (q1 9), .ref (q1 10), .int (gI o1 11), .int (gI o1 12)])), kI G (q1 3) 20 (gA o1 3), kI G (q1 4) 20 (gA o1 4), kI G (q1 5) 5 (gA o1 5), kJ G (q1 6) 5 (gB o1 6), kJ G (q1 7) 5 (gB o1 7), kJ G (q1 8) 6 (gB o1 8), kI G (q1 10) 5 (gA o1 10), ((q1 9), .inr (1, [.int (gI o2 0), .int (gI o2 1), .int (gI o2 2), .int (gI o2 3), .int (gI o2 4), .int (gI o2 5), .int (gI o2 6)])), ((q0 11), .inr (8, [.ref (q3 0), .ref (q3 1), .int (gI o3 2), .int (gI o3 3), .int (gI o3 4), .int (gI o3 5)])), kI G (q3 1) 969 (gA o3 1), ((q3 0), .inr (1, [.int (gI o4 0), .int (gI o4 1), .int (gI o4 2), .int (gI o4 3), .int (gI o4 4), .int (gI o4 5), .int (gI o4 6)]))] := hD
  refine lv_if_eq (tgt := 25) hx hb d_PV_notSafe_4 (by decide) (fun c6 => ?_) (fun c6 => ?_)
  · have h := h.1 c6
    refine lv_iconst (v := (-1 : Int32)) hx hb d_PV_notSafe_25 (by decide) ?_
    have hP : va_P G.1 CL (cw_PV G h0 q0 o0 ++ (cw_Mo G (q0 4) q1 r1 o1 ++ (cw_Fo G (q1 9) q2 o2 ++ (cw_Rh G (q0 11) q3 o3 ++ (cw_Fo G (q3 0) q4 o4))))) H := hP
    have hD : va_D A (cw_PV G h0 q0 o0 ++ (cw_Mo G (q0 4) q1 r1 o1 ++ (cw_Fo G (q1 9) q2 o2 ++ (cw_Rh G (q0 11) q3 o3 ++ (cw_Fo G (q3 0) q4 o4))))) := hD
    exact W.iret (v := (-1 : Int32)) hx hb hr (fun t ht hW => ⟨⟨(-1 : Int32), (o3, o4), rfl, h, by rw [ht]; exact hP, va_K.moved hW.alike hK, hD⟩, hS.F ht⟩) hS.2.2 d_PV_notSafe_26
  · have h := h.2 c6
    refine lv_iload_n hx hb d_PV_notSafe_7 rfl (lv_at hl 2 rfl) ?_
    refine cl_Si (b := b_PV_notSafe) (As := [.int a1]) (rest := []) (ws := [(h0, .inr (0, [.int (gI o0 0), .ref (q0 1), .ref (q0 2), .ref (q0 3), .ref (q0 4), .ref (q0 5), .ref (q0 6), .ref (q0 7), .ref (q0 8), .ref (q0 9), .ref (q0 10), .ref (q0 11), .ref (q0 12), .ref (q0 13)])), kQ G (q0 3) 3 (fun i => some (q0 (50 + i))), kI G (q0 6) 1000 (gA o0 6), kJ G (q0 7) 2000 (gB o0 7), kI G (q0 13) 5 (gA o0 13), ((q0 4), .inr (5, [.ref (r1 0), .int (gI o1 1), .int (gI o1 2), .ref (q1 3), .ref (q1 4), .ref (q1 5), .ref (q1 6), .ref (q1 7), .ref (q1 8), .ref (q1 9), .ref (q1 10), .int (gI o1 11), .int (gI o1 12)])), kI G (q1 3) 20 (gA o1 3), kI G (q1 4) 20 (gA o1 4), kI G (q1 5) 5 (gA o1 5), kJ G (q1 6) 5 (gB o1 6), kJ G (q1 7) 5 (gB o1 7), kJ G (q1 8) 6 (gB o1 8), kI G (q1 10) 5 (gA o1 10), ((q1 9), .inr (1, [.int (gI o2 0), .int (gI o2 1), .int (gI o2 2), .int (gI o2 3), .int (gI o2 4), .int (gI o2 5), .int (gI o2 6)])), ((q0 11), .inr (8, [.ref (q3 0), .ref (q3 1), .int (gI o3 2), .int (gI o3 3), .int (gI o3 4), .int (gI o3 5)])), kI G (q3 1) 969 (gA o3 1), ((q3 0), .inr (1, [.int (gI o4 0), .int (gI o4 1), .int (gI o4 2), .int (gI o4 3), .int (gI o4 4), .int (gI o4 5), .int (gI o4 6)]))]) (wr := [(h0, .inr (0, [.int (gI o0 0), .ref (q0 1), .ref (q0 2), .ref (q0 3), .ref (q0 4), .ref (q0 5), .ref (q0 6), .ref (q0 7), .ref (q0 8), .ref (q0 9), .ref (q0 10), .ref (q0 11), .ref (q0 12), .ref (q0 13)])), kQ G (q0 3) 3 (fun i => some (q0 (50 + i))), kI G (q0 6) 1000 (gA o0 6), kJ G (q0 7) 2000 (gB o0 7), kI G (q0 13) 5 (gA o0 13), ((q0 4), .inr (5, [.ref (r1 0), .int (gI o1 1), .int (gI o1 2), .ref (q1 3), .ref (q1 4), .ref (q1 5), .ref (q1 6), .ref (q1 7), .ref (q1 8), .ref (q1 9), .ref (q1 10), .int (gI o1 11), .int (gI o1 12)])), kI G (q1 3) 20 (gA o1 3), kI G (q1 4) 20 (gA o1 4), kI G (q1 5) 5 (gA o1 5), kJ G (q1 6) 5 (gB o1 6), kJ G (q1 7) 5 (gB o1 7), kJ G (q1 8) 6 (gB o1 8), kI G (q1 10) 5 (gA o1 10), ((q1 9), .inr (1, [.int (gI o2 0), .int (gI o2 1), .int (gI o2 2), .int (gI o2 3), .int (gI o2 4), .int (gI o2 5), .int (gI o2 6)])), ((q0 11), .inr (8, [.ref (q3 0), .ref (q3 1), .int (gI o3 2), .int (gI o3 3), .int (gI o3 4), .int (gI o3 5)])), kI G (q3 1) 969 (gA o3 1), ((q3 0), .inr (1, [.int (gI o4 0), .int (gI o4 1), .int (gI o4 2), .int (gI o4 3), .int (gI o4 4), .int (gI o4 5), .int (gI o4 6)]))]) (w2 := fun (u : Unit) => [(h0, .inr (0, [.int (gI o0 0), .ref (q0 1), .ref (q0 2), .ref (q0 3), .ref (q0 4), .ref (q0 5), .ref (q0 6), .ref (q0 7), .ref (q0 8), .ref (q0 9), .ref (q0 10), .ref (q0 11), .ref (q0 12), .ref (q0 13)])), kQ G (q0 3) 3 (fun i => some (q0 (50 + i))), kI G (q0 6) 1000 (gA o0 6), kJ G (q0 7) 2000 (gB o0 7), kI G (q0 13) 5 (gA o0 13), ((q0 4), .inr (5, [.ref (r1 0), .int (gI o1 1), .int (gI o1 2), .ref (q1 3), .ref (q1 4), .ref (q1 5), .ref (q1 6), .ref (q1 7), .ref (q1 8), .ref (q1 9), .ref (q1 10), .int (gI o1 11), .int (gI o1 12)])), kI G (q1 3) 20 (gA o1 3), kI G (q1 4) 20 (gA o1 4), kI G (q1 5) 5 (gA o1 5), kJ G (q1 6) 5 (gB o1 6), kJ G (q1 7) 5 (gB o1 7), kJ G (q1 8) 6 (gB o1 8), kI G (q1 10) 5 (gA o1 10), ((q1 9), .inr (1, [.int (gI o2 0), .int (gI o2 1), .int (gI o2 2), .int (gI o2 3), .int (gI o2 4), .int (gI o2 5), .int (gI o2 6)])), ((q0 11), .inr (8, [.ref (q3 0), .ref (q3 1), .int (gI o3 2), .int (gI o3 3), .int (gI o3 4), .int (gI o3 5)])), kI G (q3 1) 969 (gA o3 1), ((q3 0), .inr (1, [.int (gI o4 0), .int (gI o4 1), .int (gI o4 2), .int (gI o4 3), .int (gI o4 4), .int (gI o4 5), .int (gI o4 6)]))]) C (c_PV_isBreath H.size h) ws_PV_176 ⟨Nat.le_of_ble_eq_true rfl, Nat.le_of_ble_eq_true rfl⟩ hP hD hS [] [0, 1, 2, 3, 4, 5, 6, 7, 8, 9, 10, 11, 12, 13, 14, 15, 16] rfl rfl (by decide) (by decide) (by decide) [0, 1, 2, 3, 4, 5, 6, 7, 8, 9, 10, 11, 12, 13, 14, 15, 16] (by decide) (fun u => rfl) rfl hl.1 rfl (lv_room (Nat.le_of_ble_eq_true rfl)) d_PV_notSafe_8 ⟨Nat.le_of_ble_eq_true rfl, Nat.le_of_ble_eq_true rfl⟩ rfl rfl (fun z7 u H locs h hP hD hS => ?_)
    have hP : va_P G.1 CL [(h0, .inr (0, [.int (gI o0 0), .ref (q0 1), .ref (q0 2), .ref (q0 3), .ref (q0 4), .ref (q0 5), .ref (q0 6), .ref (q0 7), .ref (q0 8), .ref (q0 9), .ref (q0 10), .ref (q0 11), .ref (q0 12), .ref (q0 13)])), kQ G (q0 3) 3 (fun i => some (q0 (50 + i))), kI G (q0 6) 1000 (gA o0 6), kJ G (q0 7) 2000 (gB o0 7), kI G (q0 13) 5 (gA o0 13), ((q0 4), .inr (5, [.ref (r1 0), .int (gI o1 1), .int (gI o1 2), .ref (q1 3), .ref (q1 4), .ref (q1 5), .ref (q1 6), .ref (q1 7), .ref (q1 8), .ref (q1 9), .ref (q1 10), .int (gI o1 11), .int (gI o1 12)])), kI G (q1 3) 20 (gA o1 3), kI G (q1 4) 20 (gA o1 4), kI G (q1 5) 5 (gA o1 5), kJ G (q1 6) 5 (gB o1 6), kJ G (q1 7) 5 (gB o1 7), kJ G (q1 8) 6 (gB o1 8), kI G (q1 10) 5 (gA o1 10), ((q1 9), .inr (1, [.int (gI o2 0), .int (gI o2 1), .int (gI o2 2), .int (gI o2 3), .int (gI o2 4), .int (gI o2 5), .int (gI o2 6)])), ((q0 11), .inr (8, [.ref (q3 0), .ref (q3 1), .int (gI o3 2), .int (gI o3 3), .int (gI o3 4), .int (gI o3 5)])), kI G (q3 1) 969 (gA o3 1), ((q3 0), .inr (1, [.int (gI o4 0), .int (gI o4 1), .int (gI o4 2), .int (gI o4 3), .int (gI o4 4), .int (gI o4 5), .int (gI o4 6)]))] H := hP
    have hD : va_D A [(h0, .inr (0, [.int (gI o0 0), .ref (q0 1), .ref (q0 2), .ref (q0 3), .ref (q0 4), .ref (q0 5), .ref (q0 6), .ref (q0 7), .ref (q0 8), .ref (q0 9), .ref (q0 10), .ref (q0 11), .ref (q0 12), .ref (q0 13)])), kQ G (q0 3) 3 (fun i => some (q0 (50 + i))), kI G (q0 6) 1000 (gA o0 6), kJ G (q0 7) 2000 (gB o0 7), kI G (q0 13) 5 (gA o0 13), ((q0 4), .inr (5, [.ref (r1 0), .int (gI o1 1), .int (gI o1 2), .ref (q1 3), .ref (q1 4), .ref (q1 5), .ref (q1 6), .ref (q1 7), .ref (q1 8), .ref (q1 9), .ref (q1 10), .int (gI o1 11), .int (gI o1 12)])), kI G (q1 3) 20 (gA o1 3), kI G (q1 4) 20 (gA o1 4), kI G (q1 5) 5 (gA o1 5), kJ G (q1 6) 5 (gB o1 6), kJ G (q1 7) 5 (gB o1 7), kJ G (q1 8) 6 (gB o1 8), kI G (q1 10) 5 (gA o1 10), ((q1 9), .inr (1, [.int (gI o2 0), .int (gI o2 1), .int (gI o2 2), .int (gI o2 3), .int (gI o2 4), .int (gI o2 5), .int (gI o2 6)])), ((q0 11), .inr (8, [.ref (q3 0), .ref (q3 1), .int (gI o3 2), .int (gI o3 3), .int (gI o3 4), .int (gI o3 5)])), kI G (q3 1) 969 (gA o3 1), ((q3 0), .inr (1, [.int (gI o4 0), .int (gI o4 1), .int (gI o4 2), .int (gI o4 3), .int (gI o4 4), .int (gI o4 5), .int (gI o4 6)]))] := hD
    refine lv_if_eq (tgt := 25) hx hb d_PV_notSafe_11 (by decide) (fun c8 => ?_) (fun c8 => ?_)
    · have h := h.1 c8
      refine lv_iconst (v := (-1 : Int32)) hx hb d_PV_notSafe_25 (by decide) ?_
      have hP : va_P G.1 CL (cw_PV G h0 q0 o0 ++ (cw_Mo G (q0 4) q1 r1 o1 ++ (cw_Fo G (q1 9) q2 o2 ++ (cw_Rh G (q0 11) q3 o3 ++ (cw_Fo G (q3 0) q4 o4))))) H := hP
      have hD : va_D A (cw_PV G h0 q0 o0 ++ (cw_Mo G (q0 4) q1 r1 o1 ++ (cw_Fo G (q1 9) q2 o2 ++ (cw_Rh G (q0 11) q3 o3 ++ (cw_Fo G (q3 0) q4 o4))))) := hD
      exact W.iret (v := (-1 : Int32)) hx hb hr (fun t ht hW => ⟨⟨(-1 : Int32), (o3, o4), rfl, h, by rw [ht]; exact hP, va_K.moved hW.alike hK, hD⟩, hS.F ht⟩) hS.2.2 d_PV_notSafe_26
    · have h := h.2 c8
      refine lv_iload_n hx hb d_PV_notSafe_14 rfl (lv_at hl 3 rfl) ?_
      refine lv_if_lt (tgt := 25) hx hb d_PV_notSafe_15 (by decide) (fun c9 => ?_) (fun c9 => ?_)
      · have h := h.1 c9
        refine lv_iconst (v := (-1 : Int32)) hx hb d_PV_notSafe_25 (by decide) ?_
        have hP : va_P G.1 CL (cw_PV G h0 q0 o0 ++ (cw_Mo G (q0 4) q1 r1 o1 ++ (cw_Fo G (q1 9) q2 o2 ++ (cw_Rh G (q0 11) q3 o3 ++ (cw_Fo G (q3 0) q4 o4))))) H := hP
        have hD : va_D A (cw_PV G h0 q0 o0 ++ (cw_Mo G (q0 4) q1 r1 o1 ++ (cw_Fo G (q1 9) q2 o2 ++ (cw_Rh G (q0 11) q3 o3 ++ (cw_Fo G (q3 0) q4 o4))))) := hD
        exact W.iret (v := (-1 : Int32)) hx hb hr (fun t ht hW => ⟨⟨(-1 : Int32), (o3, o4), rfl, h, by rw [ht]; exact hP, va_K.moved hW.alike hK, hD⟩, hS.F ht⟩) hS.2.2 d_PV_notSafe_26
      · have h := h.2 c9
        refine lv_iload_n hx hb d_PV_notSafe_18 rfl (lv_at hl 3 rfl) ?_
        refine lv_sipush (v := (1000 : Int32)) hx hb d_PV_notSafe_19 (by decide) ?_
        refine lv_icmp_le (tgt := 27) hx hb d_PV_notSafe_22 (by decide) (fun c10 => ?_) (fun c10 => ?_)
        · have h := h.1 c10
          refine lv_iload_n hx hb d_PV_notSafe_27 rfl (lv_at hl 1 rfl) ?_
          refine lv_istore (lv' := [(4, .int a0), (0, .ref h0), (1, .int a0), (2, .int a1), (3, .int a2)]) hx hb d_PV_notSafe_28 hl (by decide) rfl (fun ls hl => ?_)
          have hl := lv_sub (l' := [(0, .ref h0), (2, .int a1), (3, .int a2), (4, .int a0)]) hl [1, 3, 4, 0] rfl
          have hP : va_P G.1 CL (cw_PV G h0 q0 o0 ++ (cw_Mo G (q0 4) q1 r1 o1 ++ (cw_Fo G (q1 9) q2 o2 ++ (cw_Rh G (q0 11) q3 o3 ++ (cw_Fo G (q3 0) q4 o4))))) H := hP
          have hD : va_D A (cw_PV G h0 q0 o0 ++ (cw_Mo G (q0 4) q1 r1 o1 ++ (cw_Fo G (q1 9) q2 o2 ++ (cw_Rh G (q0 11) q3 o3 ++ (cw_Fo G (q3 0) q4 o4))))) := hD
          obtain ⟨w, h⟩ := h
          exact t_PV_notSafe_30 o0 r1 o1 o2 Q C w a1 a2 a0 o3 o4 ls _ locs hl hP hD hS h
        · have h := h.2 c10
          refine lv_iconst (v := (-1 : Int32)) hx hb d_PV_notSafe_25 (by decide) ?_
          have hP : va_P G.1 CL (cw_PV G h0 q0 o0 ++ (cw_Mo G (q0 4) q1 r1 o1 ++ (cw_Fo G (q1 9) q2 o2 ++ (cw_Rh G (q0 11) q3 o3 ++ (cw_Fo G (q3 0) q4 o4))))) H := hP
          have hD : va_D A (cw_PV G h0 q0 o0 ++ (cw_Mo G (q0 4) q1 r1 o1 ++ (cw_Fo G (q1 9) q2 o2 ++ (cw_Rh G (q0 11) q3 o3 ++ (cw_Fo G (q3 0) q4 o4))))) := hD
          exact W.iret (v := (-1 : Int32)) hx hb hr (fun t ht hW => ⟨⟨(-1 : Int32), (o3, o4), rfl, h, by rw [ht]; exact hP, va_K.moved hW.alike hK, hD⟩, hS.F ht⟩) hS.2.2 d_PV_notSafe_26
abbrev b_PV_above : ByteArray := prog_1_method_18_code
def y_PV_above : MethodName := ⟨R_PV, "above", "(IIIIII)I"⟩
abbrev w_PV_above : List Cond := Cond.code y_PV_above b_PV_above 7 (some .int) :: gw_tbl
theorem d_PV_above_0 : decode b_PV_above 0 = .ok (.iload 6, 2) := by decide +kernel
theorem d_PV_above_2 : decode b_PV_above 2 = .ok (.bipush (-20), 2) := by decide +kernel
theorem d_PV_above_4 : decode b_PV_above 4 = .ok (.if_icmp .lt 24, 3) := by decide +kernel
theorem d_PV_above_7 : decode b_PV_above 7 = .ok (.iload 6, 2) := by decide +kernel
theorem d_PV_above_9 : decode b_PV_above 9 = .ok (.bipush 20, 2) := by decide +kernel
theorem d_PV_above_11 : decode b_PV_above 11 = .ok (.if_icmp .gt 17, 3) := by decide +kernel
theorem d_PV_above_14 : decode b_PV_above 14 = .ok (.aload_n 0, 1) := by decide +kernel
theorem d_PV_above_15 : decode b_PV_above 15 = .ok (.iload_n 1, 1) := by decide +kernel
theorem d_PV_above_16 : decode b_PV_above 16 = .ok (.iload_n 2, 1) := by decide +kernel
theorem d_PV_above_17 : decode b_PV_above 17 = .ok (.iload_n 3, 1) := by decide +kernel
theorem d_PV_above_18 : decode b_PV_above 18 = .ok (.iload 4, 2) := by decide +kernel
theorem d_PV_above_20 : decode b_PV_above 20 = .ok (.iload 5, 2) := by decide +kernel
theorem d_PV_above_22 : decode b_PV_above 22 = .ok (.invokevirtual 240, 3) := by decide +kernel
theorem d_PV_above_25 : decode b_PV_above 25 = .ok (.ifCond .ne 5, 3) := by decide +kernel
theorem d_PV_above_28 : decode b_PV_above 28 = .ok (.iconst (-1), 1) := by decide +kernel
theorem d_PV_above_29 : decode b_PV_above 29 = .ok (.ireturn, 1) := by decide +kernel
theorem d_PV_above_30 : decode b_PV_above 30 = .ok (.aload_n 0, 1) := by decide +kernel
theorem d_PV_above_31 : decode b_PV_above 31 = .ok (.getfield 102, 3) := by decide +kernel
theorem d_PV_above_34 : decode b_PV_above 34 = .ok (.aload_n 0, 1) := by decide +kernel
theorem d_PV_above_35 : decode b_PV_above 35 = .ok (.getfield 18, 3) := by decide +kernel
theorem d_PV_above_38 : decode b_PV_above 38 = .ok (.iload 6, 2) := by decide +kernel
theorem d_PV_above_40 : decode b_PV_above 40 = .ok (.invokestatic 244, 3) := by decide +kernel
theorem d_PV_above_43 : decode b_PV_above 43 = .ok (.ireturn, 1) := by decide +kernel
theorem wv_PV_240 : wV R_PV 240 y_PV_askShape b_PV_askShape 7 (some .boolean) 5 := ⟨⟨gw_tb (List.mem_of_getElem? (i := 784) (by decide +kernel)) rfl, gw_tb (List.mem_of_getElem? (i := 1) (by decide +kernel)) rfl, gw_tb (List.mem_of_getElem? (i := 787) (by decide +kernel)) rfl, by decide, by decide, by decide +kernel⟩, gw_tb (List.mem_of_getElem? (i := 786) (by decide +kernel)) rfl, gw_of (List.mem_append_left _ (List.mem_of_getElem? (i := 21) (by decide +kernel))) rfl⟩
theorem ws_PV_244 : wS R_PV 244 y_To_countAbove b_To_countAbove 18 (some .int) 3 := ⟨⟨gw_tb (List.mem_of_getElem? (i := 788) (by decide +kernel)) rfl, gw_tb (List.mem_of_getElem? (i := 18) (by decide +kernel)) rfl, gw_tb (List.mem_of_getElem? (i := 790) (by decide +kernel)) rfl, by decide, by decide, by decide +kernel⟩, gw_tb (List.mem_of_getElem? (i := 789) (by decide +kernel)) rfl⟩
def f_PV_above (a0 : Int32) (a1 : Int32) (a2 : Int32) (a3 : Int32) (a4 : Int32) (a5 : Int32) (o0 : Ob) (Q : Int32 → Ob → Prop) : Prop := (a5 < (-20 : Int32) → (Q (-1 : Int32) o0)) ∧ (¬ a5 < (-20 : Int32) → (((20 : Int32) < a5 → (Q (-1 : Int32) o0)) ∧ (¬ (20 : Int32) < a5 → (f_PV_askShape a0 a1 a2 a3 a4 o0 (fun z3 u4 => (z3 = 0 → (Q (-1 : Int32) u4)) ∧ (¬ z3 = 0 → (f_To_countAbove (gI u4 0) a5 (gA u4 13) (fun z6 => Q z6 u4))))))))
abbrev rm_PV_above : Room := { frames := 1, cells := 0, slots := 0, locals := 37 }
set_option maxHeartbeats 4000000 in
set_option maxRecDepth 100000 in
theorem c_PV_above {l : Launch} {G : Gl} {h0 : Nat} {q0 : Nat → Nat} {a0 : Int32} {a1 : Int32} {a2 : Int32} {a3 : Int32} {a4 : Int32} {a5 : Int32} {o0 : Ob} {Q : Int32 → Ob → Prop} (sz : Nat) (h : f_PV_above a0 a1 a2 a3 a4 a5 o0 Q) : Met l y_PV_above w_PV_above rm_PV_above (PcW G [.ref h0, .int a0, .int a1, .int a2, .int a3, .int a4, .int a5] sz (cw_PV G h0 q0 o0)) (va_Qi (fun (r : Int32) (u : Ob) => Q r u) (fun (u : Ob) t => BW G (va_A (cw_PV G h0 q0 o0) sz) (cw_PV G h0 q0 u) t) (va_A (cw_PV G h0 q0 o0) sz)) 0 0 (va_A (cw_PV G h0 q0 o0) sz) := by
  refine Met.ofW (cc := b_PV_above) (maxL := 7) (ret := (some .int)) (by decide +kernel) rfl ?_
  intro p e s m args below meth c s₁ B hml hv
  obtain ⟨rfl, hsz, hP, hK, hD0, hE⟩ := hv
  have hx := B.exec
  have hb := B.bytes
  have hr := B.returns
  have hts0 := atoms_spec (ws := w_PV_above) B.pre
  have hts : ∀ w ∈ gw_tbl, w.before ([.ref h0, .int a0, .int a1, .int a2, .int a3, .int a4, .int a5]).toArray s = true := fun w hw => hts0 w (List.mem_cons_of_mem _ hw)
  have hown : s.vm.findClass R_PV = some m.cls := findClass_of_methodNamed B.named
  have hlocks := B.notSynchronized
  subst hsz
  have hD := hD0.self (sz := s.heap.size)
  generalize hAe : va_A (cw_PV G h0 q0 o0) s.heap.size = A at hD hE ⊢
  have hA : ∀ q : Nat, s.heap.size ≤ q → A q := fun q h => by rw [← hAe]; exact Or.inr h
  have hS : va_S A s.heap s.heap [] := va_S.rf
  have C : Cx p s m ([.ref h0, .int a0, .int a1, .int a2, .int a3, .int a4, .int a5]).toArray meth c R_PV b_PV_above 7 (some .int) G A := ⟨hx, hb, hml, hown, hr, hts, hK, hA, hlocks, hE⟩
  have hl := lv_entry ([.ref h0, .int a0, .int a1, .int a2, .int a3, .int a4, .int a5]) (n := 7) (Nat.le_of_ble_eq_true rfl)
  rw [lg_entry_eq]
  generalize (lg_sl ([.ref h0, .int a0, .int a1, .int a2, .int a3, .int a4, .int a5]) ++ List.replicate (7 - (lg_sl ([.ref h0, .int a0, .int a1, .int a2, .int a3, .int a4, .int a5])).length) Slot.unset).toArray = ls at hl ⊢
  have hl : lv_has ls 7 [(0, .ref h0), (1, .int a0), (2, .int a1), (3, .int a2), (4, .int a3), (5, .int a4), (6, .int a5)] := hl
  have hD : va_D A [(h0, .inr (0, [.int (gI o0 0), .ref (q0 1), .ref (q0 2), .ref (q0 3), .ref (q0 4), .ref (q0 5), .ref (q0 6), .ref (q0 7), .ref (q0 8), .ref (q0 9), .ref (q0 10), .ref (q0 11), .ref (q0 12), .ref (q0 13)])), kQ G (q0 3) 3 (fun i => some (q0 (50 + i))), kI G (q0 6) 1000 (gA o0 6), kJ G (q0 7) 2000 (gB o0 7), kI G (q0 13) 5 (gA o0 13)] := hD
  unfold f_PV_above at h
  suffices key : ∀ (H : Heap) (locs : List Loc), va_P G.1 CL [(h0, .inr (0, [.int (gI o0 0), .ref (q0 1), .ref (q0 2), .ref (q0 3), .ref (q0 4), .ref (q0 5), .ref (q0 6), .ref (q0 7), .ref (q0 8), .ref (q0 9), .ref (q0 10), .ref (q0 11), .ref (q0 12), .ref (q0 13)])), kQ G (q0 3) 3 (fun i => some (q0 (50 + i))), kI G (q0 6) 1000 (gA o0 6), kJ G (q0 7) 2000 (gB o0 7), kI G (q0 13) 5 (gA o0 13)] H → va_S A s.heap H locs → W p l e rm_PV_above s m ([.ref h0, .int a0, .int a1, .int a2, .int a3, .int a4, .int a5]).toArray below meth c H locs 0 0 (MQ below (va_Qi (fun (r : Int32) (u : Ob) => Q r u) (fun (u : Ob) t => BW G A (cw_PV G h0 q0 u) t) A) ([.ref h0, .int a0, .int a1, .int a2, .int a3, .int a4, .int a5]).toArray s 0 0 A) (F0 m 0 ls []) from key s.heap [] hP hS
  intro H locs hP hS
  refine lv_iload hx hb d_PV_above_0 (lv_at hl 6 rfl) ?_
  refine lv_bipush (v := (-20 : Int32)) hx hb d_PV_above_2 (by decide) ?_
  refine lv_icmp_lt (tgt := 28) hx hb d_PV_above_4 (by decide) (fun c1 => ?_) (fun c1 => ?_)
  · have h := h.1 c1
    refine lv_iconst (v := (-1 : Int32)) hx hb d_PV_above_28 (by decide) ?_
    have hP : va_P G.1 CL (cw_PV G h0 q0 o0) H := hP
    have hD : va_D A (cw_PV G h0 q0 o0) := hD
    exact W.iret (v := (-1 : Int32)) hx hb hr (fun t ht hW => ⟨⟨(-1 : Int32), o0, rfl, h, by rw [ht]; exact hP, va_K.moved hW.alike hK, hD⟩, hS.F ht⟩) hS.2.2 d_PV_above_29
  · have h := h.2 c1
    refine lv_iload hx hb d_PV_above_7 (lv_at hl 6 rfl) ?_
    refine lv_bipush (v := (20 : Int32)) hx hb d_PV_above_9 (by decide) ?_
    refine lv_icmp_gt (tgt := 28) hx hb d_PV_above_11 (by decide) (fun c2 => ?_) (fun c2 => ?_)
    · have h := h.1 c2
      refine lv_iconst (v := (-1 : Int32)) hx hb d_PV_above_28 (by decide) ?_
      have hP : va_P G.1 CL (cw_PV G h0 q0 o0) H := hP
      have hD : va_D A (cw_PV G h0 q0 o0) := hD
      exact W.iret (v := (-1 : Int32)) hx hb hr (fun t ht hW => ⟨⟨(-1 : Int32), o0, rfl, h, by rw [ht]; exact hP, va_K.moved hW.alike hK, hD⟩, hS.F ht⟩) hS.2.2 d_PV_above_29
    · have h := h.2 c2
      refine lv_aload_n hx hb d_PV_above_14 rfl (lv_at hl 0 rfl) ?_
      refine lv_iload_n hx hb d_PV_above_15 rfl (lv_at hl 1 rfl) ?_
      refine lv_iload_n hx hb d_PV_above_16 rfl (lv_at hl 2 rfl) ?_
      refine lv_iload_n hx hb d_PV_above_17 rfl (lv_at hl 3 rfl) ?_
      refine lv_iload hx hb d_PV_above_18 (lv_at hl 4 rfl) ?_
      refine lv_iload hx hb d_PV_above_20 (lv_at hl 5 rfl) ?_
      refine cl_Vi (b := b_PV_above) (As := [.int a0, .int a1, .int a2, .int a3, .int a4]) (rest := []) (ws := [(h0, .inr (0, [.int (gI o0 0), .ref (q0 1), .ref (q0 2), .ref (q0 3), .ref (q0 4), .ref (q0 5), .ref (q0 6), .ref (q0 7), .ref (q0 8), .ref (q0 9), .ref (q0 10), .ref (q0 11), .ref (q0 12), .ref (q0 13)])), kQ G (q0 3) 3 (fun i => some (q0 (50 + i))), kI G (q0 6) 1000 (gA o0 6), kJ G (q0 7) 2000 (gB o0 7), kI G (q0 13) 5 (gA o0 13)]) (wr := []) (w2 := fun (u : Ob) => [(h0, .inr (0, [.int (gI u 0), .ref (q0 1), .ref (q0 2), .ref (q0 3), .ref (q0 4), .ref (q0 5), .ref (q0 6), .ref (q0 7), .ref (q0 8), .ref (q0 9), .ref (q0 10), .ref (q0 11), .ref (q0 12), .ref (q0 13)])), kQ G (q0 3) 3 (fun i => some (q0 (50 + i))), kI G (q0 6) 1000 (gA u 6), kJ G (q0 7) 2000 (gB u 7), kI G (q0 13) 5 (gA u 13)]) C (c_PV_askShape (h0 := h0) (q0 := q0) H.size h) wv_PV_240 ⟨Nat.le_of_ble_eq_true rfl, Nat.le_of_ble_eq_true rfl⟩ hP hD hS 0 rfl rfl [0, 1, 2, 3, 4] [] rfl rfl (by decide) (by decide) (by decide) [0, 1, 2, 3, 4] (by decide) (fun u => rfl) rfl hl.1 rfl (lv_room (Nat.le_of_ble_eq_true rfl)) d_PV_above_22 ⟨Nat.le_of_ble_eq_true rfl, Nat.le_of_ble_eq_true rfl⟩ rfl rfl (fun z3 u H locs h hP hD hS => ?_)
      generalize u = u4 at h hP hD
      have hP : va_P G.1 CL [(h0, .inr (0, [.int (gI u4 0), .ref (q0 1), .ref (q0 2), .ref (q0 3), .ref (q0 4), .ref (q0 5), .ref (q0 6), .ref (q0 7), .ref (q0 8), .ref (q0 9), .ref (q0 10), .ref (q0 11), .ref (q0 12), .ref (q0 13)])), kQ G (q0 3) 3 (fun i => some (q0 (50 + i))), kI G (q0 6) 1000 (gA u4 6), kJ G (q0 7) 2000 (gB u4 7), kI G (q0 13) 5 (gA u4 13)] H := hP
      have hD : va_D A [(h0, .inr (0, [.int (gI u4 0), .ref (q0 1), .ref (q0 2), .ref (q0 3), .ref (q0 4), .ref (q0 5), .ref (q0 6), .ref (q0 7), .ref (q0 8), .ref (q0 9), .ref (q0 10), .ref (q0 11), .ref (q0 12), .ref (q0 13)])), kQ G (q0 3) 3 (fun i => some (q0 (50 + i))), kI G (q0 6) 1000 (gA u4 6), kJ G (q0 7) 2000 (gB u4 7), kI G (q0 13) 5 (gA u4 13)] := hD
      refine lv_if_ne (tgt := 30) hx hb d_PV_above_25 (by decide) (fun c5 => ?_) (fun c5 => ?_)
      · have h := h.2 c5
        refine lv_aload_n hx hb d_PV_above_30 rfl (lv_at hl 0 rfl) ?_
        refine va_get (D := G.1) (ci := 0) (v := .ref (q0 13)) (C := R_PV) (T := T_PV) (N := 14) hx hb hts i_PV hown hK hP 0 rfl rfl 13 (by decide) (hts _ wf_PV_102) (fun _ h9 => h9) rfl d_PV_above_31 ?_
        refine lv_aload_n hx hb d_PV_above_34 rfl (lv_at hl 0 rfl) ?_
        refine va_get (D := G.1) (ci := 0) (v := .int (gI u4 0)) (C := R_PV) (T := T_PV) (N := 14) hx hb hts i_PV hown hK hP 0 rfl rfl 0 (by decide) (hts _ wf_PV_18) (fun _ h9 => h9) rfl d_PV_above_35 ?_
        refine lv_iload hx hb d_PV_above_38 (lv_at hl 6 rfl) ?_
        refine cl_Si (b := b_PV_above) (As := [.ref (q0 13), .int (gI u4 0), .int a5]) (rest := []) (ws := [(h0, .inr (0, [.int (gI u4 0), .ref (q0 1), .ref (q0 2), .ref (q0 3), .ref (q0 4), .ref (q0 5), .ref (q0 6), .ref (q0 7), .ref (q0 8), .ref (q0 9), .ref (q0 10), .ref (q0 11), .ref (q0 12), .ref (q0 13)])), kQ G (q0 3) 3 (fun i => some (q0 (50 + i))), kI G (q0 6) 1000 (gA u4 6), kJ G (q0 7) 2000 (gB u4 7), kI G (q0 13) 5 (gA u4 13)]) (wr := [(h0, .inr (0, [.int (gI u4 0), .ref (q0 1), .ref (q0 2), .ref (q0 3), .ref (q0 4), .ref (q0 5), .ref (q0 6), .ref (q0 7), .ref (q0 8), .ref (q0 9), .ref (q0 10), .ref (q0 11), .ref (q0 12), .ref (q0 13)])), kQ G (q0 3) 3 (fun i => some (q0 (50 + i))), kI G (q0 6) 1000 (gA u4 6), kJ G (q0 7) 2000 (gB u4 7)]) (w2 := fun (u : Unit) => [(h0, .inr (0, [.int (gI u4 0), .ref (q0 1), .ref (q0 2), .ref (q0 3), .ref (q0 4), .ref (q0 5), .ref (q0 6), .ref (q0 7), .ref (q0 8), .ref (q0 9), .ref (q0 10), .ref (q0 11), .ref (q0 12), .ref (q0 13)])), kQ G (q0 3) 3 (fun i => some (q0 (50 + i))), kI G (q0 6) 1000 (gA u4 6), kJ G (q0 7) 2000 (gB u4 7), kI G (q0 13) 5 (gA u4 13)]) C (c_To_countAbove (h0 := (q0 13)) H.size h) ws_PV_244 ⟨Nat.le_of_ble_eq_true rfl, Nat.le_of_ble_eq_true rfl⟩ hP hD hS [4] [0, 1, 2, 3] rfl rfl (by decide) (by decide) (by decide) [0, 1, 2, 3, 4] (by decide) (fun u => rfl) rfl hl.1 rfl (lv_room (Nat.le_of_ble_eq_true rfl)) d_PV_above_40 ⟨Nat.le_of_ble_eq_true rfl, Nat.le_of_ble_eq_true rfl⟩ rfl rfl (fun z6 u H locs h hP hD hS => ?_)
        have hP : va_P G.1 CL [(h0, .inr (0, [.int (gI u4 0), .ref (q0 1), .ref (q0 2), .ref (q0 3), .ref (q0 4), .ref (q0 5), .ref (q0 6), .ref (q0 7), .ref (q0 8), .ref (q0 9), .ref (q0 10), .ref (q0 11), .ref (q0 12), .ref (q0 13)])), kQ G (q0 3) 3 (fun i => some (q0 (50 + i))), kI G (q0 6) 1000 (gA u4 6), kJ G (q0 7) 2000 (gB u4 7), kI G (q0 13) 5 (gA u4 13)] H := hP
        have hD : va_D A [(h0, .inr (0, [.int (gI u4 0), .ref (q0 1), .ref (q0 2), .ref (q0 3), .ref (q0 4), .ref (q0 5), .ref (q0 6), .ref (q0 7), .ref (q0 8), .ref (q0 9), .ref (q0 10), .ref (q0 11), .ref (q0 12), .ref (q0 13)])), kQ G (q0 3) 3 (fun i => some (q0 (50 + i))), kI G (q0 6) 1000 (gA u4 6), kJ G (q0 7) 2000 (gB u4 7), kI G (q0 13) 5 (gA u4 13)] := hD
        have hP : va_P G.1 CL (cw_PV G h0 q0 u4) H := hP
        have hD : va_D A (cw_PV G h0 q0 u4) := hD
        exact W.iret (v := z6) hx hb hr (fun t ht hW => ⟨⟨z6, u4, rfl, h, by rw [ht]; exact hP, va_K.moved hW.alike hK, hD⟩, hS.F ht⟩) hS.2.2 d_PV_above_43
      · have h := h.1 c5
        refine lv_iconst (v := (-1 : Int32)) hx hb d_PV_above_28 (by decide) ?_
        have hP : va_P G.1 CL (cw_PV G h0 q0 u4) H := hP
        have hD : va_D A (cw_PV G h0 q0 u4) := hD
        exact W.iret (v := (-1 : Int32)) hx hb hr (fun t ht hW => ⟨⟨(-1 : Int32), u4, rfl, h, by rw [ht]; exact hP, va_K.moved hW.alike hK, hD⟩, hS.F ht⟩) hS.2.2 d_PV_above_29
abbrev b_PV_tone : ByteArray := prog_1_method_19_code
def y_PV_tone : MethodName := ⟨R_PV, "tone", "(IIIIII)I"⟩
abbrev w_PV_tone : List Cond := Cond.code y_PV_tone b_PV_tone 7 (some .int) :: gw_tbl
theorem d_PV_tone_0 : decode b_PV_tone 0 = .ok (.aload_n 0, 1) := by decide +kernel
theorem d_PV_tone_1 : decode b_PV_tone 1 = .ok (.iload_n 1, 1) := by decide +kernel
theorem d_PV_tone_2 : decode b_PV_tone 2 = .ok (.iload_n 2, 1) := by decide +kernel
theorem d_PV_tone_3 : decode b_PV_tone 3 = .ok (.iload_n 3, 1) := by decide +kernel
theorem d_PV_tone_4 : decode b_PV_tone 4 = .ok (.iload 4, 2) := by decide +kernel
theorem d_PV_tone_6 : decode b_PV_tone 6 = .ok (.iload 5, 2) := by decide +kernel
theorem d_PV_tone_8 : decode b_PV_tone 8 = .ok (.invokevirtual 240, 3) := by decide +kernel
theorem d_PV_tone_11 : decode b_PV_tone 11 = .ok (.ifCond .eq 19, 3) := by decide +kernel
theorem d_PV_tone_14 : decode b_PV_tone 14 = .ok (.aload_n 0, 1) := by decide +kernel
theorem d_PV_tone_15 : decode b_PV_tone 15 = .ok (.getfield 102, 3) := by decide +kernel
theorem d_PV_tone_18 : decode b_PV_tone 18 = .ok (.aload_n 0, 1) := by decide +kernel
theorem d_PV_tone_19 : decode b_PV_tone 19 = .ok (.getfield 18, 3) := by decide +kernel
theorem d_PV_tone_22 : decode b_PV_tone 22 = .ok (.iload 6, 2) := by decide +kernel
theorem d_PV_tone_24 : decode b_PV_tone 24 = .ok (.invokestatic 250, 3) := by decide +kernel
theorem d_PV_tone_27 : decode b_PV_tone 27 = .ok (.goto 5, 3) := by decide +kernel
theorem d_PV_tone_30 : decode b_PV_tone 30 = .ok (.bipush (-100), 2) := by decide +kernel
theorem d_PV_tone_32 : decode b_PV_tone 32 = .ok (.ireturn, 1) := by decide +kernel
theorem ws_PV_250 : wS R_PV 250 y_To_boxOf b_To_boxOf 7 (some .int) 3 := ⟨⟨gw_tb (List.mem_of_getElem? (i := 796) (by decide +kernel)) rfl, gw_tb (List.mem_of_getElem? (i := 18) (by decide +kernel)) rfl, gw_tb (List.mem_of_getElem? (i := 798) (by decide +kernel)) rfl, by decide, by decide, by decide +kernel⟩, gw_tb (List.mem_of_getElem? (i := 797) (by decide +kernel)) rfl⟩
def f_PV_tone (a0 : Int32) (a1 : Int32) (a2 : Int32) (a3 : Int32) (a4 : Int32) (a5 : Int32) (o0 : Ob) (Q : Int32 → Ob → Prop) : Prop := f_PV_askShape a0 a1 a2 a3 a4 o0 (fun z1 u2 => (z1 = 0 → (Q (-100 : Int32) u2)) ∧ (¬ z1 = 0 → (f_To_boxOf (gI u2 0) a5 (gA u2 13) (fun z4 => Q z4 u2))))
abbrev rm_PV_tone : Room := { frames := 2, cells := 0, slots := 0, locals := 63 }
set_option maxHeartbeats 4000000 in
set_option maxRecDepth 100000 in
theorem c_PV_tone {l : Launch} {G : Gl} {h0 : Nat} {q0 : Nat → Nat} {a0 : Int32} {a1 : Int32} {a2 : Int32} {a3 : Int32} {a4 : Int32} {a5 : Int32} {o0 : Ob} {Q : Int32 → Ob → Prop} (sz : Nat) (h : f_PV_tone a0 a1 a2 a3 a4 a5 o0 Q) : Met l y_PV_tone w_PV_tone rm_PV_tone (PcW G [.ref h0, .int a0, .int a1, .int a2, .int a3, .int a4, .int a5] sz (cw_PV G h0 q0 o0)) (va_Qi (fun (r : Int32) (u : Ob) => Q r u) (fun (u : Ob) t => BW G (va_A (cw_PV G h0 q0 o0) sz) (cw_PV G h0 q0 u) t) (va_A (cw_PV G h0 q0 o0) sz)) 0 0 (va_A (cw_PV G h0 q0 o0) sz) := by
  refine Met.ofW (cc := b_PV_tone) (maxL := 7) (ret := (some .int)) (by decide +kernel) rfl ?_
  intro p e s m args below meth c s₁ B hml hv
  obtain ⟨rfl, hsz, hP, hK, hD0, hE⟩ := hv
  have hx := B.exec
  have hb := B.bytes
  have hr := B.returns
  have hts0 := atoms_spec (ws := w_PV_tone) B.pre
  have hts : ∀ w ∈ gw_tbl, w.before ([.ref h0, .int a0, .int a1, .int a2, .int a3, .int a4, .int a5]).toArray s = true := fun w hw => hts0 w (List.mem_cons_of_mem _ hw)
  have hown : s.vm.findClass R_PV = some m.cls := findClass_of_methodNamed B.named
  have hlocks := B.notSynchronized
  subst hsz
  have hD := hD0.self (sz := s.heap.size)
  generalize hAe : va_A (cw_PV G h0 q0 o0) s.heap.size = A at hD hE ⊢
  have hA : ∀ q : Nat, s.heap.size ≤ q → A q := fun q h => by rw [← hAe]; exact Or.inr h
  have hS : va_S A s.heap s.heap [] := va_S.rf
  have C : Cx p s m ([.ref h0, .int a0, .int a1, .int a2, .int a3, .int a4, .int a5]).toArray meth c R_PV b_PV_tone 7 (some .int) G A := ⟨hx, hb, hml, hown, hr, hts, hK, hA, hlocks, hE⟩
  have hl := lv_entry ([.ref h0, .int a0, .int a1, .int a2, .int a3, .int a4, .int a5]) (n := 7) (Nat.le_of_ble_eq_true rfl)
  rw [lg_entry_eq]
  generalize (lg_sl ([.ref h0, .int a0, .int a1, .int a2, .int a3, .int a4, .int a5]) ++ List.replicate (7 - (lg_sl ([.ref h0, .int a0, .int a1, .int a2, .int a3, .int a4, .int a5])).length) Slot.unset).toArray = ls at hl ⊢
  have hl : lv_has ls 7 [(0, .ref h0), (1, .int a0), (2, .int a1), (3, .int a2), (4, .int a3), (5, .int a4), (6, .int a5)] := hl
  have hD : va_D A [(h0, .inr (0, [.int (gI o0 0), .ref (q0 1), .ref (q0 2), .ref (q0 3), .ref (q0 4), .ref (q0 5), .ref (q0 6), .ref (q0 7), .ref (q0 8), .ref (q0 9), .ref (q0 10), .ref (q0 11), .ref (q0 12), .ref (q0 13)])), kQ G (q0 3) 3 (fun i => some (q0 (50 + i))), kI G (q0 6) 1000 (gA o0 6), kJ G (q0 7) 2000 (gB o0 7), kI G (q0 13) 5 (gA o0 13)] := hD
  unfold f_PV_tone at h
  suffices key : ∀ (H : Heap) (locs : List Loc), va_P G.1 CL [(h0, .inr (0, [.int (gI o0 0), .ref (q0 1), .ref (q0 2), .ref (q0 3), .ref (q0 4), .ref (q0 5), .ref (q0 6), .ref (q0 7), .ref (q0 8), .ref (q0 9), .ref (q0 10), .ref (q0 11), .ref (q0 12), .ref (q0 13)])), kQ G (q0 3) 3 (fun i => some (q0 (50 + i))), kI G (q0 6) 1000 (gA o0 6), kJ G (q0 7) 2000 (gB o0 7), kI G (q0 13) 5 (gA o0 13)] H → va_S A s.heap H locs → W p l e rm_PV_tone s m ([.ref h0, .int a0, .int a1, .int a2, .int a3, .int a4, .int a5]).toArray below meth c H locs 0 0 (MQ below (va_Qi (fun (r : Int32) (u : Ob) => Q r u) (fun (u : Ob) t => BW G A (cw_PV G h0 q0 u) t) A) ([.ref h0, .int a0, .int a1, .int a2, .int a3, .int a4, .int a5]).toArray s 0 0 A) (F0 m 0 ls []) from key s.heap [] hP hS
  intro H locs hP hS
  refine lv_aload_n hx hb d_PV_tone_0 rfl (lv_at hl 0 rfl) ?_
  refine lv_iload_n hx hb d_PV_tone_1 rfl (lv_at hl 1 rfl) ?_
  refine lv_iload_n hx hb d_PV_tone_2 rfl (lv_at hl 2 rfl) ?_
  refine lv_iload_n hx hb d_PV_tone_3 rfl (lv_at hl 3 rfl) ?_
  refine lv_iload hx hb d_PV_tone_4 (lv_at hl 4 rfl) ?_
  refine lv_iload hx hb d_PV_tone_6 (lv_at hl 5 rfl) ?_
  refine cl_Vi (b := b_PV_tone) (As := [.int a0, .int a1, .int a2, .int a3, .int a4]) (rest := []) (ws := [(h0, .inr (0, [.int (gI o0 0), .ref (q0 1), .ref (q0 2), .ref (q0 3), .ref (q0 4), .ref (q0 5), .ref (q0 6), .ref (q0 7), .ref (q0 8), .ref (q0 9), .ref (q0 10), .ref (q0 11), .ref (q0 12), .ref (q0 13)])), kQ G (q0 3) 3 (fun i => some (q0 (50 + i))), kI G (q0 6) 1000 (gA o0 6), kJ G (q0 7) 2000 (gB o0 7), kI G (q0 13) 5 (gA o0 13)]) (wr := []) (w2 := fun (u : Ob) => [(h0, .inr (0, [.int (gI u 0), .ref (q0 1), .ref (q0 2), .ref (q0 3), .ref (q0 4), .ref (q0 5), .ref (q0 6), .ref (q0 7), .ref (q0 8), .ref (q0 9), .ref (q0 10), .ref (q0 11), .ref (q0 12), .ref (q0 13)])), kQ G (q0 3) 3 (fun i => some (q0 (50 + i))), kI G (q0 6) 1000 (gA u 6), kJ G (q0 7) 2000 (gB u 7), kI G (q0 13) 5 (gA u 13)]) C (c_PV_askShape (h0 := h0) (q0 := q0) H.size h) wv_PV_240 ⟨Nat.le_of_ble_eq_true rfl, Nat.le_of_ble_eq_true rfl⟩ hP hD hS 0 rfl rfl [0, 1, 2, 3, 4] [] rfl rfl (by decide) (by decide) (by decide) [0, 1, 2, 3, 4] (by decide) (fun u => rfl) rfl hl.1 rfl (lv_room (Nat.le_of_ble_eq_true rfl)) d_PV_tone_8 ⟨Nat.le_of_ble_eq_true rfl, Nat.le_of_ble_eq_true rfl⟩ rfl rfl (fun z1 u H locs h hP hD hS => ?_)
  generalize u = u2 at h hP hD
  have hP : va_P G.1 CL [(h0, .inr (0, [.int (gI u2 0), .ref (q0 1), .ref (q0 2), .ref (q0 3), .ref (q0 4), .ref (q0 5), .ref (q0 6), .ref (q0 7), .ref (q0 8), .ref (q0 9), .ref (q0 10), .ref (q0 11), .ref (q0 12), .ref (q0 13)])), kQ G (q0 3) 3 (fun i => some (q0 (50 + i))), kI G (q0 6) 1000 (gA u2 6), kJ G (q0 7) 2000 (gB u2 7), kI G (q0 13) 5 (gA u2 13)] H := hP
  have hD : va_D A [(h0, .inr (0, [.int (gI u2 0), .ref (q0 1), .ref (q0 2), .ref (q0 3), .ref (q0 4), .ref (q0 5), .ref (q0 6), .ref (q0 7), .ref (q0 8), .ref (q0 9), .ref (q0 10), .ref (q0 11), .ref (q0 12), .ref (q0 13)])), kQ G (q0 3) 3 (fun i => some (q0 (50 + i))), kI G (q0 6) 1000 (gA u2 6), kJ G (q0 7) 2000 (gB u2 7), kI G (q0 13) 5 (gA u2 13)] := hD
  refine lv_if_eq (tgt := 30) hx hb d_PV_tone_11 (by decide) (fun c3 => ?_) (fun c3 => ?_)
  · have h := h.1 c3
    refine lv_bipush (v := (-100 : Int32)) hx hb d_PV_tone_30 (by decide) ?_
    have hP : va_P G.1 CL (cw_PV G h0 q0 u2) H := hP
    have hD : va_D A (cw_PV G h0 q0 u2) := hD
    exact W.iret (v := (-100 : Int32)) hx hb hr (fun t ht hW => ⟨⟨(-100 : Int32), u2, rfl, h, by rw [ht]; exact hP, va_K.moved hW.alike hK, hD⟩, hS.F ht⟩) hS.2.2 d_PV_tone_32
  · have h := h.2 c3
    refine lv_aload_n hx hb d_PV_tone_14 rfl (lv_at hl 0 rfl) ?_
    refine va_get (D := G.1) (ci := 0) (v := .ref (q0 13)) (C := R_PV) (T := T_PV) (N := 14) hx hb hts i_PV hown hK hP 0 rfl rfl 13 (by decide) (hts _ wf_PV_102) (fun _ h9 => h9) rfl d_PV_tone_15 ?_
    refine lv_aload_n hx hb d_PV_tone_18 rfl (lv_at hl 0 rfl) ?_
    refine va_get (D := G.1) (ci := 0) (v := .int (gI u2 0)) (C := R_PV) (T := T_PV) (N := 14) hx hb hts i_PV hown hK hP 0 rfl rfl 0 (by decide) (hts _ wf_PV_18) (fun _ h9 => h9) rfl d_PV_tone_19 ?_
    refine lv_iload hx hb d_PV_tone_22 (lv_at hl 6 rfl) ?_
    refine cl_Si (b := b_PV_tone) (As := [.ref (q0 13), .int (gI u2 0), .int a5]) (rest := []) (ws := [(h0, .inr (0, [.int (gI u2 0), .ref (q0 1), .ref (q0 2), .ref (q0 3), .ref (q0 4), .ref (q0 5), .ref (q0 6), .ref (q0 7), .ref (q0 8), .ref (q0 9), .ref (q0 10), .ref (q0 11), .ref (q0 12), .ref (q0 13)])), kQ G (q0 3) 3 (fun i => some (q0 (50 + i))), kI G (q0 6) 1000 (gA u2 6), kJ G (q0 7) 2000 (gB u2 7), kI G (q0 13) 5 (gA u2 13)]) (wr := [(h0, .inr (0, [.int (gI u2 0), .ref (q0 1), .ref (q0 2), .ref (q0 3), .ref (q0 4), .ref (q0 5), .ref (q0 6), .ref (q0 7), .ref (q0 8), .ref (q0 9), .ref (q0 10), .ref (q0 11), .ref (q0 12), .ref (q0 13)])), kQ G (q0 3) 3 (fun i => some (q0 (50 + i))), kI G (q0 6) 1000 (gA u2 6), kJ G (q0 7) 2000 (gB u2 7)]) (w2 := fun (u : Unit) => [(h0, .inr (0, [.int (gI u2 0), .ref (q0 1), .ref (q0 2), .ref (q0 3), .ref (q0 4), .ref (q0 5), .ref (q0 6), .ref (q0 7), .ref (q0 8), .ref (q0 9), .ref (q0 10), .ref (q0 11), .ref (q0 12), .ref (q0 13)])), kQ G (q0 3) 3 (fun i => some (q0 (50 + i))), kI G (q0 6) 1000 (gA u2 6), kJ G (q0 7) 2000 (gB u2 7), kI G (q0 13) 5 (gA u2 13)]) C (c_To_boxOf (h0 := (q0 13)) H.size h) ws_PV_250 ⟨Nat.le_of_ble_eq_true rfl, Nat.le_of_ble_eq_true rfl⟩ hP hD hS [4] [0, 1, 2, 3] rfl rfl (by decide) (by decide) (by decide) [0, 1, 2, 3, 4] (by decide) (fun u => rfl) rfl hl.1 rfl (lv_room (Nat.le_of_ble_eq_true rfl)) d_PV_tone_24 ⟨Nat.le_of_ble_eq_true rfl, Nat.le_of_ble_eq_true rfl⟩ rfl rfl (fun z4 u H locs h hP hD hS => ?_)
    have hP : va_P G.1 CL [(h0, .inr (0, [.int (gI u2 0), .ref (q0 1), .ref (q0 2), .ref (q0 3), .ref (q0 4), .ref (q0 5), .ref (q0 6), .ref (q0 7), .ref (q0 8), .ref (q0 9), .ref (q0 10), .ref (q0 11), .ref (q0 12), .ref (q0 13)])), kQ G (q0 3) 3 (fun i => some (q0 (50 + i))), kI G (q0 6) 1000 (gA u2 6), kJ G (q0 7) 2000 (gB u2 7), kI G (q0 13) 5 (gA u2 13)] H := hP
    have hD : va_D A [(h0, .inr (0, [.int (gI u2 0), .ref (q0 1), .ref (q0 2), .ref (q0 3), .ref (q0 4), .ref (q0 5), .ref (q0 6), .ref (q0 7), .ref (q0 8), .ref (q0 9), .ref (q0 10), .ref (q0 11), .ref (q0 12), .ref (q0 13)])), kQ G (q0 3) 3 (fun i => some (q0 (50 + i))), kI G (q0 6) 1000 (gA u2 6), kJ G (q0 7) 2000 (gB u2 7), kI G (q0 13) 5 (gA u2 13)] := hD
    refine lv_goto (tgt := 32) hx hb d_PV_tone_27 (by decide) ?_
    have hP : va_P G.1 CL (cw_PV G h0 q0 u2) H := hP
    have hD : va_D A (cw_PV G h0 q0 u2) := hD
    exact W.iret (v := z4) hx hb hr (fun t ht hW => ⟨⟨z4, u2, rfl, h, by rw [ht]; exact hP, va_K.moved hW.alike hK, hD⟩, hS.F ht⟩) hS.2.2 d_PV_tone_32
abbrev b_PV_alike : ByteArray := prog_1_method_20_code
def y_PV_alike : MethodName := ⟨R_PV, "alike", "(IIIII)I"⟩
abbrev w_PV_alike : List Cond := Cond.code y_PV_alike b_PV_alike 10 (some .int) :: gw_tbl
theorem d_PV_alike_0 : decode b_PV_alike 0 = .ok (.aload_n 0, 1) := by decide +kernel
theorem d_PV_alike_1 : decode b_PV_alike 1 = .ok (.iload_n 1, 1) := by decide +kernel
theorem d_PV_alike_2 : decode b_PV_alike 2 = .ok (.iload_n 2, 1) := by decide +kernel
theorem d_PV_alike_3 : decode b_PV_alike 3 = .ok (.iload_n 3, 1) := by decide +kernel
theorem d_PV_alike_4 : decode b_PV_alike 4 = .ok (.iload 4, 2) := by decide +kernel
theorem d_PV_alike_6 : decode b_PV_alike 6 = .ok (.iload 5, 2) := by decide +kernel
theorem d_PV_alike_8 : decode b_PV_alike 8 = .ok (.invokevirtual 240, 3) := by decide +kernel
theorem d_PV_alike_11 : decode b_PV_alike 11 = .ok (.ifCond .ne 5, 3) := by decide +kernel
theorem d_PV_alike_14 : decode b_PV_alike 14 = .ok (.iconst (-1), 1) := by decide +kernel
theorem d_PV_alike_15 : decode b_PV_alike 15 = .ok (.ireturn, 1) := by decide +kernel
theorem d_PV_alike_16 : decode b_PV_alike 16 = .ok (.iconst 1, 1) := by decide +kernel
theorem d_PV_alike_17 : decode b_PV_alike 17 = .ok (.istore 6, 2) := by decide +kernel
theorem d_PV_alike_19 : decode b_PV_alike 19 = .ok (.iconst 1, 1) := by decide +kernel
theorem d_PV_alike_20 : decode b_PV_alike 20 = .ok (.istore 7, 2) := by decide +kernel
theorem d_PV_alike_22 : decode b_PV_alike 22 = .ok (.aload_n 0, 1) := by decide +kernel
theorem d_PV_alike_23 : decode b_PV_alike 23 = .ok (.getfield 102, 3) := by decide +kernel
theorem d_PV_alike_26 : decode b_PV_alike 26 = .ok (.iconst 0, 1) := by decide +kernel
theorem d_PV_alike_27 : decode b_PV_alike 27 = .ok (.iaload, 1) := by decide +kernel
theorem d_PV_alike_28 : decode b_PV_alike 28 = .ok (.aload_n 0, 1) := by decide +kernel
theorem d_PV_alike_29 : decode b_PV_alike 29 = .ok (.getfield 50, 3) := by decide +kernel
theorem d_PV_alike_32 : decode b_PV_alike 32 = .ok (.getfield 197, 3) := by decide +kernel
theorem d_PV_alike_35 : decode b_PV_alike 35 = .ok (.aload_n 0, 1) := by decide +kernel
theorem d_PV_alike_36 : decode b_PV_alike 36 = .ok (.getfield 18, 3) := by decide +kernel
theorem d_PV_alike_39 : decode b_PV_alike 39 = .ok (.iconst 1, 1) := by decide +kernel
theorem d_PV_alike_40 : decode b_PV_alike 40 = .ok (.isub, 1) := by decide +kernel
theorem d_PV_alike_41 : decode b_PV_alike 41 = .ok (.iaload, 1) := by decide +kernel
theorem d_PV_alike_42 : decode b_PV_alike 42 = .ok (.imul, 1) := by decide +kernel
theorem d_PV_alike_43 : decode b_PV_alike 43 = .ok (.istore 8, 2) := by decide +kernel
theorem d_PV_alike_45 : decode b_PV_alike 45 = .ok (.iconst 0, 1) := by decide +kernel
theorem d_PV_alike_46 : decode b_PV_alike 46 = .ok (.istore 9, 2) := by decide +kernel
theorem d_PV_alike_48 : decode b_PV_alike 48 = .ok (.iload 9, 2) := by decide +kernel
theorem d_PV_alike_50 : decode b_PV_alike 50 = .ok (.aload_n 0, 1) := by decide +kernel
theorem d_PV_alike_51 : decode b_PV_alike 51 = .ok (.getfield 18, 3) := by decide +kernel
theorem d_PV_alike_54 : decode b_PV_alike 54 = .ok (.if_icmp .ge 100, 3) := by decide +kernel
theorem d_PV_alike_57 : decode b_PV_alike 57 = .ok (.iload 6, 2) := by decide +kernel
theorem d_PV_alike_59 : decode b_PV_alike 59 = .ok (.ifCond .eq 44, 3) := by decide +kernel
theorem d_PV_alike_62 : decode b_PV_alike 62 = .ok (.aload_n 0, 1) := by decide +kernel
theorem d_PV_alike_63 : decode b_PV_alike 63 = .ok (.getfield 102, 3) := by decide +kernel
theorem d_PV_alike_66 : decode b_PV_alike 66 = .ok (.iload 9, 2) := by decide +kernel
theorem d_PV_alike_68 : decode b_PV_alike 68 = .ok (.iaload, 1) := by decide +kernel
theorem d_PV_alike_69 : decode b_PV_alike 69 = .ok (.aload_n 0, 1) := by decide +kernel
theorem d_PV_alike_70 : decode b_PV_alike 70 = .ok (.getfield 50, 3) := by decide +kernel
theorem d_PV_alike_73 : decode b_PV_alike 73 = .ok (.getfield 197, 3) := by decide +kernel
theorem d_PV_alike_76 : decode b_PV_alike 76 = .ok (.iconst 0, 1) := by decide +kernel
theorem d_PV_alike_77 : decode b_PV_alike 77 = .ok (.iaload, 1) := by decide +kernel
theorem d_PV_alike_78 : decode b_PV_alike 78 = .ok (.imul, 1) := by decide +kernel
theorem d_PV_alike_79 : decode b_PV_alike 79 = .ok (.aload_n 0, 1) := by decide +kernel
theorem d_PV_alike_80 : decode b_PV_alike 80 = .ok (.getfield 102, 3) := by decide +kernel
theorem d_PV_alike_83 : decode b_PV_alike 83 = .ok (.iconst 0, 1) := by decide +kernel
theorem d_PV_alike_84 : decode b_PV_alike 84 = .ok (.iaload, 1) := by decide +kernel
theorem d_PV_alike_85 : decode b_PV_alike 85 = .ok (.aload_n 0, 1) := by decide +kernel
theorem d_PV_alike_86 : decode b_PV_alike 86 = .ok (.getfield 50, 3) := by decide +kernel
theorem d_PV_alike_89 : decode b_PV_alike 89 = .ok (.getfield 197, 3) := by decide +kernel
theorem d_PV_alike_92 : decode b_PV_alike 92 = .ok (.iload 9, 2) := by decide +kernel
theorem d_PV_alike_94 : decode b_PV_alike 94 = .ok (.iaload, 1) := by decide +kernel
theorem d_PV_alike_95 : decode b_PV_alike 95 = .ok (.imul, 1) := by decide +kernel
theorem d_PV_alike_96 : decode b_PV_alike 96 = .ok (.if_icmp .ne 7, 3) := by decide +kernel
theorem d_PV_alike_99 : decode b_PV_alike 99 = .ok (.iconst 1, 1) := by decide +kernel
theorem d_PV_alike_100 : decode b_PV_alike 100 = .ok (.goto 4, 3) := by decide +kernel
theorem d_PV_alike_103 : decode b_PV_alike 103 = .ok (.iconst 0, 1) := by decide +kernel
theorem d_PV_alike_104 : decode b_PV_alike 104 = .ok (.istore 6, 2) := by decide +kernel
theorem d_PV_alike_106 : decode b_PV_alike 106 = .ok (.iload 7, 2) := by decide +kernel
theorem d_PV_alike_108 : decode b_PV_alike 108 = .ok (.ifCond .eq 37, 3) := by decide +kernel
theorem d_PV_alike_111 : decode b_PV_alike 111 = .ok (.aload_n 0, 1) := by decide +kernel
theorem d_PV_alike_112 : decode b_PV_alike 112 = .ok (.getfield 102, 3) := by decide +kernel
theorem d_PV_alike_115 : decode b_PV_alike 115 = .ok (.iload 9, 2) := by decide +kernel
theorem d_PV_alike_117 : decode b_PV_alike 117 = .ok (.iaload, 1) := by decide +kernel
theorem d_PV_alike_118 : decode b_PV_alike 118 = .ok (.aload_n 0, 1) := by decide +kernel
theorem d_PV_alike_119 : decode b_PV_alike 119 = .ok (.getfield 50, 3) := by decide +kernel
theorem d_PV_alike_122 : decode b_PV_alike 122 = .ok (.getfield 197, 3) := by decide +kernel
theorem d_PV_alike_125 : decode b_PV_alike 125 = .ok (.aload_n 0, 1) := by decide +kernel
theorem d_PV_alike_126 : decode b_PV_alike 126 = .ok (.getfield 18, 3) := by decide +kernel
theorem d_PV_alike_129 : decode b_PV_alike 129 = .ok (.iconst 1, 1) := by decide +kernel
theorem d_PV_alike_130 : decode b_PV_alike 130 = .ok (.isub, 1) := by decide +kernel
theorem d_PV_alike_131 : decode b_PV_alike 131 = .ok (.iload 9, 2) := by decide +kernel
theorem d_PV_alike_133 : decode b_PV_alike 133 = .ok (.isub, 1) := by decide +kernel
theorem d_PV_alike_134 : decode b_PV_alike 134 = .ok (.iaload, 1) := by decide +kernel
theorem d_PV_alike_135 : decode b_PV_alike 135 = .ok (.imul, 1) := by decide +kernel
theorem d_PV_alike_136 : decode b_PV_alike 136 = .ok (.iload 8, 2) := by decide +kernel
theorem d_PV_alike_138 : decode b_PV_alike 138 = .ok (.if_icmp .ne 7, 3) := by decide +kernel
theorem d_PV_alike_141 : decode b_PV_alike 141 = .ok (.iconst 1, 1) := by decide +kernel
theorem d_PV_alike_142 : decode b_PV_alike 142 = .ok (.goto 4, 3) := by decide +kernel
theorem d_PV_alike_145 : decode b_PV_alike 145 = .ok (.iconst 0, 1) := by decide +kernel
theorem d_PV_alike_146 : decode b_PV_alike 146 = .ok (.istore 7, 2) := by decide +kernel
theorem d_PV_alike_148 : decode b_PV_alike 148 = .ok (.iinc 9 1, 3) := by decide +kernel
theorem d_PV_alike_151 : decode b_PV_alike 151 = .ok (.goto (-103), 3) := by decide +kernel
theorem d_PV_alike_154 : decode b_PV_alike 154 = .ok (.iload 6, 2) := by decide +kernel
theorem d_PV_alike_156 : decode b_PV_alike 156 = .ok (.ifCond .eq 5, 3) := by decide +kernel
theorem d_PV_alike_159 : decode b_PV_alike 159 = .ok (.iconst 1, 1) := by decide +kernel
theorem d_PV_alike_160 : decode b_PV_alike 160 = .ok (.ireturn, 1) := by decide +kernel
theorem d_PV_alike_161 : decode b_PV_alike 161 = .ok (.iload 7, 2) := by decide +kernel
theorem d_PV_alike_163 : decode b_PV_alike 163 = .ok (.ifCond .eq 7, 3) := by decide +kernel
theorem d_PV_alike_166 : decode b_PV_alike 166 = .ok (.iconst 2, 1) := by decide +kernel
theorem d_PV_alike_167 : decode b_PV_alike 167 = .ok (.goto 4, 3) := by decide +kernel
theorem d_PV_alike_170 : decode b_PV_alike 170 = .ok (.iconst 0, 1) := by decide +kernel
theorem d_PV_alike_171 : decode b_PV_alike 171 = .ok (.ireturn, 1) := by decide +kernel
def f_PV_alike_106 (r1 : (Nat → Nat)) (o1 : Ob) (k48 : Int32 → Int32 → Int32 → Int32 → Ob → Prop) (Q : Int32 → Ob → Prop) (x6 : Int32) (x7 : Int32) (x8 : Int32) (x9 : Int32) (o0 : Ob) : Prop := (x7 = 0 → (k48 x6 (0 : Int32) x8 (x9 + (1 : Int32)) o0)) ∧ (¬ x7 = 0 → ((vp_in x9 5) ∧ ((vp_in (((gI o0 0) - (1 : Int32)) - x9) 5) ∧ (∀ y4 : Int32, y4 = ((gA o1 5) ((((gI o0 0) - (1 : Int32)) - x9).toNatClampNeg)) → (((((gA o0 13) x9.toNatClampNeg) * y4) = x8 → (k48 x6 (1 : Int32) x8 (x9 + (1 : Int32)) o0)) ∧ (¬ (((gA o0 13) x9.toNatClampNeg) * y4) = x8 → (k48 x6 (0 : Int32) x8 (x9 + (1 : Int32)) o0)))))))
def f_PV_alike_103 (r1 : (Nat → Nat)) (o1 : Ob) (k48 : Int32 → Int32 → Int32 → Int32 → Ob → Prop) (Q : Int32 → Ob → Prop) (x7 : Int32) (x8 : Int32) (x9 : Int32) (o0 : Ob) : Prop := f_PV_alike_106 r1 o1 k48 Q (0 : Int32) x7 x8 x9 o0
def f_PV_alike_48 (r1 : (Nat → Nat)) (o1 : Ob) (Q : Int32 → Ob → Prop) : Nat → Int32 → Int32 → Int32 → Int32 → Ob → Prop
  | 0, _, _, _, _, _ => False
  | n + 1, x6, x7, x8, x9, o0 => ((gI o0 0) ≤ x9 → ((x6 = 0 → ((x7 = 0 → (Q (0 : Int32) o0)) ∧ (¬ x7 = 0 → (Q (2 : Int32) o0)))) ∧ (¬ x6 = 0 → (Q (1 : Int32) o0)))) ∧ (¬ (gI o0 0) ≤ x9 → ((x6 = 0 → (f_PV_alike_103 r1 o1 (f_PV_alike_48 r1 o1 Q n) Q x7 x8 x9 o0)) ∧ (¬ x6 = 0 → ((vp_in x9 5) ∧ (∀ y11 : Int32, y11 = (((gA o0 13) x9.toNatClampNeg) * ((gA o1 5) 0)) → ((vp_in x9 5) ∧ (∀ y13 : Int32, y13 = (((gA o0 13) 0) * ((gA o1 5) x9.toNatClampNeg)) → ((y11 = y13 → (f_PV_alike_106 r1 o1 (f_PV_alike_48 r1 o1 Q n) Q (1 : Int32) x7 x8 x9 o0)) ∧ (¬ y11 = y13 → (f_PV_alike_103 r1 o1 (f_PV_alike_48 r1 o1 Q n) Q x7 x8 x9 o0))))))))))
def f_PV_alike (a0 : Int32) (a1 : Int32) (a2 : Int32) (a3 : Int32) (a4 : Int32) (o0 : Ob) (r1 : (Nat → Nat)) (o1 : Ob) (Q : Int32 → Ob → Prop) : Prop := f_PV_askShape a0 a1 a2 a3 a4 o0 (fun z15 u16 => (z15 = 0 → (Q (-1 : Int32) u16)) ∧ (¬ z15 = 0 → ((vp_in ((gI u16 0) - (1 : Int32)) 5) ∧ (∀ y19 : Int32, y19 = ((gA o1 5) (((gI u16 0) - (1 : Int32)).toNatClampNeg)) → ((∃ w, f_PV_alike_48 r1 o1 Q w (1 : Int32) (1 : Int32) (((gA u16 13) 0) * y19) (0 : Int32) u16))))))
abbrev rm_PV_alike : Room := { frames := 1, cells := 0, slots := 0, locals := 26 }
set_option maxHeartbeats 4000000 in
set_option maxRecDepth 100000 in
theorem t_PV_alike_106 {p : Program} {l : Launch} {e : Env} {s : State} {m : MethodId} {args : Array Value} {below : List Frame} {meth : Method} {c : Code} {A : Nat → Prop} {G : Gl} {h0 : Nat} {q0 : Nat → Nat} {q1 : Nat → Nat} (r1 : (Nat → Nat)) (o1 : Ob) (k48 : Int32 → Int32 → Int32 → Int32 → Ob → Prop) (Q : Int32 → Ob → Prop) (C : Cx p s m args meth c R_PV b_PV_alike 10 (some .int) G A)
    (hk48 : ∀ (x6 : Int32) (x7 : Int32) (x8 : Int32) (x9 : Int32) (o0 : Ob) (ls : Array Slot) (H : Heap) (locs : List Loc), lv_has ls 10 [(0, .ref h0), (6, .int x6), (7, .int x7), (8, .int x8), (9, .int x9)] → va_P G.1 CL (cw_PV G h0 q0 o0 ++ (cw_Mo G (q0 4) q1 r1 o1)) H → va_D A (cw_PV G h0 q0 o0 ++ (cw_Mo G (q0 4) q1 r1 o1)) → va_S A s.heap H locs → k48 x6 x7 x8 x9 o0 → W p l e rm_PV_alike s m args below meth c H locs 0 0 (MQ below (va_Qi (fun (r : Int32) (u : Ob) => Q r u) (fun (u : Ob) t => BW G A (cw_PV G h0 q0 u ++ (cw_Mo G (q0 4) q1 r1 o1)) t) A) args s 0 0 A) (F0 m 48 ls [])) :
    ∀ (x6 : Int32) (x7 : Int32) (x8 : Int32) (x9 : Int32) (o0 : Ob) (ls : Array Slot) (H : Heap) (locs : List Loc), lv_has ls 10 [(0, .ref h0), (6, .int x6), (7, .int x7), (8, .int x8), (9, .int x9)] → va_P G.1 CL (cw_PV G h0 q0 o0 ++ (cw_Mo G (q0 4) q1 r1 o1)) H → va_D A (cw_PV G h0 q0 o0 ++ (cw_Mo G (q0 4) q1 r1 o1)) → va_S A s.heap H locs → f_PV_alike_106 r1 o1 k48 Q x6 x7 x8 x9 o0 → W p l e rm_PV_alike s m args below meth c H locs 0 0 (MQ below (va_Qi (fun (r : Int32) (u : Ob) => Q r u) (fun (u : Ob) t => BW G A (cw_PV G h0 q0 u ++ (cw_Mo G (q0 4) q1 r1 o1)) t) A) args s 0 0 A) (F0 m 106 ls []) := by
  obtain ⟨hx, hb, hml, hown, hr, hts, hK, hA, hlocks, hE⟩ := id C
  intro x6 x7 x8 x9 o0 ls H locs hl hP hD hS h
  have hP : va_P G.1 CL [(h0, .inr (0, [.int (gI o0 0), .ref (q0 1), .ref (q0 2), .ref (q0 3), .ref (q0 4), .ref (q0 5), .ref (q0 6), .ref (q0 7), .ref (q0 8), .ref (q0 9), .ref (q0 10), .ref (q0 11), .ref (q0 12), .ref (q0 13)])), kQ G (q0 3) 3 (fun i => some (q0 (50 + i))), kI G (q0 6) 1000 (gA o0 6), kJ G (q0 7) 2000 (gB o0 7), kI G (q0 13) 5 (gA o0 13), ((q0 4), .inr (5, [.ref (r1 0), .int (gI o1 1), .int (gI o1 2), .ref (q1 3), .ref (q1 4), .ref (q1 5), .ref (q1 6), .ref (q1 7), .ref (q1 8), .ref (q1 9), .ref (q1 10), .int (gI o1 11), .int (gI o1 12)])), kI G (q1 3) 20 (gA o1 3), kI G (q1 4) 20 (gA o1 4), kI G (q1 5) 5 (gA o1 5), kJ G (q1 6) 5 (gB o1 6), kJ G (q1 7) 5 (gB o1 7), kJ G (q1 8) 6 (gB o1 8), kI G (q1 10) 5 (gA o1 10)] H := hP
  have hD : va_D A [(h0, .inr (0, [.int (gI o0 0), .ref (q0 1), .ref (q0 2), .ref (q0 3), .ref (q0 4), .ref (q0 5), .ref (q0 6), .ref (q0 7), .ref (q0 8), .ref (q0 9), .ref (q0 10), .ref (q0 11), .ref (q0 12), .ref (q0 13)])), kQ G (q0 3) 3 (fun i => some (q0 (50 + i))), kI G (q0 6) 1000 (gA o0 6), kJ G (q0 7) 2000 (gB o0 7), kI G (q0 13) 5 (gA o0 13), ((q0 4), .inr (5, [.ref (r1 0), .int (gI o1 1), .int (gI o1 2), .ref (q1 3), .ref (q1 4), .ref (q1 5), .ref (q1 6), .ref (q1 7), .ref (q1 8), .ref (q1 9), .ref (q1 10), .int (gI o1 11), .int (gI o1 12)])), kI G (q1 3) 20 (gA o1 3), kI G (q1 4) 20 (gA o1 4), kI G (q1 5) 5 (gA o1 5), kJ G (q1 6) 5 (gB o1 6), kJ G (q1 7) 5 (gB o1 7), kJ G (q1 8) 6 (gB o1 8), kI G (q1 10) 5 (gA o1 10)] := hD
  unfold f_PV_alike_106 at h
  refine lv_iload hx hb d_PV_alike_106 (lv_at hl 2 rfl) ?_
  refine lv_if_eq (tgt := 145) hx hb d_PV_alike_108 (by decide) (fun c1 => ?_) (fun c1 => ?_)
  · have h := h.1 c1
    refine lv_iconst (v := (0 : Int32)) hx hb d_PV_alike_145 (by decide) ?_
    refine lv_istore (lv' := [(7, .int (0 : Int32)), (0, .ref h0), (6, .int x6), (8, .int x8), (9, .int x9)]) hx hb d_PV_alike_146 hl (by decide) rfl (fun ls hl => ?_)
    refine lv_iinc (v := (x9 + (1 : Int32))) (lv' := [(9, .int (x9 + (1 : Int32))), (7, .int (0 : Int32)), (0, .ref h0), (6, .int x6), (8, .int x8)]) hx hb d_PV_alike_148 hl (k := 4) rfl rfl (by decide) rfl (fun ls hl => ?_)
    refine lv_goto (tgt := 48) hx hb d_PV_alike_151 (by decide) ?_
    have hl := lv_sub (l' := [(0, .ref h0), (6, .int x6), (7, .int (0 : Int32)), (8, .int x8), (9, .int (x9 + (1 : Int32)))]) hl [2, 3, 1, 4, 0] rfl
    have hP : va_P G.1 CL (cw_PV G h0 q0 o0 ++ (cw_Mo G (q0 4) q1 r1 o1)) H := hP
    have hD : va_D A (cw_PV G h0 q0 o0 ++ (cw_Mo G (q0 4) q1 r1 o1)) := hD
    exact hk48 x6 (0 : Int32) x8 (x9 + (1 : Int32)) o0 ls H locs hl hP hD hS h
  · have h := h.2 c1
    refine lv_aload_n hx hb d_PV_alike_111 rfl (lv_at hl 0 rfl) ?_
    refine va_get (D := G.1) (ci := 0) (v := .ref (q0 13)) (C := R_PV) (T := T_PV) (N := 14) hx hb hts i_PV hown hK hP 0 rfl rfl 13 (by decide) (hts _ wf_PV_102) (fun _ h9 => h9) rfl d_PV_alike_112 ?_
    refine lv_iload hx hb d_PV_alike_115 (lv_at hl 4 rfl) ?_
    have g2 := h.1
    have h := h.2
    refine xa_iald hx hb hK hP 4 0 rfl rfl g2 (k := x9.toNatClampNeg) rfl d_PV_alike_117 ?_
    refine lv_aload_n hx hb d_PV_alike_118 rfl (lv_at hl 0 rfl) ?_
    refine va_get (D := G.1) (ci := 0) (v := .ref (q0 4)) (C := R_PV) (T := T_PV) (N := 14) hx hb hts i_PV hown hK hP 0 rfl rfl 4 (by decide) (hts _ wf_PV_50) (fun _ h9 => h9) rfl d_PV_alike_119 ?_
    refine va_get (D := G.1) (ci := 5) (v := .ref (q1 5)) (C := R_Mo) (T := T_Mo) (N := 13) hx hb hts i_Mo hown hK hP 5 rfl rfl 5 (by decide) (hts _ wf_PV_197) (fun _ h9 => h9) rfl d_PV_alike_122 ?_
    refine lv_aload_n hx hb d_PV_alike_125 rfl (lv_at hl 0 rfl) ?_
    refine va_get (D := G.1) (ci := 0) (v := .int (gI o0 0)) (C := R_PV) (T := T_PV) (N := 14) hx hb hts i_PV hown hK hP 0 rfl rfl 0 (by decide) (hts _ wf_PV_18) (fun _ h9 => h9) rfl d_PV_alike_126 ?_
    refine lv_iconst (v := (1 : Int32)) hx hb d_PV_alike_129 (by decide) ?_
    refine lv_isub hx hb d_PV_alike_130 ?_
    refine lv_iload hx hb d_PV_alike_131 (lv_at hl 4 rfl) ?_
    refine lv_isub hx hb d_PV_alike_133 ?_
    have g3 := h.1
    have h := h.2
    refine xa_iald hx hb hK hP 8 0 rfl rfl g3 (k := (((gI o0 0) - (1 : Int32)) - x9).toNatClampNeg) rfl d_PV_alike_134 ?_
    refine lv_topi (fun y4 ey4 => ?_)
    have h := h y4 ey4
    refine lv_imul hx hb d_PV_alike_135 ?_
    refine lv_iload hx hb d_PV_alike_136 (lv_at hl 3 rfl) ?_
    refine lv_icmp_ne (tgt := 145) hx hb d_PV_alike_138 (by decide) (fun c5 => ?_) (fun c5 => ?_)
    · have h := h.2 c5
      refine lv_iconst (v := (0 : Int32)) hx hb d_PV_alike_145 (by decide) ?_
      refine lv_istore (lv' := [(7, .int (0 : Int32)), (0, .ref h0), (6, .int x6), (8, .int x8), (9, .int x9)]) hx hb d_PV_alike_146 hl (by decide) rfl (fun ls hl => ?_)
      refine lv_iinc (v := (x9 + (1 : Int32))) (lv' := [(9, .int (x9 + (1 : Int32))), (7, .int (0 : Int32)), (0, .ref h0), (6, .int x6), (8, .int x8)]) hx hb d_PV_alike_148 hl (k := 4) rfl rfl (by decide) rfl (fun ls hl => ?_)
      refine lv_goto (tgt := 48) hx hb d_PV_alike_151 (by decide) ?_
      have hl := lv_sub (l' := [(0, .ref h0), (6, .int x6), (7, .int (0 : Int32)), (8, .int x8), (9, .int (x9 + (1 : Int32)))]) hl [2, 3, 1, 4, 0] rfl
      have hP : va_P G.1 CL (cw_PV G h0 q0 o0 ++ (cw_Mo G (q0 4) q1 r1 o1)) H := hP
      have hD : va_D A (cw_PV G h0 q0 o0 ++ (cw_Mo G (q0 4) q1 r1 o1)) := hD
      exact hk48 x6 (0 : Int32) x8 (x9 + (1 : Int32)) o0 ls H locs hl hP hD hS h
    · have h := h.1 c5
      refine lv_iconst (v := (1 : Int32)) hx hb d_PV_alike_141 (by decide) ?_
      refine lv_goto (tgt := 146) hx hb d_PV_alike_142 (by decide) ?_
      refine lv_istore (lv' := [(7, .int (1 : Int32)), (0, .ref h0), (6, .int x6), (8, .int x8), (9, .int x9)]) hx hb d_PV_alike_146 hl (by decide) rfl (fun ls hl => ?_)
      refine lv_iinc (v := (x9 + (1 : Int32))) (lv' := [(9, .int (x9 + (1 : Int32))), (7, .int (1 : Int32)), (0, .ref h0), (6, .int x6), (8, .int x8)]) hx hb d_PV_alike_148 hl (k := 4) rfl rfl (by decide) rfl (fun ls hl => ?_)
      refine lv_goto (tgt := 48) hx hb d_PV_alike_151 (by decide) ?_
      have hl := lv_sub (l' := [(0, .ref h0), (6, .int x6), (7, .int (1 : Int32)), (8, .int x8), (9, .int (x9 + (1 : Int32)))]) hl [2, 3, 1, 4, 0] rfl
      have hP : va_P G.1 CL (cw_PV G h0 q0 o0 ++ (cw_Mo G (q0 4) q1 r1 o1)) H := hP
      have hD : va_D A (cw_PV G h0 q0 o0 ++ (cw_Mo G (q0 4) q1 r1 o1)) := hD
      exact hk48 x6 (1 : Int32) x8 (x9 + (1 : Int32)) o0 ls H locs hl hP hD hS h
set_option maxHeartbeats 4000000 in
set_option maxRecDepth 100000 in
theorem t_PV_alike_103 {p : Program} {l : Launch} {e : Env} {s : State} {m : MethodId} {args : Array Value} {below : List Frame} {meth : Method} {c : Code} {A : Nat → Prop} {G : Gl} {h0 : Nat} {q0 : Nat → Nat} {q1 : Nat → Nat} (r1 : (Nat → Nat)) (o1 : Ob) (k48 : Int32 → Int32 → Int32 → Int32 → Ob → Prop) (Q : Int32 → Ob → Prop) (C : Cx p s m args meth c R_PV b_PV_alike 10 (some .int) G A)
    (hk48 : ∀ (x6 : Int32) (x7 : Int32) (x8 : Int32) (x9 : Int32) (o0 : Ob) (ls : Array Slot) (H : Heap) (locs : List Loc), lv_has ls 10 [(0, .ref h0), (6, .int x6), (7, .int x7), (8, .int x8), (9, .int x9)] → va_P G.1 CL (cw_PV G h0 q0 o0 ++ (cw_Mo G (q0 4) q1 r1 o1)) H → va_D A (cw_PV G h0 q0 o0 ++ (cw_Mo G (q0 4) q1 r1 o1)) → va_S A s.heap H locs → k48 x6 x7 x8 x9 o0 → W p l e rm_PV_alike s m args below meth c H locs 0 0 (MQ below (va_Qi (fun (r : Int32) (u : Ob) => Q r u) (fun (u : Ob) t => BW G A (cw_PV G h0 q0 u ++ (cw_Mo G (q0 4) q1 r1 o1)) t) A) args s 0 0 A) (F0 m 48 ls [])) :
    ∀ (x7 : Int32) (x8 : Int32) (x9 : Int32) (o0 : Ob) (ls : Array Slot) (H : Heap) (locs : List Loc), lv_has ls 10 [(0, .ref h0), (7, .int x7), (8, .int x8), (9, .int x9)] → va_P G.1 CL (cw_PV G h0 q0 o0 ++ (cw_Mo G (q0 4) q1 r1 o1)) H → va_D A (cw_PV G h0 q0 o0 ++ (cw_Mo G (q0 4) q1 r1 o1)) → va_S A s.heap H locs → f_PV_alike_103 r1 o1 k48 Q x7 x8 x9 o0 → W p l e rm_PV_alike s m args below meth c H locs 0 0 (MQ below (va_Qi (fun (r : Int32) (u : Ob) => Q r u) (fun (u : Ob) t => BW G A (cw_PV G h0 q0 u ++ (cw_Mo G (q0 4) q1 r1 o1)) t) A) args s 0 0 A) (F0 m 103 ls []) := by
  obtain ⟨hx, hb, hml, hown, hr, hts, hK, hA, hlocks, hE⟩ := id C
  intro x7 x8 x9 o0 ls H locs hl hP hD hS h
  have hP : va_P G.1 CL [(h0, .inr (0, [.int (gI o0 0), .ref (q0 1), .ref (q0 2), .ref (q0 3), .ref (q0 4), .ref (q0 5), .ref (q0 6), .ref (q0 7), .ref (q0 8), .ref (q0 9), .ref (q0 10), .ref (q0 11), .ref (q0 12), .ref (q0 13)])), kQ G (q0 3) 3 (fun i => some (q0 (50 + i))), kI G (q0 6) 1000 (gA o0 6), kJ G (q0 7) 2000 (gB o0 7), kI G (q0 13) 5 (gA o0 13), ((q0 4), .inr (5, [.ref (r1 0), .int (gI o1 1), .int (gI o1 2), .ref (q1 3), .ref (q1 4), .ref (q1 5), .ref (q1 6), .ref (q1 7), .ref (q1 8), .ref (q1 9), .ref (q1 10), .int (gI o1 11), .int (gI o1 12)])), kI G (q1 3) 20 (gA o1 3), kI G (q1 4) 20 (gA o1 4), kI G (q1 5) 5 (gA o1 5), kJ G (q1 6) 5 (gB o1 6), kJ G (q1 7) 5 (gB o1 7), kJ G (q1 8) 6 (gB o1 8), kI G (q1 10) 5 (gA o1 10)] H := hP
  have hD : va_D A [(h0, .inr (0, [.int (gI o0 0), .ref (q0 1), .ref (q0 2), .ref (q0 3), .ref (q0 4), .ref (q0 5), .ref (q0 6), .ref (q0 7), .ref (q0 8), .ref (q0 9), .ref (q0 10), .ref (q0 11), .ref (q0 12), .ref (q0 13)])), kQ G (q0 3) 3 (fun i => some (q0 (50 + i))), kI G (q0 6) 1000 (gA o0 6), kJ G (q0 7) 2000 (gB o0 7), kI G (q0 13) 5 (gA o0 13), ((q0 4), .inr (5, [.ref (r1 0), .int (gI o1 1), .int (gI o1 2), .ref (q1 3), .ref (q1 4), .ref (q1 5), .ref (q1 6), .ref (q1 7), .ref (q1 8), .ref (q1 9), .ref (q1 10), .int (gI o1 11), .int (gI o1 12)])), kI G (q1 3) 20 (gA o1 3), kI G (q1 4) 20 (gA o1 4), kI G (q1 5) 5 (gA o1 5), kJ G (q1 6) 5 (gB o1 6), kJ G (q1 7) 5 (gB o1 7), kJ G (q1 8) 6 (gB o1 8), kI G (q1 10) 5 (gA o1 10)] := hD
  unfold f_PV_alike_103 at h
  refine lv_iconst (v := (0 : Int32)) hx hb d_PV_alike_103 (by decide) ?_
  refine lv_istore (lv' := [(6, .int (0 : Int32)), (0, .ref h0), (7, .int x7), (8, .int x8), (9, .int x9)]) hx hb d_PV_alike_104 hl (by decide) rfl (fun ls hl => ?_)
  have hl := lv_sub (l' := [(0, .ref h0), (6, .int (0 : Int32)), (7, .int x7), (8, .int x8), (9, .int x9)]) hl [1, 0, 2, 3, 4] rfl
  have hP : va_P G.1 CL (cw_PV G h0 q0 o0 ++ (cw_Mo G (q0 4) q1 r1 o1)) H := hP
  have hD : va_D A (cw_PV G h0 q0 o0 ++ (cw_Mo G (q0 4) q1 r1 o1)) := hD
  exact t_PV_alike_106 r1 o1 k48 Q C hk48 (0 : Int32) x7 x8 x9 o0 ls _ locs hl hP hD hS h
set_option maxHeartbeats 4000000 in
set_option maxRecDepth 100000 in
theorem t_PV_alike_48 {p : Program} {l : Launch} {e : Env} {s : State} {m : MethodId} {args : Array Value} {below : List Frame} {meth : Method} {c : Code} {A : Nat → Prop} {G : Gl} {h0 : Nat} {q0 : Nat → Nat} {q1 : Nat → Nat} (r1 : (Nat → Nat)) (o1 : Ob) (Q : Int32 → Ob → Prop) (C : Cx p s m args meth c R_PV b_PV_alike 10 (some .int) G A) :
    ∀ (n : Nat) (x6 : Int32) (x7 : Int32) (x8 : Int32) (x9 : Int32) (o0 : Ob) (ls : Array Slot) (H : Heap) (locs : List Loc), lv_has ls 10 [(0, .ref h0), (6, .int x6), (7, .int x7), (8, .int x8), (9, .int x9)] → va_P G.1 CL (cw_PV G h0 q0 o0 ++ (cw_Mo G (q0 4) q1 r1 o1)) H → va_D A (cw_PV G h0 q0 o0 ++ (cw_Mo G (q0 4) q1 r1 o1)) → va_S A s.heap H locs → f_PV_alike_48 r1 o1 Q n x6 x7 x8 x9 o0 → W p l e rm_PV_alike s m args below meth c H locs 0 0 (MQ below (va_Qi (fun (r : Int32) (u : Ob) => Q r u) (fun (u : Ob) t => BW G A (cw_PV G h0 q0 u ++ (cw_Mo G (q0 4) q1 r1 o1)) t) A) args s 0 0 A) (F0 m 48 ls []) := by
  obtain ⟨hx, hb, hml, hown, hr, hts, hK, hA, hlocks, hE⟩ := id C
  intro n
  induction n with
  | zero => intro x6 x7 x8 x9 o0 ls H locs hl hP hD hS h; exact absurd h id
  | succ n ih =>
    intro x6 x7 x8 x9 o0 ls H locs hl hP hD hS h
    have hP : va_P G.1 CL [(h0, .inr (0, [.int (gI o0 0), .ref (q0 1), .ref (q0 2), .ref (q0 3), .ref (q0 4), .ref (q0 5), .ref (q0 6), .ref (q0 7), .ref (q0 8), .ref (q0 9), .ref (q0 10), .ref (q0 11), .ref (q0 12), .ref (q0 13)])), kQ G (q0 3) 3 (fun i => some (q0 (50 + i))), kI G (q0 6) 1000 (gA o0 6), kJ G (q0 7) 2000 (gB o0 7), kI G (q0 13) 5 (gA o0 13), ((q0 4), .inr (5, [.ref (r1 0), .int (gI o1 1), .int (gI o1 2), .ref (q1 3), .ref (q1 4), .ref (q1 5), .ref (q1 6), .ref (q1 7), .ref (q1 8), .ref (q1 9), .ref (q1 10), .int (gI o1 11), .int (gI o1 12)])), kI G (q1 3) 20 (gA o1 3), kI G (q1 4) 20 (gA o1 4), kI G (q1 5) 5 (gA o1 5), kJ G (q1 6) 5 (gB o1 6), kJ G (q1 7) 5 (gB o1 7), kJ G (q1 8) 6 (gB o1 8), kI G (q1 10) 5 (gA o1 10)] H := hP
    have hD : va_D A [(h0, .inr (0, [.int (gI o0 0), .ref (q0 1), .ref (q0 2), .ref (q0 3), .ref (q0 4), .ref (q0 5), .ref (q0 6), .ref (q0 7), .ref (q0 8), .ref (q0 9), .ref (q0 10), .ref (q0 11), .ref (q0 12), .ref (q0 13)])), kQ G (q0 3) 3 (fun i => some (q0 (50 + i))), kI G (q0 6) 1000 (gA o0 6), kJ G (q0 7) 2000 (gB o0 7), kI G (q0 13) 5 (gA o0 13), ((q0 4), .inr (5, [.ref (r1 0), .int (gI o1 1), .int (gI o1 2), .ref (q1 3), .ref (q1 4), .ref (q1 5), .ref (q1 6), .ref (q1 7), .ref (q1 8), .ref (q1 9), .ref (q1 10), .int (gI o1 11), .int (gI o1 12)])), kI G (q1 3) 20 (gA o1 3), kI G (q1 4) 20 (gA o1 4), kI G (q1 5) 5 (gA o1 5), kJ G (q1 6) 5 (gB o1 6), kJ G (q1 7) 5 (gB o1 7), kJ G (q1 8) 6 (gB o1 8), kI G (q1 10) 5 (gA o1 10)] := hD
    unfold f_PV_alike_48 at h
    refine lv_iload hx hb d_PV_alike_48 (lv_at hl 4 rfl) ?_
    refine lv_aload_n hx hb d_PV_alike_50 rfl (lv_at hl 0 rfl) ?_
    refine va_get (D := G.1) (ci := 0) (v := .int (gI o0 0)) (C := R_PV) (T := T_PV) (N := 14) hx hb hts i_PV hown hK hP 0 rfl rfl 0 (by decide) (hts _ wf_PV_18) (fun _ h9 => h9) rfl d_PV_alike_51 ?_
    refine lv_icmp_ge (tgt := 154) hx hb d_PV_alike_54 (by decide) (fun c6 => ?_) (fun c6 => ?_)
    · have h := h.1 c6
      refine lv_iload hx hb d_PV_alike_154 (lv_at hl 1 rfl) ?_
      refine lv_if_eq (tgt := 161) hx hb d_PV_alike_156 (by decide) (fun c7 => ?_) (fun c7 => ?_)
      · have h := h.1 c7
        refine lv_iload hx hb d_PV_alike_161 (lv_at hl 2 rfl) ?_
        refine lv_if_eq (tgt := 170) hx hb d_PV_alike_163 (by decide) (fun c8 => ?_) (fun c8 => ?_)
        · have h := h.1 c8
          refine lv_iconst (v := (0 : Int32)) hx hb d_PV_alike_170 (by decide) ?_
          have hP : va_P G.1 CL (cw_PV G h0 q0 o0 ++ (cw_Mo G (q0 4) q1 r1 o1)) H := hP
          have hD : va_D A (cw_PV G h0 q0 o0 ++ (cw_Mo G (q0 4) q1 r1 o1)) := hD
          exact W.iret (v := (0 : Int32)) hx hb hr (fun t ht hW => ⟨⟨(0 : Int32), o0, rfl, h, by rw [ht]; exact hP, va_K.moved hW.alike hK, hD⟩, hS.F ht⟩) hS.2.2 d_PV_alike_171
        · have h := h.2 c8
          refine lv_iconst (v := (2 : Int32)) hx hb d_PV_alike_166 (by decide) ?_
          refine lv_goto (tgt := 171) hx hb d_PV_alike_167 (by decide) ?_
          have hP : va_P G.1 CL (cw_PV G h0 q0 o0 ++ (cw_Mo G (q0 4) q1 r1 o1)) H := hP
          have hD : va_D A (cw_PV G h0 q0 o0 ++ (cw_Mo G (q0 4) q1 r1 o1)) := hD
          exact W.iret (v := (2 : Int32)) hx hb hr (fun t ht hW => ⟨⟨(2 : Int32), o0, rfl, h, by rw [ht]; exact hP, va_K.moved hW.alike hK, hD⟩, hS.F ht⟩) hS.2.2 d_PV_alike_171
      · have h := h.2 c7
        refine lv_iconst (v := (1 : Int32)) hx hb d_PV_alike_159 (by decide) ?_
        have hP : va_P G.1 CL (cw_PV G h0 q0 o0 ++ (cw_Mo G (q0 4) q1 r1 o1)) H := hP
        have hD : va_D A (cw_PV G h0 q0 o0 ++ (cw_Mo G (q0 4) q1 r1 o1)) := hD
        exact W.iret (v := (1 : Int32)) hx hb hr (fun t ht hW => ⟨⟨(1 : Int32), o0, rfl, h, by rw [ht]; exact hP, va_K.moved hW.alike hK, hD⟩, hS.F ht⟩) hS.2.2 d_PV_alike_160
    · have h := h.2 c6
      refine lv_iload hx hb d_PV_alike_57 (lv_at hl 1 rfl) ?_
      refine lv_if_eq (tgt := 103) hx hb d_PV_alike_59 (by decide) (fun c9 => ?_) (fun c9 => ?_)
      · have h := h.1 c9
        have hl := lv_sub (l' := [(0, .ref h0), (7, .int x7), (8, .int x8), (9, .int x9)]) hl [0, 2, 3, 4] rfl
        have hP : va_P G.1 CL (cw_PV G h0 q0 o0 ++ (cw_Mo G (q0 4) q1 r1 o1)) H := hP
        have hD : va_D A (cw_PV G h0 q0 o0 ++ (cw_Mo G (q0 4) q1 r1 o1)) := hD
        exact t_PV_alike_103 r1 o1 (f_PV_alike_48 r1 o1 Q n) Q C ih x7 x8 x9 o0 ls _ locs hl hP hD hS h
      · have h := h.2 c9
        refine lv_aload_n hx hb d_PV_alike_62 rfl (lv_at hl 0 rfl) ?_
        refine va_get (D := G.1) (ci := 0) (v := .ref (q0 13)) (C := R_PV) (T := T_PV) (N := 14) hx hb hts i_PV hown hK hP 0 rfl rfl 13 (by decide) (hts _ wf_PV_102) (fun _ h9 => h9) rfl d_PV_alike_63 ?_
        refine lv_iload hx hb d_PV_alike_66 (lv_at hl 4 rfl) ?_
        have g10 := h.1
        have h := h.2
        refine xa_iald hx hb hK hP 4 0 rfl rfl g10 (k := x9.toNatClampNeg) rfl d_PV_alike_68 ?_
        refine lv_aload_n hx hb d_PV_alike_69 rfl (lv_at hl 0 rfl) ?_
        refine va_get (D := G.1) (ci := 0) (v := .ref (q0 4)) (C := R_PV) (T := T_PV) (N := 14) hx hb hts i_PV hown hK hP 0 rfl rfl 4 (by decide) (hts _ wf_PV_50) (fun _ h9 => h9) rfl d_PV_alike_70 ?_
        refine va_get (D := G.1) (ci := 5) (v := .ref (q1 5)) (C := R_Mo) (T := T_Mo) (N := 13) hx hb hts i_Mo hown hK hP 5 rfl rfl 5 (by decide) (hts _ wf_PV_197) (fun _ h9 => h9) rfl d_PV_alike_73 ?_
        refine lv_iconst (v := (0 : Int32)) hx hb d_PV_alike_76 (by decide) ?_
        refine xa_iald hx hb hK hP 8 0 rfl rfl (vp_lit rfl) (k := 0) rfl d_PV_alike_77 ?_
        refine lv_imul hx hb d_PV_alike_78 ?_
        refine lv_topi (fun y11 ey11 => ?_)
        have h := h y11 ey11
        refine lv_aload_n hx hb d_PV_alike_79 rfl (lv_at hl 0 rfl) ?_
        refine va_get (D := G.1) (ci := 0) (v := .ref (q0 13)) (C := R_PV) (T := T_PV) (N := 14) hx hb hts i_PV hown hK hP 0 rfl rfl 13 (by decide) (hts _ wf_PV_102) (fun _ h9 => h9) rfl d_PV_alike_80 ?_
        refine lv_iconst (v := (0 : Int32)) hx hb d_PV_alike_83 (by decide) ?_
        refine xa_iald hx hb hK hP 4 0 rfl rfl (vp_lit rfl) (k := 0) rfl d_PV_alike_84 ?_
        refine lv_aload_n hx hb d_PV_alike_85 rfl (lv_at hl 0 rfl) ?_
        refine va_get (D := G.1) (ci := 0) (v := .ref (q0 4)) (C := R_PV) (T := T_PV) (N := 14) hx hb hts i_PV hown hK hP 0 rfl rfl 4 (by decide) (hts _ wf_PV_50) (fun _ h9 => h9) rfl d_PV_alike_86 ?_
        refine va_get (D := G.1) (ci := 5) (v := .ref (q1 5)) (C := R_Mo) (T := T_Mo) (N := 13) hx hb hts i_Mo hown hK hP 5 rfl rfl 5 (by decide) (hts _ wf_PV_197) (fun _ h9 => h9) rfl d_PV_alike_89 ?_
        refine lv_iload hx hb d_PV_alike_92 (lv_at hl 4 rfl) ?_
        have g12 := h.1
        have h := h.2
        refine xa_iald hx hb hK hP 8 0 rfl rfl g12 (k := x9.toNatClampNeg) rfl d_PV_alike_94 ?_
        refine lv_imul hx hb d_PV_alike_95 ?_
        refine lv_topi (fun y13 ey13 => ?_)
        have h := h y13 ey13
        refine lv_icmp_ne (tgt := 103) hx hb d_PV_alike_96 (by decide) (fun c14 => ?_) (fun c14 => ?_)
        · have h := h.2 c14
          have hl := lv_sub (l' := [(0, .ref h0), (7, .int x7), (8, .int x8), (9, .int x9)]) hl [0, 2, 3, 4] rfl
          have hP : va_P G.1 CL (cw_PV G h0 q0 o0 ++ (cw_Mo G (q0 4) q1 r1 o1)) H := hP
          have hD : va_D A (cw_PV G h0 q0 o0 ++ (cw_Mo G (q0 4) q1 r1 o1)) := hD
          exact t_PV_alike_103 r1 o1 (f_PV_alike_48 r1 o1 Q n) Q C ih x7 x8 x9 o0 ls _ locs hl hP hD hS h
        · have h := h.1 c14
          refine lv_iconst (v := (1 : Int32)) hx hb d_PV_alike_99 (by decide) ?_
          refine lv_goto (tgt := 104) hx hb d_PV_alike_100 (by decide) ?_
          refine lv_istore (lv' := [(6, .int (1 : Int32)), (0, .ref h0), (7, .int x7), (8, .int x8), (9, .int x9)]) hx hb d_PV_alike_104 hl (by decide) rfl (fun ls hl => ?_)
          have hl := lv_sub (l' := [(0, .ref h0), (6, .int (1 : Int32)), (7, .int x7), (8, .int x8), (9, .int x9)]) hl [1, 0, 2, 3, 4] rfl
          have hP : va_P G.1 CL (cw_PV G h0 q0 o0 ++ (cw_Mo G (q0 4) q1 r1 o1)) H := hP
          have hD : va_D A (cw_PV G h0 q0 o0 ++ (cw_Mo G (q0 4) q1 r1 o1)) := hD
          exact t_PV_alike_106 r1 o1 (f_PV_alike_48 r1 o1 Q n) Q C ih (1 : Int32) x7 x8 x9 o0 ls _ locs hl hP hD hS h
set_option maxHeartbeats 4000000 in
set_option maxRecDepth 100000 in
theorem c_PV_alike {l : Launch} {G : Gl} {h0 : Nat} {q0 : Nat → Nat} {q1 : Nat → Nat} {a0 : Int32} {a1 : Int32} {a2 : Int32} {a3 : Int32} {a4 : Int32} {o0 : Ob} {r1 : (Nat → Nat)} {o1 : Ob} {Q : Int32 → Ob → Prop} (sz : Nat) (h : f_PV_alike a0 a1 a2 a3 a4 o0 r1 o1 Q) : Met l y_PV_alike w_PV_alike rm_PV_alike (PcW G [.ref h0, .int a0, .int a1, .int a2, .int a3, .int a4] sz (cw_PV G h0 q0 o0 ++ (cw_Mo G (q0 4) q1 r1 o1))) (va_Qi (fun (r : Int32) (u : Ob) => Q r u) (fun (u : Ob) t => BW G (va_A (cw_PV G h0 q0 o0 ++ (cw_Mo G (q0 4) q1 r1 o1)) sz) (cw_PV G h0 q0 u ++ (cw_Mo G (q0 4) q1 r1 o1)) t) (va_A (cw_PV G h0 q0 o0 ++ (cw_Mo G (q0 4) q1 r1 o1)) sz)) 0 0 (va_A (cw_PV G h0 q0 o0 ++ (cw_Mo G (q0 4) q1 r1 o1)) sz) := by
  refine Met.ofW (cc := b_PV_alike) (maxL := 10) (ret := (some .int)) (by decide +kernel) rfl ?_
  intro p e s m args below meth c s₁ B hml hv
  obtain ⟨rfl, hsz, hP, hK, hD0, hE⟩ := hv
  have hx := B.exec
  have hb := B.bytes
  have hr := B.returns
  have hts0 := atoms_spec (ws := w_PV_alike) B.pre
  have hts : ∀ w ∈ gw_tbl, w.before ([.ref h0, .int a0, .int a1, .int a2, .int a3, .int a4]).toArray s = true := fun w hw => hts0 w (List.mem_cons_of_mem _ hw)
  have hown : s.vm.findClass R_PV = some m.cls := findClass_of_methodNamed B.named
  have hlocks := B.notSynchronized
  subst hsz
  have hD := hD0.self (sz := s.heap.size)
  generalize hAe : va_A (cw_PV G h0 q0 o0 ++ (cw_Mo G (q0 4) q1 r1 o1)) s.heap.size = A at hD hE ⊢
  have hA : ∀ q : Nat, s.heap.size ≤ q → A q := fun q h => by rw [← hAe]; exact Or.inr h
  have hS : va_S A s.heap s.heap [] := va_S.rf
  have C : Cx p s m ([.ref h0, .int a0, .int a1, .int a2, .int a3, .int a4]).toArray meth c R_PV b_PV_alike 10 (some .int) G A := ⟨hx, hb, hml, hown, hr, hts, hK, hA, hlocks, hE⟩
  have hl := lv_entry ([.ref h0, .int a0, .int a1, .int a2, .int a3, .int a4]) (n := 10) (Nat.le_of_ble_eq_true rfl)
  rw [lg_entry_eq]
  generalize (lg_sl ([.ref h0, .int a0, .int a1, .int a2, .int a3, .int a4]) ++ List.replicate (10 - (lg_sl ([.ref h0, .int a0, .int a1, .int a2, .int a3, .int a4])).length) Slot.unset).toArray = ls at hl ⊢
  have hl : lv_has ls 10 [(0, .ref h0), (1, .int a0), (2, .int a1), (3, .int a2), (4, .int a3), (5, .int a4)] := hl
  have hD : va_D A [(h0, .inr (0, [.int (gI o0 0), .ref (q0 1), .ref (q0 2), .ref (q0 3), .ref (q0 4), .ref (q0 5), .ref (q0 6), .ref (q0 7), .ref (q0 8), .ref (q0 9), .ref (q0 10), .ref (q0 11), .ref (q0 12), .ref (q0 13)])), kQ G (q0 3) 3 (fun i => some (q0 (50 + i))), kI G (q0 6) 1000 (gA o0 6), kJ G (q0 7) 2000 (gB o0 7), kI G (q0 13) 5 (gA o0 13), ((q0 4), .inr (5, [.ref (r1 0), .int (gI o1 1), .int (gI o1 2), .ref (q1 3), .ref (q1 4), .ref (q1 5), .ref (q1 6), .ref (q1 7), .ref (q1 8), .ref (q1 9), .ref (q1 10), .int (gI o1 11), .int (gI o1 12)])), kI G (q1 3) 20 (gA o1 3), kI G (q1 4) 20 (gA o1 4), kI G (q1 5) 5 (gA o1 5), kJ G (q1 6) 5 (gB o1 6), kJ G (q1 7) 5 (gB o1 7), kJ G (q1 8) 6 (gB o1 8), kI G (q1 10) 5 (gA o1 10)] := hD
  unfold f_PV_alike at h
  suffices key : ∀ (H : Heap) (locs : List Loc), va_P G.1 CL [(h0, .inr (0, [.int (gI o0 0), .ref (q0 1), .ref (q0 2), .ref (q0 3), .ref (q0 4), .ref (q0 5), .ref (q0 6), .ref (q0 7), .ref (q0 8), .ref (q0 9), .ref (q0 10), .ref (q0 11), .ref (q0 12), .ref (q0 13)])), kQ G (q0 3) 3 (fun i => some (q0 (50 + i))), kI G (q0 6) 1000 (gA o0 6), kJ G (q0 7) 2000 (gB o0 7), kI G (q0 13) 5 (gA o0 13), ((q0 4), .inr (5, [.ref (r1 0), .int (gI o1 1), .int (gI o1 2), .ref (q1 3), .ref (q1 4), .ref (q1 5), .ref (q1 6), .ref (q1 7), .ref (q1 8), .ref (q1 9), .ref (q1 10), .int (gI o1 11), .int (gI o1 12)])), kI G (q1 3) 20 (gA o1 3), kI G (q1 4) 20 (gA o1 4), kI G (q1 5) 5 (gA o1 5), kJ G (q1 6) 5 (gB o1 6), kJ G (q1 7) 5 (gB o1 7), kJ G (q1 8) 6 (gB o1 8), kI G (q1 10) 5 (gA o1 10)] H → va_S A s.heap H locs → W p l e rm_PV_alike s m ([.ref h0, .int a0, .int a1, .int a2, .int a3, .int a4]).toArray below meth c H locs 0 0 (MQ below (va_Qi (fun (r : Int32) (u : Ob) => Q r u) (fun (u : Ob) t => BW G A (cw_PV G h0 q0 u ++ (cw_Mo G (q0 4) q1 r1 o1)) t) A) ([.ref h0, .int a0, .int a1, .int a2, .int a3, .int a4]).toArray s 0 0 A) (F0 m 0 ls []) from key s.heap [] hP hS
  intro H locs hP hS
  refine lv_aload_n hx hb d_PV_alike_0 rfl (lv_at hl 0 rfl) ?_
  refine lv_iload_n hx hb d_PV_alike_1 rfl (lv_at hl 1 rfl) ?_
  refine lv_iload_n hx hb d_PV_alike_2 rfl (lv_at hl 2 rfl) ?_
  refine lv_iload_n hx hb d_PV_alike_3 rfl (lv_at hl 3 rfl) ?_
  refine lv_iload hx hb d_PV_alike_4 (lv_at hl 4 rfl) ?_
  refine lv_iload hx hb d_PV_alike_6 (lv_at hl 5 rfl) ?_
  refine cl_Vi (b := b_PV_alike) (As := [.int a0, .int a1, .int a2, .int a3, .int a4]) (rest := []) (ws := [(h0, .inr (0, [.int (gI o0 0), .ref (q0 1), .ref (q0 2), .ref (q0 3), .ref (q0 4), .ref (q0 5), .ref (q0 6), .ref (q0 7), .ref (q0 8), .ref (q0 9), .ref (q0 10), .ref (q0 11), .ref (q0 12), .ref (q0 13)])), kQ G (q0 3) 3 (fun i => some (q0 (50 + i))), kI G (q0 6) 1000 (gA o0 6), kJ G (q0 7) 2000 (gB o0 7), kI G (q0 13) 5 (gA o0 13), ((q0 4), .inr (5, [.ref (r1 0), .int (gI o1 1), .int (gI o1 2), .ref (q1 3), .ref (q1 4), .ref (q1 5), .ref (q1 6), .ref (q1 7), .ref (q1 8), .ref (q1 9), .ref (q1 10), .int (gI o1 11), .int (gI o1 12)])), kI G (q1 3) 20 (gA o1 3), kI G (q1 4) 20 (gA o1 4), kI G (q1 5) 5 (gA o1 5), kJ G (q1 6) 5 (gB o1 6), kJ G (q1 7) 5 (gB o1 7), kJ G (q1 8) 6 (gB o1 8), kI G (q1 10) 5 (gA o1 10)]) (wr := [((q0 4), .inr (5, [.ref (r1 0), .int (gI o1 1), .int (gI o1 2), .ref (q1 3), .ref (q1 4), .ref (q1 5), .ref (q1 6), .ref (q1 7), .ref (q1 8), .ref (q1 9), .ref (q1 10), .int (gI o1 11), .int (gI o1 12)])), kI G (q1 3) 20 (gA o1 3), kI G (q1 4) 20 (gA o1 4), kI G (q1 5) 5 (gA o1 5), kJ G (q1 6) 5 (gB o1 6), kJ G (q1 7) 5 (gB o1 7), kJ G (q1 8) 6 (gB o1 8), kI G (q1 10) 5 (gA o1 10)]) (w2 := fun (u : Ob) => [(h0, .inr (0, [.int (gI u 0), .ref (q0 1), .ref (q0 2), .ref (q0 3), .ref (q0 4), .ref (q0 5), .ref (q0 6), .ref (q0 7), .ref (q0 8), .ref (q0 9), .ref (q0 10), .ref (q0 11), .ref (q0 12), .ref (q0 13)])), kQ G (q0 3) 3 (fun i => some (q0 (50 + i))), kI G (q0 6) 1000 (gA u 6), kJ G (q0 7) 2000 (gB u 7), kI G (q0 13) 5 (gA u 13), ((q0 4), .inr (5, [.ref (r1 0), .int (gI o1 1), .int (gI o1 2), .ref (q1 3), .ref (q1 4), .ref (q1 5), .ref (q1 6), .ref (q1 7), .ref (q1 8), .ref (q1 9), .ref (q1 10), .int (gI o1 11), .int (gI o1 12)])), kI G (q1 3) 20 (gA o1 3), kI G (q1 4) 20 (gA o1 4), kI G (q1 5) 5 (gA o1 5), kJ G (q1 6) 5 (gB o1 6), kJ G (q1 7) 5 (gB o1 7), kJ G (q1 8) 6 (gB o1 8), kI G (q1 10) 5 (gA o1 10)]) C (c_PV_askShape (h0 := h0) (q0 := q0) H.size h) wv_PV_240 ⟨Nat.le_of_ble_eq_true rfl, Nat.le_of_ble_eq_true rfl⟩ hP hD hS 0 rfl rfl [0, 1, 2, 3, 4] [5, 6, 7, 8, 9, 10, 11, 12] rfl rfl (by decide) (by decide) (by decide) [8, 9, 10, 11, 12, 0, 1, 2, 3, 4, 5, 6, 7] (by decide) (fun u => rfl) rfl hl.1 rfl (lv_room (Nat.le_of_ble_eq_true rfl)) d_PV_alike_8 ⟨Nat.le_of_ble_eq_true rfl, Nat.le_of_ble_eq_true rfl⟩ rfl rfl (fun z15 u H locs h hP hD hS => ?_)
  generalize u = u16 at h hP hD
  have hP : va_P G.1 CL [(h0, .inr (0, [.int (gI u16 0), .ref (q0 1), .ref (q0 2), .ref (q0 3), .ref (q0 4), .ref (q0 5), .ref (q0 6), .ref (q0 7), .ref (q0 8), .ref (q0 9), .ref (q0 10), .ref (q0 11), .ref (q0 12), .ref (q0 13)])), kQ G (q0 3) 3 (fun i => some (q0 (50 + i))), kI G (q0 6) 1000 (gA u16 6), kJ G (q0 7) 2000 (gB u16 7), kI G (q0 13) 5 (gA u16 13), ((q0 4), .inr (5, [.ref (r1 0), .int (gI o1 1), .int (gI o1 2), .ref (q1 3), .ref (q1 4), .ref (q1 5), .ref (q1 6), .ref (q1 7), .ref (q1 8), .ref (q1 9), .ref (q1 10), .int (gI o1 11), .int (gI o1 12)])), kI G (q1 3) 20 (gA o1 3), kI G (q1 4) 20 (gA o1 4), kI G (q1 5) 5 (gA o1 5), kJ G (q1 6) 5 (gB o1 6), kJ G (q1 7) 5 (gB o1 7), kJ G (q1 8) 6 (gB o1 8), kI G (q1 10) 5 (gA o1 10)] H := hP
  have hD : va_D A [(h0, .inr (0, [.int (gI u16 0), .ref (q0 1), .ref (q0 2), .ref (q0 3), .ref (q0 4), .ref (q0 5), .ref (q0 6), .ref (q0 7), .ref (q0 8), .ref (q0 9), .ref (q0 10), .ref (q0 11), .ref (q0 12), .ref (q0 13)])), kQ G (q0 3) 3 (fun i => some (q0 (50 + i))), kI G (q0 6) 1000 (gA u16 6), kJ G (q0 7) 2000 (gB u16 7), kI G (q0 13) 5 (gA u16 13), ((q0 4), .inr (5, [.ref (r1 0), .int (gI o1 1), .int (gI o1 2), .ref (q1 3), .ref (q1 4), .ref (q1 5), .ref (q1 6), .ref (q1 7), .ref (q1 8), .ref (q1 9), .ref (q1 10), .int (gI o1 11), .int (gI o1 12)])), kI G (q1 3) 20 (gA o1 3), kI G (q1 4) 20 (gA o1 4), kI G (q1 5) 5 (gA o1 5), kJ G (q1 6) 5 (gB o1 6), kJ G (q1 7) 5 (gB o1 7), kJ G (q1 8) 6 (gB o1 8), kI G (q1 10) 5 (gA o1 10)] := hD
  refine lv_if_ne (tgt := 16) hx hb d_PV_alike_11 (by decide) (fun c17 => ?_) (fun c17 => ?_)
  · have h := h.2 c17
    refine lv_iconst (v := (1 : Int32)) hx hb d_PV_alike_16 (by decide) ?_
    refine lv_istore (lv' := [(6, .int (1 : Int32)), (0, .ref h0), (1, .int a0), (2, .int a1), (3, .int a2), (4, .int a3), (5, .int a4)]) hx hb d_PV_alike_17 hl (by decide) rfl (fun ls hl => ?_)
    refine lv_iconst (v := (1 : Int32)) hx hb d_PV_alike_19 (by decide) ?_
    refine lv_istore (lv' := [(7, .int (1 : Int32)), (6, .int (1 : Int32)), (0, .ref h0), (1, .int a0), (2, .int a1), (3, .int a2), (4, .int a3), (5, .int a4)]) hx hb d_PV_alike_20 hl (by decide) rfl (fun ls hl => ?_)
    refine lv_aload_n hx hb d_PV_alike_22 rfl (lv_at hl 2 rfl) ?_
    refine va_get (D := G.1) (ci := 0) (v := .ref (q0 13)) (C := R_PV) (T := T_PV) (N := 14) hx hb hts i_PV hown hK hP 0 rfl rfl 13 (by decide) (hts _ wf_PV_102) (fun _ h9 => h9) rfl d_PV_alike_23 ?_
    refine lv_iconst (v := (0 : Int32)) hx hb d_PV_alike_26 (by decide) ?_
    refine xa_iald hx hb hK hP 4 0 rfl rfl (vp_lit rfl) (k := 0) rfl d_PV_alike_27 ?_
    refine lv_aload_n hx hb d_PV_alike_28 rfl (lv_at hl 2 rfl) ?_
    refine va_get (D := G.1) (ci := 0) (v := .ref (q0 4)) (C := R_PV) (T := T_PV) (N := 14) hx hb hts i_PV hown hK hP 0 rfl rfl 4 (by decide) (hts _ wf_PV_50) (fun _ h9 => h9) rfl d_PV_alike_29 ?_
    refine va_get (D := G.1) (ci := 5) (v := .ref (q1 5)) (C := R_Mo) (T := T_Mo) (N := 13) hx hb hts i_Mo hown hK hP 5 rfl rfl 5 (by decide) (hts _ wf_PV_197) (fun _ h9 => h9) rfl d_PV_alike_32 ?_
    refine lv_aload_n hx hb d_PV_alike_35 rfl (lv_at hl 2 rfl) ?_
    refine va_get (D := G.1) (ci := 0) (v := .int (gI u16 0)) (C := R_PV) (T := T_PV) (N := 14) hx hb hts i_PV hown hK hP 0 rfl rfl 0 (by decide) (hts _ wf_PV_18) (fun _ h9 => h9) rfl d_PV_alike_36 ?_
    refine lv_iconst (v := (1 : Int32)) hx hb d_PV_alike_39 (by decide) ?_
    refine lv_isub hx hb d_PV_alike_40 ?_
    have g18 := h.1
    have h := h.2
    refine xa_iald hx hb hK hP 8 0 rfl rfl g18 (k := ((gI u16 0) - (1 : Int32)).toNatClampNeg) rfl d_PV_alike_41 ?_
    refine lv_topi (fun y19 ey19 => ?_)
    have h := h y19 ey19
    refine lv_imul hx hb d_PV_alike_42 ?_
    refine lv_istore (lv' := [(8, .int (((gA u16 13) 0) * y19)), (7, .int (1 : Int32)), (6, .int (1 : Int32)), (0, .ref h0), (1, .int a0), (2, .int a1), (3, .int a2), (4, .int a3), (5, .int a4)]) hx hb d_PV_alike_43 hl (by decide) rfl (fun ls hl => ?_)
    refine lv_iconst (v := (0 : Int32)) hx hb d_PV_alike_45 (by decide) ?_
    refine lv_istore (lv' := [(9, .int (0 : Int32)), (8, .int (((gA u16 13) 0) * y19)), (7, .int (1 : Int32)), (6, .int (1 : Int32)), (0, .ref h0), (1, .int a0), (2, .int a1), (3, .int a2), (4, .int a3), (5, .int a4)]) hx hb d_PV_alike_46 hl (by decide) rfl (fun ls hl => ?_)
    have hl := lv_sub (l' := [(0, .ref h0), (6, .int (1 : Int32)), (7, .int (1 : Int32)), (8, .int (((gA u16 13) 0) * y19)), (9, .int (0 : Int32))]) hl [4, 3, 2, 1, 0] rfl
    have hP : va_P G.1 CL (cw_PV G h0 q0 u16 ++ (cw_Mo G (q0 4) q1 r1 o1)) H := hP
    have hD : va_D A (cw_PV G h0 q0 u16 ++ (cw_Mo G (q0 4) q1 r1 o1)) := hD
    obtain ⟨w, h⟩ := h
    exact t_PV_alike_48 r1 o1 Q C w (1 : Int32) (1 : Int32) (((gA u16 13) 0) * y19) (0 : Int32) u16 ls _ locs hl hP hD hS h
  · have h := h.1 c17
    refine lv_iconst (v := (-1 : Int32)) hx hb d_PV_alike_14 (by decide) ?_
    have hP : va_P G.1 CL (cw_PV G h0 q0 u16 ++ (cw_Mo G (q0 4) q1 r1 o1)) H := hP
    have hD : va_D A (cw_PV G h0 q0 u16 ++ (cw_Mo G (q0 4) q1 r1 o1)) := hD
    exact W.iret (v := (-1 : Int32)) hx hb hr (fun t ht hW => ⟨⟨(-1 : Int32), u16, rfl, h, by rw [ht]; exact hP, va_K.moved hW.alike hK, hD⟩, hS.F ht⟩) hS.2.2 d_PV_alike_15
abbrev b_PV_grid : ByteArray := prog_1_method_21_code
def y_PV_grid : MethodName := ⟨R_PV, "grid", "(II)I"⟩
abbrev w_PV_grid : List Cond := Cond.code y_PV_grid b_PV_grid 4 (some .int) :: gw_tbl
theorem d_PV_grid_0 : decode b_PV_grid 0 = .ok (.sipush 8190, 3) := by decide +kernel
theorem d_PV_grid_3 : decode b_PV_grid 3 = .ok (.istore_n 3, 1) := by decide +kernel
theorem d_PV_grid_4 : decode b_PV_grid 4 = .ok (.aload_n 0, 1) := by decide +kernel
theorem d_PV_grid_5 : decode b_PV_grid 5 = .ok (.iload_n 1, 1) := by decide +kernel
theorem d_PV_grid_6 : decode b_PV_grid 6 = .ok (.invokevirtual 145, 3) := by decide +kernel
theorem d_PV_grid_9 : decode b_PV_grid 9 = .ok (.ifCond .eq 23, 3) := by decide +kernel
theorem d_PV_grid_12 : decode b_PV_grid 12 = .ok (.iload_n 2, 1) := by decide +kernel
theorem d_PV_grid_13 : decode b_PV_grid 13 = .ok (.ifCond .eq 19, 3) := by decide +kernel
theorem d_PV_grid_16 : decode b_PV_grid 16 = .ok (.iload_n 2, 1) := by decide +kernel
theorem d_PV_grid_17 : decode b_PV_grid 17 = .ok (.iload_n 3, 1) := by decide +kernel
theorem d_PV_grid_18 : decode b_PV_grid 18 = .ok (.iconst (-1), 1) := by decide +kernel
theorem d_PV_grid_19 : decode b_PV_grid 19 = .ok (.ixor, 1) := by decide +kernel
theorem d_PV_grid_20 : decode b_PV_grid 20 = .ok (.iand, 1) := by decide +kernel
theorem d_PV_grid_21 : decode b_PV_grid 21 = .ok (.ifCond .ne 11, 3) := by decide +kernel
theorem d_PV_grid_24 : decode b_PV_grid 24 = .ok (.iload_n 2, 1) := by decide +kernel
theorem d_PV_grid_25 : decode b_PV_grid 25 = .ok (.invokestatic 253, 3) := by decide +kernel
theorem d_PV_grid_28 : decode b_PV_grid 28 = .ok (.iconst 4, 1) := by decide +kernel
theorem d_PV_grid_29 : decode b_PV_grid 29 = .ok (.if_icmp .le 5, 3) := by decide +kernel
theorem d_PV_grid_32 : decode b_PV_grid 32 = .ok (.iconst (-1), 1) := by decide +kernel
theorem d_PV_grid_33 : decode b_PV_grid 33 = .ok (.ireturn, 1) := by decide +kernel
theorem d_PV_grid_34 : decode b_PV_grid 34 = .ok (.aload_n 0, 1) := by decide +kernel
theorem d_PV_grid_35 : decode b_PV_grid 35 = .ok (.getfield 50, 3) := by decide +kernel
theorem d_PV_grid_38 : decode b_PV_grid 38 = .ok (.getfield 259, 3) := by decide +kernel
theorem d_PV_grid_41 : decode b_PV_grid 41 = .ok (.iload_n 1, 1) := by decide +kernel
theorem d_PV_grid_42 : decode b_PV_grid 42 = .ok (.iload_n 2, 1) := by decide +kernel
theorem d_PV_grid_43 : decode b_PV_grid 43 = .ok (.iastore, 1) := by decide +kernel
theorem d_PV_grid_44 : decode b_PV_grid 44 = .ok (.aload_n 0, 1) := by decide +kernel
theorem d_PV_grid_45 : decode b_PV_grid 45 = .ok (.invokevirtual 262, 3) := by decide +kernel
theorem d_PV_grid_48 : decode b_PV_grid 48 = .ok (.ireturn, 1) := by decide +kernel
theorem wv_PV_262 : wV R_PV 262 y_PV_countShapes b_PV_countShapes 3 (some .int) 0 := ⟨⟨gw_tb (List.mem_of_getElem? (i := 814) (by decide +kernel)) rfl, gw_tb (List.mem_of_getElem? (i := 1) (by decide +kernel)) rfl, gw_tb (List.mem_of_getElem? (i := 817) (by decide +kernel)) rfl, by decide, by decide, by decide +kernel⟩, gw_tb (List.mem_of_getElem? (i := 816) (by decide +kernel)) rfl, gw_of (List.mem_append_left _ (List.mem_of_getElem? (i := 22) (by decide +kernel))) rfl⟩
def f_PV_grid (a0 : Int32) (a1 : Int32) (o0 : Ob) (r1 : (Nat → Nat)) (o1 : Ob) (Q : Int32 → Ob → Prop) : Prop := f_PV_isPiece a0 o0 (fun z1 => (z1 = 0 → (Q (-1 : Int32) o1)) ∧ (¬ z1 = 0 → ((a1 = 0 → (Q (-1 : Int32) o1)) ∧ (¬ a1 = 0 → (((a1 &&& ((8190 : Int32) ^^^ (-1 : Int32))) = 0 → (f_Ig_bitCount a1 (fun z5 => (z5 ≤ (4 : Int32) → ((vp_in a0 5) ∧ (f_PV_countShapes o0 r1 (sA o1 10 (upd (gA o1 10) a0.toNatClampNeg a1)) (fun z8 => Q z8 (sA o1 10 (upd (gA o1 10) a0.toNatClampNeg a1)))))) ∧ (¬ z5 ≤ (4 : Int32) → (Q (-1 : Int32) o1))))) ∧ (¬ (a1 &&& ((8190 : Int32) ^^^ (-1 : Int32))) = 0 → (Q (-1 : Int32) o1)))))))
abbrev rm_PV_grid : Room := { frames := 2, cells := 0, slots := 0, locals := 42 }
set_option maxHeartbeats 4000000 in
set_option maxRecDepth 100000 in
theorem c_PV_grid {l : Launch} {G : Gl} {h0 : Nat} {q0 : Nat → Nat} {q1 : Nat → Nat} {a0 : Int32} {a1 : Int32} {o0 : Ob} {r1 : (Nat → Nat)} {o1 : Ob} {Q : Int32 → Ob → Prop} (sz : Nat) (h : f_PV_grid a0 a1 o0 r1 o1 Q) : Met l y_PV_grid w_PV_grid rm_PV_grid (PcW G [.ref h0, .int a0, .int a1] sz (cw_PV G h0 q0 o0 ++ (cw_Mo G (q0 4) q1 r1 o1))) (va_Qi (fun (r : Int32) (u : Ob) => Q r u) (fun (u : Ob) t => BW G (va_A (cw_PV G h0 q0 o0 ++ (cw_Mo G (q0 4) q1 r1 o1)) sz) (cw_PV G h0 q0 o0 ++ (cw_Mo G (q0 4) q1 r1 u)) t) (va_A (cw_PV G h0 q0 o0 ++ (cw_Mo G (q0 4) q1 r1 o1)) sz)) 0 0 (va_A (cw_PV G h0 q0 o0 ++ (cw_Mo G (q0 4) q1 r1 o1)) sz) := by
  refine Met.ofW (cc := b_PV_grid) (maxL := 4) (ret := (some .int)) (by decide +kernel) rfl ?_
  intro p e s m args below meth c s₁ B hml hv
  obtain ⟨rfl, hsz, hP, hK, hD0, hE⟩ := hv
  have hx := B.exec
  have hb := B.bytes
  have hr := B.returns
  have hts0 := atoms_spec (ws := w_PV_grid) B.pre
  have hts : ∀ w ∈ gw_tbl, w.before ([.ref h0, .int a0, .int a1]).toArray s = true := fun w hw => hts0 w (List.mem_cons_of_mem _ hw)
  have hown : s.vm.findClass R_PV = some m.cls := findClass_of_methodNamed B.named
  have hlocks := B.notSynchronized
  subst hsz
  have hD := hD0.self (sz := s.heap.size)
  generalize hAe : va_A (cw_PV G h0 q0 o0 ++ (cw_Mo G (q0 4) q1 r1 o1)) s.heap.size = A at hD hE ⊢
  have hA : ∀ q : Nat, s.heap.size ≤ q → A q := fun q h => by rw [← hAe]; exact Or.inr h
  have hS : va_S A s.heap s.heap [] := va_S.rf
  have C : Cx p s m ([.ref h0, .int a0, .int a1]).toArray meth c R_PV b_PV_grid 4 (some .int) G A := ⟨hx, hb, hml, hown, hr, hts, hK, hA, hlocks, hE⟩
  have hl := lv_entry ([.ref h0, .int a0, .int a1]) (n := 4) (Nat.le_of_ble_eq_true rfl)
  rw [lg_entry_eq]
  generalize (lg_sl ([.ref h0, .int a0, .int a1]) ++ List.replicate (4 - (lg_sl ([.ref h0, .int a0, .int a1])).length) Slot.unset).toArray = ls at hl ⊢
  have hl : lv_has ls 4 [(0, .ref h0), (1, .int a0), (2, .int a1)] := hl
  have hD : va_D A [(h0, .inr (0, [.int (gI o0 0), .ref (q0 1), .ref (q0 2), .ref (q0 3), .ref (q0 4), .ref (q0 5), .ref (q0 6), .ref (q0 7), .ref (q0 8), .ref (q0 9), .ref (q0 10), .ref (q0 11), .ref (q0 12), .ref (q0 13)])), kQ G (q0 3) 3 (fun i => some (q0 (50 + i))), kI G (q0 6) 1000 (gA o0 6), kJ G (q0 7) 2000 (gB o0 7), kI G (q0 13) 5 (gA o0 13), ((q0 4), .inr (5, [.ref (r1 0), .int (gI o1 1), .int (gI o1 2), .ref (q1 3), .ref (q1 4), .ref (q1 5), .ref (q1 6), .ref (q1 7), .ref (q1 8), .ref (q1 9), .ref (q1 10), .int (gI o1 11), .int (gI o1 12)])), kI G (q1 3) 20 (gA o1 3), kI G (q1 4) 20 (gA o1 4), kI G (q1 5) 5 (gA o1 5), kJ G (q1 6) 5 (gB o1 6), kJ G (q1 7) 5 (gB o1 7), kJ G (q1 8) 6 (gB o1 8), kI G (q1 10) 5 (gA o1 10)] := hD
  unfold f_PV_grid at h
  suffices key : ∀ (H : Heap) (locs : List Loc), va_P G.1 CL [(h0, .inr (0, [.int (gI o0 0), .ref (q0 1), .ref (q0 2), .ref (q0 3), .ref (q0 4), .ref (q0 5), .ref (q0 6), .ref (q0 7), .ref (q0 8), .ref (q0 9), .ref (q0 10), .ref (q0 11), .ref (q0 12), .ref (q0 13)])), kQ G (q0 3) 3 (fun i => some (q0 (50 + i))), kI G (q0 6) 1000 (gA o0 6), kJ G (q0 7) 2000 (gB o0 7), kI G (q0 13) 5 (gA o0 13), ((q0 4), .inr (5, [.ref (r1 0), .int (gI o1 1), .int (gI o1 2), .ref (q1 3), .ref (q1 4), .ref (q1 5), .ref (q1 6), .ref (q1 7), .ref (q1 8), .ref (q1 9), .ref (q1 10), .int (gI o1 11), .int (gI o1 12)])), kI G (q1 3) 20 (gA o1 3), kI G (q1 4) 20 (gA o1 4), kI G (q1 5) 5 (gA o1 5), kJ G (q1 6) 5 (gB o1 6), kJ G (q1 7) 5 (gB o1 7), kJ G (q1 8) 6 (gB o1 8), kI G (q1 10) 5 (gA o1 10)] H → va_S A s.heap H locs → W p l e rm_PV_grid s m ([.ref h0, .int a0, .int a1]).toArray below meth c H locs 0 0 (MQ below (va_Qi (fun (r : Int32) (u : Ob) => Q r u) (fun (u : Ob) t => BW G A (cw_PV G h0 q0 o0 ++ (cw_Mo G (q0 4) q1 r1 u)) t) A) ([.ref h0, .int a0, .int a1]).toArray s 0 0 A) (F0 m 0 ls []) from key s.heap [] hP hS
  intro H locs hP hS
  refine lv_sipush (v := (8190 : Int32)) hx hb d_PV_grid_0 (by decide) ?_
  refine lv_istore_n (lv' := [(3, .int (8190 : Int32)), (0, .ref h0), (1, .int a0), (2, .int a1)]) hx hb d_PV_grid_3 rfl hl (by decide) rfl (fun ls hl => ?_)
  refine lv_aload_n hx hb d_PV_grid_4 rfl (lv_at hl 1 rfl) ?_
  refine lv_iload_n hx hb d_PV_grid_5 rfl (lv_at hl 2 rfl) ?_
  refine cl_Vi (b := b_PV_grid) (As := [.int a0]) (rest := []) (ws := [(h0, .inr (0, [.int (gI o0 0), .ref (q0 1), .ref (q0 2), .ref (q0 3), .ref (q0 4), .ref (q0 5), .ref (q0 6), .ref (q0 7), .ref (q0 8), .ref (q0 9), .ref (q0 10), .ref (q0 11), .ref (q0 12), .ref (q0 13)])), kQ G (q0 3) 3 (fun i => some (q0 (50 + i))), kI G (q0 6) 1000 (gA o0 6), kJ G (q0 7) 2000 (gB o0 7), kI G (q0 13) 5 (gA o0 13), ((q0 4), .inr (5, [.ref (r1 0), .int (gI o1 1), .int (gI o1 2), .ref (q1 3), .ref (q1 4), .ref (q1 5), .ref (q1 6), .ref (q1 7), .ref (q1 8), .ref (q1 9), .ref (q1 10), .int (gI o1 11), .int (gI o1 12)])), kI G (q1 3) 20 (gA o1 3), kI G (q1 4) 20 (gA o1 4), kI G (q1 5) 5 (gA o1 5), kJ G (q1 6) 5 (gB o1 6), kJ G (q1 7) 5 (gB o1 7), kJ G (q1 8) 6 (gB o1 8), kI G (q1 10) 5 (gA o1 10)]) (wr := [((q0 4), .inr (5, [.ref (r1 0), .int (gI o1 1), .int (gI o1 2), .ref (q1 3), .ref (q1 4), .ref (q1 5), .ref (q1 6), .ref (q1 7), .ref (q1 8), .ref (q1 9), .ref (q1 10), .int (gI o1 11), .int (gI o1 12)])), kI G (q1 3) 20 (gA o1 3), kI G (q1 4) 20 (gA o1 4), kI G (q1 5) 5 (gA o1 5), kJ G (q1 6) 5 (gB o1 6), kJ G (q1 7) 5 (gB o1 7), kJ G (q1 8) 6 (gB o1 8), kI G (q1 10) 5 (gA o1 10)]) (w2 := fun (u : Unit) => [(h0, .inr (0, [.int (gI o0 0), .ref (q0 1), .ref (q0 2), .ref (q0 3), .ref (q0 4), .ref (q0 5), .ref (q0 6), .ref (q0 7), .ref (q0 8), .ref (q0 9), .ref (q0 10), .ref (q0 11), .ref (q0 12), .ref (q0 13)])), kQ G (q0 3) 3 (fun i => some (q0 (50 + i))), kI G (q0 6) 1000 (gA o0 6), kJ G (q0 7) 2000 (gB o0 7), kI G (q0 13) 5 (gA o0 13), ((q0 4), .inr (5, [.ref (r1 0), .int (gI o1 1), .int (gI o1 2), .ref (q1 3), .ref (q1 4), .ref (q1 5), .ref (q1 6), .ref (q1 7), .ref (q1 8), .ref (q1 9), .ref (q1 10), .int (gI o1 11), .int (gI o1 12)])), kI G (q1 3) 20 (gA o1 3), kI G (q1 4) 20 (gA o1 4), kI G (q1 5) 5 (gA o1 5), kJ G (q1 6) 5 (gB o1 6), kJ G (q1 7) 5 (gB o1 7), kJ G (q1 8) 6 (gB o1 8), kI G (q1 10) 5 (gA o1 10)]) C (c_PV_isPiece (h0 := h0) (q0 := q0) H.size h) wv_PV_145 ⟨Nat.le_of_ble_eq_true rfl, Nat.le_of_ble_eq_true rfl⟩ hP hD hS 0 rfl rfl [0, 1, 2, 3, 4] [5, 6, 7, 8, 9, 10, 11, 12] rfl rfl (by decide) (by decide) (by decide) [8, 9, 10, 11, 12, 0, 1, 2, 3, 4, 5, 6, 7] (by decide) (fun u => rfl) rfl hl.1 rfl (lv_room (Nat.le_of_ble_eq_true rfl)) d_PV_grid_6 ⟨Nat.le_of_ble_eq_true rfl, Nat.le_of_ble_eq_true rfl⟩ rfl rfl (fun z1 u H locs h hP hD hS => ?_)
  have hP : va_P G.1 CL [(h0, .inr (0, [.int (gI o0 0), .ref (q0 1), .ref (q0 2), .ref (q0 3), .ref (q0 4), .ref (q0 5), .ref (q0 6), .ref (q0 7), .ref (q0 8), .ref (q0 9), .ref (q0 10), .ref (q0 11), .ref (q0 12), .ref (q0 13)])), kQ G (q0 3) 3 (fun i => some (q0 (50 + i))), kI G (q0 6) 1000 (gA o0 6), kJ G (q0 7) 2000 (gB o0 7), kI G (q0 13) 5 (gA o0 13), ((q0 4), .inr (5, [.ref (r1 0), .int (gI o1 1), .int (gI o1 2), .ref (q1 3), .ref (q1 4), .ref (q1 5), .ref (q1 6), .ref (q1 7), .ref (q1 8), .ref (q1 9), .ref (q1 10), .int (gI o1 11), .int (gI o1 12)])), kI G (q1 3) 20 (gA o1 3), kI G (q1 4) 20 (gA o1 4), kI G (q1 5) 5 (gA o1 5), kJ G (q1 6) 5 (gB o1 6), kJ G (q1 7) 5 (gB o1 7), kJ G (q1 8) 6 (gB o1 8), kI G (q1 10) 5 (gA o1 10)] H := hP
  have hD : va_D A [(h0, .inr (0, [.int (gI o0 0), .ref (q0 1), .ref (q0 2), .ref (q0 3), .ref (q0 4), .ref (q0 5), .ref (q0 6), .ref (q0 7), .ref (q0 8), .ref (q0 9), .ref (q0 10), .ref (q0 11), .ref (q0 12), .ref (q0 13)])), kQ G (q0 3) 3 (fun i => some (q0 (50 + i))), kI G (q0 6) 1000 (gA o0 6), kJ G (q0 7) 2000 (gB o0 7), kI G (q0 13) 5 (gA o0 13), ((q0 4), .inr (5, [.ref (r1 0), .int (gI o1 1), .int (gI o1 2), .ref (q1 3), .ref (q1 4), .ref (q1 5), .ref (q1 6), .ref (q1 7), .ref (q1 8), .ref (q1 9), .ref (q1 10), .int (gI o1 11), .int (gI o1 12)])), kI G (q1 3) 20 (gA o1 3), kI G (q1 4) 20 (gA o1 4), kI G (q1 5) 5 (gA o1 5), kJ G (q1 6) 5 (gB o1 6), kJ G (q1 7) 5 (gB o1 7), kJ G (q1 8) 6 (gB o1 8), kI G (q1 10) 5 (gA o1 10)] := hD
  refine lv_if_eq (tgt := 32) hx hb d_PV_grid_9 (by decide) (fun c2 => ?_) (fun c2 => ?_)
  · have h := h.1 c2
    refine lv_iconst (v := (-1 : Int32)) hx hb d_PV_grid_32 (by decide) ?_
    have hP : va_P G.1 CL (cw_PV G h0 q0 o0 ++ (cw_Mo G (q0 4) q1 r1 o1)) H := hP
    have hD : va_D A (cw_PV G h0 q0 o0 ++ (cw_Mo G (q0 4) q1 r1 o1)) := hD
    exact W.iret (v := (-1 : Int32)) hx hb hr (fun t ht hW => ⟨⟨(-1 : Int32), o1, rfl, h, by rw [ht]; exact hP, va_K.moved hW.alike hK, hD⟩, hS.F ht⟩) hS.2.2 d_PV_grid_33
  · have h := h.2 c2
    refine lv_iload_n hx hb d_PV_grid_12 rfl (lv_at hl 3 rfl) ?_
    refine lv_if_eq (tgt := 32) hx hb d_PV_grid_13 (by decide) (fun c3 => ?_) (fun c3 => ?_)
    · have h := h.1 c3
      refine lv_iconst (v := (-1 : Int32)) hx hb d_PV_grid_32 (by decide) ?_
      have hP : va_P G.1 CL (cw_PV G h0 q0 o0 ++ (cw_Mo G (q0 4) q1 r1 o1)) H := hP
      have hD : va_D A (cw_PV G h0 q0 o0 ++ (cw_Mo G (q0 4) q1 r1 o1)) := hD
      exact W.iret (v := (-1 : Int32)) hx hb hr (fun t ht hW => ⟨⟨(-1 : Int32), o1, rfl, h, by rw [ht]; exact hP, va_K.moved hW.alike hK, hD⟩, hS.F ht⟩) hS.2.2 d_PV_grid_33
    · have h := h.2 c3
      refine lv_iload_n hx hb d_PV_grid_16 rfl (lv_at hl 3 rfl) ?_
      refine lv_iload_n hx hb d_PV_grid_17 rfl (lv_at hl 0 rfl) ?_
      refine lv_iconst (v := (-1 : Int32)) hx hb d_PV_grid_18 (by decide) ?_
      refine lv_ixor hx hb d_PV_grid_19 ?_
      refine lv_iand hx hb d_PV_grid_20 ?_
      refine lv_if_ne (tgt := 32) hx hb d_PV_grid_21 (by decide) (fun c4 => ?_) (fun c4 => ?_)
      · have h := h.2 c4
        refine lv_iconst (v := (-1 : Int32)) hx hb d_PV_grid_32 (by decide) ?_
        have hP : va_P G.1 CL (cw_PV G h0 q0 o0 ++ (cw_Mo G (q0 4) q1 r1 o1)) H := hP
        have hD : va_D A (cw_PV G h0 q0 o0 ++ (cw_Mo G (q0 4) q1 r1 o1)) := hD
        exact W.iret (v := (-1 : Int32)) hx hb hr (fun t ht hW => ⟨⟨(-1 : Int32), o1, rfl, h, by rw [ht]; exact hP, va_K.moved hW.alike hK, hD⟩, hS.F ht⟩) hS.2.2 d_PV_grid_33
      · have h := h.1 c4
        refine lv_iload_n hx hb d_PV_grid_24 rfl (lv_at hl 3 rfl) ?_
        refine cl_Si (b := b_PV_grid) (As := [.int a1]) (rest := []) (ws := [(h0, .inr (0, [.int (gI o0 0), .ref (q0 1), .ref (q0 2), .ref (q0 3), .ref (q0 4), .ref (q0 5), .ref (q0 6), .ref (q0 7), .ref (q0 8), .ref (q0 9), .ref (q0 10), .ref (q0 11), .ref (q0 12), .ref (q0 13)])), kQ G (q0 3) 3 (fun i => some (q0 (50 + i))), kI G (q0 6) 1000 (gA o0 6), kJ G (q0 7) 2000 (gB o0 7), kI G (q0 13) 5 (gA o0 13), ((q0 4), .inr (5, [.ref (r1 0), .int (gI o1 1), .int (gI o1 2), .ref (q1 3), .ref (q1 4), .ref (q1 5), .ref (q1 6), .ref (q1 7), .ref (q1 8), .ref (q1 9), .ref (q1 10), .int (gI o1 11), .int (gI o1 12)])), kI G (q1 3) 20 (gA o1 3), kI G (q1 4) 20 (gA o1 4), kI G (q1 5) 5 (gA o1 5), kJ G (q1 6) 5 (gB o1 6), kJ G (q1 7) 5 (gB o1 7), kJ G (q1 8) 6 (gB o1 8), kI G (q1 10) 5 (gA o1 10)]) (wr := [(h0, .inr (0, [.int (gI o0 0), .ref (q0 1), .ref (q0 2), .ref (q0 3), .ref (q0 4), .ref (q0 5), .ref (q0 6), .ref (q0 7), .ref (q0 8), .ref (q0 9), .ref (q0 10), .ref (q0 11), .ref (q0 12), .ref (q0 13)])), kQ G (q0 3) 3 (fun i => some (q0 (50 + i))), kI G (q0 6) 1000 (gA o0 6), kJ G (q0 7) 2000 (gB o0 7), kI G (q0 13) 5 (gA o0 13), ((q0 4), .inr (5, [.ref (r1 0), .int (gI o1 1), .int (gI o1 2), .ref (q1 3), .ref (q1 4), .ref (q1 5), .ref (q1 6), .ref (q1 7), .ref (q1 8), .ref (q1 9), .ref (q1 10), .int (gI o1 11), .int (gI o1 12)])), kI G (q1 3) 20 (gA o1 3), kI G (q1 4) 20 (gA o1 4), kI G (q1 5) 5 (gA o1 5), kJ G (q1 6) 5 (gB o1 6), kJ G (q1 7) 5 (gB o1 7), kJ G (q1 8) 6 (gB o1 8), kI G (q1 10) 5 (gA o1 10)]) (w2 := fun (u : Unit) => [(h0, .inr (0, [.int (gI o0 0), .ref (q0 1), .ref (q0 2), .ref (q0 3), .ref (q0 4), .ref (q0 5), .ref (q0 6), .ref (q0 7), .ref (q0 8), .ref (q0 9), .ref (q0 10), .ref (q0 11), .ref (q0 12), .ref (q0 13)])), kQ G (q0 3) 3 (fun i => some (q0 (50 + i))), kI G (q0 6) 1000 (gA o0 6), kJ G (q0 7) 2000 (gB o0 7), kI G (q0 13) 5 (gA o0 13), ((q0 4), .inr (5, [.ref (r1 0), .int (gI o1 1), .int (gI o1 2), .ref (q1 3), .ref (q1 4), .ref (q1 5), .ref (q1 6), .ref (q1 7), .ref (q1 8), .ref (q1 9), .ref (q1 10), .int (gI o1 11), .int (gI o1 12)])), kI G (q1 3) 20 (gA o1 3), kI G (q1 4) 20 (gA o1 4), kI G (q1 5) 5 (gA o1 5), kJ G (q1 6) 5 (gB o1 6), kJ G (q1 7) 5 (gB o1 7), kJ G (q1 8) 6 (gB o1 8), kI G (q1 10) 5 (gA o1 10)]) C (c_Ig_bitCount H.size h) ws_PV_253 ⟨Nat.le_of_ble_eq_true rfl, Nat.le_of_ble_eq_true rfl⟩ hP hD hS [] [0, 1, 2, 3, 4, 5, 6, 7, 8, 9, 10, 11, 12] rfl rfl (by decide) (by decide) (by decide) [0, 1, 2, 3, 4, 5, 6, 7, 8, 9, 10, 11, 12] (by decide) (fun u => rfl) rfl hl.1 rfl (lv_room (Nat.le_of_ble_eq_true rfl)) d_PV_grid_25 ⟨Nat.le_of_ble_eq_true rfl, Nat.le_of_ble_eq_true rfl⟩ rfl rfl (fun z5 u H locs h hP hD hS => ?_)
        have hP : va_P G.1 CL [(h0, .inr (0, [.int (gI o0 0), .ref (q0 1), .ref (q0 2), .ref (q0 3), .ref (q0 4), .ref (q0 5), .ref (q0 6), .ref (q0 7), .ref (q0 8), .ref (q0 9), .ref (q0 10), .ref (q0 11), .ref (q0 12), .ref (q0 13)])), kQ G (q0 3) 3 (fun i => some (q0 (50 + i))), kI G (q0 6) 1000 (gA o0 6), kJ G (q0 7) 2000 (gB o0 7), kI G (q0 13) 5 (gA o0 13), ((q0 4), .inr (5, [.ref (r1 0), .int (gI o1 1), .int (gI o1 2), .ref (q1 3), .ref (q1 4), .ref (q1 5), .ref (q1 6), .ref (q1 7), .ref (q1 8), .ref (q1 9), .ref (q1 10), .int (gI o1 11), .int (gI o1 12)])), kI G (q1 3) 20 (gA o1 3), kI G (q1 4) 20 (gA o1 4), kI G (q1 5) 5 (gA o1 5), kJ G (q1 6) 5 (gB o1 6), kJ G (q1 7) 5 (gB o1 7), kJ G (q1 8) 6 (gB o1 8), kI G (q1 10) 5 (gA o1 10)] H := hP
        have hD : va_D A [(h0, .inr (0, [.int (gI o0 0), .ref (q0 1), .ref (q0 2), .ref (q0 3), .ref (q0 4), .ref (q0 5), .ref (q0 6), .ref (q0 7), .ref (q0 8), .ref (q0 9), .ref (q0 10), .ref (q0 11), .ref (q0 12), .ref (q0 13)])), kQ G (q0 3) 3 (fun i => some (q0 (50 + i))), kI G (q0 6) 1000 (gA o0 6), kJ G (q0 7) 2000 (gB o0 7), kI G (q0 13) 5 (gA o0 13), ((q0 4), .inr (5, [.ref (r1 0), .int (gI o1 1), .int (gI o1 2), .ref (q1 3), .ref (q1 4), .ref (q1 5), .ref (q1 6), .ref (q1 7), .ref (q1 8), .ref (q1 9), .ref (q1 10), .int (gI o1 11), .int (gI o1 12)])), kI G (q1 3) 20 (gA o1 3), kI G (q1 4) 20 (gA o1 4), kI G (q1 5) 5 (gA o1 5), kJ G (q1 6) 5 (gB o1 6), kJ G (q1 7) 5 (gB o1 7), kJ G (q1 8) 6 (gB o1 8), kI G (q1 10) 5 (gA o1 10)] := hD
        refine lv_iconst (v := (4 : Int32)) hx hb d_PV_grid_28 (by decide) ?_
        refine lv_icmp_le (tgt := 34) hx hb d_PV_grid_29 (by decide) (fun c6 => ?_) (fun c6 => ?_)
        · have h := h.1 c6
          refine lv_aload_n hx hb d_PV_grid_34 rfl (lv_at hl 1 rfl) ?_
          refine va_get (D := G.1) (ci := 0) (v := .ref (q0 4)) (C := R_PV) (T := T_PV) (N := 14) hx hb hts i_PV hown hK hP 0 rfl rfl 4 (by decide) (hts _ wf_PV_50) (fun _ h9 => h9) rfl d_PV_grid_35 ?_
          refine va_get (D := G.1) (ci := 5) (v := .ref (q1 10)) (C := R_Mo) (T := T_Mo) (N := 13) hx hb hts i_Mo hown hK hP 5 rfl rfl 10 (by decide) (hts _ wf_PV_259) (fun _ h9 => h9) rfl d_PV_grid_38 ?_
          refine lv_iload_n hx hb d_PV_grid_41 rfl (lv_at hl 2 rfl) ?_
          refine lv_iload_n hx hb d_PV_grid_42 rfl (lv_at hl 3 rfl) ?_
          have g7 := h.1
          have h := h.2
          refine xa_iast hx hb hK hP hD hS 12 0 rfl rfl g7 (k := a0.toNatClampNeg) rfl d_PV_grid_43 (fun H locs hP hD hS => ?_)
          have hP : va_P G.1 CL [(h0, .inr (0, [.int (gI o0 0), .ref (q0 1), .ref (q0 2), .ref (q0 3), .ref (q0 4), .ref (q0 5), .ref (q0 6), .ref (q0 7), .ref (q0 8), .ref (q0 9), .ref (q0 10), .ref (q0 11), .ref (q0 12), .ref (q0 13)])), kQ G (q0 3) 3 (fun i => some (q0 (50 + i))), kI G (q0 6) 1000 (gA o0 6), kJ G (q0 7) 2000 (gB o0 7), kI G (q0 13) 5 (gA o0 13), ((q0 4), .inr (5, [.ref (r1 0), .int (gI o1 1), .int (gI o1 2), .ref (q1 3), .ref (q1 4), .ref (q1 5), .ref (q1 6), .ref (q1 7), .ref (q1 8), .ref (q1 9), .ref (q1 10), .int (gI o1 11), .int (gI o1 12)])), kI G (q1 3) 20 (gA o1 3), kI G (q1 4) 20 (gA o1 4), kI G (q1 5) 5 (gA o1 5), kJ G (q1 6) 5 (gB o1 6), kJ G (q1 7) 5 (gB o1 7), kJ G (q1 8) 6 (gB o1 8), kI G (q1 10) 5 (upd (gA o1 10) a0.toNatClampNeg a1)] H := hP
          have hD : va_D A [(h0, .inr (0, [.int (gI o0 0), .ref (q0 1), .ref (q0 2), .ref (q0 3), .ref (q0 4), .ref (q0 5), .ref (q0 6), .ref (q0 7), .ref (q0 8), .ref (q0 9), .ref (q0 10), .ref (q0 11), .ref (q0 12), .ref (q0 13)])), kQ G (q0 3) 3 (fun i => some (q0 (50 + i))), kI G (q0 6) 1000 (gA o0 6), kJ G (q0 7) 2000 (gB o0 7), kI G (q0 13) 5 (gA o0 13), ((q0 4), .inr (5, [.ref (r1 0), .int (gI o1 1), .int (gI o1 2), .ref (q1 3), .ref (q1 4), .ref (q1 5), .ref (q1 6), .ref (q1 7), .ref (q1 8), .ref (q1 9), .ref (q1 10), .int (gI o1 11), .int (gI o1 12)])), kI G (q1 3) 20 (gA o1 3), kI G (q1 4) 20 (gA o1 4), kI G (q1 5) 5 (gA o1 5), kJ G (q1 6) 5 (gB o1 6), kJ G (q1 7) 5 (gB o1 7), kJ G (q1 8) 6 (gB o1 8), kI G (q1 10) 5 (upd (gA o1 10) a0.toNatClampNeg a1)] := hD
          refine lv_aload_n hx hb d_PV_grid_44 rfl (lv_at hl 1 rfl) ?_
          refine cl_Vi (b := b_PV_grid) (As := []) (rest := []) (ws := [(h0, .inr (0, [.int (gI o0 0), .ref (q0 1), .ref (q0 2), .ref (q0 3), .ref (q0 4), .ref (q0 5), .ref (q0 6), .ref (q0 7), .ref (q0 8), .ref (q0 9), .ref (q0 10), .ref (q0 11), .ref (q0 12), .ref (q0 13)])), kQ G (q0 3) 3 (fun i => some (q0 (50 + i))), kI G (q0 6) 1000 (gA o0 6), kJ G (q0 7) 2000 (gB o0 7), kI G (q0 13) 5 (gA o0 13), ((q0 4), .inr (5, [.ref (r1 0), .int (gI o1 1), .int (gI o1 2), .ref (q1 3), .ref (q1 4), .ref (q1 5), .ref (q1 6), .ref (q1 7), .ref (q1 8), .ref (q1 9), .ref (q1 10), .int (gI o1 11), .int (gI o1 12)])), kI G (q1 3) 20 (gA o1 3), kI G (q1 4) 20 (gA o1 4), kI G (q1 5) 5 (gA o1 5), kJ G (q1 6) 5 (gB o1 6), kJ G (q1 7) 5 (gB o1 7), kJ G (q1 8) 6 (gB o1 8), kI G (q1 10) 5 (upd (gA o1 10) a0.toNatClampNeg a1)]) (wr := []) (w2 := fun (u : Unit) => [(h0, .inr (0, [.int (gI o0 0), .ref (q0 1), .ref (q0 2), .ref (q0 3), .ref (q0 4), .ref (q0 5), .ref (q0 6), .ref (q0 7), .ref (q0 8), .ref (q0 9), .ref (q0 10), .ref (q0 11), .ref (q0 12), .ref (q0 13)])), kQ G (q0 3) 3 (fun i => some (q0 (50 + i))), kI G (q0 6) 1000 (gA o0 6), kJ G (q0 7) 2000 (gB o0 7), kI G (q0 13) 5 (gA o0 13), ((q0 4), .inr (5, [.ref (r1 0), .int (gI o1 1), .int (gI o1 2), .ref (q1 3), .ref (q1 4), .ref (q1 5), .ref (q1 6), .ref (q1 7), .ref (q1 8), .ref (q1 9), .ref (q1 10), .int (gI o1 11), .int (gI o1 12)])), kI G (q1 3) 20 (gA o1 3), kI G (q1 4) 20 (gA o1 4), kI G (q1 5) 5 (gA o1 5), kJ G (q1 6) 5 (gB o1 6), kJ G (q1 7) 5 (gB o1 7), kJ G (q1 8) 6 (gB o1 8), kI G (q1 10) 5 (upd (gA o1 10) a0.toNatClampNeg a1)]) C (c_PV_countShapes (h0 := h0) (q0 := q0) (q1 := q1) H.size h) wv_PV_262 ⟨Nat.le_of_ble_eq_true rfl, Nat.le_of_ble_eq_true rfl⟩ hP hD hS 0 rfl rfl [0, 1, 2, 3, 4, 5, 6, 7, 8, 9, 10, 11, 12] [] rfl rfl (by decide) (by decide) (by decide) [0, 1, 2, 3, 4, 5, 6, 7, 8, 9, 10, 11, 12] (by decide) (fun u => rfl) rfl hl.1 rfl (lv_room (Nat.le_of_ble_eq_true rfl)) d_PV_grid_45 ⟨Nat.le_of_ble_eq_true rfl, Nat.le_of_ble_eq_true rfl⟩ rfl rfl (fun z8 u H locs h hP hD hS => ?_)
          have hP : va_P G.1 CL [(h0, .inr (0, [.int (gI o0 0), .ref (q0 1), .ref (q0 2), .ref (q0 3), .ref (q0 4), .ref (q0 5), .ref (q0 6), .ref (q0 7), .ref (q0 8), .ref (q0 9), .ref (q0 10), .ref (q0 11), .ref (q0 12), .ref (q0 13)])), kQ G (q0 3) 3 (fun i => some (q0 (50 + i))), kI G (q0 6) 1000 (gA o0 6), kJ G (q0 7) 2000 (gB o0 7), kI G (q0 13) 5 (gA o0 13), ((q0 4), .inr (5, [.ref (r1 0), .int (gI o1 1), .int (gI o1 2), .ref (q1 3), .ref (q1 4), .ref (q1 5), .ref (q1 6), .ref (q1 7), .ref (q1 8), .ref (q1 9), .ref (q1 10), .int (gI o1 11), .int (gI o1 12)])), kI G (q1 3) 20 (gA o1 3), kI G (q1 4) 20 (gA o1 4), kI G (q1 5) 5 (gA o1 5), kJ G (q1 6) 5 (gB o1 6), kJ G (q1 7) 5 (gB o1 7), kJ G (q1 8) 6 (gB o1 8), kI G (q1 10) 5 (upd (gA o1 10) a0.toNatClampNeg a1)] H := hP
          have hD : va_D A [(h0, .inr (0, [.int (gI o0 0), .ref (q0 1), .ref (q0 2), .ref (q0 3), .ref (q0 4), .ref (q0 5), .ref (q0 6), .ref (q0 7), .ref (q0 8), .ref (q0 9), .ref (q0 10), .ref (q0 11), .ref (q0 12), .ref (q0 13)])), kQ G (q0 3) 3 (fun i => some (q0 (50 + i))), kI G (q0 6) 1000 (gA o0 6), kJ G (q0 7) 2000 (gB o0 7), kI G (q0 13) 5 (gA o0 13), ((q0 4), .inr (5, [.ref (r1 0), .int (gI o1 1), .int (gI o1 2), .ref (q1 3), .ref (q1 4), .ref (q1 5), .ref (q1 6), .ref (q1 7), .ref (q1 8), .ref (q1 9), .ref (q1 10), .int (gI o1 11), .int (gI o1 12)])), kI G (q1 3) 20 (gA o1 3), kI G (q1 4) 20 (gA o1 4), kI G (q1 5) 5 (gA o1 5), kJ G (q1 6) 5 (gB o1 6), kJ G (q1 7) 5 (gB o1 7), kJ G (q1 8) 6 (gB o1 8), kI G (q1 10) 5 (upd (gA o1 10) a0.toNatClampNeg a1)] := hD
          have hP : va_P G.1 CL (cw_PV G h0 q0 o0 ++ (cw_Mo G (q0 4) q1 r1 (sA o1 10 (upd (gA o1 10) a0.toNatClampNeg a1)))) H := hP
          have hD : va_D A (cw_PV G h0 q0 o0 ++ (cw_Mo G (q0 4) q1 r1 (sA o1 10 (upd (gA o1 10) a0.toNatClampNeg a1)))) := hD
          exact W.iret (v := z8) hx hb hr (fun t ht hW => ⟨⟨z8, (sA o1 10 (upd (gA o1 10) a0.toNatClampNeg a1)), rfl, h, by rw [ht]; exact hP, va_K.moved hW.alike hK, hD⟩, hS.F ht⟩) hS.2.2 d_PV_grid_48
        · have h := h.2 c6
          refine lv_iconst (v := (-1 : Int32)) hx hb d_PV_grid_32 (by decide) ?_
          have hP : va_P G.1 CL (cw_PV G h0 q0 o0 ++ (cw_Mo G (q0 4) q1 r1 o1)) H := hP
          have hD : va_D A (cw_PV G h0 q0 o0 ++ (cw_Mo G (q0 4) q1 r1 o1)) := hD
          exact W.iret (v := (-1 : Int32)) hx hb hr (fun t ht hW => ⟨⟨(-1 : Int32), o1, rfl, h, by rw [ht]; exact hP, va_K.moved hW.alike hK, hD⟩, hS.F ht⟩) hS.2.2 d_PV_grid_33
abbrev b_PV_hear : ByteArray := prog_1_method_22_code
def y_PV_hear : MethodName := ⟨R_PV, "hear", "(IIII)I"⟩
abbrev w_PV_hear : List Cond := Cond.code y_PV_hear b_PV_hear 5 (some .int) :: gw_tbl
theorem d_PV_hear_0 : decode b_PV_hear 0 = .ok (.iload_n 1, 1) := by decide +kernel
theorem d_PV_hear_1 : decode b_PV_hear 1 = .ok (.invokestatic 266, 3) := by decide +kernel
theorem d_PV_hear_4 : decode b_PV_hear 4 = .ok (.ifCond .eq 24, 3) := by decide +kernel
theorem d_PV_hear_7 : decode b_PV_hear 7 = .ok (.iload_n 2, 1) := by decide +kernel
theorem d_PV_hear_8 : decode b_PV_hear 8 = .ok (.ifCond .lt 20, 3) := by decide +kernel
theorem d_PV_hear_11 : decode b_PV_hear 11 = .ok (.iload_n 2, 1) := by decide +kernel
theorem d_PV_hear_12 : decode b_PV_hear 12 = .ok (.iconst 5, 1) := by decide +kernel
theorem d_PV_hear_13 : decode b_PV_hear 13 = .ok (.if_icmp .ge 15, 3) := by decide +kernel
theorem d_PV_hear_16 : decode b_PV_hear 16 = .ok (.aload_n 0, 1) := by decide +kernel
theorem d_PV_hear_17 : decode b_PV_hear 17 = .ok (.getfield 50, 3) := by decide +kernel
theorem d_PV_hear_20 : decode b_PV_hear 20 = .ok (.getfield 269, 3) := by decide +kernel
theorem d_PV_hear_23 : decode b_PV_hear 23 = .ok (.bipush 100, 2) := by decide +kernel
theorem d_PV_hear_25 : decode b_PV_hear 25 = .ok (.if_icmp .lt 5, 3) := by decide +kernel
theorem d_PV_hear_28 : decode b_PV_hear 28 = .ok (.iconst (-1), 1) := by decide +kernel
theorem d_PV_hear_29 : decode b_PV_hear 29 = .ok (.ireturn, 1) := by decide +kernel
theorem d_PV_hear_30 : decode b_PV_hear 30 = .ok (.iload_n 3, 1) := by decide +kernel
theorem d_PV_hear_31 : decode b_PV_hear 31 = .ok (.bipush (-20), 2) := by decide +kernel
theorem d_PV_hear_33 : decode b_PV_hear 33 = .ok (.if_icmp .lt 16, 3) := by decide +kernel
theorem d_PV_hear_36 : decode b_PV_hear 36 = .ok (.iload 4, 2) := by decide +kernel
theorem d_PV_hear_38 : decode b_PV_hear 38 = .ok (.bipush 20, 2) := by decide +kernel
theorem d_PV_hear_40 : decode b_PV_hear 40 = .ok (.if_icmp .ge 9, 3) := by decide +kernel
theorem d_PV_hear_43 : decode b_PV_hear 43 = .ok (.iload_n 3, 1) := by decide +kernel
theorem d_PV_hear_44 : decode b_PV_hear 44 = .ok (.iload 4, 2) := by decide +kernel
theorem d_PV_hear_46 : decode b_PV_hear 46 = .ok (.if_icmp .le 5, 3) := by decide +kernel
theorem d_PV_hear_49 : decode b_PV_hear 49 = .ok (.iconst (-1), 1) := by decide +kernel
theorem d_PV_hear_50 : decode b_PV_hear 50 = .ok (.ireturn, 1) := by decide +kernel
theorem d_PV_hear_51 : decode b_PV_hear 51 = .ok (.aload_n 0, 1) := by decide +kernel
theorem d_PV_hear_52 : decode b_PV_hear 52 = .ok (.getfield 68, 3) := by decide +kernel
theorem d_PV_hear_55 : decode b_PV_hear 55 = .ok (.aload_n 0, 1) := by decide +kernel
theorem d_PV_hear_56 : decode b_PV_hear 56 = .ok (.getfield 50, 3) := by decide +kernel
theorem d_PV_hear_59 : decode b_PV_hear 59 = .ok (.getfield 269, 3) := by decide +kernel
theorem d_PV_hear_62 : decode b_PV_hear 62 = .ok (.iload_n 1, 1) := by decide +kernel
theorem d_PV_hear_63 : decode b_PV_hear 63 = .ok (.iconst 5, 1) := by decide +kernel
theorem d_PV_hear_64 : decode b_PV_hear 64 = .ok (.imul, 1) := by decide +kernel
theorem d_PV_hear_65 : decode b_PV_hear 65 = .ok (.iload_n 2, 1) := by decide +kernel
theorem d_PV_hear_66 : decode b_PV_hear 66 = .ok (.iadd, 1) := by decide +kernel
theorem d_PV_hear_67 : decode b_PV_hear 67 = .ok (.iload_n 3, 1) := by decide +kernel
theorem d_PV_hear_68 : decode b_PV_hear 68 = .ok (.iload 4, 2) := by decide +kernel
theorem d_PV_hear_70 : decode b_PV_hear 70 = .ok (.invokevirtual 272, 3) := by decide +kernel
theorem d_PV_hear_73 : decode b_PV_hear 73 = .ok (.aload_n 0, 1) := by decide +kernel
theorem d_PV_hear_74 : decode b_PV_hear 74 = .ok (.getfield 50, 3) := by decide +kernel
theorem d_PV_hear_77 : decode b_PV_hear 77 = .ok (.dup, 1) := by decide +kernel
theorem d_PV_hear_78 : decode b_PV_hear 78 = .ok (.getfield 269, 3) := by decide +kernel
theorem d_PV_hear_81 : decode b_PV_hear 81 = .ok (.iconst 1, 1) := by decide +kernel
theorem d_PV_hear_82 : decode b_PV_hear 82 = .ok (.iadd, 1) := by decide +kernel
theorem d_PV_hear_83 : decode b_PV_hear 83 = .ok (.putfield 269, 3) := by decide +kernel
theorem d_PV_hear_86 : decode b_PV_hear 86 = .ok (.aload_n 0, 1) := by decide +kernel
theorem d_PV_hear_87 : decode b_PV_hear 87 = .ok (.getfield 50, 3) := by decide +kernel
theorem d_PV_hear_90 : decode b_PV_hear 90 = .ok (.aload_n 0, 1) := by decide +kernel
theorem d_PV_hear_91 : decode b_PV_hear 91 = .ok (.getfield 50, 3) := by decide +kernel
theorem d_PV_hear_94 : decode b_PV_hear 94 = .ok (.getfield 269, 3) := by decide +kernel
theorem d_PV_hear_97 : decode b_PV_hear 97 = .ok (.putfield 276, 3) := by decide +kernel
theorem d_PV_hear_100 : decode b_PV_hear 100 = .ok (.aload_n 0, 1) := by decide +kernel
theorem d_PV_hear_101 : decode b_PV_hear 101 = .ok (.getfield 50, 3) := by decide +kernel
theorem d_PV_hear_104 : decode b_PV_hear 104 = .ok (.getfield 269, 3) := by decide +kernel
theorem d_PV_hear_107 : decode b_PV_hear 107 = .ok (.ireturn, 1) := by decide +kernel
theorem ws_PV_266 : wS R_PV 266 y_PV_isSound b_PV_isSound 1 (some .boolean) 1 := ⟨⟨gw_tb (List.mem_of_getElem? (i := 822) (by decide +kernel)) rfl, gw_tb (List.mem_of_getElem? (i := 1) (by decide +kernel)) rfl, gw_tb (List.mem_of_getElem? (i := 824) (by decide +kernel)) rfl, by decide, by decide, by decide +kernel⟩, gw_tb (List.mem_of_getElem? (i := 823) (by decide +kernel)) rfl⟩
theorem wf_PV_269 : Cond.fieldLink R_PV 269 R_Mo "time" "I" ∈ gw_tbl := gw_tb (List.mem_of_getElem? (i := 268) (by decide +kernel)) rfl
theorem wf_PV_68 : Cond.fieldLink R_PV 68 R_PV "heard" "LPipeVoice$Heard;" ∈ gw_tbl := gw_tb (List.mem_of_getElem? (i := 446) (by decide +kernel)) rfl
theorem wv_PV_272 : wV R_PV 272 y_He_put b_He_put 5 none 4 := ⟨⟨gw_tb (List.mem_of_getElem? (i := 825) (by decide +kernel)) rfl, gw_tb (List.mem_of_getElem? (i := 8) (by decide +kernel)) rfl, gw_tb (List.mem_of_getElem? (i := 828) (by decide +kernel)) rfl, by decide, by decide, by decide +kernel⟩, gw_tb (List.mem_of_getElem? (i := 826) (by decide +kernel)) rfl, gw_tb (List.mem_of_getElem? (i := 827) (by decide +kernel)) rfl⟩
theorem wf_PV_276 : Cond.fieldLink R_PV 276 R_Mo "look" "I" ∈ gw_tbl := gw_tb (List.mem_of_getElem? (i := 271) (by decide +kernel)) rfl
def f_PV_hear (a0 : Int32) (a1 : Int32) (a2 : Int32) (a3 : Int32) (o0 : Ob) (r1 : (Nat → Nat)) (o1 : Ob) (o2 : Ob) (Q : Int32 → Ob → Ob → Prop) : Prop := f_PV_isSound a0 (fun z1 => (z1 = 0 → (Q (-1 : Int32) o1 o2)) ∧ (¬ z1 = 0 → ((a1 < 0 → (Q (-1 : Int32) o1 o2)) ∧ (¬ a1 < 0 → (((5 : Int32) ≤ a1 → (Q (-1 : Int32) o1 o2)) ∧ (¬ (5 : Int32) ≤ a1 → (((gI o1 11) < (100 : Int32) → ((a2 < (-20 : Int32) → (Q (-1 : Int32) o1 o2)) ∧ (¬ a2 < (-20 : Int32) → (((20 : Int32) ≤ a3 → (Q (-1 : Int32) o1 o2)) ∧ (¬ (20 : Int32) ≤ a3 → ((a2 ≤ a3 → (f_He_put (gI o1 11) ((a0 * (5 : Int32)) + a1) a2 a3 o2 (fun u9 => Q ((gI o1 11) + (1 : Int32)) (sI (sI o1 11 ((gI o1 11) + (1 : Int32))) 12 ((gI o1 11) + (1 : Int32))) u9))) ∧ (¬ a2 ≤ a3 → (Q (-1 : Int32) o1 o2)))))))) ∧ (¬ (gI o1 11) < (100 : Int32) → (Q (-1 : Int32) o1 o2)))))))))
abbrev rm_PV_hear : Room := { frames := 1, cells := 0, slots := 0, locals := 24 }
set_option maxHeartbeats 4000000 in
set_option maxRecDepth 100000 in
theorem c_PV_hear {l : Launch} {G : Gl} {h0 : Nat} {q0 : Nat → Nat} {q1 : Nat → Nat} {q2 : Nat → Nat} {a0 : Int32} {a1 : Int32} {a2 : Int32} {a3 : Int32} {o0 : Ob} {r1 : (Nat → Nat)} {o1 : Ob} {o2 : Ob} {Q : Int32 → Ob → Ob → Prop} (sz : Nat) (h : f_PV_hear a0 a1 a2 a3 o0 r1 o1 o2 Q) : Met l y_PV_hear w_PV_hear rm_PV_hear (PcW G [.ref h0, .int a0, .int a1, .int a2, .int a3] sz (cw_PV G h0 q0 o0 ++ (cw_Mo G (q0 4) q1 r1 o1 ++ (cw_He G (q0 8) q2 o2)))) (va_Qi (fun (r : Int32) (u : Ob × Ob) => Q r u.1 u.2) (fun (u : Ob × Ob) t => BW G (va_A (cw_PV G h0 q0 o0 ++ (cw_Mo G (q0 4) q1 r1 o1 ++ (cw_He G (q0 8) q2 o2))) sz) (cw_PV G h0 q0 o0 ++ (cw_Mo G (q0 4) q1 r1 u.1 ++ (cw_He G (q0 8) q2 u.2))) t) (va_A (cw_PV G h0 q0 o0 ++ (cw_Mo G (q0 4) q1 r1 o1 ++ (cw_He G (q0 8) q2 o2))) sz)) 0 0 (va_A (cw_PV G h0 q0 o0 ++ (cw_Mo G (q0 4) q1 r1 o1 ++ (cw_He G (q0 8) q2 o2))) sz) := by
  refine Met.ofW (cc := b_PV_hear) (maxL := 5) (ret := (some .int)) (by decide +kernel) rfl ?_
  intro p e s m args below meth c s₁ B hml hv
  obtain ⟨rfl, hsz, hP, hK, hD0, hE⟩ := hv
  have hx := B.exec
  have hb := B.bytes
  have hr := B.returns
  have hts0 := atoms_spec (ws := w_PV_hear) B.pre
  have hts : ∀ w ∈ gw_tbl, w.before ([.ref h0, .int a0, .int a1, .int a2, .int a3]).toArray s = true := fun w hw => hts0 w (List.mem_cons_of_mem _ hw)
  have hown : s.vm.findClass R_PV = some m.cls := findClass_of_methodNamed B.named
  have hlocks := B.notSynchronized
  subst hsz
  have hD := hD0.self (sz := s.heap.size)
  generalize hAe : va_A (cw_PV G h0 q0 o0 ++ (cw_Mo G (q0 4) q1 r1 o1 ++ (cw_He G (q0 8) q2 o2))) s.heap.size = A at hD hE ⊢
  have hA : ∀ q : Nat, s.heap.size ≤ q → A q := fun q h => by rw [← hAe]; exact Or.inr h
  have hS : va_S A s.heap s.heap [] := va_S.rf
  have C : Cx p s m ([.ref h0, .int a0, .int a1, .int a2, .int a3]).toArray meth c R_PV b_PV_hear 5 (some .int) G A := ⟨hx, hb, hml, hown, hr, hts, hK, hA, hlocks, hE⟩
  have hl := lv_entry ([.ref h0, .int a0, .int a1, .int a2, .int a3]) (n := 5) (Nat.le_of_ble_eq_true rfl)
  rw [lg_entry_eq]
  generalize (lg_sl ([.ref h0, .int a0, .int a1, .int a2, .int a3]) ++ List.replicate (5 - (lg_sl ([.ref h0, .int a0, .int a1, .int a2, .int a3])).length) Slot.unset).toArray = ls at hl ⊢
  have hl : lv_has ls 5 [(0, .ref h0), (1, .int a0), (2, .int a1), (3, .int a2), (4, .int a3)] := hl
  have hD : va_D A [(h0, .inr (0, [.int (gI o0 0), .ref (q0 1), .ref (q0 2), .ref (q0 3), .ref (q0 4), .ref (q0 5), .ref (q0 6), .ref (q0 7), .ref (q0 8), .ref (q0 9), .ref (q0 10), .ref (q0 11), .ref (q0 12), .ref (q0 13)])), kQ G (q0 3) 3 (fun i => some (q0 (50 + i))), kI G (q0 6) 1000 (gA o0 6), kJ G (q0 7) 2000 (gB o0 7), kI G (q0 13) 5 (gA o0 13), ((q0 4), .inr (5, [.ref (r1 0), .int (gI o1 1), .int (gI o1 2), .ref (q1 3), .ref (q1 4), .ref (q1 5), .ref (q1 6), .ref (q1 7), .ref (q1 8), .ref (q1 9), .ref (q1 10), .int (gI o1 11), .int (gI o1 12)])), kI G (q1 3) 20 (gA o1 3), kI G (q1 4) 20 (gA o1 4), kI G (q1 5) 5 (gA o1 5), kJ G (q1 6) 5 (gB o1 6), kJ G (q1 7) 5 (gB o1 7), kJ G (q1 8) 6 (gB o1 8), kI G (q1 10) 5 (gA o1 10), ((q0 8), .inr (2, [.ref (q2 0), .ref (q2 1), .ref (q2 2)])), kI G (q2 0) 100 (gA o2 0), kI G (q2 1) 100 (gA o2 1), kI G (q2 2) 100 (gA o2 2)] := hD
  unfold f_PV_hear at h
  suffices key : ∀ (H : Heap) (locs : List Loc), va_P G.1 CL [(h0, .inr (0, [.int (gI o0 0), .ref (q0 1), .ref (q0 2), .ref (q0 3), .ref (q0 4), .ref (q0 5), .ref (q0 6), .ref (q0 7), .ref (q0 8), .ref (q0 9), .ref (q0 10), .ref (q0 11), .ref (q0 12), .ref (q0 13)])), kQ G (q0 3) 3 (fun i => some (q0 (50 + i))), kI G (q0 6) 1000 (gA o0 6), kJ G (q0 7) 2000 (gB o0 7), kI G (q0 13) 5 (gA o0 13), ((q0 4), .inr (5, [.ref (r1 0), .int (gI o1 1), .int (gI o1 2), .ref (q1 3), .ref (q1 4), .ref (q1 5), .ref (q1 6), .ref (q1 7), .ref (q1 8), .ref (q1 9), .ref (q1 10), .int (gI o1 11), .int (gI o1 12)])), kI G (q1 3) 20 (gA o1 3), kI G (q1 4) 20 (gA o1 4), kI G (q1 5) 5 (gA o1 5), kJ G (q1 6) 5 (gB o1 6), kJ G (q1 7) 5 (gB o1 7), kJ G (q1 8) 6 (gB o1 8), kI G (q1 10) 5 (gA o1 10), ((q0 8), .inr (2, [.ref (q2 0), .ref (q2 1), .ref (q2 2)])), kI G (q2 0) 100 (gA o2 0), kI G (q2 1) 100 (gA o2 1), kI G (q2 2) 100 (gA o2 2)] H → va_S A s.heap H locs → W p l e rm_PV_hear s m ([.ref h0, .int a0, .int a1, .int a2, .int a3]).toArray below meth c H locs 0 0 (MQ below (va_Qi (fun (r : Int32) (u : Ob × Ob) => Q r u.1 u.2) (fun (u : Ob × Ob) t => BW G A (cw_PV G h0 q0 o0 ++ (cw_Mo G (q0 4) q1 r1 u.1 ++ (cw_He G (q0 8) q2 u.2))) t) A) ([.ref h0, .int a0, .int a1, .int a2, .int a3]).toArray s 0 0 A) (F0 m 0 ls []) from key s.heap [] hP hS
  intro H locs hP hS
  refine lv_iload_n hx hb d_PV_hear_0 rfl (lv_at hl 1 rfl) ?_
  refine cl_Si (b := b_PV_hear) (As := [.int a0]) (rest := []) (ws := [(h0, .inr (0, [.int (gI o0 0), .ref (q0 1), .ref (q0 2), .ref (q0 3), .ref (q0 4), .ref (q0 5), .ref (q0 6), .ref (q0 7), .ref (q0 8), .ref (q0 9), .ref (q0 10), .ref (q0 11), .ref (q0 12), .ref (q0 13)])), kQ G (q0 3) 3 (fun i => some (q0 (50 + i))), kI G (q0 6) 1000 (gA o0 6), kJ G (q0 7) 2000 (gB o0 7), kI G (q0 13) 5 (gA o0 13), ((q0 4), .inr (5, [.ref (r1 0), .int (gI o1 1), .int (gI o1 2), .ref (q1 3), .ref (q1 4), .ref (q1 5), .ref (q1 6), .ref (q1 7), .ref (q1 8), .ref (q1 9), .ref (q1 10), .int (gI o1 11), .int (gI o1 12)])), kI G (q1 3) 20 (gA o1 3), kI G (q1 4) 20 (gA o1 4), kI G (q1 5) 5 (gA o1 5), kJ G (q1 6) 5 (gB o1 6), kJ G (q1 7) 5 (gB o1 7), kJ G (q1 8) 6 (gB o1 8), kI G (q1 10) 5 (gA o1 10), ((q0 8), .inr (2, [.ref (q2 0), .ref (q2 1), .ref (q2 2)])), kI G (q2 0) 100 (gA o2 0), kI G (q2 1) 100 (gA o2 1), kI G (q2 2) 100 (gA o2 2)]) (wr := [(h0, .inr (0, [.int (gI o0 0), .ref (q0 1), .ref (q0 2), .ref (q0 3), .ref (q0 4), .ref (q0 5), .ref (q0 6), .ref (q0 7), .ref (q0 8), .ref (q0 9), .ref (q0 10), .ref (q0 11), .ref (q0 12), .ref (q0 13)])), kQ G (q0 3) 3 (fun i => some (q0 (50 + i))), kI G (q0 6) 1000 (gA o0 6), kJ G (q0 7) 2000 (gB o0 7), kI G (q0 13) 5 (gA o0 13), ((q0 4), .inr (5, [.ref (r1 0), .int (gI o1 1), .int (gI o1 2), .ref (q1 3), .ref (q1 4), .ref (q1 5), .ref (q1 6), .ref (q1 7), .ref (q1 8), .ref (q1 9), .ref (q1 10), .int (gI o1 11), .int (gI o1 12)])), kI G (q1 3) 20 (gA o1 3), kI G (q1 4) 20 (gA o1 4), kI G (q1 5) 5 (gA o1 5), kJ G (q1 6) 5 (gB o1 6), kJ G (q1 7) 5 (gB o1 7), kJ G (q1 8) 6 (gB o1 8), kI G (q1 10) 5 (gA o1 10), ((q0 8), .inr (2, [.ref (q2 0), .ref (q2 1), .ref (q2 2)])), kI G (q2 0) 100 (gA o2 0), kI G (q2 1) 100 (gA o2 1), kI G (q2 2) 100 (gA o2 2)]) (w2 := fun (u : Unit) => [(h0, .inr (0, [.int (gI o0 0), .ref (q0 1), .ref (q0 2), .ref (q0 3), .ref (q0 4), .ref (q0 5), .ref (q0 6), .ref (q0 7), .ref (q0 8), .ref (q0 9), .ref (q0 10), .ref (q0 11), .ref (q0 12), .ref (q0 13)])), kQ G (q0 3) 3 (fun i => some (q0 (50 + i))), kI G (q0 6) 1000 (gA o0 6), kJ G (q0 7) 2000 (gB o0 7), kI G (q0 13) 5 (gA o0 13), ((q0 4), .inr (5, [.ref (r1 0), .int (gI o1 1), .int (gI o1 2), .ref (q1 3), .ref (q1 4), .ref (q1 5), .ref (q1 6), .ref (q1 7), .ref (q1 8), .ref (q1 9), .ref (q1 10), .int (gI o1 11), .int (gI o1 12)])), kI G (q1 3) 20 (gA o1 3), kI G (q1 4) 20 (gA o1 4), kI G (q1 5) 5 (gA o1 5), kJ G (q1 6) 5 (gB o1 6), kJ G (q1 7) 5 (gB o1 7), kJ G (q1 8) 6 (gB o1 8), kI G (q1 10) 5 (gA o1 10), ((q0 8), .inr (2, [.ref (q2 0), .ref (q2 1), .ref (q2 2)])), kI G (q2 0) 100 (gA o2 0), kI G (q2 1) 100 (gA o2 1), kI G (q2 2) 100 (gA o2 2)]) C (c_PV_isSound H.size h) ws_PV_266 ⟨Nat.le_of_ble_eq_true rfl, Nat.le_of_ble_eq_true rfl⟩ hP hD hS [] [0, 1, 2, 3, 4, 5, 6, 7, 8, 9, 10, 11, 12, 13, 14, 15, 16] rfl rfl (by decide) (by decide) (by decide) [0, 1, 2, 3, 4, 5, 6, 7, 8, 9, 10, 11, 12, 13, 14, 15, 16] (by decide) (fun u => rfl) rfl hl.1 rfl (lv_room (Nat.le_of_ble_eq_true rfl)) d_PV_hear_1 ⟨Nat.le_of_ble_eq_true rfl, Nat.le_of_ble_eq_true rfl⟩ rfl rfl (fun z1 u H locs h hP hD hS => ?_)
  have hP : va_P G.1 CL [(h0, .inr (0, [.int (gI o0 0), .ref (q0 1), .ref (q0 2), .ref (q0 3), .ref (q0 4), .ref (q0 5), .ref (q0 6), .ref (q0 7), .ref (q0 8), .ref (q0 9), .ref (q0 10), .ref (q0 11), .ref (q0 12), .ref (q0 13)])), kQ G (q0 3) 3 (fun i => some (q0 (50 + i))), kI G (q0 6) 1000 (gA o0 6), kJ G (q0 7) 2000 (gB o0 7), kI G (q0 13) 5 (gA o0 13), ((q0 4), .inr (5, [.ref (r1 0), .int (gI o1 1), .int (gI o1 2), .ref (q1 3), .ref (q1 4), .ref (q1 5), .ref (q1 6), .ref (q1 7), .ref (q1 8), .ref (q1 9), .ref (q1 10), .int (gI o1 11), .int (gI o1 12)])), kI G (q1 3) 20 (gA o1 3), kI G (q1 4) 20 (gA o1 4), kI G (q1 5) 5 (gA o1 5), kJ G (q1 6) 5 (gB o1 6), kJ G (q1 7) 5 (gB o1 7), kJ G (q1 8) 6 (gB o1 8), kI G (q1 10) 5 (gA o1 10), ((q0 8), .inr (2, [.ref (q2 0), .ref (q2 1), .ref (q2 2)])), kI G (q2 0) 100 (gA o2 0), kI G (q2 1) 100 (gA o2 1), kI G (q2 2) 100 (gA o2 2)] H := hP
  have hD : va_D A [(h0, .inr (0, [.int (gI o0 0), .ref (q0 1), .ref (q0 2), .ref (q0 3), .ref (q0 4), .ref (q0 5), .ref (q0 6), .ref (q0 7), .ref (q0 8), .ref (q0 9), .ref (q0 10), .ref (q0 11), .ref (q0 12), .ref (q0 13)])), kQ G (q0 3) 3 (fun i => some (q0 (50 + i))), kI G (q0 6) 1000 (gA o0 6), kJ G (q0 7) 2000 (gB o0 7), kI G (q0 13) 5 (gA o0 13), ((q0 4), .inr (5, [.ref (r1 0), .int (gI o1 1), .int (gI o1 2), .ref (q1 3), .ref (q1 4), .ref (q1 5), .ref (q1 6), .ref (q1 7), .ref (q1 8), .ref (q1 9), .ref (q1 10), .int (gI o1 11), .int (gI o1 12)])), kI G (q1 3) 20 (gA o1 3), kI G (q1 4) 20 (gA o1 4), kI G (q1 5) 5 (gA o1 5), kJ G (q1 6) 5 (gB o1 6), kJ G (q1 7) 5 (gB o1 7), kJ G (q1 8) 6 (gB o1 8), kI G (q1 10) 5 (gA o1 10), ((q0 8), .inr (2, [.ref (q2 0), .ref (q2 1), .ref (q2 2)])), kI G (q2 0) 100 (gA o2 0), kI G (q2 1) 100 (gA o2 1), kI G (q2 2) 100 (gA o2 2)] := hD
  refine lv_if_eq (tgt := 28) hx hb d_PV_hear_4 (by decide) (fun c2 => ?_) (fun c2 => ?_)
  · have h := h.1 c2
    refine lv_iconst (v := (-1 : Int32)) hx hb d_PV_hear_28 (by decide) ?_
    have hP : va_P G.1 CL (cw_PV G h0 q0 o0 ++ (cw_Mo G (q0 4) q1 r1 o1 ++ (cw_He G (q0 8) q2 o2))) H := hP
    have hD : va_D A (cw_PV G h0 q0 o0 ++ (cw_Mo G (q0 4) q1 r1 o1 ++ (cw_He G (q0 8) q2 o2))) := hD
    exact W.iret (v := (-1 : Int32)) hx hb hr (fun t ht hW => ⟨⟨(-1 : Int32), (o1, o2), rfl, h, by rw [ht]; exact hP, va_K.moved hW.alike hK, hD⟩, hS.F ht⟩) hS.2.2 d_PV_hear_29
  · have h := h.2 c2
    refine lv_iload_n hx hb d_PV_hear_7 rfl (lv_at hl 2 rfl) ?_
    refine lv_if_lt (tgt := 28) hx hb d_PV_hear_8 (by decide) (fun c3 => ?_) (fun c3 => ?_)
    · have h := h.1 c3
      refine lv_iconst (v := (-1 : Int32)) hx hb d_PV_hear_28 (by decide) ?_
      have hP : va_P G.1 CL (cw_PV G h0 q0 o0 ++ (cw_Mo G (q0 4) q1 r1 o1 ++ (cw_He G (q0 8) q2 o2))) H := hP
      have hD : va_D A (cw_PV G h0 q0 o0 ++ (cw_Mo G (q0 4) q1 r1 o1 ++ (cw_He G (q0 8) q2 o2))) := hD
      exact W.iret (v := (-1 : Int32)) hx hb hr (fun t ht hW => ⟨⟨(-1 : Int32), (o1, o2), rfl, h, by rw [ht]; exact hP, va_K.moved hW.alike hK, hD⟩, hS.F ht⟩) hS.2.2 d_PV_hear_29
    · have h := h.2 c3
      refine lv_iload_n hx hb d_PV_hear_11 rfl (lv_at hl 2 rfl) ?_
      refine lv_iconst (v := (5 : Int32)) hx hb d_PV_hear_12 (by decide) ?_
      refine lv_icmp_ge (tgt := 28) hx hb d_PV_hear_13 (by decide) (fun c4 => ?_) (fun c4 => ?_)
      · have h := h.1 c4
        refine lv_iconst (v := (-1 : Int32)) hx hb d_PV_hear_28 (by decide) ?_
        have hP : va_P G.1 CL (cw_PV G h0 q0 o0 ++ (cw_Mo G (q0 4) q1 r1 o1 ++ (cw_He G (q0 8) q2 o2))) H := hP
        have hD : va_D A (cw_PV G h0 q0 o0 ++ (cw_Mo G (q0 4) q1 r1 o1 ++ (cw_He G (q0 8) q2 o2))) := hD
        exact W.iret (v := (-1 : Int32)) hx hb hr (fun t ht hW => ⟨⟨(-1 : Int32), (o1, o2), rfl, h, by rw [ht]; exact hP, va_K.moved hW.alike hK, hD⟩, hS.F ht⟩) hS.2.2 d_PV_hear_29
      · have h := h.2 c4
        refine lv_aload_n hx hb d_PV_hear_16 rfl (lv_at hl 0 rfl) ?_
        refine va_get (D := G.1) (ci := 0) (v := .ref (q0 4)) (C := R_PV) (T := T_PV) (N := 14) hx hb hts i_PV hown hK hP 0 rfl rfl 4 (by decide) (hts _ wf_PV_50) (fun _ h9 => h9) rfl d_PV_hear_17 ?_
        refine va_get (D := G.1) (ci := 5) (v := .int (gI o1 11)) (C := R_Mo) (T := T_Mo) (N := 13) hx hb hts i_Mo hown hK hP 5 rfl rfl 11 (by decide) (hts _ wf_PV_269) (fun _ h9 => h9) rfl d_PV_hear_20 ?_
        refine lv_bipush (v := (100 : Int32)) hx hb d_PV_hear_23 (by decide) ?_
        refine lv_icmp_lt (tgt := 30) hx hb d_PV_hear_25 (by decide) (fun c5 => ?_) (fun c5 => ?_)
        · have h := h.1 c5
          refine lv_iload_n hx hb d_PV_hear_30 rfl (lv_at hl 3 rfl) ?_
          refine lv_bipush (v := (-20 : Int32)) hx hb d_PV_hear_31 (by decide) ?_
          refine lv_icmp_lt (tgt := 49) hx hb d_PV_hear_33 (by decide) (fun c6 => ?_) (fun c6 => ?_)
          · have h := h.1 c6
            refine lv_iconst (v := (-1 : Int32)) hx hb d_PV_hear_49 (by decide) ?_
            have hP : va_P G.1 CL (cw_PV G h0 q0 o0 ++ (cw_Mo G (q0 4) q1 r1 o1 ++ (cw_He G (q0 8) q2 o2))) H := hP
            have hD : va_D A (cw_PV G h0 q0 o0 ++ (cw_Mo G (q0 4) q1 r1 o1 ++ (cw_He G (q0 8) q2 o2))) := hD
            exact W.iret (v := (-1 : Int32)) hx hb hr (fun t ht hW => ⟨⟨(-1 : Int32), (o1, o2), rfl, h, by rw [ht]; exact hP, va_K.moved hW.alike hK, hD⟩, hS.F ht⟩) hS.2.2 d_PV_hear_50
          · have h := h.2 c6
            refine lv_iload hx hb d_PV_hear_36 (lv_at hl 4 rfl) ?_
            refine lv_bipush (v := (20 : Int32)) hx hb d_PV_hear_38 (by decide) ?_
            refine lv_icmp_ge (tgt := 49) hx hb d_PV_hear_40 (by decide) (fun c7 => ?_) (fun c7 => ?_)
            · have h := h.1 c7
              refine lv_iconst (v := (-1 : Int32)) hx hb d_PV_hear_49 (by decide) ?_
              have hP : va_P G.1 CL (cw_PV G h0 q0 o0 ++ (cw_Mo G (q0 4) q1 r1 o1 ++ (cw_He G (q0 8) q2 o2))) H := hP
              have hD : va_D A (cw_PV G h0 q0 o0 ++ (cw_Mo G (q0 4) q1 r1 o1 ++ (cw_He G (q0 8) q2 o2))) := hD
              exact W.iret (v := (-1 : Int32)) hx hb hr (fun t ht hW => ⟨⟨(-1 : Int32), (o1, o2), rfl, h, by rw [ht]; exact hP, va_K.moved hW.alike hK, hD⟩, hS.F ht⟩) hS.2.2 d_PV_hear_50
            · have h := h.2 c7
              refine lv_iload_n hx hb d_PV_hear_43 rfl (lv_at hl 3 rfl) ?_
              refine lv_iload hx hb d_PV_hear_44 (lv_at hl 4 rfl) ?_
              refine lv_icmp_le (tgt := 51) hx hb d_PV_hear_46 (by decide) (fun c8 => ?_) (fun c8 => ?_)
              · have h := h.1 c8
                refine lv_aload_n hx hb d_PV_hear_51 rfl (lv_at hl 0 rfl) ?_
                refine va_get (D := G.1) (ci := 0) (v := .ref (q0 8)) (C := R_PV) (T := T_PV) (N := 14) hx hb hts i_PV hown hK hP 0 rfl rfl 8 (by decide) (hts _ wf_PV_68) (fun _ h9 => h9) rfl d_PV_hear_52 ?_
                refine lv_aload_n hx hb d_PV_hear_55 rfl (lv_at hl 0 rfl) ?_
                refine va_get (D := G.1) (ci := 0) (v := .ref (q0 4)) (C := R_PV) (T := T_PV) (N := 14) hx hb hts i_PV hown hK hP 0 rfl rfl 4 (by decide) (hts _ wf_PV_50) (fun _ h9 => h9) rfl d_PV_hear_56 ?_
                refine va_get (D := G.1) (ci := 5) (v := .int (gI o1 11)) (C := R_Mo) (T := T_Mo) (N := 13) hx hb hts i_Mo hown hK hP 5 rfl rfl 11 (by decide) (hts _ wf_PV_269) (fun _ h9 => h9) rfl d_PV_hear_59 ?_
                refine lv_iload_n hx hb d_PV_hear_62 rfl (lv_at hl 1 rfl) ?_
                refine lv_iconst (v := (5 : Int32)) hx hb d_PV_hear_63 (by decide) ?_
                refine lv_imul hx hb d_PV_hear_64 ?_
                refine lv_iload_n hx hb d_PV_hear_65 rfl (lv_at hl 2 rfl) ?_
                refine lv_iadd hx hb d_PV_hear_66 ?_
                refine lv_iload_n hx hb d_PV_hear_67 rfl (lv_at hl 3 rfl) ?_
                refine lv_iload hx hb d_PV_hear_68 (lv_at hl 4 rfl) ?_
                refine cl_Vv (b := b_PV_hear) (As := [.int (gI o1 11), .int ((a0 * (5 : Int32)) + a1), .int a2, .int a3]) (rest := []) (ws := [(h0, .inr (0, [.int (gI o0 0), .ref (q0 1), .ref (q0 2), .ref (q0 3), .ref (q0 4), .ref (q0 5), .ref (q0 6), .ref (q0 7), .ref (q0 8), .ref (q0 9), .ref (q0 10), .ref (q0 11), .ref (q0 12), .ref (q0 13)])), kQ G (q0 3) 3 (fun i => some (q0 (50 + i))), kI G (q0 6) 1000 (gA o0 6), kJ G (q0 7) 2000 (gB o0 7), kI G (q0 13) 5 (gA o0 13), ((q0 4), .inr (5, [.ref (r1 0), .int (gI o1 1), .int (gI o1 2), .ref (q1 3), .ref (q1 4), .ref (q1 5), .ref (q1 6), .ref (q1 7), .ref (q1 8), .ref (q1 9), .ref (q1 10), .int (gI o1 11), .int (gI o1 12)])), kI G (q1 3) 20 (gA o1 3), kI G (q1 4) 20 (gA o1 4), kI G (q1 5) 5 (gA o1 5), kJ G (q1 6) 5 (gB o1 6), kJ G (q1 7) 5 (gB o1 7), kJ G (q1 8) 6 (gB o1 8), kI G (q1 10) 5 (gA o1 10), ((q0 8), .inr (2, [.ref (q2 0), .ref (q2 1), .ref (q2 2)])), kI G (q2 0) 100 (gA o2 0), kI G (q2 1) 100 (gA o2 1), kI G (q2 2) 100 (gA o2 2)]) (wr := [(h0, .inr (0, [.int (gI o0 0), .ref (q0 1), .ref (q0 2), .ref (q0 3), .ref (q0 4), .ref (q0 5), .ref (q0 6), .ref (q0 7), .ref (q0 8), .ref (q0 9), .ref (q0 10), .ref (q0 11), .ref (q0 12), .ref (q0 13)])), kQ G (q0 3) 3 (fun i => some (q0 (50 + i))), kI G (q0 6) 1000 (gA o0 6), kJ G (q0 7) 2000 (gB o0 7), kI G (q0 13) 5 (gA o0 13), ((q0 4), .inr (5, [.ref (r1 0), .int (gI o1 1), .int (gI o1 2), .ref (q1 3), .ref (q1 4), .ref (q1 5), .ref (q1 6), .ref (q1 7), .ref (q1 8), .ref (q1 9), .ref (q1 10), .int (gI o1 11), .int (gI o1 12)])), kI G (q1 3) 20 (gA o1 3), kI G (q1 4) 20 (gA o1 4), kI G (q1 5) 5 (gA o1 5), kJ G (q1 6) 5 (gB o1 6), kJ G (q1 7) 5 (gB o1 7), kJ G (q1 8) 6 (gB o1 8), kI G (q1 10) 5 (gA o1 10)]) (w2 := fun (u : Ob) => [(h0, .inr (0, [.int (gI o0 0), .ref (q0 1), .ref (q0 2), .ref (q0 3), .ref (q0 4), .ref (q0 5), .ref (q0 6), .ref (q0 7), .ref (q0 8), .ref (q0 9), .ref (q0 10), .ref (q0 11), .ref (q0 12), .ref (q0 13)])), kQ G (q0 3) 3 (fun i => some (q0 (50 + i))), kI G (q0 6) 1000 (gA o0 6), kJ G (q0 7) 2000 (gB o0 7), kI G (q0 13) 5 (gA o0 13), ((q0 4), .inr (5, [.ref (r1 0), .int (gI o1 1), .int (gI o1 2), .ref (q1 3), .ref (q1 4), .ref (q1 5), .ref (q1 6), .ref (q1 7), .ref (q1 8), .ref (q1 9), .ref (q1 10), .int (gI o1 11), .int (gI o1 12)])), kI G (q1 3) 20 (gA o1 3), kI G (q1 4) 20 (gA o1 4), kI G (q1 5) 5 (gA o1 5), kJ G (q1 6) 5 (gB o1 6), kJ G (q1 7) 5 (gB o1 7), kJ G (q1 8) 6 (gB o1 8), kI G (q1 10) 5 (gA o1 10), ((q0 8), .inr (2, [.ref (q2 0), .ref (q2 1), .ref (q2 2)])), kI G (q2 0) 100 (gA u 0), kI G (q2 1) 100 (gA u 1), kI G (q2 2) 100 (gA u 2)]) C (c_He_put (h0 := (q0 8)) (q0 := q2) H.size h) wv_PV_272 ⟨Nat.le_of_ble_eq_true rfl, Nat.le_of_ble_eq_true rfl⟩ hP hD hS 13 rfl rfl [13, 14, 15, 16] [0, 1, 2, 3, 4, 5, 6, 7, 8, 9, 10, 11, 12] rfl rfl (by decide) (by decide) (by decide) [0, 1, 2, 3, 4, 5, 6, 7, 8, 9, 10, 11, 12, 13, 14, 15, 16] (by decide) (fun u => rfl) rfl hl.1 rfl (lv_room (Nat.le_of_ble_eq_true rfl)) d_PV_hear_70 ⟨Nat.le_of_ble_eq_true rfl, Nat.le_of_ble_eq_true rfl⟩ rfl rfl (fun u H locs h hP hD hS => ?_)
                generalize u = u9 at h hP hD
                have hP : va_P G.1 CL [(h0, .inr (0, [.int (gI o0 0), .ref (q0 1), .ref (q0 2), .ref (q0 3), .ref (q0 4), .ref (q0 5), .ref (q0 6), .ref (q0 7), .ref (q0 8), .ref (q0 9), .ref (q0 10), .ref (q0 11), .ref (q0 12), .ref (q0 13)])), kQ G (q0 3) 3 (fun i => some (q0 (50 + i))), kI G (q0 6) 1000 (gA o0 6), kJ G (q0 7) 2000 (gB o0 7), kI G (q0 13) 5 (gA o0 13), ((q0 4), .inr (5, [.ref (r1 0), .int (gI o1 1), .int (gI o1 2), .ref (q1 3), .ref (q1 4), .ref (q1 5), .ref (q1 6), .ref (q1 7), .ref (q1 8), .ref (q1 9), .ref (q1 10), .int (gI o1 11), .int (gI o1 12)])), kI G (q1 3) 20 (gA o1 3), kI G (q1 4) 20 (gA o1 4), kI G (q1 5) 5 (gA o1 5), kJ G (q1 6) 5 (gB o1 6), kJ G (q1 7) 5 (gB o1 7), kJ G (q1 8) 6 (gB o1 8), kI G (q1 10) 5 (gA o1 10), ((q0 8), .inr (2, [.ref (q2 0), .ref (q2 1), .ref (q2 2)])), kI G (q2 0) 100 (gA u9 0), kI G (q2 1) 100 (gA u9 1), kI G (q2 2) 100 (gA u9 2)] H := hP
                have hD : va_D A [(h0, .inr (0, [.int (gI o0 0), .ref (q0 1), .ref (q0 2), .ref (q0 3), .ref (q0 4), .ref (q0 5), .ref (q0 6), .ref (q0 7), .ref (q0 8), .ref (q0 9), .ref (q0 10), .ref (q0 11), .ref (q0 12), .ref (q0 13)])), kQ G (q0 3) 3 (fun i => some (q0 (50 + i))), kI G (q0 6) 1000 (gA o0 6), kJ G (q0 7) 2000 (gB o0 7), kI G (q0 13) 5 (gA o0 13), ((q0 4), .inr (5, [.ref (r1 0), .int (gI o1 1), .int (gI o1 2), .ref (q1 3), .ref (q1 4), .ref (q1 5), .ref (q1 6), .ref (q1 7), .ref (q1 8), .ref (q1 9), .ref (q1 10), .int (gI o1 11), .int (gI o1 12)])), kI G (q1 3) 20 (gA o1 3), kI G (q1 4) 20 (gA o1 4), kI G (q1 5) 5 (gA o1 5), kJ G (q1 6) 5 (gB o1 6), kJ G (q1 7) 5 (gB o1 7), kJ G (q1 8) 6 (gB o1 8), kI G (q1 10) 5 (gA o1 10), ((q0 8), .inr (2, [.ref (q2 0), .ref (q2 1), .ref (q2 2)])), kI G (q2 0) 100 (gA u9 0), kI G (q2 1) 100 (gA u9 1), kI G (q2 2) 100 (gA u9 2)] := hD
                refine lv_aload_n hx hb d_PV_hear_73 rfl (lv_at hl 0 rfl) ?_
                refine va_get (D := G.1) (ci := 0) (v := .ref (q0 4)) (C := R_PV) (T := T_PV) (N := 14) hx hb hts i_PV hown hK hP 0 rfl rfl 4 (by decide) (hts _ wf_PV_50) (fun _ h9 => h9) rfl d_PV_hear_74 ?_
                refine lv_dup hx hb d_PV_hear_77 rfl ?_
                refine va_get (D := G.1) (ci := 5) (v := .int (gI o1 11)) (C := R_Mo) (T := T_Mo) (N := 13) hx hb hts i_Mo hown hK hP 5 rfl rfl 11 (by decide) (hts _ wf_PV_269) (fun _ h9 => h9) rfl d_PV_hear_78 ?_
                refine lv_iconst (v := (1 : Int32)) hx hb d_PV_hear_81 (by decide) ?_
                refine lv_iadd hx hb d_PV_hear_82 ?_
                refine va_put (D := G.1) (ci := 5) (v := .int ((gI o1 11) + (1 : Int32))) (ty := .int) (C := R_Mo) (T := T_Mo) (N := 13) hx hb hts i_Mo ty_Mo ty_Mo_ok nm_Mo hown hK hP hD hS 5 rfl rfl 11 (by decide) (hts _ wf_PV_269) (fun _ h9 => h9) rfl (ty_Mo_ok 11 (by decide)) rfl rfl (Nat.le_of_ble_eq_true rfl) d_PV_hear_83 (fun H locs hP hD hS => ?_)
                have hP : va_P G.1 CL [(h0, .inr (0, [.int (gI o0 0), .ref (q0 1), .ref (q0 2), .ref (q0 3), .ref (q0 4), .ref (q0 5), .ref (q0 6), .ref (q0 7), .ref (q0 8), .ref (q0 9), .ref (q0 10), .ref (q0 11), .ref (q0 12), .ref (q0 13)])), kQ G (q0 3) 3 (fun i => some (q0 (50 + i))), kI G (q0 6) 1000 (gA o0 6), kJ G (q0 7) 2000 (gB o0 7), kI G (q0 13) 5 (gA o0 13), ((q0 4), .inr (5, [.ref (r1 0), .int (gI o1 1), .int (gI o1 2), .ref (q1 3), .ref (q1 4), .ref (q1 5), .ref (q1 6), .ref (q1 7), .ref (q1 8), .ref (q1 9), .ref (q1 10), .int ((gI o1 11) + (1 : Int32)), .int (gI o1 12)])), kI G (q1 3) 20 (gA o1 3), kI G (q1 4) 20 (gA o1 4), kI G (q1 5) 5 (gA o1 5), kJ G (q1 6) 5 (gB o1 6), kJ G (q1 7) 5 (gB o1 7), kJ G (q1 8) 6 (gB o1 8), kI G (q1 10) 5 (gA o1 10), ((q0 8), .inr (2, [.ref (q2 0), .ref (q2 1), .ref (q2 2)])), kI G (q2 0) 100 (gA u9 0), kI G (q2 1) 100 (gA u9 1), kI G (q2 2) 100 (gA u9 2)] H := hP
                have hD : va_D A [(h0, .inr (0, [.int (gI o0 0), .ref (q0 1), .ref (q0 2), .ref (q0 3), .ref (q0 4), .ref (q0 5), .ref (q0 6), .ref (q0 7), .ref (q0 8), .ref (q0 9), .ref (q0 10), .ref (q0 11), .ref (q0 12), .ref (q0 13)])), kQ G (q0 3) 3 (fun i => some (q0 (50 + i))), kI G (q0 6) 1000 (gA o0 6), kJ G (q0 7) 2000 (gB o0 7), kI G (q0 13) 5 (gA o0 13), ((q0 4), .inr (5, [.ref (r1 0), .int (gI o1 1), .int (gI o1 2), .ref (q1 3), .ref (q1 4), .ref (q1 5), .ref (q1 6), .ref (q1 7), .ref (q1 8), .ref (q1 9), .ref (q1 10), .int ((gI o1 11) + (1 : Int32)), .int (gI o1 12)])), kI G (q1 3) 20 (gA o1 3), kI G (q1 4) 20 (gA o1 4), kI G (q1 5) 5 (gA o1 5), kJ G (q1 6) 5 (gB o1 6), kJ G (q1 7) 5 (gB o1 7), kJ G (q1 8) 6 (gB o1 8), kI G (q1 10) 5 (gA o1 10), ((q0 8), .inr (2, [.ref (q2 0), .ref (q2 1), .ref (q2 2)])), kI G (q2 0) 100 (gA u9 0), kI G (q2 1) 100 (gA u9 1), kI G (q2 2) 100 (gA u9 2)] := hD
                refine lv_aload_n hx hb d_PV_hear_86 rfl (lv_at hl 0 rfl) ?_
                refine va_get (D := G.1) (ci := 0) (v := .ref (q0 4)) (C := R_PV) (T := T_PV) (N := 14) hx hb hts i_PV hown hK hP 0 rfl rfl 4 (by decide) (hts _ wf_PV_50) (fun _ h9 => h9) rfl d_PV_hear_87 ?_
                refine lv_aload_n hx hb d_PV_hear_90 rfl (lv_at hl 0 rfl) ?_
                refine va_get (D := G.1) (ci := 0) (v := .ref (q0 4)) (C := R_PV) (T := T_PV) (N := 14) hx hb hts i_PV hown hK hP 0 rfl rfl 4 (by decide) (hts _ wf_PV_50) (fun _ h9 => h9) rfl d_PV_hear_91 ?_
                refine va_get (D := G.1) (ci := 5) (v := .int ((gI o1 11) + (1 : Int32))) (C := R_Mo) (T := T_Mo) (N := 13) hx hb hts i_Mo hown hK hP 5 rfl rfl 11 (by decide) (hts _ wf_PV_269) (fun _ h9 => h9) rfl d_PV_hear_94 ?_
                refine va_put (D := G.1) (ci := 5) (v := .int ((gI o1 11) + (1 : Int32))) (ty := .int) (C := R_Mo) (T := T_Mo) (N := 13) hx hb hts i_Mo ty_Mo ty_Mo_ok nm_Mo hown hK hP hD hS 5 rfl rfl 12 (by decide) (hts _ wf_PV_276) (fun _ h9 => h9) rfl (ty_Mo_ok 12 (by decide)) rfl rfl (Nat.le_of_ble_eq_true rfl) d_PV_hear_97 (fun H locs hP hD hS => ?_)
                have hP : va_P G.1 CL [(h0, .inr (0, [.int (gI o0 0), .ref (q0 1), .ref (q0 2), .ref (q0 3), .ref (q0 4), .ref (q0 5), .ref (q0 6), .ref (q0 7), .ref (q0 8), .ref (q0 9), .ref (q0 10), .ref (q0 11), .ref (q0 12), .ref (q0 13)])), kQ G (q0 3) 3 (fun i => some (q0 (50 + i))), kI G (q0 6) 1000 (gA o0 6), kJ G (q0 7) 2000 (gB o0 7), kI G (q0 13) 5 (gA o0 13), ((q0 4), .inr (5, [.ref (r1 0), .int (gI o1 1), .int (gI o1 2), .ref (q1 3), .ref (q1 4), .ref (q1 5), .ref (q1 6), .ref (q1 7), .ref (q1 8), .ref (q1 9), .ref (q1 10), .int ((gI o1 11) + (1 : Int32)), .int ((gI o1 11) + (1 : Int32))])), kI G (q1 3) 20 (gA o1 3), kI G (q1 4) 20 (gA o1 4), kI G (q1 5) 5 (gA o1 5), kJ G (q1 6) 5 (gB o1 6), kJ G (q1 7) 5 (gB o1 7), kJ G (q1 8) 6 (gB o1 8), kI G (q1 10) 5 (gA o1 10), ((q0 8), .inr (2, [.ref (q2 0), .ref (q2 1), .ref (q2 2)])), kI G (q2 0) 100 (gA u9 0), kI G (q2 1) 100 (gA u9 1), kI G (q2 2) 100 (gA u9 2)] H := hP
                have hD : va_D A [(h0, .inr (0, [.int (gI o0 0), .ref (q0 1), .ref (q0 2), .ref (q0 3), .ref (q0 4), .ref (q0 5), .ref (q0 6), .ref (q0 7), .ref (q0 8), .ref (q0 9), .ref (q0 10), .ref (q0 11), .ref (q0 12), .ref (q0 13)])), kQ G (q0 3) 3 (fun i => some (q0 (50 + i))), kI G (q0 6) 1000 (gA o0 6), kJ G (q0 7) 2000 (gB o0 7), kI G (q0 13) 5 (gA o0 13), ((q0 4), .inr (5, [.ref (r1 0), .int (gI o1 1), .int (gI o1 2), .ref (q1 3), .ref (q1 4), .ref (q1 5), .ref (q1 6), .ref (q1 7), .ref (q1 8), .ref (q1 9), .ref (q1 10), .int ((gI o1 11) + (1 : Int32)), .int ((gI o1 11) + (1 : Int32))])), kI G (q1 3) 20 (gA o1 3), kI G (q1 4) 20 (gA o1 4), kI G (q1 5) 5 (gA o1 5), kJ G (q1 6) 5 (gB o1 6), kJ G (q1 7) 5 (gB o1 7), kJ G (q1 8) 6 (gB o1 8), kI G (q1 10) 5 (gA o1 10), ((q0 8), .inr (2, [.ref (q2 0), .ref (q2 1), .ref (q2 2)])), kI G (q2 0) 100 (gA u9 0), kI G (q2 1) 100 (gA u9 1), kI G (q2 2) 100 (gA u9 2)] := hD
                refine lv_aload_n hx hb d_PV_hear_100 rfl (lv_at hl 0 rfl) ?_
                refine va_get (D := G.1) (ci := 0) (v := .ref (q0 4)) (C := R_PV) (T := T_PV) (N := 14) hx hb hts i_PV hown hK hP 0 rfl rfl 4 (by decide) (hts _ wf_PV_50) (fun _ h9 => h9) rfl d_PV_hear_101 ?_
                refine va_get (D := G.1) (ci := 5) (v := .int ((gI o1 11) + (1 : Int32))) (C := R_Mo) (T := T_Mo) (N := 13) hx hb hts i_Mo hown hK hP 5 rfl rfl 11 (by decide) (hts _ wf_PV_269) (fun _ h9 => h9) rfl d_PV_hear_104 ?_
                have hP : va_P G.1 CL (cw_PV G h0 q0 o0 ++ (cw_Mo G (q0 4) q1 r1 (sI (sI o1 11 ((gI o1 11) + (1 : Int32))) 12 ((gI o1 11) + (1 : Int32))) ++ (cw_He G (q0 8) q2 u9))) H := hP
                have hD : va_D A (cw_PV G h0 q0 o0 ++ (cw_Mo G (q0 4) q1 r1 (sI (sI o1 11 ((gI o1 11) + (1 : Int32))) 12 ((gI o1 11) + (1 : Int32))) ++ (cw_He G (q0 8) q2 u9))) := hD
                exact W.iret (v := ((gI o1 11) + (1 : Int32))) hx hb hr (fun t ht hW => ⟨⟨((gI o1 11) + (1 : Int32)), ((sI (sI o1 11 ((gI o1 11) + (1 : Int32))) 12 ((gI o1 11) + (1 : Int32))), u9), rfl, h, by rw [ht]; exact hP, va_K.moved hW.alike hK, hD⟩, hS.F ht⟩) hS.2.2 d_PV_hear_107
              · have h := h.2 c8
                refine lv_iconst (v := (-1 : Int32)) hx hb d_PV_hear_49 (by decide) ?_
                have hP : va_P G.1 CL (cw_PV G h0 q0 o0 ++ (cw_Mo G (q0 4) q1 r1 o1 ++ (cw_He G (q0 8) q2 o2))) H := hP
                have hD : va_D A (cw_PV G h0 q0 o0 ++ (cw_Mo G (q0 4) q1 r1 o1 ++ (cw_He G (q0 8) q2 o2))) := hD
                exact W.iret (v := (-1 : Int32)) hx hb hr (fun t ht hW => ⟨⟨(-1 : Int32), (o1, o2), rfl, h, by rw [ht]; exact hP, va_K.moved hW.alike hK, hD⟩, hS.F ht⟩) hS.2.2 d_PV_hear_50
        · have h := h.2 c5
          refine lv_iconst (v := (-1 : Int32)) hx hb d_PV_hear_28 (by decide) ?_
          have hP : va_P G.1 CL (cw_PV G h0 q0 o0 ++ (cw_Mo G (q0 4) q1 r1 o1 ++ (cw_He G (q0 8) q2 o2))) H := hP
          have hD : va_D A (cw_PV G h0 q0 o0 ++ (cw_Mo G (q0 4) q1 r1 o1 ++ (cw_He G (q0 8) q2 o2))) := hD
          exact W.iret (v := (-1 : Int32)) hx hb hr (fun t ht hW => ⟨⟨(-1 : Int32), (o1, o2), rfl, h, by rw [ht]; exact hP, va_K.moved hW.alike hK, hD⟩, hS.F ht⟩) hS.2.2 d_PV_hear_29
abbrev b_PV_look : ByteArray := prog_1_method_23_code
def y_PV_look : MethodName := ⟨R_PV, "look", "(I)Z"⟩
abbrev w_PV_look : List Cond := Cond.code y_PV_look b_PV_look 2 (some .boolean) :: gw_tbl
theorem d_PV_look_0 : decode b_PV_look 0 = .ok (.iload_n 1, 1) := by decide +kernel
theorem d_PV_look_1 : decode b_PV_look 1 = .ok (.ifCond .lt 14, 3) := by decide +kernel
theorem d_PV_look_4 : decode b_PV_look 4 = .ok (.iload_n 1, 1) := by decide +kernel
theorem d_PV_look_5 : decode b_PV_look 5 = .ok (.aload_n 0, 1) := by decide +kernel
theorem d_PV_look_6 : decode b_PV_look 6 = .ok (.getfield 50, 3) := by decide +kernel
theorem d_PV_look_9 : decode b_PV_look 9 = .ok (.getfield 269, 3) := by decide +kernel
theorem d_PV_look_12 : decode b_PV_look 12 = .ok (.if_icmp .le 5, 3) := by decide +kernel
theorem d_PV_look_15 : decode b_PV_look 15 = .ok (.iconst 0, 1) := by decide +kernel
theorem d_PV_look_16 : decode b_PV_look 16 = .ok (.ireturn, 1) := by decide +kernel
theorem d_PV_look_17 : decode b_PV_look 17 = .ok (.aload_n 0, 1) := by decide +kernel
theorem d_PV_look_18 : decode b_PV_look 18 = .ok (.getfield 50, 3) := by decide +kernel
theorem d_PV_look_21 : decode b_PV_look 21 = .ok (.iload_n 1, 1) := by decide +kernel
theorem d_PV_look_22 : decode b_PV_look 22 = .ok (.putfield 276, 3) := by decide +kernel
theorem d_PV_look_25 : decode b_PV_look 25 = .ok (.iconst 1, 1) := by decide +kernel
theorem d_PV_look_26 : decode b_PV_look 26 = .ok (.ireturn, 1) := by decide +kernel
def f_PV_look (a0 : Int32) (o0 : Ob) (r1 : (Nat → Nat)) (o1 : Ob) (Q : Int32 → Ob → Prop) : Prop := (a0 < 0 → (Q (0 : Int32) o1)) ∧ (¬ a0 < 0 → ((a0 ≤ (gI o1 11) → (Q (1 : Int32) (sI o1 12 a0))) ∧ (¬ a0 ≤ (gI o1 11) → (Q (0 : Int32) o1))))
abbrev rm_PV_look : Room := { frames := 0, cells := 0, slots := 0, locals := 0 }
set_option maxHeartbeats 4000000 in
set_option maxRecDepth 100000 in
theorem c_PV_look {l : Launch} {G : Gl} {h0 : Nat} {q0 : Nat → Nat} {q1 : Nat → Nat} {a0 : Int32} {o0 : Ob} {r1 : (Nat → Nat)} {o1 : Ob} {Q : Int32 → Ob → Prop} (sz : Nat) (h : f_PV_look a0 o0 r1 o1 Q) : Met l y_PV_look w_PV_look rm_PV_look (PcW G [.ref h0, .int a0] sz (cw_PV G h0 q0 o0 ++ (cw_Mo G (q0 4) q1 r1 o1))) (va_Qi (fun (r : Int32) (u : Ob) => Q r u) (fun (u : Ob) t => BW G (va_A (cw_PV G h0 q0 o0 ++ (cw_Mo G (q0 4) q1 r1 o1)) sz) (cw_PV G h0 q0 o0 ++ (cw_Mo G (q0 4) q1 r1 u)) t) (va_A (cw_PV G h0 q0 o0 ++ (cw_Mo G (q0 4) q1 r1 o1)) sz)) 0 0 (va_A (cw_PV G h0 q0 o0 ++ (cw_Mo G (q0 4) q1 r1 o1)) sz) := by
  refine Met.ofW (cc := b_PV_look) (maxL := 2) (ret := (some .boolean)) (by decide +kernel) rfl ?_
  intro p e s m args below meth c s₁ B hml hv
  obtain ⟨rfl, hsz, hP, hK, hD0, hE⟩ := hv
  have hx := B.exec
  have hb := B.bytes
  have hr := B.returns
  have hts0 := atoms_spec (ws := w_PV_look) B.pre
  have hts : ∀ w ∈ gw_tbl, w.before ([.ref h0, .int a0]).toArray s = true := fun w hw => hts0 w (List.mem_cons_of_mem _ hw)
  have hown : s.vm.findClass R_PV = some m.cls := findClass_of_methodNamed B.named
  have hlocks := B.notSynchronized
  subst hsz
  have hD := hD0.self (sz := s.heap.size)
  generalize hAe : va_A (cw_PV G h0 q0 o0 ++ (cw_Mo G (q0 4) q1 r1 o1)) s.heap.size = A at hD hE ⊢
  have hA : ∀ q : Nat, s.heap.size ≤ q → A q := fun q h => by rw [← hAe]; exact Or.inr h
  have hS : va_S A s.heap s.heap [] := va_S.rf
  have C : Cx p s m ([.ref h0, .int a0]).toArray meth c R_PV b_PV_look 2 (some .boolean) G A := ⟨hx, hb, hml, hown, hr, hts, hK, hA, hlocks, hE⟩
  have hl := lv_entry ([.ref h0, .int a0]) (n := 2) (Nat.le_of_ble_eq_true rfl)
  rw [lg_entry_eq]
  generalize (lg_sl ([.ref h0, .int a0]) ++ List.replicate (2 - (lg_sl ([.ref h0, .int a0])).length) Slot.unset).toArray = ls at hl ⊢
  have hl : lv_has ls 2 [(0, .ref h0), (1, .int a0)] := hl
  have hD : va_D A [(h0, .inr (0, [.int (gI o0 0), .ref (q0 1), .ref (q0 2), .ref (q0 3), .ref (q0 4), .ref (q0 5), .ref (q0 6), .ref (q0 7), .ref (q0 8), .ref (q0 9), .ref (q0 10), .ref (q0 11), .ref (q0 12), .ref (q0 13)])), kQ G (q0 3) 3 (fun i => some (q0 (50 + i))), kI G (q0 6) 1000 (gA o0 6), kJ G (q0 7) 2000 (gB o0 7), kI G (q0 13) 5 (gA o0 13), ((q0 4), .inr (5, [.ref (r1 0), .int (gI o1 1), .int (gI o1 2), .ref (q1 3), .ref (q1 4), .ref (q1 5), .ref (q1 6), .ref (q1 7), .ref (q1 8), .ref (q1 9), .ref (q1 10), .int (gI o1 11), .int (gI o1 12)])), kI G (q1 3) 20 (gA o1 3), kI G (q1 4) 20 (gA o1 4), kI G (q1 5) 5 (gA o1 5), kJ G (q1 6) 5 (gB o1 6), kJ G (q1 7) 5 (gB o1 7), kJ G (q1 8) 6 (gB o1 8), kI G (q1 10) 5 (gA o1 10)] := hD
  unfold f_PV_look at h
  suffices key : ∀ (H : Heap) (locs : List Loc), va_P G.1 CL [(h0, .inr (0, [.int (gI o0 0), .ref (q0 1), .ref (q0 2), .ref (q0 3), .ref (q0 4), .ref (q0 5), .ref (q0 6), .ref (q0 7), .ref (q0 8), .ref (q0 9), .ref (q0 10), .ref (q0 11), .ref (q0 12), .ref (q0 13)])), kQ G (q0 3) 3 (fun i => some (q0 (50 + i))), kI G (q0 6) 1000 (gA o0 6), kJ G (q0 7) 2000 (gB o0 7), kI G (q0 13) 5 (gA o0 13), ((q0 4), .inr (5, [.ref (r1 0), .int (gI o1 1), .int (gI o1 2), .ref (q1 3), .ref (q1 4), .ref (q1 5), .ref (q1 6), .ref (q1 7), .ref (q1 8), .ref (q1 9), .ref (q1 10), .int (gI o1 11), .int (gI o1 12)])), kI G (q1 3) 20 (gA o1 3), kI G (q1 4) 20 (gA o1 4), kI G (q1 5) 5 (gA o1 5), kJ G (q1 6) 5 (gB o1 6), kJ G (q1 7) 5 (gB o1 7), kJ G (q1 8) 6 (gB o1 8), kI G (q1 10) 5 (gA o1 10)] H → va_S A s.heap H locs → W p l e rm_PV_look s m ([.ref h0, .int a0]).toArray below meth c H locs 0 0 (MQ below (va_Qi (fun (r : Int32) (u : Ob) => Q r u) (fun (u : Ob) t => BW G A (cw_PV G h0 q0 o0 ++ (cw_Mo G (q0 4) q1 r1 u)) t) A) ([.ref h0, .int a0]).toArray s 0 0 A) (F0 m 0 ls []) from key s.heap [] hP hS
  intro H locs hP hS
  refine lv_iload_n hx hb d_PV_look_0 rfl (lv_at hl 1 rfl) ?_
  refine lv_if_lt (tgt := 15) hx hb d_PV_look_1 (by decide) (fun c1 => ?_) (fun c1 => ?_)
  · have h := h.1 c1
    refine lv_iconst (v := (0 : Int32)) hx hb d_PV_look_15 (by decide) ?_
    have hP : va_P G.1 CL (cw_PV G h0 q0 o0 ++ (cw_Mo G (q0 4) q1 r1 o1)) H := hP
    have hD : va_D A (cw_PV G h0 q0 o0 ++ (cw_Mo G (q0 4) q1 r1 o1)) := hD
    exact W.zret (v := (0 : Int32)) hx hb hr rfl (fun t ht hW => ⟨⟨(0 : Int32), o1, rfl, h, by rw [ht]; exact hP, va_K.moved hW.alike hK, hD⟩, hS.F ht⟩) hS.2.2 d_PV_look_16
  · have h := h.2 c1
    refine lv_iload_n hx hb d_PV_look_4 rfl (lv_at hl 1 rfl) ?_
    refine lv_aload_n hx hb d_PV_look_5 rfl (lv_at hl 0 rfl) ?_
    refine va_get (D := G.1) (ci := 0) (v := .ref (q0 4)) (C := R_PV) (T := T_PV) (N := 14) hx hb hts i_PV hown hK hP 0 rfl rfl 4 (by decide) (hts _ wf_PV_50) (fun _ h9 => h9) rfl d_PV_look_6 ?_
    refine va_get (D := G.1) (ci := 5) (v := .int (gI o1 11)) (C := R_Mo) (T := T_Mo) (N := 13) hx hb hts i_Mo hown hK hP 5 rfl rfl 11 (by decide) (hts _ wf_PV_269) (fun _ h9 => h9) rfl d_PV_look_9 ?_
    refine lv_icmp_le (tgt := 17) hx hb d_PV_look_12 (by decide) (fun c2 => ?_) (fun c2 => ?_)
    · have h := h.1 c2
      refine lv_aload_n hx hb d_PV_look_17 rfl (lv_at hl 0 rfl) ?_
      refine va_get (D := G.1) (ci := 0) (v := .ref (q0 4)) (C := R_PV) (T := T_PV) (N := 14) hx hb hts i_PV hown hK hP 0 rfl rfl 4 (by decide) (hts _ wf_PV_50) (fun _ h9 => h9) rfl d_PV_look_18 ?_
      refine lv_iload_n hx hb d_PV_look_21 rfl (lv_at hl 1 rfl) ?_
      refine va_put (D := G.1) (ci := 5) (v := .int a0) (ty := .int) (C := R_Mo) (T := T_Mo) (N := 13) hx hb hts i_Mo ty_Mo ty_Mo_ok nm_Mo hown hK hP hD hS 5 rfl rfl 12 (by decide) (hts _ wf_PV_276) (fun _ h9 => h9) rfl (ty_Mo_ok 12 (by decide)) rfl rfl (Nat.le_of_ble_eq_true rfl) d_PV_look_22 (fun H locs hP hD hS => ?_)
      have hP : va_P G.1 CL [(h0, .inr (0, [.int (gI o0 0), .ref (q0 1), .ref (q0 2), .ref (q0 3), .ref (q0 4), .ref (q0 5), .ref (q0 6), .ref (q0 7), .ref (q0 8), .ref (q0 9), .ref (q0 10), .ref (q0 11), .ref (q0 12), .ref (q0 13)])), kQ G (q0 3) 3 (fun i => some (q0 (50 + i))), kI G (q0 6) 1000 (gA o0 6), kJ G (q0 7) 2000 (gB o0 7), kI G (q0 13) 5 (gA o0 13), ((q0 4), .inr (5, [.ref (r1 0), .int (gI o1 1), .int (gI o1 2), .ref (q1 3), .ref (q1 4), .ref (q1 5), .ref (q1 6), .ref (q1 7), .ref (q1 8), .ref (q1 9), .ref (q1 10), .int (gI o1 11), .int a0])), kI G (q1 3) 20 (gA o1 3), kI G (q1 4) 20 (gA o1 4), kI G (q1 5) 5 (gA o1 5), kJ G (q1 6) 5 (gB o1 6), kJ G (q1 7) 5 (gB o1 7), kJ G (q1 8) 6 (gB o1 8), kI G (q1 10) 5 (gA o1 10)] H := hP
      have hD : va_D A [(h0, .inr (0, [.int (gI o0 0), .ref (q0 1), .ref (q0 2), .ref (q0 3), .ref (q0 4), .ref (q0 5), .ref (q0 6), .ref (q0 7), .ref (q0 8), .ref (q0 9), .ref (q0 10), .ref (q0 11), .ref (q0 12), .ref (q0 13)])), kQ G (q0 3) 3 (fun i => some (q0 (50 + i))), kI G (q0 6) 1000 (gA o0 6), kJ G (q0 7) 2000 (gB o0 7), kI G (q0 13) 5 (gA o0 13), ((q0 4), .inr (5, [.ref (r1 0), .int (gI o1 1), .int (gI o1 2), .ref (q1 3), .ref (q1 4), .ref (q1 5), .ref (q1 6), .ref (q1 7), .ref (q1 8), .ref (q1 9), .ref (q1 10), .int (gI o1 11), .int a0])), kI G (q1 3) 20 (gA o1 3), kI G (q1 4) 20 (gA o1 4), kI G (q1 5) 5 (gA o1 5), kJ G (q1 6) 5 (gB o1 6), kJ G (q1 7) 5 (gB o1 7), kJ G (q1 8) 6 (gB o1 8), kI G (q1 10) 5 (gA o1 10)] := hD
      refine lv_iconst (v := (1 : Int32)) hx hb d_PV_look_25 (by decide) ?_
      have hP : va_P G.1 CL (cw_PV G h0 q0 o0 ++ (cw_Mo G (q0 4) q1 r1 (sI o1 12 a0))) H := hP
      have hD : va_D A (cw_PV G h0 q0 o0 ++ (cw_Mo G (q0 4) q1 r1 (sI o1 12 a0))) := hD
      exact W.zret (v := (1 : Int32)) hx hb hr rfl (fun t ht hW => ⟨⟨(1 : Int32), (sI o1 12 a0), rfl, h, by rw [ht]; exact hP, va_K.moved hW.alike hK, hD⟩, hS.F ht⟩) hS.2.2 d_PV_look_26
    · have h := h.2 c2
      refine lv_iconst (v := (0 : Int32)) hx hb d_PV_look_15 (by decide) ?_
      have hP : va_P G.1 CL (cw_PV G h0 q0 o0 ++ (cw_Mo G (q0 4) q1 r1 o1)) H := hP
      have hD : va_D A (cw_PV G h0 q0 o0 ++ (cw_Mo G (q0 4) q1 r1 o1)) := hD
      exact W.zret (v := (0 : Int32)) hx hb hr rfl (fun t ht hW => ⟨⟨(0 : Int32), o1, rfl, h, by rw [ht]; exact hP, va_K.moved hW.alike hK, hD⟩, hS.F ht⟩) hS.2.2 d_PV_look_16
abbrev b_PV_image : ByteArray := prog_1_method_28_code
def y_PV_image : MethodName := ⟨R_PV, "image", "()I"⟩
abbrev w_PV_image : List Cond := Cond.code y_PV_image b_PV_image 1 (some .int) :: gw_tbl
theorem d_PV_image_0 : decode b_PV_image 0 = .ok (.aload_n 0, 1) := by decide +kernel
theorem d_PV_image_1 : decode b_PV_image 1 = .ok (.getfield 54, 3) := by decide +kernel
theorem d_PV_image_4 : decode b_PV_image 4 = .ok (.aload_n 0, 1) := by decide +kernel
theorem d_PV_image_5 : decode b_PV_image 5 = .ok (.getfield 50, 3) := by decide +kernel
theorem d_PV_image_8 : decode b_PV_image 8 = .ok (.invokevirtual 312, 3) := by decide +kernel
theorem d_PV_image_11 : decode b_PV_image 11 = .ok (.aload_n 0, 1) := by decide +kernel
theorem d_PV_image_12 : decode b_PV_image 12 = .ok (.getfield 50, 3) := by decide +kernel
theorem d_PV_image_15 : decode b_PV_image 15 = .ok (.getfield 173, 3) := by decide +kernel
theorem d_PV_image_18 : decode b_PV_image 18 = .ok (.ireturn, 1) := by decide +kernel
theorem wf_PV_54 : Cond.fieldLink R_PV 54 R_PV "kept" "LPipeVoice$Moment;" ∈ gw_tbl := gw_tb (List.mem_of_getElem? (i := 443) (by decide +kernel)) rfl
theorem wv_PV_312 : wV R_PV 312 y_Mo_copy b_Mo_copy 2 none 1 := ⟨⟨gw_tb (List.mem_of_getElem? (i := 937) (by decide +kernel)) rfl, gw_tb (List.mem_of_getElem? (i := 6) (by decide +kernel)) rfl, gw_tb (List.mem_of_getElem? (i := 940) (by decide +kernel)) rfl, by decide, by decide, by decide +kernel⟩, gw_tb (List.mem_of_getElem? (i := 938) (by decide +kernel)) rfl, gw_tb (List.mem_of_getElem? (i := 939) (by decide +kernel)) rfl⟩
def f_PV_image (o0 : Ob) (r1 : (Nat → Nat)) (o1 : Ob) (o2 : Ob) (r3 : (Nat → Nat)) (o3 : Ob) (o4 : Ob) (Q : Int32 → (Nat → Nat) → Ob → Ob → Prop) : Prop := f_Mo_copy r3 o3 o4 r1 o1 o2 (fun u1 u2 u3 => Q (gI o1 1) u1 u2 u3)
abbrev rm_PV_image : Room := { frames := 2, cells := 0, slots := 0, locals := 81 }
set_option maxHeartbeats 4000000 in
set_option maxRecDepth 100000 in
theorem c_PV_image {l : Launch} {G : Gl} {h0 : Nat} {q0 : Nat → Nat} {q1 : Nat → Nat} {q2 : Nat → Nat} {q3 : Nat → Nat} {q4 : Nat → Nat} {o0 : Ob} {r1 : (Nat → Nat)} {o1 : Ob} {o2 : Ob} {r3 : (Nat → Nat)} {o3 : Ob} {o4 : Ob} {Q : Int32 → (Nat → Nat) → Ob → Ob → Prop} (sz : Nat) (h : f_PV_image o0 r1 o1 o2 r3 o3 o4 Q) : Met l y_PV_image w_PV_image rm_PV_image (PcW G [.ref h0] sz (cw_PV G h0 q0 o0 ++ (cw_Mo G (q0 4) q1 r1 o1 ++ (cw_Fo G (q1 9) q2 o2 ++ (cw_Mo G (q0 5) q3 r3 o3 ++ (cw_Fo G (q3 9) q4 o4)))))) (va_Qi (fun (r : Int32) (u : (Nat → Nat) × Ob × Ob) => Q r u.1 u.2.1 u.2.2) (fun (u : (Nat → Nat) × Ob × Ob) t => BW G (va_A (cw_PV G h0 q0 o0 ++ (cw_Mo G (q0 4) q1 r1 o1 ++ (cw_Fo G (q1 9) q2 o2 ++ (cw_Mo G (q0 5) q3 r3 o3 ++ (cw_Fo G (q3 9) q4 o4))))) sz) (cw_PV G h0 q0 o0 ++ (cw_Mo G (q0 4) q1 r1 o1 ++ (cw_Fo G (q1 9) q2 o2 ++ (cw_Mo G (q0 5) q3 u.1 u.2.1 ++ (cw_Fo G (q3 9) q4 u.2.2))))) t) (va_A (cw_PV G h0 q0 o0 ++ (cw_Mo G (q0 4) q1 r1 o1 ++ (cw_Fo G (q1 9) q2 o2 ++ (cw_Mo G (q0 5) q3 r3 o3 ++ (cw_Fo G (q3 9) q4 o4))))) sz)) 0 0 (va_A (cw_PV G h0 q0 o0 ++ (cw_Mo G (q0 4) q1 r1 o1 ++ (cw_Fo G (q1 9) q2 o2 ++ (cw_Mo G (q0 5) q3 r3 o3 ++ (cw_Fo G (q3 9) q4 o4))))) sz) := by
  refine Met.ofW (cc := b_PV_image) (maxL := 1) (ret := (some .int)) (by decide +kernel) rfl ?_
  intro p e s m args below meth c s₁ B hml hv
  obtain ⟨rfl, hsz, hP, hK, hD0, hE⟩ := hv
  have hx := B.exec
  have hb := B.bytes
  have hr := B.returns
  have hts0 := atoms_spec (ws := w_PV_image) B.pre
  have hts : ∀ w ∈ gw_tbl, w.before ([.ref h0]).toArray s = true := fun w hw => hts0 w (List.mem_cons_of_mem _ hw)
  have hown : s.vm.findClass R_PV = some m.cls := findClass_of_methodNamed B.named
  have hlocks := B.notSynchronized
  subst hsz
  have hD := hD0.self (sz := s.heap.size)
  generalize hAe : va_A (cw_PV G h0 q0 o0 ++ (cw_Mo G (q0 4) q1 r1 o1 ++ (cw_Fo G (q1 9) q2 o2 ++ (cw_Mo G (q0 5) q3 r3 o3 ++ (cw_Fo G (q3 9) q4 o4))))) s.heap.size = A at hD hE ⊢
  have hA : ∀ q : Nat, s.heap.size ≤ q → A q := fun q h => by rw [← hAe]; exact Or.inr h
  have hS : va_S A s.heap s.heap [] := va_S.rf
  have C : Cx p s m ([.ref h0]).toArray meth c R_PV b_PV_image 1 (some .int) G A := ⟨hx, hb, hml, hown, hr, hts, hK, hA, hlocks, hE⟩
  have hl := lv_entry ([.ref h0]) (n := 1) (Nat.le_of_ble_eq_true rfl)
  rw [lg_entry_eq]
  generalize (lg_sl ([.ref h0]) ++ List.replicate (1 - (lg_sl ([.ref h0])).length) Slot.unset).toArray = ls at hl ⊢
  have hl : lv_has ls 1 [(0, .ref h0)] := hl
  have hD : va_D A [(h0, .inr (0, [.int (gI o0 0), .ref (q0 1), .ref (q0 2), .ref (q0 3), .ref (q0 4), .ref (q0 5), .ref (q0 6), .ref (q0 7), .ref (q0 8), .ref (q0 9), .ref (q0 10), .ref (q0 11), .ref (q0 12), .ref (q0 13)])), kQ G (q0 3) 3 (fun i => some (q0 (50 + i))), kI G (q0 6) 1000 (gA o0 6), kJ G (q0 7) 2000 (gB o0 7), kI G (q0 13) 5 (gA o0 13), ((q0 4), .inr (5, [.ref (r1 0), .int (gI o1 1), .int (gI o1 2), .ref (q1 3), .ref (q1 4), .ref (q1 5), .ref (q1 6), .ref (q1 7), .ref (q1 8), .ref (q1 9), .ref (q1 10), .int (gI o1 11), .int (gI o1 12)])), kI G (q1 3) 20 (gA o1 3), kI G (q1 4) 20 (gA o1 4), kI G (q1 5) 5 (gA o1 5), kJ G (q1 6) 5 (gB o1 6), kJ G (q1 7) 5 (gB o1 7), kJ G (q1 8) 6 (gB o1 8), kI G (q1 10) 5 (gA o1 10), ((q1 9), .inr (1, [.int (gI o2 0), .int (gI o2 1), .int (gI o2 2), .int (gI o2 3), .int (gI o2 4), .int (gI o2 5), .int (gI o2 6)])), ((q0 5), .inr (5, [.ref (r3 0), .int (gI o3 1), .int (gI o3 2), .ref (q3 3), .ref (q3 4), .ref (q3 5), .ref (q3 6), .ref (q3 7), .ref (q3 8), .ref (q3 9), .ref (q3 10), .int (gI o3 11), .int (gI o3 12)])), kI G (q3 3) 20 (gA o3 3), kI G (q3 4) 20 (gA o3 4), kI G (q3 5) 5 (gA o3 5), kJ G (q3 6) 5 (gB o3 6), kJ G (q3 7) 5 (gB o3 7), kJ G (q3 8) 6 (gB o3 8), kI G (q3 10) 5 (gA o3 10), ((q3 9), .inr (1, [.int (gI o4 0), .int (gI o4 1), .int (gI o4 2), .int (gI o4 3), .int (gI o4 4), .int (gI o4 5), .int (gI o4 6)]))] := hD
  unfold f_PV_image at h
  suffices key : ∀ (H : Heap) (locs : List Loc), va_P G.1 CL [(h0, .inr (0, [.int (gI o0 0), .ref (q0 1), .ref (q0 2), .ref (q0 3), .ref (q0 4), .ref (q0 5), .ref (q0 6), .ref (q0 7), .ref (q0 8), .ref (q0 9), .ref (q0 10), .ref (q0 11), .ref (q0 12), .ref (q0 13)])), kQ G (q0 3) 3 (fun i => some (q0 (50 + i))), kI G (q0 6) 1000 (gA o0 6), kJ G (q0 7) 2000 (gB o0 7), kI G (q0 13) 5 (gA o0 13), ((q0 4), .inr (5, [.ref (r1 0), .int (gI o1 1), .int (gI o1 2), .ref (q1 3), .ref (q1 4), .ref (q1 5), .ref (q1 6), .ref (q1 7), .ref (q1 8), .ref (q1 9), .ref (q1 10), .int (gI o1 11), .int (gI o1 12)])), kI G (q1 3) 20 (gA o1 3), kI G (q1 4) 20 (gA o1 4), kI G (q1 5) 5 (gA o1 5), kJ G (q1 6) 5 (gB o1 6), kJ G (q1 7) 5 (gB o1 7), kJ G (q1 8) 6 (gB o1 8), kI G (q1 10) 5 (gA o1 10), ((q1 9), .inr (1, [.int (gI o2 0), .int (gI o2 1), .int (gI o2 2), .int (gI o2 3), .int (gI o2 4), .int (gI o2 5), .int (gI o2 6)])), ((q0 5), .inr (5, [.ref (r3 0), .int (gI o3 1), .int (gI o3 2), .ref (q3 3), .ref (q3 4), .ref (q3 5), .ref (q3 6), .ref (q3 7), .ref (q3 8), .ref (q3 9), .ref (q3 10), .int (gI o3 11), .int (gI o3 12)])), kI G (q3 3) 20 (gA o3 3), kI G (q3 4) 20 (gA o3 4), kI G (q3 5) 5 (gA o3 5), kJ G (q3 6) 5 (gB o3 6), kJ G (q3 7) 5 (gB o3 7), kJ G (q3 8) 6 (gB o3 8), kI G (q3 10) 5 (gA o3 10), ((q3 9), .inr (1, [.int (gI o4 0), .int (gI o4 1), .int (gI o4 2), .int (gI o4 3), .int (gI o4 4), .int (gI o4 5), .int (gI o4 6)]))] H → va_S A s.heap H locs → W p l e rm_PV_image s m ([.ref h0]).toArray below meth c H locs 0 0 (MQ below (va_Qi (fun (r : Int32) (u : (Nat → Nat) × Ob × Ob) => Q r u.1 u.2.1 u.2.2) (fun (u : (Nat → Nat) × Ob × Ob) t => BW G A (cw_PV G h0 q0 o0 ++ (cw_Mo G (q0 4) q1 r1 o1 ++ (cw_Fo G (q1 9) q2 o2 ++ (cw_Mo G (q0 5) q3 u.1 u.2.1 ++ (cw_Fo G (q3 9) q4 u.2.2))))) t) A) ([.ref h0]).toArray s 0 0 A) (F0 m 0 ls []) from key s.heap [] hP hS
  intro H locs hP hS
  refine lv_aload_n hx hb d_PV_image_0 rfl (lv_at hl 0 rfl) ?_
  refine va_get (D := G.1) (ci := 0) (v := .ref (q0 5)) (C := R_PV) (T := T_PV) (N := 14) hx hb hts i_PV hown hK hP 0 rfl rfl 5 (by decide) (hts _ wf_PV_54) (fun _ h9 => h9) rfl d_PV_image_1 ?_
  refine lv_aload_n hx hb d_PV_image_4 rfl (lv_at hl 0 rfl) ?_
  refine va_get (D := G.1) (ci := 0) (v := .ref (q0 4)) (C := R_PV) (T := T_PV) (N := 14) hx hb hts i_PV hown hK hP 0 rfl rfl 4 (by decide) (hts _ wf_PV_50) (fun _ h9 => h9) rfl d_PV_image_5 ?_
  refine cl_Vv (b := b_PV_image) (As := [.ref (q0 4)]) (rest := []) (ws := [(h0, .inr (0, [.int (gI o0 0), .ref (q0 1), .ref (q0 2), .ref (q0 3), .ref (q0 4), .ref (q0 5), .ref (q0 6), .ref (q0 7), .ref (q0 8), .ref (q0 9), .ref (q0 10), .ref (q0 11), .ref (q0 12), .ref (q0 13)])), kQ G (q0 3) 3 (fun i => some (q0 (50 + i))), kI G (q0 6) 1000 (gA o0 6), kJ G (q0 7) 2000 (gB o0 7), kI G (q0 13) 5 (gA o0 13), ((q0 4), .inr (5, [.ref (r1 0), .int (gI o1 1), .int (gI o1 2), .ref (q1 3), .ref (q1 4), .ref (q1 5), .ref (q1 6), .ref (q1 7), .ref (q1 8), .ref (q1 9), .ref (q1 10), .int (gI o1 11), .int (gI o1 12)])), kI G (q1 3) 20 (gA o1 3), kI G (q1 4) 20 (gA o1 4), kI G (q1 5) 5 (gA o1 5), kJ G (q1 6) 5 (gB o1 6), kJ G (q1 7) 5 (gB o1 7), kJ G (q1 8) 6 (gB o1 8), kI G (q1 10) 5 (gA o1 10), ((q1 9), .inr (1, [.int (gI o2 0), .int (gI o2 1), .int (gI o2 2), .int (gI o2 3), .int (gI o2 4), .int (gI o2 5), .int (gI o2 6)])), ((q0 5), .inr (5, [.ref (r3 0), .int (gI o3 1), .int (gI o3 2), .ref (q3 3), .ref (q3 4), .ref (q3 5), .ref (q3 6), .ref (q3 7), .ref (q3 8), .ref (q3 9), .ref (q3 10), .int (gI o3 11), .int (gI o3 12)])), kI G (q3 3) 20 (gA o3 3), kI G (q3 4) 20 (gA o3 4), kI G (q3 5) 5 (gA o3 5), kJ G (q3 6) 5 (gB o3 6), kJ G (q3 7) 5 (gB o3 7), kJ G (q3 8) 6 (gB o3 8), kI G (q3 10) 5 (gA o3 10), ((q3 9), .inr (1, [.int (gI o4 0), .int (gI o4 1), .int (gI o4 2), .int (gI o4 3), .int (gI o4 4), .int (gI o4 5), .int (gI o4 6)]))]) (wr := [(h0, .inr (0, [.int (gI o0 0), .ref (q0 1), .ref (q0 2), .ref (q0 3), .ref (q0 4), .ref (q0 5), .ref (q0 6), .ref (q0 7), .ref (q0 8), .ref (q0 9), .ref (q0 10), .ref (q0 11), .ref (q0 12), .ref (q0 13)])), kQ G (q0 3) 3 (fun i => some (q0 (50 + i))), kI G (q0 6) 1000 (gA o0 6), kJ G (q0 7) 2000 (gB o0 7), kI G (q0 13) 5 (gA o0 13)]) (w2 := fun (u : (Nat → Nat) × Ob × Ob) => [(h0, .inr (0, [.int (gI o0 0), .ref (q0 1), .ref (q0 2), .ref (q0 3), .ref (q0 4), .ref (q0 5), .ref (q0 6), .ref (q0 7), .ref (q0 8), .ref (q0 9), .ref (q0 10), .ref (q0 11), .ref (q0 12), .ref (q0 13)])), kQ G (q0 3) 3 (fun i => some (q0 (50 + i))), kI G (q0 6) 1000 (gA o0 6), kJ G (q0 7) 2000 (gB o0 7), kI G (q0 13) 5 (gA o0 13), ((q0 4), .inr (5, [.ref (r1 0), .int (gI o1 1), .int (gI o1 2), .ref (q1 3), .ref (q1 4), .ref (q1 5), .ref (q1 6), .ref (q1 7), .ref (q1 8), .ref (q1 9), .ref (q1 10), .int (gI o1 11), .int (gI o1 12)])), kI G (q1 3) 20 (gA o1 3), kI G (q1 4) 20 (gA o1 4), kI G (q1 5) 5 (gA o1 5), kJ G (q1 6) 5 (gB o1 6), kJ G (q1 7) 5 (gB o1 7), kJ G (q1 8) 6 (gB o1 8), kI G (q1 10) 5 (gA o1 10), ((q1 9), .inr (1, [.int (gI o2 0), .int (gI o2 1), .int (gI o2 2), .int (gI o2 3), .int (gI o2 4), .int (gI o2 5), .int (gI o2 6)])), ((q0 5), .inr (5, [.ref (u.1 0), .int (gI u.2.1 1), .int (gI u.2.1 2), .ref (q3 3), .ref (q3 4), .ref (q3 5), .ref (q3 6), .ref (q3 7), .ref (q3 8), .ref (q3 9), .ref (q3 10), .int (gI u.2.1 11), .int (gI u.2.1 12)])), kI G (q3 3) 20 (gA u.2.1 3), kI G (q3 4) 20 (gA u.2.1 4), kI G (q3 5) 5 (gA u.2.1 5), kJ G (q3 6) 5 (gB u.2.1 6), kJ G (q3 7) 5 (gB u.2.1 7), kJ G (q3 8) 6 (gB u.2.1 8), kI G (q3 10) 5 (gA u.2.1 10), ((q3 9), .inr (1, [.int (gI u.2.2 0), .int (gI u.2.2 1), .int (gI u.2.2 2), .int (gI u.2.2 3), .int (gI u.2.2 4), .int (gI u.2.2 5), .int (gI u.2.2 6)]))]) C (c_Mo_copy (h0 := (q0 5)) (q0 := q3) (q1 := q4) (h2 := (q0 4)) (q2 := q1) (q3 := q2) H.size h) wv_PV_312 ⟨Nat.le_of_ble_eq_true rfl, Nat.le_of_ble_eq_true rfl⟩ hP hD hS 14 rfl rfl [14, 15, 16, 17, 18, 19, 20, 21, 22, 5, 6, 7, 8, 9, 10, 11, 12, 13] [0, 1, 2, 3, 4] rfl rfl (by decide) (by decide) (by decide) [0, 1, 2, 3, 4, 14, 15, 16, 17, 18, 19, 20, 21, 22, 5, 6, 7, 8, 9, 10, 11, 12, 13] (by decide) (fun u => rfl) rfl hl.1 rfl (lv_room (Nat.le_of_ble_eq_true rfl)) d_PV_image_8 ⟨Nat.le_of_ble_eq_true rfl, Nat.le_of_ble_eq_true rfl⟩ rfl rfl (fun u H locs h hP hD hS => ?_)
  obtain ⟨u1, u2, u3⟩ := u
  have hP : va_P G.1 CL [(h0, .inr (0, [.int (gI o0 0), .ref (q0 1), .ref (q0 2), .ref (q0 3), .ref (q0 4), .ref (q0 5), .ref (q0 6), .ref (q0 7), .ref (q0 8), .ref (q0 9), .ref (q0 10), .ref (q0 11), .ref (q0 12), .ref (q0 13)])), kQ G (q0 3) 3 (fun i => some (q0 (50 + i))), kI G (q0 6) 1000 (gA o0 6), kJ G (q0 7) 2000 (gB o0 7), kI G (q0 13) 5 (gA o0 13), ((q0 4), .inr (5, [.ref (r1 0), .int (gI o1 1), .int (gI o1 2), .ref (q1 3), .ref (q1 4), .ref (q1 5), .ref (q1 6), .ref (q1 7), .ref (q1 8), .ref (q1 9), .ref (q1 10), .int (gI o1 11), .int (gI o1 12)])), kI G (q1 3) 20 (gA o1 3), kI G (q1 4) 20 (gA o1 4), kI G (q1 5) 5 (gA o1 5), kJ G (q1 6) 5 (gB o1 6), kJ G (q1 7) 5 (gB o1 7), kJ G (q1 8) 6 (gB o1 8), kI G (q1 10) 5 (gA o1 10), ((q1 9), .inr (1, [.int (gI o2 0), .int (gI o2 1), .int (gI o2 2), .int (gI o2 3), .int (gI o2 4), .int (gI o2 5), .int (gI o2 6)])), ((q0 5), .inr (5, [.ref (u1 0), .int (gI u2 1), .int (gI u2 2), .ref (q3 3), .ref (q3 4), .ref (q3 5), .ref (q3 6), .ref (q3 7), .ref (q3 8), .ref (q3 9), .ref (q3 10), .int (gI u2 11), .int (gI u2 12)])), kI G (q3 3) 20 (gA u2 3), kI G (q3 4) 20 (gA u2 4), kI G (q3 5) 5 (gA u2 5), kJ G (q3 6) 5 (gB u2 6), kJ G (q3 7) 5 (gB u2 7), kJ G (q3 8) 6 (gB u2 8), kI G (q3 10) 5 (gA u2 10), ((q3 9), .inr (1, [.int (gI u3 0), .int (gI u3 1), .int (gI u3 2), .int (gI u3 3), .int (gI u3 4), .int (gI u3 5), .int (gI u3 6)]))] H := hP
  have hD : va_D A [(h0, .inr (0, [.int (gI o0 0), .ref (q0 1), .ref (q0 2), .ref (q0 3), .ref (q0 4), .ref (q0 5), .ref (q0 6), .ref (q0 7), .ref (q0 8), .ref (q0 9), .ref (q0 10), .ref (q0 11), .ref (q0 12), .ref (q0 13)])), kQ G (q0 3) 3 (fun i => some (q0 (50 + i))), kI G (q0 6) 1000 (gA o0 6), kJ G (q0 7) 2000 (gB o0 7), kI G (q0 13) 5 (gA o0 13), ((q0 4), .inr (5, [.ref (r1 0), .int (gI o1 1), .int (gI o1 2), .ref (q1 3), .ref (q1 4), .ref (q1 5), .ref (q1 6), .ref (q1 7), .ref (q1 8), .ref (q1 9), .ref (q1 10), .int (gI o1 11), .int (gI o1 12)])), kI G (q1 3) 20 (gA o1 3), kI G (q1 4) 20 (gA o1 4), kI G (q1 5) 5 (gA o1 5), kJ G (q1 6) 5 (gB o1 6), kJ G (q1 7) 5 (gB o1 7), kJ G (q1 8) 6 (gB o1 8), kI G (q1 10) 5 (gA o1 10), ((q1 9), .inr (1, [.int (gI o2 0), .int (gI o2 1), .int (gI o2 2), .int (gI o2 3), .int (gI o2 4), .int (gI o2 5), .int (gI o2 6)])), ((q0 5), .inr (5, [.ref (u1 0), .int (gI u2 1), .int (gI u2 2), .ref (q3 3), .ref (q3 4), .ref (q3 5), .ref (q3 6), .ref (q3 7), .ref (q3 8), .ref (q3 9), .ref (q3 10), .int (gI u2 11), .int (gI u2 12)])), kI G (q3 3) 20 (gA u2 3), kI G (q3 4) 20 (gA u2 4), kI G (q3 5) 5 (gA u2 5), kJ G (q3 6) 5 (gB u2 6), kJ G (q3 7) 5 (gB u2 7), kJ G (q3 8) 6 (gB u2 8), kI G (q3 10) 5 (gA u2 10), ((q3 9), .inr (1, [.int (gI u3 0), .int (gI u3 1), .int (gI u3 2), .int (gI u3 3), .int (gI u3 4), .int (gI u3 5), .int (gI u3 6)]))] := hD
  refine lv_aload_n hx hb d_PV_image_11 rfl (lv_at hl 0 rfl) ?_
  refine va_get (D := G.1) (ci := 0) (v := .ref (q0 4)) (C := R_PV) (T := T_PV) (N := 14) hx hb hts i_PV hown hK hP 0 rfl rfl 4 (by decide) (hts _ wf_PV_50) (fun _ h9 => h9) rfl d_PV_image_12 ?_
  refine va_get (D := G.1) (ci := 5) (v := .int (gI o1 1)) (C := R_Mo) (T := T_Mo) (N := 13) hx hb hts i_Mo hown hK hP 5 rfl rfl 1 (by decide) (hts _ wf_PV_173) (fun _ h9 => h9) rfl d_PV_image_15 ?_
  have hP : va_P G.1 CL (cw_PV G h0 q0 o0 ++ (cw_Mo G (q0 4) q1 r1 o1 ++ (cw_Fo G (q1 9) q2 o2 ++ (cw_Mo G (q0 5) q3 u1 u2 ++ (cw_Fo G (q3 9) q4 u3))))) H := hP
  have hD : va_D A (cw_PV G h0 q0 o0 ++ (cw_Mo G (q0 4) q1 r1 o1 ++ (cw_Fo G (q1 9) q2 o2 ++ (cw_Mo G (q0 5) q3 u1 u2 ++ (cw_Fo G (q3 9) q4 u3))))) := hD
  exact W.iret (v := (gI o1 1)) hx hb hr (fun t ht hW => ⟨⟨(gI o1 1), (u1, u2, u3), rfl, h, by rw [ht]; exact hP, va_K.moved hW.alike hK, hD⟩, hS.F ht⟩) hS.2.2 d_PV_image_18
abbrev b_PV_back : ByteArray := prog_1_method_29_code
def y_PV_back : MethodName := ⟨R_PV, "back", "()I"⟩
abbrev w_PV_back : List Cond := Cond.code y_PV_back b_PV_back 1 (some .int) :: gw_tbl
theorem d_PV_back_0 : decode b_PV_back 0 = .ok (.aload_n 0, 1) := by decide +kernel
theorem d_PV_back_1 : decode b_PV_back 1 = .ok (.getfield 50, 3) := by decide +kernel
theorem d_PV_back_4 : decode b_PV_back 4 = .ok (.aload_n 0, 1) := by decide +kernel
theorem d_PV_back_5 : decode b_PV_back 5 = .ok (.getfield 54, 3) := by decide +kernel
theorem d_PV_back_8 : decode b_PV_back 8 = .ok (.invokevirtual 312, 3) := by decide +kernel
theorem d_PV_back_11 : decode b_PV_back 11 = .ok (.aload_n 0, 1) := by decide +kernel
theorem d_PV_back_12 : decode b_PV_back 12 = .ok (.getfield 50, 3) := by decide +kernel
theorem d_PV_back_15 : decode b_PV_back 15 = .ok (.getfield 173, 3) := by decide +kernel
theorem d_PV_back_18 : decode b_PV_back 18 = .ok (.ireturn, 1) := by decide +kernel
def f_PV_back (o0 : Ob) (r1 : (Nat → Nat)) (o1 : Ob) (o2 : Ob) (r3 : (Nat → Nat)) (o3 : Ob) (o4 : Ob) (Q : Int32 → (Nat → Nat) → Ob → Ob → Prop) : Prop := f_Mo_copy r1 o1 o2 r3 o3 o4 (fun u1 u2 u3 => Q (gI u2 1) u1 u2 u3)
abbrev rm_PV_back : Room := { frames := 2, cells := 0, slots := 0, locals := 81 }
set_option maxHeartbeats 4000000 in
set_option maxRecDepth 100000 in
theorem c_PV_back {l : Launch} {G : Gl} {h0 : Nat} {q0 : Nat → Nat} {q1 : Nat → Nat} {q2 : Nat → Nat} {q3 : Nat → Nat} {q4 : Nat → Nat} {o0 : Ob} {r1 : (Nat → Nat)} {o1 : Ob} {o2 : Ob} {r3 : (Nat → Nat)} {o3 : Ob} {o4 : Ob} {Q : Int32 → (Nat → Nat) → Ob → Ob → Prop} (sz : Nat) (h : f_PV_back o0 r1 o1 o2 r3 o3 o4 Q) : Met l y_PV_back w_PV_back rm_PV_back (PcW G [.ref h0] sz (cw_PV G h0 q0 o0 ++ (cw_Mo G (q0 4) q1 r1 o1 ++ (cw_Fo G (q1 9) q2 o2 ++ (cw_Mo G (q0 5) q3 r3 o3 ++ (cw_Fo G (q3 9) q4 o4)))))) (va_Qi (fun (r : Int32) (u : (Nat → Nat) × Ob × Ob) => Q r u.1 u.2.1 u.2.2) (fun (u : (Nat → Nat) × Ob × Ob) t => BW G (va_A (cw_PV G h0 q0 o0 ++ (cw_Mo G (q0 4) q1 r1 o1 ++ (cw_Fo G (q1 9) q2 o2 ++ (cw_Mo G (q0 5) q3 r3 o3 ++ (cw_Fo G (q3 9) q4 o4))))) sz) (cw_PV G h0 q0 o0 ++ (cw_Mo G (q0 4) q1 u.1 u.2.1 ++ (cw_Fo G (q1 9) q2 u.2.2 ++ (cw_Mo G (q0 5) q3 r3 o3 ++ (cw_Fo G (q3 9) q4 o4))))) t) (va_A (cw_PV G h0 q0 o0 ++ (cw_Mo G (q0 4) q1 r1 o1 ++ (cw_Fo G (q1 9) q2 o2 ++ (cw_Mo G (q0 5) q3 r3 o3 ++ (cw_Fo G (q3 9) q4 o4))))) sz)) 0 0 (va_A (cw_PV G h0 q0 o0 ++ (cw_Mo G (q0 4) q1 r1 o1 ++ (cw_Fo G (q1 9) q2 o2 ++ (cw_Mo G (q0 5) q3 r3 o3 ++ (cw_Fo G (q3 9) q4 o4))))) sz) := by
  refine Met.ofW (cc := b_PV_back) (maxL := 1) (ret := (some .int)) (by decide +kernel) rfl ?_
  intro p e s m args below meth c s₁ B hml hv
  obtain ⟨rfl, hsz, hP, hK, hD0, hE⟩ := hv
  have hx := B.exec
  have hb := B.bytes
  have hr := B.returns
  have hts0 := atoms_spec (ws := w_PV_back) B.pre
  have hts : ∀ w ∈ gw_tbl, w.before ([.ref h0]).toArray s = true := fun w hw => hts0 w (List.mem_cons_of_mem _ hw)
  have hown : s.vm.findClass R_PV = some m.cls := findClass_of_methodNamed B.named
  have hlocks := B.notSynchronized
  subst hsz
  have hD := hD0.self (sz := s.heap.size)
  generalize hAe : va_A (cw_PV G h0 q0 o0 ++ (cw_Mo G (q0 4) q1 r1 o1 ++ (cw_Fo G (q1 9) q2 o2 ++ (cw_Mo G (q0 5) q3 r3 o3 ++ (cw_Fo G (q3 9) q4 o4))))) s.heap.size = A at hD hE ⊢
  have hA : ∀ q : Nat, s.heap.size ≤ q → A q := fun q h => by rw [← hAe]; exact Or.inr h
  have hS : va_S A s.heap s.heap [] := va_S.rf
  have C : Cx p s m ([.ref h0]).toArray meth c R_PV b_PV_back 1 (some .int) G A := ⟨hx, hb, hml, hown, hr, hts, hK, hA, hlocks, hE⟩
  have hl := lv_entry ([.ref h0]) (n := 1) (Nat.le_of_ble_eq_true rfl)
  rw [lg_entry_eq]
  generalize (lg_sl ([.ref h0]) ++ List.replicate (1 - (lg_sl ([.ref h0])).length) Slot.unset).toArray = ls at hl ⊢
  have hl : lv_has ls 1 [(0, .ref h0)] := hl
  have hD : va_D A [(h0, .inr (0, [.int (gI o0 0), .ref (q0 1), .ref (q0 2), .ref (q0 3), .ref (q0 4), .ref (q0 5), .ref (q0 6), .ref (q0 7), .ref (q0 8), .ref (q0 9), .ref (q0 10), .ref (q0 11), .ref (q0 12), .ref (q0 13)])), kQ G (q0 3) 3 (fun i => some (q0 (50 + i))), kI G (q0 6) 1000 (gA o0 6), kJ G (q0 7) 2000 (gB o0 7), kI G (q0 13) 5 (gA o0 13), ((q0 4), .inr (5, [.ref (r1 0), .int (gI o1 1), .int (gI o1 2), .ref (q1 3), .ref (q1 4), .ref (q1 5), .ref (q1 6), .ref (q1 7), .ref (q1 8), .ref (q1 9), .ref (q1 10), .int (gI o1 11), .int (gI o1 12)])), kI G (q1 3) 20 (gA o1 3), kI G (q1 4) 20 (gA o1 4), kI G (q1 5) 5 (gA o1 5), kJ G (q1 6) 5 (gB o1 6), kJ G (q1 7) 5 (gB o1 7), kJ G (q1 8) 6 (gB o1 8), kI G (q1 10) 5 (gA o1 10), ((q1 9), .inr (1, [.int (gI o2 0), .int (gI o2 1), .int (gI o2 2), .int (gI o2 3), .int (gI o2 4), .int (gI o2 5), .int (gI o2 6)])), ((q0 5), .inr (5, [.ref (r3 0), .int (gI o3 1), .int (gI o3 2), .ref (q3 3), .ref (q3 4), .ref (q3 5), .ref (q3 6), .ref (q3 7), .ref (q3 8), .ref (q3 9), .ref (q3 10), .int (gI o3 11), .int (gI o3 12)])), kI G (q3 3) 20 (gA o3 3), kI G (q3 4) 20 (gA o3 4), kI G (q3 5) 5 (gA o3 5), kJ G (q3 6) 5 (gB o3 6), kJ G (q3 7) 5 (gB o3 7), kJ G (q3 8) 6 (gB o3 8), kI G (q3 10) 5 (gA o3 10), ((q3 9), .inr (1, [.int (gI o4 0), .int (gI o4 1), .int (gI o4 2), .int (gI o4 3), .int (gI o4 4), .int (gI o4 5), .int (gI o4 6)]))] := hD
  unfold f_PV_back at h
  suffices key : ∀ (H : Heap) (locs : List Loc), va_P G.1 CL [(h0, .inr (0, [.int (gI o0 0), .ref (q0 1), .ref (q0 2), .ref (q0 3), .ref (q0 4), .ref (q0 5), .ref (q0 6), .ref (q0 7), .ref (q0 8), .ref (q0 9), .ref (q0 10), .ref (q0 11), .ref (q0 12), .ref (q0 13)])), kQ G (q0 3) 3 (fun i => some (q0 (50 + i))), kI G (q0 6) 1000 (gA o0 6), kJ G (q0 7) 2000 (gB o0 7), kI G (q0 13) 5 (gA o0 13), ((q0 4), .inr (5, [.ref (r1 0), .int (gI o1 1), .int (gI o1 2), .ref (q1 3), .ref (q1 4), .ref (q1 5), .ref (q1 6), .ref (q1 7), .ref (q1 8), .ref (q1 9), .ref (q1 10), .int (gI o1 11), .int (gI o1 12)])), kI G (q1 3) 20 (gA o1 3), kI G (q1 4) 20 (gA o1 4), kI G (q1 5) 5 (gA o1 5), kJ G (q1 6) 5 (gB o1 6), kJ G (q1 7) 5 (gB o1 7), kJ G (q1 8) 6 (gB o1 8), kI G (q1 10) 5 (gA o1 10), ((q1 9), .inr (1, [.int (gI o2 0), .int (gI o2 1), .int (gI o2 2), .int (gI o2 3), .int (gI o2 4), .int (gI o2 5), .int (gI o2 6)])), ((q0 5), .inr (5, [.ref (r3 0), .int (gI o3 1), .int (gI o3 2), .ref (q3 3), .ref (q3 4), .ref (q3 5), .ref (q3 6), .ref (q3 7), .ref (q3 8), .ref (q3 9), .ref (q3 10), .int (gI o3 11), .int (gI o3 12)])), kI G (q3 3) 20 (gA o3 3), kI G (q3 4) 20 (gA o3 4), kI G (q3 5) 5 (gA o3 5), kJ G (q3 6) 5 (gB o3 6), kJ G (q3 7) 5 (gB o3 7), kJ G (q3 8) 6 (gB o3 8), kI G (q3 10) 5 (gA o3 10), ((q3 9), .inr (1, [.int (gI o4 0), .int (gI o4 1), .int (gI o4 2), .int (gI o4 3), .int (gI o4 4), .int (gI o4 5), .int (gI o4 6)]))] H → va_S A s.heap H locs → W p l e rm_PV_back s m ([.ref h0]).toArray below meth c H locs 0 0 (MQ below (va_Qi (fun (r : Int32) (u : (Nat → Nat) × Ob × Ob) => Q r u.1 u.2.1 u.2.2) (fun (u : (Nat → Nat) × Ob × Ob) t => BW G A (cw_PV G h0 q0 o0 ++ (cw_Mo G (q0 4) q1 u.1 u.2.1 ++ (cw_Fo G (q1 9) q2 u.2.2 ++ (cw_Mo G (q0 5) q3 r3 o3 ++ (cw_Fo G (q3 9) q4 o4))))) t) A) ([.ref h0]).toArray s 0 0 A) (F0 m 0 ls []) from key s.heap [] hP hS
  intro H locs hP hS
  refine lv_aload_n hx hb d_PV_back_0 rfl (lv_at hl 0 rfl) ?_
  refine va_get (D := G.1) (ci := 0) (v := .ref (q0 4)) (C := R_PV) (T := T_PV) (N := 14) hx hb hts i_PV hown hK hP 0 rfl rfl 4 (by decide) (hts _ wf_PV_50) (fun _ h9 => h9) rfl d_PV_back_1 ?_
  refine lv_aload_n hx hb d_PV_back_4 rfl (lv_at hl 0 rfl) ?_
  refine va_get (D := G.1) (ci := 0) (v := .ref (q0 5)) (C := R_PV) (T := T_PV) (N := 14) hx hb hts i_PV hown hK hP 0 rfl rfl 5 (by decide) (hts _ wf_PV_54) (fun _ h9 => h9) rfl d_PV_back_5 ?_
  refine cl_Vv (b := b_PV_back) (As := [.ref (q0 5)]) (rest := []) (ws := [(h0, .inr (0, [.int (gI o0 0), .ref (q0 1), .ref (q0 2), .ref (q0 3), .ref (q0 4), .ref (q0 5), .ref (q0 6), .ref (q0 7), .ref (q0 8), .ref (q0 9), .ref (q0 10), .ref (q0 11), .ref (q0 12), .ref (q0 13)])), kQ G (q0 3) 3 (fun i => some (q0 (50 + i))), kI G (q0 6) 1000 (gA o0 6), kJ G (q0 7) 2000 (gB o0 7), kI G (q0 13) 5 (gA o0 13), ((q0 4), .inr (5, [.ref (r1 0), .int (gI o1 1), .int (gI o1 2), .ref (q1 3), .ref (q1 4), .ref (q1 5), .ref (q1 6), .ref (q1 7), .ref (q1 8), .ref (q1 9), .ref (q1 10), .int (gI o1 11), .int (gI o1 12)])), kI G (q1 3) 20 (gA o1 3), kI G (q1 4) 20 (gA o1 4), kI G (q1 5) 5 (gA o1 5), kJ G (q1 6) 5 (gB o1 6), kJ G (q1 7) 5 (gB o1 7), kJ G (q1 8) 6 (gB o1 8), kI G (q1 10) 5 (gA o1 10), ((q1 9), .inr (1, [.int (gI o2 0), .int (gI o2 1), .int (gI o2 2), .int (gI o2 3), .int (gI o2 4), .int (gI o2 5), .int (gI o2 6)])), ((q0 5), .inr (5, [.ref (r3 0), .int (gI o3 1), .int (gI o3 2), .ref (q3 3), .ref (q3 4), .ref (q3 5), .ref (q3 6), .ref (q3 7), .ref (q3 8), .ref (q3 9), .ref (q3 10), .int (gI o3 11), .int (gI o3 12)])), kI G (q3 3) 20 (gA o3 3), kI G (q3 4) 20 (gA o3 4), kI G (q3 5) 5 (gA o3 5), kJ G (q3 6) 5 (gB o3 6), kJ G (q3 7) 5 (gB o3 7), kJ G (q3 8) 6 (gB o3 8), kI G (q3 10) 5 (gA o3 10), ((q3 9), .inr (1, [.int (gI o4 0), .int (gI o4 1), .int (gI o4 2), .int (gI o4 3), .int (gI o4 4), .int (gI o4 5), .int (gI o4 6)]))]) (wr := [(h0, .inr (0, [.int (gI o0 0), .ref (q0 1), .ref (q0 2), .ref (q0 3), .ref (q0 4), .ref (q0 5), .ref (q0 6), .ref (q0 7), .ref (q0 8), .ref (q0 9), .ref (q0 10), .ref (q0 11), .ref (q0 12), .ref (q0 13)])), kQ G (q0 3) 3 (fun i => some (q0 (50 + i))), kI G (q0 6) 1000 (gA o0 6), kJ G (q0 7) 2000 (gB o0 7), kI G (q0 13) 5 (gA o0 13)]) (w2 := fun (u : (Nat → Nat) × Ob × Ob) => [(h0, .inr (0, [.int (gI o0 0), .ref (q0 1), .ref (q0 2), .ref (q0 3), .ref (q0 4), .ref (q0 5), .ref (q0 6), .ref (q0 7), .ref (q0 8), .ref (q0 9), .ref (q0 10), .ref (q0 11), .ref (q0 12), .ref (q0 13)])), kQ G (q0 3) 3 (fun i => some (q0 (50 + i))), kI G (q0 6) 1000 (gA o0 6), kJ G (q0 7) 2000 (gB o0 7), kI G (q0 13) 5 (gA o0 13), ((q0 4), .inr (5, [.ref (u.1 0), .int (gI u.2.1 1), .int (gI u.2.1 2), .ref (q1 3), .ref (q1 4), .ref (q1 5), .ref (q1 6), .ref (q1 7), .ref (q1 8), .ref (q1 9), .ref (q1 10), .int (gI u.2.1 11), .int (gI u.2.1 12)])), kI G (q1 3) 20 (gA u.2.1 3), kI G (q1 4) 20 (gA u.2.1 4), kI G (q1 5) 5 (gA u.2.1 5), kJ G (q1 6) 5 (gB u.2.1 6), kJ G (q1 7) 5 (gB u.2.1 7), kJ G (q1 8) 6 (gB u.2.1 8), kI G (q1 10) 5 (gA u.2.1 10), ((q1 9), .inr (1, [.int (gI u.2.2 0), .int (gI u.2.2 1), .int (gI u.2.2 2), .int (gI u.2.2 3), .int (gI u.2.2 4), .int (gI u.2.2 5), .int (gI u.2.2 6)])), ((q0 5), .inr (5, [.ref (r3 0), .int (gI o3 1), .int (gI o3 2), .ref (q3 3), .ref (q3 4), .ref (q3 5), .ref (q3 6), .ref (q3 7), .ref (q3 8), .ref (q3 9), .ref (q3 10), .int (gI o3 11), .int (gI o3 12)])), kI G (q3 3) 20 (gA o3 3), kI G (q3 4) 20 (gA o3 4), kI G (q3 5) 5 (gA o3 5), kJ G (q3 6) 5 (gB o3 6), kJ G (q3 7) 5 (gB o3 7), kJ G (q3 8) 6 (gB o3 8), kI G (q3 10) 5 (gA o3 10), ((q3 9), .inr (1, [.int (gI o4 0), .int (gI o4 1), .int (gI o4 2), .int (gI o4 3), .int (gI o4 4), .int (gI o4 5), .int (gI o4 6)]))]) C (c_Mo_copy (h0 := (q0 4)) (q0 := q1) (q1 := q2) (h2 := (q0 5)) (q2 := q3) (q3 := q4) H.size h) wv_PV_312 ⟨Nat.le_of_ble_eq_true rfl, Nat.le_of_ble_eq_true rfl⟩ hP hD hS 5 rfl rfl [5, 6, 7, 8, 9, 10, 11, 12, 13, 14, 15, 16, 17, 18, 19, 20, 21, 22] [0, 1, 2, 3, 4] rfl rfl (by decide) (by decide) (by decide) [0, 1, 2, 3, 4, 5, 6, 7, 8, 9, 10, 11, 12, 13, 14, 15, 16, 17, 18, 19, 20, 21, 22] (by decide) (fun u => rfl) rfl hl.1 rfl (lv_room (Nat.le_of_ble_eq_true rfl)) d_PV_back_8 ⟨Nat.le_of_ble_eq_true rfl, Nat.le_of_ble_eq_true rfl⟩ rfl rfl (fun u H locs h hP hD hS => ?_)
  obtain ⟨u1, u2, u3⟩ := u
  have hP : va_P G.1 CL [(h0, .inr (0, [.int (gI o0 0), .ref (q0 1), .ref (q0 2), .ref (q0 3), .ref (q0 4), .ref (q0 5), .ref (q0 6), .ref (q0 7), .ref (q0 8), .ref (q0 9), .ref (q0 10), .ref (q0 11), .ref (q0 12), .ref (q0 13)])), kQ G (q0 3) 3 (fun i => some (q0 (50 + i))), kI G (q0 6) 1000 (gA o0 6), kJ G (q0 7) 2000 (gB o0 7), kI G (q0 13) 5 (gA o0 13), ((q0 4), .inr (5, [.ref (u1 0), .int (gI u2 1), .int (gI u2 2), .ref (q1 3), .ref (q1 4), .ref (q1 5), .ref (q1 6), .ref (q1 7), .ref (q1 8), .ref (q1 9), .ref (q1 10), .int (gI u2 11), .int (gI u2 12)])), kI G (q1 3) 20 (gA u2 3), kI G (q1 4) 20 (gA u2 4), kI G (q1 5) 5 (gA u2 5), kJ G (q1 6) 5 (gB u2 6), kJ G (q1 7) 5 (gB u2 7), kJ G (q1 8) 6 (gB u2 8), kI G (q1 10) 5 (gA u2 10), ((q1 9), .inr (1, [.int (gI u3 0), .int (gI u3 1), .int (gI u3 2), .int (gI u3 3), .int (gI u3 4), .int (gI u3 5), .int (gI u3 6)])), ((q0 5), .inr (5, [.ref (r3 0), .int (gI o3 1), .int (gI o3 2), .ref (q3 3), .ref (q3 4), .ref (q3 5), .ref (q3 6), .ref (q3 7), .ref (q3 8), .ref (q3 9), .ref (q3 10), .int (gI o3 11), .int (gI o3 12)])), kI G (q3 3) 20 (gA o3 3), kI G (q3 4) 20 (gA o3 4), kI G (q3 5) 5 (gA o3 5), kJ G (q3 6) 5 (gB o3 6), kJ G (q3 7) 5 (gB o3 7), kJ G (q3 8) 6 (gB o3 8), kI G (q3 10) 5 (gA o3 10), ((q3 9), .inr (1, [.int (gI o4 0), .int (gI o4 1), .int (gI o4 2), .int (gI o4 3), .int (gI o4 4), .int (gI o4 5), .int (gI o4 6)]))] H := hP
  have hD : va_D A [(h0, .inr (0, [.int (gI o0 0), .ref (q0 1), .ref (q0 2), .ref (q0 3), .ref (q0 4), .ref (q0 5), .ref (q0 6), .ref (q0 7), .ref (q0 8), .ref (q0 9), .ref (q0 10), .ref (q0 11), .ref (q0 12), .ref (q0 13)])), kQ G (q0 3) 3 (fun i => some (q0 (50 + i))), kI G (q0 6) 1000 (gA o0 6), kJ G (q0 7) 2000 (gB o0 7), kI G (q0 13) 5 (gA o0 13), ((q0 4), .inr (5, [.ref (u1 0), .int (gI u2 1), .int (gI u2 2), .ref (q1 3), .ref (q1 4), .ref (q1 5), .ref (q1 6), .ref (q1 7), .ref (q1 8), .ref (q1 9), .ref (q1 10), .int (gI u2 11), .int (gI u2 12)])), kI G (q1 3) 20 (gA u2 3), kI G (q1 4) 20 (gA u2 4), kI G (q1 5) 5 (gA u2 5), kJ G (q1 6) 5 (gB u2 6), kJ G (q1 7) 5 (gB u2 7), kJ G (q1 8) 6 (gB u2 8), kI G (q1 10) 5 (gA u2 10), ((q1 9), .inr (1, [.int (gI u3 0), .int (gI u3 1), .int (gI u3 2), .int (gI u3 3), .int (gI u3 4), .int (gI u3 5), .int (gI u3 6)])), ((q0 5), .inr (5, [.ref (r3 0), .int (gI o3 1), .int (gI o3 2), .ref (q3 3), .ref (q3 4), .ref (q3 5), .ref (q3 6), .ref (q3 7), .ref (q3 8), .ref (q3 9), .ref (q3 10), .int (gI o3 11), .int (gI o3 12)])), kI G (q3 3) 20 (gA o3 3), kI G (q3 4) 20 (gA o3 4), kI G (q3 5) 5 (gA o3 5), kJ G (q3 6) 5 (gB o3 6), kJ G (q3 7) 5 (gB o3 7), kJ G (q3 8) 6 (gB o3 8), kI G (q3 10) 5 (gA o3 10), ((q3 9), .inr (1, [.int (gI o4 0), .int (gI o4 1), .int (gI o4 2), .int (gI o4 3), .int (gI o4 4), .int (gI o4 5), .int (gI o4 6)]))] := hD
  refine lv_aload_n hx hb d_PV_back_11 rfl (lv_at hl 0 rfl) ?_
  refine va_get (D := G.1) (ci := 0) (v := .ref (q0 4)) (C := R_PV) (T := T_PV) (N := 14) hx hb hts i_PV hown hK hP 0 rfl rfl 4 (by decide) (hts _ wf_PV_50) (fun _ h9 => h9) rfl d_PV_back_12 ?_
  refine va_get (D := G.1) (ci := 5) (v := .int (gI u2 1)) (C := R_Mo) (T := T_Mo) (N := 13) hx hb hts i_Mo hown hK hP 5 rfl rfl 1 (by decide) (hts _ wf_PV_173) (fun _ h9 => h9) rfl d_PV_back_15 ?_
  have hP : va_P G.1 CL (cw_PV G h0 q0 o0 ++ (cw_Mo G (q0 4) q1 u1 u2 ++ (cw_Fo G (q1 9) q2 u3 ++ (cw_Mo G (q0 5) q3 r3 o3 ++ (cw_Fo G (q3 9) q4 o4))))) H := hP
  have hD : va_D A (cw_PV G h0 q0 o0 ++ (cw_Mo G (q0 4) q1 u1 u2 ++ (cw_Fo G (q1 9) q2 u3 ++ (cw_Mo G (q0 5) q3 r3 o3 ++ (cw_Fo G (q3 9) q4 o4))))) := hD
  exact W.iret (v := (gI u2 1)) hx hb hr (fun t ht hW => ⟨⟨(gI u2 1), (u1, u2, u3), rfl, h, by rw [ht]; exact hP, va_K.moved hW.alike hK, hD⟩, hS.F ht⟩) hS.2.2 d_PV_back_18
abbrev b_PV_makes : ByteArray := prog_1_method_24_code
def y_PV_makes : MethodName := ⟨R_PV, "makes", "(I)I"⟩
abbrev w_PV_makes : List Cond := Cond.code y_PV_makes b_PV_makes 2 (some .int) :: gw_tbl
theorem d_PV_makes_0 : decode b_PV_makes 0 = .ok (.iload_n 1, 1) := by decide +kernel
theorem d_PV_makes_1 : decode b_PV_makes 1 = .ok (.invokestatic 266, 3) := by decide +kernel
theorem d_PV_makes_4 : decode b_PV_makes 4 = .ok (.ifCond .ne 5, 3) := by decide +kernel
theorem d_PV_makes_7 : decode b_PV_makes 7 = .ok (.iconst (-1), 1) := by decide +kernel
theorem d_PV_makes_8 : decode b_PV_makes 8 = .ok (.ireturn, 1) := by decide +kernel
theorem d_PV_makes_9 : decode b_PV_makes 9 = .ok (.aload_n 0, 1) := by decide +kernel
theorem d_PV_makes_10 : decode b_PV_makes 10 = .ok (.getfield 98, 3) := by decide +kernel
theorem d_PV_makes_13 : decode b_PV_makes 13 = .ok (.aload_n 0, 1) := by decide +kernel
theorem d_PV_makes_14 : decode b_PV_makes 14 = .ok (.getfield 50, 3) := by decide +kernel
theorem d_PV_makes_17 : decode b_PV_makes 17 = .ok (.aload_n 0, 1) := by decide +kernel
theorem d_PV_makes_18 : decode b_PV_makes 18 = .ok (.getfield 68, 3) := by decide +kernel
theorem d_PV_makes_21 : decode b_PV_makes 21 = .ok (.iload_n 1, 1) := by decide +kernel
theorem d_PV_makes_22 : decode b_PV_makes 22 = .ok (.invokevirtual 279, 3) := by decide +kernel
theorem d_PV_makes_25 : decode b_PV_makes 25 = .ok (.aload_n 0, 1) := by decide +kernel
theorem d_PV_makes_26 : decode b_PV_makes 26 = .ok (.getfield 98, 3) := by decide +kernel
theorem d_PV_makes_29 : decode b_PV_makes 29 = .ok (.invokevirtual 283, 3) := by decide +kernel
theorem d_PV_makes_32 : decode b_PV_makes 32 = .ok (.ireturn, 1) := by decide +kernel
theorem wf_PV_98 : Cond.fieldLink R_PV 98 R_PV "shapes" "LPipeVoice$Shapes;" ∈ gw_tbl := gw_tb (List.mem_of_getElem? (i := 450) (by decide +kernel)) rfl
theorem wv_PV_279 : wV R_PV 279 y_Sh_ask b_Sh_ask 5 none 3 := ⟨⟨gw_tb (List.mem_of_getElem? (i := 837) (by decide +kernel)) rfl, gw_tb (List.mem_of_getElem? (i := 12) (by decide +kernel)) rfl, gw_tb (List.mem_of_getElem? (i := 840) (by decide +kernel)) rfl, by decide, by decide, by decide +kernel⟩, gw_tb (List.mem_of_getElem? (i := 838) (by decide +kernel)) rfl, gw_tb (List.mem_of_getElem? (i := 839) (by decide +kernel)) rfl⟩
theorem wv_PV_283 : wV R_PV 283 y_Sh_countFits b_Sh_countFits 3 (some .int) 0 := ⟨⟨gw_tb (List.mem_of_getElem? (i := 862) (by decide +kernel)) rfl, gw_tb (List.mem_of_getElem? (i := 12) (by decide +kernel)) rfl, gw_tb (List.mem_of_getElem? (i := 865) (by decide +kernel)) rfl, by decide, by decide, by decide +kernel⟩, gw_tb (List.mem_of_getElem? (i := 863) (by decide +kernel)) rfl, gw_tb (List.mem_of_getElem? (i := 864) (by decide +kernel)) rfl⟩
def f_PV_makes (a0 : Int32) (o0 : Ob) (r1 : (Nat → Nat)) (o1 : Ob) (o2 : Ob) (r3 : (Nat → Nat)) (o3 : Ob) (Q : Int32 → (Nat → Nat) → Ob → Prop) : Prop := f_PV_isSound a0 (fun z1 => (z1 = 0 → (Q (-1 : Int32) r3 o3)) ∧ (¬ z1 = 0 → (f_Sh_ask a0 r3 o3 r1 o1 o2 (fun u3 u4 => f_Sh_countFits u3 u4 (fun z5 => Q z5 u3 u4)))))
abbrev rm_PV_makes : Room := { frames := 4, cells := 1, slots := 5120, locals := 110 }
set_option maxHeartbeats 4000000 in
set_option maxRecDepth 100000 in
theorem c_PV_makes {l : Launch} {G : Gl} {h0 : Nat} {q0 : Nat → Nat} {q1 : Nat → Nat} {q2 : Nat → Nat} {q3 : Nat → Nat} {a0 : Int32} {o0 : Ob} {r1 : (Nat → Nat)} {o1 : Ob} {o2 : Ob} {r3 : (Nat → Nat)} {o3 : Ob} {Q : Int32 → (Nat → Nat) → Ob → Prop} (sz : Nat) (h : f_PV_makes a0 o0 r1 o1 o2 r3 o3 Q) : Met l y_PV_makes w_PV_makes rm_PV_makes (PcW G [.ref h0, .int a0] sz (cw_PV G h0 q0 o0 ++ (cw_Mo G (q0 4) q1 r1 o1 ++ (cw_He G (q0 8) q2 o2 ++ (cw_Sh G (q0 12) q3 r3 o3))))) (va_Qi (fun (r : Int32) (u : (Nat → Nat) × Ob) => Q r u.1 u.2) (fun (u : (Nat → Nat) × Ob) t => BW G (va_A (cw_PV G h0 q0 o0 ++ (cw_Mo G (q0 4) q1 r1 o1 ++ (cw_He G (q0 8) q2 o2 ++ (cw_Sh G (q0 12) q3 r3 o3)))) sz) (cw_PV G h0 q0 o0 ++ (cw_Mo G (q0 4) q1 r1 o1 ++ (cw_He G (q0 8) q2 o2 ++ (cw_Sh G (q0 12) q3 u.1 u.2)))) t) (va_A (cw_PV G h0 q0 o0 ++ (cw_Mo G (q0 4) q1 r1 o1 ++ (cw_He G (q0 8) q2 o2 ++ (cw_Sh G (q0 12) q3 r3 o3)))) sz)) 1 5120 (va_A (cw_PV G h0 q0 o0 ++ (cw_Mo G (q0 4) q1 r1 o1 ++ (cw_He G (q0 8) q2 o2 ++ (cw_Sh G (q0 12) q3 r3 o3)))) sz) := by
  refine Met.ofW (cc := b_PV_makes) (maxL := 2) (ret := (some .int)) (by decide +kernel) rfl ?_
  intro p e s m args below meth c s₁ B hml hv
  obtain ⟨rfl, hsz, hP, hK, hD0, hE⟩ := hv
  have hx := B.exec
  have hb := B.bytes
  have hr := B.returns
  have hts0 := atoms_spec (ws := w_PV_makes) B.pre
  have hts : ∀ w ∈ gw_tbl, w.before ([.ref h0, .int a0]).toArray s = true := fun w hw => hts0 w (List.mem_cons_of_mem _ hw)
  have hown : s.vm.findClass R_PV = some m.cls := findClass_of_methodNamed B.named
  have hlocks := B.notSynchronized
  subst hsz
  have hD := hD0.self (sz := s.heap.size)
  generalize hAe : va_A (cw_PV G h0 q0 o0 ++ (cw_Mo G (q0 4) q1 r1 o1 ++ (cw_He G (q0 8) q2 o2 ++ (cw_Sh G (q0 12) q3 r3 o3)))) s.heap.size = A at hD hE ⊢
  have hA : ∀ q : Nat, s.heap.size ≤ q → A q := fun q h => by rw [← hAe]; exact Or.inr h
  have hS : va_S A s.heap s.heap [] := va_S.rf
  have C : Cx p s m ([.ref h0, .int a0]).toArray meth c R_PV b_PV_makes 2 (some .int) G A := ⟨hx, hb, hml, hown, hr, hts, hK, hA, hlocks, hE⟩
  have hl := lv_entry ([.ref h0, .int a0]) (n := 2) (Nat.le_of_ble_eq_true rfl)
  rw [lg_entry_eq]
  generalize (lg_sl ([.ref h0, .int a0]) ++ List.replicate (2 - (lg_sl ([.ref h0, .int a0])).length) Slot.unset).toArray = ls at hl ⊢
  have hl : lv_has ls 2 [(0, .ref h0), (1, .int a0)] := hl
  have hD : va_D A [(h0, .inr (0, [.int (gI o0 0), .ref (q0 1), .ref (q0 2), .ref (q0 3), .ref (q0 4), .ref (q0 5), .ref (q0 6), .ref (q0 7), .ref (q0 8), .ref (q0 9), .ref (q0 10), .ref (q0 11), .ref (q0 12), .ref (q0 13)])), kQ G (q0 3) 3 (fun i => some (q0 (50 + i))), kI G (q0 6) 1000 (gA o0 6), kJ G (q0 7) 2000 (gB o0 7), kI G (q0 13) 5 (gA o0 13), ((q0 4), .inr (5, [.ref (r1 0), .int (gI o1 1), .int (gI o1 2), .ref (q1 3), .ref (q1 4), .ref (q1 5), .ref (q1 6), .ref (q1 7), .ref (q1 8), .ref (q1 9), .ref (q1 10), .int (gI o1 11), .int (gI o1 12)])), kI G (q1 3) 20 (gA o1 3), kI G (q1 4) 20 (gA o1 4), kI G (q1 5) 5 (gA o1 5), kJ G (q1 6) 5 (gB o1 6), kJ G (q1 7) 5 (gB o1 7), kJ G (q1 8) 6 (gB o1 8), kI G (q1 10) 5 (gA o1 10), ((q0 8), .inr (2, [.ref (q2 0), .ref (q2 1), .ref (q2 2)])), kI G (q2 0) 100 (gA o2 0), kI G (q2 1) 100 (gA o2 1), kI G (q2 2) 100 (gA o2 2), ((q0 12), .inr (9, [.int (gI o3 0), .ref (q3 1), .ref (q3 2), .ref (q3 3), .ref (q3 4), .ref (q3 5), .ref (q3 6), .ref (q3 7), .int (gI o3 8), .ref (r3 9), .int (gI o3 10), .ref (r3 11)])), kI G (q3 1) 5 (gA o3 1), kI G (q3 2) 20 (gA o3 2), kI G (q3 3) 5 (gA o3 3), kI G (q3 4) 5 (gA o3 4), kI G (q3 5) 5 (gA o3 5), kI G (q3 6) 5 (gA o3 6), kI G (q3 7) 5 (gA o3 7), kB G (r3 9) (r3 109) (gA o3 9), kI G (r3 11) (r3 111) (gA o3 11)] := hD
  unfold f_PV_makes at h
  suffices key : ∀ (H : Heap) (locs : List Loc), va_P G.1 CL [(h0, .inr (0, [.int (gI o0 0), .ref (q0 1), .ref (q0 2), .ref (q0 3), .ref (q0 4), .ref (q0 5), .ref (q0 6), .ref (q0 7), .ref (q0 8), .ref (q0 9), .ref (q0 10), .ref (q0 11), .ref (q0 12), .ref (q0 13)])), kQ G (q0 3) 3 (fun i => some (q0 (50 + i))), kI G (q0 6) 1000 (gA o0 6), kJ G (q0 7) 2000 (gB o0 7), kI G (q0 13) 5 (gA o0 13), ((q0 4), .inr (5, [.ref (r1 0), .int (gI o1 1), .int (gI o1 2), .ref (q1 3), .ref (q1 4), .ref (q1 5), .ref (q1 6), .ref (q1 7), .ref (q1 8), .ref (q1 9), .ref (q1 10), .int (gI o1 11), .int (gI o1 12)])), kI G (q1 3) 20 (gA o1 3), kI G (q1 4) 20 (gA o1 4), kI G (q1 5) 5 (gA o1 5), kJ G (q1 6) 5 (gB o1 6), kJ G (q1 7) 5 (gB o1 7), kJ G (q1 8) 6 (gB o1 8), kI G (q1 10) 5 (gA o1 10), ((q0 8), .inr (2, [.ref (q2 0), .ref (q2 1), .ref (q2 2)])), kI G (q2 0) 100 (gA o2 0), kI G (q2 1) 100 (gA o2 1), kI G (q2 2) 100 (gA o2 2), ((q0 12), .inr (9, [.int (gI o3 0), .ref (q3 1), .ref (q3 2), .ref (q3 3), .ref (q3 4), .ref (q3 5), .ref (q3 6), .ref (q3 7), .int (gI o3 8), .ref (r3 9), .int (gI o3 10), .ref (r3 11)])), kI G (q3 1) 5 (gA o3 1), kI G (q3 2) 20 (gA o3 2), kI G (q3 3) 5 (gA o3 3), kI G (q3 4) 5 (gA o3 4), kI G (q3 5) 5 (gA o3 5), kI G (q3 6) 5 (gA o3 6), kI G (q3 7) 5 (gA o3 7), kB G (r3 9) (r3 109) (gA o3 9), kI G (r3 11) (r3 111) (gA o3 11)] H → va_S A s.heap H locs → W p l e rm_PV_makes s m ([.ref h0, .int a0]).toArray below meth c H locs 0 0 (MQ below (va_Qi (fun (r : Int32) (u : (Nat → Nat) × Ob) => Q r u.1 u.2) (fun (u : (Nat → Nat) × Ob) t => BW G A (cw_PV G h0 q0 o0 ++ (cw_Mo G (q0 4) q1 r1 o1 ++ (cw_He G (q0 8) q2 o2 ++ (cw_Sh G (q0 12) q3 u.1 u.2)))) t) A) ([.ref h0, .int a0]).toArray s 1 5120 A) (F0 m 0 ls []) from key s.heap [] hP hS
  intro H locs hP hS
  refine lv_iload_n hx hb d_PV_makes_0 rfl (lv_at hl 1 rfl) ?_
  refine cl_Si (b := b_PV_makes) (As := [.int a0]) (rest := []) (ws := [(h0, .inr (0, [.int (gI o0 0), .ref (q0 1), .ref (q0 2), .ref (q0 3), .ref (q0 4), .ref (q0 5), .ref (q0 6), .ref (q0 7), .ref (q0 8), .ref (q0 9), .ref (q0 10), .ref (q0 11), .ref (q0 12), .ref (q0 13)])), kQ G (q0 3) 3 (fun i => some (q0 (50 + i))), kI G (q0 6) 1000 (gA o0 6), kJ G (q0 7) 2000 (gB o0 7), kI G (q0 13) 5 (gA o0 13), ((q0 4), .inr (5, [.ref (r1 0), .int (gI o1 1), .int (gI o1 2), .ref (q1 3), .ref (q1 4), .ref (q1 5), .ref (q1 6), .ref (q1 7), .ref (q1 8), .ref (q1 9), .ref (q1 10), .int (gI o1 11), .int (gI o1 12)])), kI G (q1 3) 20 (gA o1 3), kI G (q1 4) 20 (gA o1 4), kI G (q1 5) 5 (gA o1 5), kJ G (q1 6) 5 (gB o1 6), kJ G (q1 7) 5 (gB o1 7), kJ G (q1 8) 6 (gB o1 8), kI G (q1 10) 5 (gA o1 10), ((q0 8), .inr (2, [.ref (q2 0), .ref (q2 1), .ref (q2 2)])), kI G (q2 0) 100 (gA o2 0), kI G (q2 1) 100 (gA o2 1), kI G (q2 2) 100 (gA o2 2), ((q0 12), .inr (9, [.int (gI o3 0), .ref (q3 1), .ref (q3 2), .ref (q3 3), .ref (q3 4), .ref (q3 5), .ref (q3 6), .ref (q3 7), .int (gI o3 8), .ref (r3 9), .int (gI o3 10), .ref (r3 11)])), kI G (q3 1) 5 (gA o3 1), kI G (q3 2) 20 (gA o3 2), kI G (q3 3) 5 (gA o3 3), kI G (q3 4) 5 (gA o3 4), kI G (q3 5) 5 (gA o3 5), kI G (q3 6) 5 (gA o3 6), kI G (q3 7) 5 (gA o3 7), kB G (r3 9) (r3 109) (gA o3 9), kI G (r3 11) (r3 111) (gA o3 11)]) (wr := [(h0, .inr (0, [.int (gI o0 0), .ref (q0 1), .ref (q0 2), .ref (q0 3), .ref (q0 4), .ref (q0 5), .ref (q0 6), .ref (q0 7), .ref (q0 8), .ref (q0 9), .ref (q0 10), .ref (q0 11), .ref (q0 12), .ref (q0 13)])), kQ G (q0 3) 3 (fun i => some (q0 (50 + i))), kI G (q0 6) 1000 (gA o0 6), kJ G (q0 7) 2000 (gB o0 7), kI G (q0 13) 5 (gA o0 13), ((q0 4), .inr (5, [.ref (r1 0), .int (gI o1 1), .int (gI o1 2), .ref (q1 3), .ref (q1 4), .ref (q1 5), .ref (q1 6), .ref (q1 7), .ref (q1 8), .ref (q1 9), .ref (q1 10), .int (gI o1 11), .int (gI o1 12)])), kI G (q1 3) 20 (gA o1 3), kI G (q1 4) 20 (gA o1 4), kI G (q1 5) 5 (gA o1 5), kJ G (q1 6) 5 (gB o1 6), kJ G (q1 7) 5 (gB o1 7), kJ G (q1 8) 6 (gB o1 8), kI G (q1 10) 5 (gA o1 10), ((q0 8), .inr (2, [.ref (q2 0), .ref (q2 1), .ref (q2 2)])), kI G (q2 0) 100 (gA o2 0), kI G (q2 1) 100 (gA o2 1), kI G (q2 2) 100 (gA o2 2), ((q0 12), .inr (9, [.int (gI o3 0), .ref (q3 1), .ref (q3 2), .ref (q3 3), .ref (q3 4), .ref (q3 5), .ref (q3 6), .ref (q3 7), .int (gI o3 8), .ref (r3 9), .int (gI o3 10), .ref (r3 11)])), kI G (q3 1) 5 (gA o3 1), kI G (q3 2) 20 (gA o3 2), kI G (q3 3) 5 (gA o3 3), kI G (q3 4) 5 (gA o3 4), kI G (q3 5) 5 (gA o3 5), kI G (q3 6) 5 (gA o3 6), kI G (q3 7) 5 (gA o3 7), kB G (r3 9) (r3 109) (gA o3 9), kI G (r3 11) (r3 111) (gA o3 11)]) (w2 := fun (u : Unit) => [(h0, .inr (0, [.int (gI o0 0), .ref (q0 1), .ref (q0 2), .ref (q0 3), .ref (q0 4), .ref (q0 5), .ref (q0 6), .ref (q0 7), .ref (q0 8), .ref (q0 9), .ref (q0 10), .ref (q0 11), .ref (q0 12), .ref (q0 13)])), kQ G (q0 3) 3 (fun i => some (q0 (50 + i))), kI G (q0 6) 1000 (gA o0 6), kJ G (q0 7) 2000 (gB o0 7), kI G (q0 13) 5 (gA o0 13), ((q0 4), .inr (5, [.ref (r1 0), .int (gI o1 1), .int (gI o1 2), .ref (q1 3), .ref (q1 4), .ref (q1 5), .ref (q1 6), .ref (q1 7), .ref (q1 8), .ref (q1 9), .ref (q1 10), .int (gI o1 11), .int (gI o1 12)])), kI G (q1 3) 20 (gA o1 3), kI G (q1 4) 20 (gA o1 4), kI G (q1 5) 5 (gA o1 5), kJ G (q1 6) 5 (gB o1 6), kJ G (q1 7) 5 (gB o1 7), kJ G (q1 8) 6 (gB o1 8), kI G (q1 10) 5 (gA o1 10), ((q0 8), .inr (2, [.ref (q2 0), .ref (q2 1), .ref (q2 2)])), kI G (q2 0) 100 (gA o2 0), kI G (q2 1) 100 (gA o2 1), kI G (q2 2) 100 (gA o2 2), ((q0 12), .inr (9, [.int (gI o3 0), .ref (q3 1), .ref (q3 2), .ref (q3 3), .ref (q3 4), .ref (q3 5), .ref (q3 6), .ref (q3 7), .int (gI o3 8), .ref (r3 9), .int (gI o3 10), .ref (r3 11)])), kI G (q3 1) 5 (gA o3 1), kI G (q3 2) 20 (gA o3 2), kI G (q3 3) 5 (gA o3 3), kI G (q3 4) 5 (gA o3 4), kI G (q3 5) 5 (gA o3 5), kI G (q3 6) 5 (gA o3 6), kI G (q3 7) 5 (gA o3 7), kB G (r3 9) (r3 109) (gA o3 9), kI G (r3 11) (r3 111) (gA o3 11)]) C (c_PV_isSound H.size h) ws_PV_266 ⟨Nat.le_of_ble_eq_true rfl, Nat.le_of_ble_eq_true rfl⟩ hP hD hS [] [0, 1, 2, 3, 4, 5, 6, 7, 8, 9, 10, 11, 12, 13, 14, 15, 16, 17, 18, 19, 20, 21, 22, 23, 24, 25, 26] rfl rfl (by decide) (by decide) (by decide) [0, 1, 2, 3, 4, 5, 6, 7, 8, 9, 10, 11, 12, 13, 14, 15, 16, 17, 18, 19, 20, 21, 22, 23, 24, 25, 26] (by decide) (fun u => rfl) rfl hl.1 rfl (lv_room (Nat.le_of_ble_eq_true rfl)) d_PV_makes_1 ⟨Nat.le_of_ble_eq_true rfl, Nat.le_of_ble_eq_true rfl⟩ rfl rfl (fun z1 u H locs h hP hD hS => ?_)
  have hP : va_P G.1 CL [(h0, .inr (0, [.int (gI o0 0), .ref (q0 1), .ref (q0 2), .ref (q0 3), .ref (q0 4), .ref (q0 5), .ref (q0 6), .ref (q0 7), .ref (q0 8), .ref (q0 9), .ref (q0 10), .ref (q0 11), .ref (q0 12), .ref (q0 13)])), kQ G (q0 3) 3 (fun i => some (q0 (50 + i))), kI G (q0 6) 1000 (gA o0 6), kJ G (q0 7) 2000 (gB o0 7), kI G (q0 13) 5 (gA o0 13), ((q0 4), .inr (5, [.ref (r1 0), .int (gI o1 1), .int (gI o1 2), .ref (q1 3), .ref (q1 4), .ref (q1 5), .ref (q1 6), .ref (q1 7), .ref (q1 8), .ref (q1 9), .ref (q1 10), .int (gI o1 11), .int (gI o1 12)])), kI G (q1 3) 20 (gA o1 3), kI G (q1 4) 20 (gA o1 4), kI G (q1 5) 5 (gA o1 5), kJ G (q1 6) 5 (gB o1 6), kJ G (q1 7) 5 (gB o1 7), kJ G (q1 8) 6 (gB o1 8), kI G (q1 10) 5 (gA o1 10), ((q0 8), .inr (2, [.ref (q2 0), .ref (q2 1), .ref (q2 2)])), kI G (q2 0) 100 (gA o2 0), kI G (q2 1) 100 (gA o2 1), kI G (q2 2) 100 (gA o2 2), ((q0 12), .inr (9, [.int (gI o3 0), .ref (q3 1), .ref (q3 2), .ref (q3 3), .ref (q3 4), .ref (q3 5), .ref (q3 6), .ref (q3 7), .int (gI o3 8), .ref (r3 9), .int (gI o3 10), .ref (r3 11)])), kI G (q3 1) 5 (gA o3 1), kI G (q3 2) 20 (gA o3 2), kI G (q3 3) 5 (gA o3 3), kI G (q3 4) 5 (gA o3 4), kI G (q3 5) 5 (gA o3 5), kI G (q3 6) 5 (gA o3 6), kI G (q3 7) 5 (gA o3 7), kB G (r3 9) (r3 109) (gA o3 9), kI G (r3 11) (r3 111) (gA o3 11)] H := hP
  have hD : va_D A [(h0, .inr (0, [.int (gI o0 0), .ref (q0 1), .ref (q0 2), .ref (q0 3), .ref (q0 4), .ref (q0 5), .ref (q0 6), .ref (q0 7), .ref (q0 8), .ref (q0 9), .ref (q0 10), .ref (q0 11), .ref (q0 12), .ref (q0 13)])), kQ G (q0 3) 3 (fun i => some (q0 (50 + i))), kI G (q0 6) 1000 (gA o0 6), kJ G (q0 7) 2000 (gB o0 7), kI G (q0 13) 5 (gA o0 13), ((q0 4), .inr (5, [.ref (r1 0), .int (gI o1 1), .int (gI o1 2), .ref (q1 3), .ref (q1 4), .ref (q1 5), .ref (q1 6), .ref (q1 7), .ref (q1 8), .ref (q1 9), .ref (q1 10), .int (gI o1 11), .int (gI o1 12)])), kI G (q1 3) 20 (gA o1 3), kI G (q1 4) 20 (gA o1 4), kI G (q1 5) 5 (gA o1 5), kJ G (q1 6) 5 (gB o1 6), kJ G (q1 7) 5 (gB o1 7), kJ G (q1 8) 6 (gB o1 8), kI G (q1 10) 5 (gA o1 10), ((q0 8), .inr (2, [.ref (q2 0), .ref (q2 1), .ref (q2 2)])), kI G (q2 0) 100 (gA o2 0), kI G (q2 1) 100 (gA o2 1), kI G (q2 2) 100 (gA o2 2), ((q0 12), .inr (9, [.int (gI o3 0), .ref (q3 1), .ref (q3 2), .ref (q3 3), .ref (q3 4), .ref (q3 5), .ref (q3 6), .ref (q3 7), .int (gI o3 8), .ref (r3 9), .int (gI o3 10), .ref (r3 11)])), kI G (q3 1) 5 (gA o3 1), kI G (q3 2) 20 (gA o3 2), kI G (q3 3) 5 (gA o3 3), kI G (q3 4) 5 (gA o3 4), kI G (q3 5) 5 (gA o3 5), kI G (q3 6) 5 (gA o3 6), kI G (q3 7) 5 (gA o3 7), kB G (r3 9) (r3 109) (gA o3 9), kI G (r3 11) (r3 111) (gA o3 11)] := hD
  refine lv_if_ne (tgt := 9) hx hb d_PV_makes_4 (by decide) (fun c2 => ?_) (fun c2 => ?_)
  · have h := h.2 c2
    refine lv_aload_n hx hb d_PV_makes_9 rfl (lv_at hl 0 rfl) ?_
    refine va_get (D := G.1) (ci := 0) (v := .ref (q0 12)) (C := R_PV) (T := T_PV) (N := 14) hx hb hts i_PV hown hK hP 0 rfl rfl 12 (by decide) (hts _ wf_PV_98) (fun _ h9 => h9) rfl d_PV_makes_10 ?_
    refine lv_aload_n hx hb d_PV_makes_13 rfl (lv_at hl 0 rfl) ?_
    refine va_get (D := G.1) (ci := 0) (v := .ref (q0 4)) (C := R_PV) (T := T_PV) (N := 14) hx hb hts i_PV hown hK hP 0 rfl rfl 4 (by decide) (hts _ wf_PV_50) (fun _ h9 => h9) rfl d_PV_makes_14 ?_
    refine lv_aload_n hx hb d_PV_makes_17 rfl (lv_at hl 0 rfl) ?_
    refine va_get (D := G.1) (ci := 0) (v := .ref (q0 8)) (C := R_PV) (T := T_PV) (N := 14) hx hb hts i_PV hown hK hP 0 rfl rfl 8 (by decide) (hts _ wf_PV_68) (fun _ h9 => h9) rfl d_PV_makes_18 ?_
    refine lv_iload_n hx hb d_PV_makes_21 rfl (lv_at hl 1 rfl) ?_
    refine cl_Vv (b := b_PV_makes) (As := [.ref (q0 4), .ref (q0 8), .int a0]) (rest := []) (ws := [(h0, .inr (0, [.int (gI o0 0), .ref (q0 1), .ref (q0 2), .ref (q0 3), .ref (q0 4), .ref (q0 5), .ref (q0 6), .ref (q0 7), .ref (q0 8), .ref (q0 9), .ref (q0 10), .ref (q0 11), .ref (q0 12), .ref (q0 13)])), kQ G (q0 3) 3 (fun i => some (q0 (50 + i))), kI G (q0 6) 1000 (gA o0 6), kJ G (q0 7) 2000 (gB o0 7), kI G (q0 13) 5 (gA o0 13), ((q0 4), .inr (5, [.ref (r1 0), .int (gI o1 1), .int (gI o1 2), .ref (q1 3), .ref (q1 4), .ref (q1 5), .ref (q1 6), .ref (q1 7), .ref (q1 8), .ref (q1 9), .ref (q1 10), .int (gI o1 11), .int (gI o1 12)])), kI G (q1 3) 20 (gA o1 3), kI G (q1 4) 20 (gA o1 4), kI G (q1 5) 5 (gA o1 5), kJ G (q1 6) 5 (gB o1 6), kJ G (q1 7) 5 (gB o1 7), kJ G (q1 8) 6 (gB o1 8), kI G (q1 10) 5 (gA o1 10), ((q0 8), .inr (2, [.ref (q2 0), .ref (q2 1), .ref (q2 2)])), kI G (q2 0) 100 (gA o2 0), kI G (q2 1) 100 (gA o2 1), kI G (q2 2) 100 (gA o2 2), ((q0 12), .inr (9, [.int (gI o3 0), .ref (q3 1), .ref (q3 2), .ref (q3 3), .ref (q3 4), .ref (q3 5), .ref (q3 6), .ref (q3 7), .int (gI o3 8), .ref (r3 9), .int (gI o3 10), .ref (r3 11)])), kI G (q3 1) 5 (gA o3 1), kI G (q3 2) 20 (gA o3 2), kI G (q3 3) 5 (gA o3 3), kI G (q3 4) 5 (gA o3 4), kI G (q3 5) 5 (gA o3 5), kI G (q3 6) 5 (gA o3 6), kI G (q3 7) 5 (gA o3 7), kB G (r3 9) (r3 109) (gA o3 9), kI G (r3 11) (r3 111) (gA o3 11)]) (wr := [(h0, .inr (0, [.int (gI o0 0), .ref (q0 1), .ref (q0 2), .ref (q0 3), .ref (q0 4), .ref (q0 5), .ref (q0 6), .ref (q0 7), .ref (q0 8), .ref (q0 9), .ref (q0 10), .ref (q0 11), .ref (q0 12), .ref (q0 13)])), kQ G (q0 3) 3 (fun i => some (q0 (50 + i))), kI G (q0 6) 1000 (gA o0 6), kJ G (q0 7) 2000 (gB o0 7), kI G (q0 13) 5 (gA o0 13)]) (w2 := fun (u : (Nat → Nat) × Ob) => [(h0, .inr (0, [.int (gI o0 0), .ref (q0 1), .ref (q0 2), .ref (q0 3), .ref (q0 4), .ref (q0 5), .ref (q0 6), .ref (q0 7), .ref (q0 8), .ref (q0 9), .ref (q0 10), .ref (q0 11), .ref (q0 12), .ref (q0 13)])), kQ G (q0 3) 3 (fun i => some (q0 (50 + i))), kI G (q0 6) 1000 (gA o0 6), kJ G (q0 7) 2000 (gB o0 7), kI G (q0 13) 5 (gA o0 13), ((q0 4), .inr (5, [.ref (r1 0), .int (gI o1 1), .int (gI o1 2), .ref (q1 3), .ref (q1 4), .ref (q1 5), .ref (q1 6), .ref (q1 7), .ref (q1 8), .ref (q1 9), .ref (q1 10), .int (gI o1 11), .int (gI o1 12)])), kI G (q1 3) 20 (gA o1 3), kI G (q1 4) 20 (gA o1 4), kI G (q1 5) 5 (gA o1 5), kJ G (q1 6) 5 (gB o1 6), kJ G (q1 7) 5 (gB o1 7), kJ G (q1 8) 6 (gB o1 8), kI G (q1 10) 5 (gA o1 10), ((q0 8), .inr (2, [.ref (q2 0), .ref (q2 1), .ref (q2 2)])), kI G (q2 0) 100 (gA o2 0), kI G (q2 1) 100 (gA o2 1), kI G (q2 2) 100 (gA o2 2), ((q0 12), .inr (9, [.int (gI u.2 0), .ref (q3 1), .ref (q3 2), .ref (q3 3), .ref (q3 4), .ref (q3 5), .ref (q3 6), .ref (q3 7), .int (gI u.2 8), .ref (u.1 9), .int (gI u.2 10), .ref (u.1 11)])), kI G (q3 1) 5 (gA u.2 1), kI G (q3 2) 20 (gA u.2 2), kI G (q3 3) 5 (gA u.2 3), kI G (q3 4) 5 (gA u.2 4), kI G (q3 5) 5 (gA u.2 5), kI G (q3 6) 5 (gA u.2 6), kI G (q3 7) 5 (gA u.2 7), kB G (u.1 9) (u.1 109) (gA u.2 9), kI G (u.1 11) (u.1 111) (gA u.2 11)]) C (c_Sh_ask (h0 := (q0 12)) (q0 := q3) (h1 := (q0 4)) (q1 := q1) (h2 := (q0 8)) (q2 := q2) H.size h) wv_PV_279 ⟨Nat.le_of_ble_eq_true rfl, Nat.le_of_ble_eq_true rfl⟩ hP hD hS 17 rfl rfl [17, 18, 19, 20, 21, 22, 23, 24, 25, 26, 5, 6, 7, 8, 9, 10, 11, 12, 13, 14, 15, 16] [0, 1, 2, 3, 4] rfl rfl (by decide) (by decide) (by decide) [0, 1, 2, 3, 4, 15, 16, 17, 18, 19, 20, 21, 22, 23, 24, 25, 26, 5, 6, 7, 8, 9, 10, 11, 12, 13, 14] (by decide) (fun u => rfl) rfl hl.1 rfl (lv_room (Nat.le_of_ble_eq_true rfl)) d_PV_makes_22 ⟨Nat.le_of_ble_eq_true rfl, Nat.le_of_ble_eq_true rfl⟩ rfl rfl (fun u H locs h hP hD hS => ?_)
    obtain ⟨u3, u4⟩ := u
    have hP : va_P G.1 CL [(h0, .inr (0, [.int (gI o0 0), .ref (q0 1), .ref (q0 2), .ref (q0 3), .ref (q0 4), .ref (q0 5), .ref (q0 6), .ref (q0 7), .ref (q0 8), .ref (q0 9), .ref (q0 10), .ref (q0 11), .ref (q0 12), .ref (q0 13)])), kQ G (q0 3) 3 (fun i => some (q0 (50 + i))), kI G (q0 6) 1000 (gA o0 6), kJ G (q0 7) 2000 (gB o0 7), kI G (q0 13) 5 (gA o0 13), ((q0 4), .inr (5, [.ref (r1 0), .int (gI o1 1), .int (gI o1 2), .ref (q1 3), .ref (q1 4), .ref (q1 5), .ref (q1 6), .ref (q1 7), .ref (q1 8), .ref (q1 9), .ref (q1 10), .int (gI o1 11), .int (gI o1 12)])), kI G (q1 3) 20 (gA o1 3), kI G (q1 4) 20 (gA o1 4), kI G (q1 5) 5 (gA o1 5), kJ G (q1 6) 5 (gB o1 6), kJ G (q1 7) 5 (gB o1 7), kJ G (q1 8) 6 (gB o1 8), kI G (q1 10) 5 (gA o1 10), ((q0 8), .inr (2, [.ref (q2 0), .ref (q2 1), .ref (q2 2)])), kI G (q2 0) 100 (gA o2 0), kI G (q2 1) 100 (gA o2 1), kI G (q2 2) 100 (gA o2 2), ((q0 12), .inr (9, [.int (gI u4 0), .ref (q3 1), .ref (q3 2), .ref (q3 3), .ref (q3 4), .ref (q3 5), .ref (q3 6), .ref (q3 7), .int (gI u4 8), .ref (u3 9), .int (gI u4 10), .ref (u3 11)])), kI G (q3 1) 5 (gA u4 1), kI G (q3 2) 20 (gA u4 2), kI G (q3 3) 5 (gA u4 3), kI G (q3 4) 5 (gA u4 4), kI G (q3 5) 5 (gA u4 5), kI G (q3 6) 5 (gA u4 6), kI G (q3 7) 5 (gA u4 7), kB G (u3 9) (u3 109) (gA u4 9), kI G (u3 11) (u3 111) (gA u4 11)] H := hP
    have hD : va_D A [(h0, .inr (0, [.int (gI o0 0), .ref (q0 1), .ref (q0 2), .ref (q0 3), .ref (q0 4), .ref (q0 5), .ref (q0 6), .ref (q0 7), .ref (q0 8), .ref (q0 9), .ref (q0 10), .ref (q0 11), .ref (q0 12), .ref (q0 13)])), kQ G (q0 3) 3 (fun i => some (q0 (50 + i))), kI G (q0 6) 1000 (gA o0 6), kJ G (q0 7) 2000 (gB o0 7), kI G (q0 13) 5 (gA o0 13), ((q0 4), .inr (5, [.ref (r1 0), .int (gI o1 1), .int (gI o1 2), .ref (q1 3), .ref (q1 4), .ref (q1 5), .ref (q1 6), .ref (q1 7), .ref (q1 8), .ref (q1 9), .ref (q1 10), .int (gI o1 11), .int (gI o1 12)])), kI G (q1 3) 20 (gA o1 3), kI G (q1 4) 20 (gA o1 4), kI G (q1 5) 5 (gA o1 5), kJ G (q1 6) 5 (gB o1 6), kJ G (q1 7) 5 (gB o1 7), kJ G (q1 8) 6 (gB o1 8), kI G (q1 10) 5 (gA o1 10), ((q0 8), .inr (2, [.ref (q2 0), .ref (q2 1), .ref (q2 2)])), kI G (q2 0) 100 (gA o2 0), kI G (q2 1) 100 (gA o2 1), kI G (q2 2) 100 (gA o2 2), ((q0 12), .inr (9, [.int (gI u4 0), .ref (q3 1), .ref (q3 2), .ref (q3 3), .ref (q3 4), .ref (q3 5), .ref (q3 6), .ref (q3 7), .int (gI u4 8), .ref (u3 9), .int (gI u4 10), .ref (u3 11)])), kI G (q3 1) 5 (gA u4 1), kI G (q3 2) 20 (gA u4 2), kI G (q3 3) 5 (gA u4 3), kI G (q3 4) 5 (gA u4 4), kI G (q3 5) 5 (gA u4 5), kI G (q3 6) 5 (gA u4 6), kI G (q3 7) 5 (gA u4 7), kB G (u3 9) (u3 109) (gA u4 9), kI G (u3 11) (u3 111) (gA u4 11)] := hD
    refine lv_aload_n hx hb d_PV_makes_25 rfl (lv_at hl 0 rfl) ?_
    refine va_get (D := G.1) (ci := 0) (v := .ref (q0 12)) (C := R_PV) (T := T_PV) (N := 14) hx hb hts i_PV hown hK hP 0 rfl rfl 12 (by decide) (hts _ wf_PV_98) (fun _ h9 => h9) rfl d_PV_makes_26 ?_
    refine cl_Vi (b := b_PV_makes) (As := []) (rest := []) (ws := [(h0, .inr (0, [.int (gI o0 0), .ref (q0 1), .ref (q0 2), .ref (q0 3), .ref (q0 4), .ref (q0 5), .ref (q0 6), .ref (q0 7), .ref (q0 8), .ref (q0 9), .ref (q0 10), .ref (q0 11), .ref (q0 12), .ref (q0 13)])), kQ G (q0 3) 3 (fun i => some (q0 (50 + i))), kI G (q0 6) 1000 (gA o0 6), kJ G (q0 7) 2000 (gB o0 7), kI G (q0 13) 5 (gA o0 13), ((q0 4), .inr (5, [.ref (r1 0), .int (gI o1 1), .int (gI o1 2), .ref (q1 3), .ref (q1 4), .ref (q1 5), .ref (q1 6), .ref (q1 7), .ref (q1 8), .ref (q1 9), .ref (q1 10), .int (gI o1 11), .int (gI o1 12)])), kI G (q1 3) 20 (gA o1 3), kI G (q1 4) 20 (gA o1 4), kI G (q1 5) 5 (gA o1 5), kJ G (q1 6) 5 (gB o1 6), kJ G (q1 7) 5 (gB o1 7), kJ G (q1 8) 6 (gB o1 8), kI G (q1 10) 5 (gA o1 10), ((q0 8), .inr (2, [.ref (q2 0), .ref (q2 1), .ref (q2 2)])), kI G (q2 0) 100 (gA o2 0), kI G (q2 1) 100 (gA o2 1), kI G (q2 2) 100 (gA o2 2), ((q0 12), .inr (9, [.int (gI u4 0), .ref (q3 1), .ref (q3 2), .ref (q3 3), .ref (q3 4), .ref (q3 5), .ref (q3 6), .ref (q3 7), .int (gI u4 8), .ref (u3 9), .int (gI u4 10), .ref (u3 11)])), kI G (q3 1) 5 (gA u4 1), kI G (q3 2) 20 (gA u4 2), kI G (q3 3) 5 (gA u4 3), kI G (q3 4) 5 (gA u4 4), kI G (q3 5) 5 (gA u4 5), kI G (q3 6) 5 (gA u4 6), kI G (q3 7) 5 (gA u4 7), kB G (u3 9) (u3 109) (gA u4 9), kI G (u3 11) (u3 111) (gA u4 11)]) (wr := [(h0, .inr (0, [.int (gI o0 0), .ref (q0 1), .ref (q0 2), .ref (q0 3), .ref (q0 4), .ref (q0 5), .ref (q0 6), .ref (q0 7), .ref (q0 8), .ref (q0 9), .ref (q0 10), .ref (q0 11), .ref (q0 12), .ref (q0 13)])), kQ G (q0 3) 3 (fun i => some (q0 (50 + i))), kI G (q0 6) 1000 (gA o0 6), kJ G (q0 7) 2000 (gB o0 7), kI G (q0 13) 5 (gA o0 13), ((q0 4), .inr (5, [.ref (r1 0), .int (gI o1 1), .int (gI o1 2), .ref (q1 3), .ref (q1 4), .ref (q1 5), .ref (q1 6), .ref (q1 7), .ref (q1 8), .ref (q1 9), .ref (q1 10), .int (gI o1 11), .int (gI o1 12)])), kI G (q1 3) 20 (gA o1 3), kI G (q1 4) 20 (gA o1 4), kI G (q1 5) 5 (gA o1 5), kJ G (q1 6) 5 (gB o1 6), kJ G (q1 7) 5 (gB o1 7), kJ G (q1 8) 6 (gB o1 8), kI G (q1 10) 5 (gA o1 10), ((q0 8), .inr (2, [.ref (q2 0), .ref (q2 1), .ref (q2 2)])), kI G (q2 0) 100 (gA o2 0), kI G (q2 1) 100 (gA o2 1), kI G (q2 2) 100 (gA o2 2)]) (w2 := fun (u : Unit) => [(h0, .inr (0, [.int (gI o0 0), .ref (q0 1), .ref (q0 2), .ref (q0 3), .ref (q0 4), .ref (q0 5), .ref (q0 6), .ref (q0 7), .ref (q0 8), .ref (q0 9), .ref (q0 10), .ref (q0 11), .ref (q0 12), .ref (q0 13)])), kQ G (q0 3) 3 (fun i => some (q0 (50 + i))), kI G (q0 6) 1000 (gA o0 6), kJ G (q0 7) 2000 (gB o0 7), kI G (q0 13) 5 (gA o0 13), ((q0 4), .inr (5, [.ref (r1 0), .int (gI o1 1), .int (gI o1 2), .ref (q1 3), .ref (q1 4), .ref (q1 5), .ref (q1 6), .ref (q1 7), .ref (q1 8), .ref (q1 9), .ref (q1 10), .int (gI o1 11), .int (gI o1 12)])), kI G (q1 3) 20 (gA o1 3), kI G (q1 4) 20 (gA o1 4), kI G (q1 5) 5 (gA o1 5), kJ G (q1 6) 5 (gB o1 6), kJ G (q1 7) 5 (gB o1 7), kJ G (q1 8) 6 (gB o1 8), kI G (q1 10) 5 (gA o1 10), ((q0 8), .inr (2, [.ref (q2 0), .ref (q2 1), .ref (q2 2)])), kI G (q2 0) 100 (gA o2 0), kI G (q2 1) 100 (gA o2 1), kI G (q2 2) 100 (gA o2 2), ((q0 12), .inr (9, [.int (gI u4 0), .ref (q3 1), .ref (q3 2), .ref (q3 3), .ref (q3 4), .ref (q3 5), .ref (q3 6), .ref (q3 7), .int (gI u4 8), .ref (u3 9), .int (gI u4 10), .ref (u3 11)])), kI G (q3 1) 5 (gA u4 1), kI G (q3 2) 20 (gA u4 2), kI G (q3 3) 5 (gA u4 3), kI G (q3 4) 5 (gA u4 4), kI G (q3 5) 5 (gA u4 5), kI G (q3 6) 5 (gA u4 6), kI G (q3 7) 5 (gA u4 7), kB G (u3 9) (u3 109) (gA u4 9), kI G (u3 11) (u3 111) (gA u4 11)]) C (c_Sh_countFits (h0 := (q0 12)) (q0 := q3) H.size h) wv_PV_283 ⟨Nat.le_of_ble_eq_true rfl, Nat.le_of_ble_eq_true rfl⟩ hP hD hS 17 rfl rfl [17, 18, 19, 20, 21, 22, 23, 24, 25, 26] [0, 1, 2, 3, 4, 5, 6, 7, 8, 9, 10, 11, 12, 13, 14, 15, 16] rfl rfl (by decide) (by decide) (by decide) [0, 1, 2, 3, 4, 5, 6, 7, 8, 9, 10, 11, 12, 13, 14, 15, 16, 17, 18, 19, 20, 21, 22, 23, 24, 25, 26] (by decide) (fun u => rfl) rfl hl.1 rfl (lv_room (Nat.le_of_ble_eq_true rfl)) d_PV_makes_29 ⟨Nat.le_of_ble_eq_true rfl, Nat.le_of_ble_eq_true rfl⟩ rfl rfl (fun z5 u H locs h hP hD hS => ?_)
    have hP : va_P G.1 CL [(h0, .inr (0, [.int (gI o0 0), .ref (q0 1), .ref (q0 2), .ref (q0 3), .ref (q0 4), .ref (q0 5), .ref (q0 6), .ref (q0 7), .ref (q0 8), .ref (q0 9), .ref (q0 10), .ref (q0 11), .ref (q0 12), .ref (q0 13)])), kQ G (q0 3) 3 (fun i => some (q0 (50 + i))), kI G (q0 6) 1000 (gA o0 6), kJ G (q0 7) 2000 (gB o0 7), kI G (q0 13) 5 (gA o0 13), ((q0 4), .inr (5, [.ref (r1 0), .int (gI o1 1), .int (gI o1 2), .ref (q1 3), .ref (q1 4), .ref (q1 5), .ref (q1 6), .ref (q1 7), .ref (q1 8), .ref (q1 9), .ref (q1 10), .int (gI o1 11), .int (gI o1 12)])), kI G (q1 3) 20 (gA o1 3), kI G (q1 4) 20 (gA o1 4), kI G (q1 5) 5 (gA o1 5), kJ G (q1 6) 5 (gB o1 6), kJ G (q1 7) 5 (gB o1 7), kJ G (q1 8) 6 (gB o1 8), kI G (q1 10) 5 (gA o1 10), ((q0 8), .inr (2, [.ref (q2 0), .ref (q2 1), .ref (q2 2)])), kI G (q2 0) 100 (gA o2 0), kI G (q2 1) 100 (gA o2 1), kI G (q2 2) 100 (gA o2 2), ((q0 12), .inr (9, [.int (gI u4 0), .ref (q3 1), .ref (q3 2), .ref (q3 3), .ref (q3 4), .ref (q3 5), .ref (q3 6), .ref (q3 7), .int (gI u4 8), .ref (u3 9), .int (gI u4 10), .ref (u3 11)])), kI G (q3 1) 5 (gA u4 1), kI G (q3 2) 20 (gA u4 2), kI G (q3 3) 5 (gA u4 3), kI G (q3 4) 5 (gA u4 4), kI G (q3 5) 5 (gA u4 5), kI G (q3 6) 5 (gA u4 6), kI G (q3 7) 5 (gA u4 7), kB G (u3 9) (u3 109) (gA u4 9), kI G (u3 11) (u3 111) (gA u4 11)] H := hP
    have hD : va_D A [(h0, .inr (0, [.int (gI o0 0), .ref (q0 1), .ref (q0 2), .ref (q0 3), .ref (q0 4), .ref (q0 5), .ref (q0 6), .ref (q0 7), .ref (q0 8), .ref (q0 9), .ref (q0 10), .ref (q0 11), .ref (q0 12), .ref (q0 13)])), kQ G (q0 3) 3 (fun i => some (q0 (50 + i))), kI G (q0 6) 1000 (gA o0 6), kJ G (q0 7) 2000 (gB o0 7), kI G (q0 13) 5 (gA o0 13), ((q0 4), .inr (5, [.ref (r1 0), .int (gI o1 1), .int (gI o1 2), .ref (q1 3), .ref (q1 4), .ref (q1 5), .ref (q1 6), .ref (q1 7), .ref (q1 8), .ref (q1 9), .ref (q1 10), .int (gI o1 11), .int (gI o1 12)])), kI G (q1 3) 20 (gA o1 3), kI G (q1 4) 20 (gA o1 4), kI G (q1 5) 5 (gA o1 5), kJ G (q1 6) 5 (gB o1 6), kJ G (q1 7) 5 (gB o1 7), kJ G (q1 8) 6 (gB o1 8), kI G (q1 10) 5 (gA o1 10), ((q0 8), .inr (2, [.ref (q2 0), .ref (q2 1), .ref (q2 2)])), kI G (q2 0) 100 (gA o2 0), kI G (q2 1) 100 (gA o2 1), kI G (q2 2) 100 (gA o2 2), ((q0 12), .inr (9, [.int (gI u4 0), .ref (q3 1), .ref (q3 2), .ref (q3 3), .ref (q3 4), .ref (q3 5), .ref (q3 6), .ref (q3 7), .int (gI u4 8), .ref (u3 9), .int (gI u4 10), .ref (u3 11)])), kI G (q3 1) 5 (gA u4 1), kI G (q3 2) 20 (gA u4 2), kI G (q3 3) 5 (gA u4 3), kI G (q3 4) 5 (gA u4 4), kI G (q3 5) 5 (gA u4 5), kI G (q3 6) 5 (gA u4 6), kI G (q3 7) 5 (gA u4 7), kB G (u3 9) (u3 109) (gA u4 9), kI G (u3 11) (u3 111) (gA u4 11)] := hD
    refine W.widen (k := 1) (n := 5120) (Nat.le_of_ble_eq_true rfl) (Nat.le_of_ble_eq_true rfl) ?_
    have hP : va_P G.1 CL (cw_PV G h0 q0 o0 ++ (cw_Mo G (q0 4) q1 r1 o1 ++ (cw_He G (q0 8) q2 o2 ++ (cw_Sh G (q0 12) q3 u3 u4)))) H := hP
    have hD : va_D A (cw_PV G h0 q0 o0 ++ (cw_Mo G (q0 4) q1 r1 o1 ++ (cw_He G (q0 8) q2 o2 ++ (cw_Sh G (q0 12) q3 u3 u4)))) := hD
    exact W.iret (v := z5) hx hb hr (fun t ht hW => ⟨⟨z5, (u3, u4), rfl, h, by rw [ht]; exact hP, va_K.moved hW.alike hK, hD⟩, hS.F ht⟩) hS.2.2 d_PV_makes_32
  · have h := h.1 c2
    refine lv_iconst (v := (-1 : Int32)) hx hb d_PV_makes_7 (by decide) ?_
    refine W.widen (k := 1) (n := 5120) (Nat.le_of_ble_eq_true rfl) (Nat.le_of_ble_eq_true rfl) ?_
    have hP : va_P G.1 CL (cw_PV G h0 q0 o0 ++ (cw_Mo G (q0 4) q1 r1 o1 ++ (cw_He G (q0 8) q2 o2 ++ (cw_Sh G (q0 12) q3 r3 o3)))) H := hP
    have hD : va_D A (cw_PV G h0 q0 o0 ++ (cw_Mo G (q0 4) q1 r1 o1 ++ (cw_He G (q0 8) q2 o2 ++ (cw_Sh G (q0 12) q3 r3 o3)))) := hD
    exact W.iret (v := (-1 : Int32)) hx hb hr (fun t ht hW => ⟨⟨(-1 : Int32), (r3, o3), rfl, h, by rw [ht]; exact hP, va_K.moved hW.alike hK, hD⟩, hS.F ht⟩) hS.2.2 d_PV_makes_8
abbrev b_PV_maker : ByteArray := prog_1_method_25_code
def y_PV_maker : MethodName := ⟨R_PV, "maker", "(III)I"⟩
abbrev w_PV_maker : List Cond := Cond.code y_PV_maker b_PV_maker 5 (some .int) :: gw_tbl
theorem d_PV_maker_0 : decode b_PV_maker 0 = .ok (.iload_n 1, 1) := by decide +kernel
theorem d_PV_maker_1 : decode b_PV_maker 1 = .ok (.invokestatic 266, 3) := by decide +kernel
theorem d_PV_maker_4 : decode b_PV_maker 4 = .ok (.ifCond .eq 15, 3) := by decide +kernel
theorem d_PV_maker_7 : decode b_PV_maker 7 = .ok (.iload_n 2, 1) := by decide +kernel
theorem d_PV_maker_8 : decode b_PV_maker 8 = .ok (.ifCond .lt 11, 3) := by decide +kernel
theorem d_PV_maker_11 : decode b_PV_maker 11 = .ok (.aload_n 0, 1) := by decide +kernel
theorem d_PV_maker_12 : decode b_PV_maker 12 = .ok (.iload_n 3, 1) := by decide +kernel
theorem d_PV_maker_13 : decode b_PV_maker 13 = .ok (.invokevirtual 145, 3) := by decide +kernel
theorem d_PV_maker_16 : decode b_PV_maker 16 = .ok (.ifCond .ne 5, 3) := by decide +kernel
theorem d_PV_maker_19 : decode b_PV_maker 19 = .ok (.iconst (-1), 1) := by decide +kernel
theorem d_PV_maker_20 : decode b_PV_maker 20 = .ok (.ireturn, 1) := by decide +kernel
theorem d_PV_maker_21 : decode b_PV_maker 21 = .ok (.aload_n 0, 1) := by decide +kernel
theorem d_PV_maker_22 : decode b_PV_maker 22 = .ok (.getfield 98, 3) := by decide +kernel
theorem d_PV_maker_25 : decode b_PV_maker 25 = .ok (.aload_n 0, 1) := by decide +kernel
theorem d_PV_maker_26 : decode b_PV_maker 26 = .ok (.getfield 50, 3) := by decide +kernel
theorem d_PV_maker_29 : decode b_PV_maker 29 = .ok (.aload_n 0, 1) := by decide +kernel
theorem d_PV_maker_30 : decode b_PV_maker 30 = .ok (.getfield 68, 3) := by decide +kernel
theorem d_PV_maker_33 : decode b_PV_maker 33 = .ok (.iload_n 1, 1) := by decide +kernel
theorem d_PV_maker_34 : decode b_PV_maker 34 = .ok (.invokevirtual 279, 3) := by decide +kernel
theorem d_PV_maker_37 : decode b_PV_maker 37 = .ok (.aload_n 0, 1) := by decide +kernel
theorem d_PV_maker_38 : decode b_PV_maker 38 = .ok (.getfield 98, 3) := by decide +kernel
theorem d_PV_maker_41 : decode b_PV_maker 41 = .ok (.iload_n 2, 1) := by decide +kernel
theorem d_PV_maker_42 : decode b_PV_maker 42 = .ok (.invokevirtual 286, 3) := by decide +kernel
theorem d_PV_maker_45 : decode b_PV_maker 45 = .ok (.istore 4, 2) := by decide +kernel
theorem d_PV_maker_47 : decode b_PV_maker 47 = .ok (.iload 4, 2) := by decide +kernel
theorem d_PV_maker_49 : decode b_PV_maker 49 = .ok (.iconst (-1), 1) := by decide +kernel
theorem d_PV_maker_50 : decode b_PV_maker 50 = .ok (.if_icmp .ne 7, 3) := by decide +kernel
theorem d_PV_maker_53 : decode b_PV_maker 53 = .ok (.iconst (-1), 1) := by decide +kernel
theorem d_PV_maker_54 : decode b_PV_maker 54 = .ok (.goto 13, 3) := by decide +kernel
theorem d_PV_maker_57 : decode b_PV_maker 57 = .ok (.aload_n 0, 1) := by decide +kernel
theorem d_PV_maker_58 : decode b_PV_maker 58 = .ok (.getfield 98, 3) := by decide +kernel
theorem d_PV_maker_61 : decode b_PV_maker 61 = .ok (.iload 4, 2) := by decide +kernel
theorem d_PV_maker_63 : decode b_PV_maker 63 = .ok (.iload_n 3, 1) := by decide +kernel
theorem d_PV_maker_64 : decode b_PV_maker 64 = .ok (.invokevirtual 289, 3) := by decide +kernel
theorem d_PV_maker_67 : decode b_PV_maker 67 = .ok (.ireturn, 1) := by decide +kernel
theorem wv_PV_286 : wV R_PV 286 y_Sh_fitAt b_Sh_fitAt 4 (some .int) 1 := ⟨⟨gw_tb (List.mem_of_getElem? (i := 874) (by decide +kernel)) rfl, gw_tb (List.mem_of_getElem? (i := 12) (by decide +kernel)) rfl, gw_tb (List.mem_of_getElem? (i := 877) (by decide +kernel)) rfl, by decide, by decide, by decide +kernel⟩, gw_tb (List.mem_of_getElem? (i := 875) (by decide +kernel)) rfl, gw_tb (List.mem_of_getElem? (i := 876) (by decide +kernel)) rfl⟩
theorem wv_PV_289 : wV R_PV 289 y_Sh_widthIn b_Sh_widthIn 3 (some .int) 2 := ⟨⟨gw_tb (List.mem_of_getElem? (i := 878) (by decide +kernel)) rfl, gw_tb (List.mem_of_getElem? (i := 12) (by decide +kernel)) rfl, gw_tb (List.mem_of_getElem? (i := 860) (by decide +kernel)) rfl, by decide, by decide, by decide +kernel⟩, gw_tb (List.mem_of_getElem? (i := 858) (by decide +kernel)) rfl, gw_tb (List.mem_of_getElem? (i := 859) (by decide +kernel)) rfl⟩
def f_PV_maker (a0 : Int32) (a1 : Int32) (a2 : Int32) (o0 : Ob) (r1 : (Nat → Nat)) (o1 : Ob) (o2 : Ob) (r3 : (Nat → Nat)) (o3 : Ob) (Q : Int32 → (Nat → Nat) → Ob → Prop) : Prop := f_PV_isSound a0 (fun z1 => (z1 = 0 → (Q (-1 : Int32) r3 o3)) ∧ (¬ z1 = 0 → ((a1 < 0 → (Q (-1 : Int32) r3 o3)) ∧ (¬ a1 < 0 → (f_PV_isPiece a2 o0 (fun z4 => (z4 = 0 → (Q (-1 : Int32) r3 o3)) ∧ (¬ z4 = 0 → (f_Sh_ask a0 r3 o3 r1 o1 o2 (fun u6 u7 => f_Sh_fitAt a1 u6 u7 (fun z8 => (z8 = (-1 : Int32) → (Q (-1 : Int32) u6 u7)) ∧ (¬ z8 = (-1 : Int32) → (f_Sh_widthIn z8 a2 u6 u7 (fun z10 => Q z10 u6 u7)))))))))))))
abbrev rm_PV_maker : Room := { frames := 4, cells := 1, slots := 5120, locals := 110 }
set_option maxHeartbeats 4000000 in
set_option maxRecDepth 100000 in
theorem c_PV_maker {l : Launch} {G : Gl} {h0 : Nat} {q0 : Nat → Nat} {q1 : Nat → Nat} {q2 : Nat → Nat} {q3 : Nat → Nat} {a0 : Int32} {a1 : Int32} {a2 : Int32} {o0 : Ob} {r1 : (Nat → Nat)} {o1 : Ob} {o2 : Ob} {r3 : (Nat → Nat)} {o3 : Ob} {Q : Int32 → (Nat → Nat) → Ob → Prop} (sz : Nat) (h : f_PV_maker a0 a1 a2 o0 r1 o1 o2 r3 o3 Q) : Met l y_PV_maker w_PV_maker rm_PV_maker (PcW G [.ref h0, .int a0, .int a1, .int a2] sz (cw_PV G h0 q0 o0 ++ (cw_Mo G (q0 4) q1 r1 o1 ++ (cw_He G (q0 8) q2 o2 ++ (cw_Sh G (q0 12) q3 r3 o3))))) (va_Qi (fun (r : Int32) (u : (Nat → Nat) × Ob) => Q r u.1 u.2) (fun (u : (Nat → Nat) × Ob) t => BW G (va_A (cw_PV G h0 q0 o0 ++ (cw_Mo G (q0 4) q1 r1 o1 ++ (cw_He G (q0 8) q2 o2 ++ (cw_Sh G (q0 12) q3 r3 o3)))) sz) (cw_PV G h0 q0 o0 ++ (cw_Mo G (q0 4) q1 r1 o1 ++ (cw_He G (q0 8) q2 o2 ++ (cw_Sh G (q0 12) q3 u.1 u.2)))) t) (va_A (cw_PV G h0 q0 o0 ++ (cw_Mo G (q0 4) q1 r1 o1 ++ (cw_He G (q0 8) q2 o2 ++ (cw_Sh G (q0 12) q3 r3 o3)))) sz)) 1 5120 (va_A (cw_PV G h0 q0 o0 ++ (cw_Mo G (q0 4) q1 r1 o1 ++ (cw_He G (q0 8) q2 o2 ++ (cw_Sh G (q0 12) q3 r3 o3)))) sz) := by
  refine Met.ofW (cc := b_PV_maker) (maxL := 5) (ret := (some .int)) (by decide +kernel) rfl ?_
  intro p e s m args below meth c s₁ B hml hv
  obtain ⟨rfl, hsz, hP, hK, hD0, hE⟩ := hv
  have hx := B.exec
  have hb := B.bytes
  have hr := B.returns
  have hts0 := atoms_spec (ws := w_PV_maker) B.pre
  have hts : ∀ w ∈ gw_tbl, w.before ([.ref h0, .int a0, .int a1, .int a2]).toArray s = true := fun w hw => hts0 w (List.mem_cons_of_mem _ hw)
  have hown : s.vm.findClass R_PV = some m.cls := findClass_of_methodNamed B.named
  have hlocks := B.notSynchronized
  subst hsz
  have hD := hD0.self (sz := s.heap.size)
  generalize hAe : va_A (cw_PV G h0 q0 o0 ++ (cw_Mo G (q0 4) q1 r1 o1 ++ (cw_He G (q0 8) q2 o2 ++ (cw_Sh G (q0 12) q3 r3 o3)))) s.heap.size = A at hD hE ⊢
  have hA : ∀ q : Nat, s.heap.size ≤ q → A q := fun q h => by rw [← hAe]; exact Or.inr h
  have hS : va_S A s.heap s.heap [] := va_S.rf
  have C : Cx p s m ([.ref h0, .int a0, .int a1, .int a2]).toArray meth c R_PV b_PV_maker 5 (some .int) G A := ⟨hx, hb, hml, hown, hr, hts, hK, hA, hlocks, hE⟩
  have hl := lv_entry ([.ref h0, .int a0, .int a1, .int a2]) (n := 5) (Nat.le_of_ble_eq_true rfl)
  rw [lg_entry_eq]
  generalize (lg_sl ([.ref h0, .int a0, .int a1, .int a2]) ++ List.replicate (5 - (lg_sl ([.ref h0, .int a0, .int a1, .int a2])).length) Slot.unset).toArray = ls at hl ⊢
  have hl : lv_has ls 5 [(0, .ref h0), (1, .int a0), (2, .int a1), (3, .int a2)] := hl
  have hD : va_D A [(h0, .inr (0, [.int (gI o0 0), .ref (q0 1), .ref (q0 2), .ref (q0 3), .ref (q0 4), .ref (q0 5), .ref (q0 6), .ref (q0 7), .ref (q0 8), .ref (q0 9), .ref (q0 10), .ref (q0 11), .ref (q0 12), .ref (q0 13)])), kQ G (q0 3) 3 (fun i => some (q0 (50 + i))), kI G (q0 6) 1000 (gA o0 6), kJ G (q0 7) 2000 (gB o0 7), kI G (q0 13) 5 (gA o0 13), ((q0 4), .inr (5, [.ref (r1 0), .int (gI o1 1), .int (gI o1 2), .ref (q1 3), .ref (q1 4), .ref (q1 5), .ref (q1 6), .ref (q1 7), .ref (q1 8), .ref (q1 9), .ref (q1 10), .int (gI o1 11), .int (gI o1 12)])), kI G (q1 3) 20 (gA o1 3), kI G (q1 4) 20 (gA o1 4), kI G (q1 5) 5 (gA o1 5), kJ G (q1 6) 5 (gB o1 6), kJ G (q1 7) 5 (gB o1 7), kJ G (q1 8) 6 (gB o1 8), kI G (q1 10) 5 (gA o1 10), ((q0 8), .inr (2, [.ref (q2 0), .ref (q2 1), .ref (q2 2)])), kI G (q2 0) 100 (gA o2 0), kI G (q2 1) 100 (gA o2 1), kI G (q2 2) 100 (gA o2 2), ((q0 12), .inr (9, [.int (gI o3 0), .ref (q3 1), .ref (q3 2), .ref (q3 3), .ref (q3 4), .ref (q3 5), .ref (q3 6), .ref (q3 7), .int (gI o3 8), .ref (r3 9), .int (gI o3 10), .ref (r3 11)])), kI G (q3 1) 5 (gA o3 1), kI G (q3 2) 20 (gA o3 2), kI G (q3 3) 5 (gA o3 3), kI G (q3 4) 5 (gA o3 4), kI G (q3 5) 5 (gA o3 5), kI G (q3 6) 5 (gA o3 6), kI G (q3 7) 5 (gA o3 7), kB G (r3 9) (r3 109) (gA o3 9), kI G (r3 11) (r3 111) (gA o3 11)] := hD
  unfold f_PV_maker at h
  suffices key : ∀ (H : Heap) (locs : List Loc), va_P G.1 CL [(h0, .inr (0, [.int (gI o0 0), .ref (q0 1), .ref (q0 2), .ref (q0 3), .ref (q0 4), .ref (q0 5), .ref (q0 6), .ref (q0 7), .ref (q0 8), .ref (q0 9), .ref (q0 10), .ref (q0 11), .ref (q0 12), .ref (q0 13)])), kQ G (q0 3) 3 (fun i => some (q0 (50 + i))), kI G (q0 6) 1000 (gA o0 6), kJ G (q0 7) 2000 (gB o0 7), kI G (q0 13) 5 (gA o0 13), ((q0 4), .inr (5, [.ref (r1 0), .int (gI o1 1), .int (gI o1 2), .ref (q1 3), .ref (q1 4), .ref (q1 5), .ref (q1 6), .ref (q1 7), .ref (q1 8), .ref (q1 9), .ref (q1 10), .int (gI o1 11), .int (gI o1 12)])), kI G (q1 3) 20 (gA o1 3), kI G (q1 4) 20 (gA o1 4), kI G (q1 5) 5 (gA o1 5), kJ G (q1 6) 5 (gB o1 6), kJ G (q1 7) 5 (gB o1 7), kJ G (q1 8) 6 (gB o1 8), kI G (q1 10) 5 (gA o1 10), ((q0 8), .inr (2, [.ref (q2 0), .ref (q2 1), .ref (q2 2)])), kI G (q2 0) 100 (gA o2 0), kI G (q2 1) 100 (gA o2 1), kI G (q2 2) 100 (gA o2 2), ((q0 12), .inr (9, [.int (gI o3 0), .ref (q3 1), .ref (q3 2), .ref (q3 3), .ref (q3 4), .ref (q3 5), .ref (q3 6), .ref (q3 7), .int (gI o3 8), .ref (r3 9), .int (gI o3 10), .ref (r3 11)])), kI G (q3 1) 5 (gA o3 1), kI G (q3 2) 20 (gA o3 2), kI G (q3 3) 5 (gA o3 3), kI G (q3 4) 5 (gA o3 4), kI G (q3 5) 5 (gA o3 5), kI G (q3 6) 5 (gA o3 6), kI G (q3 7) 5 (gA o3 7), kB G (r3 9) (r3 109) (gA o3 9), kI G (r3 11) (r3 111) (gA o3 11)] H → va_S A s.heap H locs → W p l e rm_PV_maker s m ([.ref h0, .int a0, .int a1, .int a2]).toArray below meth c H locs 0 0 (MQ below (va_Qi (fun (r : Int32) (u : (Nat → Nat) × Ob) => Q r u.1 u.2) (fun (u : (Nat → Nat) × Ob) t => BW G A (cw_PV G h0 q0 o0 ++ (cw_Mo G (q0 4) q1 r1 o1 ++ (cw_He G (q0 8) q2 o2 ++ (cw_Sh G (q0 12) q3 u.1 u.2)))) t) A) ([.ref h0, .int a0, .int a1, .int a2]).toArray s 1 5120 A) (F0 m 0 ls []) from key s.heap [] hP hS
  intro H locs hP hS
  refine lv_iload_n hx hb d_PV_maker_0 rfl (lv_at hl 1 rfl) ?_
  refine cl_Si (b := b_PV_maker) (As := [.int a0]) (rest := []) (ws := [(h0, .inr (0, [.int (gI o0 0), .ref (q0 1), .ref (q0 2), .ref (q0 3), .ref (q0 4), .ref (q0 5), .ref (q0 6), .ref (q0 7), .ref (q0 8), .ref (q0 9), .ref (q0 10), .ref (q0 11), .ref (q0 12), .ref (q0 13)])), kQ G (q0 3) 3 (fun i => some (q0 (50 + i))), kI G (q0 6) 1000 (gA o0 6), kJ G (q0 7) 2000 (gB o0 7), kI G (q0 13) 5 (gA o0 13), ((q0 4), .inr (5, [.ref (r1 0), .int (gI o1 1), .int (gI o1 2), .ref (q1 3), .ref (q1 4), .ref (q1 5), .ref (q1 6), .ref (q1 7), .ref (q1 8), .ref (q1 9), .ref (q1 10), .int (gI o1 11), .int (gI o1 12)])), kI G (q1 3) 20 (gA o1 3), kI G (q1 4) 20 (gA o1 4), kI G (q1 5) 5 (gA o1 5), kJ G (q1 6) 5 (gB o1 6), kJ G (q1 7) 5 (gB o1 7), kJ G (q1 8) 6 (gB o1 8), kI G (q1 10) 5 (gA o1 10), ((q0 8), .inr (2, [.ref (q2 0), .ref (q2 1), .ref (q2 2)])), kI G (q2 0) 100 (gA o2 0), kI G (q2 1) 100 (gA o2 1), kI G (q2 2) 100 (gA o2 2), ((q0 12), .inr (9, [.int (gI o3 0), .ref (q3 1), .ref (q3 2), .ref (q3 3), .ref (q3 4), .ref (q3 5), .ref (q3 6), .ref (q3 7), .int (gI o3 8), .ref (r3 9), .int (gI o3 10), .ref (r3 11)])), kI G (q3 1) 5 (gA o3 1), kI G (q3 2) 20 (gA o3 2), kI G (q3 3) 5 (gA o3 3), kI G (q3 4) 5 (gA o3 4), kI G (q3 5) 5 (gA o3 5), kI G (q3 6) 5 (gA o3 6), kI G (q3 7) 5 (gA o3 7), kB G (r3 9) (r3 109) (gA o3 9), kI G (r3 11) (r3 111) (gA o3 11)]) (wr := [(h0, .inr (0, [.int (gI o0 0), .ref (q0 1), .ref (q0 2), .ref (q0 3), .ref (q0 4), .ref (q0 5), .ref (q0 6), .ref (q0 7), .ref (q0 8), .ref (q0 9), .ref (q0 10), .ref (q0 11), .ref (q0 12), .ref (q0 13)])), kQ G (q0 3) 3 (fun i => some (q0 (50 + i))), kI G (q0 6) 1000 (gA o0 6), kJ G (q0 7) 2000 (gB o0 7), kI G (q0 13) 5 (gA o0 13), ((q0 4), .inr (5, [.ref (r1 0), .int (gI o1 1), .int (gI o1 2), .ref (q1 3), .ref (q1 4), .ref (q1 5), .ref (q1 6), .ref (q1 7), .ref (q1 8), .ref (q1 9), .ref (q1 10), .int (gI o1 11), .int (gI o1 12)])), kI G (q1 3) 20 (gA o1 3), kI G (q1 4) 20 (gA o1 4), kI G (q1 5) 5 (gA o1 5), kJ G (q1 6) 5 (gB o1 6), kJ G (q1 7) 5 (gB o1 7), kJ G (q1 8) 6 (gB o1 8), kI G (q1 10) 5 (gA o1 10), ((q0 8), .inr (2, [.ref (q2 0), .ref (q2 1), .ref (q2 2)])), kI G (q2 0) 100 (gA o2 0), kI G (q2 1) 100 (gA o2 1), kI G (q2 2) 100 (gA o2 2), ((q0 12), .inr (9, [.int (gI o3 0), .ref (q3 1), .ref (q3 2), .ref (q3 3), .ref (q3 4), .ref (q3 5), .ref (q3 6), .ref (q3 7), .int (gI o3 8), .ref (r3 9), .int (gI o3 10), .ref (r3 11)])), kI G (q3 1) 5 (gA o3 1), kI G (q3 2) 20 (gA o3 2), kI G (q3 3) 5 (gA o3 3), kI G (q3 4) 5 (gA o3 4), kI G (q3 5) 5 (gA o3 5), kI G (q3 6) 5 (gA o3 6), kI G (q3 7) 5 (gA o3 7), kB G (r3 9) (r3 109) (gA o3 9), kI G (r3 11) (r3 111) (gA o3 11)]) (w2 := fun (u : Unit) => [(h0, .inr (0, [.int (gI o0 0), .ref (q0 1), .ref (q0 2), .ref (q0 3), .ref (q0 4), .ref (q0 5), .ref (q0 6), .ref (q0 7), .ref (q0 8), .ref (q0 9), .ref (q0 10), .ref (q0 11), .ref (q0 12), .ref (q0 13)])), kQ G (q0 3) 3 (fun i => some (q0 (50 + i))), kI G (q0 6) 1000 (gA o0 6), kJ G (q0 7) 2000 (gB o0 7), kI G (q0 13) 5 (gA o0 13), ((q0 4), .inr (5, [.ref (r1 0), .int (gI o1 1), .int (gI o1 2), .ref (q1 3), .ref (q1 4), .ref (q1 5), .ref (q1 6), .ref (q1 7), .ref (q1 8), .ref (q1 9), .ref (q1 10), .int (gI o1 11), .int (gI o1 12)])), kI G (q1 3) 20 (gA o1 3), kI G (q1 4) 20 (gA o1 4), kI G (q1 5) 5 (gA o1 5), kJ G (q1 6) 5 (gB o1 6), kJ G (q1 7) 5 (gB o1 7), kJ G (q1 8) 6 (gB o1 8), kI G (q1 10) 5 (gA o1 10), ((q0 8), .inr (2, [.ref (q2 0), .ref (q2 1), .ref (q2 2)])), kI G (q2 0) 100 (gA o2 0), kI G (q2 1) 100 (gA o2 1), kI G (q2 2) 100 (gA o2 2), ((q0 12), .inr (9, [.int (gI o3 0), .ref (q3 1), .ref (q3 2), .ref (q3 3), .ref (q3 4), .ref (q3 5), .ref (q3 6), .ref (q3 7), .int (gI o3 8), .ref (r3 9), .int (gI o3 10), .ref (r3 11)])), kI G (q3 1) 5 (gA o3 1), kI G (q3 2) 20 (gA o3 2), kI G (q3 3) 5 (gA o3 3), kI G (q3 4) 5 (gA o3 4), kI G (q3 5) 5 (gA o3 5), kI G (q3 6) 5 (gA o3 6), kI G (q3 7) 5 (gA o3 7), kB G (r3 9) (r3 109) (gA o3 9), kI G (r3 11) (r3 111) (gA o3 11)]) C (c_PV_isSound H.size h) ws_PV_266 ⟨Nat.le_of_ble_eq_true rfl, Nat.le_of_ble_eq_true rfl⟩ hP hD hS [] [0, 1, 2, 3, 4, 5, 6, 7, 8, 9, 10, 11, 12, 13, 14, 15, 16, 17, 18, 19, 20, 21, 22, 23, 24, 25, 26] rfl rfl (by decide) (by decide) (by decide) [0, 1, 2, 3, 4, 5, 6, 7, 8, 9, 10, 11, 12, 13, 14, 15, 16, 17, 18, 19, 20, 21, 22, 23, 24, 25, 26] (by decide) (fun u => rfl) rfl hl.1 rfl (lv_room (Nat.le_of_ble_eq_true rfl)) d_PV_maker_1 ⟨Nat.le_of_ble_eq_true rfl, Nat.le_of_ble_eq_true rfl⟩ rfl rfl (fun z1 u H locs h hP hD hS => ?_)
  have hP : va_P G.1 CL [(h0, .inr (0, [.int (gI o0 0), .ref (q0 1), .ref (q0 2), .ref (q0 3), .ref (q0 4), .ref (q0 5), .ref (q0 6), .ref (q0 7), .ref (q0 8), .ref (q0 9), .ref (q0 10), .ref (q0 11), .ref (q0 12), .ref (q0 13)])), kQ G (q0 3) 3 (fun i => some (q0 (50 + i))), kI G (q0 6) 1000 (gA o0 6), kJ G (q0 7) 2000 (gB o0 7), kI G (q0 13) 5 (gA o0 13), ((q0 4), .inr (5, [.ref (r1 0), .int (gI o1 1), .int (gI o1 2), .ref (q1 3), .ref (q1 4), .ref (q1 5), .ref (q1 6), .ref (q1 7), .ref (q1 8), .ref (q1 9), .ref (q1 10), .int (gI o1 11), .int (gI o1 12)])), kI G (q1 3) 20 (gA o1 3), kI G (q1 4) 20 (gA o1 4), kI G (q1 5) 5 (gA o1 5), kJ G (q1 6) 5 (gB o1 6), kJ G (q1 7) 5 (gB o1 7), kJ G (q1 8) 6 (gB o1 8), kI G (q1 10) 5 (gA o1 10), ((q0 8), .inr (2, [.ref (q2 0), .ref (q2 1), .ref (q2 2)])), kI G (q2 0) 100 (gA o2 0), kI G (q2 1) 100 (gA o2 1), kI G (q2 2) 100 (gA o2 2), ((q0 12), .inr (9, [.int (gI o3 0), .ref (q3 1), .ref (q3 2), .ref (q3 3), .ref (q3 4), .ref (q3 5), .ref (q3 6), .ref (q3 7), .int (gI o3 8), .ref (r3 9), .int (gI o3 10), .ref (r3 11)])), kI G (q3 1) 5 (gA o3 1), kI G (q3 2) 20 (gA o3 2), kI G (q3 3) 5 (gA o3 3), kI G (q3 4) 5 (gA o3 4), kI G (q3 5) 5 (gA o3 5), kI G (q3 6) 5 (gA o3 6), kI G (q3 7) 5 (gA o3 7), kB G (r3 9) (r3 109) (gA o3 9), kI G (r3 11) (r3 111) (gA o3 11)] H := hP
  have hD : va_D A [(h0, .inr (0, [.int (gI o0 0), .ref (q0 1), .ref (q0 2), .ref (q0 3), .ref (q0 4), .ref (q0 5), .ref (q0 6), .ref (q0 7), .ref (q0 8), .ref (q0 9), .ref (q0 10), .ref (q0 11), .ref (q0 12), .ref (q0 13)])), kQ G (q0 3) 3 (fun i => some (q0 (50 + i))), kI G (q0 6) 1000 (gA o0 6), kJ G (q0 7) 2000 (gB o0 7), kI G (q0 13) 5 (gA o0 13), ((q0 4), .inr (5, [.ref (r1 0), .int (gI o1 1), .int (gI o1 2), .ref (q1 3), .ref (q1 4), .ref (q1 5), .ref (q1 6), .ref (q1 7), .ref (q1 8), .ref (q1 9), .ref (q1 10), .int (gI o1 11), .int (gI o1 12)])), kI G (q1 3) 20 (gA o1 3), kI G (q1 4) 20 (gA o1 4), kI G (q1 5) 5 (gA o1 5), kJ G (q1 6) 5 (gB o1 6), kJ G (q1 7) 5 (gB o1 7), kJ G (q1 8) 6 (gB o1 8), kI G (q1 10) 5 (gA o1 10), ((q0 8), .inr (2, [.ref (q2 0), .ref (q2 1), .ref (q2 2)])), kI G (q2 0) 100 (gA o2 0), kI G (q2 1) 100 (gA o2 1), kI G (q2 2) 100 (gA o2 2), ((q0 12), .inr (9, [.int (gI o3 0), .ref (q3 1), .ref (q3 2), .ref (q3 3), .ref (q3 4), .ref (q3 5), .ref (q3 6), .ref (q3 7), .int (gI o3 8), .ref (r3 9), .int (gI o3 10), .ref (r3 11)])), kI G (q3 1) 5 (gA o3 1), kI G (q3 2) 20 (gA o3 2), kI G (q3 3) 5 (gA o3 3), kI G (q3 4) 5 (gA o3 4), kI G (q3 5) 5 (gA o3 5), kI G (q3 6) 5 (gA o3 6), kI G (q3 7) 5 (gA o3 7), kB G (r3 9) (r3 109) (gA o3 9), kI G (r3 11) (r3 111) (gA o3 11)] := hD
  refine lv_if_eq (tgt := 19) hx hb d_PV_maker_4 (by decide) (fun c2 => ?_) (fun c2 => ?_)
  · have h := h.1 c2
    refine lv_iconst (v := (-1 : Int32)) hx hb d_PV_maker_19 (by decide) ?_
    refine W.widen (k := 1) (n := 5120) (Nat.le_of_ble_eq_true rfl) (Nat.le_of_ble_eq_true rfl) ?_
    have hP : va_P G.1 CL (cw_PV G h0 q0 o0 ++ (cw_Mo G (q0 4) q1 r1 o1 ++ (cw_He G (q0 8) q2 o2 ++ (cw_Sh G (q0 12) q3 r3 o3)))) H := hP
    have hD : va_D A (cw_PV G h0 q0 o0 ++ (cw_Mo G (q0 4) q1 r1 o1 ++ (cw_He G (q0 8) q2 o2 ++ (cw_Sh G (q0 12) q3 r3 o3)))) := hD
    exact W.iret (v := (-1 : Int32)) hx hb hr (fun t ht hW => ⟨⟨(-1 : Int32), (r3, o3), rfl, h, by rw [ht]; exact hP, va_K.moved hW.alike hK, hD⟩, hS.F ht⟩) hS.2.2 d_PV_maker_20
  · have h := h.2 c2
    refine lv_iload_n hx hb d_PV_maker_7 rfl (lv_at hl 2 rfl) ?_
    refine lv_if_lt (tgt := 19) hx hb d_PV_maker_8 (by decide) (fun c3 => ?_) (fun c3 => ?_)
    · have h := h.1 c3
      refine lv_iconst (v := (-1 : Int32)) hx hb d_PV_maker_19 (by decide) ?_
      refine W.widen (k := 1) (n := 5120) (Nat.le_of_ble_eq_true rfl) (Nat.le_of_ble_eq_true rfl) ?_
      have hP : va_P G.1 CL (cw_PV G h0 q0 o0 ++ (cw_Mo G (q0 4) q1 r1 o1 ++ (cw_He G (q0 8) q2 o2 ++ (cw_Sh G (q0 12) q3 r3 o3)))) H := hP
      have hD : va_D A (cw_PV G h0 q0 o0 ++ (cw_Mo G (q0 4) q1 r1 o1 ++ (cw_He G (q0 8) q2 o2 ++ (cw_Sh G (q0 12) q3 r3 o3)))) := hD
      exact W.iret (v := (-1 : Int32)) hx hb hr (fun t ht hW => ⟨⟨(-1 : Int32), (r3, o3), rfl, h, by rw [ht]; exact hP, va_K.moved hW.alike hK, hD⟩, hS.F ht⟩) hS.2.2 d_PV_maker_20
    · have h := h.2 c3
      refine lv_aload_n hx hb d_PV_maker_11 rfl (lv_at hl 0 rfl) ?_
      refine lv_iload_n hx hb d_PV_maker_12 rfl (lv_at hl 3 rfl) ?_
      refine cl_Vi (b := b_PV_maker) (As := [.int a2]) (rest := []) (ws := [(h0, .inr (0, [.int (gI o0 0), .ref (q0 1), .ref (q0 2), .ref (q0 3), .ref (q0 4), .ref (q0 5), .ref (q0 6), .ref (q0 7), .ref (q0 8), .ref (q0 9), .ref (q0 10), .ref (q0 11), .ref (q0 12), .ref (q0 13)])), kQ G (q0 3) 3 (fun i => some (q0 (50 + i))), kI G (q0 6) 1000 (gA o0 6), kJ G (q0 7) 2000 (gB o0 7), kI G (q0 13) 5 (gA o0 13), ((q0 4), .inr (5, [.ref (r1 0), .int (gI o1 1), .int (gI o1 2), .ref (q1 3), .ref (q1 4), .ref (q1 5), .ref (q1 6), .ref (q1 7), .ref (q1 8), .ref (q1 9), .ref (q1 10), .int (gI o1 11), .int (gI o1 12)])), kI G (q1 3) 20 (gA o1 3), kI G (q1 4) 20 (gA o1 4), kI G (q1 5) 5 (gA o1 5), kJ G (q1 6) 5 (gB o1 6), kJ G (q1 7) 5 (gB o1 7), kJ G (q1 8) 6 (gB o1 8), kI G (q1 10) 5 (gA o1 10), ((q0 8), .inr (2, [.ref (q2 0), .ref (q2 1), .ref (q2 2)])), kI G (q2 0) 100 (gA o2 0), kI G (q2 1) 100 (gA o2 1), kI G (q2 2) 100 (gA o2 2), ((q0 12), .inr (9, [.int (gI o3 0), .ref (q3 1), .ref (q3 2), .ref (q3 3), .ref (q3 4), .ref (q3 5), .ref (q3 6), .ref (q3 7), .int (gI o3 8), .ref (r3 9), .int (gI o3 10), .ref (r3 11)])), kI G (q3 1) 5 (gA o3 1), kI G (q3 2) 20 (gA o3 2), kI G (q3 3) 5 (gA o3 3), kI G (q3 4) 5 (gA o3 4), kI G (q3 5) 5 (gA o3 5), kI G (q3 6) 5 (gA o3 6), kI G (q3 7) 5 (gA o3 7), kB G (r3 9) (r3 109) (gA o3 9), kI G (r3 11) (r3 111) (gA o3 11)]) (wr := [((q0 4), .inr (5, [.ref (r1 0), .int (gI o1 1), .int (gI o1 2), .ref (q1 3), .ref (q1 4), .ref (q1 5), .ref (q1 6), .ref (q1 7), .ref (q1 8), .ref (q1 9), .ref (q1 10), .int (gI o1 11), .int (gI o1 12)])), kI G (q1 3) 20 (gA o1 3), kI G (q1 4) 20 (gA o1 4), kI G (q1 5) 5 (gA o1 5), kJ G (q1 6) 5 (gB o1 6), kJ G (q1 7) 5 (gB o1 7), kJ G (q1 8) 6 (gB o1 8), kI G (q1 10) 5 (gA o1 10), ((q0 8), .inr (2, [.ref (q2 0), .ref (q2 1), .ref (q2 2)])), kI G (q2 0) 100 (gA o2 0), kI G (q2 1) 100 (gA o2 1), kI G (q2 2) 100 (gA o2 2), ((q0 12), .inr (9, [.int (gI o3 0), .ref (q3 1), .ref (q3 2), .ref (q3 3), .ref (q3 4), .ref (q3 5), .ref (q3 6), .ref (q3 7), .int (gI o3 8), .ref (r3 9), .int (gI o3 10), .ref (r3 11)])), kI G (q3 1) 5 (gA o3 1), kI G (q3 2) 20 (gA o3 2), kI G (q3 3) 5 (gA o3 3), kI G (q3 4) 5 (gA o3 4), kI G (q3 5) 5 (gA o3 5), kI G (q3 6) 5 (gA o3 6), kI G (q3 7) 5 (gA o3 7), kB G (r3 9) (r3 109) (gA o3 9), kI G (r3 11) (r3 111) (gA o3 11)]) (w2 := fun (u : Unit) => [(h0, .inr (0, [.int (gI o0 0), .ref (q0 1), .ref (q0 2), .ref (q0 3), .ref (q0 4), .ref (q0 5), .ref (q0 6), .ref (q0 7), .ref (q0 8), .ref (q0 9), .ref (q0 10), .ref (q0 11), .ref (q0 12), .ref (q0 13)])), kQ G (q0 3) 3 (fun i => some (q0 (50 + i))), kI G (q0 6) 1000 (gA o0 6), kJ G (q0 7) 2000 (gB o0 7), kI G (q0 13) 5 (gA o0 13), ((q0 4), .inr (5, [.ref (r1 0), .int (gI o1 1), .int (gI o1 2), .ref (q1 3), .ref (q1 4), .ref (q1 5), .ref (q1 6), .ref (q1 7), .ref (q1 8), .ref (q1 9), .ref (q1 10), .int (gI o1 11), .int (gI o1 12)])), kI G (q1 3) 20 (gA o1 3), kI G (q1 4) 20 (gA o1 4), kI G (q1 5) 5 (gA o1 5), kJ G (q1 6) 5 (gB o1 6), kJ G (q1 7) 5 (gB o1 7), kJ G (q1 8) 6 (gB o1 8), kI G (q1 10) 5 (gA o1 10), ((q0 8), .inr (2, [.ref (q2 0), .ref (q2 1), .ref (q2 2)])), kI G (q2 0) 100 (gA o2 0), kI G (q2 1) 100 (gA o2 1), kI G (q2 2) 100 (gA o2 2), ((q0 12), .inr (9, [.int (gI o3 0), .ref (q3 1), .ref (q3 2), .ref (q3 3), .ref (q3 4), .ref (q3 5), .ref (q3 6), .ref (q3 7), .int (gI o3 8), .ref (r3 9), .int (gI o3 10), .ref (r3 11)])), kI G (q3 1) 5 (gA o3 1), kI G (q3 2) 20 (gA o3 2), kI G (q3 3) 5 (gA o3 3), kI G (q3 4) 5 (gA o3 4), kI G (q3 5) 5 (gA o3 5), kI G (q3 6) 5 (gA o3 6), kI G (q3 7) 5 (gA o3 7), kB G (r3 9) (r3 109) (gA o3 9), kI G (r3 11) (r3 111) (gA o3 11)]) C (c_PV_isPiece (h0 := h0) (q0 := q0) H.size h) wv_PV_145 ⟨Nat.le_of_ble_eq_true rfl, Nat.le_of_ble_eq_true rfl⟩ hP hD hS 0 rfl rfl [0, 1, 2, 3, 4] [5, 6, 7, 8, 9, 10, 11, 12, 13, 14, 15, 16, 17, 18, 19, 20, 21, 22, 23, 24, 25, 26] rfl rfl (by decide) (by decide) (by decide) [22, 23, 24, 25, 26, 0, 1, 2, 3, 4, 5, 6, 7, 8, 9, 10, 11, 12, 13, 14, 15, 16, 17, 18, 19, 20, 21] (by decide) (fun u => rfl) rfl hl.1 rfl (lv_room (Nat.le_of_ble_eq_true rfl)) d_PV_maker_13 ⟨Nat.le_of_ble_eq_true rfl, Nat.le_of_ble_eq_true rfl⟩ rfl rfl (fun z4 u H locs h hP hD hS => ?_)
      have hP : va_P G.1 CL [(h0, .inr (0, [.int (gI o0 0), .ref (q0 1), .ref (q0 2), .ref (q0 3), .ref (q0 4), .ref (q0 5), .ref (q0 6), .ref (q0 7), .ref (q0 8), .ref (q0 9), .ref (q0 10), .ref (q0 11), .ref (q0 12), .ref (q0 13)])), kQ G (q0 3) 3 (fun i => some (q0 (50 + i))), kI G (q0 6) 1000 (gA o0 6), kJ G (q0 7) 2000 (gB o0 7), kI G (q0 13) 5 (gA o0 13), ((q0 4), .inr (5, [.ref (r1 0), .int (gI o1 1), .int (gI o1 2), .ref (q1 3), .ref (q1 4), .ref (q1 5), .ref (q1 6), .ref (q1 7), .ref (q1 8), .ref (q1 9), .ref (q1 10), .int (gI o1 11), .int (gI o1 12)])), kI G (q1 3) 20 (gA o1 3), kI G (q1 4) 20 (gA o1 4), kI G (q1 5) 5 (gA o1 5), kJ G (q1 6) 5 (gB o1 6), kJ G (q1 7) 5 (gB o1 7), kJ G (q1 8) 6 (gB o1 8), kI G (q1 10) 5 (gA o1 10), ((q0 8), .inr (2, [.ref (q2 0), .ref (q2 1), .ref (q2 2)])), kI G (q2 0) 100 (gA o2 0), kI G (q2 1) 100 (gA o2 1), kI G (q2 2) 100 (gA o2 2), ((q0 12), .inr (9, [.int (gI o3 0), .ref (q3 1), .ref (q3 2), .ref (q3 3), .ref (q3 4), .ref (q3 5), .ref (q3 6), .ref (q3 7), .int (gI o3 8), .ref (r3 9), .int (gI o3 10), .ref (r3 11)])), kI G (q3 1) 5 (gA o3 1), kI G (q3 2) 20 (gA o3 2), kI G (q3 3) 5 (gA o3 3), kI G (q3 4) 5 (gA o3 4), kI G (q3 5) 5 (gA o3 5), kI G (q3 6) 5 (gA o3 6), kI G (q3 7) 5 (gA o3 7), kB G (r3 9) (r3 109) (gA o3 9), kI G (r3 11) (r3 111) (gA o3 11)] H := hP
      have hD : va_D A [(h0, .inr (0, [.int (gI o0 0), .ref (q0 1), .ref (q0 2), .ref (q0 3), .ref (q0 4), .ref (q0 5), .ref (q0 6), .ref (q0 7), .ref (q0 8), .ref (q0 9), .ref (q0 10), .ref (q0 11), .ref (q0 12), .ref (q0 13)])), kQ G (q0 3) 3 (fun i => some (q0 (50 + i))), kI G (q0 6) 1000 (gA o0 6), kJ G (q0 7) 2000 (gB o0 7), kI G (q0 13) 5 (gA o0 13), ((q0 4), .inr (5, [.ref (r1 0), .int (gI o1 1), .int (gI o1 2), .ref (q1 3), .ref (q1 4), .ref (q1 5), .ref (q1 6), .ref (q1 7), .ref (q1 8), .ref (q1 9), .ref (q1 10), .int (gI o1 11), .int (gI o1 12)])), kI G (q1 3) 20 (gA o1 3), kI G (q1 4) 20 (gA o1 4), kI G (q1 5) 5 (gA o1 5), kJ G (q1 6) 5 (gB o1 6), kJ G (q1 7) 5 (gB o1 7), kJ G (q1 8) 6 (gB o1 8), kI G (q1 10) 5 (gA o1 10), ((q0 8), .inr (2, [.ref (q2 0), .ref (q2 1), .ref (q2 2)])), kI G (q2 0) 100 (gA o2 0), kI G (q2 1) 100 (gA o2 1), kI G (q2 2) 100 (gA o2 2), ((q0 12), .inr (9, [.int (gI o3 0), .ref (q3 1), .ref (q3 2), .ref (q3 3), .ref (q3 4), .ref (q3 5), .ref (q3 6), .ref (q3 7), .int (gI o3 8), .ref (r3 9), .int (gI o3 10), .ref (r3 11)])), kI G (q3 1) 5 (gA o3 1), kI G (q3 2) 20 (gA o3 2), kI G (q3 3) 5 (gA o3 3), kI G (q3 4) 5 (gA o3 4), kI G (q3 5) 5 (gA o3 5), kI G (q3 6) 5 (gA o3 6), kI G (q3 7) 5 (gA o3 7), kB G (r3 9) (r3 109) (gA o3 9), kI G (r3 11) (r3 111) (gA o3 11)] := hD
      refine lv_if_ne (tgt := 21) hx hb d_PV_maker_16 (by decide) (fun c5 => ?_) (fun c5 => ?_)
      · have h := h.2 c5
        refine lv_aload_n hx hb d_PV_maker_21 rfl (lv_at hl 0 rfl) ?_
        refine va_get (D := G.1) (ci := 0) (v := .ref (q0 12)) (C := R_PV) (T := T_PV) (N := 14) hx hb hts i_PV hown hK hP 0 rfl rfl 12 (by decide) (hts _ wf_PV_98) (fun _ h9 => h9) rfl d_PV_maker_22 ?_
        refine lv_aload_n hx hb d_PV_maker_25 rfl (lv_at hl 0 rfl) ?_
        refine va_get (D := G.1) (ci := 0) (v := .ref (q0 4)) (C := R_PV) (T := T_PV) (N := 14) hx hb hts i_PV hown hK hP 0 rfl rfl 4 (by decide) (hts _ wf_PV_50) (fun _ h9 => h9) rfl d_PV_maker_26 ?_
        refine lv_aload_n hx hb d_PV_maker_29 rfl (lv_at hl 0 rfl) ?_
        refine va_get (D := G.1) (ci := 0) (v := .ref (q0 8)) (C := R_PV) (T := T_PV) (N := 14) hx hb hts i_PV hown hK hP 0 rfl rfl 8 (by decide) (hts _ wf_PV_68) (fun _ h9 => h9) rfl d_PV_maker_30 ?_
        refine lv_iload_n hx hb d_PV_maker_33 rfl (lv_at hl 1 rfl) ?_
        refine cl_Vv (b := b_PV_maker) (As := [.ref (q0 4), .ref (q0 8), .int a0]) (rest := []) (ws := [(h0, .inr (0, [.int (gI o0 0), .ref (q0 1), .ref (q0 2), .ref (q0 3), .ref (q0 4), .ref (q0 5), .ref (q0 6), .ref (q0 7), .ref (q0 8), .ref (q0 9), .ref (q0 10), .ref (q0 11), .ref (q0 12), .ref (q0 13)])), kQ G (q0 3) 3 (fun i => some (q0 (50 + i))), kI G (q0 6) 1000 (gA o0 6), kJ G (q0 7) 2000 (gB o0 7), kI G (q0 13) 5 (gA o0 13), ((q0 4), .inr (5, [.ref (r1 0), .int (gI o1 1), .int (gI o1 2), .ref (q1 3), .ref (q1 4), .ref (q1 5), .ref (q1 6), .ref (q1 7), .ref (q1 8), .ref (q1 9), .ref (q1 10), .int (gI o1 11), .int (gI o1 12)])), kI G (q1 3) 20 (gA o1 3), kI G (q1 4) 20 (gA o1 4), kI G (q1 5) 5 (gA o1 5), kJ G (q1 6) 5 (gB o1 6), kJ G (q1 7) 5 (gB o1 7), kJ G (q1 8) 6 (gB o1 8), kI G (q1 10) 5 (gA o1 10), ((q0 8), .inr (2, [.ref (q2 0), .ref (q2 1), .ref (q2 2)])), kI G (q2 0) 100 (gA o2 0), kI G (q2 1) 100 (gA o2 1), kI G (q2 2) 100 (gA o2 2), ((q0 12), .inr (9, [.int (gI o3 0), .ref (q3 1), .ref (q3 2), .ref (q3 3), .ref (q3 4), .ref (q3 5), .ref (q3 6), .ref (q3 7), .int (gI o3 8), .ref (r3 9), .int (gI o3 10), .ref (r3 11)])), kI G (q3 1) 5 (gA o3 1), kI G (q3 2) 20 (gA o3 2), kI G (q3 3) 5 (gA o3 3), kI G (q3 4) 5 (gA o3 4), kI G (q3 5) 5 (gA o3 5), kI G (q3 6) 5 (gA o3 6), kI G (q3 7) 5 (gA o3 7), kB G (r3 9) (r3 109) (gA o3 9), kI G (r3 11) (r3 111) (gA o3 11)]) (wr := [(h0, .inr (0, [.int (gI o0 0), .ref (q0 1), .ref (q0 2), .ref (q0 3), .ref (q0 4), .ref (q0 5), .ref (q0 6), .ref (q0 7), .ref (q0 8), .ref (q0 9), .ref (q0 10), .ref (q0 11), .ref (q0 12), .ref (q0 13)])), kQ G (q0 3) 3 (fun i => some (q0 (50 + i))), kI G (q0 6) 1000 (gA o0 6), kJ G (q0 7) 2000 (gB o0 7), kI G (q0 13) 5 (gA o0 13)]) (w2 := fun (u : (Nat → Nat) × Ob) => [(h0, .inr (0, [.int (gI o0 0), .ref (q0 1), .ref (q0 2), .ref (q0 3), .ref (q0 4), .ref (q0 5), .ref (q0 6), .ref (q0 7), .ref (q0 8), .ref (q0 9), .ref (q0 10), .ref (q0 11), .ref (q0 12), .ref (q0 13)])), kQ G (q0 3) 3 (fun i => some (q0 (50 + i))), kI G (q0 6) 1000 (gA o0 6), kJ G (q0 7) 2000 (gB o0 7), kI G (q0 13) 5 (gA o0 13), ((q0 4), .inr (5, [.ref (r1 0), .int (gI o1 1), .int (gI o1 2), .ref (q1 3), .ref (q1 4), .ref (q1 5), .ref (q1 6), .ref (q1 7), .ref (q1 8), .ref (q1 9), .ref (q1 10), .int (gI o1 11), .int (gI o1 12)])), kI G (q1 3) 20 (gA o1 3), kI G (q1 4) 20 (gA o1 4), kI G (q1 5) 5 (gA o1 5), kJ G (q1 6) 5 (gB o1 6), kJ G (q1 7) 5 (gB o1 7), kJ G (q1 8) 6 (gB o1 8), kI G (q1 10) 5 (gA o1 10), ((q0 8), .inr (2, [.ref (q2 0), .ref (q2 1), .ref (q2 2)])), kI G (q2 0) 100 (gA o2 0), kI G (q2 1) 100 (gA o2 1), kI G (q2 2) 100 (gA o2 2), ((q0 12), .inr (9, [.int (gI u.2 0), .ref (q3 1), .ref (q3 2), .ref (q3 3), .ref (q3 4), .ref (q3 5), .ref (q3 6), .ref (q3 7), .int (gI u.2 8), .ref (u.1 9), .int (gI u.2 10), .ref (u.1 11)])), kI G (q3 1) 5 (gA u.2 1), kI G (q3 2) 20 (gA u.2 2), kI G (q3 3) 5 (gA u.2 3), kI G (q3 4) 5 (gA u.2 4), kI G (q3 5) 5 (gA u.2 5), kI G (q3 6) 5 (gA u.2 6), kI G (q3 7) 5 (gA u.2 7), kB G (u.1 9) (u.1 109) (gA u.2 9), kI G (u.1 11) (u.1 111) (gA u.2 11)]) C (c_Sh_ask (h0 := (q0 12)) (q0 := q3) (h1 := (q0 4)) (q1 := q1) (h2 := (q0 8)) (q2 := q2) H.size h) wv_PV_279 ⟨Nat.le_of_ble_eq_true rfl, Nat.le_of_ble_eq_true rfl⟩ hP hD hS 17 rfl rfl [17, 18, 19, 20, 21, 22, 23, 24, 25, 26, 5, 6, 7, 8, 9, 10, 11, 12, 13, 14, 15, 16] [0, 1, 2, 3, 4] rfl rfl (by decide) (by decide) (by decide) [0, 1, 2, 3, 4, 15, 16, 17, 18, 19, 20, 21, 22, 23, 24, 25, 26, 5, 6, 7, 8, 9, 10, 11, 12, 13, 14] (by decide) (fun u => rfl) rfl hl.1 rfl (lv_room (Nat.le_of_ble_eq_true rfl)) d_PV_maker_34 ⟨Nat.le_of_ble_eq_true rfl, Nat.le_of_ble_eq_true rfl⟩ rfl rfl (fun u H locs h hP hD hS => ?_)
        obtain ⟨u6, u7⟩ := u
        have hP : va_P G.1 CL [(h0, .inr (0, [.int (gI o0 0), .ref (q0 1), .ref (q0 2), .ref (q0 3), .ref (q0 4), .ref (q0 5), .ref (q0 6), .ref (q0 7), .ref (q0 8), .ref (q0 9), .ref (q0 10), .ref (q0 11), .ref (q0 12), .ref (q0 13)])), kQ G (q0 3) 3 (fun i => some (q0 (50 + i))), kI G (q0 6) 1000 (gA o0 6), kJ G (q0 7) 2000 (gB o0 7), kI G (q0 13) 5 (gA o0 13), ((q0 4), .inr (5, [.ref (r1 0), .int (gI o1 1), .int (gI o1 2), .ref (q1 3), .ref (q1 4), .ref (q1 5), .ref (q1 6), .ref (q1 7), .ref (q1 8), .ref (q1 9), .ref (q1 10), .int (gI o1 11), .int (gI o1 12)])), kI G (q1 3) 20 (gA o1 3), kI G (q1 4) 20 (gA o1 4), kI G (q1 5) 5 (gA o1 5), kJ G (q1 6) 5 (gB o1 6), kJ G (q1 7) 5 (gB o1 7), kJ G (q1 8) 6 (gB o1 8), kI G (q1 10) 5 (gA o1 10), ((q0 8), .inr (2, [.ref (q2 0), .ref (q2 1), .ref (q2 2)])), kI G (q2 0) 100 (gA o2 0), kI G (q2 1) 100 (gA o2 1), kI G (q2 2) 100 (gA o2 2), ((q0 12), .inr (9, [.int (gI u7 0), .ref (q3 1), .ref (q3 2), .ref (q3 3), .ref (q3 4), .ref (q3 5), .ref (q3 6), .ref (q3 7), .int (gI u7 8), .ref (u6 9), .int (gI u7 10), .ref (u6 11)])), kI G (q3 1) 5 (gA u7 1), kI G (q3 2) 20 (gA u7 2), kI G (q3 3) 5 (gA u7 3), kI G (q3 4) 5 (gA u7 4), kI G (q3 5) 5 (gA u7 5), kI G (q3 6) 5 (gA u7 6), kI G (q3 7) 5 (gA u7 7), kB G (u6 9) (u6 109) (gA u7 9), kI G (u6 11) (u6 111) (gA u7 11)] H := hP
        have hD : va_D A [(h0, .inr (0, [.int (gI o0 0), .ref (q0 1), .ref (q0 2), .ref (q0 3), .ref (q0 4), .ref (q0 5), .ref (q0 6), .ref (q0 7), .ref (q0 8), .ref (q0 9), .ref (q0 10), .ref (q0 11), .ref (q0 12), .ref (q0 13)])), kQ G (q0 3) 3 (fun i => some (q0 (50 + i))), kI G (q0 6) 1000 (gA o0 6), kJ G (q0 7) 2000 (gB o0 7), kI G (q0 13) 5 (gA o0 13), ((q0 4), .inr (5, [.ref (r1 0), .int (gI o1 1), .int (gI o1 2), .ref (q1 3), .ref (q1 4), .ref (q1 5), .ref (q1 6), .ref (q1 7), .ref (q1 8), .ref (q1 9), .ref (q1 10), .int (gI o1 11), .int (gI o1 12)])), kI G (q1 3) 20 (gA o1 3), kI G (q1 4) 20 (gA o1 4), kI G (q1 5) 5 (gA o1 5), kJ G (q1 6) 5 (gB o1 6), kJ G (q1 7) 5 (gB o1 7), kJ G (q1 8) 6 (gB o1 8), kI G (q1 10) 5 (gA o1 10), ((q0 8), .inr (2, [.ref (q2 0), .ref (q2 1), .ref (q2 2)])), kI G (q2 0) 100 (gA o2 0), kI G (q2 1) 100 (gA o2 1), kI G (q2 2) 100 (gA o2 2), ((q0 12), .inr (9, [.int (gI u7 0), .ref (q3 1), .ref (q3 2), .ref (q3 3), .ref (q3 4), .ref (q3 5), .ref (q3 6), .ref (q3 7), .int (gI u7 8), .ref (u6 9), .int (gI u7 10), .ref (u6 11)])), kI G (q3 1) 5 (gA u7 1), kI G (q3 2) 20 (gA u7 2), kI G (q3 3) 5 (gA u7 3), kI G (q3 4) 5 (gA u7 4), kI G (q3 5) 5 (gA u7 5), kI G (q3 6) 5 (gA u7 6), kI G (q3 7) 5 (gA u7 7), kB G (u6 9) (u6 109) (gA u7 9), kI G (u6 11) (u6 111) (gA u7 11)] := hD
        refine lv_aload_n hx hb d_PV_maker_37 rfl (lv_at hl 0 rfl) ?_
        refine va_get (D := G.1) (ci := 0) (v := .ref (q0 12)) (C := R_PV) (T := T_PV) (N := 14) hx hb hts i_PV hown hK hP 0 rfl rfl 12 (by decide) (hts _ wf_PV_98) (fun _ h9 => h9) rfl d_PV_maker_38 ?_
        refine lv_iload_n hx hb d_PV_maker_41 rfl (lv_at hl 2 rfl) ?_
        refine cl_Vi (b := b_PV_maker) (As := [.int a1]) (rest := []) (ws := [(h0, .inr (0, [.int (gI o0 0), .ref (q0 1), .ref (q0 2), .ref (q0 3), .ref (q0 4), .ref (q0 5), .ref (q0 6), .ref (q0 7), .ref (q0 8), .ref (q0 9), .ref (q0 10), .ref (q0 11), .ref (q0 12), .ref (q0 13)])), kQ G (q0 3) 3 (fun i => some (q0 (50 + i))), kI G (q0 6) 1000 (gA o0 6), kJ G (q0 7) 2000 (gB o0 7), kI G (q0 13) 5 (gA o0 13), ((q0 4), .inr (5, [.ref (r1 0), .int (gI o1 1), .int (gI o1 2), .ref (q1 3), .ref (q1 4), .ref (q1 5), .ref (q1 6), .ref (q1 7), .ref (q1 8), .ref (q1 9), .ref (q1 10), .int (gI o1 11), .int (gI o1 12)])), kI G (q1 3) 20 (gA o1 3), kI G (q1 4) 20 (gA o1 4), kI G (q1 5) 5 (gA o1 5), kJ G (q1 6) 5 (gB o1 6), kJ G (q1 7) 5 (gB o1 7), kJ G (q1 8) 6 (gB o1 8), kI G (q1 10) 5 (gA o1 10), ((q0 8), .inr (2, [.ref (q2 0), .ref (q2 1), .ref (q2 2)])), kI G (q2 0) 100 (gA o2 0), kI G (q2 1) 100 (gA o2 1), kI G (q2 2) 100 (gA o2 2), ((q0 12), .inr (9, [.int (gI u7 0), .ref (q3 1), .ref (q3 2), .ref (q3 3), .ref (q3 4), .ref (q3 5), .ref (q3 6), .ref (q3 7), .int (gI u7 8), .ref (u6 9), .int (gI u7 10), .ref (u6 11)])), kI G (q3 1) 5 (gA u7 1), kI G (q3 2) 20 (gA u7 2), kI G (q3 3) 5 (gA u7 3), kI G (q3 4) 5 (gA u7 4), kI G (q3 5) 5 (gA u7 5), kI G (q3 6) 5 (gA u7 6), kI G (q3 7) 5 (gA u7 7), kB G (u6 9) (u6 109) (gA u7 9), kI G (u6 11) (u6 111) (gA u7 11)]) (wr := [(h0, .inr (0, [.int (gI o0 0), .ref (q0 1), .ref (q0 2), .ref (q0 3), .ref (q0 4), .ref (q0 5), .ref (q0 6), .ref (q0 7), .ref (q0 8), .ref (q0 9), .ref (q0 10), .ref (q0 11), .ref (q0 12), .ref (q0 13)])), kQ G (q0 3) 3 (fun i => some (q0 (50 + i))), kI G (q0 6) 1000 (gA o0 6), kJ G (q0 7) 2000 (gB o0 7), kI G (q0 13) 5 (gA o0 13), ((q0 4), .inr (5, [.ref (r1 0), .int (gI o1 1), .int (gI o1 2), .ref (q1 3), .ref (q1 4), .ref (q1 5), .ref (q1 6), .ref (q1 7), .ref (q1 8), .ref (q1 9), .ref (q1 10), .int (gI o1 11), .int (gI o1 12)])), kI G (q1 3) 20 (gA o1 3), kI G (q1 4) 20 (gA o1 4), kI G (q1 5) 5 (gA o1 5), kJ G (q1 6) 5 (gB o1 6), kJ G (q1 7) 5 (gB o1 7), kJ G (q1 8) 6 (gB o1 8), kI G (q1 10) 5 (gA o1 10), ((q0 8), .inr (2, [.ref (q2 0), .ref (q2 1), .ref (q2 2)])), kI G (q2 0) 100 (gA o2 0), kI G (q2 1) 100 (gA o2 1), kI G (q2 2) 100 (gA o2 2)]) (w2 := fun (u : Unit) => [(h0, .inr (0, [.int (gI o0 0), .ref (q0 1), .ref (q0 2), .ref (q0 3), .ref (q0 4), .ref (q0 5), .ref (q0 6), .ref (q0 7), .ref (q0 8), .ref (q0 9), .ref (q0 10), .ref (q0 11), .ref (q0 12), .ref (q0 13)])), kQ G (q0 3) 3 (fun i => some (q0 (50 + i))), kI G (q0 6) 1000 (gA o0 6), kJ G (q0 7) 2000 (gB o0 7), kI G (q0 13) 5 (gA o0 13), ((q0 4), .inr (5, [.ref (r1 0), .int (gI o1 1), .int (gI o1 2), .ref (q1 3), .ref (q1 4), .ref (q1 5), .ref (q1 6), .ref (q1 7), .ref (q1 8), .ref (q1 9), .ref (q1 10), .int (gI o1 11), .int (gI o1 12)])), kI G (q1 3) 20 (gA o1 3), kI G (q1 4) 20 (gA o1 4), kI G (q1 5) 5 (gA o1 5), kJ G (q1 6) 5 (gB o1 6), kJ G (q1 7) 5 (gB o1 7), kJ G (q1 8) 6 (gB o1 8), kI G (q1 10) 5 (gA o1 10), ((q0 8), .inr (2, [.ref (q2 0), .ref (q2 1), .ref (q2 2)])), kI G (q2 0) 100 (gA o2 0), kI G (q2 1) 100 (gA o2 1), kI G (q2 2) 100 (gA o2 2), ((q0 12), .inr (9, [.int (gI u7 0), .ref (q3 1), .ref (q3 2), .ref (q3 3), .ref (q3 4), .ref (q3 5), .ref (q3 6), .ref (q3 7), .int (gI u7 8), .ref (u6 9), .int (gI u7 10), .ref (u6 11)])), kI G (q3 1) 5 (gA u7 1), kI G (q3 2) 20 (gA u7 2), kI G (q3 3) 5 (gA u7 3), kI G (q3 4) 5 (gA u7 4), kI G (q3 5) 5 (gA u7 5), kI G (q3 6) 5 (gA u7 6), kI G (q3 7) 5 (gA u7 7), kB G (u6 9) (u6 109) (gA u7 9), kI G (u6 11) (u6 111) (gA u7 11)]) C (c_Sh_fitAt (h0 := (q0 12)) (q0 := q3) H.size h) wv_PV_286 ⟨Nat.le_of_ble_eq_true rfl, Nat.le_of_ble_eq_true rfl⟩ hP hD hS 17 rfl rfl [17, 18, 19, 20, 21, 22, 23, 24, 25, 26] [0, 1, 2, 3, 4, 5, 6, 7, 8, 9, 10, 11, 12, 13, 14, 15, 16] rfl rfl (by decide) (by decide) (by decide) [0, 1, 2, 3, 4, 5, 6, 7, 8, 9, 10, 11, 12, 13, 14, 15, 16, 17, 18, 19, 20, 21, 22, 23, 24, 25, 26] (by decide) (fun u => rfl) rfl hl.1 rfl (lv_room (Nat.le_of_ble_eq_true rfl)) d_PV_maker_42 ⟨Nat.le_of_ble_eq_true rfl, Nat.le_of_ble_eq_true rfl⟩ rfl rfl (fun z8 u H locs h hP hD hS => ?_)
        have hP : va_P G.1 CL [(h0, .inr (0, [.int (gI o0 0), .ref (q0 1), .ref (q0 2), .ref (q0 3), .ref (q0 4), .ref (q0 5), .ref (q0 6), .ref (q0 7), .ref (q0 8), .ref (q0 9), .ref (q0 10), .ref (q0 11), .ref (q0 12), .ref (q0 13)])), kQ G (q0 3) 3 (fun i => some (q0 (50 + i))), kI G (q0 6) 1000 (gA o0 6), kJ G (q0 7) 2000 (gB o0 7), kI G (q0 13) 5 (gA o0 13), ((q0 4), .inr (5, [.ref (r1 0), .int (gI o1 1), .int (gI o1 2), .ref (q1 3), .ref (q1 4), .ref (q1 5), .ref (q1 6), .ref (q1 7), .ref (q1 8), .ref (q1 9), .ref (q1 10), .int (gI o1 11), .int (gI o1 12)])), kI G (q1 3) 20 (gA o1 3), kI G (q1 4) 20 (gA o1 4), kI G (q1 5) 5 (gA o1 5), kJ G (q1 6) 5 (gB o1 6), kJ G (q1 7) 5 (gB o1 7), kJ G (q1 8) 6 (gB o1 8), kI G (q1 10) 5 (gA o1 10), ((q0 8), .inr (2, [.ref (q2 0), .ref (q2 1), .ref (q2 2)])), kI G (q2 0) 100 (gA o2 0), kI G (q2 1) 100 (gA o2 1), kI G (q2 2) 100 (gA o2 2), ((q0 12), .inr (9, [.int (gI u7 0), .ref (q3 1), .ref (q3 2), .ref (q3 3), .ref (q3 4), .ref (q3 5), .ref (q3 6), .ref (q3 7), .int (gI u7 8), .ref (u6 9), .int (gI u7 10), .ref (u6 11)])), kI G (q3 1) 5 (gA u7 1), kI G (q3 2) 20 (gA u7 2), kI G (q3 3) 5 (gA u7 3), kI G (q3 4) 5 (gA u7 4), kI G (q3 5) 5 (gA u7 5), kI G (q3 6) 5 (gA u7 6), kI G (q3 7) 5 (gA u7 7), kB G (u6 9) (u6 109) (gA u7 9), kI G (u6 11) (u6 111) (gA u7 11)] H := hP
        have hD : va_D A [(h0, .inr (0, [.int (gI o0 0), .ref (q0 1), .ref (q0 2), .ref (q0 3), .ref (q0 4), .ref (q0 5), .ref (q0 6), .ref (q0 7), .ref (q0 8), .ref (q0 9), .ref (q0 10), .ref (q0 11), .ref (q0 12), .ref (q0 13)])), kQ G (q0 3) 3 (fun i => some (q0 (50 + i))), kI G (q0 6) 1000 (gA o0 6), kJ G (q0 7) 2000 (gB o0 7), kI G (q0 13) 5 (gA o0 13), ((q0 4), .inr (5, [.ref (r1 0), .int (gI o1 1), .int (gI o1 2), .ref (q1 3), .ref (q1 4), .ref (q1 5), .ref (q1 6), .ref (q1 7), .ref (q1 8), .ref (q1 9), .ref (q1 10), .int (gI o1 11), .int (gI o1 12)])), kI G (q1 3) 20 (gA o1 3), kI G (q1 4) 20 (gA o1 4), kI G (q1 5) 5 (gA o1 5), kJ G (q1 6) 5 (gB o1 6), kJ G (q1 7) 5 (gB o1 7), kJ G (q1 8) 6 (gB o1 8), kI G (q1 10) 5 (gA o1 10), ((q0 8), .inr (2, [.ref (q2 0), .ref (q2 1), .ref (q2 2)])), kI G (q2 0) 100 (gA o2 0), kI G (q2 1) 100 (gA o2 1), kI G (q2 2) 100 (gA o2 2), ((q0 12), .inr (9, [.int (gI u7 0), .ref (q3 1), .ref (q3 2), .ref (q3 3), .ref (q3 4), .ref (q3 5), .ref (q3 6), .ref (q3 7), .int (gI u7 8), .ref (u6 9), .int (gI u7 10), .ref (u6 11)])), kI G (q3 1) 5 (gA u7 1), kI G (q3 2) 20 (gA u7 2), kI G (q3 3) 5 (gA u7 3), kI G (q3 4) 5 (gA u7 4), kI G (q3 5) 5 (gA u7 5), kI G (q3 6) 5 (gA u7 6), kI G (q3 7) 5 (gA u7 7), kB G (u6 9) (u6 109) (gA u7 9), kI G (u6 11) (u6 111) (gA u7 11)] := hD
        refine lv_istore (lv' := [(4, .int z8), (0, .ref h0), (1, .int a0), (2, .int a1), (3, .int a2)]) hx hb d_PV_maker_45 hl (by decide) rfl (fun ls hl => ?_)
        refine lv_iload hx hb d_PV_maker_47 (lv_at hl 0 rfl) ?_
        refine lv_iconst (v := (-1 : Int32)) hx hb d_PV_maker_49 (by decide) ?_
        refine lv_icmp_ne (tgt := 57) hx hb d_PV_maker_50 (by decide) (fun c9 => ?_) (fun c9 => ?_)
        · have h := h.2 c9
          refine lv_aload_n hx hb d_PV_maker_57 rfl (lv_at hl 1 rfl) ?_
          refine va_get (D := G.1) (ci := 0) (v := .ref (q0 12)) (C := R_PV) (T := T_PV) (N := 14) hx hb hts i_PV hown hK hP 0 rfl rfl 12 (by decide) (hts _ wf_PV_98) (fun _ h9 => h9) rfl d_PV_maker_58 ?_
          refine lv_iload hx hb d_PV_maker_61 (lv_at hl 0 rfl) ?_
          refine lv_iload_n hx hb d_PV_maker_63 rfl (lv_at hl 4 rfl) ?_
          refine cl_Vi (b := b_PV_maker) (As := [.int z8, .int a2]) (rest := []) (ws := [(h0, .inr (0, [.int (gI o0 0), .ref (q0 1), .ref (q0 2), .ref (q0 3), .ref (q0 4), .ref (q0 5), .ref (q0 6), .ref (q0 7), .ref (q0 8), .ref (q0 9), .ref (q0 10), .ref (q0 11), .ref (q0 12), .ref (q0 13)])), kQ G (q0 3) 3 (fun i => some (q0 (50 + i))), kI G (q0 6) 1000 (gA o0 6), kJ G (q0 7) 2000 (gB o0 7), kI G (q0 13) 5 (gA o0 13), ((q0 4), .inr (5, [.ref (r1 0), .int (gI o1 1), .int (gI o1 2), .ref (q1 3), .ref (q1 4), .ref (q1 5), .ref (q1 6), .ref (q1 7), .ref (q1 8), .ref (q1 9), .ref (q1 10), .int (gI o1 11), .int (gI o1 12)])), kI G (q1 3) 20 (gA o1 3), kI G (q1 4) 20 (gA o1 4), kI G (q1 5) 5 (gA o1 5), kJ G (q1 6) 5 (gB o1 6), kJ G (q1 7) 5 (gB o1 7), kJ G (q1 8) 6 (gB o1 8), kI G (q1 10) 5 (gA o1 10), ((q0 8), .inr (2, [.ref (q2 0), .ref (q2 1), .ref (q2 2)])), kI G (q2 0) 100 (gA o2 0), kI G (q2 1) 100 (gA o2 1), kI G (q2 2) 100 (gA o2 2), ((q0 12), .inr (9, [.int (gI u7 0), .ref (q3 1), .ref (q3 2), .ref (q3 3), .ref (q3 4), .ref (q3 5), .ref (q3 6), .ref (q3 7), .int (gI u7 8), .ref (u6 9), .int (gI u7 10), .ref (u6 11)])), kI G (q3 1) 5 (gA u7 1), kI G (q3 2) 20 (gA u7 2), kI G (q3 3) 5 (gA u7 3), kI G (q3 4) 5 (gA u7 4), kI G (q3 5) 5 (gA u7 5), kI G (q3 6) 5 (gA u7 6), kI G (q3 7) 5 (gA u7 7), kB G (u6 9) (u6 109) (gA u7 9), kI G (u6 11) (u6 111) (gA u7 11)]) (wr := [(h0, .inr (0, [.int (gI o0 0), .ref (q0 1), .ref (q0 2), .ref (q0 3), .ref (q0 4), .ref (q0 5), .ref (q0 6), .ref (q0 7), .ref (q0 8), .ref (q0 9), .ref (q0 10), .ref (q0 11), .ref (q0 12), .ref (q0 13)])), kQ G (q0 3) 3 (fun i => some (q0 (50 + i))), kI G (q0 6) 1000 (gA o0 6), kJ G (q0 7) 2000 (gB o0 7), kI G (q0 13) 5 (gA o0 13), ((q0 4), .inr (5, [.ref (r1 0), .int (gI o1 1), .int (gI o1 2), .ref (q1 3), .ref (q1 4), .ref (q1 5), .ref (q1 6), .ref (q1 7), .ref (q1 8), .ref (q1 9), .ref (q1 10), .int (gI o1 11), .int (gI o1 12)])), kI G (q1 3) 20 (gA o1 3), kI G (q1 4) 20 (gA o1 4), kI G (q1 5) 5 (gA o1 5), kJ G (q1 6) 5 (gB o1 6), kJ G (q1 7) 5 (gB o1 7), kJ G (q1 8) 6 (gB o1 8), kI G (q1 10) 5 (gA o1 10), ((q0 8), .inr (2, [.ref (q2 0), .ref (q2 1), .ref (q2 2)])), kI G (q2 0) 100 (gA o2 0), kI G (q2 1) 100 (gA o2 1), kI G (q2 2) 100 (gA o2 2)]) (w2 := fun (u : Unit) => [(h0, .inr (0, [.int (gI o0 0), .ref (q0 1), .ref (q0 2), .ref (q0 3), .ref (q0 4), .ref (q0 5), .ref (q0 6), .ref (q0 7), .ref (q0 8), .ref (q0 9), .ref (q0 10), .ref (q0 11), .ref (q0 12), .ref (q0 13)])), kQ G (q0 3) 3 (fun i => some (q0 (50 + i))), kI G (q0 6) 1000 (gA o0 6), kJ G (q0 7) 2000 (gB o0 7), kI G (q0 13) 5 (gA o0 13), ((q0 4), .inr (5, [.ref (r1 0), .int (gI o1 1), .int (gI o1 2), .ref (q1 3), .ref (q1 4), .ref (q1 5), .ref (q1 6), .ref (q1 7), .ref (q1 8), .ref (q1 9), .ref (q1 10), .int (gI o1 11), .int (gI o1 12)])), kI G (q1 3) 20 (gA o1 3), kI G (q1 4) 20 (gA o1 4), kI G (q1 5) 5 (gA o1 5), kJ G (q1 6) 5 (gB o1 6), kJ G (q1 7) 5 (gB o1 7), kJ G (q1 8) 6 (gB o1 8), kI G (q1 10) 5 (gA o1 10), ((q0 8), .inr (2, [.ref (q2 0), .ref (q2 1), .ref (q2 2)])), kI G (q2 0) 100 (gA o2 0), kI G (q2 1) 100 (gA o2 1), kI G (q2 2) 100 (gA o2 2), ((q0 12), .inr (9, [.int (gI u7 0), .ref (q3 1), .ref (q3 2), .ref (q3 3), .ref (q3 4), .ref (q3 5), .ref (q3 6), .ref (q3 7), .int (gI u7 8), .ref (u6 9), .int (gI u7 10), .ref (u6 11)])), kI G (q3 1) 5 (gA u7 1), kI G (q3 2) 20 (gA u7 2), kI G (q3 3) 5 (gA u7 3), kI G (q3 4) 5 (gA u7 4), kI G (q3 5) 5 (gA u7 5), kI G (q3 6) 5 (gA u7 6), kI G (q3 7) 5 (gA u7 7), kB G (u6 9) (u6 109) (gA u7 9), kI G (u6 11) (u6 111) (gA u7 11)]) C (c_Sh_widthIn (h0 := (q0 12)) (q0 := q3) H.size h) wv_PV_289 ⟨Nat.le_of_ble_eq_true rfl, Nat.le_of_ble_eq_true rfl⟩ hP hD hS 17 rfl rfl [17, 18, 19, 20, 21, 22, 23, 24, 25, 26] [0, 1, 2, 3, 4, 5, 6, 7, 8, 9, 10, 11, 12, 13, 14, 15, 16] rfl rfl (by decide) (by decide) (by decide) [0, 1, 2, 3, 4, 5, 6, 7, 8, 9, 10, 11, 12, 13, 14, 15, 16, 17, 18, 19, 20, 21, 22, 23, 24, 25, 26] (by decide) (fun u => rfl) rfl hl.1 rfl (lv_room (Nat.le_of_ble_eq_true rfl)) d_PV_maker_64 ⟨Nat.le_of_ble_eq_true rfl, Nat.le_of_ble_eq_true rfl⟩ rfl rfl (fun z10 u H locs h hP hD hS => ?_)
          have hP : va_P G.1 CL [(h0, .inr (0, [.int (gI o0 0), .ref (q0 1), .ref (q0 2), .ref (q0 3), .ref (q0 4), .ref (q0 5), .ref (q0 6), .ref (q0 7), .ref (q0 8), .ref (q0 9), .ref (q0 10), .ref (q0 11), .ref (q0 12), .ref (q0 13)])), kQ G (q0 3) 3 (fun i => some (q0 (50 + i))), kI G (q0 6) 1000 (gA o0 6), kJ G (q0 7) 2000 (gB o0 7), kI G (q0 13) 5 (gA o0 13), ((q0 4), .inr (5, [.ref (r1 0), .int (gI o1 1), .int (gI o1 2), .ref (q1 3), .ref (q1 4), .ref (q1 5), .ref (q1 6), .ref (q1 7), .ref (q1 8), .ref (q1 9), .ref (q1 10), .int (gI o1 11), .int (gI o1 12)])), kI G (q1 3) 20 (gA o1 3), kI G (q1 4) 20 (gA o1 4), kI G (q1 5) 5 (gA o1 5), kJ G (q1 6) 5 (gB o1 6), kJ G (q1 7) 5 (gB o1 7), kJ G (q1 8) 6 (gB o1 8), kI G (q1 10) 5 (gA o1 10), ((q0 8), .inr (2, [.ref (q2 0), .ref (q2 1), .ref (q2 2)])), kI G (q2 0) 100 (gA o2 0), kI G (q2 1) 100 (gA o2 1), kI G (q2 2) 100 (gA o2 2), ((q0 12), .inr (9, [.int (gI u7 0), .ref (q3 1), .ref (q3 2), .ref (q3 3), .ref (q3 4), .ref (q3 5), .ref (q3 6), .ref (q3 7), .int (gI u7 8), .ref (u6 9), .int (gI u7 10), .ref (u6 11)])), kI G (q3 1) 5 (gA u7 1), kI G (q3 2) 20 (gA u7 2), kI G (q3 3) 5 (gA u7 3), kI G (q3 4) 5 (gA u7 4), kI G (q3 5) 5 (gA u7 5), kI G (q3 6) 5 (gA u7 6), kI G (q3 7) 5 (gA u7 7), kB G (u6 9) (u6 109) (gA u7 9), kI G (u6 11) (u6 111) (gA u7 11)] H := hP
          have hD : va_D A [(h0, .inr (0, [.int (gI o0 0), .ref (q0 1), .ref (q0 2), .ref (q0 3), .ref (q0 4), .ref (q0 5), .ref (q0 6), .ref (q0 7), .ref (q0 8), .ref (q0 9), .ref (q0 10), .ref (q0 11), .ref (q0 12), .ref (q0 13)])), kQ G (q0 3) 3 (fun i => some (q0 (50 + i))), kI G (q0 6) 1000 (gA o0 6), kJ G (q0 7) 2000 (gB o0 7), kI G (q0 13) 5 (gA o0 13), ((q0 4), .inr (5, [.ref (r1 0), .int (gI o1 1), .int (gI o1 2), .ref (q1 3), .ref (q1 4), .ref (q1 5), .ref (q1 6), .ref (q1 7), .ref (q1 8), .ref (q1 9), .ref (q1 10), .int (gI o1 11), .int (gI o1 12)])), kI G (q1 3) 20 (gA o1 3), kI G (q1 4) 20 (gA o1 4), kI G (q1 5) 5 (gA o1 5), kJ G (q1 6) 5 (gB o1 6), kJ G (q1 7) 5 (gB o1 7), kJ G (q1 8) 6 (gB o1 8), kI G (q1 10) 5 (gA o1 10), ((q0 8), .inr (2, [.ref (q2 0), .ref (q2 1), .ref (q2 2)])), kI G (q2 0) 100 (gA o2 0), kI G (q2 1) 100 (gA o2 1), kI G (q2 2) 100 (gA o2 2), ((q0 12), .inr (9, [.int (gI u7 0), .ref (q3 1), .ref (q3 2), .ref (q3 3), .ref (q3 4), .ref (q3 5), .ref (q3 6), .ref (q3 7), .int (gI u7 8), .ref (u6 9), .int (gI u7 10), .ref (u6 11)])), kI G (q3 1) 5 (gA u7 1), kI G (q3 2) 20 (gA u7 2), kI G (q3 3) 5 (gA u7 3), kI G (q3 4) 5 (gA u7 4), kI G (q3 5) 5 (gA u7 5), kI G (q3 6) 5 (gA u7 6), kI G (q3 7) 5 (gA u7 7), kB G (u6 9) (u6 109) (gA u7 9), kI G (u6 11) (u6 111) (gA u7 11)] := hD
          refine W.widen (k := 1) (n := 5120) (Nat.le_of_ble_eq_true rfl) (Nat.le_of_ble_eq_true rfl) ?_
          have hP : va_P G.1 CL (cw_PV G h0 q0 o0 ++ (cw_Mo G (q0 4) q1 r1 o1 ++ (cw_He G (q0 8) q2 o2 ++ (cw_Sh G (q0 12) q3 u6 u7)))) H := hP
          have hD : va_D A (cw_PV G h0 q0 o0 ++ (cw_Mo G (q0 4) q1 r1 o1 ++ (cw_He G (q0 8) q2 o2 ++ (cw_Sh G (q0 12) q3 u6 u7)))) := hD
          exact W.iret (v := z10) hx hb hr (fun t ht hW => ⟨⟨z10, (u6, u7), rfl, h, by rw [ht]; exact hP, va_K.moved hW.alike hK, hD⟩, hS.F ht⟩) hS.2.2 d_PV_maker_67
        · have h := h.1 c9
          refine lv_iconst (v := (-1 : Int32)) hx hb d_PV_maker_53 (by decide) ?_
          refine lv_goto (tgt := 67) hx hb d_PV_maker_54 (by decide) ?_
          refine W.widen (k := 1) (n := 5120) (Nat.le_of_ble_eq_true rfl) (Nat.le_of_ble_eq_true rfl) ?_
          have hP : va_P G.1 CL (cw_PV G h0 q0 o0 ++ (cw_Mo G (q0 4) q1 r1 o1 ++ (cw_He G (q0 8) q2 o2 ++ (cw_Sh G (q0 12) q3 u6 u7)))) H := hP
          have hD : va_D A (cw_PV G h0 q0 o0 ++ (cw_Mo G (q0 4) q1 r1 o1 ++ (cw_He G (q0 8) q2 o2 ++ (cw_Sh G (q0 12) q3 u6 u7)))) := hD
          exact W.iret (v := (-1 : Int32)) hx hb hr (fun t ht hW => ⟨⟨(-1 : Int32), (u6, u7), rfl, h, by rw [ht]; exact hP, va_K.moved hW.alike hK, hD⟩, hS.F ht⟩) hS.2.2 d_PV_maker_67
      · have h := h.1 c5
        refine lv_iconst (v := (-1 : Int32)) hx hb d_PV_maker_19 (by decide) ?_
        refine W.widen (k := 1) (n := 5120) (Nat.le_of_ble_eq_true rfl) (Nat.le_of_ble_eq_true rfl) ?_
        have hP : va_P G.1 CL (cw_PV G h0 q0 o0 ++ (cw_Mo G (q0 4) q1 r1 o1 ++ (cw_He G (q0 8) q2 o2 ++ (cw_Sh G (q0 12) q3 r3 o3)))) H := hP
        have hD : va_D A (cw_PV G h0 q0 o0 ++ (cw_Mo G (q0 4) q1 r1 o1 ++ (cw_He G (q0 8) q2 o2 ++ (cw_Sh G (q0 12) q3 r3 o3)))) := hD
        exact W.iret (v := (-1 : Int32)) hx hb hr (fun t ht hW => ⟨⟨(-1 : Int32), (r3, o3), rfl, h, by rw [ht]; exact hP, va_K.moved hW.alike hK, hD⟩, hS.F ht⟩) hS.2.2 d_PV_maker_20
abbrev b_PV_nearest : ByteArray := prog_1_method_26_code
def y_PV_nearest : MethodName := ⟨R_PV, "nearest", "(II)I"⟩
abbrev w_PV_nearest : List Cond := Cond.code y_PV_nearest b_PV_nearest 4 (some .int) :: gw_tbl
theorem d_PV_nearest_0 : decode b_PV_nearest 0 = .ok (.iload_n 1, 1) := by decide +kernel
theorem d_PV_nearest_1 : decode b_PV_nearest 1 = .ok (.invokestatic 266, 3) := by decide +kernel
theorem d_PV_nearest_4 : decode b_PV_nearest 4 = .ok (.ifCond .eq 16, 3) := by decide +kernel
theorem d_PV_nearest_7 : decode b_PV_nearest 7 = .ok (.iload_n 2, 1) := by decide +kernel
theorem d_PV_nearest_8 : decode b_PV_nearest 8 = .ok (.iconst (-1), 1) := by decide +kernel
theorem d_PV_nearest_9 : decode b_PV_nearest 9 = .ok (.if_icmp .eq 13, 3) := by decide +kernel
theorem d_PV_nearest_12 : decode b_PV_nearest 12 = .ok (.aload_n 0, 1) := by decide +kernel
theorem d_PV_nearest_13 : decode b_PV_nearest 13 = .ok (.iload_n 2, 1) := by decide +kernel
theorem d_PV_nearest_14 : decode b_PV_nearest 14 = .ok (.invokevirtual 145, 3) := by decide +kernel
theorem d_PV_nearest_17 : decode b_PV_nearest 17 = .ok (.ifCond .ne 5, 3) := by decide +kernel
theorem d_PV_nearest_20 : decode b_PV_nearest 20 = .ok (.iconst (-1), 1) := by decide +kernel
theorem d_PV_nearest_21 : decode b_PV_nearest 21 = .ok (.ireturn, 1) := by decide +kernel
theorem d_PV_nearest_22 : decode b_PV_nearest 22 = .ok (.aload_n 0, 1) := by decide +kernel
theorem d_PV_nearest_23 : decode b_PV_nearest 23 = .ok (.getfield 98, 3) := by decide +kernel
theorem d_PV_nearest_26 : decode b_PV_nearest 26 = .ok (.aload_n 0, 1) := by decide +kernel
theorem d_PV_nearest_27 : decode b_PV_nearest 27 = .ok (.getfield 50, 3) := by decide +kernel
theorem d_PV_nearest_30 : decode b_PV_nearest 30 = .ok (.aload_n 0, 1) := by decide +kernel
theorem d_PV_nearest_31 : decode b_PV_nearest 31 = .ok (.getfield 68, 3) := by decide +kernel
theorem d_PV_nearest_34 : decode b_PV_nearest 34 = .ok (.iload_n 1, 1) := by decide +kernel
theorem d_PV_nearest_35 : decode b_PV_nearest 35 = .ok (.invokevirtual 279, 3) := by decide +kernel
theorem d_PV_nearest_38 : decode b_PV_nearest 38 = .ok (.aload_n 0, 1) := by decide +kernel
theorem d_PV_nearest_39 : decode b_PV_nearest 39 = .ok (.getfield 98, 3) := by decide +kernel
theorem d_PV_nearest_42 : decode b_PV_nearest 42 = .ok (.aload_n 0, 1) := by decide +kernel
theorem d_PV_nearest_43 : decode b_PV_nearest 43 = .ok (.getfield 50, 3) := by decide +kernel
theorem d_PV_nearest_46 : decode b_PV_nearest 46 = .ok (.getfield 197, 3) := by decide +kernel
theorem d_PV_nearest_49 : decode b_PV_nearest 49 = .ok (.invokevirtual 292, 3) := by decide +kernel
theorem d_PV_nearest_52 : decode b_PV_nearest 52 = .ok (.istore_n 3, 1) := by decide +kernel
theorem d_PV_nearest_53 : decode b_PV_nearest 53 = .ok (.iload_n 3, 1) := by decide +kernel
theorem d_PV_nearest_54 : decode b_PV_nearest 54 = .ok (.iconst (-1), 1) := by decide +kernel
theorem d_PV_nearest_55 : decode b_PV_nearest 55 = .ok (.if_icmp .ne 5, 3) := by decide +kernel
theorem d_PV_nearest_58 : decode b_PV_nearest 58 = .ok (.iconst (-1), 1) := by decide +kernel
theorem d_PV_nearest_59 : decode b_PV_nearest 59 = .ok (.ireturn, 1) := by decide +kernel
theorem d_PV_nearest_60 : decode b_PV_nearest 60 = .ok (.iload_n 2, 1) := by decide +kernel
theorem d_PV_nearest_61 : decode b_PV_nearest 61 = .ok (.iconst (-1), 1) := by decide +kernel
theorem d_PV_nearest_62 : decode b_PV_nearest 62 = .ok (.if_icmp .ne 21, 3) := by decide +kernel
theorem d_PV_nearest_65 : decode b_PV_nearest 65 = .ok (.aload_n 0, 1) := by decide +kernel
theorem d_PV_nearest_66 : decode b_PV_nearest 66 = .ok (.getfield 98, 3) := by decide +kernel
theorem d_PV_nearest_69 : decode b_PV_nearest 69 = .ok (.iload_n 3, 1) := by decide +kernel
theorem d_PV_nearest_70 : decode b_PV_nearest 70 = .ok (.aload_n 0, 1) := by decide +kernel
theorem d_PV_nearest_71 : decode b_PV_nearest 71 = .ok (.getfield 50, 3) := by decide +kernel
theorem d_PV_nearest_74 : decode b_PV_nearest 74 = .ok (.getfield 197, 3) := by decide +kernel
theorem d_PV_nearest_77 : decode b_PV_nearest 77 = .ok (.invokevirtual 296, 3) := by decide +kernel
theorem d_PV_nearest_80 : decode b_PV_nearest 80 = .ok (.goto 12, 3) := by decide +kernel
theorem d_PV_nearest_83 : decode b_PV_nearest 83 = .ok (.aload_n 0, 1) := by decide +kernel
theorem d_PV_nearest_84 : decode b_PV_nearest 84 = .ok (.getfield 98, 3) := by decide +kernel
theorem d_PV_nearest_87 : decode b_PV_nearest 87 = .ok (.iload_n 3, 1) := by decide +kernel
theorem d_PV_nearest_88 : decode b_PV_nearest 88 = .ok (.iload_n 2, 1) := by decide +kernel
theorem d_PV_nearest_89 : decode b_PV_nearest 89 = .ok (.invokevirtual 289, 3) := by decide +kernel
theorem d_PV_nearest_92 : decode b_PV_nearest 92 = .ok (.ireturn, 1) := by decide +kernel
theorem wv_PV_292 : wV R_PV 292 y_Sh_nearestFit b_Sh_nearestFit 6 (some .int) 1 := ⟨⟨gw_tb (List.mem_of_getElem? (i := 883) (by decide +kernel)) rfl, gw_tb (List.mem_of_getElem? (i := 12) (by decide +kernel)) rfl, gw_tb (List.mem_of_getElem? (i := 886) (by decide +kernel)) rfl, by decide, by decide, by decide +kernel⟩, gw_tb (List.mem_of_getElem? (i := 884) (by decide +kernel)) rfl, gw_tb (List.mem_of_getElem? (i := 885) (by decide +kernel)) rfl⟩
theorem wv_PV_296 : wV R_PV 296 y_Sh_distance b_Sh_distance 5 (some .int) 2 := ⟨⟨gw_tb (List.mem_of_getElem? (i := 895) (by decide +kernel)) rfl, gw_tb (List.mem_of_getElem? (i := 12) (by decide +kernel)) rfl, gw_tb (List.mem_of_getElem? (i := 891) (by decide +kernel)) rfl, by decide, by decide, by decide +kernel⟩, gw_tb (List.mem_of_getElem? (i := 889) (by decide +kernel)) rfl, gw_tb (List.mem_of_getElem? (i := 890) (by decide +kernel)) rfl⟩
def f_PV_nearest_22 (o0 : Ob) (r1 : (Nat → Nat)) (o1 : Ob) (o2 : Ob) (Q : Int32 → (Nat → Nat) → Ob → Prop) (cs sl : Nat) (x1 : Int32) (x2 : Int32) (r3 : (Nat → Nat)) (o3 : Ob) : Prop := (cs + 1 ≤ 1) ∧ ((sl + 5120 ≤ 5120) ∧ (f_Sh_ask x1 r3 o3 r1 o1 o2 (fun u3 u4 => ((cs + 1) ≤ 1) ∧ (((sl + 5120) ≤ 5120) ∧ (f_Sh_nearestFit u3 u4 (gA o1 5) (fun z7 => (z7 = (-1 : Int32) → (((cs + 1) ≤ 1) ∧ (((sl + 5120) ≤ 5120) ∧ (Q (-1 : Int32) u3 u4)))) ∧ (¬ z7 = (-1 : Int32) → ((x2 = (-1 : Int32) → (((cs + 1) ≤ 1) ∧ (((sl + 5120) ≤ 5120) ∧ (f_Sh_distance z7 u3 u4 (gA o1 5) (fun z17 => ((cs + 1) ≤ 1) ∧ (((sl + 5120) ≤ 5120) ∧ (Q z17 u3 u4))))))) ∧ (¬ x2 = (-1 : Int32) → (((cs + 1) ≤ 1) ∧ (((sl + 5120) ≤ 5120) ∧ (f_Sh_widthIn z7 x2 u3 u4 (fun z12 => ((cs + 1) ≤ 1) ∧ (((sl + 5120) ≤ 5120) ∧ (Q z12 u3 u4)))))))))))))))
def f_PV_nearest (a0 : Int32) (a1 : Int32) (o0 : Ob) (r1 : (Nat → Nat)) (o1 : Ob) (o2 : Ob) (r3 : (Nat → Nat)) (o3 : Ob) (Q : Int32 → (Nat → Nat) → Ob → Prop) : Prop := f_PV_isSound a0 (fun z22 => (z22 = 0 → (Q (-1 : Int32) r3 o3)) ∧ (¬ z22 = 0 → ((a1 = (-1 : Int32) → (f_PV_nearest_22 o0 r1 o1 o2 Q 0 0 a0 a1 r3 o3)) ∧ (¬ a1 = (-1 : Int32) → (f_PV_isPiece a1 o0 (fun z25 => (z25 = 0 → (Q (-1 : Int32) r3 o3)) ∧ (¬ z25 = 0 → (f_PV_nearest_22 o0 r1 o1 o2 Q 0 0 a0 a1 r3 o3))))))))
abbrev rm_PV_nearest : Room := { frames := 4, cells := 1, slots := 5120, locals := 110 }
set_option maxHeartbeats 4000000 in
set_option maxRecDepth 100000 in
theorem t_PV_nearest_22 {p : Program} {l : Launch} {e : Env} {s : State} {m : MethodId} {args : Array Value} {below : List Frame} {meth : Method} {c : Code} {A : Nat → Prop} {G : Gl} {h0 : Nat} {q0 : Nat → Nat} {q1 : Nat → Nat} {q2 : Nat → Nat} {q3 : Nat → Nat} (o0 : Ob) (r1 : (Nat → Nat)) (o1 : Ob) (o2 : Ob) (Q : Int32 → (Nat → Nat) → Ob → Prop) (C : Cx p s m args meth c R_PV b_PV_nearest 4 (some .int) G A) :
    ∀ (cs sl : Nat) (x1 : Int32) (x2 : Int32) (r3 : (Nat → Nat)) (o3 : Ob) (ls : Array Slot) (H : Heap) (locs : List Loc), lv_has ls 4 [(0, .ref h0), (1, .int x1), (2, .int x2)] → va_P G.1 CL (cw_PV G h0 q0 o0 ++ (cw_Mo G (q0 4) q1 r1 o1 ++ (cw_He G (q0 8) q2 o2 ++ (cw_Sh G (q0 12) q3 r3 o3)))) H → va_D A (cw_PV G h0 q0 o0 ++ (cw_Mo G (q0 4) q1 r1 o1 ++ (cw_He G (q0 8) q2 o2 ++ (cw_Sh G (q0 12) q3 r3 o3)))) → va_S A s.heap H locs → f_PV_nearest_22 o0 r1 o1 o2 Q cs sl x1 x2 r3 o3 → W p l e rm_PV_nearest s m args below meth c H locs cs sl (MQ below (va_Qi (fun (r : Int32) (u : (Nat → Nat) × Ob) => Q r u.1 u.2) (fun (u : (Nat → Nat) × Ob) t => BW G A (cw_PV G h0 q0 o0 ++ (cw_Mo G (q0 4) q1 r1 o1 ++ (cw_He G (q0 8) q2 o2 ++ (cw_Sh G (q0 12) q3 u.1 u.2)))) t) A) args s 1 5120 A) (F0 m 22 ls []) := by
  obtain ⟨hx, hb, hml, hown, hr, hts, hK, hA, hlocks, hE⟩ := id C
  intro cs sl x1 x2 r3 o3 ls H locs hl hP hD hS h
  have hP : va_P G.1 CL [(h0, .inr (0, [.int (gI o0 0), .ref (q0 1), .ref (q0 2), .ref (q0 3), .ref (q0 4), .ref (q0 5), .ref (q0 6), .ref (q0 7), .ref (q0 8), .ref (q0 9), .ref (q0 10), .ref (q0 11), .ref (q0 12), .ref (q0 13)])), kQ G (q0 3) 3 (fun i => some (q0 (50 + i))), kI G (q0 6) 1000 (gA o0 6), kJ G (q0 7) 2000 (gB o0 7), kI G (q0 13) 5 (gA o0 13), ((q0 4), .inr (5, [.ref (r1 0), .int (gI o1 1), .int (gI o1 2), .ref (q1 3), .ref (q1 4), .ref (q1 5), .ref (q1 6), .ref (q1 7), .ref (q1 8), .ref (q1 9), .ref (q1 10), .int (gI o1 11), .int (gI o1 12)])), kI G (q1 3) 20 (gA o1 3), kI G (q1 4) 20 (gA o1 4), kI G (q1 5) 5 (gA o1 5), kJ G (q1 6) 5 (gB o1 6), kJ G (q1 7) 5 (gB o1 7), kJ G (q1 8) 6 (gB o1 8), kI G (q1 10) 5 (gA o1 10), ((q0 8), .inr (2, [.ref (q2 0), .ref (q2 1), .ref (q2 2)])), kI G (q2 0) 100 (gA o2 0), kI G (q2 1) 100 (gA o2 1), kI G (q2 2) 100 (gA o2 2), ((q0 12), .inr (9, [.int (gI o3 0), .ref (q3 1), .ref (q3 2), .ref (q3 3), .ref (q3 4), .ref (q3 5), .ref (q3 6), .ref (q3 7), .int (gI o3 8), .ref (r3 9), .int (gI o3 10), .ref (r3 11)])), kI G (q3 1) 5 (gA o3 1), kI G (q3 2) 20 (gA o3 2), kI G (q3 3) 5 (gA o3 3), kI G (q3 4) 5 (gA o3 4), kI G (q3 5) 5 (gA o3 5), kI G (q3 6) 5 (gA o3 6), kI G (q3 7) 5 (gA o3 7), kB G (r3 9) (r3 109) (gA o3 9), kI G (r3 11) (r3 111) (gA o3 11)] H := hP
  have hD : va_D A [(h0, .inr (0, [.int (gI o0 0), .ref (q0 1), .ref (q0 2), .ref (q0 3), .ref (q0 4), .ref (q0 5), .ref (q0 6), .ref (q0 7), .ref (q0 8), .ref (q0 9), .ref (q0 10), .ref (q0 11), .ref (q0 12), .ref (q0 13)])), kQ G (q0 3) 3 (fun i => some (q0 (50 + i))), kI G (q0 6) 1000 (gA o0 6), kJ G (q0 7) 2000 (gB o0 7), kI G (q0 13) 5 (gA o0 13), ((q0 4), .inr (5, [.ref (r1 0), .int (gI o1 1), .int (gI o1 2), .ref (q1 3), .ref (q1 4), .ref (q1 5), .ref (q1 6), .ref (q1 7), .ref (q1 8), .ref (q1 9), .ref (q1 10), .int (gI o1 11), .int (gI o1 12)])), kI G (q1 3) 20 (gA o1 3), kI G (q1 4) 20 (gA o1 4), kI G (q1 5) 5 (gA o1 5), kJ G (q1 6) 5 (gB o1 6), kJ G (q1 7) 5 (gB o1 7), kJ G (q1 8) 6 (gB o1 8), kI G (q1 10) 5 (gA o1 10), ((q0 8), .inr (2, [.ref (q2 0), .ref (q2 1), .ref (q2 2)])), kI G (q2 0) 100 (gA o2 0), kI G (q2 1) 100 (gA o2 1), kI G (q2 2) 100 (gA o2 2), ((q0 12), .inr (9, [.int (gI o3 0), .ref (q3 1), .ref (q3 2), .ref (q3 3), .ref (q3 4), .ref (q3 5), .ref (q3 6), .ref (q3 7), .int (gI o3 8), .ref (r3 9), .int (gI o3 10), .ref (r3 11)])), kI G (q3 1) 5 (gA o3 1), kI G (q3 2) 20 (gA o3 2), kI G (q3 3) 5 (gA o3 3), kI G (q3 4) 5 (gA o3 4), kI G (q3 5) 5 (gA o3 5), kI G (q3 6) 5 (gA o3 6), kI G (q3 7) 5 (gA o3 7), kB G (r3 9) (r3 109) (gA o3 9), kI G (r3 11) (r3 111) (gA o3 11)] := hD
  unfold f_PV_nearest_22 at h
  refine lv_aload_n hx hb d_PV_nearest_22 rfl (lv_at hl 0 rfl) ?_
  refine va_get (D := G.1) (ci := 0) (v := .ref (q0 12)) (C := R_PV) (T := T_PV) (N := 14) hx hb hts i_PV hown hK hP 0 rfl rfl 12 (by decide) (hts _ wf_PV_98) (fun _ h9 => h9) rfl d_PV_nearest_23 ?_
  refine lv_aload_n hx hb d_PV_nearest_26 rfl (lv_at hl 0 rfl) ?_
  refine va_get (D := G.1) (ci := 0) (v := .ref (q0 4)) (C := R_PV) (T := T_PV) (N := 14) hx hb hts i_PV hown hK hP 0 rfl rfl 4 (by decide) (hts _ wf_PV_50) (fun _ h9 => h9) rfl d_PV_nearest_27 ?_
  refine lv_aload_n hx hb d_PV_nearest_30 rfl (lv_at hl 0 rfl) ?_
  refine va_get (D := G.1) (ci := 0) (v := .ref (q0 8)) (C := R_PV) (T := T_PV) (N := 14) hx hb hts i_PV hown hK hP 0 rfl rfl 8 (by decide) (hts _ wf_PV_68) (fun _ h9 => h9) rfl d_PV_nearest_31 ?_
  refine lv_iload_n hx hb d_PV_nearest_34 rfl (lv_at hl 1 rfl) ?_
  have g1 := h.1
  have h := h.2
  have g2 := h.1
  have h := h.2
  refine cl_Vv (b := b_PV_nearest) (As := [.ref (q0 4), .ref (q0 8), .int x1]) (rest := []) (ws := [(h0, .inr (0, [.int (gI o0 0), .ref (q0 1), .ref (q0 2), .ref (q0 3), .ref (q0 4), .ref (q0 5), .ref (q0 6), .ref (q0 7), .ref (q0 8), .ref (q0 9), .ref (q0 10), .ref (q0 11), .ref (q0 12), .ref (q0 13)])), kQ G (q0 3) 3 (fun i => some (q0 (50 + i))), kI G (q0 6) 1000 (gA o0 6), kJ G (q0 7) 2000 (gB o0 7), kI G (q0 13) 5 (gA o0 13), ((q0 4), .inr (5, [.ref (r1 0), .int (gI o1 1), .int (gI o1 2), .ref (q1 3), .ref (q1 4), .ref (q1 5), .ref (q1 6), .ref (q1 7), .ref (q1 8), .ref (q1 9), .ref (q1 10), .int (gI o1 11), .int (gI o1 12)])), kI G (q1 3) 20 (gA o1 3), kI G (q1 4) 20 (gA o1 4), kI G (q1 5) 5 (gA o1 5), kJ G (q1 6) 5 (gB o1 6), kJ G (q1 7) 5 (gB o1 7), kJ G (q1 8) 6 (gB o1 8), kI G (q1 10) 5 (gA o1 10), ((q0 8), .inr (2, [.ref (q2 0), .ref (q2 1), .ref (q2 2)])), kI G (q2 0) 100 (gA o2 0), kI G (q2 1) 100 (gA o2 1), kI G (q2 2) 100 (gA o2 2), ((q0 12), .inr (9, [.int (gI o3 0), .ref (q3 1), .ref (q3 2), .ref (q3 3), .ref (q3 4), .ref (q3 5), .ref (q3 6), .ref (q3 7), .int (gI o3 8), .ref (r3 9), .int (gI o3 10), .ref (r3 11)])), kI G (q3 1) 5 (gA o3 1), kI G (q3 2) 20 (gA o3 2), kI G (q3 3) 5 (gA o3 3), kI G (q3 4) 5 (gA o3 4), kI G (q3 5) 5 (gA o3 5), kI G (q3 6) 5 (gA o3 6), kI G (q3 7) 5 (gA o3 7), kB G (r3 9) (r3 109) (gA o3 9), kI G (r3 11) (r3 111) (gA o3 11)]) (wr := [(h0, .inr (0, [.int (gI o0 0), .ref (q0 1), .ref (q0 2), .ref (q0 3), .ref (q0 4), .ref (q0 5), .ref (q0 6), .ref (q0 7), .ref (q0 8), .ref (q0 9), .ref (q0 10), .ref (q0 11), .ref (q0 12), .ref (q0 13)])), kQ G (q0 3) 3 (fun i => some (q0 (50 + i))), kI G (q0 6) 1000 (gA o0 6), kJ G (q0 7) 2000 (gB o0 7), kI G (q0 13) 5 (gA o0 13)]) (w2 := fun (u : (Nat → Nat) × Ob) => [(h0, .inr (0, [.int (gI o0 0), .ref (q0 1), .ref (q0 2), .ref (q0 3), .ref (q0 4), .ref (q0 5), .ref (q0 6), .ref (q0 7), .ref (q0 8), .ref (q0 9), .ref (q0 10), .ref (q0 11), .ref (q0 12), .ref (q0 13)])), kQ G (q0 3) 3 (fun i => some (q0 (50 + i))), kI G (q0 6) 1000 (gA o0 6), kJ G (q0 7) 2000 (gB o0 7), kI G (q0 13) 5 (gA o0 13), ((q0 4), .inr (5, [.ref (r1 0), .int (gI o1 1), .int (gI o1 2), .ref (q1 3), .ref (q1 4), .ref (q1 5), .ref (q1 6), .ref (q1 7), .ref (q1 8), .ref (q1 9), .ref (q1 10), .int (gI o1 11), .int (gI o1 12)])), kI G (q1 3) 20 (gA o1 3), kI G (q1 4) 20 (gA o1 4), kI G (q1 5) 5 (gA o1 5), kJ G (q1 6) 5 (gB o1 6), kJ G (q1 7) 5 (gB o1 7), kJ G (q1 8) 6 (gB o1 8), kI G (q1 10) 5 (gA o1 10), ((q0 8), .inr (2, [.ref (q2 0), .ref (q2 1), .ref (q2 2)])), kI G (q2 0) 100 (gA o2 0), kI G (q2 1) 100 (gA o2 1), kI G (q2 2) 100 (gA o2 2), ((q0 12), .inr (9, [.int (gI u.2 0), .ref (q3 1), .ref (q3 2), .ref (q3 3), .ref (q3 4), .ref (q3 5), .ref (q3 6), .ref (q3 7), .int (gI u.2 8), .ref (u.1 9), .int (gI u.2 10), .ref (u.1 11)])), kI G (q3 1) 5 (gA u.2 1), kI G (q3 2) 20 (gA u.2 2), kI G (q3 3) 5 (gA u.2 3), kI G (q3 4) 5 (gA u.2 4), kI G (q3 5) 5 (gA u.2 5), kI G (q3 6) 5 (gA u.2 6), kI G (q3 7) 5 (gA u.2 7), kB G (u.1 9) (u.1 109) (gA u.2 9), kI G (u.1 11) (u.1 111) (gA u.2 11)]) C (c_Sh_ask (h0 := (q0 12)) (q0 := q3) (h1 := (q0 4)) (q1 := q1) (h2 := (q0 8)) (q2 := q2) H.size h) wv_PV_279 ⟨Nat.le_of_ble_eq_true rfl, Nat.le_of_ble_eq_true rfl⟩ hP hD hS 17 rfl rfl [17, 18, 19, 20, 21, 22, 23, 24, 25, 26, 5, 6, 7, 8, 9, 10, 11, 12, 13, 14, 15, 16] [0, 1, 2, 3, 4] rfl rfl (by decide) (by decide) (by decide) [0, 1, 2, 3, 4, 15, 16, 17, 18, 19, 20, 21, 22, 23, 24, 25, 26, 5, 6, 7, 8, 9, 10, 11, 12, 13, 14] (by decide) (fun u => rfl) rfl hl.1 rfl (lv_room (Nat.le_of_ble_eq_true rfl)) d_PV_nearest_35 ⟨g1, g2⟩ rfl rfl (fun u H locs h hP hD hS => ?_)
  obtain ⟨u3, u4⟩ := u
  have hP : va_P G.1 CL [(h0, .inr (0, [.int (gI o0 0), .ref (q0 1), .ref (q0 2), .ref (q0 3), .ref (q0 4), .ref (q0 5), .ref (q0 6), .ref (q0 7), .ref (q0 8), .ref (q0 9), .ref (q0 10), .ref (q0 11), .ref (q0 12), .ref (q0 13)])), kQ G (q0 3) 3 (fun i => some (q0 (50 + i))), kI G (q0 6) 1000 (gA o0 6), kJ G (q0 7) 2000 (gB o0 7), kI G (q0 13) 5 (gA o0 13), ((q0 4), .inr (5, [.ref (r1 0), .int (gI o1 1), .int (gI o1 2), .ref (q1 3), .ref (q1 4), .ref (q1 5), .ref (q1 6), .ref (q1 7), .ref (q1 8), .ref (q1 9), .ref (q1 10), .int (gI o1 11), .int (gI o1 12)])), kI G (q1 3) 20 (gA o1 3), kI G (q1 4) 20 (gA o1 4), kI G (q1 5) 5 (gA o1 5), kJ G (q1 6) 5 (gB o1 6), kJ G (q1 7) 5 (gB o1 7), kJ G (q1 8) 6 (gB o1 8), kI G (q1 10) 5 (gA o1 10), ((q0 8), .inr (2, [.ref (q2 0), .ref (q2 1), .ref (q2 2)])), kI G (q2 0) 100 (gA o2 0), kI G (q2 1) 100 (gA o2 1), kI G (q2 2) 100 (gA o2 2), ((q0 12), .inr (9, [.int (gI u4 0), .ref (q3 1), .ref (q3 2), .ref (q3 3), .ref (q3 4), .ref (q3 5), .ref (q3 6), .ref (q3 7), .int (gI u4 8), .ref (u3 9), .int (gI u4 10), .ref (u3 11)])), kI G (q3 1) 5 (gA u4 1), kI G (q3 2) 20 (gA u4 2), kI G (q3 3) 5 (gA u4 3), kI G (q3 4) 5 (gA u4 4), kI G (q3 5) 5 (gA u4 5), kI G (q3 6) 5 (gA u4 6), kI G (q3 7) 5 (gA u4 7), kB G (u3 9) (u3 109) (gA u4 9), kI G (u3 11) (u3 111) (gA u4 11)] H := hP
  have hD : va_D A [(h0, .inr (0, [.int (gI o0 0), .ref (q0 1), .ref (q0 2), .ref (q0 3), .ref (q0 4), .ref (q0 5), .ref (q0 6), .ref (q0 7), .ref (q0 8), .ref (q0 9), .ref (q0 10), .ref (q0 11), .ref (q0 12), .ref (q0 13)])), kQ G (q0 3) 3 (fun i => some (q0 (50 + i))), kI G (q0 6) 1000 (gA o0 6), kJ G (q0 7) 2000 (gB o0 7), kI G (q0 13) 5 (gA o0 13), ((q0 4), .inr (5, [.ref (r1 0), .int (gI o1 1), .int (gI o1 2), .ref (q1 3), .ref (q1 4), .ref (q1 5), .ref (q1 6), .ref (q1 7), .ref (q1 8), .ref (q1 9), .ref (q1 10), .int (gI o1 11), .int (gI o1 12)])), kI G (q1 3) 20 (gA o1 3), kI G (q1 4) 20 (gA o1 4), kI G (q1 5) 5 (gA o1 5), kJ G (q1 6) 5 (gB o1 6), kJ G (q1 7) 5 (gB o1 7), kJ G (q1 8) 6 (gB o1 8), kI G (q1 10) 5 (gA o1 10), ((q0 8), .inr (2, [.ref (q2 0), .ref (q2 1), .ref (q2 2)])), kI G (q2 0) 100 (gA o2 0), kI G (q2 1) 100 (gA o2 1), kI G (q2 2) 100 (gA o2 2), ((q0 12), .inr (9, [.int (gI u4 0), .ref (q3 1), .ref (q3 2), .ref (q3 3), .ref (q3 4), .ref (q3 5), .ref (q3 6), .ref (q3 7), .int (gI u4 8), .ref (u3 9), .int (gI u4 10), .ref (u3 11)])), kI G (q3 1) 5 (gA u4 1), kI G (q3 2) 20 (gA u4 2), kI G (q3 3) 5 (gA u4 3), kI G (q3 4) 5 (gA u4 4), kI G (q3 5) 5 (gA u4 5), kI G (q3 6) 5 (gA u4 6), kI G (q3 7) 5 (gA u4 7), kB G (u3 9) (u3 109) (gA u4 9), kI G (u3 11) (u3 111) (gA u4 11)] := hD
  refine lv_aload_n hx hb d_PV_nearest_38 rfl (lv_at hl 0 rfl) ?_
  refine va_get (D := G.1) (ci := 0) (v := .ref (q0 12)) (C := R_PV) (T := T_PV) (N := 14) hx hb hts i_PV hown hK hP 0 rfl rfl 12 (by decide) (hts _ wf_PV_98) (fun _ h9 => h9) rfl d_PV_nearest_39 ?_
  refine lv_aload_n hx hb d_PV_nearest_42 rfl (lv_at hl 0 rfl) ?_
  refine va_get (D := G.1) (ci := 0) (v := .ref (q0 4)) (C := R_PV) (T := T_PV) (N := 14) hx hb hts i_PV hown hK hP 0 rfl rfl 4 (by decide) (hts _ wf_PV_50) (fun _ h9 => h9) rfl d_PV_nearest_43 ?_
  refine va_get (D := G.1) (ci := 5) (v := .ref (q1 5)) (C := R_Mo) (T := T_Mo) (N := 13) hx hb hts i_Mo hown hK hP 5 rfl rfl 5 (by decide) (hts _ wf_PV_197) (fun _ h9 => h9) rfl d_PV_nearest_46 ?_
  have g5 := h.1
  have h := h.2
  have g6 := h.1
  have h := h.2
  refine cl_Vi (b := b_PV_nearest) (As := [.ref (q1 5)]) (rest := []) (ws := [(h0, .inr (0, [.int (gI o0 0), .ref (q0 1), .ref (q0 2), .ref (q0 3), .ref (q0 4), .ref (q0 5), .ref (q0 6), .ref (q0 7), .ref (q0 8), .ref (q0 9), .ref (q0 10), .ref (q0 11), .ref (q0 12), .ref (q0 13)])), kQ G (q0 3) 3 (fun i => some (q0 (50 + i))), kI G (q0 6) 1000 (gA o0 6), kJ G (q0 7) 2000 (gB o0 7), kI G (q0 13) 5 (gA o0 13), ((q0 4), .inr (5, [.ref (r1 0), .int (gI o1 1), .int (gI o1 2), .ref (q1 3), .ref (q1 4), .ref (q1 5), .ref (q1 6), .ref (q1 7), .ref (q1 8), .ref (q1 9), .ref (q1 10), .int (gI o1 11), .int (gI o1 12)])), kI G (q1 3) 20 (gA o1 3), kI G (q1 4) 20 (gA o1 4), kI G (q1 5) 5 (gA o1 5), kJ G (q1 6) 5 (gB o1 6), kJ G (q1 7) 5 (gB o1 7), kJ G (q1 8) 6 (gB o1 8), kI G (q1 10) 5 (gA o1 10), ((q0 8), .inr (2, [.ref (q2 0), .ref (q2 1), .ref (q2 2)])), kI G (q2 0) 100 (gA o2 0), kI G (q2 1) 100 (gA o2 1), kI G (q2 2) 100 (gA o2 2), ((q0 12), .inr (9, [.int (gI u4 0), .ref (q3 1), .ref (q3 2), .ref (q3 3), .ref (q3 4), .ref (q3 5), .ref (q3 6), .ref (q3 7), .int (gI u4 8), .ref (u3 9), .int (gI u4 10), .ref (u3 11)])), kI G (q3 1) 5 (gA u4 1), kI G (q3 2) 20 (gA u4 2), kI G (q3 3) 5 (gA u4 3), kI G (q3 4) 5 (gA u4 4), kI G (q3 5) 5 (gA u4 5), kI G (q3 6) 5 (gA u4 6), kI G (q3 7) 5 (gA u4 7), kB G (u3 9) (u3 109) (gA u4 9), kI G (u3 11) (u3 111) (gA u4 11)]) (wr := [(h0, .inr (0, [.int (gI o0 0), .ref (q0 1), .ref (q0 2), .ref (q0 3), .ref (q0 4), .ref (q0 5), .ref (q0 6), .ref (q0 7), .ref (q0 8), .ref (q0 9), .ref (q0 10), .ref (q0 11), .ref (q0 12), .ref (q0 13)])), kQ G (q0 3) 3 (fun i => some (q0 (50 + i))), kI G (q0 6) 1000 (gA o0 6), kJ G (q0 7) 2000 (gB o0 7), kI G (q0 13) 5 (gA o0 13), ((q0 4), .inr (5, [.ref (r1 0), .int (gI o1 1), .int (gI o1 2), .ref (q1 3), .ref (q1 4), .ref (q1 5), .ref (q1 6), .ref (q1 7), .ref (q1 8), .ref (q1 9), .ref (q1 10), .int (gI o1 11), .int (gI o1 12)])), kI G (q1 3) 20 (gA o1 3), kI G (q1 4) 20 (gA o1 4), kJ G (q1 6) 5 (gB o1 6), kJ G (q1 7) 5 (gB o1 7), kJ G (q1 8) 6 (gB o1 8), kI G (q1 10) 5 (gA o1 10), ((q0 8), .inr (2, [.ref (q2 0), .ref (q2 1), .ref (q2 2)])), kI G (q2 0) 100 (gA o2 0), kI G (q2 1) 100 (gA o2 1), kI G (q2 2) 100 (gA o2 2)]) (w2 := fun (u : Unit) => [(h0, .inr (0, [.int (gI o0 0), .ref (q0 1), .ref (q0 2), .ref (q0 3), .ref (q0 4), .ref (q0 5), .ref (q0 6), .ref (q0 7), .ref (q0 8), .ref (q0 9), .ref (q0 10), .ref (q0 11), .ref (q0 12), .ref (q0 13)])), kQ G (q0 3) 3 (fun i => some (q0 (50 + i))), kI G (q0 6) 1000 (gA o0 6), kJ G (q0 7) 2000 (gB o0 7), kI G (q0 13) 5 (gA o0 13), ((q0 4), .inr (5, [.ref (r1 0), .int (gI o1 1), .int (gI o1 2), .ref (q1 3), .ref (q1 4), .ref (q1 5), .ref (q1 6), .ref (q1 7), .ref (q1 8), .ref (q1 9), .ref (q1 10), .int (gI o1 11), .int (gI o1 12)])), kI G (q1 3) 20 (gA o1 3), kI G (q1 4) 20 (gA o1 4), kI G (q1 5) 5 (gA o1 5), kJ G (q1 6) 5 (gB o1 6), kJ G (q1 7) 5 (gB o1 7), kJ G (q1 8) 6 (gB o1 8), kI G (q1 10) 5 (gA o1 10), ((q0 8), .inr (2, [.ref (q2 0), .ref (q2 1), .ref (q2 2)])), kI G (q2 0) 100 (gA o2 0), kI G (q2 1) 100 (gA o2 1), kI G (q2 2) 100 (gA o2 2), ((q0 12), .inr (9, [.int (gI u4 0), .ref (q3 1), .ref (q3 2), .ref (q3 3), .ref (q3 4), .ref (q3 5), .ref (q3 6), .ref (q3 7), .int (gI u4 8), .ref (u3 9), .int (gI u4 10), .ref (u3 11)])), kI G (q3 1) 5 (gA u4 1), kI G (q3 2) 20 (gA u4 2), kI G (q3 3) 5 (gA u4 3), kI G (q3 4) 5 (gA u4 4), kI G (q3 5) 5 (gA u4 5), kI G (q3 6) 5 (gA u4 6), kI G (q3 7) 5 (gA u4 7), kB G (u3 9) (u3 109) (gA u4 9), kI G (u3 11) (u3 111) (gA u4 11)]) C (c_Sh_nearestFit (h0 := (q0 12)) (q0 := q3) (h1 := (q1 5)) H.size h) wv_PV_292 ⟨Nat.le_of_ble_eq_true rfl, Nat.le_of_ble_eq_true rfl⟩ hP hD hS 17 rfl rfl [17, 18, 19, 20, 21, 22, 23, 24, 25, 26, 8] [0, 1, 2, 3, 4, 5, 6, 7, 9, 10, 11, 12, 13, 14, 15, 16] rfl rfl (by decide) (by decide) (by decide) [0, 1, 2, 3, 4, 5, 6, 7, 26, 8, 9, 10, 11, 12, 13, 14, 15, 16, 17, 18, 19, 20, 21, 22, 23, 24, 25] (by decide) (fun u => rfl) rfl hl.1 rfl (lv_room (Nat.le_of_ble_eq_true rfl)) d_PV_nearest_49 ⟨g5, g6⟩ rfl rfl (fun z7 u H locs h hP hD hS => ?_)
  have hP : va_P G.1 CL [(h0, .inr (0, [.int (gI o0 0), .ref (q0 1), .ref (q0 2), .ref (q0 3), .ref (q0 4), .ref (q0 5), .ref (q0 6), .ref (q0 7), .ref (q0 8), .ref (q0 9), .ref (q0 10), .ref (q0 11), .ref (q0 12), .ref (q0 13)])), kQ G (q0 3) 3 (fun i => some (q0 (50 + i))), kI G (q0 6) 1000 (gA o0 6), kJ G (q0 7) 2000 (gB o0 7), kI G (q0 13) 5 (gA o0 13), ((q0 4), .inr (5, [.ref (r1 0), .int (gI o1 1), .int (gI o1 2), .ref (q1 3), .ref (q1 4), .ref (q1 5), .ref (q1 6), .ref (q1 7), .ref (q1 8), .ref (q1 9), .ref (q1 10), .int (gI o1 11), .int (gI o1 12)])), kI G (q1 3) 20 (gA o1 3), kI G (q1 4) 20 (gA o1 4), kI G (q1 5) 5 (gA o1 5), kJ G (q1 6) 5 (gB o1 6), kJ G (q1 7) 5 (gB o1 7), kJ G (q1 8) 6 (gB o1 8), kI G (q1 10) 5 (gA o1 10), ((q0 8), .inr (2, [.ref (q2 0), .ref (q2 1), .ref (q2 2)])), kI G (q2 0) 100 (gA o2 0), kI G (q2 1) 100 (gA o2 1), kI G (q2 2) 100 (gA o2 2), ((q0 12), .inr (9, [.int (gI u4 0), .ref (q3 1), .ref (q3 2), .ref (q3 3), .ref (q3 4), .ref (q3 5), .ref (q3 6), .ref (q3 7), .int (gI u4 8), .ref (u3 9), .int (gI u4 10), .ref (u3 11)])), kI G (q3 1) 5 (gA u4 1), kI G (q3 2) 20 (gA u4 2), kI G (q3 3) 5 (gA u4 3), kI G (q3 4) 5 (gA u4 4), kI G (q3 5) 5 (gA u4 5), kI G (q3 6) 5 (gA u4 6), kI G (q3 7) 5 (gA u4 7), kB G (u3 9) (u3 109) (gA u4 9), kI G (u3 11) (u3 111) (gA u4 11)] H := hP
  have hD : va_D A [(h0, .inr (0, [.int (gI o0 0), .ref (q0 1), .ref (q0 2), .ref (q0 3), .ref (q0 4), .ref (q0 5), .ref (q0 6), .ref (q0 7), .ref (q0 8), .ref (q0 9), .ref (q0 10), .ref (q0 11), .ref (q0 12), .ref (q0 13)])), kQ G (q0 3) 3 (fun i => some (q0 (50 + i))), kI G (q0 6) 1000 (gA o0 6), kJ G (q0 7) 2000 (gB o0 7), kI G (q0 13) 5 (gA o0 13), ((q0 4), .inr (5, [.ref (r1 0), .int (gI o1 1), .int (gI o1 2), .ref (q1 3), .ref (q1 4), .ref (q1 5), .ref (q1 6), .ref (q1 7), .ref (q1 8), .ref (q1 9), .ref (q1 10), .int (gI o1 11), .int (gI o1 12)])), kI G (q1 3) 20 (gA o1 3), kI G (q1 4) 20 (gA o1 4), kI G (q1 5) 5 (gA o1 5), kJ G (q1 6) 5 (gB o1 6), kJ G (q1 7) 5 (gB o1 7), kJ G (q1 8) 6 (gB o1 8), kI G (q1 10) 5 (gA o1 10), ((q0 8), .inr (2, [.ref (q2 0), .ref (q2 1), .ref (q2 2)])), kI G (q2 0) 100 (gA o2 0), kI G (q2 1) 100 (gA o2 1), kI G (q2 2) 100 (gA o2 2), ((q0 12), .inr (9, [.int (gI u4 0), .ref (q3 1), .ref (q3 2), .ref (q3 3), .ref (q3 4), .ref (q3 5), .ref (q3 6), .ref (q3 7), .int (gI u4 8), .ref (u3 9), .int (gI u4 10), .ref (u3 11)])), kI G (q3 1) 5 (gA u4 1), kI G (q3 2) 20 (gA u4 2), kI G (q3 3) 5 (gA u4 3), kI G (q3 4) 5 (gA u4 4), kI G (q3 5) 5 (gA u4 5), kI G (q3 6) 5 (gA u4 6), kI G (q3 7) 5 (gA u4 7), kB G (u3 9) (u3 109) (gA u4 9), kI G (u3 11) (u3 111) (gA u4 11)] := hD
  refine lv_istore_n (lv' := [(3, .int z7), (0, .ref h0), (1, .int x1), (2, .int x2)]) hx hb d_PV_nearest_52 rfl hl (by decide) rfl (fun ls hl => ?_)
  refine lv_iload_n hx hb d_PV_nearest_53 rfl (lv_at hl 0 rfl) ?_
  refine lv_iconst (v := (-1 : Int32)) hx hb d_PV_nearest_54 (by decide) ?_
  refine lv_icmp_ne (tgt := 60) hx hb d_PV_nearest_55 (by decide) (fun c8 => ?_) (fun c8 => ?_)
  · have h := h.2 c8
    refine lv_iload_n hx hb d_PV_nearest_60 rfl (lv_at hl 3 rfl) ?_
    refine lv_iconst (v := (-1 : Int32)) hx hb d_PV_nearest_61 (by decide) ?_
    refine lv_icmp_ne (tgt := 83) hx hb d_PV_nearest_62 (by decide) (fun c9 => ?_) (fun c9 => ?_)
    · have h := h.2 c9
      refine lv_aload_n hx hb d_PV_nearest_83 rfl (lv_at hl 1 rfl) ?_
      refine va_get (D := G.1) (ci := 0) (v := .ref (q0 12)) (C := R_PV) (T := T_PV) (N := 14) hx hb hts i_PV hown hK hP 0 rfl rfl 12 (by decide) (hts _ wf_PV_98) (fun _ h9 => h9) rfl d_PV_nearest_84 ?_
      refine lv_iload_n hx hb d_PV_nearest_87 rfl (lv_at hl 0 rfl) ?_
      refine lv_iload_n hx hb d_PV_nearest_88 rfl (lv_at hl 3 rfl) ?_
      have g10 := h.1
      have h := h.2
      have g11 := h.1
      have h := h.2
      refine cl_Vi (b := b_PV_nearest) (As := [.int z7, .int x2]) (rest := []) (ws := [(h0, .inr (0, [.int (gI o0 0), .ref (q0 1), .ref (q0 2), .ref (q0 3), .ref (q0 4), .ref (q0 5), .ref (q0 6), .ref (q0 7), .ref (q0 8), .ref (q0 9), .ref (q0 10), .ref (q0 11), .ref (q0 12), .ref (q0 13)])), kQ G (q0 3) 3 (fun i => some (q0 (50 + i))), kI G (q0 6) 1000 (gA o0 6), kJ G (q0 7) 2000 (gB o0 7), kI G (q0 13) 5 (gA o0 13), ((q0 4), .inr (5, [.ref (r1 0), .int (gI o1 1), .int (gI o1 2), .ref (q1 3), .ref (q1 4), .ref (q1 5), .ref (q1 6), .ref (q1 7), .ref (q1 8), .ref (q1 9), .ref (q1 10), .int (gI o1 11), .int (gI o1 12)])), kI G (q1 3) 20 (gA o1 3), kI G (q1 4) 20 (gA o1 4), kI G (q1 5) 5 (gA o1 5), kJ G (q1 6) 5 (gB o1 6), kJ G (q1 7) 5 (gB o1 7), kJ G (q1 8) 6 (gB o1 8), kI G (q1 10) 5 (gA o1 10), ((q0 8), .inr (2, [.ref (q2 0), .ref (q2 1), .ref (q2 2)])), kI G (q2 0) 100 (gA o2 0), kI G (q2 1) 100 (gA o2 1), kI G (q2 2) 100 (gA o2 2), ((q0 12), .inr (9, [.int (gI u4 0), .ref (q3 1), .ref (q3 2), .ref (q3 3), .ref (q3 4), .ref (q3 5), .ref (q3 6), .ref (q3 7), .int (gI u4 8), .ref (u3 9), .int (gI u4 10), .ref (u3 11)])), kI G (q3 1) 5 (gA u4 1), kI G (q3 2) 20 (gA u4 2), kI G (q3 3) 5 (gA u4 3), kI G (q3 4) 5 (gA u4 4), kI G (q3 5) 5 (gA u4 5), kI G (q3 6) 5 (gA u4 6), kI G (q3 7) 5 (gA u4 7), kB G (u3 9) (u3 109) (gA u4 9), kI G (u3 11) (u3 111) (gA u4 11)]) (wr := [(h0, .inr (0, [.int (gI o0 0), .ref (q0 1), .ref (q0 2), .ref (q0 3), .ref (q0 4), .ref (q0 5), .ref (q0 6), .ref (q0 7), .ref (q0 8), .ref (q0 9), .ref (q0 10), .ref (q0 11), .ref (q0 12), .ref (q0 13)])), kQ G (q0 3) 3 (fun i => some (q0 (50 + i))), kI G (q0 6) 1000 (gA o0 6), kJ G (q0 7) 2000 (gB o0 7), kI G (q0 13) 5 (gA o0 13), ((q0 4), .inr (5, [.ref (r1 0), .int (gI o1 1), .int (gI o1 2), .ref (q1 3), .ref (q1 4), .ref (q1 5), .ref (q1 6), .ref (q1 7), .ref (q1 8), .ref (q1 9), .ref (q1 10), .int (gI o1 11), .int (gI o1 12)])), kI G (q1 3) 20 (gA o1 3), kI G (q1 4) 20 (gA o1 4), kI G (q1 5) 5 (gA o1 5), kJ G (q1 6) 5 (gB o1 6), kJ G (q1 7) 5 (gB o1 7), kJ G (q1 8) 6 (gB o1 8), kI G (q1 10) 5 (gA o1 10), ((q0 8), .inr (2, [.ref (q2 0), .ref (q2 1), .ref (q2 2)])), kI G (q2 0) 100 (gA o2 0), kI G (q2 1) 100 (gA o2 1), kI G (q2 2) 100 (gA o2 2)]) (w2 := fun (u : Unit) => [(h0, .inr (0, [.int (gI o0 0), .ref (q0 1), .ref (q0 2), .ref (q0 3), .ref (q0 4), .ref (q0 5), .ref (q0 6), .ref (q0 7), .ref (q0 8), .ref (q0 9), .ref (q0 10), .ref (q0 11), .ref (q0 12), .ref (q0 13)])), kQ G (q0 3) 3 (fun i => some (q0 (50 + i))), kI G (q0 6) 1000 (gA o0 6), kJ G (q0 7) 2000 (gB o0 7), kI G (q0 13) 5 (gA o0 13), ((q0 4), .inr (5, [.ref (r1 0), .int (gI o1 1), .int (gI o1 2), .ref (q1 3), .ref (q1 4), .ref (q1 5), .ref (q1 6), .ref (q1 7), .ref (q1 8), .ref (q1 9), .ref (q1 10), .int (gI o1 11), .int (gI o1 12)])), kI G (q1 3) 20 (gA o1 3), kI G (q1 4) 20 (gA o1 4), kI G (q1 5) 5 (gA o1 5), kJ G (q1 6) 5 (gB o1 6), kJ G (q1 7) 5 (gB o1 7), kJ G (q1 8) 6 (gB o1 8), kI G (q1 10) 5 (gA o1 10), ((q0 8), .inr (2, [.ref (q2 0), .ref (q2 1), .ref (q2 2)])), kI G (q2 0) 100 (gA o2 0), kI G (q2 1) 100 (gA o2 1), kI G (q2 2) 100 (gA o2 2), ((q0 12), .inr (9, [.int (gI u4 0), .ref (q3 1), .ref (q3 2), .ref (q3 3), .ref (q3 4), .ref (q3 5), .ref (q3 6), .ref (q3 7), .int (gI u4 8), .ref (u3 9), .int (gI u4 10), .ref (u3 11)])), kI G (q3 1) 5 (gA u4 1), kI G (q3 2) 20 (gA u4 2), kI G (q3 3) 5 (gA u4 3), kI G (q3 4) 5 (gA u4 4), kI G (q3 5) 5 (gA u4 5), kI G (q3 6) 5 (gA u4 6), kI G (q3 7) 5 (gA u4 7), kB G (u3 9) (u3 109) (gA u4 9), kI G (u3 11) (u3 111) (gA u4 11)]) C (c_Sh_widthIn (h0 := (q0 12)) (q0 := q3) H.size h) wv_PV_289 ⟨Nat.le_of_ble_eq_true rfl, Nat.le_of_ble_eq_true rfl⟩ hP hD hS 17 rfl rfl [17, 18, 19, 20, 21, 22, 23, 24, 25, 26] [0, 1, 2, 3, 4, 5, 6, 7, 8, 9, 10, 11, 12, 13, 14, 15, 16] rfl rfl (by decide) (by decide) (by decide) [0, 1, 2, 3, 4, 5, 6, 7, 8, 9, 10, 11, 12, 13, 14, 15, 16, 17, 18, 19, 20, 21, 22, 23, 24, 25, 26] (by decide) (fun u => rfl) rfl hl.1 rfl (lv_room (Nat.le_of_ble_eq_true rfl)) d_PV_nearest_89 ⟨g10, g11⟩ rfl rfl (fun z12 u H locs h hP hD hS => ?_)
      have hP : va_P G.1 CL [(h0, .inr (0, [.int (gI o0 0), .ref (q0 1), .ref (q0 2), .ref (q0 3), .ref (q0 4), .ref (q0 5), .ref (q0 6), .ref (q0 7), .ref (q0 8), .ref (q0 9), .ref (q0 10), .ref (q0 11), .ref (q0 12), .ref (q0 13)])), kQ G (q0 3) 3 (fun i => some (q0 (50 + i))), kI G (q0 6) 1000 (gA o0 6), kJ G (q0 7) 2000 (gB o0 7), kI G (q0 13) 5 (gA o0 13), ((q0 4), .inr (5, [.ref (r1 0), .int (gI o1 1), .int (gI o1 2), .ref (q1 3), .ref (q1 4), .ref (q1 5), .ref (q1 6), .ref (q1 7), .ref (q1 8), .ref (q1 9), .ref (q1 10), .int (gI o1 11), .int (gI o1 12)])), kI G (q1 3) 20 (gA o1 3), kI G (q1 4) 20 (gA o1 4), kI G (q1 5) 5 (gA o1 5), kJ G (q1 6) 5 (gB o1 6), kJ G (q1 7) 5 (gB o1 7), kJ G (q1 8) 6 (gB o1 8), kI G (q1 10) 5 (gA o1 10), ((q0 8), .inr (2, [.ref (q2 0), .ref (q2 1), .ref (q2 2)])), kI G (q2 0) 100 (gA o2 0), kI G (q2 1) 100 (gA o2 1), kI G (q2 2) 100 (gA o2 2), ((q0 12), .inr (9, [.int (gI u4 0), .ref (q3 1), .ref (q3 2), .ref (q3 3), .ref (q3 4), .ref (q3 5), .ref (q3 6), .ref (q3 7), .int (gI u4 8), .ref (u3 9), .int (gI u4 10), .ref (u3 11)])), kI G (q3 1) 5 (gA u4 1), kI G (q3 2) 20 (gA u4 2), kI G (q3 3) 5 (gA u4 3), kI G (q3 4) 5 (gA u4 4), kI G (q3 5) 5 (gA u4 5), kI G (q3 6) 5 (gA u4 6), kI G (q3 7) 5 (gA u4 7), kB G (u3 9) (u3 109) (gA u4 9), kI G (u3 11) (u3 111) (gA u4 11)] H := hP
      have hD : va_D A [(h0, .inr (0, [.int (gI o0 0), .ref (q0 1), .ref (q0 2), .ref (q0 3), .ref (q0 4), .ref (q0 5), .ref (q0 6), .ref (q0 7), .ref (q0 8), .ref (q0 9), .ref (q0 10), .ref (q0 11), .ref (q0 12), .ref (q0 13)])), kQ G (q0 3) 3 (fun i => some (q0 (50 + i))), kI G (q0 6) 1000 (gA o0 6), kJ G (q0 7) 2000 (gB o0 7), kI G (q0 13) 5 (gA o0 13), ((q0 4), .inr (5, [.ref (r1 0), .int (gI o1 1), .int (gI o1 2), .ref (q1 3), .ref (q1 4), .ref (q1 5), .ref (q1 6), .ref (q1 7), .ref (q1 8), .ref (q1 9), .ref (q1 10), .int (gI o1 11), .int (gI o1 12)])), kI G (q1 3) 20 (gA o1 3), kI G (q1 4) 20 (gA o1 4), kI G (q1 5) 5 (gA o1 5), kJ G (q1 6) 5 (gB o1 6), kJ G (q1 7) 5 (gB o1 7), kJ G (q1 8) 6 (gB o1 8), kI G (q1 10) 5 (gA o1 10), ((q0 8), .inr (2, [.ref (q2 0), .ref (q2 1), .ref (q2 2)])), kI G (q2 0) 100 (gA o2 0), kI G (q2 1) 100 (gA o2 1), kI G (q2 2) 100 (gA o2 2), ((q0 12), .inr (9, [.int (gI u4 0), .ref (q3 1), .ref (q3 2), .ref (q3 3), .ref (q3 4), .ref (q3 5), .ref (q3 6), .ref (q3 7), .int (gI u4 8), .ref (u3 9), .int (gI u4 10), .ref (u3 11)])), kI G (q3 1) 5 (gA u4 1), kI G (q3 2) 20 (gA u4 2), kI G (q3 3) 5 (gA u4 3), kI G (q3 4) 5 (gA u4 4), kI G (q3 5) 5 (gA u4 5), kI G (q3 6) 5 (gA u4 6), kI G (q3 7) 5 (gA u4 7), kB G (u3 9) (u3 109) (gA u4 9), kI G (u3 11) (u3 111) (gA u4 11)] := hD
      have g13 := h.1
      have h := h.2
      have g14 := h.1
      have h := h.2
      refine W.widen (k := 1) (n := 5120) g13 g14 ?_
      have hP : va_P G.1 CL (cw_PV G h0 q0 o0 ++ (cw_Mo G (q0 4) q1 r1 o1 ++ (cw_He G (q0 8) q2 o2 ++ (cw_Sh G (q0 12) q3 u3 u4)))) H := hP
      have hD : va_D A (cw_PV G h0 q0 o0 ++ (cw_Mo G (q0 4) q1 r1 o1 ++ (cw_He G (q0 8) q2 o2 ++ (cw_Sh G (q0 12) q3 u3 u4)))) := hD
      exact W.iret (v := z12) hx hb hr (fun t ht hW => ⟨⟨z12, (u3, u4), rfl, h, by rw [ht]; exact hP, va_K.moved hW.alike hK, hD⟩, hS.F ht⟩) hS.2.2 d_PV_nearest_92
    · have h := h.1 c9
      refine lv_aload_n hx hb d_PV_nearest_65 rfl (lv_at hl 1 rfl) ?_
      refine va_get (D := G.1) (ci := 0) (v := .ref (q0 12)) (C := R_PV) (T := T_PV) (N := 14) hx hb hts i_PV hown hK hP 0 rfl rfl 12 (by decide) (hts _ wf_PV_98) (fun _ h9 => h9) rfl d_PV_nearest_66 ?_
      refine lv_iload_n hx hb d_PV_nearest_69 rfl (lv_at hl 0 rfl) ?_
      refine lv_aload_n hx hb d_PV_nearest_70 rfl (lv_at hl 1 rfl) ?_
      refine va_get (D := G.1) (ci := 0) (v := .ref (q0 4)) (C := R_PV) (T := T_PV) (N := 14) hx hb hts i_PV hown hK hP 0 rfl rfl 4 (by decide) (hts _ wf_PV_50) (fun _ h9 => h9) rfl d_PV_nearest_71 ?_
      refine va_get (D := G.1) (ci := 5) (v := .ref (q1 5)) (C := R_Mo) (T := T_Mo) (N := 13) hx hb hts i_Mo hown hK hP 5 rfl rfl 5 (by decide) (hts _ wf_PV_197) (fun _ h9 => h9) rfl d_PV_nearest_74 ?_
      have g15 := h.1
      have h := h.2
      have g16 := h.1
      have h := h.2
      refine cl_Vi (b := b_PV_nearest) (As := [.int z7, .ref (q1 5)]) (rest := []) (ws := [(h0, .inr (0, [.int (gI o0 0), .ref (q0 1), .ref (q0 2), .ref (q0 3), .ref (q0 4), .ref (q0 5), .ref (q0 6), .ref (q0 7), .ref (q0 8), .ref (q0 9), .ref (q0 10), .ref (q0 11), .ref (q0 12), .ref (q0 13)])), kQ G (q0 3) 3 (fun i => some (q0 (50 + i))), kI G (q0 6) 1000 (gA o0 6), kJ G (q0 7) 2000 (gB o0 7), kI G (q0 13) 5 (gA o0 13), ((q0 4), .inr (5, [.ref (r1 0), .int (gI o1 1), .int (gI o1 2), .ref (q1 3), .ref (q1 4), .ref (q1 5), .ref (q1 6), .ref (q1 7), .ref (q1 8), .ref (q1 9), .ref (q1 10), .int (gI o1 11), .int (gI o1 12)])), kI G (q1 3) 20 (gA o1 3), kI G (q1 4) 20 (gA o1 4), kI G (q1 5) 5 (gA o1 5), kJ G (q1 6) 5 (gB o1 6), kJ G (q1 7) 5 (gB o1 7), kJ G (q1 8) 6 (gB o1 8), kI G (q1 10) 5 (gA o1 10), ((q0 8), .inr (2, [.ref (q2 0), .ref (q2 1), .ref (q2 2)])), kI G (q2 0) 100 (gA o2 0), kI G (q2 1) 100 (gA o2 1), kI G (q2 2) 100 (gA o2 2), ((q0 12), .inr (9, [.int (gI u4 0), .ref (q3 1), .ref (q3 2), .ref (q3 3), .ref (q3 4), .ref (q3 5), .ref (q3 6), .ref (q3 7), .int (gI u4 8), .ref (u3 9), .int (gI u4 10), .ref (u3 11)])), kI G (q3 1) 5 (gA u4 1), kI G (q3 2) 20 (gA u4 2), kI G (q3 3) 5 (gA u4 3), kI G (q3 4) 5 (gA u4 4), kI G (q3 5) 5 (gA u4 5), kI G (q3 6) 5 (gA u4 6), kI G (q3 7) 5 (gA u4 7), kB G (u3 9) (u3 109) (gA u4 9), kI G (u3 11) (u3 111) (gA u4 11)]) (wr := [(h0, .inr (0, [.int (gI o0 0), .ref (q0 1), .ref (q0 2), .ref (q0 3), .ref (q0 4), .ref (q0 5), .ref (q0 6), .ref (q0 7), .ref (q0 8), .ref (q0 9), .ref (q0 10), .ref (q0 11), .ref (q0 12), .ref (q0 13)])), kQ G (q0 3) 3 (fun i => some (q0 (50 + i))), kI G (q0 6) 1000 (gA o0 6), kJ G (q0 7) 2000 (gB o0 7), kI G (q0 13) 5 (gA o0 13), ((q0 4), .inr (5, [.ref (r1 0), .int (gI o1 1), .int (gI o1 2), .ref (q1 3), .ref (q1 4), .ref (q1 5), .ref (q1 6), .ref (q1 7), .ref (q1 8), .ref (q1 9), .ref (q1 10), .int (gI o1 11), .int (gI o1 12)])), kI G (q1 3) 20 (gA o1 3), kI G (q1 4) 20 (gA o1 4), kJ G (q1 6) 5 (gB o1 6), kJ G (q1 7) 5 (gB o1 7), kJ G (q1 8) 6 (gB o1 8), kI G (q1 10) 5 (gA o1 10), ((q0 8), .inr (2, [.ref (q2 0), .ref (q2 1), .ref (q2 2)])), kI G (q2 0) 100 (gA o2 0), kI G (q2 1) 100 (gA o2 1), kI G (q2 2) 100 (gA o2 2)]) (w2 := fun (u : Unit) => [(h0, .inr (0, [.int (gI o0 0), .ref (q0 1), .ref (q0 2), .ref (q0 3), .ref (q0 4), .ref (q0 5), .ref (q0 6), .ref (q0 7), .ref (q0 8), .ref (q0 9), .ref (q0 10), .ref (q0 11), .ref (q0 12), .ref (q0 13)])), kQ G (q0 3) 3 (fun i => some (q0 (50 + i))), kI G (q0 6) 1000 (gA o0 6), kJ G (q0 7) 2000 (gB o0 7), kI G (q0 13) 5 (gA o0 13), ((q0 4), .inr (5, [.ref (r1 0), .int (gI o1 1), .int (gI o1 2), .ref (q1 3), .ref (q1 4), .ref (q1 5), .ref (q1 6), .ref (q1 7), .ref (q1 8), .ref (q1 9), .ref (q1 10), .int (gI o1 11), .int (gI o1 12)])), kI G (q1 3) 20 (gA o1 3), kI G (q1 4) 20 (gA o1 4), kI G (q1 5) 5 (gA o1 5), kJ G (q1 6) 5 (gB o1 6), kJ G (q1 7) 5 (gB o1 7), kJ G (q1 8) 6 (gB o1 8), kI G (q1 10) 5 (gA o1 10), ((q0 8), .inr (2, [.ref (q2 0), .ref (q2 1), .ref (q2 2)])), kI G (q2 0) 100 (gA o2 0), kI G (q2 1) 100 (gA o2 1), kI G (q2 2) 100 (gA o2 2), ((q0 12), .inr (9, [.int (gI u4 0), .ref (q3 1), .ref (q3 2), .ref (q3 3), .ref (q3 4), .ref (q3 5), .ref (q3 6), .ref (q3 7), .int (gI u4 8), .ref (u3 9), .int (gI u4 10), .ref (u3 11)])), kI G (q3 1) 5 (gA u4 1), kI G (q3 2) 20 (gA u4 2), kI G (q3 3) 5 (gA u4 3), kI G (q3 4) 5 (gA u4 4), kI G (q3 5) 5 (gA u4 5), kI G (q3 6) 5 (gA u4 6), kI G (q3 7) 5 (gA u4 7), kB G (u3 9) (u3 109) (gA u4 9), kI G (u3 11) (u3 111) (gA u4 11)]) C (c_Sh_distance (h0 := (q0 12)) (q0 := q3) (h1 := (q1 5)) H.size h) wv_PV_296 ⟨Nat.le_of_ble_eq_true rfl, Nat.le_of_ble_eq_true rfl⟩ hP hD hS 17 rfl rfl [17, 18, 19, 20, 21, 22, 23, 24, 25, 26, 8] [0, 1, 2, 3, 4, 5, 6, 7, 9, 10, 11, 12, 13, 14, 15, 16] rfl rfl (by decide) (by decide) (by decide) [0, 1, 2, 3, 4, 5, 6, 7, 26, 8, 9, 10, 11, 12, 13, 14, 15, 16, 17, 18, 19, 20, 21, 22, 23, 24, 25] (by decide) (fun u => rfl) rfl hl.1 rfl (lv_room (Nat.le_of_ble_eq_true rfl)) d_PV_nearest_77 ⟨g15, g16⟩ rfl rfl (fun z17 u H locs h hP hD hS => ?_)
      have hP : va_P G.1 CL [(h0, .inr (0, [.int (gI o0 0), .ref (q0 1), .ref (q0 2), .ref (q0 3), .ref (q0 4), .ref (q0 5), .ref (q0 6), .ref (q0 7), .ref (q0 8), .ref (q0 9), .ref (q0 10), .ref (q0 11), .ref (q0 12), .ref (q0 13)])), kQ G (q0 3) 3 (fun i => some (q0 (50 + i))), kI G (q0 6) 1000 (gA o0 6), kJ G (q0 7) 2000 (gB o0 7), kI G (q0 13) 5 (gA o0 13), ((q0 4), .inr (5, [.ref (r1 0), .int (gI o1 1), .int (gI o1 2), .ref (q1 3), .ref (q1 4), .ref (q1 5), .ref (q1 6), .ref (q1 7), .ref (q1 8), .ref (q1 9), .ref (q1 10), .int (gI o1 11), .int (gI o1 12)])), kI G (q1 3) 20 (gA o1 3), kI G (q1 4) 20 (gA o1 4), kI G (q1 5) 5 (gA o1 5), kJ G (q1 6) 5 (gB o1 6), kJ G (q1 7) 5 (gB o1 7), kJ G (q1 8) 6 (gB o1 8), kI G (q1 10) 5 (gA o1 10), ((q0 8), .inr (2, [.ref (q2 0), .ref (q2 1), .ref (q2 2)])), kI G (q2 0) 100 (gA o2 0), kI G (q2 1) 100 (gA o2 1), kI G (q2 2) 100 (gA o2 2), ((q0 12), .inr (9, [.int (gI u4 0), .ref (q3 1), .ref (q3 2), .ref (q3 3), .ref (q3 4), .ref (q3 5), .ref (q3 6), .ref (q3 7), .int (gI u4 8), .ref (u3 9), .int (gI u4 10), .ref (u3 11)])), kI G (q3 1) 5 (gA u4 1), kI G (q3 2) 20 (gA u4 2), kI G (q3 3) 5 (gA u4 3), kI G (q3 4) 5 (gA u4 4), kI G (q3 5) 5 (gA u4 5), kI G (q3 6) 5 (gA u4 6), kI G (q3 7) 5 (gA u4 7), kB G (u3 9) (u3 109) (gA u4 9), kI G (u3 11) (u3 111) (gA u4 11)] H := hP
      have hD : va_D A [(h0, .inr (0, [.int (gI o0 0), .ref (q0 1), .ref (q0 2), .ref (q0 3), .ref (q0 4), .ref (q0 5), .ref (q0 6), .ref (q0 7), .ref (q0 8), .ref (q0 9), .ref (q0 10), .ref (q0 11), .ref (q0 12), .ref (q0 13)])), kQ G (q0 3) 3 (fun i => some (q0 (50 + i))), kI G (q0 6) 1000 (gA o0 6), kJ G (q0 7) 2000 (gB o0 7), kI G (q0 13) 5 (gA o0 13), ((q0 4), .inr (5, [.ref (r1 0), .int (gI o1 1), .int (gI o1 2), .ref (q1 3), .ref (q1 4), .ref (q1 5), .ref (q1 6), .ref (q1 7), .ref (q1 8), .ref (q1 9), .ref (q1 10), .int (gI o1 11), .int (gI o1 12)])), kI G (q1 3) 20 (gA o1 3), kI G (q1 4) 20 (gA o1 4), kI G (q1 5) 5 (gA o1 5), kJ G (q1 6) 5 (gB o1 6), kJ G (q1 7) 5 (gB o1 7), kJ G (q1 8) 6 (gB o1 8), kI G (q1 10) 5 (gA o1 10), ((q0 8), .inr (2, [.ref (q2 0), .ref (q2 1), .ref (q2 2)])), kI G (q2 0) 100 (gA o2 0), kI G (q2 1) 100 (gA o2 1), kI G (q2 2) 100 (gA o2 2), ((q0 12), .inr (9, [.int (gI u4 0), .ref (q3 1), .ref (q3 2), .ref (q3 3), .ref (q3 4), .ref (q3 5), .ref (q3 6), .ref (q3 7), .int (gI u4 8), .ref (u3 9), .int (gI u4 10), .ref (u3 11)])), kI G (q3 1) 5 (gA u4 1), kI G (q3 2) 20 (gA u4 2), kI G (q3 3) 5 (gA u4 3), kI G (q3 4) 5 (gA u4 4), kI G (q3 5) 5 (gA u4 5), kI G (q3 6) 5 (gA u4 6), kI G (q3 7) 5 (gA u4 7), kB G (u3 9) (u3 109) (gA u4 9), kI G (u3 11) (u3 111) (gA u4 11)] := hD
      refine lv_goto (tgt := 92) hx hb d_PV_nearest_80 (by decide) ?_
      have g18 := h.1
      have h := h.2
      have g19 := h.1
      have h := h.2
      refine W.widen (k := 1) (n := 5120) g18 g19 ?_
      have hP : va_P G.1 CL (cw_PV G h0 q0 o0 ++ (cw_Mo G (q0 4) q1 r1 o1 ++ (cw_He G (q0 8) q2 o2 ++ (cw_Sh G (q0 12) q3 u3 u4)))) H := hP
      have hD : va_D A (cw_PV G h0 q0 o0 ++ (cw_Mo G (q0 4) q1 r1 o1 ++ (cw_He G (q0 8) q2 o2 ++ (cw_Sh G (q0 12) q3 u3 u4)))) := hD
      exact W.iret (v := z17) hx hb hr (fun t ht hW => ⟨⟨z17, (u3, u4), rfl, h, by rw [ht]; exact hP, va_K.moved hW.alike hK, hD⟩, hS.F ht⟩) hS.2.2 d_PV_nearest_92
  · have h := h.1 c8
    refine lv_iconst (v := (-1 : Int32)) hx hb d_PV_nearest_58 (by decide) ?_
    have g20 := h.1
    have h := h.2
    have g21 := h.1
    have h := h.2
    refine W.widen (k := 1) (n := 5120) g20 g21 ?_
    have hP : va_P G.1 CL (cw_PV G h0 q0 o0 ++ (cw_Mo G (q0 4) q1 r1 o1 ++ (cw_He G (q0 8) q2 o2 ++ (cw_Sh G (q0 12) q3 u3 u4)))) H := hP
    have hD : va_D A (cw_PV G h0 q0 o0 ++ (cw_Mo G (q0 4) q1 r1 o1 ++ (cw_He G (q0 8) q2 o2 ++ (cw_Sh G (q0 12) q3 u3 u4)))) := hD
    exact W.iret (v := (-1 : Int32)) hx hb hr (fun t ht hW => ⟨⟨(-1 : Int32), (u3, u4), rfl, h, by rw [ht]; exact hP, va_K.moved hW.alike hK, hD⟩, hS.F ht⟩) hS.2.2 d_PV_nearest_59
set_option maxHeartbeats 4000000 in
set_option maxRecDepth 100000 in
theorem c_PV_nearest {l : Launch} {G : Gl} {h0 : Nat} {q0 : Nat → Nat} {q1 : Nat → Nat} {q2 : Nat → Nat} {q3 : Nat → Nat} {a0 : Int32} {a1 : Int32} {o0 : Ob} {r1 : (Nat → Nat)} {o1 : Ob} {o2 : Ob} {r3 : (Nat → Nat)} {o3 : Ob} {Q : Int32 → (Nat → Nat) → Ob → Prop} (sz : Nat) (h : f_PV_nearest a0 a1 o0 r1 o1 o2 r3 o3 Q) : Met l y_PV_nearest w_PV_nearest rm_PV_nearest (PcW G [.ref h0, .int a0, .int a1] sz (cw_PV G h0 q0 o0 ++ (cw_Mo G (q0 4) q1 r1 o1 ++ (cw_He G (q0 8) q2 o2 ++ (cw_Sh G (q0 12) q3 r3 o3))))) (va_Qi (fun (r : Int32) (u : (Nat → Nat) × Ob) => Q r u.1 u.2) (fun (u : (Nat → Nat) × Ob) t => BW G (va_A (cw_PV G h0 q0 o0 ++ (cw_Mo G (q0 4) q1 r1 o1 ++ (cw_He G (q0 8) q2 o2 ++ (cw_Sh G (q0 12) q3 r3 o3)))) sz) (cw_PV G h0 q0 o0 ++ (cw_Mo G (q0 4) q1 r1 o1 ++ (cw_He G (q0 8) q2 o2 ++ (cw_Sh G (q0 12) q3 u.1 u.2)))) t) (va_A (cw_PV G h0 q0 o0 ++ (cw_Mo G (q0 4) q1 r1 o1 ++ (cw_He G (q0 8) q2 o2 ++ (cw_Sh G (q0 12) q3 r3 o3)))) sz)) 1 5120 (va_A (cw_PV G h0 q0 o0 ++ (cw_Mo G (q0 4) q1 r1 o1 ++ (cw_He G (q0 8) q2 o2 ++ (cw_Sh G (q0 12) q3 r3 o3)))) sz) := by
  refine Met.ofW (cc := b_PV_nearest) (maxL := 4) (ret := (some .int)) (by decide +kernel) rfl ?_
  intro p e s m args below meth c s₁ B hml hv
  obtain ⟨rfl, hsz, hP, hK, hD0, hE⟩ := hv
  have hx := B.exec
  have hb := B.bytes
  have hr := B.returns
  have hts0 := atoms_spec (ws := w_PV_nearest) B.pre
  have hts : ∀ w ∈ gw_tbl, w.before ([.ref h0, .int a0, .int a1]).toArray s = true := fun w hw => hts0 w (List.mem_cons_of_mem _ hw)
  have hown : s.vm.findClass R_PV = some m.cls := findClass_of_methodNamed B.named
  have hlocks := B.notSynchronized
  subst hsz
  have hD := hD0.self (sz := s.heap.size)
  generalize hAe : va_A (cw_PV G h0 q0 o0 ++ (cw_Mo G (q0 4) q1 r1 o1 ++ (cw_He G (q0 8) q2 o2 ++ (cw_Sh G (q0 12) q3 r3 o3)))) s.heap.size = A at hD hE ⊢
  have hA : ∀ q : Nat, s.heap.size ≤ q → A q := fun q h => by rw [← hAe]; exact Or.inr h
  have hS : va_S A s.heap s.heap [] := va_S.rf
  have C : Cx p s m ([.ref h0, .int a0, .int a1]).toArray meth c R_PV b_PV_nearest 4 (some .int) G A := ⟨hx, hb, hml, hown, hr, hts, hK, hA, hlocks, hE⟩
  have hl := lv_entry ([.ref h0, .int a0, .int a1]) (n := 4) (Nat.le_of_ble_eq_true rfl)
  rw [lg_entry_eq]
  generalize (lg_sl ([.ref h0, .int a0, .int a1]) ++ List.replicate (4 - (lg_sl ([.ref h0, .int a0, .int a1])).length) Slot.unset).toArray = ls at hl ⊢
  have hl : lv_has ls 4 [(0, .ref h0), (1, .int a0), (2, .int a1)] := hl
  have hD : va_D A [(h0, .inr (0, [.int (gI o0 0), .ref (q0 1), .ref (q0 2), .ref (q0 3), .ref (q0 4), .ref (q0 5), .ref (q0 6), .ref (q0 7), .ref (q0 8), .ref (q0 9), .ref (q0 10), .ref (q0 11), .ref (q0 12), .ref (q0 13)])), kQ G (q0 3) 3 (fun i => some (q0 (50 + i))), kI G (q0 6) 1000 (gA o0 6), kJ G (q0 7) 2000 (gB o0 7), kI G (q0 13) 5 (gA o0 13), ((q0 4), .inr (5, [.ref (r1 0), .int (gI o1 1), .int (gI o1 2), .ref (q1 3), .ref (q1 4), .ref (q1 5), .ref (q1 6), .ref (q1 7), .ref (q1 8), .ref (q1 9), .ref (q1 10), .int (gI o1 11), .int (gI o1 12)])), kI G (q1 3) 20 (gA o1 3), kI G (q1 4) 20 (gA o1 4), kI G (q1 5) 5 (gA o1 5), kJ G (q1 6) 5 (gB o1 6), kJ G (q1 7) 5 (gB o1 7), kJ G (q1 8) 6 (gB o1 8), kI G (q1 10) 5 (gA o1 10), ((q0 8), .inr (2, [.ref (q2 0), .ref (q2 1), .ref (q2 2)])), kI G (q2 0) 100 (gA o2 0), kI G (q2 1) 100 (gA o2 1), kI G (q2 2) 100 (gA o2 2), ((q0 12), .inr (9, [.int (gI o3 0), .ref (q3 1), .ref (q3 2), .ref (q3 3), .ref (q3 4), .ref (q3 5), .ref (q3 6), .ref (q3 7), .int (gI o3 8), .ref (r3 9), .int (gI o3 10), .ref (r3 11)])), kI G (q3 1) 5 (gA o3 1), kI G (q3 2) 20 (gA o3 2), kI G (q3 3) 5 (gA o3 3), kI G (q3 4) 5 (gA o3 4), kI G (q3 5) 5 (gA o3 5), kI G (q3 6) 5 (gA o3 6), kI G (q3 7) 5 (gA o3 7), kB G (r3 9) (r3 109) (gA o3 9), kI G (r3 11) (r3 111) (gA o3 11)] := hD
  unfold f_PV_nearest at h
  suffices key : ∀ (H : Heap) (locs : List Loc), va_P G.1 CL [(h0, .inr (0, [.int (gI o0 0), .ref (q0 1), .ref (q0 2), .ref (q0 3), .ref (q0 4), .ref (q0 5), .ref (q0 6), .ref (q0 7), .ref (q0 8), .ref (q0 9), .ref (q0 10), .ref (q0 11), .ref (q0 12), .ref (q0 13)])), kQ G (q0 3) 3 (fun i => some (q0 (50 + i))), kI G (q0 6) 1000 (gA o0 6), kJ G (q0 7) 2000 (gB o0 7), kI G (q0 13) 5 (gA o0 13), ((q0 4), .inr (5, [.ref (r1 0), .int (gI o1 1), .int (gI o1 2), .ref (q1 3), .ref (q1 4), .ref (q1 5), .ref (q1 6), .ref (q1 7), .ref (q1 8), .ref (q1 9), .ref (q1 10), .int (gI o1 11), .int (gI o1 12)])), kI G (q1 3) 20 (gA o1 3), kI G (q1 4) 20 (gA o1 4), kI G (q1 5) 5 (gA o1 5), kJ G (q1 6) 5 (gB o1 6), kJ G (q1 7) 5 (gB o1 7), kJ G (q1 8) 6 (gB o1 8), kI G (q1 10) 5 (gA o1 10), ((q0 8), .inr (2, [.ref (q2 0), .ref (q2 1), .ref (q2 2)])), kI G (q2 0) 100 (gA o2 0), kI G (q2 1) 100 (gA o2 1), kI G (q2 2) 100 (gA o2 2), ((q0 12), .inr (9, [.int (gI o3 0), .ref (q3 1), .ref (q3 2), .ref (q3 3), .ref (q3 4), .ref (q3 5), .ref (q3 6), .ref (q3 7), .int (gI o3 8), .ref (r3 9), .int (gI o3 10), .ref (r3 11)])), kI G (q3 1) 5 (gA o3 1), kI G (q3 2) 20 (gA o3 2), kI G (q3 3) 5 (gA o3 3), kI G (q3 4) 5 (gA o3 4), kI G (q3 5) 5 (gA o3 5), kI G (q3 6) 5 (gA o3 6), kI G (q3 7) 5 (gA o3 7), kB G (r3 9) (r3 109) (gA o3 9), kI G (r3 11) (r3 111) (gA o3 11)] H → va_S A s.heap H locs → W p l e rm_PV_nearest s m ([.ref h0, .int a0, .int a1]).toArray below meth c H locs 0 0 (MQ below (va_Qi (fun (r : Int32) (u : (Nat → Nat) × Ob) => Q r u.1 u.2) (fun (u : (Nat → Nat) × Ob) t => BW G A (cw_PV G h0 q0 o0 ++ (cw_Mo G (q0 4) q1 r1 o1 ++ (cw_He G (q0 8) q2 o2 ++ (cw_Sh G (q0 12) q3 u.1 u.2)))) t) A) ([.ref h0, .int a0, .int a1]).toArray s 1 5120 A) (F0 m 0 ls []) from key s.heap [] hP hS
  intro H locs hP hS
  refine lv_iload_n hx hb d_PV_nearest_0 rfl (lv_at hl 1 rfl) ?_
  refine cl_Si (b := b_PV_nearest) (As := [.int a0]) (rest := []) (ws := [(h0, .inr (0, [.int (gI o0 0), .ref (q0 1), .ref (q0 2), .ref (q0 3), .ref (q0 4), .ref (q0 5), .ref (q0 6), .ref (q0 7), .ref (q0 8), .ref (q0 9), .ref (q0 10), .ref (q0 11), .ref (q0 12), .ref (q0 13)])), kQ G (q0 3) 3 (fun i => some (q0 (50 + i))), kI G (q0 6) 1000 (gA o0 6), kJ G (q0 7) 2000 (gB o0 7), kI G (q0 13) 5 (gA o0 13), ((q0 4), .inr (5, [.ref (r1 0), .int (gI o1 1), .int (gI o1 2), .ref (q1 3), .ref (q1 4), .ref (q1 5), .ref (q1 6), .ref (q1 7), .ref (q1 8), .ref (q1 9), .ref (q1 10), .int (gI o1 11), .int (gI o1 12)])), kI G (q1 3) 20 (gA o1 3), kI G (q1 4) 20 (gA o1 4), kI G (q1 5) 5 (gA o1 5), kJ G (q1 6) 5 (gB o1 6), kJ G (q1 7) 5 (gB o1 7), kJ G (q1 8) 6 (gB o1 8), kI G (q1 10) 5 (gA o1 10), ((q0 8), .inr (2, [.ref (q2 0), .ref (q2 1), .ref (q2 2)])), kI G (q2 0) 100 (gA o2 0), kI G (q2 1) 100 (gA o2 1), kI G (q2 2) 100 (gA o2 2), ((q0 12), .inr (9, [.int (gI o3 0), .ref (q3 1), .ref (q3 2), .ref (q3 3), .ref (q3 4), .ref (q3 5), .ref (q3 6), .ref (q3 7), .int (gI o3 8), .ref (r3 9), .int (gI o3 10), .ref (r3 11)])), kI G (q3 1) 5 (gA o3 1), kI G (q3 2) 20 (gA o3 2), kI G (q3 3) 5 (gA o3 3), kI G (q3 4) 5 (gA o3 4), kI G (q3 5) 5 (gA o3 5), kI G (q3 6) 5 (gA o3 6), kI G (q3 7) 5 (gA o3 7), kB G (r3 9) (r3 109) (gA o3 9), kI G (r3 11) (r3 111) (gA o3 11)]) (wr := [(h0, .inr (0, [.int (gI o0 0), .ref (q0 1), .ref (q0 2), .ref (q0 3), .ref (q0 4), .ref (q0 5), .ref (q0 6), .ref (q0 7), .ref (q0 8), .ref (q0 9), .ref (q0 10), .ref (q0 11), .ref (q0 12), .ref (q0 13)])), kQ G (q0 3) 3 (fun i => some (q0 (50 + i))), kI G (q0 6) 1000 (gA o0 6), kJ G (q0 7) 2000 (gB o0 7), kI G (q0 13) 5 (gA o0 13), ((q0 4), .inr (5, [.ref (r1 0), .int (gI o1 1), .int (gI o1 2), .ref (q1 3), .ref (q1 4), .ref (q1 5), .ref (q1 6), .ref (q1 7), .ref (q1 8), .ref (q1 9), .ref (q1 10), .int (gI o1 11), .int (gI o1 12)])), kI G (q1 3) 20 (gA o1 3), kI G (q1 4) 20 (gA o1 4), kI G (q1 5) 5 (gA o1 5), kJ G (q1 6) 5 (gB o1 6), kJ G (q1 7) 5 (gB o1 7), kJ G (q1 8) 6 (gB o1 8), kI G (q1 10) 5 (gA o1 10), ((q0 8), .inr (2, [.ref (q2 0), .ref (q2 1), .ref (q2 2)])), kI G (q2 0) 100 (gA o2 0), kI G (q2 1) 100 (gA o2 1), kI G (q2 2) 100 (gA o2 2), ((q0 12), .inr (9, [.int (gI o3 0), .ref (q3 1), .ref (q3 2), .ref (q3 3), .ref (q3 4), .ref (q3 5), .ref (q3 6), .ref (q3 7), .int (gI o3 8), .ref (r3 9), .int (gI o3 10), .ref (r3 11)])), kI G (q3 1) 5 (gA o3 1), kI G (q3 2) 20 (gA o3 2), kI G (q3 3) 5 (gA o3 3), kI G (q3 4) 5 (gA o3 4), kI G (q3 5) 5 (gA o3 5), kI G (q3 6) 5 (gA o3 6), kI G (q3 7) 5 (gA o3 7), kB G (r3 9) (r3 109) (gA o3 9), kI G (r3 11) (r3 111) (gA o3 11)]) (w2 := fun (u : Unit) => [(h0, .inr (0, [.int (gI o0 0), .ref (q0 1), .ref (q0 2), .ref (q0 3), .ref (q0 4), .ref (q0 5), .ref (q0 6), .ref (q0 7), .ref (q0 8), .ref (q0 9), .ref (q0 10), .ref (q0 11), .ref (q0 12), .ref (q0 13)])), kQ G (q0 3) 3 (fun i => some (q0 (50 + i))), kI G (q0 6) 1000 (gA o0 6), kJ G (q0 7) 2000 (gB o0 7), kI G (q0 13) 5 (gA o0 13), ((q0 4), .inr (5, [.ref (r1 0), .int (gI o1 1), .int (gI o1 2), .ref (q1 3), .ref (q1 4), .ref (q1 5), .ref (q1 6), .ref (q1 7), .ref (q1 8), .ref (q1 9), .ref (q1 10), .int (gI o1 11), .int (gI o1 12)])), kI G (q1 3) 20 (gA o1 3), kI G (q1 4) 20 (gA o1 4), kI G (q1 5) 5 (gA o1 5), kJ G (q1 6) 5 (gB o1 6), kJ G (q1 7) 5 (gB o1 7), kJ G (q1 8) 6 (gB o1 8), kI G (q1 10) 5 (gA o1 10), ((q0 8), .inr (2, [.ref (q2 0), .ref (q2 1), .ref (q2 2)])), kI G (q2 0) 100 (gA o2 0), kI G (q2 1) 100 (gA o2 1), kI G (q2 2) 100 (gA o2 2), ((q0 12), .inr (9, [.int (gI o3 0), .ref (q3 1), .ref (q3 2), .ref (q3 3), .ref (q3 4), .ref (q3 5), .ref (q3 6), .ref (q3 7), .int (gI o3 8), .ref (r3 9), .int (gI o3 10), .ref (r3 11)])), kI G (q3 1) 5 (gA o3 1), kI G (q3 2) 20 (gA o3 2), kI G (q3 3) 5 (gA o3 3), kI G (q3 4) 5 (gA o3 4), kI G (q3 5) 5 (gA o3 5), kI G (q3 6) 5 (gA o3 6), kI G (q3 7) 5 (gA o3 7), kB G (r3 9) (r3 109) (gA o3 9), kI G (r3 11) (r3 111) (gA o3 11)]) C (c_PV_isSound H.size h) ws_PV_266 ⟨Nat.le_of_ble_eq_true rfl, Nat.le_of_ble_eq_true rfl⟩ hP hD hS [] [0, 1, 2, 3, 4, 5, 6, 7, 8, 9, 10, 11, 12, 13, 14, 15, 16, 17, 18, 19, 20, 21, 22, 23, 24, 25, 26] rfl rfl (by decide) (by decide) (by decide) [0, 1, 2, 3, 4, 5, 6, 7, 8, 9, 10, 11, 12, 13, 14, 15, 16, 17, 18, 19, 20, 21, 22, 23, 24, 25, 26] (by decide) (fun u => rfl) rfl hl.1 rfl (lv_room (Nat.le_of_ble_eq_true rfl)) d_PV_nearest_1 ⟨Nat.le_of_ble_eq_true rfl, Nat.le_of_ble_eq_true rfl⟩ rfl rfl (fun z22 u H locs h hP hD hS => ?_)
  have hP : va_P G.1 CL [(h0, .inr (0, [.int (gI o0 0), .ref (q0 1), .ref (q0 2), .ref (q0 3), .ref (q0 4), .ref (q0 5), .ref (q0 6), .ref (q0 7), .ref (q0 8), .ref (q0 9), .ref (q0 10), .ref (q0 11), .ref (q0 12), .ref (q0 13)])), kQ G (q0 3) 3 (fun i => some (q0 (50 + i))), kI G (q0 6) 1000 (gA o0 6), kJ G (q0 7) 2000 (gB o0 7), kI G (q0 13) 5 (gA o0 13), ((q0 4), .inr (5, [.ref (r1 0), .int (gI o1 1), .int (gI o1 2), .ref (q1 3), .ref (q1 4), .ref (q1 5), .ref (q1 6), .ref (q1 7), .ref (q1 8), .ref (q1 9), .ref (q1 10), .int (gI o1 11), .int (gI o1 12)])), kI G (q1 3) 20 (gA o1 3), kI G (q1 4) 20 (gA o1 4), kI G (q1 5) 5 (gA o1 5), kJ G (q1 6) 5 (gB o1 6), kJ G (q1 7) 5 (gB o1 7), kJ G (q1 8) 6 (gB o1 8), kI G (q1 10) 5 (gA o1 10), ((q0 8), .inr (2, [.ref (q2 0), .ref (q2 1), .ref (q2 2)])), kI G (q2 0) 100 (gA o2 0), kI G (q2 1) 100 (gA o2 1), kI G (q2 2) 100 (gA o2 2), ((q0 12), .inr (9, [.int (gI o3 0), .ref (q3 1), .ref (q3 2), .ref (q3 3), .ref (q3 4), .ref (q3 5), .ref (q3 6), .ref (q3 7), .int (gI o3 8), .ref (r3 9), .int (gI o3 10), .ref (r3 11)])), kI G (q3 1) 5 (gA o3 1), kI G (q3 2) 20 (gA o3 2), kI G (q3 3) 5 (gA o3 3), kI G (q3 4) 5 (gA o3 4), kI G (q3 5) 5 (gA o3 5), kI G (q3 6) 5 (gA o3 6), kI G (q3 7) 5 (gA o3 7), kB G (r3 9) (r3 109) (gA o3 9), kI G (r3 11) (r3 111) (gA o3 11)] H := hP
  have hD : va_D A [(h0, .inr (0, [.int (gI o0 0), .ref (q0 1), .ref (q0 2), .ref (q0 3), .ref (q0 4), .ref (q0 5), .ref (q0 6), .ref (q0 7), .ref (q0 8), .ref (q0 9), .ref (q0 10), .ref (q0 11), .ref (q0 12), .ref (q0 13)])), kQ G (q0 3) 3 (fun i => some (q0 (50 + i))), kI G (q0 6) 1000 (gA o0 6), kJ G (q0 7) 2000 (gB o0 7), kI G (q0 13) 5 (gA o0 13), ((q0 4), .inr (5, [.ref (r1 0), .int (gI o1 1), .int (gI o1 2), .ref (q1 3), .ref (q1 4), .ref (q1 5), .ref (q1 6), .ref (q1 7), .ref (q1 8), .ref (q1 9), .ref (q1 10), .int (gI o1 11), .int (gI o1 12)])), kI G (q1 3) 20 (gA o1 3), kI G (q1 4) 20 (gA o1 4), kI G (q1 5) 5 (gA o1 5), kJ G (q1 6) 5 (gB o1 6), kJ G (q1 7) 5 (gB o1 7), kJ G (q1 8) 6 (gB o1 8), kI G (q1 10) 5 (gA o1 10), ((q0 8), .inr (2, [.ref (q2 0), .ref (q2 1), .ref (q2 2)])), kI G (q2 0) 100 (gA o2 0), kI G (q2 1) 100 (gA o2 1), kI G (q2 2) 100 (gA o2 2), ((q0 12), .inr (9, [.int (gI o3 0), .ref (q3 1), .ref (q3 2), .ref (q3 3), .ref (q3 4), .ref (q3 5), .ref (q3 6), .ref (q3 7), .int (gI o3 8), .ref (r3 9), .int (gI o3 10), .ref (r3 11)])), kI G (q3 1) 5 (gA o3 1), kI G (q3 2) 20 (gA o3 2), kI G (q3 3) 5 (gA o3 3), kI G (q3 4) 5 (gA o3 4), kI G (q3 5) 5 (gA o3 5), kI G (q3 6) 5 (gA o3 6), kI G (q3 7) 5 (gA o3 7), kB G (r3 9) (r3 109) (gA o3 9), kI G (r3 11) (r3 111) (gA o3 11)] := hD
  refine lv_if_eq (tgt := 20) hx hb d_PV_nearest_4 (by decide) (fun c23 => ?_) (fun c23 => ?_)
  · have h := h.1 c23
    refine lv_iconst (v := (-1 : Int32)) hx hb d_PV_nearest_20 (by decide) ?_
    refine W.widen (k := 1) (n := 5120) (Nat.le_of_ble_eq_true rfl) (Nat.le_of_ble_eq_true rfl) ?_
    have hP : va_P G.1 CL (cw_PV G h0 q0 o0 ++ (cw_Mo G (q0 4) q1 r1 o1 ++ (cw_He G (q0 8) q2 o2 ++ (cw_Sh G (q0 12) q3 r3 o3)))) H := hP
    have hD : va_D A (cw_PV G h0 q0 o0 ++ (cw_Mo G (q0 4) q1 r1 o1 ++ (cw_He G (q0 8) q2 o2 ++ (cw_Sh G (q0 12) q3 r3 o3)))) := hD
    exact W.iret (v := (-1 : Int32)) hx hb hr (fun t ht hW => ⟨⟨(-1 : Int32), (r3, o3), rfl, h, by rw [ht]; exact hP, va_K.moved hW.alike hK, hD⟩, hS.F ht⟩) hS.2.2 d_PV_nearest_21
  · have h := h.2 c23
    refine lv_iload_n hx hb d_PV_nearest_7 rfl (lv_at hl 2 rfl) ?_
    refine lv_iconst (v := (-1 : Int32)) hx hb d_PV_nearest_8 (by decide) ?_
    refine lv_icmp_eq (tgt := 22) hx hb d_PV_nearest_9 (by decide) (fun c24 => ?_) (fun c24 => ?_)
    · have h := h.1 c24
      have hl := lv_sub (l' := [(0, .ref h0), (1, .int a0), (2, .int a1)]) hl [0, 1, 2] rfl
      have hP : va_P G.1 CL (cw_PV G h0 q0 o0 ++ (cw_Mo G (q0 4) q1 r1 o1 ++ (cw_He G (q0 8) q2 o2 ++ (cw_Sh G (q0 12) q3 r3 o3)))) H := hP
      have hD : va_D A (cw_PV G h0 q0 o0 ++ (cw_Mo G (q0 4) q1 r1 o1 ++ (cw_He G (q0 8) q2 o2 ++ (cw_Sh G (q0 12) q3 r3 o3)))) := hD
      exact t_PV_nearest_22 o0 r1 o1 o2 Q C 0 0 a0 a1 r3 o3 ls _ locs hl hP hD hS h
    · have h := h.2 c24
      refine lv_aload_n hx hb d_PV_nearest_12 rfl (lv_at hl 0 rfl) ?_
      refine lv_iload_n hx hb d_PV_nearest_13 rfl (lv_at hl 2 rfl) ?_
      refine cl_Vi (b := b_PV_nearest) (As := [.int a1]) (rest := []) (ws := [(h0, .inr (0, [.int (gI o0 0), .ref (q0 1), .ref (q0 2), .ref (q0 3), .ref (q0 4), .ref (q0 5), .ref (q0 6), .ref (q0 7), .ref (q0 8), .ref (q0 9), .ref (q0 10), .ref (q0 11), .ref (q0 12), .ref (q0 13)])), kQ G (q0 3) 3 (fun i => some (q0 (50 + i))), kI G (q0 6) 1000 (gA o0 6), kJ G (q0 7) 2000 (gB o0 7), kI G (q0 13) 5 (gA o0 13), ((q0 4), .inr (5, [.ref (r1 0), .int (gI o1 1), .int (gI o1 2), .ref (q1 3), .ref (q1 4), .ref (q1 5), .ref (q1 6), .ref (q1 7), .ref (q1 8), .ref (q1 9), .ref (q1 10), .int (gI o1 11), .int (gI o1 12)])), kI G (q1 3) 20 (gA o1 3), kI G (q1 4) 20 (gA o1 4), kI G (q1 5) 5 (gA o1 5), kJ G (q1 6) 5 (gB o1 6), kJ G (q1 7) 5 (gB o1 7), kJ G (q1 8) 6 (gB o1 8), kI G (q1 10) 5 (gA o1 10), ((q0 8), .inr (2, [.ref (q2 0), .ref (q2 1), .ref (q2 2)])), kI G (q2 0) 100 (gA o2 0), kI G (q2 1) 100 (gA o2 1), kI G (q2 2) 100 (gA o2 2), ((q0 12), .inr (9, [.int (gI o3 0), .ref (q3 1), .ref (q3 2), .ref (q3 3), .ref (q3 4), .ref (q3 5), .ref (q3 6), .ref (q3 7), .int (gI o3 8), .ref (r3 9), .int (gI o3 10), .ref (r3 11)])), kI G (q3 1) 5 (gA o3 1), kI G (q3 2) 20 (gA o3 2), kI G (q3 3) 5 (gA o3 3), kI G (q3 4) 5 (gA o3 4), kI G (q3 5) 5 (gA o3 5), kI G (q3 6) 5 (gA o3 6), kI G (q3 7) 5 (gA o3 7), kB G (r3 9) (r3 109) (gA o3 9), kI G (r3 11) (r3 111) (gA o3 11)]) (wr := [((q0 4), .inr (5, [.ref (r1 0), .int (gI o1 1), .int (gI o1 2), .ref (q1 3), .ref (q1 4), .ref (q1 5), .ref (q1 6), .ref (q1 7), .ref (q1 8), .ref (q1 9), .ref (q1 10), .int (gI o1 11), .int (gI o1 12)])), kI G (q1 3) 20 (gA o1 3), kI G (q1 4) 20 (gA o1 4), kI G (q1 5) 5 (gA o1 5), kJ G (q1 6) 5 (gB o1 6), kJ G (q1 7) 5 (gB o1 7), kJ G (q1 8) 6 (gB o1 8), kI G (q1 10) 5 (gA o1 10), ((q0 8), .inr (2, [.ref (q2 0), .ref (q2 1), .ref (q2 2)])), kI G (q2 0) 100 (gA o2 0), kI G (q2 1) 100 (gA o2 1), kI G (q2 2) 100 (gA o2 2), ((q0 12), .inr (9, [.int (gI o3 0), .ref (q3 1), .ref (q3 2), .ref (q3 3), .ref (q3 4), .ref (q3 5), .ref (q3 6), .ref (q3 7), .int (gI o3 8), .ref (r3 9), .int (gI o3 10), .ref (r3 11)])), kI G (q3 1) 5 (gA o3 1), kI G (q3 2) 20 (gA o3 2), kI G (q3 3) 5 (gA o3 3), kI G (q3 4) 5 (gA o3 4), kI G (q3 5) 5 (gA o3 5), kI G (q3 6) 5 (gA o3 6), kI G (q3 7) 5 (gA o3 7), kB G (r3 9) (r3 109) (gA o3 9), kI G (r3 11) (r3 111) (gA o3 11)]) (w2 := fun (u : Unit) => [(h0, .inr (0, [.int (gI o0 0), .ref (q0 1), .ref (q0 2), .ref (q0 3), .ref (q0 4), .ref (q0 5), .ref (q0 6), .ref (q0 7), .ref (q0 8), .ref (q0 9), .ref (q0 10), .ref (q0 11), .ref (q0 12), .ref (q0 13)])), kQ G (q0 3) 3 (fun i => some (q0 (50 + i))), kI G (q0 6) 1000 (gA o0 6), kJ G (q0 7) 2000 (gB o0 7), kI G (q0 13) 5 (gA o0 13), ((q0 4), .inr (5, [.ref (r1 0), .int (gI o1 1), .int (gI o1 2), .ref (q1 3), .ref (q1 4), .ref (q1 5), .ref (q1 6), .ref (q1 7), .ref (q1 8), .ref (q1 9), .ref (q1 10), .int (gI o1 11), .int (gI o1 12)])), kI G (q1 3) 20 (gA o1 3), kI G (q1 4) 20 (gA o1 4), kI G (q1 5) 5 (gA o1 5), kJ G (q1 6) 5 (gB o1 6), kJ G (q1 7) 5 (gB o1 7), kJ G (q1 8) 6 (gB o1 8), kI G (q1 10) 5 (gA o1 10), ((q0 8), .inr (2, [.ref (q2 0), .ref (q2 1), .ref (q2 2)])), kI G (q2 0) 100 (gA o2 0), kI G (q2 1) 100 (gA o2 1), kI G (q2 2) 100 (gA o2 2), ((q0 12), .inr (9, [.int (gI o3 0), .ref (q3 1), .ref (q3 2), .ref (q3 3), .ref (q3 4), .ref (q3 5), .ref (q3 6), .ref (q3 7), .int (gI o3 8), .ref (r3 9), .int (gI o3 10), .ref (r3 11)])), kI G (q3 1) 5 (gA o3 1), kI G (q3 2) 20 (gA o3 2), kI G (q3 3) 5 (gA o3 3), kI G (q3 4) 5 (gA o3 4), kI G (q3 5) 5 (gA o3 5), kI G (q3 6) 5 (gA o3 6), kI G (q3 7) 5 (gA o3 7), kB G (r3 9) (r3 109) (gA o3 9), kI G (r3 11) (r3 111) (gA o3 11)]) C (c_PV_isPiece (h0 := h0) (q0 := q0) H.size h) wv_PV_145 ⟨Nat.le_of_ble_eq_true rfl, Nat.le_of_ble_eq_true rfl⟩ hP hD hS 0 rfl rfl [0, 1, 2, 3, 4] [5, 6, 7, 8, 9, 10, 11, 12, 13, 14, 15, 16, 17, 18, 19, 20, 21, 22, 23, 24, 25, 26] rfl rfl (by decide) (by decide) (by decide) [22, 23, 24, 25, 26, 0, 1, 2, 3, 4, 5, 6, 7, 8, 9, 10, 11, 12, 13, 14, 15, 16, 17, 18, 19, 20, 21] (by decide) (fun u => rfl) rfl hl.1 rfl (lv_room (Nat.le_of_ble_eq_true rfl)) d_PV_nearest_14 ⟨Nat.le_of_ble_eq_true rfl, Nat.le_of_ble_eq_true rfl⟩ rfl rfl (fun z25 u H locs h hP hD hS => ?_)
      have hP : va_P G.1 CL [(h0, .inr (0, [.int (gI o0 0), .ref (q0 1), .ref (q0 2), .ref (q0 3), .ref (q0 4), .ref (q0 5), .ref (q0 6), .ref (q0 7), .ref (q0 8), .ref (q0 9), .ref (q0 10), .ref (q0 11), .ref (q0 12), .ref (q0 13)])), kQ G (q0 3) 3 (fun i => some (q0 (50 + i))), kI G (q0 6) 1000 (gA o0 6), kJ G (q0 7) 2000 (gB o0 7), kI G (q0 13) 5 (gA o0 13), ((q0 4), .inr (5, [.ref (r1 0), .int (gI o1 1), .int (gI o1 2), .ref (q1 3), .ref (q1 4), .ref (q1 5), .ref (q1 6), .ref (q1 7), .ref (q1 8), .ref (q1 9), .ref (q1 10), .int (gI o1 11), .int (gI o1 12)])), kI G (q1 3) 20 (gA o1 3), kI G (q1 4) 20 (gA o1 4), kI G (q1 5) 5 (gA o1 5), kJ G (q1 6) 5 (gB o1 6), kJ G (q1 7) 5 (gB o1 7), kJ G (q1 8) 6 (gB o1 8), kI G (q1 10) 5 (gA o1 10), ((q0 8), .inr (2, [.ref (q2 0), .ref (q2 1), .ref (q2 2)])), kI G (q2 0) 100 (gA o2 0), kI G (q2 1) 100 (gA o2 1), kI G (q2 2) 100 (gA o2 2), ((q0 12), .inr (9, [.int (gI o3 0), .ref (q3 1), .ref (q3 2), .ref (q3 3), .ref (q3 4), .ref (q3 5), .ref (q3 6), .ref (q3 7), .int (gI o3 8), .ref (r3 9), .int (gI o3 10), .ref (r3 11)])), kI G (q3 1) 5 (gA o3 1), kI G (q3 2) 20 (gA o3 2), kI G (q3 3) 5 (gA o3 3), kI G (q3 4) 5 (gA o3 4), kI G (q3 5) 5 (gA o3 5), kI G (q3 6) 5 (gA o3 6), kI G (q3 7) 5 (gA o3 7), kB G (r3 9) (r3 109) (gA o3 9), kI G (r3 11) (r3 111) (gA o3 11)] H := hP
      have hD : va_D A [(h0, .inr (0, [.int (gI o0 0), .ref (q0 1), .ref (q0 2), .ref (q0 3), .ref (q0 4), .ref (q0 5), .ref (q0 6), .ref (q0 7), .ref (q0 8), .ref (q0 9), .ref (q0 10), .ref (q0 11), .ref (q0 12), .ref (q0 13)])), kQ G (q0 3) 3 (fun i => some (q0 (50 + i))), kI G (q0 6) 1000 (gA o0 6), kJ G (q0 7) 2000 (gB o0 7), kI G (q0 13) 5 (gA o0 13), ((q0 4), .inr (5, [.ref (r1 0), .int (gI o1 1), .int (gI o1 2), .ref (q1 3), .ref (q1 4), .ref (q1 5), .ref (q1 6), .ref (q1 7), .ref (q1 8), .ref (q1 9), .ref (q1 10), .int (gI o1 11), .int (gI o1 12)])), kI G (q1 3) 20 (gA o1 3), kI G (q1 4) 20 (gA o1 4), kI G (q1 5) 5 (gA o1 5), kJ G (q1 6) 5 (gB o1 6), kJ G (q1 7) 5 (gB o1 7), kJ G (q1 8) 6 (gB o1 8), kI G (q1 10) 5 (gA o1 10), ((q0 8), .inr (2, [.ref (q2 0), .ref (q2 1), .ref (q2 2)])), kI G (q2 0) 100 (gA o2 0), kI G (q2 1) 100 (gA o2 1), kI G (q2 2) 100 (gA o2 2), ((q0 12), .inr (9, [.int (gI o3 0), .ref (q3 1), .ref (q3 2), .ref (q3 3), .ref (q3 4), .ref (q3 5), .ref (q3 6), .ref (q3 7), .int (gI o3 8), .ref (r3 9), .int (gI o3 10), .ref (r3 11)])), kI G (q3 1) 5 (gA o3 1), kI G (q3 2) 20 (gA o3 2), kI G (q3 3) 5 (gA o3 3), kI G (q3 4) 5 (gA o3 4), kI G (q3 5) 5 (gA o3 5), kI G (q3 6) 5 (gA o3 6), kI G (q3 7) 5 (gA o3 7), kB G (r3 9) (r3 109) (gA o3 9), kI G (r3 11) (r3 111) (gA o3 11)] := hD
      refine lv_if_ne (tgt := 22) hx hb d_PV_nearest_17 (by decide) (fun c26 => ?_) (fun c26 => ?_)
      · have h := h.2 c26
        have hl := lv_sub (l' := [(0, .ref h0), (1, .int a0), (2, .int a1)]) hl [0, 1, 2] rfl
        have hP : va_P G.1 CL (cw_PV G h0 q0 o0 ++ (cw_Mo G (q0 4) q1 r1 o1 ++ (cw_He G (q0 8) q2 o2 ++ (cw_Sh G (q0 12) q3 r3 o3)))) H := hP
        have hD : va_D A (cw_PV G h0 q0 o0 ++ (cw_Mo G (q0 4) q1 r1 o1 ++ (cw_He G (q0 8) q2 o2 ++ (cw_Sh G (q0 12) q3 r3 o3)))) := hD
        exact t_PV_nearest_22 o0 r1 o1 o2 Q C 0 0 a0 a1 r3 o3 ls _ locs hl hP hD hS h
      · have h := h.1 c26
        refine lv_iconst (v := (-1 : Int32)) hx hb d_PV_nearest_20 (by decide) ?_
        refine W.widen (k := 1) (n := 5120) (Nat.le_of_ble_eq_true rfl) (Nat.le_of_ble_eq_true rfl) ?_
        have hP : va_P G.1 CL (cw_PV G h0 q0 o0 ++ (cw_Mo G (q0 4) q1 r1 o1 ++ (cw_He G (q0 8) q2 o2 ++ (cw_Sh G (q0 12) q3 r3 o3)))) H := hP
        have hD : va_D A (cw_PV G h0 q0 o0 ++ (cw_Mo G (q0 4) q1 r1 o1 ++ (cw_He G (q0 8) q2 o2 ++ (cw_Sh G (q0 12) q3 r3 o3)))) := hD
        exact W.iret (v := (-1 : Int32)) hx hb hr (fun t ht hW => ⟨⟨(-1 : Int32), (r3, o3), rfl, h, by rw [ht]; exact hP, va_K.moved hW.alike hK, hD⟩, hS.F ht⟩) hS.2.2 d_PV_nearest_21
abbrev b_PV_row : ByteArray := prog_1_method_27_code
def y_PV_row : MethodName := ⟨R_PV, "row", "(III)I"⟩
abbrev w_PV_row : List Cond := Cond.code y_PV_row b_PV_row 5 (some .int) :: gw_tbl
theorem d_PV_row_0 : decode b_PV_row 0 = .ok (.iload_n 1, 1) := by decide +kernel
theorem d_PV_row_1 : decode b_PV_row 1 = .ok (.iconst 1, 1) := by decide +kernel
theorem d_PV_row_2 : decode b_PV_row 2 = .ok (.if_icmp .lt 9, 3) := by decide +kernel
theorem d_PV_row_5 : decode b_PV_row 5 = .ok (.iload_n 1, 1) := by decide +kernel
theorem d_PV_row_6 : decode b_PV_row 6 = .ok (.bipush 8, 2) := by decide +kernel
theorem d_PV_row_8 : decode b_PV_row 8 = .ok (.if_icmp .le 5, 3) := by decide +kernel
theorem d_PV_row_11 : decode b_PV_row 11 = .ok (.iconst (-1), 1) := by decide +kernel
theorem d_PV_row_12 : decode b_PV_row 12 = .ok (.ireturn, 1) := by decide +kernel
theorem d_PV_row_13 : decode b_PV_row 13 = .ok (.iload_n 2, 1) := by decide +kernel
theorem d_PV_row_14 : decode b_PV_row 14 = .ok (.iconst (-1), 1) := by decide +kernel
theorem d_PV_row_15 : decode b_PV_row 15 = .ok (.if_icmp .eq 22, 3) := by decide +kernel
theorem d_PV_row_18 : decode b_PV_row 18 = .ok (.iload_n 2, 1) := by decide +kernel
theorem d_PV_row_19 : decode b_PV_row 19 = .ok (.ifCond .lt 16, 3) := by decide +kernel
theorem d_PV_row_22 : decode b_PV_row 22 = .ok (.iload_n 2, 1) := by decide +kernel
theorem d_PV_row_23 : decode b_PV_row 23 = .ok (.iload_n 1, 1) := by decide +kernel
theorem d_PV_row_24 : decode b_PV_row 24 = .ok (.if_icmp .ge 11, 3) := by decide +kernel
theorem d_PV_row_27 : decode b_PV_row 27 = .ok (.aload_n 0, 1) := by decide +kernel
theorem d_PV_row_28 : decode b_PV_row 28 = .ok (.iload_n 3, 1) := by decide +kernel
theorem d_PV_row_29 : decode b_PV_row 29 = .ok (.invokevirtual 145, 3) := by decide +kernel
theorem d_PV_row_32 : decode b_PV_row 32 = .ok (.ifCond .ne 5, 3) := by decide +kernel
theorem d_PV_row_35 : decode b_PV_row 35 = .ok (.iconst (-1), 1) := by decide +kernel
theorem d_PV_row_36 : decode b_PV_row 36 = .ok (.ireturn, 1) := by decide +kernel
theorem d_PV_row_37 : decode b_PV_row 37 = .ok (.aload_n 0, 1) := by decide +kernel
theorem d_PV_row_38 : decode b_PV_row 38 = .ok (.getfield 98, 3) := by decide +kernel
theorem d_PV_row_41 : decode b_PV_row 41 = .ok (.aload_n 0, 1) := by decide +kernel
theorem d_PV_row_42 : decode b_PV_row 42 = .ok (.getfield 50, 3) := by decide +kernel
theorem d_PV_row_45 : decode b_PV_row 45 = .ok (.aload_n 0, 1) := by decide +kernel
theorem d_PV_row_46 : decode b_PV_row 46 = .ok (.getfield 68, 3) := by decide +kernel
theorem d_PV_row_49 : decode b_PV_row 49 = .ok (.iload_n 1, 1) := by decide +kernel
theorem d_PV_row_50 : decode b_PV_row 50 = .ok (.invokevirtual 300, 3) := by decide +kernel
theorem d_PV_row_53 : decode b_PV_row 53 = .ok (.aload_n 0, 1) := by decide +kernel
theorem d_PV_row_54 : decode b_PV_row 54 = .ok (.getfield 98, 3) := by decide +kernel
theorem d_PV_row_57 : decode b_PV_row 57 = .ok (.invokevirtual 303, 3) := by decide +kernel
theorem d_PV_row_60 : decode b_PV_row 60 = .ok (.istore 4, 2) := by decide +kernel
theorem d_PV_row_62 : decode b_PV_row 62 = .ok (.iload 4, 2) := by decide +kernel
theorem d_PV_row_64 : decode b_PV_row 64 = .ok (.iconst (-1), 1) := by decide +kernel
theorem d_PV_row_65 : decode b_PV_row 65 = .ok (.if_icmp .ne 5, 3) := by decide +kernel
theorem d_PV_row_68 : decode b_PV_row 68 = .ok (.iconst (-1), 1) := by decide +kernel
theorem d_PV_row_69 : decode b_PV_row 69 = .ok (.ireturn, 1) := by decide +kernel
theorem d_PV_row_70 : decode b_PV_row 70 = .ok (.iload_n 2, 1) := by decide +kernel
theorem d_PV_row_71 : decode b_PV_row 71 = .ok (.iconst (-1), 1) := by decide +kernel
theorem d_PV_row_72 : decode b_PV_row 72 = .ok (.if_icmp .ne 15, 3) := by decide +kernel
theorem d_PV_row_75 : decode b_PV_row 75 = .ok (.aload_n 0, 1) := by decide +kernel
theorem d_PV_row_76 : decode b_PV_row 76 = .ok (.getfield 98, 3) := by decide +kernel
theorem d_PV_row_79 : decode b_PV_row 79 = .ok (.iload 4, 2) := by decide +kernel
theorem d_PV_row_81 : decode b_PV_row 81 = .ok (.invokevirtual 306, 3) := by decide +kernel
theorem d_PV_row_84 : decode b_PV_row 84 = .ok (.goto 21, 3) := by decide +kernel
theorem d_PV_row_87 : decode b_PV_row 87 = .ok (.aload_n 0, 1) := by decide +kernel
theorem d_PV_row_88 : decode b_PV_row 88 = .ok (.getfield 98, 3) := by decide +kernel
theorem d_PV_row_91 : decode b_PV_row 91 = .ok (.aload_n 0, 1) := by decide +kernel
theorem d_PV_row_92 : decode b_PV_row 92 = .ok (.getfield 98, 3) := by decide +kernel
theorem d_PV_row_95 : decode b_PV_row 95 = .ok (.iload 4, 2) := by decide +kernel
theorem d_PV_row_97 : decode b_PV_row 97 = .ok (.iload_n 2, 1) := by decide +kernel
theorem d_PV_row_98 : decode b_PV_row 98 = .ok (.invokevirtual 309, 3) := by decide +kernel
theorem d_PV_row_101 : decode b_PV_row 101 = .ok (.iload_n 3, 1) := by decide +kernel
theorem d_PV_row_102 : decode b_PV_row 102 = .ok (.invokevirtual 289, 3) := by decide +kernel
theorem d_PV_row_105 : decode b_PV_row 105 = .ok (.ireturn, 1) := by decide +kernel
theorem wv_PV_300 : wV R_PV 300 y_Sh_weighRow b_Sh_weighRow 7 none 3 := ⟨⟨gw_tb (List.mem_of_getElem? (i := 900) (by decide +kernel)) rfl, gw_tb (List.mem_of_getElem? (i := 12) (by decide +kernel)) rfl, gw_tb (List.mem_of_getElem? (i := 903) (by decide +kernel)) rfl, by decide, by decide, by decide +kernel⟩, gw_tb (List.mem_of_getElem? (i := 901) (by decide +kernel)) rfl, gw_tb (List.mem_of_getElem? (i := 902) (by decide +kernel)) rfl⟩
theorem wv_PV_303 : wV R_PV 303 y_Sh_firstOfRow b_Sh_firstOfRow 4 (some .int) 0 := ⟨⟨gw_tb (List.mem_of_getElem? (i := 917) (by decide +kernel)) rfl, gw_tb (List.mem_of_getElem? (i := 12) (by decide +kernel)) rfl, gw_tb (List.mem_of_getElem? (i := 920) (by decide +kernel)) rfl, by decide, by decide, by decide +kernel⟩, gw_tb (List.mem_of_getElem? (i := 918) (by decide +kernel)) rfl, gw_tb (List.mem_of_getElem? (i := 919) (by decide +kernel)) rfl⟩
theorem wv_PV_309 : wV R_PV 309 y_Sh_shapeOfRow b_Sh_shapeOfRow 7 (some .int) 2 := ⟨⟨gw_tb (List.mem_of_getElem? (i := 925) (by decide +kernel)) rfl, gw_tb (List.mem_of_getElem? (i := 12) (by decide +kernel)) rfl, gw_tb (List.mem_of_getElem? (i := 928) (by decide +kernel)) rfl, by decide, by decide, by decide +kernel⟩, gw_tb (List.mem_of_getElem? (i := 926) (by decide +kernel)) rfl, gw_tb (List.mem_of_getElem? (i := 927) (by decide +kernel)) rfl⟩
theorem wv_PV_306 : wV R_PV 306 y_Sh_sumOfRow b_Sh_sumOfRow 2 (some .int) 1 := ⟨⟨gw_tb (List.mem_of_getElem? (i := 921) (by decide +kernel)) rfl, gw_tb (List.mem_of_getElem? (i := 12) (by decide +kernel)) rfl, gw_tb (List.mem_of_getElem? (i := 924) (by decide +kernel)) rfl, by decide, by decide, by decide +kernel⟩, gw_tb (List.mem_of_getElem? (i := 922) (by decide +kernel)) rfl, gw_tb (List.mem_of_getElem? (i := 923) (by decide +kernel)) rfl⟩
def f_PV_row_37 (o0 : Ob) (r1 : (Nat → Nat)) (o1 : Ob) (o2 : Ob) (Q : Int32 → (Nat → Nat) → Ob → Prop) (cs sl : Nat) (x1 : Int32) (x2 : Int32) (x3 : Int32) (r3 : (Nat → Nat)) (o3 : Ob) : Prop := (cs + 2 ≤ 2) ∧ ((sl + 13312 ≤ 13312) ∧ (f_Sh_weighRow x1 r3 o3 r1 o1 o2 (fun u3 u4 => ((cs + 2) ≤ 2) ∧ (((sl + 13312) ≤ 13312) ∧ (f_Sh_firstOfRow u3 u4 (fun z7 => (z7 = (-1 : Int32) → (((cs + 2) ≤ 2) ∧ (((sl + 13312) ≤ 13312) ∧ (Q (-1 : Int32) u3 u4)))) ∧ (¬ z7 = (-1 : Int32) → ((x2 = (-1 : Int32) → (((cs + 2) ≤ 2) ∧ (((sl + 13312) ≤ 13312) ∧ (f_Sh_sumOfRow z7 u3 u4 (fun z21 => ((cs + 2) ≤ 2) ∧ (((sl + 13312) ≤ 13312) ∧ (Q z21 u3 u4))))))) ∧ (¬ x2 = (-1 : Int32) → (((cs + 2) ≤ 2) ∧ (((sl + 13312) ≤ 13312) ∧ (f_Sh_shapeOfRow z7 x2 u3 u4 (fun z12 u13 => ((cs + 2) ≤ 2) ∧ (((sl + 13312) ≤ 13312) ∧ (f_Sh_widthIn z12 x3 u3 u13 (fun z16 => ((cs + 2) ≤ 2) ∧ (((sl + 13312) ≤ 13312) ∧ (Q z16 u3 u13))))))))))))))))))
def f_PV_row (a0 : Int32) (a1 : Int32) (a2 : Int32) (o0 : Ob) (r1 : (Nat → Nat)) (o1 : Ob) (o2 : Ob) (r3 : (Nat → Nat)) (o3 : Ob) (Q : Int32 → (Nat → Nat) → Ob → Prop) : Prop := (a0 < (1 : Int32) → (Q (-1 : Int32) r3 o3)) ∧ (¬ a0 < (1 : Int32) → ((a0 ≤ (8 : Int32) → ((a1 = (-1 : Int32) → (f_PV_row_37 o0 r1 o1 o2 Q 0 0 a0 a1 a2 r3 o3)) ∧ (¬ a1 = (-1 : Int32) → ((a1 < 0 → (Q (-1 : Int32) r3 o3)) ∧ (¬ a1 < 0 → ((a0 ≤ a1 → (Q (-1 : Int32) r3 o3)) ∧ (¬ a0 ≤ a1 → (f_PV_isPiece a2 o0 (fun z31 => (z31 = 0 → (Q (-1 : Int32) r3 o3)) ∧ (¬ z31 = 0 → (f_PV_row_37 o0 r1 o1 o2 Q 0 0 a0 a1 a2 r3 o3))))))))))) ∧ (¬ a0 ≤ (8 : Int32) → (Q (-1 : Int32) r3 o3))))
abbrev rm_PV_row : Room := { frames := 5, cells := 2, slots := 13312, locals := 136 }
set_option maxHeartbeats 4000000 in
set_option maxRecDepth 100000 in
theorem t_PV_row_37 {p : Program} {l : Launch} {e : Env} {s : State} {m : MethodId} {args : Array Value} {below : List Frame} {meth : Method} {c : Code} {A : Nat → Prop} {G : Gl} {h0 : Nat} {q0 : Nat → Nat} {q1 : Nat → Nat} {q2 : Nat → Nat} {q3 : Nat → Nat} (o0 : Ob) (r1 : (Nat → Nat)) (o1 : Ob) (o2 : Ob) (Q : Int32 → (Nat → Nat) → Ob → Prop) (C : Cx p s m args meth c R_PV b_PV_row 5 (some .int) G A) :
    ∀ (cs sl : Nat) (x1 : Int32) (x2 : Int32) (x3 : Int32) (r3 : (Nat → Nat)) (o3 : Ob) (ls : Array Slot) (H : Heap) (locs : List Loc), lv_has ls 5 [(0, .ref h0), (1, .int x1), (2, .int x2), (3, .int x3)] → va_P G.1 CL (cw_PV G h0 q0 o0 ++ (cw_Mo G (q0 4) q1 r1 o1 ++ (cw_He G (q0 8) q2 o2 ++ (cw_Sh G (q0 12) q3 r3 o3)))) H → va_D A (cw_PV G h0 q0 o0 ++ (cw_Mo G (q0 4) q1 r1 o1 ++ (cw_He G (q0 8) q2 o2 ++ (cw_Sh G (q0 12) q3 r3 o3)))) → va_S A s.heap H locs → f_PV_row_37 o0 r1 o1 o2 Q cs sl x1 x2 x3 r3 o3 → W p l e rm_PV_row s m args below meth c H locs cs sl (MQ below (va_Qi (fun (r : Int32) (u : (Nat → Nat) × Ob) => Q r u.1 u.2) (fun (u : (Nat → Nat) × Ob) t => BW G A (cw_PV G h0 q0 o0 ++ (cw_Mo G (q0 4) q1 r1 o1 ++ (cw_He G (q0 8) q2 o2 ++ (cw_Sh G (q0 12) q3 u.1 u.2)))) t) A) args s 2 13312 A) (F0 m 37 ls []) := by
  obtain ⟨hx, hb, hml, hown, hr, hts, hK, hA, hlocks, hE⟩ := id C
  intro cs sl x1 x2 x3 r3 o3 ls H locs hl hP hD hS h
  have hP : va_P G.1 CL [(h0, .inr (0, [.int (gI o0 0), .ref (q0 1), .ref (q0 2), .ref (q0 3), .ref (q0 4), .ref (q0 5), .ref (q0 6), .ref (q0 7), .ref (q0 8), .ref (q0 9), .ref (q0 10), .ref (q0 11), .ref (q0 12), .ref (q0 13)])), kQ G (q0 3) 3 (fun i => some (q0 (50 + i))), kI G (q0 6) 1000 (gA o0 6), kJ G (q0 7) 2000 (gB o0 7), kI G (q0 13) 5 (gA o0 13), ((q0 4), .inr (5, [.ref (r1 0), .int (gI o1 1), .int (gI o1 2), .ref (q1 3), .ref (q1 4), .ref (q1 5), .ref (q1 6), .ref (q1 7), .ref (q1 8), .ref (q1 9), .ref (q1 10), .int (gI o1 11), .int (gI o1 12)])), kI G (q1 3) 20 (gA o1 3), kI G (q1 4) 20 (gA o1 4), kI G (q1 5) 5 (gA o1 5), kJ G (q1 6) 5 (gB o1 6), kJ G (q1 7) 5 (gB o1 7), kJ G (q1 8) 6 (gB o1 8), kI G (q1 10) 5 (gA o1 10), ((q0 8), .inr (2, [.ref (q2 0), .ref (q2 1), .ref (q2 2)])), kI G (q2 0) 100 (gA o2 0), kI G (q2 1) 100 (gA o2 1), kI G (q2 2) 100 (gA o2 2), ((q0 12), .inr (9, [.int (gI o3 0), .ref (q3 1), .ref (q3 2), .ref (q3 3), .ref (q3 4), .ref (q3 5), .ref (q3 6), .ref (q3 7), .int (gI o3 8), .ref (r3 9), .int (gI o3 10), .ref (r3 11)])), kI G (q3 1) 5 (gA o3 1), kI G (q3 2) 20 (gA o3 2), kI G (q3 3) 5 (gA o3 3), kI G (q3 4) 5 (gA o3 4), kI G (q3 5) 5 (gA o3 5), kI G (q3 6) 5 (gA o3 6), kI G (q3 7) 5 (gA o3 7), kB G (r3 9) (r3 109) (gA o3 9), kI G (r3 11) (r3 111) (gA o3 11)] H := hP
  have hD : va_D A [(h0, .inr (0, [.int (gI o0 0), .ref (q0 1), .ref (q0 2), .ref (q0 3), .ref (q0 4), .ref (q0 5), .ref (q0 6), .ref (q0 7), .ref (q0 8), .ref (q0 9), .ref (q0 10), .ref (q0 11), .ref (q0 12), .ref (q0 13)])), kQ G (q0 3) 3 (fun i => some (q0 (50 + i))), kI G (q0 6) 1000 (gA o0 6), kJ G (q0 7) 2000 (gB o0 7), kI G (q0 13) 5 (gA o0 13), ((q0 4), .inr (5, [.ref (r1 0), .int (gI o1 1), .int (gI o1 2), .ref (q1 3), .ref (q1 4), .ref (q1 5), .ref (q1 6), .ref (q1 7), .ref (q1 8), .ref (q1 9), .ref (q1 10), .int (gI o1 11), .int (gI o1 12)])), kI G (q1 3) 20 (gA o1 3), kI G (q1 4) 20 (gA o1 4), kI G (q1 5) 5 (gA o1 5), kJ G (q1 6) 5 (gB o1 6), kJ G (q1 7) 5 (gB o1 7), kJ G (q1 8) 6 (gB o1 8), kI G (q1 10) 5 (gA o1 10), ((q0 8), .inr (2, [.ref (q2 0), .ref (q2 1), .ref (q2 2)])), kI G (q2 0) 100 (gA o2 0), kI G (q2 1) 100 (gA o2 1), kI G (q2 2) 100 (gA o2 2), ((q0 12), .inr (9, [.int (gI o3 0), .ref (q3 1), .ref (q3 2), .ref (q3 3), .ref (q3 4), .ref (q3 5), .ref (q3 6), .ref (q3 7), .int (gI o3 8), .ref (r3 9), .int (gI o3 10), .ref (r3 11)])), kI G (q3 1) 5 (gA o3 1), kI G (q3 2) 20 (gA o3 2), kI G (q3 3) 5 (gA o3 3), kI G (q3 4) 5 (gA o3 4), kI G (q3 5) 5 (gA o3 5), kI G (q3 6) 5 (gA o3 6), kI G (q3 7) 5 (gA o3 7), kB G (r3 9) (r3 109) (gA o3 9), kI G (r3 11) (r3 111) (gA o3 11)] := hD
  unfold f_PV_row_37 at h
  refine lv_aload_n hx hb d_PV_row_37 rfl (lv_at hl 0 rfl) ?_
  refine va_get (D := G.1) (ci := 0) (v := .ref (q0 12)) (C := R_PV) (T := T_PV) (N := 14) hx hb hts i_PV hown hK hP 0 rfl rfl 12 (by decide) (hts _ wf_PV_98) (fun _ h9 => h9) rfl d_PV_row_38 ?_
  refine lv_aload_n hx hb d_PV_row_41 rfl (lv_at hl 0 rfl) ?_
  refine va_get (D := G.1) (ci := 0) (v := .ref (q0 4)) (C := R_PV) (T := T_PV) (N := 14) hx hb hts i_PV hown hK hP 0 rfl rfl 4 (by decide) (hts _ wf_PV_50) (fun _ h9 => h9) rfl d_PV_row_42 ?_
  refine lv_aload_n hx hb d_PV_row_45 rfl (lv_at hl 0 rfl) ?_
  refine va_get (D := G.1) (ci := 0) (v := .ref (q0 8)) (C := R_PV) (T := T_PV) (N := 14) hx hb hts i_PV hown hK hP 0 rfl rfl 8 (by decide) (hts _ wf_PV_68) (fun _ h9 => h9) rfl d_PV_row_46 ?_
  refine lv_iload_n hx hb d_PV_row_49 rfl (lv_at hl 1 rfl) ?_
  have g1 := h.1
  have h := h.2
  have g2 := h.1
  have h := h.2
  refine cl_Vv (b := b_PV_row) (As := [.ref (q0 4), .ref (q0 8), .int x1]) (rest := []) (ws := [(h0, .inr (0, [.int (gI o0 0), .ref (q0 1), .ref (q0 2), .ref (q0 3), .ref (q0 4), .ref (q0 5), .ref (q0 6), .ref (q0 7), .ref (q0 8), .ref (q0 9), .ref (q0 10), .ref (q0 11), .ref (q0 12), .ref (q0 13)])), kQ G (q0 3) 3 (fun i => some (q0 (50 + i))), kI G (q0 6) 1000 (gA o0 6), kJ G (q0 7) 2000 (gB o0 7), kI G (q0 13) 5 (gA o0 13), ((q0 4), .inr (5, [.ref (r1 0), .int (gI o1 1), .int (gI o1 2), .ref (q1 3), .ref (q1 4), .ref (q1 5), .ref (q1 6), .ref (q1 7), .ref (q1 8), .ref (q1 9), .ref (q1 10), .int (gI o1 11), .int (gI o1 12)])), kI G (q1 3) 20 (gA o1 3), kI G (q1 4) 20 (gA o1 4), kI G (q1 5) 5 (gA o1 5), kJ G (q1 6) 5 (gB o1 6), kJ G (q1 7) 5 (gB o1 7), kJ G (q1 8) 6 (gB o1 8), kI G (q1 10) 5 (gA o1 10), ((q0 8), .inr (2, [.ref (q2 0), .ref (q2 1), .ref (q2 2)])), kI G (q2 0) 100 (gA o2 0), kI G (q2 1) 100 (gA o2 1), kI G (q2 2) 100 (gA o2 2), ((q0 12), .inr (9, [.int (gI o3 0), .ref (q3 1), .ref (q3 2), .ref (q3 3), .ref (q3 4), .ref (q3 5), .ref (q3 6), .ref (q3 7), .int (gI o3 8), .ref (r3 9), .int (gI o3 10), .ref (r3 11)])), kI G (q3 1) 5 (gA o3 1), kI G (q3 2) 20 (gA o3 2), kI G (q3 3) 5 (gA o3 3), kI G (q3 4) 5 (gA o3 4), kI G (q3 5) 5 (gA o3 5), kI G (q3 6) 5 (gA o3 6), kI G (q3 7) 5 (gA o3 7), kB G (r3 9) (r3 109) (gA o3 9), kI G (r3 11) (r3 111) (gA o3 11)]) (wr := [(h0, .inr (0, [.int (gI o0 0), .ref (q0 1), .ref (q0 2), .ref (q0 3), .ref (q0 4), .ref (q0 5), .ref (q0 6), .ref (q0 7), .ref (q0 8), .ref (q0 9), .ref (q0 10), .ref (q0 11), .ref (q0 12), .ref (q0 13)])), kQ G (q0 3) 3 (fun i => some (q0 (50 + i))), kI G (q0 6) 1000 (gA o0 6), kJ G (q0 7) 2000 (gB o0 7), kI G (q0 13) 5 (gA o0 13)]) (w2 := fun (u : (Nat → Nat) × Ob) => [(h0, .inr (0, [.int (gI o0 0), .ref (q0 1), .ref (q0 2), .ref (q0 3), .ref (q0 4), .ref (q0 5), .ref (q0 6), .ref (q0 7), .ref (q0 8), .ref (q0 9), .ref (q0 10), .ref (q0 11), .ref (q0 12), .ref (q0 13)])), kQ G (q0 3) 3 (fun i => some (q0 (50 + i))), kI G (q0 6) 1000 (gA o0 6), kJ G (q0 7) 2000 (gB o0 7), kI G (q0 13) 5 (gA o0 13), ((q0 4), .inr (5, [.ref (r1 0), .int (gI o1 1), .int (gI o1 2), .ref (q1 3), .ref (q1 4), .ref (q1 5), .ref (q1 6), .ref (q1 7), .ref (q1 8), .ref (q1 9), .ref (q1 10), .int (gI o1 11), .int (gI o1 12)])), kI G (q1 3) 20 (gA o1 3), kI G (q1 4) 20 (gA o1 4), kI G (q1 5) 5 (gA o1 5), kJ G (q1 6) 5 (gB o1 6), kJ G (q1 7) 5 (gB o1 7), kJ G (q1 8) 6 (gB o1 8), kI G (q1 10) 5 (gA o1 10), ((q0 8), .inr (2, [.ref (q2 0), .ref (q2 1), .ref (q2 2)])), kI G (q2 0) 100 (gA o2 0), kI G (q2 1) 100 (gA o2 1), kI G (q2 2) 100 (gA o2 2), ((q0 12), .inr (9, [.int (gI u.2 0), .ref (q3 1), .ref (q3 2), .ref (q3 3), .ref (q3 4), .ref (q3 5), .ref (q3 6), .ref (q3 7), .int (gI u.2 8), .ref (u.1 9), .int (gI u.2 10), .ref (u.1 11)])), kI G (q3 1) 5 (gA u.2 1), kI G (q3 2) 20 (gA u.2 2), kI G (q3 3) 5 (gA u.2 3), kI G (q3 4) 5 (gA u.2 4), kI G (q3 5) 5 (gA u.2 5), kI G (q3 6) 5 (gA u.2 6), kI G (q3 7) 5 (gA u.2 7), kB G (u.1 9) (u.1 109) (gA u.2 9), kI G (u.1 11) (u.1 111) (gA u.2 11)]) C (c_Sh_weighRow (h0 := (q0 12)) (q0 := q3) (h1 := (q0 4)) (q1 := q1) (h2 := (q0 8)) (q2 := q2) H.size h) wv_PV_300 ⟨Nat.le_of_ble_eq_true rfl, Nat.le_of_ble_eq_true rfl⟩ hP hD hS 17 rfl rfl [17, 18, 19, 20, 21, 22, 23, 24, 25, 26, 5, 6, 7, 8, 9, 10, 11, 12, 13, 14, 15, 16] [0, 1, 2, 3, 4] rfl rfl (by decide) (by decide) (by decide) [0, 1, 2, 3, 4, 15, 16, 17, 18, 19, 20, 21, 22, 23, 24, 25, 26, 5, 6, 7, 8, 9, 10, 11, 12, 13, 14] (by decide) (fun u => rfl) rfl hl.1 rfl (lv_room (Nat.le_of_ble_eq_true rfl)) d_PV_row_50 ⟨g1, g2⟩ rfl rfl (fun u H locs h hP hD hS => ?_)
  obtain ⟨u3, u4⟩ := u
  have hP : va_P G.1 CL [(h0, .inr (0, [.int (gI o0 0), .ref (q0 1), .ref (q0 2), .ref (q0 3), .ref (q0 4), .ref (q0 5), .ref (q0 6), .ref (q0 7), .ref (q0 8), .ref (q0 9), .ref (q0 10), .ref (q0 11), .ref (q0 12), .ref (q0 13)])), kQ G (q0 3) 3 (fun i => some (q0 (50 + i))), kI G (q0 6) 1000 (gA o0 6), kJ G (q0 7) 2000 (gB o0 7), kI G (q0 13) 5 (gA o0 13), ((q0 4), .inr (5, [.ref (r1 0), .int (gI o1 1), .int (gI o1 2), .ref (q1 3), .ref (q1 4), .ref (q1 5), .ref (q1 6), .ref (q1 7), .ref (q1 8), .ref (q1 9), .ref (q1 10), .int (gI o1 11), .int (gI o1 12)])), kI G (q1 3) 20 (gA o1 3), kI G (q1 4) 20 (gA o1 4), kI G (q1 5) 5 (gA o1 5), kJ G (q1 6) 5 (gB o1 6), kJ G (q1 7) 5 (gB o1 7), kJ G (q1 8) 6 (gB o1 8), kI G (q1 10) 5 (gA o1 10), ((q0 8), .inr (2, [.ref (q2 0), .ref (q2 1), .ref (q2 2)])), kI G (q2 0) 100 (gA o2 0), kI G (q2 1) 100 (gA o2 1), kI G (q2 2) 100 (gA o2 2), ((q0 12), .inr (9, [.int (gI u4 0), .ref (q3 1), .ref (q3 2), .ref (q3 3), .ref (q3 4), .ref (q3 5), .ref (q3 6), .ref (q3 7), .int (gI u4 8), .ref (u3 9), .int (gI u4 10), .ref (u3 11)])), kI G (q3 1) 5 (gA u4 1), kI G (q3 2) 20 (gA u4 2), kI G (q3 3) 5 (gA u4 3), kI G (q3 4) 5 (gA u4 4), kI G (q3 5) 5 (gA u4 5), kI G (q3 6) 5 (gA u4 6), kI G (q3 7) 5 (gA u4 7), kB G (u3 9) (u3 109) (gA u4 9), kI G (u3 11) (u3 111) (gA u4 11)] H := hP
  have hD : va_D A [(h0, .inr (0, [.int (gI o0 0), .ref (q0 1), .ref (q0 2), .ref (q0 3), .ref (q0 4), .ref (q0 5), .ref (q0 6), .ref (q0 7), .ref (q0 8), .ref (q0 9), .ref (q0 10), .ref (q0 11), .ref (q0 12), .ref (q0 13)])), kQ G (q0 3) 3 (fun i => some (q0 (50 + i))), kI G (q0 6) 1000 (gA o0 6), kJ G (q0 7) 2000 (gB o0 7), kI G (q0 13) 5 (gA o0 13), ((q0 4), .inr (5, [.ref (r1 0), .int (gI o1 1), .int (gI o1 2), .ref (q1 3), .ref (q1 4), .ref (q1 5), .ref (q1 6), .ref (q1 7), .ref (q1 8), .ref (q1 9), .ref (q1 10), .int (gI o1 11), .int (gI o1 12)])), kI G (q1 3) 20 (gA o1 3), kI G (q1 4) 20 (gA o1 4), kI G (q1 5) 5 (gA o1 5), kJ G (q1 6) 5 (gB o1 6), kJ G (q1 7) 5 (gB o1 7), kJ G (q1 8) 6 (gB o1 8), kI G (q1 10) 5 (gA o1 10), ((q0 8), .inr (2, [.ref (q2 0), .ref (q2 1), .ref (q2 2)])), kI G (q2 0) 100 (gA o2 0), kI G (q2 1) 100 (gA o2 1), kI G (q2 2) 100 (gA o2 2), ((q0 12), .inr (9, [.int (gI u4 0), .ref (q3 1), .ref (q3 2), .ref (q3 3), .ref (q3 4), .ref (q3 5), .ref (q3 6), .ref (q3 7), .int (gI u4 8), .ref (u3 9), .int (gI u4 10), .ref (u3 11)])), kI G (q3 1) 5 (gA u4 1), kI G (q3 2) 20 (gA u4 2), kI G (q3 3) 5 (gA u4 3), kI G (q3 4) 5 (gA u4 4), kI G (q3 5) 5 (gA u4 5), kI G (q3 6) 5 (gA u4 6), kI G (q3 7) 5 (gA u4 7), kB G (u3 9) (u3 109) (gA u4 9), kI G (u3 11) (u3 111) (gA u4 11)] := hD
  refine lv_aload_n hx hb d_PV_row_53 rfl (lv_at hl 0 rfl) ?_
  refine va_get (D := G.1) (ci := 0) (v := .ref (q0 12)) (C := R_PV) (T := T_PV) (N := 14) hx hb hts i_PV hown hK hP 0 rfl rfl 12 (by decide) (hts _ wf_PV_98) (fun _ h9 => h9) rfl d_PV_row_54 ?_
  have g5 := h.1
  have h := h.2
  have g6 := h.1
  have h := h.2
  refine cl_Vi (b := b_PV_row) (As := []) (rest := []) (ws := [(h0, .inr (0, [.int (gI o0 0), .ref (q0 1), .ref (q0 2), .ref (q0 3), .ref (q0 4), .ref (q0 5), .ref (q0 6), .ref (q0 7), .ref (q0 8), .ref (q0 9), .ref (q0 10), .ref (q0 11), .ref (q0 12), .ref (q0 13)])), kQ G (q0 3) 3 (fun i => some (q0 (50 + i))), kI G (q0 6) 1000 (gA o0 6), kJ G (q0 7) 2000 (gB o0 7), kI G (q0 13) 5 (gA o0 13), ((q0 4), .inr (5, [.ref (r1 0), .int (gI o1 1), .int (gI o1 2), .ref (q1 3), .ref (q1 4), .ref (q1 5), .ref (q1 6), .ref (q1 7), .ref (q1 8), .ref (q1 9), .ref (q1 10), .int (gI o1 11), .int (gI o1 12)])), kI G (q1 3) 20 (gA o1 3), kI G (q1 4) 20 (gA o1 4), kI G (q1 5) 5 (gA o1 5), kJ G (q1 6) 5 (gB o1 6), kJ G (q1 7) 5 (gB o1 7), kJ G (q1 8) 6 (gB o1 8), kI G (q1 10) 5 (gA o1 10), ((q0 8), .inr (2, [.ref (q2 0), .ref (q2 1), .ref (q2 2)])), kI G (q2 0) 100 (gA o2 0), kI G (q2 1) 100 (gA o2 1), kI G (q2 2) 100 (gA o2 2), ((q0 12), .inr (9, [.int (gI u4 0), .ref (q3 1), .ref (q3 2), .ref (q3 3), .ref (q3 4), .ref (q3 5), .ref (q3 6), .ref (q3 7), .int (gI u4 8), .ref (u3 9), .int (gI u4 10), .ref (u3 11)])), kI G (q3 1) 5 (gA u4 1), kI G (q3 2) 20 (gA u4 2), kI G (q3 3) 5 (gA u4 3), kI G (q3 4) 5 (gA u4 4), kI G (q3 5) 5 (gA u4 5), kI G (q3 6) 5 (gA u4 6), kI G (q3 7) 5 (gA u4 7), kB G (u3 9) (u3 109) (gA u4 9), kI G (u3 11) (u3 111) (gA u4 11)]) (wr := [(h0, .inr (0, [.int (gI o0 0), .ref (q0 1), .ref (q0 2), .ref (q0 3), .ref (q0 4), .ref (q0 5), .ref (q0 6), .ref (q0 7), .ref (q0 8), .ref (q0 9), .ref (q0 10), .ref (q0 11), .ref (q0 12), .ref (q0 13)])), kQ G (q0 3) 3 (fun i => some (q0 (50 + i))), kI G (q0 6) 1000 (gA o0 6), kJ G (q0 7) 2000 (gB o0 7), kI G (q0 13) 5 (gA o0 13), ((q0 4), .inr (5, [.ref (r1 0), .int (gI o1 1), .int (gI o1 2), .ref (q1 3), .ref (q1 4), .ref (q1 5), .ref (q1 6), .ref (q1 7), .ref (q1 8), .ref (q1 9), .ref (q1 10), .int (gI o1 11), .int (gI o1 12)])), kI G (q1 3) 20 (gA o1 3), kI G (q1 4) 20 (gA o1 4), kI G (q1 5) 5 (gA o1 5), kJ G (q1 6) 5 (gB o1 6), kJ G (q1 7) 5 (gB o1 7), kJ G (q1 8) 6 (gB o1 8), kI G (q1 10) 5 (gA o1 10), ((q0 8), .inr (2, [.ref (q2 0), .ref (q2 1), .ref (q2 2)])), kI G (q2 0) 100 (gA o2 0), kI G (q2 1) 100 (gA o2 1), kI G (q2 2) 100 (gA o2 2)]) (w2 := fun (u : Unit) => [(h0, .inr (0, [.int (gI o0 0), .ref (q0 1), .ref (q0 2), .ref (q0 3), .ref (q0 4), .ref (q0 5), .ref (q0 6), .ref (q0 7), .ref (q0 8), .ref (q0 9), .ref (q0 10), .ref (q0 11), .ref (q0 12), .ref (q0 13)])), kQ G (q0 3) 3 (fun i => some (q0 (50 + i))), kI G (q0 6) 1000 (gA o0 6), kJ G (q0 7) 2000 (gB o0 7), kI G (q0 13) 5 (gA o0 13), ((q0 4), .inr (5, [.ref (r1 0), .int (gI o1 1), .int (gI o1 2), .ref (q1 3), .ref (q1 4), .ref (q1 5), .ref (q1 6), .ref (q1 7), .ref (q1 8), .ref (q1 9), .ref (q1 10), .int (gI o1 11), .int (gI o1 12)])), kI G (q1 3) 20 (gA o1 3), kI G (q1 4) 20 (gA o1 4), kI G (q1 5) 5 (gA o1 5), kJ G (q1 6) 5 (gB o1 6), kJ G (q1 7) 5 (gB o1 7), kJ G (q1 8) 6 (gB o1 8), kI G (q1 10) 5 (gA o1 10), ((q0 8), .inr (2, [.ref (q2 0), .ref (q2 1), .ref (q2 2)])), kI G (q2 0) 100 (gA o2 0), kI G (q2 1) 100 (gA o2 1), kI G (q2 2) 100 (gA o2 2), ((q0 12), .inr (9, [.int (gI u4 0), .ref (q3 1), .ref (q3 2), .ref (q3 3), .ref (q3 4), .ref (q3 5), .ref (q3 6), .ref (q3 7), .int (gI u4 8), .ref (u3 9), .int (gI u4 10), .ref (u3 11)])), kI G (q3 1) 5 (gA u4 1), kI G (q3 2) 20 (gA u4 2), kI G (q3 3) 5 (gA u4 3), kI G (q3 4) 5 (gA u4 4), kI G (q3 5) 5 (gA u4 5), kI G (q3 6) 5 (gA u4 6), kI G (q3 7) 5 (gA u4 7), kB G (u3 9) (u3 109) (gA u4 9), kI G (u3 11) (u3 111) (gA u4 11)]) C (c_Sh_firstOfRow (h0 := (q0 12)) (q0 := q3) H.size h) wv_PV_303 ⟨Nat.le_of_ble_eq_true rfl, Nat.le_of_ble_eq_true rfl⟩ hP hD hS 17 rfl rfl [17, 18, 19, 20, 21, 22, 23, 24, 25, 26] [0, 1, 2, 3, 4, 5, 6, 7, 8, 9, 10, 11, 12, 13, 14, 15, 16] rfl rfl (by decide) (by decide) (by decide) [0, 1, 2, 3, 4, 5, 6, 7, 8, 9, 10, 11, 12, 13, 14, 15, 16, 17, 18, 19, 20, 21, 22, 23, 24, 25, 26] (by decide) (fun u => rfl) rfl hl.1 rfl (lv_room (Nat.le_of_ble_eq_true rfl)) d_PV_row_57 ⟨g5, g6⟩ rfl rfl (fun z7 u H locs h hP hD hS => ?_)
  have hP : va_P G.1 CL [(h0, .inr (0, [.int (gI o0 0), .ref (q0 1), .ref (q0 2), .ref (q0 3), .ref (q0 4), .ref (q0 5), .ref (q0 6), .ref (q0 7), .ref (q0 8), .ref (q0 9), .ref (q0 10), .ref (q0 11), .ref (q0 12), .ref (q0 13)])), kQ G (q0 3) 3 (fun i => some (q0 (50 + i))), kI G (q0 6) 1000 (gA o0 6), kJ G (q0 7) 2000 (gB o0 7), kI G (q0 13) 5 (gA o0 13), ((q0 4), .inr (5, [.ref (r1 0), .int (gI o1 1), .int (gI o1 2), .ref (q1 3), .ref (q1 4), .ref (q1 5), .ref (q1 6), .ref (q1 7), .ref (q1 8), .ref (q1 9), .ref (q1 10), .int (gI o1 11), .int (gI o1 12)])), kI G (q1 3) 20 (gA o1 3), kI G (q1 4) 20 (gA o1 4), kI G (q1 5) 5 (gA o1 5), kJ G (q1 6) 5 (gB o1 6), kJ G (q1 7) 5 (gB o1 7), kJ G (q1 8) 6 (gB o1 8), kI G (q1 10) 5 (gA o1 10), ((q0 8), .inr (2, [.ref (q2 0), .ref (q2 1), .ref (q2 2)])), kI G (q2 0) 100 (gA o2 0), kI G (q2 1) 100 (gA o2 1), kI G (q2 2) 100 (gA o2 2), ((q0 12), .inr (9, [.int (gI u4 0), .ref (q3 1), .ref (q3 2), .ref (q3 3), .ref (q3 4), .ref (q3 5), .ref (q3 6), .ref (q3 7), .int (gI u4 8), .ref (u3 9), .int (gI u4 10), .ref (u3 11)])), kI G (q3 1) 5 (gA u4 1), kI G (q3 2) 20 (gA u4 2), kI G (q3 3) 5 (gA u4 3), kI G (q3 4) 5 (gA u4 4), kI G (q3 5) 5 (gA u4 5), kI G (q3 6) 5 (gA u4 6), kI G (q3 7) 5 (gA u4 7), kB G (u3 9) (u3 109) (gA u4 9), kI G (u3 11) (u3 111) (gA u4 11)] H := hP
  have hD : va_D A [(h0, .inr (0, [.int (gI o0 0), .ref (q0 1), .ref (q0 2), .ref (q0 3), .ref (q0 4), .ref (q0 5), .ref (q0 6), .ref (q0 7), .ref (q0 8), .ref (q0 9), .ref (q0 10), .ref (q0 11), .ref (q0 12), .ref (q0 13)])), kQ G (q0 3) 3 (fun i => some (q0 (50 + i))), kI G (q0 6) 1000 (gA o0 6), kJ G (q0 7) 2000 (gB o0 7), kI G (q0 13) 5 (gA o0 13), ((q0 4), .inr (5, [.ref (r1 0), .int (gI o1 1), .int (gI o1 2), .ref (q1 3), .ref (q1 4), .ref (q1 5), .ref (q1 6), .ref (q1 7), .ref (q1 8), .ref (q1 9), .ref (q1 10), .int (gI o1 11), .int (gI o1 12)])), kI G (q1 3) 20 (gA o1 3), kI G (q1 4) 20 (gA o1 4), kI G (q1 5) 5 (gA o1 5), kJ G (q1 6) 5 (gB o1 6), kJ G (q1 7) 5 (gB o1 7), kJ G (q1 8) 6 (gB o1 8), kI G (q1 10) 5 (gA o1 10), ((q0 8), .inr (2, [.ref (q2 0), .ref (q2 1), .ref (q2 2)])), kI G (q2 0) 100 (gA o2 0), kI G (q2 1) 100 (gA o2 1), kI G (q2 2) 100 (gA o2 2), ((q0 12), .inr (9, [.int (gI u4 0), .ref (q3 1), .ref (q3 2), .ref (q3 3), .ref (q3 4), .ref (q3 5), .ref (q3 6), .ref (q3 7), .int (gI u4 8), .ref (u3 9), .int (gI u4 10), .ref (u3 11)])), kI G (q3 1) 5 (gA u4 1), kI G (q3 2) 20 (gA u4 2), kI G (q3 3) 5 (gA u4 3), kI G (q3 4) 5 (gA u4 4), kI G (q3 5) 5 (gA u4 5), kI G (q3 6) 5 (gA u4 6), kI G (q3 7) 5 (gA u4 7), kB G (u3 9) (u3 109) (gA u4 9), kI G (u3 11) (u3 111) (gA u4 11)] := hD
  refine lv_istore (lv' := [(4, .int z7), (0, .ref h0), (1, .int x1), (2, .int x2), (3, .int x3)]) hx hb d_PV_row_60 hl (by decide) rfl (fun ls hl => ?_)
  refine lv_iload hx hb d_PV_row_62 (lv_at hl 0 rfl) ?_
  refine lv_iconst (v := (-1 : Int32)) hx hb d_PV_row_64 (by decide) ?_
  refine lv_icmp_ne (tgt := 70) hx hb d_PV_row_65 (by decide) (fun c8 => ?_) (fun c8 => ?_)
  · have h := h.2 c8
    refine lv_iload_n hx hb d_PV_row_70 rfl (lv_at hl 3 rfl) ?_
    refine lv_iconst (v := (-1 : Int32)) hx hb d_PV_row_71 (by decide) ?_
    refine lv_icmp_ne (tgt := 87) hx hb d_PV_row_72 (by decide) (fun c9 => ?_) (fun c9 => ?_)
    · have h := h.2 c9
      refine lv_aload_n hx hb d_PV_row_87 rfl (lv_at hl 1 rfl) ?_
      refine va_get (D := G.1) (ci := 0) (v := .ref (q0 12)) (C := R_PV) (T := T_PV) (N := 14) hx hb hts i_PV hown hK hP 0 rfl rfl 12 (by decide) (hts _ wf_PV_98) (fun _ h9 => h9) rfl d_PV_row_88 ?_
      refine lv_aload_n hx hb d_PV_row_91 rfl (lv_at hl 1 rfl) ?_
      refine va_get (D := G.1) (ci := 0) (v := .ref (q0 12)) (C := R_PV) (T := T_PV) (N := 14) hx hb hts i_PV hown hK hP 0 rfl rfl 12 (by decide) (hts _ wf_PV_98) (fun _ h9 => h9) rfl d_PV_row_92 ?_
      refine lv_iload hx hb d_PV_row_95 (lv_at hl 0 rfl) ?_
      refine lv_iload_n hx hb d_PV_row_97 rfl (lv_at hl 3 rfl) ?_
      have g10 := h.1
      have h := h.2
      have g11 := h.1
      have h := h.2
      refine cl_Vi (b := b_PV_row) (As := [.int z7, .int x2]) (rest := [.ref (q0 12)]) (ws := [(h0, .inr (0, [.int (gI o0 0), .ref (q0 1), .ref (q0 2), .ref (q0 3), .ref (q0 4), .ref (q0 5), .ref (q0 6), .ref (q0 7), .ref (q0 8), .ref (q0 9), .ref (q0 10), .ref (q0 11), .ref (q0 12), .ref (q0 13)])), kQ G (q0 3) 3 (fun i => some (q0 (50 + i))), kI G (q0 6) 1000 (gA o0 6), kJ G (q0 7) 2000 (gB o0 7), kI G (q0 13) 5 (gA o0 13), ((q0 4), .inr (5, [.ref (r1 0), .int (gI o1 1), .int (gI o1 2), .ref (q1 3), .ref (q1 4), .ref (q1 5), .ref (q1 6), .ref (q1 7), .ref (q1 8), .ref (q1 9), .ref (q1 10), .int (gI o1 11), .int (gI o1 12)])), kI G (q1 3) 20 (gA o1 3), kI G (q1 4) 20 (gA o1 4), kI G (q1 5) 5 (gA o1 5), kJ G (q1 6) 5 (gB o1 6), kJ G (q1 7) 5 (gB o1 7), kJ G (q1 8) 6 (gB o1 8), kI G (q1 10) 5 (gA o1 10), ((q0 8), .inr (2, [.ref (q2 0), .ref (q2 1), .ref (q2 2)])), kI G (q2 0) 100 (gA o2 0), kI G (q2 1) 100 (gA o2 1), kI G (q2 2) 100 (gA o2 2), ((q0 12), .inr (9, [.int (gI u4 0), .ref (q3 1), .ref (q3 2), .ref (q3 3), .ref (q3 4), .ref (q3 5), .ref (q3 6), .ref (q3 7), .int (gI u4 8), .ref (u3 9), .int (gI u4 10), .ref (u3 11)])), kI G (q3 1) 5 (gA u4 1), kI G (q3 2) 20 (gA u4 2), kI G (q3 3) 5 (gA u4 3), kI G (q3 4) 5 (gA u4 4), kI G (q3 5) 5 (gA u4 5), kI G (q3 6) 5 (gA u4 6), kI G (q3 7) 5 (gA u4 7), kB G (u3 9) (u3 109) (gA u4 9), kI G (u3 11) (u3 111) (gA u4 11)]) (wr := [(h0, .inr (0, [.int (gI o0 0), .ref (q0 1), .ref (q0 2), .ref (q0 3), .ref (q0 4), .ref (q0 5), .ref (q0 6), .ref (q0 7), .ref (q0 8), .ref (q0 9), .ref (q0 10), .ref (q0 11), .ref (q0 12), .ref (q0 13)])), kQ G (q0 3) 3 (fun i => some (q0 (50 + i))), kI G (q0 6) 1000 (gA o0 6), kJ G (q0 7) 2000 (gB o0 7), kI G (q0 13) 5 (gA o0 13), ((q0 4), .inr (5, [.ref (r1 0), .int (gI o1 1), .int (gI o1 2), .ref (q1 3), .ref (q1 4), .ref (q1 5), .ref (q1 6), .ref (q1 7), .ref (q1 8), .ref (q1 9), .ref (q1 10), .int (gI o1 11), .int (gI o1 12)])), kI G (q1 3) 20 (gA o1 3), kI G (q1 4) 20 (gA o1 4), kI G (q1 5) 5 (gA o1 5), kJ G (q1 6) 5 (gB o1 6), kJ G (q1 7) 5 (gB o1 7), kJ G (q1 8) 6 (gB o1 8), kI G (q1 10) 5 (gA o1 10), ((q0 8), .inr (2, [.ref (q2 0), .ref (q2 1), .ref (q2 2)])), kI G (q2 0) 100 (gA o2 0), kI G (q2 1) 100 (gA o2 1), kI G (q2 2) 100 (gA o2 2)]) (w2 := fun (u : Ob) => [(h0, .inr (0, [.int (gI o0 0), .ref (q0 1), .ref (q0 2), .ref (q0 3), .ref (q0 4), .ref (q0 5), .ref (q0 6), .ref (q0 7), .ref (q0 8), .ref (q0 9), .ref (q0 10), .ref (q0 11), .ref (q0 12), .ref (q0 13)])), kQ G (q0 3) 3 (fun i => some (q0 (50 + i))), kI G (q0 6) 1000 (gA o0 6), kJ G (q0 7) 2000 (gB o0 7), kI G (q0 13) 5 (gA o0 13), ((q0 4), .inr (5, [.ref (r1 0), .int (gI o1 1), .int (gI o1 2), .ref (q1 3), .ref (q1 4), .ref (q1 5), .ref (q1 6), .ref (q1 7), .ref (q1 8), .ref (q1 9), .ref (q1 10), .int (gI o1 11), .int (gI o1 12)])), kI G (q1 3) 20 (gA o1 3), kI G (q1 4) 20 (gA o1 4), kI G (q1 5) 5 (gA o1 5), kJ G (q1 6) 5 (gB o1 6), kJ G (q1 7) 5 (gB o1 7), kJ G (q1 8) 6 (gB o1 8), kI G (q1 10) 5 (gA o1 10), ((q0 8), .inr (2, [.ref (q2 0), .ref (q2 1), .ref (q2 2)])), kI G (q2 0) 100 (gA o2 0), kI G (q2 1) 100 (gA o2 1), kI G (q2 2) 100 (gA o2 2), ((q0 12), .inr (9, [.int (gI u 0), .ref (q3 1), .ref (q3 2), .ref (q3 3), .ref (q3 4), .ref (q3 5), .ref (q3 6), .ref (q3 7), .int (gI u 8), .ref (u3 9), .int (gI u 10), .ref (u3 11)])), kI G (q3 1) 5 (gA u 1), kI G (q3 2) 20 (gA u 2), kI G (q3 3) 5 (gA u 3), kI G (q3 4) 5 (gA u 4), kI G (q3 5) 5 (gA u 5), kI G (q3 6) 5 (gA u 6), kI G (q3 7) 5 (gA u 7), kB G (u3 9) (u3 109) (gA u 9), kI G (u3 11) (u3 111) (gA u 11)]) C (c_Sh_shapeOfRow (h0 := (q0 12)) (q0 := q3) H.size h) wv_PV_309 ⟨Nat.le_of_ble_eq_true rfl, Nat.le_of_ble_eq_true rfl⟩ hP hD hS 17 rfl rfl [17, 18, 19, 20, 21, 22, 23, 24, 25, 26] [0, 1, 2, 3, 4, 5, 6, 7, 8, 9, 10, 11, 12, 13, 14, 15, 16] rfl rfl (by decide) (by decide) (by decide) [0, 1, 2, 3, 4, 5, 6, 7, 8, 9, 10, 11, 12, 13, 14, 15, 16, 17, 18, 19, 20, 21, 22, 23, 24, 25, 26] (by decide) (fun u => rfl) rfl hl.1 rfl (lv_room (Nat.le_of_ble_eq_true rfl)) d_PV_row_98 ⟨g10, g11⟩ rfl rfl (fun z12 u H locs h hP hD hS => ?_)
      generalize u = u13 at h hP hD
      have hP : va_P G.1 CL [(h0, .inr (0, [.int (gI o0 0), .ref (q0 1), .ref (q0 2), .ref (q0 3), .ref (q0 4), .ref (q0 5), .ref (q0 6), .ref (q0 7), .ref (q0 8), .ref (q0 9), .ref (q0 10), .ref (q0 11), .ref (q0 12), .ref (q0 13)])), kQ G (q0 3) 3 (fun i => some (q0 (50 + i))), kI G (q0 6) 1000 (gA o0 6), kJ G (q0 7) 2000 (gB o0 7), kI G (q0 13) 5 (gA o0 13), ((q0 4), .inr (5, [.ref (r1 0), .int (gI o1 1), .int (gI o1 2), .ref (q1 3), .ref (q1 4), .ref (q1 5), .ref (q1 6), .ref (q1 7), .ref (q1 8), .ref (q1 9), .ref (q1 10), .int (gI o1 11), .int (gI o1 12)])), kI G (q1 3) 20 (gA o1 3), kI G (q1 4) 20 (gA o1 4), kI G (q1 5) 5 (gA o1 5), kJ G (q1 6) 5 (gB o1 6), kJ G (q1 7) 5 (gB o1 7), kJ G (q1 8) 6 (gB o1 8), kI G (q1 10) 5 (gA o1 10), ((q0 8), .inr (2, [.ref (q2 0), .ref (q2 1), .ref (q2 2)])), kI G (q2 0) 100 (gA o2 0), kI G (q2 1) 100 (gA o2 1), kI G (q2 2) 100 (gA o2 2), ((q0 12), .inr (9, [.int (gI u13 0), .ref (q3 1), .ref (q3 2), .ref (q3 3), .ref (q3 4), .ref (q3 5), .ref (q3 6), .ref (q3 7), .int (gI u13 8), .ref (u3 9), .int (gI u13 10), .ref (u3 11)])), kI G (q3 1) 5 (gA u13 1), kI G (q3 2) 20 (gA u13 2), kI G (q3 3) 5 (gA u13 3), kI G (q3 4) 5 (gA u13 4), kI G (q3 5) 5 (gA u13 5), kI G (q3 6) 5 (gA u13 6), kI G (q3 7) 5 (gA u13 7), kB G (u3 9) (u3 109) (gA u13 9), kI G (u3 11) (u3 111) (gA u13 11)] H := hP
      have hD : va_D A [(h0, .inr (0, [.int (gI o0 0), .ref (q0 1), .ref (q0 2), .ref (q0 3), .ref (q0 4), .ref (q0 5), .ref (q0 6), .ref (q0 7), .ref (q0 8), .ref (q0 9), .ref (q0 10), .ref (q0 11), .ref (q0 12), .ref (q0 13)])), kQ G (q0 3) 3 (fun i => some (q0 (50 + i))), kI G (q0 6) 1000 (gA o0 6), kJ G (q0 7) 2000 (gB o0 7), kI G (q0 13) 5 (gA o0 13), ((q0 4), .inr (5, [.ref (r1 0), .int (gI o1 1), .int (gI o1 2), .ref (q1 3), .ref (q1 4), .ref (q1 5), .ref (q1 6), .ref (q1 7), .ref (q1 8), .ref (q1 9), .ref (q1 10), .int (gI o1 11), .int (gI o1 12)])), kI G (q1 3) 20 (gA o1 3), kI G (q1 4) 20 (gA o1 4), kI G (q1 5) 5 (gA o1 5), kJ G (q1 6) 5 (gB o1 6), kJ G (q1 7) 5 (gB o1 7), kJ G (q1 8) 6 (gB o1 8), kI G (q1 10) 5 (gA o1 10), ((q0 8), .inr (2, [.ref (q2 0), .ref (q2 1), .ref (q2 2)])), kI G (q2 0) 100 (gA o2 0), kI G (q2 1) 100 (gA o2 1), kI G (q2 2) 100 (gA o2 2), ((q0 12), .inr (9, [.int (gI u13 0), .ref (q3 1), .ref (q3 2), .ref (q3 3), .ref (q3 4), .ref (q3 5), .ref (q3 6), .ref (q3 7), .int (gI u13 8), .ref (u3 9), .int (gI u13 10), .ref (u3 11)])), kI G (q3 1) 5 (gA u13 1), kI G (q3 2) 20 (gA u13 2), kI G (q3 3) 5 (gA u13 3), kI G (q3 4) 5 (gA u13 4), kI G (q3 5) 5 (gA u13 5), kI G (q3 6) 5 (gA u13 6), kI G (q3 7) 5 (gA u13 7), kB G (u3 9) (u3 109) (gA u13 9), kI G (u3 11) (u3 111) (gA u13 11)] := hD
      refine lv_iload_n hx hb d_PV_row_101 rfl (lv_at hl 4 rfl) ?_
      have g14 := h.1
      have h := h.2
      have g15 := h.1
      have h := h.2
      refine cl_Vi (b := b_PV_row) (As := [.int z12, .int x3]) (rest := []) (ws := [(h0, .inr (0, [.int (gI o0 0), .ref (q0 1), .ref (q0 2), .ref (q0 3), .ref (q0 4), .ref (q0 5), .ref (q0 6), .ref (q0 7), .ref (q0 8), .ref (q0 9), .ref (q0 10), .ref (q0 11), .ref (q0 12), .ref (q0 13)])), kQ G (q0 3) 3 (fun i => some (q0 (50 + i))), kI G (q0 6) 1000 (gA o0 6), kJ G (q0 7) 2000 (gB o0 7), kI G (q0 13) 5 (gA o0 13), ((q0 4), .inr (5, [.ref (r1 0), .int (gI o1 1), .int (gI o1 2), .ref (q1 3), .ref (q1 4), .ref (q1 5), .ref (q1 6), .ref (q1 7), .ref (q1 8), .ref (q1 9), .ref (q1 10), .int (gI o1 11), .int (gI o1 12)])), kI G (q1 3) 20 (gA o1 3), kI G (q1 4) 20 (gA o1 4), kI G (q1 5) 5 (gA o1 5), kJ G (q1 6) 5 (gB o1 6), kJ G (q1 7) 5 (gB o1 7), kJ G (q1 8) 6 (gB o1 8), kI G (q1 10) 5 (gA o1 10), ((q0 8), .inr (2, [.ref (q2 0), .ref (q2 1), .ref (q2 2)])), kI G (q2 0) 100 (gA o2 0), kI G (q2 1) 100 (gA o2 1), kI G (q2 2) 100 (gA o2 2), ((q0 12), .inr (9, [.int (gI u13 0), .ref (q3 1), .ref (q3 2), .ref (q3 3), .ref (q3 4), .ref (q3 5), .ref (q3 6), .ref (q3 7), .int (gI u13 8), .ref (u3 9), .int (gI u13 10), .ref (u3 11)])), kI G (q3 1) 5 (gA u13 1), kI G (q3 2) 20 (gA u13 2), kI G (q3 3) 5 (gA u13 3), kI G (q3 4) 5 (gA u13 4), kI G (q3 5) 5 (gA u13 5), kI G (q3 6) 5 (gA u13 6), kI G (q3 7) 5 (gA u13 7), kB G (u3 9) (u3 109) (gA u13 9), kI G (u3 11) (u3 111) (gA u13 11)]) (wr := [(h0, .inr (0, [.int (gI o0 0), .ref (q0 1), .ref (q0 2), .ref (q0 3), .ref (q0 4), .ref (q0 5), .ref (q0 6), .ref (q0 7), .ref (q0 8), .ref (q0 9), .ref (q0 10), .ref (q0 11), .ref (q0 12), .ref (q0 13)])), kQ G (q0 3) 3 (fun i => some (q0 (50 + i))), kI G (q0 6) 1000 (gA o0 6), kJ G (q0 7) 2000 (gB o0 7), kI G (q0 13) 5 (gA o0 13), ((q0 4), .inr (5, [.ref (r1 0), .int (gI o1 1), .int (gI o1 2), .ref (q1 3), .ref (q1 4), .ref (q1 5), .ref (q1 6), .ref (q1 7), .ref (q1 8), .ref (q1 9), .ref (q1 10), .int (gI o1 11), .int (gI o1 12)])), kI G (q1 3) 20 (gA o1 3), kI G (q1 4) 20 (gA o1 4), kI G (q1 5) 5 (gA o1 5), kJ G (q1 6) 5 (gB o1 6), kJ G (q1 7) 5 (gB o1 7), kJ G (q1 8) 6 (gB o1 8), kI G (q1 10) 5 (gA o1 10), ((q0 8), .inr (2, [.ref (q2 0), .ref (q2 1), .ref (q2 2)])), kI G (q2 0) 100 (gA o2 0), kI G (q2 1) 100 (gA o2 1), kI G (q2 2) 100 (gA o2 2)]) (w2 := fun (u : Unit) => [(h0, .inr (0, [.int (gI o0 0), .ref (q0 1), .ref (q0 2), .ref (q0 3), .ref (q0 4), .ref (q0 5), .ref (q0 6), .ref (q0 7), .ref (q0 8), .ref (q0 9), .ref (q0 10), .ref (q0 11), .ref (q0 12), .ref (q0 13)])), kQ G (q0 3) 3 (fun i => some (q0 (50 + i))), kI G (q0 6) 1000 (gA o0 6), kJ G (q0 7) 2000 (gB o0 7), kI G (q0 13) 5 (gA o0 13), ((q0 4), .inr (5, [.ref (r1 0), .int (gI o1 1), .int (gI o1 2), .ref (q1 3), .ref (q1 4), .ref (q1 5), .ref (q1 6), .ref (q1 7), .ref (q1 8), .ref (q1 9), .ref (q1 10), .int (gI o1 11), .int (gI o1 12)])), kI G (q1 3) 20 (gA o1 3), kI G (q1 4) 20 (gA o1 4), kI G (q1 5) 5 (gA o1 5), kJ G (q1 6) 5 (gB o1 6), kJ G (q1 7) 5 (gB o1 7), kJ G (q1 8) 6 (gB o1 8), kI G (q1 10) 5 (gA o1 10), ((q0 8), .inr (2, [.ref (q2 0), .ref (q2 1), .ref (q2 2)])), kI G (q2 0) 100 (gA o2 0), kI G (q2 1) 100 (gA o2 1), kI G (q2 2) 100 (gA o2 2), ((q0 12), .inr (9, [.int (gI u13 0), .ref (q3 1), .ref (q3 2), .ref (q3 3), .ref (q3 4), .ref (q3 5), .ref (q3 6), .ref (q3 7), .int (gI u13 8), .ref (u3 9), .int (gI u13 10), .ref (u3 11)])), kI G (q3 1) 5 (gA u13 1), kI G (q3 2) 20 (gA u13 2), kI G (q3 3) 5 (gA u13 3), kI G (q3 4) 5 (gA u13 4), kI G (q3 5) 5 (gA u13 5), kI G (q3 6) 5 (gA u13 6), kI G (q3 7) 5 (gA u13 7), kB G (u3 9) (u3 109) (gA u13 9), kI G (u3 11) (u3 111) (gA u13 11)]) C (c_Sh_widthIn (h0 := (q0 12)) (q0 := q3) H.size h) wv_PV_289 ⟨Nat.le_of_ble_eq_true rfl, Nat.le_of_ble_eq_true rfl⟩ hP hD hS 17 rfl rfl [17, 18, 19, 20, 21, 22, 23, 24, 25, 26] [0, 1, 2, 3, 4, 5, 6, 7, 8, 9, 10, 11, 12, 13, 14, 15, 16] rfl rfl (by decide) (by decide) (by decide) [0, 1, 2, 3, 4, 5, 6, 7, 8, 9, 10, 11, 12, 13, 14, 15, 16, 17, 18, 19, 20, 21, 22, 23, 24, 25, 26] (by decide) (fun u => rfl) rfl hl.1 rfl (lv_room (Nat.le_of_ble_eq_true rfl)) d_PV_row_102 ⟨g14, g15⟩ rfl rfl (fun z16 u H locs h hP hD hS => ?_)
      have hP : va_P G.1 CL [(h0, .inr (0, [.int (gI o0 0), .ref (q0 1), .ref (q0 2), .ref (q0 3), .ref (q0 4), .ref (q0 5), .ref (q0 6), .ref (q0 7), .ref (q0 8), .ref (q0 9), .ref (q0 10), .ref (q0 11), .ref (q0 12), .ref (q0 13)])), kQ G (q0 3) 3 (fun i => some (q0 (50 + i))), kI G (q0 6) 1000 (gA o0 6), kJ G (q0 7) 2000 (gB o0 7), kI G (q0 13) 5 (gA o0 13), ((q0 4), .inr (5, [.ref (r1 0), .int (gI o1 1), .int (gI o1 2), .ref (q1 3), .ref (q1 4), .ref (q1 5), .ref (q1 6), .ref (q1 7), .ref (q1 8), .ref (q1 9), .ref (q1 10), .int (gI o1 11), .int (gI o1 12)])), kI G (q1 3) 20 (gA o1 3), kI G (q1 4) 20 (gA o1 4), kI G (q1 5) 5 (gA o1 5), kJ G (q1 6) 5 (gB o1 6), kJ G (q1 7) 5 (gB o1 7), kJ G (q1 8) 6 (gB o1 8), kI G (q1 10) 5 (gA o1 10), ((q0 8), .inr (2, [.ref (q2 0), .ref (q2 1), .ref (q2 2)])), kI G (q2 0) 100 (gA o2 0), kI G (q2 1) 100 (gA o2 1), kI G (q2 2) 100 (gA o2 2), ((q0 12), .inr (9, [.int (gI u13 0), .ref (q3 1), .ref (q3 2), .ref (q3 3), .ref (q3 4), .ref (q3 5), .ref (q3 6), .ref (q3 7), .int (gI u13 8), .ref (u3 9), .int (gI u13 10), .ref (u3 11)])), kI G (q3 1) 5 (gA u13 1), kI G (q3 2) 20 (gA u13 2), kI G (q3 3) 5 (gA u13 3), kI G (q3 4) 5 (gA u13 4), kI G (q3 5) 5 (gA u13 5), kI G (q3 6) 5 (gA u13 6), kI G (q3 7) 5 (gA u13 7), kB G (u3 9) (u3 109) (gA u13 9), kI G (u3 11) (u3 111) (gA u13 11)] H := hP
      have hD : va_D A [(h0, .inr (0, [.int (gI o0 0), .ref (q0 1), .ref (q0 2), .ref (q0 3), .ref (q0 4), .ref (q0 5), .ref (q0 6), .ref (q0 7), .ref (q0 8), .ref (q0 9), .ref (q0 10), .ref (q0 11), .ref (q0 12), .ref (q0 13)])), kQ G (q0 3) 3 (fun i => some (q0 (50 + i))), kI G (q0 6) 1000 (gA o0 6), kJ G (q0 7) 2000 (gB o0 7), kI G (q0 13) 5 (gA o0 13), ((q0 4), .inr (5, [.ref (r1 0), .int (gI o1 1), .int (gI o1 2), .ref (q1 3), .ref (q1 4), .ref (q1 5), .ref (q1 6), .ref (q1 7), .ref (q1 8), .ref (q1 9), .ref (q1 10), .int (gI o1 11), .int (gI o1 12)])), kI G (q1 3) 20 (gA o1 3), kI G (q1 4) 20 (gA o1 4), kI G (q1 5) 5 (gA o1 5), kJ G (q1 6) 5 (gB o1 6), kJ G (q1 7) 5 (gB o1 7), kJ G (q1 8) 6 (gB o1 8), kI G (q1 10) 5 (gA o1 10), ((q0 8), .inr (2, [.ref (q2 0), .ref (q2 1), .ref (q2 2)])), kI G (q2 0) 100 (gA o2 0), kI G (q2 1) 100 (gA o2 1), kI G (q2 2) 100 (gA o2 2), ((q0 12), .inr (9, [.int (gI u13 0), .ref (q3 1), .ref (q3 2), .ref (q3 3), .ref (q3 4), .ref (q3 5), .ref (q3 6), .ref (q3 7), .int (gI u13 8), .ref (u3 9), .int (gI u13 10), .ref (u3 11)])), kI G (q3 1) 5 (gA u13 1), kI G (q3 2) 20 (gA u13 2), kI G (q3 3) 5 (gA u13 3), kI G (q3 4) 5 (gA u13 4), kI G (q3 5) 5 (gA u13 5), kI G (q3 6) 5 (gA u13 6), kI G (q3 7) 5 (gA u13 7), kB G (u3 9) (u3 109) (gA u13 9), kI G (u3 11) (u3 111) (gA u13 11)] := hD
      have g17 := h.1
      have h := h.2
      have g18 := h.1
      have h := h.2
      refine W.widen (k := 2) (n := 13312) g17 g18 ?_
      have hP : va_P G.1 CL (cw_PV G h0 q0 o0 ++ (cw_Mo G (q0 4) q1 r1 o1 ++ (cw_He G (q0 8) q2 o2 ++ (cw_Sh G (q0 12) q3 u3 u13)))) H := hP
      have hD : va_D A (cw_PV G h0 q0 o0 ++ (cw_Mo G (q0 4) q1 r1 o1 ++ (cw_He G (q0 8) q2 o2 ++ (cw_Sh G (q0 12) q3 u3 u13)))) := hD
      exact W.iret (v := z16) hx hb hr (fun t ht hW => ⟨⟨z16, (u3, u13), rfl, h, by rw [ht]; exact hP, va_K.moved hW.alike hK, hD⟩, hS.F ht⟩) hS.2.2 d_PV_row_105
    · have h := h.1 c9
      refine lv_aload_n hx hb d_PV_row_75 rfl (lv_at hl 1 rfl) ?_
      refine va_get (D := G.1) (ci := 0) (v := .ref (q0 12)) (C := R_PV) (T := T_PV) (N := 14) hx hb hts i_PV hown hK hP 0 rfl rfl 12 (by decide) (hts _ wf_PV_98) (fun _ h9 => h9) rfl d_PV_row_76 ?_
      refine lv_iload hx hb d_PV_row_79 (lv_at hl 0 rfl) ?_
      have g19 := h.1
      have h := h.2
      have g20 := h.1
      have h := h.2
      refine cl_Vi (b := b_PV_row) (As := [.int z7]) (rest := []) (ws := [(h0, .inr (0, [.int (gI o0 0), .ref (q0 1), .ref (q0 2), .ref (q0 3), .ref (q0 4), .ref (q0 5), .ref (q0 6), .ref (q0 7), .ref (q0 8), .ref (q0 9), .ref (q0 10), .ref (q0 11), .ref (q0 12), .ref (q0 13)])), kQ G (q0 3) 3 (fun i => some (q0 (50 + i))), kI G (q0 6) 1000 (gA o0 6), kJ G (q0 7) 2000 (gB o0 7), kI G (q0 13) 5 (gA o0 13), ((q0 4), .inr (5, [.ref (r1 0), .int (gI o1 1), .int (gI o1 2), .ref (q1 3), .ref (q1 4), .ref (q1 5), .ref (q1 6), .ref (q1 7), .ref (q1 8), .ref (q1 9), .ref (q1 10), .int (gI o1 11), .int (gI o1 12)])), kI G (q1 3) 20 (gA o1 3), kI G (q1 4) 20 (gA o1 4), kI G (q1 5) 5 (gA o1 5), kJ G (q1 6) 5 (gB o1 6), kJ G (q1 7) 5 (gB o1 7), kJ G (q1 8) 6 (gB o1 8), kI G (q1 10) 5 (gA o1 10), ((q0 8), .inr (2, [.ref (q2 0), .ref (q2 1), .ref (q2 2)])), kI G (q2 0) 100 (gA o2 0), kI G (q2 1) 100 (gA o2 1), kI G (q2 2) 100 (gA o2 2), ((q0 12), .inr (9, [.int (gI u4 0), .ref (q3 1), .ref (q3 2), .ref (q3 3), .ref (q3 4), .ref (q3 5), .ref (q3 6), .ref (q3 7), .int (gI u4 8), .ref (u3 9), .int (gI u4 10), .ref (u3 11)])), kI G (q3 1) 5 (gA u4 1), kI G (q3 2) 20 (gA u4 2), kI G (q3 3) 5 (gA u4 3), kI G (q3 4) 5 (gA u4 4), kI G (q3 5) 5 (gA u4 5), kI G (q3 6) 5 (gA u4 6), kI G (q3 7) 5 (gA u4 7), kB G (u3 9) (u3 109) (gA u4 9), kI G (u3 11) (u3 111) (gA u4 11)]) (wr := [(h0, .inr (0, [.int (gI o0 0), .ref (q0 1), .ref (q0 2), .ref (q0 3), .ref (q0 4), .ref (q0 5), .ref (q0 6), .ref (q0 7), .ref (q0 8), .ref (q0 9), .ref (q0 10), .ref (q0 11), .ref (q0 12), .ref (q0 13)])), kQ G (q0 3) 3 (fun i => some (q0 (50 + i))), kI G (q0 6) 1000 (gA o0 6), kJ G (q0 7) 2000 (gB o0 7), kI G (q0 13) 5 (gA o0 13), ((q0 4), .inr (5, [.ref (r1 0), .int (gI o1 1), .int (gI o1 2), .ref (q1 3), .ref (q1 4), .ref (q1 5), .ref (q1 6), .ref (q1 7), .ref (q1 8), .ref (q1 9), .ref (q1 10), .int (gI o1 11), .int (gI o1 12)])), kI G (q1 3) 20 (gA o1 3), kI G (q1 4) 20 (gA o1 4), kI G (q1 5) 5 (gA o1 5), kJ G (q1 6) 5 (gB o1 6), kJ G (q1 7) 5 (gB o1 7), kJ G (q1 8) 6 (gB o1 8), kI G (q1 10) 5 (gA o1 10), ((q0 8), .inr (2, [.ref (q2 0), .ref (q2 1), .ref (q2 2)])), kI G (q2 0) 100 (gA o2 0), kI G (q2 1) 100 (gA o2 1), kI G (q2 2) 100 (gA o2 2)]) (w2 := fun (u : Unit) => [(h0, .inr (0, [.int (gI o0 0), .ref (q0 1), .ref (q0 2), .ref (q0 3), .ref (q0 4), .ref (q0 5), .ref (q0 6), .ref (q0 7), .ref (q0 8), .ref (q0 9), .ref (q0 10), .ref (q0 11), .ref (q0 12), .ref (q0 13)])), kQ G (q0 3) 3 (fun i => some (q0 (50 + i))), kI G (q0 6) 1000 (gA o0 6), kJ G (q0 7) 2000 (gB o0 7), kI G (q0 13) 5 (gA o0 13), ((q0 4), .inr (5, [.ref (r1 0), .int (gI o1 1), .int (gI o1 2), .ref (q1 3), .ref (q1 4), .ref (q1 5), .ref (q1 6), .ref (q1 7), .ref (q1 8), .ref (q1 9), .ref (q1 10), .int (gI o1 11), .int (gI o1 12)])), kI G (q1 3) 20 (gA o1 3), kI G (q1 4) 20 (gA o1 4), kI G (q1 5) 5 (gA o1 5), kJ G (q1 6) 5 (gB o1 6), kJ G (q1 7) 5 (gB o1 7), kJ G (q1 8) 6 (gB o1 8), kI G (q1 10) 5 (gA o1 10), ((q0 8), .inr (2, [.ref (q2 0), .ref (q2 1), .ref (q2 2)])), kI G (q2 0) 100 (gA o2 0), kI G (q2 1) 100 (gA o2 1), kI G (q2 2) 100 (gA o2 2), ((q0 12), .inr (9, [.int (gI u4 0), .ref (q3 1), .ref (q3 2), .ref (q3 3), .ref (q3 4), .ref (q3 5), .ref (q3 6), .ref (q3 7), .int (gI u4 8), .ref (u3 9), .int (gI u4 10), .ref (u3 11)])), kI G (q3 1) 5 (gA u4 1), kI G (q3 2) 20 (gA u4 2), kI G (q3 3) 5 (gA u4 3), kI G (q3 4) 5 (gA u4 4), kI G (q3 5) 5 (gA u4 5), kI G (q3 6) 5 (gA u4 6), kI G (q3 7) 5 (gA u4 7), kB G (u3 9) (u3 109) (gA u4 9), kI G (u3 11) (u3 111) (gA u4 11)]) C (c_Sh_sumOfRow (h0 := (q0 12)) (q0 := q3) H.size h) wv_PV_306 ⟨Nat.le_of_ble_eq_true rfl, Nat.le_of_ble_eq_true rfl⟩ hP hD hS 17 rfl rfl [17, 18, 19, 20, 21, 22, 23, 24, 25, 26] [0, 1, 2, 3, 4, 5, 6, 7, 8, 9, 10, 11, 12, 13, 14, 15, 16] rfl rfl (by decide) (by decide) (by decide) [0, 1, 2, 3, 4, 5, 6, 7, 8, 9, 10, 11, 12, 13, 14, 15, 16, 17, 18, 19, 20, 21, 22, 23, 24, 25, 26] (by decide) (fun u => rfl) rfl hl.1 rfl (lv_room (Nat.le_of_ble_eq_true rfl)) d_PV_row_81 ⟨g19, g20⟩ rfl rfl (fun z21 u H locs h hP hD hS => ?_)
      have hP : va_P G.1 CL [(h0, .inr (0, [.int (gI o0 0), .ref (q0 1), .ref (q0 2), .ref (q0 3), .ref (q0 4), .ref (q0 5), .ref (q0 6), .ref (q0 7), .ref (q0 8), .ref (q0 9), .ref (q0 10), .ref (q0 11), .ref (q0 12), .ref (q0 13)])), kQ G (q0 3) 3 (fun i => some (q0 (50 + i))), kI G (q0 6) 1000 (gA o0 6), kJ G (q0 7) 2000 (gB o0 7), kI G (q0 13) 5 (gA o0 13), ((q0 4), .inr (5, [.ref (r1 0), .int (gI o1 1), .int (gI o1 2), .ref (q1 3), .ref (q1 4), .ref (q1 5), .ref (q1 6), .ref (q1 7), .ref (q1 8), .ref (q1 9), .ref (q1 10), .int (gI o1 11), .int (gI o1 12)])), kI G (q1 3) 20 (gA o1 3), kI G (q1 4) 20 (gA o1 4), kI G (q1 5) 5 (gA o1 5), kJ G (q1 6) 5 (gB o1 6), kJ G (q1 7) 5 (gB o1 7), kJ G (q1 8) 6 (gB o1 8), kI G (q1 10) 5 (gA o1 10), ((q0 8), .inr (2, [.ref (q2 0), .ref (q2 1), .ref (q2 2)])), kI G (q2 0) 100 (gA o2 0), kI G (q2 1) 100 (gA o2 1), kI G (q2 2) 100 (gA o2 2), ((q0 12), .inr (9, [.int (gI u4 0), .ref (q3 1), .ref (q3 2), .ref (q3 3), .ref (q3 4), .ref (q3 5), .ref (q3 6), .ref (q3 7), .int (gI u4 8), .ref (u3 9), .int (gI u4 10), .ref (u3 11)])), kI G (q3 1) 5 (gA u4 1), kI G (q3 2) 20 (gA u4 2), kI G (q3 3) 5 (gA u4 3), kI G (q3 4) 5 (gA u4 4), kI G (q3 5) 5 (gA u4 5), kI G (q3 6) 5 (gA u4 6), kI G (q3 7) 5 (gA u4 7), kB G (u3 9) (u3 109) (gA u4 9), kI G (u3 11) (u3 111) (gA u4 11)] H := hP
      have hD : va_D A [(h0, .inr (0, [.int (gI o0 0), .ref (q0 1), .ref (q0 2), .ref (q0 3), .ref (q0 4), .ref (q0 5), .ref (q0 6), .ref (q0 7), .ref (q0 8), .ref (q0 9), .ref (q0 10), .ref (q0 11), .ref (q0 12), .ref (q0 13)])), kQ G (q0 3) 3 (fun i => some (q0 (50 + i))), kI G (q0 6) 1000 (gA o0 6), kJ G (q0 7) 2000 (gB o0 7), kI G (q0 13) 5 (gA o0 13), ((q0 4), .inr (5, [.ref (r1 0), .int (gI o1 1), .int (gI o1 2), .ref (q1 3), .ref (q1 4), .ref (q1 5), .ref (q1 6), .ref (q1 7), .ref (q1 8), .ref (q1 9), .ref (q1 10), .int (gI o1 11), .int (gI o1 12)])), kI G (q1 3) 20 (gA o1 3), kI G (q1 4) 20 (gA o1 4), kI G (q1 5) 5 (gA o1 5), kJ G (q1 6) 5 (gB o1 6), kJ G (q1 7) 5 (gB o1 7), kJ G (q1 8) 6 (gB o1 8), kI G (q1 10) 5 (gA o1 10), ((q0 8), .inr (2, [.ref (q2 0), .ref (q2 1), .ref (q2 2)])), kI G (q2 0) 100 (gA o2 0), kI G (q2 1) 100 (gA o2 1), kI G (q2 2) 100 (gA o2 2), ((q0 12), .inr (9, [.int (gI u4 0), .ref (q3 1), .ref (q3 2), .ref (q3 3), .ref (q3 4), .ref (q3 5), .ref (q3 6), .ref (q3 7), .int (gI u4 8), .ref (u3 9), .int (gI u4 10), .ref (u3 11)])), kI G (q3 1) 5 (gA u4 1), kI G (q3 2) 20 (gA u4 2), kI G (q3 3) 5 (gA u4 3), kI G (q3 4) 5 (gA u4 4), kI G (q3 5) 5 (gA u4 5), kI G (q3 6) 5 (gA u4 6), kI G (q3 7) 5 (gA u4 7), kB G (u3 9) (u3 109) (gA u4 9), kI G (u3 11) (u3 111) (gA u4 11)] := hD
      refine lv_goto (tgt := 105) hx hb d_PV_row_84 (by decide) ?_
      have g22 := h.1
      have h := h.2
      have g23 := h.1
      have h := h.2
      refine W.widen (k := 2) (n := 13312) g22 g23 ?_
      have hP : va_P G.1 CL (cw_PV G h0 q0 o0 ++ (cw_Mo G (q0 4) q1 r1 o1 ++ (cw_He G (q0 8) q2 o2 ++ (cw_Sh G (q0 12) q3 u3 u4)))) H := hP
      have hD : va_D A (cw_PV G h0 q0 o0 ++ (cw_Mo G (q0 4) q1 r1 o1 ++ (cw_He G (q0 8) q2 o2 ++ (cw_Sh G (q0 12) q3 u3 u4)))) := hD
      exact W.iret (v := z21) hx hb hr (fun t ht hW => ⟨⟨z21, (u3, u4), rfl, h, by rw [ht]; exact hP, va_K.moved hW.alike hK, hD⟩, hS.F ht⟩) hS.2.2 d_PV_row_105
  · have h := h.1 c8
    refine lv_iconst (v := (-1 : Int32)) hx hb d_PV_row_68 (by decide) ?_
    have g24 := h.1
    have h := h.2
    have g25 := h.1
    have h := h.2
    refine W.widen (k := 2) (n := 13312) g24 g25 ?_
    have hP : va_P G.1 CL (cw_PV G h0 q0 o0 ++ (cw_Mo G (q0 4) q1 r1 o1 ++ (cw_He G (q0 8) q2 o2 ++ (cw_Sh G (q0 12) q3 u3 u4)))) H := hP
    have hD : va_D A (cw_PV G h0 q0 o0 ++ (cw_Mo G (q0 4) q1 r1 o1 ++ (cw_He G (q0 8) q2 o2 ++ (cw_Sh G (q0 12) q3 u3 u4)))) := hD
    exact W.iret (v := (-1 : Int32)) hx hb hr (fun t ht hW => ⟨⟨(-1 : Int32), (u3, u4), rfl, h, by rw [ht]; exact hP, va_K.moved hW.alike hK, hD⟩, hS.F ht⟩) hS.2.2 d_PV_row_69
set_option maxHeartbeats 4000000 in
set_option maxRecDepth 100000 in
theorem c_PV_row {l : Launch} {G : Gl} {h0 : Nat} {q0 : Nat → Nat} {q1 : Nat → Nat} {q2 : Nat → Nat} {q3 : Nat → Nat} {a0 : Int32} {a1 : Int32} {a2 : Int32} {o0 : Ob} {r1 : (Nat → Nat)} {o1 : Ob} {o2 : Ob} {r3 : (Nat → Nat)} {o3 : Ob} {Q : Int32 → (Nat → Nat) → Ob → Prop} (sz : Nat) (h : f_PV_row a0 a1 a2 o0 r1 o1 o2 r3 o3 Q) : Met l y_PV_row w_PV_row rm_PV_row (PcW G [.ref h0, .int a0, .int a1, .int a2] sz (cw_PV G h0 q0 o0 ++ (cw_Mo G (q0 4) q1 r1 o1 ++ (cw_He G (q0 8) q2 o2 ++ (cw_Sh G (q0 12) q3 r3 o3))))) (va_Qi (fun (r : Int32) (u : (Nat → Nat) × Ob) => Q r u.1 u.2) (fun (u : (Nat → Nat) × Ob) t => BW G (va_A (cw_PV G h0 q0 o0 ++ (cw_Mo G (q0 4) q1 r1 o1 ++ (cw_He G (q0 8) q2 o2 ++ (cw_Sh G (q0 12) q3 r3 o3)))) sz) (cw_PV G h0 q0 o0 ++ (cw_Mo G (q0 4) q1 r1 o1 ++ (cw_He G (q0 8) q2 o2 ++ (cw_Sh G (q0 12) q3 u.1 u.2)))) t) (va_A (cw_PV G h0 q0 o0 ++ (cw_Mo G (q0 4) q1 r1 o1 ++ (cw_He G (q0 8) q2 o2 ++ (cw_Sh G (q0 12) q3 r3 o3)))) sz)) 2 13312 (va_A (cw_PV G h0 q0 o0 ++ (cw_Mo G (q0 4) q1 r1 o1 ++ (cw_He G (q0 8) q2 o2 ++ (cw_Sh G (q0 12) q3 r3 o3)))) sz) := by
  refine Met.ofW (cc := b_PV_row) (maxL := 5) (ret := (some .int)) (by decide +kernel) rfl ?_
  intro p e s m args below meth c s₁ B hml hv
  obtain ⟨rfl, hsz, hP, hK, hD0, hE⟩ := hv
  have hx := B.exec
  have hb := B.bytes
  have hr := B.returns
  have hts0 := atoms_spec (ws := w_PV_row) B.pre
  have hts : ∀ w ∈ gw_tbl, w.before ([.ref h0, .int a0, .int a1, .int a2]).toArray s = true := fun w hw => hts0 w (List.mem_cons_of_mem _ hw)
  have hown : s.vm.findClass R_PV = some m.cls := findClass_of_methodNamed B.named
  have hlocks := B.notSynchronized
  subst hsz
  have hD := hD0.self (sz := s.heap.size)
  generalize hAe : va_A (cw_PV G h0 q0 o0 ++ (cw_Mo G (q0 4) q1 r1 o1 ++ (cw_He G (q0 8) q2 o2 ++ (cw_Sh G (q0 12) q3 r3 o3)))) s.heap.size = A at hD hE ⊢
  have hA : ∀ q : Nat, s.heap.size ≤ q → A q := fun q h => by rw [← hAe]; exact Or.inr h
  have hS : va_S A s.heap s.heap [] := va_S.rf
  have C : Cx p s m ([.ref h0, .int a0, .int a1, .int a2]).toArray meth c R_PV b_PV_row 5 (some .int) G A := ⟨hx, hb, hml, hown, hr, hts, hK, hA, hlocks, hE⟩
  have hl := lv_entry ([.ref h0, .int a0, .int a1, .int a2]) (n := 5) (Nat.le_of_ble_eq_true rfl)
  rw [lg_entry_eq]
  generalize (lg_sl ([.ref h0, .int a0, .int a1, .int a2]) ++ List.replicate (5 - (lg_sl ([.ref h0, .int a0, .int a1, .int a2])).length) Slot.unset).toArray = ls at hl ⊢
  have hl : lv_has ls 5 [(0, .ref h0), (1, .int a0), (2, .int a1), (3, .int a2)] := hl
  have hD : va_D A [(h0, .inr (0, [.int (gI o0 0), .ref (q0 1), .ref (q0 2), .ref (q0 3), .ref (q0 4), .ref (q0 5), .ref (q0 6), .ref (q0 7), .ref (q0 8), .ref (q0 9), .ref (q0 10), .ref (q0 11), .ref (q0 12), .ref (q0 13)])), kQ G (q0 3) 3 (fun i => some (q0 (50 + i))), kI G (q0 6) 1000 (gA o0 6), kJ G (q0 7) 2000 (gB o0 7), kI G (q0 13) 5 (gA o0 13), ((q0 4), .inr (5, [.ref (r1 0), .int (gI o1 1), .int (gI o1 2), .ref (q1 3), .ref (q1 4), .ref (q1 5), .ref (q1 6), .ref (q1 7), .ref (q1 8), .ref (q1 9), .ref (q1 10), .int (gI o1 11), .int (gI o1 12)])), kI G (q1 3) 20 (gA o1 3), kI G (q1 4) 20 (gA o1 4), kI G (q1 5) 5 (gA o1 5), kJ G (q1 6) 5 (gB o1 6), kJ G (q1 7) 5 (gB o1 7), kJ G (q1 8) 6 (gB o1 8), kI G (q1 10) 5 (gA o1 10), ((q0 8), .inr (2, [.ref (q2 0), .ref (q2 1), .ref (q2 2)])), kI G (q2 0) 100 (gA o2 0), kI G (q2 1) 100 (gA o2 1), kI G (q2 2) 100 (gA o2 2), ((q0 12), .inr (9, [.int (gI o3 0), .ref (q3 1), .ref (q3 2), .ref (q3 3), .ref (q3 4), .ref (q3 5), .ref (q3 6), .ref (q3 7), .int (gI o3 8), .ref (r3 9), .int (gI o3 10), .ref (r3 11)])), kI G (q3 1) 5 (gA o3 1), kI G (q3 2) 20 (gA o3 2), kI G (q3 3) 5 (gA o3 3), kI G (q3 4) 5 (gA o3 4), kI G (q3 5) 5 (gA o3 5), kI G (q3 6) 5 (gA o3 6), kI G (q3 7) 5 (gA o3 7), kB G (r3 9) (r3 109) (gA o3 9), kI G (r3 11) (r3 111) (gA o3 11)] := hD
  unfold f_PV_row at h
  suffices key : ∀ (H : Heap) (locs : List Loc), va_P G.1 CL [(h0, .inr (0, [.int (gI o0 0), .ref (q0 1), .ref (q0 2), .ref (q0 3), .ref (q0 4), .ref (q0 5), .ref (q0 6), .ref (q0 7), .ref (q0 8), .ref (q0 9), .ref (q0 10), .ref (q0 11), .ref (q0 12), .ref (q0 13)])), kQ G (q0 3) 3 (fun i => some (q0 (50 + i))), kI G (q0 6) 1000 (gA o0 6), kJ G (q0 7) 2000 (gB o0 7), kI G (q0 13) 5 (gA o0 13), ((q0 4), .inr (5, [.ref (r1 0), .int (gI o1 1), .int (gI o1 2), .ref (q1 3), .ref (q1 4), .ref (q1 5), .ref (q1 6), .ref (q1 7), .ref (q1 8), .ref (q1 9), .ref (q1 10), .int (gI o1 11), .int (gI o1 12)])), kI G (q1 3) 20 (gA o1 3), kI G (q1 4) 20 (gA o1 4), kI G (q1 5) 5 (gA o1 5), kJ G (q1 6) 5 (gB o1 6), kJ G (q1 7) 5 (gB o1 7), kJ G (q1 8) 6 (gB o1 8), kI G (q1 10) 5 (gA o1 10), ((q0 8), .inr (2, [.ref (q2 0), .ref (q2 1), .ref (q2 2)])), kI G (q2 0) 100 (gA o2 0), kI G (q2 1) 100 (gA o2 1), kI G (q2 2) 100 (gA o2 2), ((q0 12), .inr (9, [.int (gI o3 0), .ref (q3 1), .ref (q3 2), .ref (q3 3), .ref (q3 4), .ref (q3 5), .ref (q3 6), .ref (q3 7), .int (gI o3 8), .ref (r3 9), .int (gI o3 10), .ref (r3 11)])), kI G (q3 1) 5 (gA o3 1), kI G (q3 2) 20 (gA o3 2), kI G (q3 3) 5 (gA o3 3), kI G (q3 4) 5 (gA o3 4), kI G (q3 5) 5 (gA o3 5), kI G (q3 6) 5 (gA o3 6), kI G (q3 7) 5 (gA o3 7), kB G (r3 9) (r3 109) (gA o3 9), kI G (r3 11) (r3 111) (gA o3 11)] H → va_S A s.heap H locs → W p l e rm_PV_row s m ([.ref h0, .int a0, .int a1, .int a2]).toArray below meth c H locs 0 0 (MQ below (va_Qi (fun (r : Int32) (u : (Nat → Nat) × Ob) => Q r u.1 u.2) (fun (u : (Nat → Nat) × Ob) t => BW G A (cw_PV G h0 q0 o0 ++ (cw_Mo G (q0 4) q1 r1 o1 ++ (cw_He G (q0 8) q2 o2 ++ (cw_Sh G (q0 12) q3 u.1 u.2)))) t) A) ([.ref h0, .int a0, .int a1, .int a2]).toArray s 2 13312 A) (F0 m 0 ls []) from key s.heap [] hP hS
  intro H locs hP hS
  refine lv_iload_n hx hb d_PV_row_0 rfl (lv_at hl 1 rfl) ?_
  refine lv_iconst (v := (1 : Int32)) hx hb d_PV_row_1 (by decide) ?_
  refine lv_icmp_lt (tgt := 11) hx hb d_PV_row_2 (by decide) (fun c26 => ?_) (fun c26 => ?_)
  · have h := h.1 c26
    refine lv_iconst (v := (-1 : Int32)) hx hb d_PV_row_11 (by decide) ?_
    refine W.widen (k := 2) (n := 13312) (Nat.le_of_ble_eq_true rfl) (Nat.le_of_ble_eq_true rfl) ?_
    have hP : va_P G.1 CL (cw_PV G h0 q0 o0 ++ (cw_Mo G (q0 4) q1 r1 o1 ++ (cw_He G (q0 8) q2 o2 ++ (cw_Sh G (q0 12) q3 r3 o3)))) H := hP
    have hD : va_D A (cw_PV G h0 q0 o0 ++ (cw_Mo G (q0 4) q1 r1 o1 ++ (cw_He G (q0 8) q2 o2 ++ (cw_Sh G (q0 12) q3 r3 o3)))) := hD
    exact W.iret (v := (-1 : Int32)) hx hb hr (fun t ht hW => ⟨⟨(-1 : Int32), (r3, o3), rfl, h, by rw [ht]; exact hP, va_K.moved hW.alike hK, hD⟩, hS.F ht⟩) hS.2.2 d_PV_row_12
  · have h := h.2 c26
    refine lv_iload_n hx hb d_PV_row_5 rfl (lv_at hl 1 rfl) ?_
    refine lv_bipush (v := (8 : Int32)) hx hb d_PV_row_6 (by decide) ?_
    refine lv_icmp_le (tgt := 13) hx hb d_PV_row_8 (by decide) (fun c27 => ?_) (fun c27 => ?_)
    · have h := h.1 c27
      refine lv_iload_n hx hb d_PV_row_13 rfl (lv_at hl 2 rfl) ?_
      refine lv_iconst (v := (-1 : Int32)) hx hb d_PV_row_14 (by decide) ?_
      refine lv_icmp_eq (tgt := 37) hx hb d_PV_row_15 (by decide) (fun c28 => ?_) (fun c28 => ?_)
      · have h := h.1 c28
        have hl := lv_sub (l' := [(0, .ref h0), (1, .int a0), (2, .int a1), (3, .int a2)]) hl [0, 1, 2, 3] rfl
        have hP : va_P G.1 CL (cw_PV G h0 q0 o0 ++ (cw_Mo G (q0 4) q1 r1 o1 ++ (cw_He G (q0 8) q2 o2 ++ (cw_Sh G (q0 12) q3 r3 o3)))) H := hP
        have hD : va_D A (cw_PV G h0 q0 o0 ++ (cw_Mo G (q0 4) q1 r1 o1 ++ (cw_He G (q0 8) q2 o2 ++ (cw_Sh G (q0 12) q3 r3 o3)))) := hD
        exact t_PV_row_37 o0 r1 o1 o2 Q C 0 0 a0 a1 a2 r3 o3 ls _ locs hl hP hD hS h
      · have h := h.2 c28
        refine lv_iload_n hx hb d_PV_row_18 rfl (lv_at hl 2 rfl) ?_
        refine lv_if_lt (tgt := 35) hx hb d_PV_row_19 (by decide) (fun c29 => ?_) (fun c29 => ?_)
        · have h := h.1 c29
          refine lv_iconst (v := (-1 : Int32)) hx hb d_PV_row_35 (by decide) ?_
          refine W.widen (k := 2) (n := 13312) (Nat.le_of_ble_eq_true rfl) (Nat.le_of_ble_eq_true rfl) ?_
          have hP : va_P G.1 CL (cw_PV G h0 q0 o0 ++ (cw_Mo G (q0 4) q1 r1 o1 ++ (cw_He G (q0 8) q2 o2 ++ (cw_Sh G (q0 12) q3 r3 o3)))) H := hP
          have hD : va_D A (cw_PV G h0 q0 o0 ++ (cw_Mo G (q0 4) q1 r1 o1 ++ (cw_He G (q0 8) q2 o2 ++ (cw_Sh G (q0 12) q3 r3 o3)))) := hD
          exact W.iret (v := (-1 : Int32)) hx hb hr (fun t ht hW => ⟨⟨(-1 : Int32), (r3, o3), rfl, h, by rw [ht]; exact hP, va_K.moved hW.alike hK, hD⟩, hS.F ht⟩) hS.2.2 d_PV_row_36
        · have h := h.2 c29
          refine lv_iload_n hx hb d_PV_row_22 rfl (lv_at hl 2 rfl) ?_
          refine lv_iload_n hx hb d_PV_row_23 rfl (lv_at hl 1 rfl) ?_
          refine lv_icmp_ge (tgt := 35) hx hb d_PV_row_24 (by decide) (fun c30 => ?_) (fun c30 => ?_)
          · have h := h.1 c30
            refine lv_iconst (v := (-1 : Int32)) hx hb d_PV_row_35 (by decide) ?_
            refine W.widen (k := 2) (n := 13312) (Nat.le_of_ble_eq_true rfl) (Nat.le_of_ble_eq_true rfl) ?_
            have hP : va_P G.1 CL (cw_PV G h0 q0 o0 ++ (cw_Mo G (q0 4) q1 r1 o1 ++ (cw_He G (q0 8) q2 o2 ++ (cw_Sh G (q0 12) q3 r3 o3)))) H := hP
            have hD : va_D A (cw_PV G h0 q0 o0 ++ (cw_Mo G (q0 4) q1 r1 o1 ++ (cw_He G (q0 8) q2 o2 ++ (cw_Sh G (q0 12) q3 r3 o3)))) := hD
            exact W.iret (v := (-1 : Int32)) hx hb hr (fun t ht hW => ⟨⟨(-1 : Int32), (r3, o3), rfl, h, by rw [ht]; exact hP, va_K.moved hW.alike hK, hD⟩, hS.F ht⟩) hS.2.2 d_PV_row_36
          · have h := h.2 c30
            refine lv_aload_n hx hb d_PV_row_27 rfl (lv_at hl 0 rfl) ?_
            refine lv_iload_n hx hb d_PV_row_28 rfl (lv_at hl 3 rfl) ?_
            refine cl_Vi (b := b_PV_row) (As := [.int a2]) (rest := []) (ws := [(h0, .inr (0, [.int (gI o0 0), .ref (q0 1), .ref (q0 2), .ref (q0 3), .ref (q0 4), .ref (q0 5), .ref (q0 6), .ref (q0 7), .ref (q0 8), .ref (q0 9), .ref (q0 10), .ref (q0 11), .ref (q0 12), .ref (q0 13)])), kQ G (q0 3) 3 (fun i => some (q0 (50 + i))), kI G (q0 6) 1000 (gA o0 6), kJ G (q0 7) 2000 (gB o0 7), kI G (q0 13) 5 (gA o0 13), ((q0 4), .inr (5, [.ref (r1 0), .int (gI o1 1), .int (gI o1 2), .ref (q1 3), .ref (q1 4), .ref (q1 5), .ref (q1 6), .ref (q1 7), .ref (q1 8), .ref (q1 9), .ref (q1 10), .int (gI o1 11), .int (gI o1 12)])), kI G (q1 3) 20 (gA o1 3), kI G (q1 4) 20 (gA o1 4), kI G (q1 5) 5 (gA o1 5), kJ G (q1 6) 5 (gB o1 6), kJ G (q1 7) 5 (gB o1 7), kJ G (q1 8) 6 (gB o1 8), kI G (q1 10) 5 (gA o1 10), ((q0 8), .inr (2, [.ref (q2 0), .ref (q2 1), .ref (q2 2)])), kI G (q2 0) 100 (gA o2 0), kI G (q2 1) 100 (gA o2 1), kI G (q2 2) 100 (gA o2 2), ((q0 12), .inr (9, [.int (gI o3 0), .ref (q3 1), .ref (q3 2), .ref (q3 3), .ref (q3 4), .ref (q3 5), .ref (q3 6), .ref (q3 7), .int (gI o3 8), .ref (r3 9), .int (gI o3 10), .ref (r3 11)])), kI G (q3 1) 5 (gA o3 1), kI G (q3 2) 20 (gA o3 2), kI G (q3 3) 5 (gA o3 3), kI G (q3 4) 5 (gA o3 4), kI G (q3 5) 5 (gA o3 5), kI G (q3 6) 5 (gA o3 6), kI G (q3 7) 5 (gA o3 7), kB G (r3 9) (r3 109) (gA o3 9), kI G (r3 11) (r3 111) (gA o3 11)]) (wr := [((q0 4), .inr (5, [.ref (r1 0), .int (gI o1 1), .int (gI o1 2), .ref (q1 3), .ref (q1 4), .ref (q1 5), .ref (q1 6), .ref (q1 7), .ref (q1 8), .ref (q1 9), .ref (q1 10), .int (gI o1 11), .int (gI o1 12)])), kI G (q1 3) 20 (gA o1 3), kI G (q1 4) 20 (gA o1 4), kI G (q1 5) 5 (gA o1 5), kJ G (q1 6) 5 (gB o1 6), kJ G (q1 7) 5 (gB o1 7), kJ G (q1 8) 6 (gB o1 8), kI G (q1 10) 5 (gA o1 10), ((q0 8), .inr (2, [.ref (q2 0), .ref (q2 1), .ref (q2 2)])), kI G (q2 0) 100 (gA o2 0), kI G (q2 1) 100 (gA o2 1), kI G (q2 2) 100 (gA o2 2), ((q0 12), .inr (9, [.int (gI o3 0), .ref (q3 1), .ref (q3 2), .ref (q3 3), .ref (q3 4), .ref (q3 5), .ref (q3 6), .ref (q3 7), .int (gI o3 8), .ref (r3 9), .int (gI o3 10), .ref (r3 11)])), kI G (q3 1) 5 (gA o3 1), kI G (q3 2) 20 (gA o3 2), kI G (q3 3) 5 (gA o3 3), kI G (q3 4) 5 (gA o3 4), kI G (q3 5) 5 (gA o3 5), kI G (q3 6) 5 (gA o3 6), kI G (q3 7) 5 (gA o3 7), kB G (r3 9) (r3 109) (gA o3 9), kI G (r3 11) (r3 111) (gA o3 11)]) (w2 := fun (u : Unit) => [(h0, .inr (0, [.int (gI o0 0), .ref (q0 1), .ref (q0 2), .ref (q0 3), .ref (q0 4), .ref (q0 5), .ref (q0 6), .ref (q0 7), .ref (q0 8), .ref (q0 9), .ref (q0 10), .ref (q0 11), .ref (q0 12), .ref (q0 13)])), kQ G (q0 3) 3 (fun i => some (q0 (50 + i))), kI G (q0 6) 1000 (gA o0 6), kJ G (q0 7) 2000 (gB o0 7), kI G (q0 13) 5 (gA o0 13), ((q0 4), .inr (5, [.ref (r1 0), .int (gI o1 1), .int (gI o1 2), .ref (q1 3), .ref (q1 4), .ref (q1 5), .ref (q1 6), .ref (q1 7), .ref (q1 8), .ref (q1 9), .ref (q1 10), .int (gI o1 11), .int (gI o1 12)])), kI G (q1 3) 20 (gA o1 3), kI G (q1 4) 20 (gA o1 4), kI G (q1 5) 5 (gA o1 5), kJ G (q1 6) 5 (gB o1 6), kJ G (q1 7) 5 (gB o1 7), kJ G (q1 8) 6 (gB o1 8), kI G (q1 10) 5 (gA o1 10), ((q0 8), .inr (2, [.ref (q2 0), .ref (q2 1), .ref (q2 2)])), kI G (q2 0) 100 (gA o2 0), kI G (q2 1) 100 (gA o2 1), kI G (q2 2) 100 (gA o2 2), ((q0 12), .inr (9, [.int (gI o3 0), .ref (q3 1), .ref (q3 2), .ref (q3 3), .ref (q3 4), .ref (q3 5), .ref (q3 6), .ref (q3 7), .int (gI o3 8), .ref (r3 9), .int (gI o3 10), .ref (r3 11)])), kI G (q3 1) 5 (gA o3 1), kI G (q3 2) 20 (gA o3 2), kI G (q3 3) 5 (gA o3 3), kI G (q3 4) 5 (gA o3 4), kI G (q3 5) 5 (gA o3 5), kI G (q3 6) 5 (gA o3 6), kI G (q3 7) 5 (gA o3 7), kB G (r3 9) (r3 109) (gA o3 9), kI G (r3 11) (r3 111) (gA o3 11)]) C (c_PV_isPiece (h0 := h0) (q0 := q0) H.size h) wv_PV_145 ⟨Nat.le_of_ble_eq_true rfl, Nat.le_of_ble_eq_true rfl⟩ hP hD hS 0 rfl rfl [0, 1, 2, 3, 4] [5, 6, 7, 8, 9, 10, 11, 12, 13, 14, 15, 16, 17, 18, 19, 20, 21, 22, 23, 24, 25, 26] rfl rfl (by decide) (by decide) (by decide) [22, 23, 24, 25, 26, 0, 1, 2, 3, 4, 5, 6, 7, 8, 9, 10, 11, 12, 13, 14, 15, 16, 17, 18, 19, 20, 21] (by decide) (fun u => rfl) rfl hl.1 rfl (lv_room (Nat.le_of_ble_eq_true rfl)) d_PV_row_29 ⟨Nat.le_of_ble_eq_true rfl, Nat.le_of_ble_eq_true rfl⟩ rfl rfl (fun z31 u H locs h hP hD hS => ?_)
            have hP : va_P G.1 CL [(h0, .inr (0, [.int (gI o0 0), .ref (q0 1), .ref (q0 2), .ref (q0 3), .ref (q0 4), .ref (q0 5), .ref (q0 6), .ref (q0 7), .ref (q0 8), .ref (q0 9), .ref (q0 10), .ref (q0 11), .ref (q0 12), .ref (q0 13)])), kQ G (q0 3) 3 (fun i => some (q0 (50 + i))), kI G (q0 6) 1000 (gA o0 6), kJ G (q0 7) 2000 (gB o0 7), kI G (q0 13) 5 (gA o0 13), ((q0 4), .inr (5, [.ref (r1 0), .int (gI o1 1), .int (gI o1 2), .ref (q1 3), .ref (q1 4), .ref (q1 5), .ref (q1 6), .ref (q1 7), .ref (q1 8), .ref (q1 9), .ref (q1 10), .int (gI o1 11), .int (gI o1 12)])), kI G (q1 3) 20 (gA o1 3), kI G (q1 4) 20 (gA o1 4), kI G (q1 5) 5 (gA o1 5), kJ G (q1 6) 5 (gB o1 6), kJ G (q1 7) 5 (gB o1 7), kJ G (q1 8) 6 (gB o1 8), kI G (q1 10) 5 (gA o1 10), ((q0 8), .inr (2, [.ref (q2 0), .ref (q2 1), .ref (q2 2)])), kI G (q2 0) 100 (gA o2 0), kI G (q2 1) 100 (gA o2 1), kI G (q2 2) 100 (gA o2 2), ((q0 12), .inr (9, [.int (gI o3 0), .ref (q3 1), .ref (q3 2), .ref (q3 3), .ref (q3 4), .ref (q3 5), .ref (q3 6), .ref (q3 7), .int (gI o3 8), .ref (r3 9), .int (gI o3 10), .ref (r3 11)])), kI G (q3 1) 5 (gA o3 1), kI G (q3 2) 20 (gA o3 2), kI G (q3 3) 5 (gA o3 3), kI G (q3 4) 5 (gA o3 4), kI G (q3 5) 5 (gA o3 5), kI G (q3 6) 5 (gA o3 6), kI G (q3 7) 5 (gA o3 7), kB G (r3 9) (r3 109) (gA o3 9), kI G (r3 11) (r3 111) (gA o3 11)] H := hP
            have hD : va_D A [(h0, .inr (0, [.int (gI o0 0), .ref (q0 1), .ref (q0 2), .ref (q0 3), .ref (q0 4), .ref (q0 5), .ref (q0 6), .ref (q0 7), .ref (q0 8), .ref (q0 9), .ref (q0 10), .ref (q0 11), .ref (q0 12), .ref (q0 13)])), kQ G (q0 3) 3 (fun i => some (q0 (50 + i))), kI G (q0 6) 1000 (gA o0 6), kJ G (q0 7) 2000 (gB o0 7), kI G (q0 13) 5 (gA o0 13), ((q0 4), .inr (5, [.ref (r1 0), .int (gI o1 1), .int (gI o1 2), .ref (q1 3), .ref (q1 4), .ref (q1 5), .ref (q1 6), .ref (q1 7), .ref (q1 8), .ref (q1 9), .ref (q1 10), .int (gI o1 11), .int (gI o1 12)])), kI G (q1 3) 20 (gA o1 3), kI G (q1 4) 20 (gA o1 4), kI G (q1 5) 5 (gA o1 5), kJ G (q1 6) 5 (gB o1 6), kJ G (q1 7) 5 (gB o1 7), kJ G (q1 8) 6 (gB o1 8), kI G (q1 10) 5 (gA o1 10), ((q0 8), .inr (2, [.ref (q2 0), .ref (q2 1), .ref (q2 2)])), kI G (q2 0) 100 (gA o2 0), kI G (q2 1) 100 (gA o2 1), kI G (q2 2) 100 (gA o2 2), ((q0 12), .inr (9, [.int (gI o3 0), .ref (q3 1), .ref (q3 2), .ref (q3 3), .ref (q3 4), .ref (q3 5), .ref (q3 6), .ref (q3 7), .int (gI o3 8), .ref (r3 9), .int (gI o3 10), .ref (r3 11)])), kI G (q3 1) 5 (gA o3 1), kI G (q3 2) 20 (gA o3 2), kI G (q3 3) 5 (gA o3 3), kI G (q3 4) 5 (gA o3 4), kI G (q3 5) 5 (gA o3 5), kI G (q3 6) 5 (gA o3 6), kI G (q3 7) 5 (gA o3 7), kB G (r3 9) (r3 109) (gA o3 9), kI G (r3 11) (r3 111) (gA o3 11)] := hD
            refine lv_if_ne (tgt := 37) hx hb d_PV_row_32 (by decide) (fun c32 => ?_) (fun c32 => ?_)
            · have h := h.2 c32
              have hl := lv_sub (l' := [(0, .ref h0), (1, .int a0), (2, .int a1), (3, .int a2)]) hl [0, 1, 2, 3] rfl
              have hP : va_P G.1 CL (cw_PV G h0 q0 o0 ++ (cw_Mo G (q0 4) q1 r1 o1 ++ (cw_He G (q0 8) q2 o2 ++ (cw_Sh G (q0 12) q3 r3 o3)))) H := hP
              have hD : va_D A (cw_PV G h0 q0 o0 ++ (cw_Mo G (q0 4) q1 r1 o1 ++ (cw_He G (q0 8) q2 o2 ++ (cw_Sh G (q0 12) q3 r3 o3)))) := hD
              exact t_PV_row_37 o0 r1 o1 o2 Q C 0 0 a0 a1 a2 r3 o3 ls _ locs hl hP hD hS h
            · have h := h.1 c32
              refine lv_iconst (v := (-1 : Int32)) hx hb d_PV_row_35 (by decide) ?_
              refine W.widen (k := 2) (n := 13312) (Nat.le_of_ble_eq_true rfl) (Nat.le_of_ble_eq_true rfl) ?_
              have hP : va_P G.1 CL (cw_PV G h0 q0 o0 ++ (cw_Mo G (q0 4) q1 r1 o1 ++ (cw_He G (q0 8) q2 o2 ++ (cw_Sh G (q0 12) q3 r3 o3)))) H := hP
              have hD : va_D A (cw_PV G h0 q0 o0 ++ (cw_Mo G (q0 4) q1 r1 o1 ++ (cw_He G (q0 8) q2 o2 ++ (cw_Sh G (q0 12) q3 r3 o3)))) := hD
              exact W.iret (v := (-1 : Int32)) hx hb hr (fun t ht hW => ⟨⟨(-1 : Int32), (r3, o3), rfl, h, by rw [ht]; exact hP, va_K.moved hW.alike hK, hD⟩, hS.F ht⟩) hS.2.2 d_PV_row_36
    · have h := h.2 c27
      refine lv_iconst (v := (-1 : Int32)) hx hb d_PV_row_11 (by decide) ?_
      refine W.widen (k := 2) (n := 13312) (Nat.le_of_ble_eq_true rfl) (Nat.le_of_ble_eq_true rfl) ?_
      have hP : va_P G.1 CL (cw_PV G h0 q0 o0 ++ (cw_Mo G (q0 4) q1 r1 o1 ++ (cw_He G (q0 8) q2 o2 ++ (cw_Sh G (q0 12) q3 r3 o3)))) H := hP
      have hD : va_D A (cw_PV G h0 q0 o0 ++ (cw_Mo G (q0 4) q1 r1 o1 ++ (cw_He G (q0 8) q2 o2 ++ (cw_Sh G (q0 12) q3 r3 o3)))) := hD
      exact W.iret (v := (-1 : Int32)) hx hb hr (fun t ht hW => ⟨⟨(-1 : Int32), (r3, o3), rfl, h, by rw [ht]; exact hP, va_K.moved hW.alike hK, hD⟩, hS.F ht⟩) hS.2.2 d_PV_row_12
abbrev b_PV_spareLaw : ByteArray := prog_1_method_34_code
def y_PV_spareLaw : MethodName := ⟨R_PV, "spareLaw", "()LPipeVoice$Law;"⟩
abbrev w_PV_spareLaw : List Cond := Cond.code y_PV_spareLaw b_PV_spareLaw 2 (some (.object "PipeVoice$Law")) :: gw_tbl
theorem d_PV_spareLaw_0 : decode b_PV_spareLaw 0 = .ok (.iconst 1, 1) := by decide +kernel
theorem d_PV_spareLaw_1 : decode b_PV_spareLaw 1 = .ok (.istore_n 1, 1) := by decide +kernel
theorem d_PV_spareLaw_2 : decode b_PV_spareLaw 2 = .ok (.iload_n 1, 1) := by decide +kernel
theorem d_PV_spareLaw_3 : decode b_PV_spareLaw 3 = .ok (.aload_n 0, 1) := by decide +kernel
theorem d_PV_spareLaw_4 : decode b_PV_spareLaw 4 = .ok (.getfield 31, 3) := by decide +kernel
theorem d_PV_spareLaw_7 : decode b_PV_spareLaw 7 = .ok (.arraylength, 1) := by decide +kernel
theorem d_PV_spareLaw_8 : decode b_PV_spareLaw 8 = .ok (.if_icmp .ge 48, 3) := by decide +kernel
theorem d_PV_spareLaw_11 : decode b_PV_spareLaw 11 = .ok (.aload_n 0, 1) := by decide +kernel
theorem d_PV_spareLaw_12 : decode b_PV_spareLaw 12 = .ok (.getfield 31, 3) := by decide +kernel
theorem d_PV_spareLaw_15 : decode b_PV_spareLaw 15 = .ok (.iload_n 1, 1) := by decide +kernel
theorem d_PV_spareLaw_16 : decode b_PV_spareLaw 16 = .ok (.aaload, 1) := by decide +kernel
theorem d_PV_spareLaw_17 : decode b_PV_spareLaw 17 = .ok (.aload_n 0, 1) := by decide +kernel
theorem d_PV_spareLaw_18 : decode b_PV_spareLaw 18 = .ok (.getfield 50, 3) := by decide +kernel
theorem d_PV_spareLaw_21 : decode b_PV_spareLaw 21 = .ok (.getfield 128, 3) := by decide +kernel
theorem d_PV_spareLaw_24 : decode b_PV_spareLaw 24 = .ok (.if_acmp .eq 26, 3) := by decide +kernel
theorem d_PV_spareLaw_27 : decode b_PV_spareLaw 27 = .ok (.aload_n 0, 1) := by decide +kernel
theorem d_PV_spareLaw_28 : decode b_PV_spareLaw 28 = .ok (.getfield 31, 3) := by decide +kernel
theorem d_PV_spareLaw_31 : decode b_PV_spareLaw 31 = .ok (.iload_n 1, 1) := by decide +kernel
theorem d_PV_spareLaw_32 : decode b_PV_spareLaw 32 = .ok (.aaload, 1) := by decide +kernel
theorem d_PV_spareLaw_33 : decode b_PV_spareLaw 33 = .ok (.aload_n 0, 1) := by decide +kernel
theorem d_PV_spareLaw_34 : decode b_PV_spareLaw 34 = .ok (.getfield 54, 3) := by decide +kernel
theorem d_PV_spareLaw_37 : decode b_PV_spareLaw 37 = .ok (.getfield 128, 3) := by decide +kernel
theorem d_PV_spareLaw_40 : decode b_PV_spareLaw 40 = .ok (.if_acmp .eq 10, 3) := by decide +kernel
theorem d_PV_spareLaw_43 : decode b_PV_spareLaw 43 = .ok (.aload_n 0, 1) := by decide +kernel
theorem d_PV_spareLaw_44 : decode b_PV_spareLaw 44 = .ok (.getfield 31, 3) := by decide +kernel
theorem d_PV_spareLaw_47 : decode b_PV_spareLaw 47 = .ok (.iload_n 1, 1) := by decide +kernel
theorem d_PV_spareLaw_48 : decode b_PV_spareLaw 48 = .ok (.aaload, 1) := by decide +kernel
theorem d_PV_spareLaw_49 : decode b_PV_spareLaw 49 = .ok (.areturn, 1) := by decide +kernel
theorem d_PV_spareLaw_50 : decode b_PV_spareLaw 50 = .ok (.iinc 1 1, 3) := by decide +kernel
theorem d_PV_spareLaw_53 : decode b_PV_spareLaw 53 = .ok (.goto (-51), 3) := by decide +kernel
theorem d_PV_spareLaw_56 : decode b_PV_spareLaw 56 = .ok (.aload_n 0, 1) := by decide +kernel
theorem d_PV_spareLaw_57 : decode b_PV_spareLaw 57 = .ok (.getfield 31, 3) := by decide +kernel
theorem d_PV_spareLaw_60 : decode b_PV_spareLaw 60 = .ok (.iconst 0, 1) := by decide +kernel
theorem d_PV_spareLaw_61 : decode b_PV_spareLaw 61 = .ok (.aaload, 1) := by decide +kernel
theorem d_PV_spareLaw_62 : decode b_PV_spareLaw 62 = .ok (.areturn, 1) := by decide +kernel
theorem wf_PV_31 : Cond.fieldLink R_PV 31 R_PV "laws" "[LPipeVoice$Law;" ∈ gw_tbl := gw_tb (List.mem_of_getElem? (i := 441) (by decide +kernel)) rfl
def f_PV_spareLaw (q0 : Nat → Nat) (o0 : Ob) (r1 : (Nat → Nat)) (o1 : Ob) (r2 : (Nat → Nat)) (o2 : Ob) (Q : Nat → Prop) : Prop := ((q0 51) = (r1 0) → (((q0 52) = (r1 0) → (Q (q0 50))) ∧ (¬ (q0 52) = (r1 0) → (((q0 52) = (r2 0) → (Q (q0 50))) ∧ (¬ (q0 52) = (r2 0) → (Q (q0 52))))))) ∧ (¬ (q0 51) = (r1 0) → (((q0 51) = (r2 0) → (((q0 52) = (r1 0) → (Q (q0 50))) ∧ (¬ (q0 52) = (r1 0) → (((q0 52) = (r2 0) → (Q (q0 50))) ∧ (¬ (q0 52) = (r2 0) → (Q (q0 52))))))) ∧ (¬ (q0 51) = (r2 0) → (Q (q0 51)))))
abbrev rm_PV_spareLaw : Room := { frames := 0, cells := 0, slots := 0, locals := 0 }
set_option maxHeartbeats 4000000 in
set_option maxRecDepth 100000 in
theorem c_PV_spareLaw {l : Launch} {G : Gl} {h0 : Nat} {q0 : Nat → Nat} {q1 : Nat → Nat} {q2 : Nat → Nat} {o0 : Ob} {r1 : (Nat → Nat)} {o1 : Ob} {r2 : (Nat → Nat)} {o2 : Ob} {Q : Nat → Prop} (sz : Nat) (h : f_PV_spareLaw q0 o0 r1 o1 r2 o2 Q) : Met l y_PV_spareLaw w_PV_spareLaw rm_PV_spareLaw (PcW G [.ref h0] sz (cw_PV G h0 q0 o0 ++ (cw_Mo G (q0 4) q1 r1 o1 ++ (cw_Mo G (q0 5) q2 r2 o2)))) (va_Qr (fun (u : Nat × Unit) => Q u.1) (fun (u : Nat × Unit) a t => a = u.1 ∧ BW G (va_A (cw_PV G h0 q0 o0 ++ (cw_Mo G (q0 4) q1 r1 o1 ++ (cw_Mo G (q0 5) q2 r2 o2))) sz) (cw_PV G h0 q0 o0 ++ (cw_Mo G (q0 4) q1 r1 o1 ++ (cw_Mo G (q0 5) q2 r2 o2))) t) (va_A (cw_PV G h0 q0 o0 ++ (cw_Mo G (q0 4) q1 r1 o1 ++ (cw_Mo G (q0 5) q2 r2 o2))) sz)) 0 0 (va_A (cw_PV G h0 q0 o0 ++ (cw_Mo G (q0 4) q1 r1 o1 ++ (cw_Mo G (q0 5) q2 r2 o2))) sz) := by
  refine Met.ofW (cc := b_PV_spareLaw) (maxL := 2) (ret := (some (.object "PipeVoice$Law"))) (by decide +kernel) rfl ?_
  intro p e s m args below meth c s₁ B hml hv
  obtain ⟨rfl, hsz, hP, hK, hD0, hE⟩ := hv
  have hx := B.exec
  have hb := B.bytes
  have hr := B.returns
  have hts0 := atoms_spec (ws := w_PV_spareLaw) B.pre
  have hts : ∀ w ∈ gw_tbl, w.before ([.ref h0]).toArray s = true := fun w hw => hts0 w (List.mem_cons_of_mem _ hw)
  have hown : s.vm.findClass R_PV = some m.cls := findClass_of_methodNamed B.named
  have hlocks := B.notSynchronized
  subst hsz
  have hD := hD0.self (sz := s.heap.size)
  generalize hAe : va_A (cw_PV G h0 q0 o0 ++ (cw_Mo G (q0 4) q1 r1 o1 ++ (cw_Mo G (q0 5) q2 r2 o2))) s.heap.size = A at hD hE ⊢
  have hA : ∀ q : Nat, s.heap.size ≤ q → A q := fun q h => by rw [← hAe]; exact Or.inr h
  have hS : va_S A s.heap s.heap [] := va_S.rf
  have C : Cx p s m ([.ref h0]).toArray meth c R_PV b_PV_spareLaw 2 (some (.object "PipeVoice$Law")) G A := ⟨hx, hb, hml, hown, hr, hts, hK, hA, hlocks, hE⟩
  have hl := lv_entry ([.ref h0]) (n := 2) (Nat.le_of_ble_eq_true rfl)
  rw [lg_entry_eq]
  generalize (lg_sl ([.ref h0]) ++ List.replicate (2 - (lg_sl ([.ref h0])).length) Slot.unset).toArray = ls at hl ⊢
  have hl : lv_has ls 2 [(0, .ref h0)] := hl
  have hD : va_D A [(h0, .inr (0, [.int (gI o0 0), .ref (q0 1), .ref (q0 2), .ref (q0 3), .ref (q0 4), .ref (q0 5), .ref (q0 6), .ref (q0 7), .ref (q0 8), .ref (q0 9), .ref (q0 10), .ref (q0 11), .ref (q0 12), .ref (q0 13)])), kQ G (q0 3) 3 (fun i => some (q0 (50 + i))), kI G (q0 6) 1000 (gA o0 6), kJ G (q0 7) 2000 (gB o0 7), kI G (q0 13) 5 (gA o0 13), ((q0 4), .inr (5, [.ref (r1 0), .int (gI o1 1), .int (gI o1 2), .ref (q1 3), .ref (q1 4), .ref (q1 5), .ref (q1 6), .ref (q1 7), .ref (q1 8), .ref (q1 9), .ref (q1 10), .int (gI o1 11), .int (gI o1 12)])), kI G (q1 3) 20 (gA o1 3), kI G (q1 4) 20 (gA o1 4), kI G (q1 5) 5 (gA o1 5), kJ G (q1 6) 5 (gB o1 6), kJ G (q1 7) 5 (gB o1 7), kJ G (q1 8) 6 (gB o1 8), kI G (q1 10) 5 (gA o1 10), ((q0 5), .inr (5, [.ref (r2 0), .int (gI o2 1), .int (gI o2 2), .ref (q2 3), .ref (q2 4), .ref (q2 5), .ref (q2 6), .ref (q2 7), .ref (q2 8), .ref (q2 9), .ref (q2 10), .int (gI o2 11), .int (gI o2 12)])), kI G (q2 3) 20 (gA o2 3), kI G (q2 4) 20 (gA o2 4), kI G (q2 5) 5 (gA o2 5), kJ G (q2 6) 5 (gB o2 6), kJ G (q2 7) 5 (gB o2 7), kJ G (q2 8) 6 (gB o2 8), kI G (q2 10) 5 (gA o2 10)] := hD
  unfold f_PV_spareLaw at h
  suffices key : ∀ (H : Heap) (locs : List Loc), va_P G.1 CL [(h0, .inr (0, [.int (gI o0 0), .ref (q0 1), .ref (q0 2), .ref (q0 3), .ref (q0 4), .ref (q0 5), .ref (q0 6), .ref (q0 7), .ref (q0 8), .ref (q0 9), .ref (q0 10), .ref (q0 11), .ref (q0 12), .ref (q0 13)])), kQ G (q0 3) 3 (fun i => some (q0 (50 + i))), kI G (q0 6) 1000 (gA o0 6), kJ G (q0 7) 2000 (gB o0 7), kI G (q0 13) 5 (gA o0 13), ((q0 4), .inr (5, [.ref (r1 0), .int (gI o1 1), .int (gI o1 2), .ref (q1 3), .ref (q1 4), .ref (q1 5), .ref (q1 6), .ref (q1 7), .ref (q1 8), .ref (q1 9), .ref (q1 10), .int (gI o1 11), .int (gI o1 12)])), kI G (q1 3) 20 (gA o1 3), kI G (q1 4) 20 (gA o1 4), kI G (q1 5) 5 (gA o1 5), kJ G (q1 6) 5 (gB o1 6), kJ G (q1 7) 5 (gB o1 7), kJ G (q1 8) 6 (gB o1 8), kI G (q1 10) 5 (gA o1 10), ((q0 5), .inr (5, [.ref (r2 0), .int (gI o2 1), .int (gI o2 2), .ref (q2 3), .ref (q2 4), .ref (q2 5), .ref (q2 6), .ref (q2 7), .ref (q2 8), .ref (q2 9), .ref (q2 10), .int (gI o2 11), .int (gI o2 12)])), kI G (q2 3) 20 (gA o2 3), kI G (q2 4) 20 (gA o2 4), kI G (q2 5) 5 (gA o2 5), kJ G (q2 6) 5 (gB o2 6), kJ G (q2 7) 5 (gB o2 7), kJ G (q2 8) 6 (gB o2 8), kI G (q2 10) 5 (gA o2 10)] H → va_S A s.heap H locs → W p l e rm_PV_spareLaw s m ([.ref h0]).toArray below meth c H locs 0 0 (MQ below (va_Qr (fun (u : Nat × Unit) => Q u.1) (fun (u : Nat × Unit) a t => a = u.1 ∧ BW G A (cw_PV G h0 q0 o0 ++ (cw_Mo G (q0 4) q1 r1 o1 ++ (cw_Mo G (q0 5) q2 r2 o2))) t) A) ([.ref h0]).toArray s 0 0 A) (F0 m 0 ls []) from key s.heap [] hP hS
  intro H locs hP hS
  refine lv_iconst (v := (1 : Int32)) hx hb d_PV_spareLaw_0 (by decide) ?_
  refine lv_istore_n (lv' := [(1, .int (1 : Int32)), (0, .ref h0)]) hx hb d_PV_spareLaw_1 rfl hl (by decide) rfl (fun ls hl => ?_)
  refine lv_iload_n hx hb d_PV_spareLaw_2 rfl (lv_at hl 0 rfl) ?_
  refine lv_aload_n hx hb d_PV_spareLaw_3 rfl (lv_at hl 1 rfl) ?_
  refine va_get (D := G.1) (ci := 0) (v := .ref (q0 3)) (C := R_PV) (T := T_PV) (N := 14) hx hb hts i_PV hown hK hP 0 rfl rfl 3 (by decide) (hts _ wf_PV_31) (fun _ h9 => h9) rfl d_PV_spareLaw_4 ?_
  refine va_alen hx hb hK hP 1 4 rfl rfl (v := (3 : Int32)) rfl d_PV_spareLaw_7 ?_
  refine lv_icmp_ge (tgt := 56) hx hb d_PV_spareLaw_8 (by decide) (fun c1 => ?_) (fun c1 => ?_)
  · exact absurd c1 (by decide)
  · skip
    refine lv_aload_n hx hb d_PV_spareLaw_11 rfl (lv_at hl 1 rfl) ?_
    refine va_get (D := G.1) (ci := 0) (v := .ref (q0 3)) (C := R_PV) (T := T_PV) (N := 14) hx hb hts i_PV hown hK hP 0 rfl rfl 3 (by decide) (hts _ wf_PV_31) (fun _ h9 => h9) rfl d_PV_spareLaw_12 ?_
    refine lv_iload_n hx hb d_PV_spareLaw_15 rfl (lv_at hl 0 rfl) ?_
    refine va_aldq hx hb hK hP 1 4 rfl rfl (vp_lit rfl) d_PV_spareLaw_16 ?_
    refine W.eq (g2 := F0 m 17 ls [.ref (q0 51)]) rfl ?_
    refine lv_aload_n hx hb d_PV_spareLaw_17 rfl (lv_at hl 1 rfl) ?_
    refine va_get (D := G.1) (ci := 0) (v := .ref (q0 4)) (C := R_PV) (T := T_PV) (N := 14) hx hb hts i_PV hown hK hP 0 rfl rfl 4 (by decide) (hts _ wf_PV_50) (fun _ h9 => h9) rfl d_PV_spareLaw_18 ?_
    refine va_get (D := G.1) (ci := 5) (v := .ref (r1 0)) (C := R_Mo) (T := T_Mo) (N := 13) hx hb hts i_Mo hown hK hP 5 rfl rfl 0 (by decide) (hts _ wf_PV_128) (fun _ h9 => h9) rfl d_PV_spareLaw_21 ?_
    refine lv_acmp_eq (rx := some (q0 51)) (ry := some (r1 0)) (tgt := 50) hx hb d_PV_spareLaw_24 (by decide) (fun c2 => ?_) (fun c2 => ?_)
    · have h := h.1 (Option.some.inj c2)
      refine lv_iinc (v := (2 : Int32)) (lv' := [(1, .int (2 : Int32)), (0, .ref h0)]) hx hb d_PV_spareLaw_50 hl (k := 0) rfl (by decide) (by decide) rfl (fun ls hl => ?_)
      refine lv_goto (tgt := 2) hx hb d_PV_spareLaw_53 (by decide) ?_
      refine lv_iload_n hx hb d_PV_spareLaw_2 rfl (lv_at hl 0 rfl) ?_
      refine lv_aload_n hx hb d_PV_spareLaw_3 rfl (lv_at hl 1 rfl) ?_
      refine va_get (D := G.1) (ci := 0) (v := .ref (q0 3)) (C := R_PV) (T := T_PV) (N := 14) hx hb hts i_PV hown hK hP 0 rfl rfl 3 (by decide) (hts _ wf_PV_31) (fun _ h9 => h9) rfl d_PV_spareLaw_4 ?_
      refine va_alen hx hb hK hP 1 4 rfl rfl (v := (3 : Int32)) rfl d_PV_spareLaw_7 ?_
      refine lv_icmp_ge (tgt := 56) hx hb d_PV_spareLaw_8 (by decide) (fun c3 => ?_) (fun c3 => ?_)
      · exact absurd c3 (by decide)
      · skip
        refine lv_aload_n hx hb d_PV_spareLaw_11 rfl (lv_at hl 1 rfl) ?_
        refine va_get (D := G.1) (ci := 0) (v := .ref (q0 3)) (C := R_PV) (T := T_PV) (N := 14) hx hb hts i_PV hown hK hP 0 rfl rfl 3 (by decide) (hts _ wf_PV_31) (fun _ h9 => h9) rfl d_PV_spareLaw_12 ?_
        refine lv_iload_n hx hb d_PV_spareLaw_15 rfl (lv_at hl 0 rfl) ?_
        refine va_aldq hx hb hK hP 1 4 rfl rfl (vp_lit rfl) d_PV_spareLaw_16 ?_
        refine W.eq (g2 := F0 m 17 ls [.ref (q0 52)]) rfl ?_
        refine lv_aload_n hx hb d_PV_spareLaw_17 rfl (lv_at hl 1 rfl) ?_
        refine va_get (D := G.1) (ci := 0) (v := .ref (q0 4)) (C := R_PV) (T := T_PV) (N := 14) hx hb hts i_PV hown hK hP 0 rfl rfl 4 (by decide) (hts _ wf_PV_50) (fun _ h9 => h9) rfl d_PV_spareLaw_18 ?_
        refine va_get (D := G.1) (ci := 5) (v := .ref (r1 0)) (C := R_Mo) (T := T_Mo) (N := 13) hx hb hts i_Mo hown hK hP 5 rfl rfl 0 (by decide) (hts _ wf_PV_128) (fun _ h9 => h9) rfl d_PV_spareLaw_21 ?_
        refine lv_acmp_eq (rx := some (q0 52)) (ry := some (r1 0)) (tgt := 50) hx hb d_PV_spareLaw_24 (by decide) (fun c4 => ?_) (fun c4 => ?_)
        · have h := h.1 (Option.some.inj c4)
          refine lv_iinc (v := (3 : Int32)) (lv' := [(1, .int (3 : Int32)), (0, .ref h0)]) hx hb d_PV_spareLaw_50 hl (k := 0) rfl (by decide) (by decide) rfl (fun ls hl => ?_)
          refine lv_goto (tgt := 2) hx hb d_PV_spareLaw_53 (by decide) ?_
          refine lv_iload_n hx hb d_PV_spareLaw_2 rfl (lv_at hl 0 rfl) ?_
          refine lv_aload_n hx hb d_PV_spareLaw_3 rfl (lv_at hl 1 rfl) ?_
          refine va_get (D := G.1) (ci := 0) (v := .ref (q0 3)) (C := R_PV) (T := T_PV) (N := 14) hx hb hts i_PV hown hK hP 0 rfl rfl 3 (by decide) (hts _ wf_PV_31) (fun _ h9 => h9) rfl d_PV_spareLaw_4 ?_
          refine va_alen hx hb hK hP 1 4 rfl rfl (v := (3 : Int32)) rfl d_PV_spareLaw_7 ?_
          refine lv_icmp_ge (tgt := 56) hx hb d_PV_spareLaw_8 (by decide) (fun c5 => ?_) (fun c5 => ?_)
          · skip
            refine lv_aload_n hx hb d_PV_spareLaw_56 rfl (lv_at hl 1 rfl) ?_
            refine va_get (D := G.1) (ci := 0) (v := .ref (q0 3)) (C := R_PV) (T := T_PV) (N := 14) hx hb hts i_PV hown hK hP 0 rfl rfl 3 (by decide) (hts _ wf_PV_31) (fun _ h9 => h9) rfl d_PV_spareLaw_57 ?_
            refine lv_iconst (v := (0 : Int32)) hx hb d_PV_spareLaw_60 (by decide) ?_
            refine va_aldq hx hb hK hP 1 4 rfl rfl (vp_lit rfl) d_PV_spareLaw_61 ?_
            refine W.eq (g2 := F0 m 62 ls [.ref (q0 50)]) rfl ?_
            have hP : va_P G.1 CL (cw_PV G h0 q0 o0 ++ (cw_Mo G (q0 4) q1 r1 o1 ++ (cw_Mo G (q0 5) q2 r2 o2))) H := hP
            have hD : va_D A (cw_PV G h0 q0 o0 ++ (cw_Mo G (q0 4) q1 r1 o1 ++ (cw_Mo G (q0 5) q2 r2 o2))) := hD
            exact W.aret (v := .ref (q0 50)) hx hb hr (Or.inl ⟨_, rfl⟩) (Or.inr ⟨_, rfl⟩) (fun t ht hW => ⟨⟨((q0 50), ()), (q0 50), rfl, h, rfl, by rw [ht]; exact hP, va_K.moved hW.alike hK, hD⟩, hS.F ht⟩) hS.2.2 d_PV_spareLaw_62
          · exact absurd c5 (by decide)
        · have h := h.2 (fun q => c4 (congrArg some q))
          refine lv_aload_n hx hb d_PV_spareLaw_27 rfl (lv_at hl 1 rfl) ?_
          refine va_get (D := G.1) (ci := 0) (v := .ref (q0 3)) (C := R_PV) (T := T_PV) (N := 14) hx hb hts i_PV hown hK hP 0 rfl rfl 3 (by decide) (hts _ wf_PV_31) (fun _ h9 => h9) rfl d_PV_spareLaw_28 ?_
          refine lv_iload_n hx hb d_PV_spareLaw_31 rfl (lv_at hl 0 rfl) ?_
          refine va_aldq hx hb hK hP 1 4 rfl rfl (vp_lit rfl) d_PV_spareLaw_32 ?_
          refine W.eq (g2 := F0 m 33 ls [.ref (q0 52)]) rfl ?_
          refine lv_aload_n hx hb d_PV_spareLaw_33 rfl (lv_at hl 1 rfl) ?_
          refine va_get (D := G.1) (ci := 0) (v := .ref (q0 5)) (C := R_PV) (T := T_PV) (N := 14) hx hb hts i_PV hown hK hP 0 rfl rfl 5 (by decide) (hts _ wf_PV_54) (fun _ h9 => h9) rfl d_PV_spareLaw_34 ?_
          refine va_get (D := G.1) (ci := 5) (v := .ref (r2 0)) (C := R_Mo) (T := T_Mo) (N := 13) hx hb hts i_Mo hown hK hP 13 rfl rfl 0 (by decide) (hts _ wf_PV_128) (fun _ h9 => h9) rfl d_PV_spareLaw_37 ?_
          refine lv_acmp_eq (rx := some (q0 52)) (ry := some (r2 0)) (tgt := 50) hx hb d_PV_spareLaw_40 (by decide) (fun c6 => ?_) (fun c6 => ?_)
          · have h := h.1 (Option.some.inj c6)
            refine lv_iinc (v := (3 : Int32)) (lv' := [(1, .int (3 : Int32)), (0, .ref h0)]) hx hb d_PV_spareLaw_50 hl (k := 0) rfl (by decide) (by decide) rfl (fun ls hl => ?_)
            refine lv_goto (tgt := 2) hx hb d_PV_spareLaw_53 (by decide) ?_
            refine lv_iload_n hx hb d_PV_spareLaw_2 rfl (lv_at hl 0 rfl) ?_
            refine lv_aload_n hx hb d_PV_spareLaw_3 rfl (lv_at hl 1 rfl) ?_
            refine va_get (D := G.1) (ci := 0) (v := .ref (q0 3)) (C := R_PV) (T := T_PV) (N := 14) hx hb hts i_PV hown hK hP 0 rfl rfl 3 (by decide) (hts _ wf_PV_31) (fun _ h9 => h9) rfl d_PV_spareLaw_4 ?_
            refine va_alen hx hb hK hP 1 4 rfl rfl (v := (3 : Int32)) rfl d_PV_spareLaw_7 ?_
            refine lv_icmp_ge (tgt := 56) hx hb d_PV_spareLaw_8 (by decide) (fun c7 => ?_) (fun c7 => ?_)
            · skip
              refine lv_aload_n hx hb d_PV_spareLaw_56 rfl (lv_at hl 1 rfl) ?_
              refine va_get (D := G.1) (ci := 0) (v := .ref (q0 3)) (C := R_PV) (T := T_PV) (N := 14) hx hb hts i_PV hown hK hP 0 rfl rfl 3 (by decide) (hts _ wf_PV_31) (fun _ h9 => h9) rfl d_PV_spareLaw_57 ?_
              refine lv_iconst (v := (0 : Int32)) hx hb d_PV_spareLaw_60 (by decide) ?_
              refine va_aldq hx hb hK hP 1 4 rfl rfl (vp_lit rfl) d_PV_spareLaw_61 ?_
              refine W.eq (g2 := F0 m 62 ls [.ref (q0 50)]) rfl ?_
              have hP : va_P G.1 CL (cw_PV G h0 q0 o0 ++ (cw_Mo G (q0 4) q1 r1 o1 ++ (cw_Mo G (q0 5) q2 r2 o2))) H := hP
              have hD : va_D A (cw_PV G h0 q0 o0 ++ (cw_Mo G (q0 4) q1 r1 o1 ++ (cw_Mo G (q0 5) q2 r2 o2))) := hD
              exact W.aret (v := .ref (q0 50)) hx hb hr (Or.inl ⟨_, rfl⟩) (Or.inr ⟨_, rfl⟩) (fun t ht hW => ⟨⟨((q0 50), ()), (q0 50), rfl, h, rfl, by rw [ht]; exact hP, va_K.moved hW.alike hK, hD⟩, hS.F ht⟩) hS.2.2 d_PV_spareLaw_62
            · exact absurd c7 (by decide)
          · have h := h.2 (fun q => c6 (congrArg some q))
            refine lv_aload_n hx hb d_PV_spareLaw_43 rfl (lv_at hl 1 rfl) ?_
            refine va_get (D := G.1) (ci := 0) (v := .ref (q0 3)) (C := R_PV) (T := T_PV) (N := 14) hx hb hts i_PV hown hK hP 0 rfl rfl 3 (by decide) (hts _ wf_PV_31) (fun _ h9 => h9) rfl d_PV_spareLaw_44 ?_
            refine lv_iload_n hx hb d_PV_spareLaw_47 rfl (lv_at hl 0 rfl) ?_
            refine va_aldq hx hb hK hP 1 4 rfl rfl (vp_lit rfl) d_PV_spareLaw_48 ?_
            refine W.eq (g2 := F0 m 49 ls [.ref (q0 52)]) rfl ?_
            have hP : va_P G.1 CL (cw_PV G h0 q0 o0 ++ (cw_Mo G (q0 4) q1 r1 o1 ++ (cw_Mo G (q0 5) q2 r2 o2))) H := hP
            have hD : va_D A (cw_PV G h0 q0 o0 ++ (cw_Mo G (q0 4) q1 r1 o1 ++ (cw_Mo G (q0 5) q2 r2 o2))) := hD
            exact W.aret (v := .ref (q0 52)) hx hb hr (Or.inl ⟨_, rfl⟩) (Or.inr ⟨_, rfl⟩) (fun t ht hW => ⟨⟨((q0 52), ()), (q0 52), rfl, h, rfl, by rw [ht]; exact hP, va_K.moved hW.alike hK, hD⟩, hS.F ht⟩) hS.2.2 d_PV_spareLaw_49
    · have h := h.2 (fun q => c2 (congrArg some q))
      refine lv_aload_n hx hb d_PV_spareLaw_27 rfl (lv_at hl 1 rfl) ?_
      refine va_get (D := G.1) (ci := 0) (v := .ref (q0 3)) (C := R_PV) (T := T_PV) (N := 14) hx hb hts i_PV hown hK hP 0 rfl rfl 3 (by decide) (hts _ wf_PV_31) (fun _ h9 => h9) rfl d_PV_spareLaw_28 ?_
      refine lv_iload_n hx hb d_PV_spareLaw_31 rfl (lv_at hl 0 rfl) ?_
      refine va_aldq hx hb hK hP 1 4 rfl rfl (vp_lit rfl) d_PV_spareLaw_32 ?_
      refine W.eq (g2 := F0 m 33 ls [.ref (q0 51)]) rfl ?_
      refine lv_aload_n hx hb d_PV_spareLaw_33 rfl (lv_at hl 1 rfl) ?_
      refine va_get (D := G.1) (ci := 0) (v := .ref (q0 5)) (C := R_PV) (T := T_PV) (N := 14) hx hb hts i_PV hown hK hP 0 rfl rfl 5 (by decide) (hts _ wf_PV_54) (fun _ h9 => h9) rfl d_PV_spareLaw_34 ?_
      refine va_get (D := G.1) (ci := 5) (v := .ref (r2 0)) (C := R_Mo) (T := T_Mo) (N := 13) hx hb hts i_Mo hown hK hP 13 rfl rfl 0 (by decide) (hts _ wf_PV_128) (fun _ h9 => h9) rfl d_PV_spareLaw_37 ?_
      refine lv_acmp_eq (rx := some (q0 51)) (ry := some (r2 0)) (tgt := 50) hx hb d_PV_spareLaw_40 (by decide) (fun c8 => ?_) (fun c8 => ?_)
      · have h := h.1 (Option.some.inj c8)
        refine lv_iinc (v := (2 : Int32)) (lv' := [(1, .int (2 : Int32)), (0, .ref h0)]) hx hb d_PV_spareLaw_50 hl (k := 0) rfl (by decide) (by decide) rfl (fun ls hl => ?_)
        refine lv_goto (tgt := 2) hx hb d_PV_spareLaw_53 (by decide) ?_
        refine lv_iload_n hx hb d_PV_spareLaw_2 rfl (lv_at hl 0 rfl) ?_
        refine lv_aload_n hx hb d_PV_spareLaw_3 rfl (lv_at hl 1 rfl) ?_
        refine va_get (D := G.1) (ci := 0) (v := .ref (q0 3)) (C := R_PV) (T := T_PV) (N := 14) hx hb hts i_PV hown hK hP 0 rfl rfl 3 (by decide) (hts _ wf_PV_31) (fun _ h9 => h9) rfl d_PV_spareLaw_4 ?_
        refine va_alen hx hb hK hP 1 4 rfl rfl (v := (3 : Int32)) rfl d_PV_spareLaw_7 ?_
        refine lv_icmp_ge (tgt := 56) hx hb d_PV_spareLaw_8 (by decide) (fun c9 => ?_) (fun c9 => ?_)
        · exact absurd c9 (by decide)
        · skip
          refine lv_aload_n hx hb d_PV_spareLaw_11 rfl (lv_at hl 1 rfl) ?_
          refine va_get (D := G.1) (ci := 0) (v := .ref (q0 3)) (C := R_PV) (T := T_PV) (N := 14) hx hb hts i_PV hown hK hP 0 rfl rfl 3 (by decide) (hts _ wf_PV_31) (fun _ h9 => h9) rfl d_PV_spareLaw_12 ?_
          refine lv_iload_n hx hb d_PV_spareLaw_15 rfl (lv_at hl 0 rfl) ?_
          refine va_aldq hx hb hK hP 1 4 rfl rfl (vp_lit rfl) d_PV_spareLaw_16 ?_
          refine W.eq (g2 := F0 m 17 ls [.ref (q0 52)]) rfl ?_
          refine lv_aload_n hx hb d_PV_spareLaw_17 rfl (lv_at hl 1 rfl) ?_
          refine va_get (D := G.1) (ci := 0) (v := .ref (q0 4)) (C := R_PV) (T := T_PV) (N := 14) hx hb hts i_PV hown hK hP 0 rfl rfl 4 (by decide) (hts _ wf_PV_50) (fun _ h9 => h9) rfl d_PV_spareLaw_18 ?_
          refine va_get (D := G.1) (ci := 5) (v := .ref (r1 0)) (C := R_Mo) (T := T_Mo) (N := 13) hx hb hts i_Mo hown hK hP 5 rfl rfl 0 (by decide) (hts _ wf_PV_128) (fun _ h9 => h9) rfl d_PV_spareLaw_21 ?_
          refine lv_acmp_eq (rx := some (q0 52)) (ry := some (r1 0)) (tgt := 50) hx hb d_PV_spareLaw_24 (by decide) (fun c10 => ?_) (fun c10 => ?_)
          · have h := h.1 (Option.some.inj c10)
            refine lv_iinc (v := (3 : Int32)) (lv' := [(1, .int (3 : Int32)), (0, .ref h0)]) hx hb d_PV_spareLaw_50 hl (k := 0) rfl (by decide) (by decide) rfl (fun ls hl => ?_)
            refine lv_goto (tgt := 2) hx hb d_PV_spareLaw_53 (by decide) ?_
            refine lv_iload_n hx hb d_PV_spareLaw_2 rfl (lv_at hl 0 rfl) ?_
            refine lv_aload_n hx hb d_PV_spareLaw_3 rfl (lv_at hl 1 rfl) ?_
            refine va_get (D := G.1) (ci := 0) (v := .ref (q0 3)) (C := R_PV) (T := T_PV) (N := 14) hx hb hts i_PV hown hK hP 0 rfl rfl 3 (by decide) (hts _ wf_PV_31) (fun _ h9 => h9) rfl d_PV_spareLaw_4 ?_
            refine va_alen hx hb hK hP 1 4 rfl rfl (v := (3 : Int32)) rfl d_PV_spareLaw_7 ?_
            refine lv_icmp_ge (tgt := 56) hx hb d_PV_spareLaw_8 (by decide) (fun c11 => ?_) (fun c11 => ?_)
            · skip
              refine lv_aload_n hx hb d_PV_spareLaw_56 rfl (lv_at hl 1 rfl) ?_
              refine va_get (D := G.1) (ci := 0) (v := .ref (q0 3)) (C := R_PV) (T := T_PV) (N := 14) hx hb hts i_PV hown hK hP 0 rfl rfl 3 (by decide) (hts _ wf_PV_31) (fun _ h9 => h9) rfl d_PV_spareLaw_57 ?_
              refine lv_iconst (v := (0 : Int32)) hx hb d_PV_spareLaw_60 (by decide) ?_
              refine va_aldq hx hb hK hP 1 4 rfl rfl (vp_lit rfl) d_PV_spareLaw_61 ?_
              refine W.eq (g2 := F0 m 62 ls [.ref (q0 50)]) rfl ?_
              have hP : va_P G.1 CL (cw_PV G h0 q0 o0 ++ (cw_Mo G (q0 4) q1 r1 o1 ++ (cw_Mo G (q0 5) q2 r2 o2))) H := hP
              have hD : va_D A (cw_PV G h0 q0 o0 ++ (cw_Mo G (q0 4) q1 r1 o1 ++ (cw_Mo G (q0 5) q2 r2 o2))) := hD
              exact W.aret (v := .ref (q0 50)) hx hb hr (Or.inl ⟨_, rfl⟩) (Or.inr ⟨_, rfl⟩) (fun t ht hW => ⟨⟨((q0 50), ()), (q0 50), rfl, h, rfl, by rw [ht]; exact hP, va_K.moved hW.alike hK, hD⟩, hS.F ht⟩) hS.2.2 d_PV_spareLaw_62
            · exact absurd c11 (by decide)
          · have h := h.2 (fun q => c10 (congrArg some q))
            refine lv_aload_n hx hb d_PV_spareLaw_27 rfl (lv_at hl 1 rfl) ?_
            refine va_get (D := G.1) (ci := 0) (v := .ref (q0 3)) (C := R_PV) (T := T_PV) (N := 14) hx hb hts i_PV hown hK hP 0 rfl rfl 3 (by decide) (hts _ wf_PV_31) (fun _ h9 => h9) rfl d_PV_spareLaw_28 ?_
            refine lv_iload_n hx hb d_PV_spareLaw_31 rfl (lv_at hl 0 rfl) ?_
            refine va_aldq hx hb hK hP 1 4 rfl rfl (vp_lit rfl) d_PV_spareLaw_32 ?_
            refine W.eq (g2 := F0 m 33 ls [.ref (q0 52)]) rfl ?_
            refine lv_aload_n hx hb d_PV_spareLaw_33 rfl (lv_at hl 1 rfl) ?_
            refine va_get (D := G.1) (ci := 0) (v := .ref (q0 5)) (C := R_PV) (T := T_PV) (N := 14) hx hb hts i_PV hown hK hP 0 rfl rfl 5 (by decide) (hts _ wf_PV_54) (fun _ h9 => h9) rfl d_PV_spareLaw_34 ?_
            refine va_get (D := G.1) (ci := 5) (v := .ref (r2 0)) (C := R_Mo) (T := T_Mo) (N := 13) hx hb hts i_Mo hown hK hP 13 rfl rfl 0 (by decide) (hts _ wf_PV_128) (fun _ h9 => h9) rfl d_PV_spareLaw_37 ?_
            refine lv_acmp_eq (rx := some (q0 52)) (ry := some (r2 0)) (tgt := 50) hx hb d_PV_spareLaw_40 (by decide) (fun c12 => ?_) (fun c12 => ?_)
            · have h := h.1 (Option.some.inj c12)
              refine lv_iinc (v := (3 : Int32)) (lv' := [(1, .int (3 : Int32)), (0, .ref h0)]) hx hb d_PV_spareLaw_50 hl (k := 0) rfl (by decide) (by decide) rfl (fun ls hl => ?_)
              refine lv_goto (tgt := 2) hx hb d_PV_spareLaw_53 (by decide) ?_
              refine lv_iload_n hx hb d_PV_spareLaw_2 rfl (lv_at hl 0 rfl) ?_
              refine lv_aload_n hx hb d_PV_spareLaw_3 rfl (lv_at hl 1 rfl) ?_
              refine va_get (D := G.1) (ci := 0) (v := .ref (q0 3)) (C := R_PV) (T := T_PV) (N := 14) hx hb hts i_PV hown hK hP 0 rfl rfl 3 (by decide) (hts _ wf_PV_31) (fun _ h9 => h9) rfl d_PV_spareLaw_4 ?_
              refine va_alen hx hb hK hP 1 4 rfl rfl (v := (3 : Int32)) rfl d_PV_spareLaw_7 ?_
              refine lv_icmp_ge (tgt := 56) hx hb d_PV_spareLaw_8 (by decide) (fun c13 => ?_) (fun c13 => ?_)
              · skip
                refine lv_aload_n hx hb d_PV_spareLaw_56 rfl (lv_at hl 1 rfl) ?_
                refine va_get (D := G.1) (ci := 0) (v := .ref (q0 3)) (C := R_PV) (T := T_PV) (N := 14) hx hb hts i_PV hown hK hP 0 rfl rfl 3 (by decide) (hts _ wf_PV_31) (fun _ h9 => h9) rfl d_PV_spareLaw_57 ?_
                refine lv_iconst (v := (0 : Int32)) hx hb d_PV_spareLaw_60 (by decide) ?_
                refine va_aldq hx hb hK hP 1 4 rfl rfl (vp_lit rfl) d_PV_spareLaw_61 ?_
                refine W.eq (g2 := F0 m 62 ls [.ref (q0 50)]) rfl ?_
                have hP : va_P G.1 CL (cw_PV G h0 q0 o0 ++ (cw_Mo G (q0 4) q1 r1 o1 ++ (cw_Mo G (q0 5) q2 r2 o2))) H := hP
                have hD : va_D A (cw_PV G h0 q0 o0 ++ (cw_Mo G (q0 4) q1 r1 o1 ++ (cw_Mo G (q0 5) q2 r2 o2))) := hD
                exact W.aret (v := .ref (q0 50)) hx hb hr (Or.inl ⟨_, rfl⟩) (Or.inr ⟨_, rfl⟩) (fun t ht hW => ⟨⟨((q0 50), ()), (q0 50), rfl, h, rfl, by rw [ht]; exact hP, va_K.moved hW.alike hK, hD⟩, hS.F ht⟩) hS.2.2 d_PV_spareLaw_62
              · exact absurd c13 (by decide)
            · have h := h.2 (fun q => c12 (congrArg some q))
              refine lv_aload_n hx hb d_PV_spareLaw_43 rfl (lv_at hl 1 rfl) ?_
              refine va_get (D := G.1) (ci := 0) (v := .ref (q0 3)) (C := R_PV) (T := T_PV) (N := 14) hx hb hts i_PV hown hK hP 0 rfl rfl 3 (by decide) (hts _ wf_PV_31) (fun _ h9 => h9) rfl d_PV_spareLaw_44 ?_
              refine lv_iload_n hx hb d_PV_spareLaw_47 rfl (lv_at hl 0 rfl) ?_
              refine va_aldq hx hb hK hP 1 4 rfl rfl (vp_lit rfl) d_PV_spareLaw_48 ?_
              refine W.eq (g2 := F0 m 49 ls [.ref (q0 52)]) rfl ?_
              have hP : va_P G.1 CL (cw_PV G h0 q0 o0 ++ (cw_Mo G (q0 4) q1 r1 o1 ++ (cw_Mo G (q0 5) q2 r2 o2))) H := hP
              have hD : va_D A (cw_PV G h0 q0 o0 ++ (cw_Mo G (q0 4) q1 r1 o1 ++ (cw_Mo G (q0 5) q2 r2 o2))) := hD
              exact W.aret (v := .ref (q0 52)) hx hb hr (Or.inl ⟨_, rfl⟩) (Or.inr ⟨_, rfl⟩) (fun t ht hW => ⟨⟨((q0 52), ()), (q0 52), rfl, h, rfl, by rw [ht]; exact hP, va_K.moved hW.alike hK, hD⟩, hS.F ht⟩) hS.2.2 d_PV_spareLaw_49
      · have h := h.2 (fun q => c8 (congrArg some q))
        refine lv_aload_n hx hb d_PV_spareLaw_43 rfl (lv_at hl 1 rfl) ?_
        refine va_get (D := G.1) (ci := 0) (v := .ref (q0 3)) (C := R_PV) (T := T_PV) (N := 14) hx hb hts i_PV hown hK hP 0 rfl rfl 3 (by decide) (hts _ wf_PV_31) (fun _ h9 => h9) rfl d_PV_spareLaw_44 ?_
        refine lv_iload_n hx hb d_PV_spareLaw_47 rfl (lv_at hl 0 rfl) ?_
        refine va_aldq hx hb hK hP 1 4 rfl rfl (vp_lit rfl) d_PV_spareLaw_48 ?_
        refine W.eq (g2 := F0 m 49 ls [.ref (q0 51)]) rfl ?_
        have hP : va_P G.1 CL (cw_PV G h0 q0 o0 ++ (cw_Mo G (q0 4) q1 r1 o1 ++ (cw_Mo G (q0 5) q2 r2 o2))) H := hP
        have hD : va_D A (cw_PV G h0 q0 o0 ++ (cw_Mo G (q0 4) q1 r1 o1 ++ (cw_Mo G (q0 5) q2 r2 o2))) := hD
        exact W.aret (v := .ref (q0 51)) hx hb hr (Or.inl ⟨_, rfl⟩) (Or.inr ⟨_, rfl⟩) (fun t ht hW => ⟨⟨((q0 51), ()), (q0 51), rfl, h, rfl, by rw [ht]; exact hP, va_K.moved hW.alike hK, hD⟩, hS.F ht⟩) hS.2.2 d_PV_spareLaw_49
abbrev b_PV_text : ByteArray := prog_1_method_4_code
def y_PV_text : MethodName := ⟨R_PV, "text", "()I"⟩
abbrev w_PV_text : List Cond := Cond.code y_PV_text b_PV_text 3 (some .int) :: gw_tbl
theorem d_PV_text_0 : decode b_PV_text 0 = .ok (.aload_n 0, 1) := by decide +kernel
theorem d_PV_text_1 : decode b_PV_text 1 = .ok (.invokevirtual 111, 3) := by decide +kernel
theorem d_PV_text_4 : decode b_PV_text 4 = .ok (.astore_n 1, 1) := by decide +kernel
theorem d_PV_text_5 : decode b_PV_text 5 = .ok (.aload_n 0, 1) := by decide +kernel
theorem d_PV_text_6 : decode b_PV_text 6 = .ok (.getfield 41, 3) := by decide +kernel
theorem d_PV_text_9 : decode b_PV_text 9 = .ok (.aload_n 1, 1) := by decide +kernel
theorem d_PV_text_10 : decode b_PV_text 10 = .ok (.invokevirtual 115, 3) := by decide +kernel
theorem d_PV_text_13 : decode b_PV_text 13 = .ok (.iconst 0, 1) := by decide +kernel
theorem d_PV_text_14 : decode b_PV_text 14 = .ok (.istore_n 2, 1) := by decide +kernel
theorem d_PV_text_15 : decode b_PV_text 15 = .ok (.iload_n 2, 1) := by decide +kernel
theorem d_PV_text_16 : decode b_PV_text 16 = .ok (.sipush 400, 3) := by decide +kernel
theorem d_PV_text_19 : decode b_PV_text 19 = .ok (.if_icmp .ge 26, 3) := by decide +kernel
theorem d_PV_text_22 : decode b_PV_text 22 = .ok (.aload_n 0, 1) := by decide +kernel
theorem d_PV_text_23 : decode b_PV_text 23 = .ok (.getfield 41, 3) := by decide +kernel
theorem d_PV_text_26 : decode b_PV_text 26 = .ok (.invokevirtual 118, 3) := by decide +kernel
theorem d_PV_text_29 : decode b_PV_text 29 = .ok (.ifCond .eq 16, 3) := by decide +kernel
theorem d_PV_text_32 : decode b_PV_text 32 = .ok (.aload_n 0, 1) := by decide +kernel
theorem d_PV_text_33 : decode b_PV_text 33 = .ok (.getfield 41, 3) := by decide +kernel
theorem d_PV_text_36 : decode b_PV_text 36 = .ok (.invokevirtual 122, 3) := by decide +kernel
theorem d_PV_text_39 : decode b_PV_text 39 = .ok (.iinc 2 1, 3) := by decide +kernel
theorem d_PV_text_42 : decode b_PV_text 42 = .ok (.goto (-27), 3) := by decide +kernel
theorem d_PV_text_45 : decode b_PV_text 45 = .ok (.aload_n 0, 1) := by decide +kernel
theorem d_PV_text_46 : decode b_PV_text 46 = .ok (.getfield 25, 3) := by decide +kernel
theorem d_PV_text_49 : decode b_PV_text 49 = .ok (.iconst 0, 1) := by decide +kernel
theorem d_PV_text_50 : decode b_PV_text 50 = .ok (.putfield 105, 3) := by decide +kernel
theorem d_PV_text_53 : decode b_PV_text 53 = .ok (.aload_n 0, 1) := by decide +kernel
theorem d_PV_text_54 : decode b_PV_text 54 = .ok (.getfield 41, 3) := by decide +kernel
theorem d_PV_text_57 : decode b_PV_text 57 = .ok (.getfield 125, 3) := by decide +kernel
theorem d_PV_text_60 : decode b_PV_text 60 = .ok (.ifCond .eq 5, 3) := by decide +kernel
theorem d_PV_text_63 : decode b_PV_text 63 = .ok (.iconst (-1), 1) := by decide +kernel
theorem d_PV_text_64 : decode b_PV_text 64 = .ok (.ireturn, 1) := by decide +kernel
theorem d_PV_text_65 : decode b_PV_text 65 = .ok (.aload_n 0, 1) := by decide +kernel
theorem d_PV_text_66 : decode b_PV_text 66 = .ok (.getfield 50, 3) := by decide +kernel
theorem d_PV_text_69 : decode b_PV_text 69 = .ok (.aload_n 1, 1) := by decide +kernel
theorem d_PV_text_70 : decode b_PV_text 70 = .ok (.putfield 128, 3) := by decide +kernel
theorem d_PV_text_73 : decode b_PV_text 73 = .ok (.aload_n 0, 1) := by decide +kernel
theorem d_PV_text_74 : decode b_PV_text 74 = .ok (.getfield 50, 3) := by decide +kernel
theorem d_PV_text_77 : decode b_PV_text 77 = .ok (.iconst 0, 1) := by decide +kernel
theorem d_PV_text_78 : decode b_PV_text 78 = .ok (.putfield 132, 3) := by decide +kernel
theorem d_PV_text_81 : decode b_PV_text 81 = .ok (.aload_n 1, 1) := by decide +kernel
theorem d_PV_text_82 : decode b_PV_text 82 = .ok (.getfield 135, 3) := by decide +kernel
theorem d_PV_text_85 : decode b_PV_text 85 = .ok (.ireturn, 1) := by decide +kernel
theorem wv_PV_111 : wV R_PV 111 y_PV_spareLaw b_PV_spareLaw 2 (some (.object "PipeVoice$Law")) 0 := ⟨⟨gw_tb (List.mem_of_getElem? (i := 497) (by decide +kernel)) rfl, gw_tb (List.mem_of_getElem? (i := 1) (by decide +kernel)) rfl, gw_tb (List.mem_of_getElem? (i := 500) (by decide +kernel)) rfl, by decide, by decide, by decide +kernel⟩, gw_tb (List.mem_of_getElem? (i := 499) (by decide +kernel)) rfl, gw_of (List.mem_append_left _ (List.mem_of_getElem? (i := 0) (by decide +kernel))) rfl⟩
theorem wv_PV_115 : wV R_PV 115 y_Re_begin b_Re_begin 2 none 1 := ⟨⟨gw_tb (List.mem_of_getElem? (i := 501) (by decide +kernel)) rfl, gw_tb (List.mem_of_getElem? (i := 5) (by decide +kernel)) rfl, gw_tb (List.mem_of_getElem? (i := 504) (by decide +kernel)) rfl, by decide, by decide, by decide +kernel⟩, gw_tb (List.mem_of_getElem? (i := 502) (by decide +kernel)) rfl, gw_tb (List.mem_of_getElem? (i := 503) (by decide +kernel)) rfl⟩
theorem wv_PV_118 : wV R_PV 118 y_Re_goesOn b_Re_goesOn 1 (some .boolean) 0 := ⟨⟨gw_tb (List.mem_of_getElem? (i := 518) (by decide +kernel)) rfl, gw_tb (List.mem_of_getElem? (i := 5) (by decide +kernel)) rfl, gw_tb (List.mem_of_getElem? (i := 521) (by decide +kernel)) rfl, by decide, by decide, by decide +kernel⟩, gw_tb (List.mem_of_getElem? (i := 519) (by decide +kernel)) rfl, gw_tb (List.mem_of_getElem? (i := 520) (by decide +kernel)) rfl⟩
theorem wv_PV_122 : wV R_PV 122 y_Re_readClause b_Re_readClause 1 none 0 := ⟨⟨gw_tb (List.mem_of_getElem? (i := 522) (by decide +kernel)) rfl, gw_tb (List.mem_of_getElem? (i := 5) (by decide +kernel)) rfl, gw_tb (List.mem_of_getElem? (i := 525) (by decide +kernel)) rfl, by decide, by decide, by decide +kernel⟩, gw_tb (List.mem_of_getElem? (i := 523) (by decide +kernel)) rfl, gw_tb (List.mem_of_getElem? (i := 524) (by decide +kernel)) rfl⟩
theorem wf_PV_135 : Cond.fieldLink R_PV 135 R_La "clauses" "I" ∈ gw_tbl := gw_tb (List.mem_of_getElem? (i := 80) (by decide +kernel)) rfl
def f_PV_text_45 (q0 : Nat → Nat) (h5 : Nat) (o0 : Ob) (r1 : (Nat → Nat)) (r4 : (Nat → Nat)) (o4 : Ob) (Q : Int32 → Ob → Ob → (Nat → Nat) → Ob → Ob → Prop) (o1 : Ob) (o2 : Ob) (r3 : (Nat → Nat)) (o3 : Ob) (o5 : Ob) : Prop := ((gI o1 9) = 0 → (Q (gI o5 4) o1 (sI o2 1 (0 : Int32)) (up r3 0 h5) (sI o3 2 (0 : Int32)) o5)) ∧ (¬ (gI o1 9) = 0 → (Q (-1 : Int32) o1 (sI o2 1 (0 : Int32)) r3 o3 o5))
def f_PV_text_15 (q0 : Nat → Nat) (h5 : Nat) (o0 : Ob) (r1 : (Nat → Nat)) (r4 : (Nat → Nat)) (o4 : Ob) (Q : Int32 → Ob → Ob → (Nat → Nat) → Ob → Ob → Prop) : Nat → Int32 → Ob → Ob → (Nat → Nat) → Ob → Ob → Prop
  | 0, _, _, _, _, _, _ => False
  | n + 1, x2, o1, o2, r3, o3, o5 => ((400 : Int32) ≤ x2 → (f_PV_text_45 q0 h5 o0 r1 r4 o4 Q o1 o2 r3 o3 o5)) ∧ (¬ (400 : Int32) ≤ x2 → (f_Re_goesOn (up r1 2 h5) o1 (fun z3 => (z3 = 0 → (f_PV_text_45 q0 h5 o0 r1 r4 o4 Q o1 o2 r3 o3 o5)) ∧ (¬ z3 = 0 → (f_Re_readClause (up r1 2 h5) o1 o2 o5 (fun u5 u6 => (f_PV_text_15 q0 h5 o0 r1 r4 o4 Q n) (x2 + (1 : Int32)) u5 o2 r3 o3 u6))))))
def f_PV_text (q0 : Nat → Nat) (h5 : Nat) (o0 : Ob) (r1 : (Nat → Nat)) (o1 : Ob) (o2 : Ob) (r3 : (Nat → Nat)) (o3 : Ob) (r4 : (Nat → Nat)) (o4 : Ob) (o5 : Ob) (Q : Int32 → Ob → Ob → (Nat → Nat) → Ob → Ob → Prop) : Prop := f_PV_spareLaw q0 o0 r3 o3 r4 o4 (fun z7 => (z7 = h5) ∧ (f_Re_begin h5 r1 o1 o2 o5 (fun u9 u10 => (∃ w, f_PV_text_15 q0 h5 o0 r1 r4 o4 Q w (0 : Int32) u9 o2 r3 o3 u10))))
abbrev rm_PV_text : Room := { frames := 9, cells := 0, slots := 0, locals := 194 }
set_option maxHeartbeats 4000000 in
set_option maxRecDepth 100000 in
theorem t_PV_text_45 {p : Program} {l : Launch} {e : Env} {s : State} {m : MethodId} {args : Array Value} {below : List Frame} {meth : Method} {c : Code} {A : Nat → Prop} {G : Gl} {h0 : Nat} {q1 : Nat → Nat} {q2 : Nat → Nat} {q3 : Nat → Nat} {q4 : Nat → Nat} {q5 : Nat → Nat} (q0 : Nat → Nat) (h5 : Nat) (o0 : Ob) (r1 : (Nat → Nat)) (r4 : (Nat → Nat)) (o4 : Ob) (Q : Int32 → Ob → Ob → (Nat → Nat) → Ob → Ob → Prop) (C : Cx p s m args meth c R_PV b_PV_text 3 (some .int) G A) (hqa : q0 1 = q1 0) :
    ∀ (o1 : Ob) (o2 : Ob) (r3 : (Nat → Nat)) (o3 : Ob) (o5 : Ob) (ls : Array Slot) (H : Heap) (locs : List Loc), lv_has ls 3 [(0, .ref h0), (1, .ref h5)] → va_P G.1 CL (cw_PV G h0 q0 o0 ++ (cw_Re G (q0 2) q1 (up r1 2 h5) o1 ++ (cw_Ta G (q1 0) q2 o2 ++ (cw_Mo G (q0 4) q3 r3 o3 ++ (cw_Mo G (q0 5) q4 r4 o4 ++ (cw_La G h5 q5 o5)))))) H → va_D A (cw_PV G h0 q0 o0 ++ (cw_Re G (q0 2) q1 (up r1 2 h5) o1 ++ (cw_Ta G (q1 0) q2 o2 ++ (cw_Mo G (q0 4) q3 r3 o3 ++ (cw_Mo G (q0 5) q4 r4 o4 ++ (cw_La G h5 q5 o5)))))) → va_S A s.heap H locs → f_PV_text_45 q0 h5 o0 r1 r4 o4 Q o1 o2 r3 o3 o5 → W p l e rm_PV_text s m args below meth c H locs 0 0 (MQ below (va_Qi (fun (r : Int32) (u : Ob × Ob × (Nat → Nat) × Ob × Ob) => Q r u.1 u.2.1 u.2.2.1 u.2.2.2.1 u.2.2.2.2) (fun (u : Ob × Ob × (Nat → Nat) × Ob × Ob) t => BW G A (cw_PV G h0 q0 o0 ++ (cw_Re G (q0 2) q1 (up r1 2 h5) u.1 ++ (cw_Ta G (q1 0) q2 u.2.1 ++ (cw_Mo G (q0 4) q3 u.2.2.1 u.2.2.2.1 ++ (cw_Mo G (q0 5) q4 r4 o4 ++ (cw_La G h5 q5 u.2.2.2.2)))))) t) A) args s 0 0 A) (F0 m 45 ls []) := by
  obtain ⟨hx, hb, hml, hown, hr, hts, hK, hA, hlocks, hE⟩ := id C
  intro o1 o2 r3 o3 o5 ls H locs hl hP hD hS h
  have hP : va_P G.1 CL [(h0, .inr (0, [.int (gI o0 0), .ref (q0 1), .ref (q0 2), .ref (q0 3), .ref (q0 4), .ref (q0 5), .ref (q0 6), .ref (q0 7), .ref (q0 8), .ref (q0 9), .ref (q0 10), .ref (q0 11), .ref (q0 12), .ref (q0 13)])), kQ G (q0 3) 3 (fun i => some (q0 (50 + i))), kI G (q0 6) 1000 (gA o0 6), kJ G (q0 7) 2000 (gB o0 7), kI G (q0 13) 5 (gA o0 13), ((q0 2), .inr (7, [.ref (q1 0), .int (gI o1 1), .ref h5, .int (gI o1 3), .int (gI o1 4), .int (gI o1 5), .int (gI o1 6), .int (gI o1 7), .int (gI o1 8), .int (gI o1 9), .int (gI o1 10)])), ((q1 0), .inr (10, [.ref (q2 0), .int (gI o2 1)])), kB G (q2 0) 400 (gA o2 0), ((q0 4), .inr (5, [.ref (r3 0), .int (gI o3 1), .int (gI o3 2), .ref (q3 3), .ref (q3 4), .ref (q3 5), .ref (q3 6), .ref (q3 7), .ref (q3 8), .ref (q3 9), .ref (q3 10), .int (gI o3 11), .int (gI o3 12)])), kI G (q3 3) 20 (gA o3 3), kI G (q3 4) 20 (gA o3 4), kI G (q3 5) 5 (gA o3 5), kJ G (q3 6) 5 (gB o3 6), kJ G (q3 7) 5 (gB o3 7), kJ G (q3 8) 6 (gB o3 8), kI G (q3 10) 5 (gA o3 10), ((q0 5), .inr (5, [.ref (r4 0), .int (gI o4 1), .int (gI o4 2), .ref (q4 3), .ref (q4 4), .ref (q4 5), .ref (q4 6), .ref (q4 7), .ref (q4 8), .ref (q4 9), .ref (q4 10), .int (gI o4 11), .int (gI o4 12)])), kI G (q4 3) 20 (gA o4 3), kI G (q4 4) 20 (gA o4 4), kI G (q4 5) 5 (gA o4 5), kJ G (q4 6) 5 (gB o4 6), kJ G (q4 7) 5 (gB o4 7), kJ G (q4 8) 6 (gB o4 8), kI G (q4 10) 5 (gA o4 10), (h5, .inr (3, [.ref (q5 0), .int (gI o5 1), .int (gI o5 2), .int (gI o5 3), .int (gI o5 4), .int (gI o5 5), .ref (q5 6), .ref (q5 7), .ref (q5 8), .ref (q5 9), .ref (q5 10), .ref (q5 11), .ref (q5 12), .ref (q5 13), .ref (q5 14)])), kI G (q5 0) 5 (gA o5 0), kI G (q5 6) 20 (gA o5 6), kI G (q5 7) 20 (gA o5 7), kI G (q5 8) 20 (gA o5 8), kI G (q5 9) 20 (gA o5 9), kI G (q5 10) 20 (gA o5 10), kI G (q5 11) 20 (gA o5 11), kI G (q5 12) 8 (gA o5 12), kI G (q5 13) 64 (gA o5 13), kI G (q5 14) 64 (gA o5 14)] H := hP
  have hD : va_D A [(h0, .inr (0, [.int (gI o0 0), .ref (q0 1), .ref (q0 2), .ref (q0 3), .ref (q0 4), .ref (q0 5), .ref (q0 6), .ref (q0 7), .ref (q0 8), .ref (q0 9), .ref (q0 10), .ref (q0 11), .ref (q0 12), .ref (q0 13)])), kQ G (q0 3) 3 (fun i => some (q0 (50 + i))), kI G (q0 6) 1000 (gA o0 6), kJ G (q0 7) 2000 (gB o0 7), kI G (q0 13) 5 (gA o0 13), ((q0 2), .inr (7, [.ref (q1 0), .int (gI o1 1), .ref h5, .int (gI o1 3), .int (gI o1 4), .int (gI o1 5), .int (gI o1 6), .int (gI o1 7), .int (gI o1 8), .int (gI o1 9), .int (gI o1 10)])), ((q1 0), .inr (10, [.ref (q2 0), .int (gI o2 1)])), kB G (q2 0) 400 (gA o2 0), ((q0 4), .inr (5, [.ref (r3 0), .int (gI o3 1), .int (gI o3 2), .ref (q3 3), .ref (q3 4), .ref (q3 5), .ref (q3 6), .ref (q3 7), .ref (q3 8), .ref (q3 9), .ref (q3 10), .int (gI o3 11), .int (gI o3 12)])), kI G (q3 3) 20 (gA o3 3), kI G (q3 4) 20 (gA o3 4), kI G (q3 5) 5 (gA o3 5), kJ G (q3 6) 5 (gB o3 6), kJ G (q3 7) 5 (gB o3 7), kJ G (q3 8) 6 (gB o3 8), kI G (q3 10) 5 (gA o3 10), ((q0 5), .inr (5, [.ref (r4 0), .int (gI o4 1), .int (gI o4 2), .ref (q4 3), .ref (q4 4), .ref (q4 5), .ref (q4 6), .ref (q4 7), .ref (q4 8), .ref (q4 9), .ref (q4 10), .int (gI o4 11), .int (gI o4 12)])), kI G (q4 3) 20 (gA o4 3), kI G (q4 4) 20 (gA o4 4), kI G (q4 5) 5 (gA o4 5), kJ G (q4 6) 5 (gB o4 6), kJ G (q4 7) 5 (gB o4 7), kJ G (q4 8) 6 (gB o4 8), kI G (q4 10) 5 (gA o4 10), (h5, .inr (3, [.ref (q5 0), .int (gI o5 1), .int (gI o5 2), .int (gI o5 3), .int (gI o5 4), .int (gI o5 5), .ref (q5 6), .ref (q5 7), .ref (q5 8), .ref (q5 9), .ref (q5 10), .ref (q5 11), .ref (q5 12), .ref (q5 13), .ref (q5 14)])), kI G (q5 0) 5 (gA o5 0), kI G (q5 6) 20 (gA o5 6), kI G (q5 7) 20 (gA o5 7), kI G (q5 8) 20 (gA o5 8), kI G (q5 9) 20 (gA o5 9), kI G (q5 10) 20 (gA o5 10), kI G (q5 11) 20 (gA o5 11), kI G (q5 12) 8 (gA o5 12), kI G (q5 13) 64 (gA o5 13), kI G (q5 14) 64 (gA o5 14)] := hD
  unfold f_PV_text_45 at h
  refine lv_aload_n hx hb d_PV_text_45 rfl (lv_at hl 0 rfl) ?_
  refine va_get (D := G.1) (ci := 0) (v := .ref (q0 1)) (C := R_PV) (T := T_PV) (N := 14) hx hb hts i_PV hown hK hP 0 rfl rfl 1 (by decide) (hts _ wf_PV_25) (fun _ h9 => h9) rfl d_PV_text_46 ?_
  refine W.eq (g2 := F0 m 49 ls [.ref (q1 0)]) (by rw [hqa]) ?_
  refine lv_iconst (v := (0 : Int32)) hx hb d_PV_text_49 (by decide) ?_
  refine va_put (D := G.1) (ci := 10) (v := .int (0 : Int32)) (ty := .int) (C := R_Ta) (T := T_Ta) (N := 2) hx hb hts i_Ta ty_Ta ty_Ta_ok nm_Ta hown hK hP hD hS 6 rfl rfl 1 (by decide) (hts _ wf_PV_105) (fun _ h9 => h9) rfl (ty_Ta_ok 1 (by decide)) rfl rfl (Nat.le_of_ble_eq_true rfl) d_PV_text_50 (fun H locs hP hD hS => ?_)
  have hP : va_P G.1 CL [(h0, .inr (0, [.int (gI o0 0), .ref (q0 1), .ref (q0 2), .ref (q0 3), .ref (q0 4), .ref (q0 5), .ref (q0 6), .ref (q0 7), .ref (q0 8), .ref (q0 9), .ref (q0 10), .ref (q0 11), .ref (q0 12), .ref (q0 13)])), kQ G (q0 3) 3 (fun i => some (q0 (50 + i))), kI G (q0 6) 1000 (gA o0 6), kJ G (q0 7) 2000 (gB o0 7), kI G (q0 13) 5 (gA o0 13), ((q0 2), .inr (7, [.ref (q1 0), .int (gI o1 1), .ref h5, .int (gI o1 3), .int (gI o1 4), .int (gI o1 5), .int (gI o1 6), .int (gI o1 7), .int (gI o1 8), .int (gI o1 9), .int (gI o1 10)])), ((q1 0), .inr (10, [.ref (q2 0), .int (0 : Int32)])), kB G (q2 0) 400 (gA o2 0), ((q0 4), .inr (5, [.ref (r3 0), .int (gI o3 1), .int (gI o3 2), .ref (q3 3), .ref (q3 4), .ref (q3 5), .ref (q3 6), .ref (q3 7), .ref (q3 8), .ref (q3 9), .ref (q3 10), .int (gI o3 11), .int (gI o3 12)])), kI G (q3 3) 20 (gA o3 3), kI G (q3 4) 20 (gA o3 4), kI G (q3 5) 5 (gA o3 5), kJ G (q3 6) 5 (gB o3 6), kJ G (q3 7) 5 (gB o3 7), kJ G (q3 8) 6 (gB o3 8), kI G (q3 10) 5 (gA o3 10), ((q0 5), .inr (5, [.ref (r4 0), .int (gI o4 1), .int (gI o4 2), .ref (q4 3), .ref (q4 4), .ref (q4 5), .ref (q4 6), .ref (q4 7), .ref (q4 8), .ref (q4 9), .ref (q4 10), .int (gI o4 11), .int (gI o4 12)])), kI G (q4 3) 20 (gA o4 3), kI G (q4 4) 20 (gA o4 4), kI G (q4 5) 5 (gA o4 5), kJ G (q4 6) 5 (gB o4 6), kJ G (q4 7) 5 (gB o4 7), kJ G (q4 8) 6 (gB o4 8), kI G (q4 10) 5 (gA o4 10), (h5, .inr (3, [.ref (q5 0), .int (gI o5 1), .int (gI o5 2), .int (gI o5 3), .int (gI o5 4), .int (gI o5 5), .ref (q5 6), .ref (q5 7), .ref (q5 8), .ref (q5 9), .ref (q5 10), .ref (q5 11), .ref (q5 12), .ref (q5 13), .ref (q5 14)])), kI G (q5 0) 5 (gA o5 0), kI G (q5 6) 20 (gA o5 6), kI G (q5 7) 20 (gA o5 7), kI G (q5 8) 20 (gA o5 8), kI G (q5 9) 20 (gA o5 9), kI G (q5 10) 20 (gA o5 10), kI G (q5 11) 20 (gA o5 11), kI G (q5 12) 8 (gA o5 12), kI G (q5 13) 64 (gA o5 13), kI G (q5 14) 64 (gA o5 14)] H := hP
  have hD : va_D A [(h0, .inr (0, [.int (gI o0 0), .ref (q0 1), .ref (q0 2), .ref (q0 3), .ref (q0 4), .ref (q0 5), .ref (q0 6), .ref (q0 7), .ref (q0 8), .ref (q0 9), .ref (q0 10), .ref (q0 11), .ref (q0 12), .ref (q0 13)])), kQ G (q0 3) 3 (fun i => some (q0 (50 + i))), kI G (q0 6) 1000 (gA o0 6), kJ G (q0 7) 2000 (gB o0 7), kI G (q0 13) 5 (gA o0 13), ((q0 2), .inr (7, [.ref (q1 0), .int (gI o1 1), .ref h5, .int (gI o1 3), .int (gI o1 4), .int (gI o1 5), .int (gI o1 6), .int (gI o1 7), .int (gI o1 8), .int (gI o1 9), .int (gI o1 10)])), ((q1 0), .inr (10, [.ref (q2 0), .int (0 : Int32)])), kB G (q2 0) 400 (gA o2 0), ((q0 4), .inr (5, [.ref (r3 0), .int (gI o3 1), .int (gI o3 2), .ref (q3 3), .ref (q3 4), .ref (q3 5), .ref (q3 6), .ref (q3 7), .ref (q3 8), .ref (q3 9), .ref (q3 10), .int (gI o3 11), .int (gI o3 12)])), kI G (q3 3) 20 (gA o3 3), kI G (q3 4) 20 (gA o3 4), kI G (q3 5) 5 (gA o3 5), kJ G (q3 6) 5 (gB o3 6), kJ G (q3 7) 5 (gB o3 7), kJ G (q3 8) 6 (gB o3 8), kI G (q3 10) 5 (gA o3 10), ((q0 5), .inr (5, [.ref (r4 0), .int (gI o4 1), .int (gI o4 2), .ref (q4 3), .ref (q4 4), .ref (q4 5), .ref (q4 6), .ref (q4 7), .ref (q4 8), .ref (q4 9), .ref (q4 10), .int (gI o4 11), .int (gI o4 12)])), kI G (q4 3) 20 (gA o4 3), kI G (q4 4) 20 (gA o4 4), kI G (q4 5) 5 (gA o4 5), kJ G (q4 6) 5 (gB o4 6), kJ G (q4 7) 5 (gB o4 7), kJ G (q4 8) 6 (gB o4 8), kI G (q4 10) 5 (gA o4 10), (h5, .inr (3, [.ref (q5 0), .int (gI o5 1), .int (gI o5 2), .int (gI o5 3), .int (gI o5 4), .int (gI o5 5), .ref (q5 6), .ref (q5 7), .ref (q5 8), .ref (q5 9), .ref (q5 10), .ref (q5 11), .ref (q5 12), .ref (q5 13), .ref (q5 14)])), kI G (q5 0) 5 (gA o5 0), kI G (q5 6) 20 (gA o5 6), kI G (q5 7) 20 (gA o5 7), kI G (q5 8) 20 (gA o5 8), kI G (q5 9) 20 (gA o5 9), kI G (q5 10) 20 (gA o5 10), kI G (q5 11) 20 (gA o5 11), kI G (q5 12) 8 (gA o5 12), kI G (q5 13) 64 (gA o5 13), kI G (q5 14) 64 (gA o5 14)] := hD
  refine lv_aload_n hx hb d_PV_text_53 rfl (lv_at hl 0 rfl) ?_
  refine va_get (D := G.1) (ci := 0) (v := .ref (q0 2)) (C := R_PV) (T := T_PV) (N := 14) hx hb hts i_PV hown hK hP 0 rfl rfl 2 (by decide) (hts _ wf_PV_41) (fun _ h9 => h9) rfl d_PV_text_54 ?_
  refine va_get (D := G.1) (ci := 7) (v := .int (gI o1 9)) (C := R_Re) (T := T_Re) (N := 11) hx hb hts i_Re hown hK hP 5 rfl rfl 9 (by decide) (hts _ wf_PV_125) (fun _ h9 => h9) rfl d_PV_text_57 ?_
  refine lv_if_eq (tgt := 65) hx hb d_PV_text_60 (by decide) (fun c1 => ?_) (fun c1 => ?_)
  · have h := h.1 c1
    refine lv_aload_n hx hb d_PV_text_65 rfl (lv_at hl 0 rfl) ?_
    refine va_get (D := G.1) (ci := 0) (v := .ref (q0 4)) (C := R_PV) (T := T_PV) (N := 14) hx hb hts i_PV hown hK hP 0 rfl rfl 4 (by decide) (hts _ wf_PV_50) (fun _ h9 => h9) rfl d_PV_text_66 ?_
    refine lv_aload_n hx hb d_PV_text_69 rfl (lv_at hl 1 rfl) ?_
    refine va_put (D := G.1) (ci := 5) (v := .ref h5) (ty := (.object "PipeVoice$Law")) (C := R_Mo) (T := T_Mo) (N := 13) hx hb hts i_Mo ty_Mo ty_Mo_ok nm_Mo hown hK hP hD hS 8 rfl rfl 0 (by decide) (hts _ wf_PV_128) (fun _ h9 => h9) rfl (ty_Mo_ok 0 (by decide)) rfl rfl (Nat.le_of_ble_eq_true rfl) d_PV_text_70 (fun H locs hP hD hS => ?_)
    have hP : va_P G.1 CL [(h0, .inr (0, [.int (gI o0 0), .ref (q0 1), .ref (q0 2), .ref (q0 3), .ref (q0 4), .ref (q0 5), .ref (q0 6), .ref (q0 7), .ref (q0 8), .ref (q0 9), .ref (q0 10), .ref (q0 11), .ref (q0 12), .ref (q0 13)])), kQ G (q0 3) 3 (fun i => some (q0 (50 + i))), kI G (q0 6) 1000 (gA o0 6), kJ G (q0 7) 2000 (gB o0 7), kI G (q0 13) 5 (gA o0 13), ((q0 2), .inr (7, [.ref (q1 0), .int (gI o1 1), .ref h5, .int (gI o1 3), .int (gI o1 4), .int (gI o1 5), .int (gI o1 6), .int (gI o1 7), .int (gI o1 8), .int (gI o1 9), .int (gI o1 10)])), ((q1 0), .inr (10, [.ref (q2 0), .int (0 : Int32)])), kB G (q2 0) 400 (gA o2 0), ((q0 4), .inr (5, [.ref h5, .int (gI o3 1), .int (gI o3 2), .ref (q3 3), .ref (q3 4), .ref (q3 5), .ref (q3 6), .ref (q3 7), .ref (q3 8), .ref (q3 9), .ref (q3 10), .int (gI o3 11), .int (gI o3 12)])), kI G (q3 3) 20 (gA o3 3), kI G (q3 4) 20 (gA o3 4), kI G (q3 5) 5 (gA o3 5), kJ G (q3 6) 5 (gB o3 6), kJ G (q3 7) 5 (gB o3 7), kJ G (q3 8) 6 (gB o3 8), kI G (q3 10) 5 (gA o3 10), ((q0 5), .inr (5, [.ref (r4 0), .int (gI o4 1), .int (gI o4 2), .ref (q4 3), .ref (q4 4), .ref (q4 5), .ref (q4 6), .ref (q4 7), .ref (q4 8), .ref (q4 9), .ref (q4 10), .int (gI o4 11), .int (gI o4 12)])), kI G (q4 3) 20 (gA o4 3), kI G (q4 4) 20 (gA o4 4), kI G (q4 5) 5 (gA o4 5), kJ G (q4 6) 5 (gB o4 6), kJ G (q4 7) 5 (gB o4 7), kJ G (q4 8) 6 (gB o4 8), kI G (q4 10) 5 (gA o4 10), (h5, .inr (3, [.ref (q5 0), .int (gI o5 1), .int (gI o5 2), .int (gI o5 3), .int (gI o5 4), .int (gI o5 5), .ref (q5 6), .ref (q5 7), .ref (q5 8), .ref (q5 9), .ref (q5 10), .ref (q5 11), .ref (q5 12), .ref (q5 13), .ref (q5 14)])), kI G (q5 0) 5 (gA o5 0), kI G (q5 6) 20 (gA o5 6), kI G (q5 7) 20 (gA o5 7), kI G (q5 8) 20 (gA o5 8), kI G (q5 9) 20 (gA o5 9), kI G (q5 10) 20 (gA o5 10), kI G (q5 11) 20 (gA o5 11), kI G (q5 12) 8 (gA o5 12), kI G (q5 13) 64 (gA o5 13), kI G (q5 14) 64 (gA o5 14)] H := hP
    have hD : va_D A [(h0, .inr (0, [.int (gI o0 0), .ref (q0 1), .ref (q0 2), .ref (q0 3), .ref (q0 4), .ref (q0 5), .ref (q0 6), .ref (q0 7), .ref (q0 8), .ref (q0 9), .ref (q0 10), .ref (q0 11), .ref (q0 12), .ref (q0 13)])), kQ G (q0 3) 3 (fun i => some (q0 (50 + i))), kI G (q0 6) 1000 (gA o0 6), kJ G (q0 7) 2000 (gB o0 7), kI G (q0 13) 5 (gA o0 13), ((q0 2), .inr (7, [.ref (q1 0), .int (gI o1 1), .ref h5, .int (gI o1 3), .int (gI o1 4), .int (gI o1 5), .int (gI o1 6), .int (gI o1 7), .int (gI o1 8), .int (gI o1 9), .int (gI o1 10)])), ((q1 0), .inr (10, [.ref (q2 0), .int (0 : Int32)])), kB G (q2 0) 400 (gA o2 0), ((q0 4), .inr (5, [.ref h5, .int (gI o3 1), .int (gI o3 2), .ref (q3 3), .ref (q3 4), .ref (q3 5), .ref (q3 6), .ref (q3 7), .ref (q3 8), .ref (q3 9), .ref (q3 10), .int (gI o3 11), .int (gI o3 12)])), kI G (q3 3) 20 (gA o3 3), kI G (q3 4) 20 (gA o3 4), kI G (q3 5) 5 (gA o3 5), kJ G (q3 6) 5 (gB o3 6), kJ G (q3 7) 5 (gB o3 7), kJ G (q3 8) 6 (gB o3 8), kI G (q3 10) 5 (gA o3 10), ((q0 5), .inr (5, [.ref (r4 0), .int (gI o4 1), .int (gI o4 2), .ref (q4 3), .ref (q4 4), .ref (q4 5), .ref (q4 6), .ref (q4 7), .ref (q4 8), .ref (q4 9), .ref (q4 10), .int (gI o4 11), .int (gI o4 12)])), kI G (q4 3) 20 (gA o4 3), kI G (q4 4) 20 (gA o4 4), kI G (q4 5) 5 (gA o4 5), kJ G (q4 6) 5 (gB o4 6), kJ G (q4 7) 5 (gB o4 7), kJ G (q4 8) 6 (gB o4 8), kI G (q4 10) 5 (gA o4 10), (h5, .inr (3, [.ref (q5 0), .int (gI o5 1), .int (gI o5 2), .int (gI o5 3), .int (gI o5 4), .int (gI o5 5), .ref (q5 6), .ref (q5 7), .ref (q5 8), .ref (q5 9), .ref (q5 10), .ref (q5 11), .ref (q5 12), .ref (q5 13), .ref (q5 14)])), kI G (q5 0) 5 (gA o5 0), kI G (q5 6) 20 (gA o5 6), kI G (q5 7) 20 (gA o5 7), kI G (q5 8) 20 (gA o5 8), kI G (q5 9) 20 (gA o5 9), kI G (q5 10) 20 (gA o5 10), kI G (q5 11) 20 (gA o5 11), kI G (q5 12) 8 (gA o5 12), kI G (q5 13) 64 (gA o5 13), kI G (q5 14) 64 (gA o5 14)] := hD
    refine lv_aload_n hx hb d_PV_text_73 rfl (lv_at hl 0 rfl) ?_
    refine va_get (D := G.1) (ci := 0) (v := .ref (q0 4)) (C := R_PV) (T := T_PV) (N := 14) hx hb hts i_PV hown hK hP 0 rfl rfl 4 (by decide) (hts _ wf_PV_50) (fun _ h9 => h9) rfl d_PV_text_74 ?_
    refine lv_iconst (v := (0 : Int32)) hx hb d_PV_text_77 (by decide) ?_
    refine va_put (D := G.1) (ci := 5) (v := .int (0 : Int32)) (ty := .int) (C := R_Mo) (T := T_Mo) (N := 13) hx hb hts i_Mo ty_Mo ty_Mo_ok nm_Mo hown hK hP hD hS 8 rfl rfl 2 (by decide) (hts _ wf_PV_132) (fun _ h9 => h9) rfl (ty_Mo_ok 2 (by decide)) rfl rfl (Nat.le_of_ble_eq_true rfl) d_PV_text_78 (fun H locs hP hD hS => ?_)
    have hP : va_P G.1 CL [(h0, .inr (0, [.int (gI o0 0), .ref (q0 1), .ref (q0 2), .ref (q0 3), .ref (q0 4), .ref (q0 5), .ref (q0 6), .ref (q0 7), .ref (q0 8), .ref (q0 9), .ref (q0 10), .ref (q0 11), .ref (q0 12), .ref (q0 13)])), kQ G (q0 3) 3 (fun i => some (q0 (50 + i))), kI G (q0 6) 1000 (gA o0 6), kJ G (q0 7) 2000 (gB o0 7), kI G (q0 13) 5 (gA o0 13), ((q0 2), .inr (7, [.ref (q1 0), .int (gI o1 1), .ref h5, .int (gI o1 3), .int (gI o1 4), .int (gI o1 5), .int (gI o1 6), .int (gI o1 7), .int (gI o1 8), .int (gI o1 9), .int (gI o1 10)])), ((q1 0), .inr (10, [.ref (q2 0), .int (0 : Int32)])), kB G (q2 0) 400 (gA o2 0), ((q0 4), .inr (5, [.ref h5, .int (gI o3 1), .int (0 : Int32), .ref (q3 3), .ref (q3 4), .ref (q3 5), .ref (q3 6), .ref (q3 7), .ref (q3 8), .ref (q3 9), .ref (q3 10), .int (gI o3 11), .int (gI o3 12)])), kI G (q3 3) 20 (gA o3 3), kI G (q3 4) 20 (gA o3 4), kI G (q3 5) 5 (gA o3 5), kJ G (q3 6) 5 (gB o3 6), kJ G (q3 7) 5 (gB o3 7), kJ G (q3 8) 6 (gB o3 8), kI G (q3 10) 5 (gA o3 10), ((q0 5), .inr (5, [.ref (r4 0), .int (gI o4 1), .int (gI o4 2), .ref (q4 3), .ref (q4 4), .ref (q4 5), .ref (q4 6), .ref (q4 7), .ref (q4 8), .ref (q4 9), .ref (q4 10), .int (gI o4 11), .int (gI o4 12)])), kI G (q4 3) 20 (gA o4 3), kI G (q4 4) 20 (gA o4 4), kI G (q4 5) 5 (gA o4 5), kJ G (q4 6) 5 (gB o4 6), kJ G (q4 7) 5 (gB o4 7), kJ G (q4 8) 6 (gB o4 8), kI G (q4 10) 5 (gA o4 10), (h5, .inr (3, [.ref (q5 0), .int (gI o5 1), .int (gI o5 2), .int (gI o5 3), .int (gI o5 4), .int (gI o5 5), .ref (q5 6), .ref (q5 7), .ref (q5 8), .ref (q5 9), .ref (q5 10), .ref (q5 11), .ref (q5 12), .ref (q5 13), .ref (q5 14)])), kI G (q5 0) 5 (gA o5 0), kI G (q5 6) 20 (gA o5 6), kI G (q5 7) 20 (gA o5 7), kI G (q5 8) 20 (gA o5 8), kI G (q5 9) 20 (gA o5 9), kI G (q5 10) 20 (gA o5 10), kI G (q5 11) 20 (gA o5 11), kI G (q5 12) 8 (gA o5 12), kI G (q5 13) 64 (gA o5 13), kI G (q5 14) 64 (gA o5 14)] H := hP
    have hD : va_D A [(h0, .inr (0, [.int (gI o0 0), .ref (q0 1), .ref (q0 2), .ref (q0 3), .ref (q0 4), .ref (q0 5), .ref (q0 6), .ref (q0 7), .ref (q0 8), .ref (q0 9), .ref (q0 10), .ref (q0 11), .ref (q0 12), .ref (q0 13)])), kQ G (q0 3) 3 (fun i => some (q0 (50 + i))), kI G (q0 6) 1000 (gA o0 6), kJ G (q0 7) 2000 (gB o0 7), kI G (q0 13) 5 (gA o0 13), ((q0 2), .inr (7, [.ref (q1 0), .int (gI o1 1), .ref h5, .int (gI o1 3), .int (gI o1 4), .int (gI o1 5), .int (gI o1 6), .int (gI o1 7), .int (gI o1 8), .int (gI o1 9), .int (gI o1 10)])), ((q1 0), .inr (10, [.ref (q2 0), .int (0 : Int32)])), kB G (q2 0) 400 (gA o2 0), ((q0 4), .inr (5, [.ref h5, .int (gI o3 1), .int (0 : Int32), .ref (q3 3), .ref (q3 4), .ref (q3 5), .ref (q3 6), .ref (q3 7), .ref (q3 8), .ref (q3 9), .ref (q3 10), .int (gI o3 11), .int (gI o3 12)])), kI G (q3 3) 20 (gA o3 3), kI G (q3 4) 20 (gA o3 4), kI G (q3 5) 5 (gA o3 5), kJ G (q3 6) 5 (gB o3 6), kJ G (q3 7) 5 (gB o3 7), kJ G (q3 8) 6 (gB o3 8), kI G (q3 10) 5 (gA o3 10), ((q0 5), .inr (5, [.ref (r4 0), .int (gI o4 1), .int (gI o4 2), .ref (q4 3), .ref (q4 4), .ref (q4 5), .ref (q4 6), .ref (q4 7), .ref (q4 8), .ref (q4 9), .ref (q4 10), .int (gI o4 11), .int (gI o4 12)])), kI G (q4 3) 20 (gA o4 3), kI G (q4 4) 20 (gA o4 4), kI G (q4 5) 5 (gA o4 5), kJ G (q4 6) 5 (gB o4 6), kJ G (q4 7) 5 (gB o4 7), kJ G (q4 8) 6 (gB o4 8), kI G (q4 10) 5 (gA o4 10), (h5, .inr (3, [.ref (q5 0), .int (gI o5 1), .int (gI o5 2), .int (gI o5 3), .int (gI o5 4), .int (gI o5 5), .ref (q5 6), .ref (q5 7), .ref (q5 8), .ref (q5 9), .ref (q5 10), .ref (q5 11), .ref (q5 12), .ref (q5 13), .ref (q5 14)])), kI G (q5 0) 5 (gA o5 0), kI G (q5 6) 20 (gA o5 6), kI G (q5 7) 20 (gA o5 7), kI G (q5 8) 20 (gA o5 8), kI G (q5 9) 20 (gA o5 9), kI G (q5 10) 20 (gA o5 10), kI G (q5 11) 20 (gA o5 11), kI G (q5 12) 8 (gA o5 12), kI G (q5 13) 64 (gA o5 13), kI G (q5 14) 64 (gA o5 14)] := hD
    refine lv_aload_n hx hb d_PV_text_81 rfl (lv_at hl 1 rfl) ?_
    refine va_get (D := G.1) (ci := 3) (v := .int (gI o5 4)) (C := R_La) (T := T_La) (N := 15) hx hb hts i_La hown hK hP 24 rfl rfl 4 (by decide) (hts _ wf_PV_135) (fun _ h9 => h9) rfl d_PV_text_82 ?_
    have hP : va_P G.1 CL (cw_PV G h0 q0 o0 ++ (cw_Re G (q0 2) q1 (up r1 2 h5) o1 ++ (cw_Ta G (q1 0) q2 (sI o2 1 (0 : Int32)) ++ (cw_Mo G (q0 4) q3 (up r3 0 h5) (sI o3 2 (0 : Int32)) ++ (cw_Mo G (q0 5) q4 r4 o4 ++ (cw_La G h5 q5 o5)))))) H := hP
    have hD : va_D A (cw_PV G h0 q0 o0 ++ (cw_Re G (q0 2) q1 (up r1 2 h5) o1 ++ (cw_Ta G (q1 0) q2 (sI o2 1 (0 : Int32)) ++ (cw_Mo G (q0 4) q3 (up r3 0 h5) (sI o3 2 (0 : Int32)) ++ (cw_Mo G (q0 5) q4 r4 o4 ++ (cw_La G h5 q5 o5)))))) := hD
    exact W.iret (v := (gI o5 4)) hx hb hr (fun t ht hW => ⟨⟨(gI o5 4), (o1, (sI o2 1 (0 : Int32)), (up r3 0 h5), (sI o3 2 (0 : Int32)), o5), rfl, h, by rw [ht]; exact hP, va_K.moved hW.alike hK, hD⟩, hS.F ht⟩) hS.2.2 d_PV_text_85
  · have h := h.2 c1
    refine lv_iconst (v := (-1 : Int32)) hx hb d_PV_text_63 (by decide) ?_
    have hP : va_P G.1 CL (cw_PV G h0 q0 o0 ++ (cw_Re G (q0 2) q1 (up r1 2 h5) o1 ++ (cw_Ta G (q1 0) q2 (sI o2 1 (0 : Int32)) ++ (cw_Mo G (q0 4) q3 r3 o3 ++ (cw_Mo G (q0 5) q4 r4 o4 ++ (cw_La G h5 q5 o5)))))) H := hP
    have hD : va_D A (cw_PV G h0 q0 o0 ++ (cw_Re G (q0 2) q1 (up r1 2 h5) o1 ++ (cw_Ta G (q1 0) q2 (sI o2 1 (0 : Int32)) ++ (cw_Mo G (q0 4) q3 r3 o3 ++ (cw_Mo G (q0 5) q4 r4 o4 ++ (cw_La G h5 q5 o5)))))) := hD
    exact W.iret (v := (-1 : Int32)) hx hb hr (fun t ht hW => ⟨⟨(-1 : Int32), (o1, (sI o2 1 (0 : Int32)), r3, o3, o5), rfl, h, by rw [ht]; exact hP, va_K.moved hW.alike hK, hD⟩, hS.F ht⟩) hS.2.2 d_PV_text_64
set_option maxHeartbeats 4000000 in
set_option maxRecDepth 100000 in
theorem t_PV_text_15 {p : Program} {l : Launch} {e : Env} {s : State} {m : MethodId} {args : Array Value} {below : List Frame} {meth : Method} {c : Code} {A : Nat → Prop} {G : Gl} {h0 : Nat} {q1 : Nat → Nat} {q2 : Nat → Nat} {q3 : Nat → Nat} {q4 : Nat → Nat} {q5 : Nat → Nat} (q0 : Nat → Nat) (h5 : Nat) (o0 : Ob) (r1 : (Nat → Nat)) (r4 : (Nat → Nat)) (o4 : Ob) (Q : Int32 → Ob → Ob → (Nat → Nat) → Ob → Ob → Prop) (C : Cx p s m args meth c R_PV b_PV_text 3 (some .int) G A) (hqa : q0 1 = q1 0) :
    ∀ (n : Nat) (x2 : Int32) (o1 : Ob) (o2 : Ob) (r3 : (Nat → Nat)) (o3 : Ob) (o5 : Ob) (ls : Array Slot) (H : Heap) (locs : List Loc), lv_has ls 3 [(0, .ref h0), (1, .ref h5), (2, .int x2)] → va_P G.1 CL (cw_PV G h0 q0 o0 ++ (cw_Re G (q0 2) q1 (up r1 2 h5) o1 ++ (cw_Ta G (q1 0) q2 o2 ++ (cw_Mo G (q0 4) q3 r3 o3 ++ (cw_Mo G (q0 5) q4 r4 o4 ++ (cw_La G h5 q5 o5)))))) H → va_D A (cw_PV G h0 q0 o0 ++ (cw_Re G (q0 2) q1 (up r1 2 h5) o1 ++ (cw_Ta G (q1 0) q2 o2 ++ (cw_Mo G (q0 4) q3 r3 o3 ++ (cw_Mo G (q0 5) q4 r4 o4 ++ (cw_La G h5 q5 o5)))))) → va_S A s.heap H locs → f_PV_text_15 q0 h5 o0 r1 r4 o4 Q n x2 o1 o2 r3 o3 o5 → W p l e rm_PV_text s m args below meth c H locs 0 0 (MQ below (va_Qi (fun (r : Int32) (u : Ob × Ob × (Nat → Nat) × Ob × Ob) => Q r u.1 u.2.1 u.2.2.1 u.2.2.2.1 u.2.2.2.2) (fun (u : Ob × Ob × (Nat → Nat) × Ob × Ob) t => BW G A (cw_PV G h0 q0 o0 ++ (cw_Re G (q0 2) q1 (up r1 2 h5) u.1 ++ (cw_Ta G (q1 0) q2 u.2.1 ++ (cw_Mo G (q0 4) q3 u.2.2.1 u.2.2.2.1 ++ (cw_Mo G (q0 5) q4 r4 o4 ++ (cw_La G h5 q5 u.2.2.2.2)))))) t) A) args s 0 0 A) (F0 m 15 ls []) := by
  obtain ⟨hx, hb, hml, hown, hr, hts, hK, hA, hlocks, hE⟩ := id C
  intro n
  induction n with
  | zero => intro x2 o1 o2 r3 o3 o5 ls H locs hl hP hD hS h; exact absurd h id
  | succ n ih =>
    intro x2 o1 o2 r3 o3 o5 ls H locs hl hP hD hS h
    have hP : va_P G.1 CL [(h0, .inr (0, [.int (gI o0 0), .ref (q0 1), .ref (q0 2), .ref (q0 3), .ref (q0 4), .ref (q0 5), .ref (q0 6), .ref (q0 7), .ref (q0 8), .ref (q0 9), .ref (q0 10), .ref (q0 11), .ref (q0 12), .ref (q0 13)])), kQ G (q0 3) 3 (fun i => some (q0 (50 + i))), kI G (q0 6) 1000 (gA o0 6), kJ G (q0 7) 2000 (gB o0 7), kI G (q0 13) 5 (gA o0 13), ((q0 2), .inr (7, [.ref (q1 0), .int (gI o1 1), .ref h5, .int (gI o1 3), .int (gI o1 4), .int (gI o1 5), .int (gI o1 6), .int (gI o1 7), .int (gI o1 8), .int (gI o1 9), .int (gI o1 10)])), ((q1 0), .inr (10, [.ref (q2 0), .int (gI o2 1)])), kB G (q2 0) 400 (gA o2 0), ((q0 4), .inr (5, [.ref (r3 0), .int (gI o3 1), .int (gI o3 2), .ref (q3 3), .ref (q3 4), .ref (q3 5), .ref (q3 6), .ref (q3 7), .ref (q3 8), .ref (q3 9), .ref (q3 10), .int (gI o3 11), .int (gI o3 12)])), kI G (q3 3) 20 (gA o3 3), kI G (q3 4) 20 (gA o3 4), kI G (q3 5) 5 (gA o3 5), kJ G (q3 6) 5 (gB o3 6), kJ G (q3 7) 5 (gB o3 7), kJ G (q3 8) 6 (gB o3 8), kI G (q3 10) 5 (gA o3 10), ((q0 5), .inr (5, [.ref (r4 0), .int (gI o4 1), .int (gI o4 2), .ref (q4 3), .ref (q4 4), .ref (q4 5), .ref (q4 6), .ref (q4 7), .ref (q4 8), .ref (q4 9), .ref (q4 10), .int (gI o4 11), .int (gI o4 12)])), kI G (q4 3) 20 (gA o4 3), kI G (q4 4) 20 (gA o4 4), kI G (q4 5) 5 (gA o4 5), kJ G (q4 6) 5 (gB o4 6), kJ G (q4 7) 5 (gB o4 7), kJ G (q4 8) 6 (gB o4 8), kI G (q4 10) 5 (gA o4 10), (h5, .inr (3, [.ref (q5 0), .int (gI o5 1), .int (gI o5 2), .int (gI o5 3), .int (gI o5 4), .int (gI o5 5), .ref (q5 6), .ref (q5 7), .ref (q5 8), .ref (q5 9), .ref (q5 10), .ref (q5 11), .ref (q5 12), .ref (q5 13), .ref (q5 14)])), kI G (q5 0) 5 (gA o5 0), kI G (q5 6) 20 (gA o5 6), kI G (q5 7) 20 (gA o5 7), kI G (q5 8) 20 (gA o5 8), kI G (q5 9) 20 (gA o5 9), kI G (q5 10) 20 (gA o5 10), kI G (q5 11) 20 (gA o5 11), kI G (q5 12) 8 (gA o5 12), kI G (q5 13) 64 (gA o5 13), kI G (q5 14) 64 (gA o5 14)] H := hP
    have hD : va_D A [(h0, .inr (0, [.int (gI o0 0), .ref (q0 1), .ref (q0 2), .ref (q0 3), .ref (q0 4), .ref (q0 5), .ref (q0 6), .ref (q0 7), .ref (q0 8), .ref (q0 9), .ref (q0 10), .ref (q0 11), .ref (q0 12), .ref (q0 13)])), kQ G (q0 3) 3 (fun i => some (q0 (50 + i))), kI G (q0 6) 1000 (gA o0 6), kJ G (q0 7) 2000 (gB o0 7), kI G (q0 13) 5 (gA o0 13), ((q0 2), .inr (7, [.ref (q1 0), .int (gI o1 1), .ref h5, .int (gI o1 3), .int (gI o1 4), .int (gI o1 5), .int (gI o1 6), .int (gI o1 7), .int (gI o1 8), .int (gI o1 9), .int (gI o1 10)])), ((q1 0), .inr (10, [.ref (q2 0), .int (gI o2 1)])), kB G (q2 0) 400 (gA o2 0), ((q0 4), .inr (5, [.ref (r3 0), .int (gI o3 1), .int (gI o3 2), .ref (q3 3), .ref (q3 4), .ref (q3 5), .ref (q3 6), .ref (q3 7), .ref (q3 8), .ref (q3 9), .ref (q3 10), .int (gI o3 11), .int (gI o3 12)])), kI G (q3 3) 20 (gA o3 3), kI G (q3 4) 20 (gA o3 4), kI G (q3 5) 5 (gA o3 5), kJ G (q3 6) 5 (gB o3 6), kJ G (q3 7) 5 (gB o3 7), kJ G (q3 8) 6 (gB o3 8), kI G (q3 10) 5 (gA o3 10), ((q0 5), .inr (5, [.ref (r4 0), .int (gI o4 1), .int (gI o4 2), .ref (q4 3), .ref (q4 4), .ref (q4 5), .ref (q4 6), .ref (q4 7), .ref (q4 8), .ref (q4 9), .ref (q4 10), .int (gI o4 11), .int (gI o4 12)])), kI G (q4 3) 20 (gA o4 3), kI G (q4 4) 20 (gA o4 4), kI G (q4 5) 5 (gA o4 5), kJ G (q4 6) 5 (gB o4 6), kJ G (q4 7) 5 (gB o4 7), kJ G (q4 8) 6 (gB o4 8), kI G (q4 10) 5 (gA o4 10), (h5, .inr (3, [.ref (q5 0), .int (gI o5 1), .int (gI o5 2), .int (gI o5 3), .int (gI o5 4), .int (gI o5 5), .ref (q5 6), .ref (q5 7), .ref (q5 8), .ref (q5 9), .ref (q5 10), .ref (q5 11), .ref (q5 12), .ref (q5 13), .ref (q5 14)])), kI G (q5 0) 5 (gA o5 0), kI G (q5 6) 20 (gA o5 6), kI G (q5 7) 20 (gA o5 7), kI G (q5 8) 20 (gA o5 8), kI G (q5 9) 20 (gA o5 9), kI G (q5 10) 20 (gA o5 10), kI G (q5 11) 20 (gA o5 11), kI G (q5 12) 8 (gA o5 12), kI G (q5 13) 64 (gA o5 13), kI G (q5 14) 64 (gA o5 14)] := hD
    unfold f_PV_text_15 at h
    refine lv_iload_n hx hb d_PV_text_15 rfl (lv_at hl 2 rfl) ?_
    refine lv_sipush (v := (400 : Int32)) hx hb d_PV_text_16 (by decide) ?_
    refine lv_icmp_ge (tgt := 45) hx hb d_PV_text_19 (by decide) (fun c2 => ?_) (fun c2 => ?_)
    · have h := h.1 c2
      have hl := lv_sub (l' := [(0, .ref h0), (1, .ref h5)]) hl [0, 1] rfl
      have hP : va_P G.1 CL (cw_PV G h0 q0 o0 ++ (cw_Re G (q0 2) q1 (up r1 2 h5) o1 ++ (cw_Ta G (q1 0) q2 o2 ++ (cw_Mo G (q0 4) q3 r3 o3 ++ (cw_Mo G (q0 5) q4 r4 o4 ++ (cw_La G h5 q5 o5)))))) H := hP
      have hD : va_D A (cw_PV G h0 q0 o0 ++ (cw_Re G (q0 2) q1 (up r1 2 h5) o1 ++ (cw_Ta G (q1 0) q2 o2 ++ (cw_Mo G (q0 4) q3 r3 o3 ++ (cw_Mo G (q0 5) q4 r4 o4 ++ (cw_La G h5 q5 o5)))))) := hD
      exact t_PV_text_45 q0 h5 o0 r1 r4 o4 Q C hqa o1 o2 r3 o3 o5 ls _ locs hl hP hD hS h
    · have h := h.2 c2
      refine lv_aload_n hx hb d_PV_text_22 rfl (lv_at hl 0 rfl) ?_
      refine va_get (D := G.1) (ci := 0) (v := .ref (q0 2)) (C := R_PV) (T := T_PV) (N := 14) hx hb hts i_PV hown hK hP 0 rfl rfl 2 (by decide) (hts _ wf_PV_41) (fun _ h9 => h9) rfl d_PV_text_23 ?_
      refine cl_Vi (b := b_PV_text) (As := []) (rest := []) (ws := [(h0, .inr (0, [.int (gI o0 0), .ref (q0 1), .ref (q0 2), .ref (q0 3), .ref (q0 4), .ref (q0 5), .ref (q0 6), .ref (q0 7), .ref (q0 8), .ref (q0 9), .ref (q0 10), .ref (q0 11), .ref (q0 12), .ref (q0 13)])), kQ G (q0 3) 3 (fun i => some (q0 (50 + i))), kI G (q0 6) 1000 (gA o0 6), kJ G (q0 7) 2000 (gB o0 7), kI G (q0 13) 5 (gA o0 13), ((q0 2), .inr (7, [.ref (q1 0), .int (gI o1 1), .ref h5, .int (gI o1 3), .int (gI o1 4), .int (gI o1 5), .int (gI o1 6), .int (gI o1 7), .int (gI o1 8), .int (gI o1 9), .int (gI o1 10)])), ((q1 0), .inr (10, [.ref (q2 0), .int (gI o2 1)])), kB G (q2 0) 400 (gA o2 0), ((q0 4), .inr (5, [.ref (r3 0), .int (gI o3 1), .int (gI o3 2), .ref (q3 3), .ref (q3 4), .ref (q3 5), .ref (q3 6), .ref (q3 7), .ref (q3 8), .ref (q3 9), .ref (q3 10), .int (gI o3 11), .int (gI o3 12)])), kI G (q3 3) 20 (gA o3 3), kI G (q3 4) 20 (gA o3 4), kI G (q3 5) 5 (gA o3 5), kJ G (q3 6) 5 (gB o3 6), kJ G (q3 7) 5 (gB o3 7), kJ G (q3 8) 6 (gB o3 8), kI G (q3 10) 5 (gA o3 10), ((q0 5), .inr (5, [.ref (r4 0), .int (gI o4 1), .int (gI o4 2), .ref (q4 3), .ref (q4 4), .ref (q4 5), .ref (q4 6), .ref (q4 7), .ref (q4 8), .ref (q4 9), .ref (q4 10), .int (gI o4 11), .int (gI o4 12)])), kI G (q4 3) 20 (gA o4 3), kI G (q4 4) 20 (gA o4 4), kI G (q4 5) 5 (gA o4 5), kJ G (q4 6) 5 (gB o4 6), kJ G (q4 7) 5 (gB o4 7), kJ G (q4 8) 6 (gB o4 8), kI G (q4 10) 5 (gA o4 10), (h5, .inr (3, [.ref (q5 0), .int (gI o5 1), .int (gI o5 2), .int (gI o5 3), .int (gI o5 4), .int (gI o5 5), .ref (q5 6), .ref (q5 7), .ref (q5 8), .ref (q5 9), .ref (q5 10), .ref (q5 11), .ref (q5 12), .ref (q5 13), .ref (q5 14)])), kI G (q5 0) 5 (gA o5 0), kI G (q5 6) 20 (gA o5 6), kI G (q5 7) 20 (gA o5 7), kI G (q5 8) 20 (gA o5 8), kI G (q5 9) 20 (gA o5 9), kI G (q5 10) 20 (gA o5 10), kI G (q5 11) 20 (gA o5 11), kI G (q5 12) 8 (gA o5 12), kI G (q5 13) 64 (gA o5 13), kI G (q5 14) 64 (gA o5 14)]) (wr := [(h0, .inr (0, [.int (gI o0 0), .ref (q0 1), .ref (q0 2), .ref (q0 3), .ref (q0 4), .ref (q0 5), .ref (q0 6), .ref (q0 7), .ref (q0 8), .ref (q0 9), .ref (q0 10), .ref (q0 11), .ref (q0 12), .ref (q0 13)])), kQ G (q0 3) 3 (fun i => some (q0 (50 + i))), kI G (q0 6) 1000 (gA o0 6), kJ G (q0 7) 2000 (gB o0 7), kI G (q0 13) 5 (gA o0 13), ((q1 0), .inr (10, [.ref (q2 0), .int (gI o2 1)])), kB G (q2 0) 400 (gA o2 0), ((q0 4), .inr (5, [.ref (r3 0), .int (gI o3 1), .int (gI o3 2), .ref (q3 3), .ref (q3 4), .ref (q3 5), .ref (q3 6), .ref (q3 7), .ref (q3 8), .ref (q3 9), .ref (q3 10), .int (gI o3 11), .int (gI o3 12)])), kI G (q3 3) 20 (gA o3 3), kI G (q3 4) 20 (gA o3 4), kI G (q3 5) 5 (gA o3 5), kJ G (q3 6) 5 (gB o3 6), kJ G (q3 7) 5 (gB o3 7), kJ G (q3 8) 6 (gB o3 8), kI G (q3 10) 5 (gA o3 10), ((q0 5), .inr (5, [.ref (r4 0), .int (gI o4 1), .int (gI o4 2), .ref (q4 3), .ref (q4 4), .ref (q4 5), .ref (q4 6), .ref (q4 7), .ref (q4 8), .ref (q4 9), .ref (q4 10), .int (gI o4 11), .int (gI o4 12)])), kI G (q4 3) 20 (gA o4 3), kI G (q4 4) 20 (gA o4 4), kI G (q4 5) 5 (gA o4 5), kJ G (q4 6) 5 (gB o4 6), kJ G (q4 7) 5 (gB o4 7), kJ G (q4 8) 6 (gB o4 8), kI G (q4 10) 5 (gA o4 10), (h5, .inr (3, [.ref (q5 0), .int (gI o5 1), .int (gI o5 2), .int (gI o5 3), .int (gI o5 4), .int (gI o5 5), .ref (q5 6), .ref (q5 7), .ref (q5 8), .ref (q5 9), .ref (q5 10), .ref (q5 11), .ref (q5 12), .ref (q5 13), .ref (q5 14)])), kI G (q5 0) 5 (gA o5 0), kI G (q5 6) 20 (gA o5 6), kI G (q5 7) 20 (gA o5 7), kI G (q5 8) 20 (gA o5 8), kI G (q5 9) 20 (gA o5 9), kI G (q5 10) 20 (gA o5 10), kI G (q5 11) 20 (gA o5 11), kI G (q5 12) 8 (gA o5 12), kI G (q5 13) 64 (gA o5 13), kI G (q5 14) 64 (gA o5 14)]) (w2 := fun (u : Unit) => [(h0, .inr (0, [.int (gI o0 0), .ref (q0 1), .ref (q0 2), .ref (q0 3), .ref (q0 4), .ref (q0 5), .ref (q0 6), .ref (q0 7), .ref (q0 8), .ref (q0 9), .ref (q0 10), .ref (q0 11), .ref (q0 12), .ref (q0 13)])), kQ G (q0 3) 3 (fun i => some (q0 (50 + i))), kI G (q0 6) 1000 (gA o0 6), kJ G (q0 7) 2000 (gB o0 7), kI G (q0 13) 5 (gA o0 13), ((q0 2), .inr (7, [.ref (q1 0), .int (gI o1 1), .ref h5, .int (gI o1 3), .int (gI o1 4), .int (gI o1 5), .int (gI o1 6), .int (gI o1 7), .int (gI o1 8), .int (gI o1 9), .int (gI o1 10)])), ((q1 0), .inr (10, [.ref (q2 0), .int (gI o2 1)])), kB G (q2 0) 400 (gA o2 0), ((q0 4), .inr (5, [.ref (r3 0), .int (gI o3 1), .int (gI o3 2), .ref (q3 3), .ref (q3 4), .ref (q3 5), .ref (q3 6), .ref (q3 7), .ref (q3 8), .ref (q3 9), .ref (q3 10), .int (gI o3 11), .int (gI o3 12)])), kI G (q3 3) 20 (gA o3 3), kI G (q3 4) 20 (gA o3 4), kI G (q3 5) 5 (gA o3 5), kJ G (q3 6) 5 (gB o3 6), kJ G (q3 7) 5 (gB o3 7), kJ G (q3 8) 6 (gB o3 8), kI G (q3 10) 5 (gA o3 10), ((q0 5), .inr (5, [.ref (r4 0), .int (gI o4 1), .int (gI o4 2), .ref (q4 3), .ref (q4 4), .ref (q4 5), .ref (q4 6), .ref (q4 7), .ref (q4 8), .ref (q4 9), .ref (q4 10), .int (gI o4 11), .int (gI o4 12)])), kI G (q4 3) 20 (gA o4 3), kI G (q4 4) 20 (gA o4 4), kI G (q4 5) 5 (gA o4 5), kJ G (q4 6) 5 (gB o4 6), kJ G (q4 7) 5 (gB o4 7), kJ G (q4 8) 6 (gB o4 8), kI G (q4 10) 5 (gA o4 10), (h5, .inr (3, [.ref (q5 0), .int (gI o5 1), .int (gI o5 2), .int (gI o5 3), .int (gI o5 4), .int (gI o5 5), .ref (q5 6), .ref (q5 7), .ref (q5 8), .ref (q5 9), .ref (q5 10), .ref (q5 11), .ref (q5 12), .ref (q5 13), .ref (q5 14)])), kI G (q5 0) 5 (gA o5 0), kI G (q5 6) 20 (gA o5 6), kI G (q5 7) 20 (gA o5 7), kI G (q5 8) 20 (gA o5 8), kI G (q5 9) 20 (gA o5 9), kI G (q5 10) 20 (gA o5 10), kI G (q5 11) 20 (gA o5 11), kI G (q5 12) 8 (gA o5 12), kI G (q5 13) 64 (gA o5 13), kI G (q5 14) 64 (gA o5 14)]) C (c_Re_goesOn (h0 := (q0 2)) (q0 := q1) H.size h) wv_PV_118 ⟨Nat.le_of_ble_eq_true rfl, Nat.le_of_ble_eq_true rfl⟩ hP hD hS 5 rfl rfl [5] [0, 1, 2, 3, 4, 6, 7, 8, 9, 10, 11, 12, 13, 14, 15, 16, 17, 18, 19, 20, 21, 22, 23, 24, 25, 26, 27, 28, 29, 30, 31, 32, 33, 34] rfl rfl (by decide) (by decide) (by decide) [0, 1, 2, 3, 4, 34, 5, 6, 7, 8, 9, 10, 11, 12, 13, 14, 15, 16, 17, 18, 19, 20, 21, 22, 23, 24, 25, 26, 27, 28, 29, 30, 31, 32, 33] (by decide) (fun u => rfl) rfl hl.1 rfl (lv_room (Nat.le_of_ble_eq_true rfl)) d_PV_text_26 ⟨Nat.le_of_ble_eq_true rfl, Nat.le_of_ble_eq_true rfl⟩ rfl rfl (fun z3 u H locs h hP hD hS => ?_)
      have hP : va_P G.1 CL [(h0, .inr (0, [.int (gI o0 0), .ref (q0 1), .ref (q0 2), .ref (q0 3), .ref (q0 4), .ref (q0 5), .ref (q0 6), .ref (q0 7), .ref (q0 8), .ref (q0 9), .ref (q0 10), .ref (q0 11), .ref (q0 12), .ref (q0 13)])), kQ G (q0 3) 3 (fun i => some (q0 (50 + i))), kI G (q0 6) 1000 (gA o0 6), kJ G (q0 7) 2000 (gB o0 7), kI G (q0 13) 5 (gA o0 13), ((q0 2), .inr (7, [.ref (q1 0), .int (gI o1 1), .ref h5, .int (gI o1 3), .int (gI o1 4), .int (gI o1 5), .int (gI o1 6), .int (gI o1 7), .int (gI o1 8), .int (gI o1 9), .int (gI o1 10)])), ((q1 0), .inr (10, [.ref (q2 0), .int (gI o2 1)])), kB G (q2 0) 400 (gA o2 0), ((q0 4), .inr (5, [.ref (r3 0), .int (gI o3 1), .int (gI o3 2), .ref (q3 3), .ref (q3 4), .ref (q3 5), .ref (q3 6), .ref (q3 7), .ref (q3 8), .ref (q3 9), .ref (q3 10), .int (gI o3 11), .int (gI o3 12)])), kI G (q3 3) 20 (gA o3 3), kI G (q3 4) 20 (gA o3 4), kI G (q3 5) 5 (gA o3 5), kJ G (q3 6) 5 (gB o3 6), kJ G (q3 7) 5 (gB o3 7), kJ G (q3 8) 6 (gB o3 8), kI G (q3 10) 5 (gA o3 10), ((q0 5), .inr (5, [.ref (r4 0), .int (gI o4 1), .int (gI o4 2), .ref (q4 3), .ref (q4 4), .ref (q4 5), .ref (q4 6), .ref (q4 7), .ref (q4 8), .ref (q4 9), .ref (q4 10), .int (gI o4 11), .int (gI o4 12)])), kI G (q4 3) 20 (gA o4 3), kI G (q4 4) 20 (gA o4 4), kI G (q4 5) 5 (gA o4 5), kJ G (q4 6) 5 (gB o4 6), kJ G (q4 7) 5 (gB o4 7), kJ G (q4 8) 6 (gB o4 8), kI G (q4 10) 5 (gA o4 10), (h5, .inr (3, [.ref (q5 0), .int (gI o5 1), .int (gI o5 2), .int (gI o5 3), .int (gI o5 4), .int (gI o5 5), .ref (q5 6), .ref (q5 7), .ref (q5 8), .ref (q5 9), .ref (q5 10), .ref (q5 11), .ref (q5 12), .ref (q5 13), .ref (q5 14)])), kI G (q5 0) 5 (gA o5 0), kI G (q5 6) 20 (gA o5 6), kI G (q5 7) 20 (gA o5 7), kI G (q5 8) 20 (gA o5 8), kI G (q5 9) 20 (gA o5 9), kI G (q5 10) 20 (gA o5 10), kI G (q5 11) 20 (gA o5 11), kI G (q5 12) 8 (gA o5 12), kI G (q5 13) 64 (gA o5 13), kI G (q5 14) 64 (gA o5 14)] H := hP
      have hD : va_D A [(h0, .inr (0, [.int (gI o0 0), .ref (q0 1), .ref (q0 2), .ref (q0 3), .ref (q0 4), .ref (q0 5), .ref (q0 6), .ref (q0 7), .ref (q0 8), .ref (q0 9), .ref (q0 10), .ref (q0 11), .ref (q0 12), .ref (q0 13)])), kQ G (q0 3) 3 (fun i => some (q0 (50 + i))), kI G (q0 6) 1000 (gA o0 6), kJ G (q0 7) 2000 (gB o0 7), kI G (q0 13) 5 (gA o0 13), ((q0 2), .inr (7, [.ref (q1 0), .int (gI o1 1), .ref h5, .int (gI o1 3), .int (gI o1 4), .int (gI o1 5), .int (gI o1 6), .int (gI o1 7), .int (gI o1 8), .int (gI o1 9), .int (gI o1 10)])), ((q1 0), .inr (10, [.ref (q2 0), .int (gI o2 1)])), kB G (q2 0) 400 (gA o2 0), ((q0 4), .inr (5, [.ref (r3 0), .int (gI o3 1), .int (gI o3 2), .ref (q3 3), .ref (q3 4), .ref (q3 5), .ref (q3 6), .ref (q3 7), .ref (q3 8), .ref (q3 9), .ref (q3 10), .int (gI o3 11), .int (gI o3 12)])), kI G (q3 3) 20 (gA o3 3), kI G (q3 4) 20 (gA o3 4), kI G (q3 5) 5 (gA o3 5), kJ G (q3 6) 5 (gB o3 6), kJ G (q3 7) 5 (gB o3 7), kJ G (q3 8) 6 (gB o3 8), kI G (q3 10) 5 (gA o3 10), ((q0 5), .inr (5, [.ref (r4 0), .int (gI o4 1), .int (gI o4 2), .ref (q4 3), .ref (q4 4), .ref (q4 5), .ref (q4 6), .ref (q4 7), .ref (q4 8), .ref (q4 9), .ref (q4 10), .int (gI o4 11), .int (gI o4 12)])), kI G (q4 3) 20 (gA o4 3), kI G (q4 4) 20 (gA o4 4), kI G (q4 5) 5 (gA o4 5), kJ G (q4 6) 5 (gB o4 6), kJ G (q4 7) 5 (gB o4 7), kJ G (q4 8) 6 (gB o4 8), kI G (q4 10) 5 (gA o4 10), (h5, .inr (3, [.ref (q5 0), .int (gI o5 1), .int (gI o5 2), .int (gI o5 3), .int (gI o5 4), .int (gI o5 5), .ref (q5 6), .ref (q5 7), .ref (q5 8), .ref (q5 9), .ref (q5 10), .ref (q5 11), .ref (q5 12), .ref (q5 13), .ref (q5 14)])), kI G (q5 0) 5 (gA o5 0), kI G (q5 6) 20 (gA o5 6), kI G (q5 7) 20 (gA o5 7), kI G (q5 8) 20 (gA o5 8), kI G (q5 9) 20 (gA o5 9), kI G (q5 10) 20 (gA o5 10), kI G (q5 11) 20 (gA o5 11), kI G (q5 12) 8 (gA o5 12), kI G (q5 13) 64 (gA o5 13), kI G (q5 14) 64 (gA o5 14)] := hD
      refine lv_if_eq (tgt := 45) hx hb d_PV_text_29 (by decide) (fun c4 => ?_) (fun c4 => ?_)
      · have h := h.1 c4
        have hl := lv_sub (l' := [(0, .ref h0), (1, .ref h5)]) hl [0, 1] rfl
        have hP : va_P G.1 CL (cw_PV G h0 q0 o0 ++ (cw_Re G (q0 2) q1 (up r1 2 h5) o1 ++ (cw_Ta G (q1 0) q2 o2 ++ (cw_Mo G (q0 4) q3 r3 o3 ++ (cw_Mo G (q0 5) q4 r4 o4 ++ (cw_La G h5 q5 o5)))))) H := hP
        have hD : va_D A (cw_PV G h0 q0 o0 ++ (cw_Re G (q0 2) q1 (up r1 2 h5) o1 ++ (cw_Ta G (q1 0) q2 o2 ++ (cw_Mo G (q0 4) q3 r3 o3 ++ (cw_Mo G (q0 5) q4 r4 o4 ++ (cw_La G h5 q5 o5)))))) := hD
        exact t_PV_text_45 q0 h5 o0 r1 r4 o4 Q C hqa o1 o2 r3 o3 o5 ls _ locs hl hP hD hS h
      · have h := h.2 c4
        refine lv_aload_n hx hb d_PV_text_32 rfl (lv_at hl 0 rfl) ?_
        refine va_get (D := G.1) (ci := 0) (v := .ref (q0 2)) (C := R_PV) (T := T_PV) (N := 14) hx hb hts i_PV hown hK hP 0 rfl rfl 2 (by decide) (hts _ wf_PV_41) (fun _ h9 => h9) rfl d_PV_text_33 ?_
        refine cl_Vv (b := b_PV_text) (As := []) (rest := []) (ws := [(h0, .inr (0, [.int (gI o0 0), .ref (q0 1), .ref (q0 2), .ref (q0 3), .ref (q0 4), .ref (q0 5), .ref (q0 6), .ref (q0 7), .ref (q0 8), .ref (q0 9), .ref (q0 10), .ref (q0 11), .ref (q0 12), .ref (q0 13)])), kQ G (q0 3) 3 (fun i => some (q0 (50 + i))), kI G (q0 6) 1000 (gA o0 6), kJ G (q0 7) 2000 (gB o0 7), kI G (q0 13) 5 (gA o0 13), ((q0 2), .inr (7, [.ref (q1 0), .int (gI o1 1), .ref h5, .int (gI o1 3), .int (gI o1 4), .int (gI o1 5), .int (gI o1 6), .int (gI o1 7), .int (gI o1 8), .int (gI o1 9), .int (gI o1 10)])), ((q1 0), .inr (10, [.ref (q2 0), .int (gI o2 1)])), kB G (q2 0) 400 (gA o2 0), ((q0 4), .inr (5, [.ref (r3 0), .int (gI o3 1), .int (gI o3 2), .ref (q3 3), .ref (q3 4), .ref (q3 5), .ref (q3 6), .ref (q3 7), .ref (q3 8), .ref (q3 9), .ref (q3 10), .int (gI o3 11), .int (gI o3 12)])), kI G (q3 3) 20 (gA o3 3), kI G (q3 4) 20 (gA o3 4), kI G (q3 5) 5 (gA o3 5), kJ G (q3 6) 5 (gB o3 6), kJ G (q3 7) 5 (gB o3 7), kJ G (q3 8) 6 (gB o3 8), kI G (q3 10) 5 (gA o3 10), ((q0 5), .inr (5, [.ref (r4 0), .int (gI o4 1), .int (gI o4 2), .ref (q4 3), .ref (q4 4), .ref (q4 5), .ref (q4 6), .ref (q4 7), .ref (q4 8), .ref (q4 9), .ref (q4 10), .int (gI o4 11), .int (gI o4 12)])), kI G (q4 3) 20 (gA o4 3), kI G (q4 4) 20 (gA o4 4), kI G (q4 5) 5 (gA o4 5), kJ G (q4 6) 5 (gB o4 6), kJ G (q4 7) 5 (gB o4 7), kJ G (q4 8) 6 (gB o4 8), kI G (q4 10) 5 (gA o4 10), (h5, .inr (3, [.ref (q5 0), .int (gI o5 1), .int (gI o5 2), .int (gI o5 3), .int (gI o5 4), .int (gI o5 5), .ref (q5 6), .ref (q5 7), .ref (q5 8), .ref (q5 9), .ref (q5 10), .ref (q5 11), .ref (q5 12), .ref (q5 13), .ref (q5 14)])), kI G (q5 0) 5 (gA o5 0), kI G (q5 6) 20 (gA o5 6), kI G (q5 7) 20 (gA o5 7), kI G (q5 8) 20 (gA o5 8), kI G (q5 9) 20 (gA o5 9), kI G (q5 10) 20 (gA o5 10), kI G (q5 11) 20 (gA o5 11), kI G (q5 12) 8 (gA o5 12), kI G (q5 13) 64 (gA o5 13), kI G (q5 14) 64 (gA o5 14)]) (wr := [(h0, .inr (0, [.int (gI o0 0), .ref (q0 1), .ref (q0 2), .ref (q0 3), .ref (q0 4), .ref (q0 5), .ref (q0 6), .ref (q0 7), .ref (q0 8), .ref (q0 9), .ref (q0 10), .ref (q0 11), .ref (q0 12), .ref (q0 13)])), kQ G (q0 3) 3 (fun i => some (q0 (50 + i))), kI G (q0 6) 1000 (gA o0 6), kJ G (q0 7) 2000 (gB o0 7), kI G (q0 13) 5 (gA o0 13), ((q0 4), .inr (5, [.ref (r3 0), .int (gI o3 1), .int (gI o3 2), .ref (q3 3), .ref (q3 4), .ref (q3 5), .ref (q3 6), .ref (q3 7), .ref (q3 8), .ref (q3 9), .ref (q3 10), .int (gI o3 11), .int (gI o3 12)])), kI G (q3 3) 20 (gA o3 3), kI G (q3 4) 20 (gA o3 4), kI G (q3 5) 5 (gA o3 5), kJ G (q3 6) 5 (gB o3 6), kJ G (q3 7) 5 (gB o3 7), kJ G (q3 8) 6 (gB o3 8), kI G (q3 10) 5 (gA o3 10), ((q0 5), .inr (5, [.ref (r4 0), .int (gI o4 1), .int (gI o4 2), .ref (q4 3), .ref (q4 4), .ref (q4 5), .ref (q4 6), .ref (q4 7), .ref (q4 8), .ref (q4 9), .ref (q4 10), .int (gI o4 11), .int (gI o4 12)])), kI G (q4 3) 20 (gA o4 3), kI G (q4 4) 20 (gA o4 4), kI G (q4 5) 5 (gA o4 5), kJ G (q4 6) 5 (gB o4 6), kJ G (q4 7) 5 (gB o4 7), kJ G (q4 8) 6 (gB o4 8), kI G (q4 10) 5 (gA o4 10)]) (w2 := fun (u : Ob × Ob) => [(h0, .inr (0, [.int (gI o0 0), .ref (q0 1), .ref (q0 2), .ref (q0 3), .ref (q0 4), .ref (q0 5), .ref (q0 6), .ref (q0 7), .ref (q0 8), .ref (q0 9), .ref (q0 10), .ref (q0 11), .ref (q0 12), .ref (q0 13)])), kQ G (q0 3) 3 (fun i => some (q0 (50 + i))), kI G (q0 6) 1000 (gA o0 6), kJ G (q0 7) 2000 (gB o0 7), kI G (q0 13) 5 (gA o0 13), ((q0 2), .inr (7, [.ref (q1 0), .int (gI u.1 1), .ref h5, .int (gI u.1 3), .int (gI u.1 4), .int (gI u.1 5), .int (gI u.1 6), .int (gI u.1 7), .int (gI u.1 8), .int (gI u.1 9), .int (gI u.1 10)])), ((q1 0), .inr (10, [.ref (q2 0), .int (gI o2 1)])), kB G (q2 0) 400 (gA o2 0), ((q0 4), .inr (5, [.ref (r3 0), .int (gI o3 1), .int (gI o3 2), .ref (q3 3), .ref (q3 4), .ref (q3 5), .ref (q3 6), .ref (q3 7), .ref (q3 8), .ref (q3 9), .ref (q3 10), .int (gI o3 11), .int (gI o3 12)])), kI G (q3 3) 20 (gA o3 3), kI G (q3 4) 20 (gA o3 4), kI G (q3 5) 5 (gA o3 5), kJ G (q3 6) 5 (gB o3 6), kJ G (q3 7) 5 (gB o3 7), kJ G (q3 8) 6 (gB o3 8), kI G (q3 10) 5 (gA o3 10), ((q0 5), .inr (5, [.ref (r4 0), .int (gI o4 1), .int (gI o4 2), .ref (q4 3), .ref (q4 4), .ref (q4 5), .ref (q4 6), .ref (q4 7), .ref (q4 8), .ref (q4 9), .ref (q4 10), .int (gI o4 11), .int (gI o4 12)])), kI G (q4 3) 20 (gA o4 3), kI G (q4 4) 20 (gA o4 4), kI G (q4 5) 5 (gA o4 5), kJ G (q4 6) 5 (gB o4 6), kJ G (q4 7) 5 (gB o4 7), kJ G (q4 8) 6 (gB o4 8), kI G (q4 10) 5 (gA o4 10), (h5, .inr (3, [.ref (q5 0), .int (gI u.2 1), .int (gI u.2 2), .int (gI u.2 3), .int (gI u.2 4), .int (gI u.2 5), .ref (q5 6), .ref (q5 7), .ref (q5 8), .ref (q5 9), .ref (q5 10), .ref (q5 11), .ref (q5 12), .ref (q5 13), .ref (q5 14)])), kI G (q5 0) 5 (gA u.2 0), kI G (q5 6) 20 (gA u.2 6), kI G (q5 7) 20 (gA u.2 7), kI G (q5 8) 20 (gA u.2 8), kI G (q5 9) 20 (gA u.2 9), kI G (q5 10) 20 (gA u.2 10), kI G (q5 11) 20 (gA u.2 11), kI G (q5 12) 8 (gA u.2 12), kI G (q5 13) 64 (gA u.2 13), kI G (q5 14) 64 (gA u.2 14)]) C (c_Re_readClause (h0 := (q0 2)) (q0 := q1) (q1 := q2) (q2 := q5) H.size h) wv_PV_122 ⟨Nat.le_of_ble_eq_true rfl, Nat.le_of_ble_eq_true rfl⟩ hP hD hS 5 rfl rfl [5, 6, 7, 24, 25, 26, 27, 28, 29, 30, 31, 32, 33, 34] [0, 1, 2, 3, 4, 8, 9, 10, 11, 12, 13, 14, 15, 16, 17, 18, 19, 20, 21, 22, 23] rfl rfl (by decide) (by decide) (by decide) [0, 1, 2, 3, 4, 21, 22, 23, 5, 6, 7, 8, 9, 10, 11, 12, 13, 14, 15, 16, 17, 18, 19, 20, 24, 25, 26, 27, 28, 29, 30, 31, 32, 33, 34] (by decide) (fun u => rfl) rfl hl.1 rfl (lv_room (Nat.le_of_ble_eq_true rfl)) d_PV_text_36 ⟨Nat.le_of_ble_eq_true rfl, Nat.le_of_ble_eq_true rfl⟩ rfl rfl (fun u H locs h hP hD hS => ?_)
        obtain ⟨u5, u6⟩ := u
        have hP : va_P G.1 CL [(h0, .inr (0, [.int (gI o0 0), .ref (q0 1), .ref (q0 2), .ref (q0 3), .ref (q0 4), .ref (q0 5), .ref (q0 6), .ref (q0 7), .ref (q0 8), .ref (q0 9), .ref (q0 10), .ref (q0 11), .ref (q0 12), .ref (q0 13)])), kQ G (q0 3) 3 (fun i => some (q0 (50 + i))), kI G (q0 6) 1000 (gA o0 6), kJ G (q0 7) 2000 (gB o0 7), kI G (q0 13) 5 (gA o0 13), ((q0 2), .inr (7, [.ref (q1 0), .int (gI u5 1), .ref h5, .int (gI u5 3), .int (gI u5 4), .int (gI u5 5), .int (gI u5 6), .int (gI u5 7), .int (gI u5 8), .int (gI u5 9), .int (gI u5 10)])), ((q1 0), .inr (10, [.ref (q2 0), .int (gI o2 1)])), kB G (q2 0) 400 (gA o2 0), ((q0 4), .inr (5, [.ref (r3 0), .int (gI o3 1), .int (gI o3 2), .ref (q3 3), .ref (q3 4), .ref (q3 5), .ref (q3 6), .ref (q3 7), .ref (q3 8), .ref (q3 9), .ref (q3 10), .int (gI o3 11), .int (gI o3 12)])), kI G (q3 3) 20 (gA o3 3), kI G (q3 4) 20 (gA o3 4), kI G (q3 5) 5 (gA o3 5), kJ G (q3 6) 5 (gB o3 6), kJ G (q3 7) 5 (gB o3 7), kJ G (q3 8) 6 (gB o3 8), kI G (q3 10) 5 (gA o3 10), ((q0 5), .inr (5, [.ref (r4 0), .int (gI o4 1), .int (gI o4 2), .ref (q4 3), .ref (q4 4), .ref (q4 5), .ref (q4 6), .ref (q4 7), .ref (q4 8), .ref (q4 9), .ref (q4 10), .int (gI o4 11), .int (gI o4 12)])), kI G (q4 3) 20 (gA o4 3), kI G (q4 4) 20 (gA o4 4), kI G (q4 5) 5 (gA o4 5), kJ G (q4 6) 5 (gB o4 6), kJ G (q4 7) 5 (gB o4 7), kJ G (q4 8) 6 (gB o4 8), kI G (q4 10) 5 (gA o4 10), (h5, .inr (3, [.ref (q5 0), .int (gI u6 1), .int (gI u6 2), .int (gI u6 3), .int (gI u6 4), .int (gI u6 5), .ref (q5 6), .ref (q5 7), .ref (q5 8), .ref (q5 9), .ref (q5 10), .ref (q5 11), .ref (q5 12), .ref (q5 13), .ref (q5 14)])), kI G (q5 0) 5 (gA u6 0), kI G (q5 6) 20 (gA u6 6), kI G (q5 7) 20 (gA u6 7), kI G (q5 8) 20 (gA u6 8), kI G (q5 9) 20 (gA u6 9), kI G (q5 10) 20 (gA u6 10), kI G (q5 11) 20 (gA u6 11), kI G (q5 12) 8 (gA u6 12), kI G (q5 13) 64 (gA u6 13), kI G (q5 14) 64 (gA u6 14)] H := hP
        have hD : va_D A [(h0, .inr (0, [.int (gI o0 0), .ref (q0 1), .ref (q0 2), .ref (q0 3), .ref (q0 4), .ref (q0 5), .ref (q0 6), .ref (q0 7), .ref (q0 8), .ref (q0 9), .ref (q0 10), .ref (q0 11), .ref (q0 12), .ref (q0 13)])), kQ G (q0 3) 3 (fun i => some (q0 (50 + i))), kI G (q0 6) 1000 (gA o0 6), kJ G (q0 7) 2000 (gB o0 7), kI G (q0 13) 5 (gA o0 13), ((q0 2), .inr (7, [.ref (q1 0), .int (gI u5 1), .ref h5, .int (gI u5 3), .int (gI u5 4), .int (gI u5 5), .int (gI u5 6), .int (gI u5 7), .int (gI u5 8), .int (gI u5 9), .int (gI u5 10)])), ((q1 0), .inr (10, [.ref (q2 0), .int (gI o2 1)])), kB G (q2 0) 400 (gA o2 0), ((q0 4), .inr (5, [.ref (r3 0), .int (gI o3 1), .int (gI o3 2), .ref (q3 3), .ref (q3 4), .ref (q3 5), .ref (q3 6), .ref (q3 7), .ref (q3 8), .ref (q3 9), .ref (q3 10), .int (gI o3 11), .int (gI o3 12)])), kI G (q3 3) 20 (gA o3 3), kI G (q3 4) 20 (gA o3 4), kI G (q3 5) 5 (gA o3 5), kJ G (q3 6) 5 (gB o3 6), kJ G (q3 7) 5 (gB o3 7), kJ G (q3 8) 6 (gB o3 8), kI G (q3 10) 5 (gA o3 10), ((q0 5), .inr (5, [.ref (r4 0), .int (gI o4 1), .int (gI o4 2), .ref (q4 3), .ref (q4 4), .ref (q4 5), .ref (q4 6), .ref (q4 7), .ref (q4 8), .ref (q4 9), .ref (q4 10), .int (gI o4 11), .int (gI o4 12)])), kI G (q4 3) 20 (gA o4 3), kI G (q4 4) 20 (gA o4 4), kI G (q4 5) 5 (gA o4 5), kJ G (q4 6) 5 (gB o4 6), kJ G (q4 7) 5 (gB o4 7), kJ G (q4 8) 6 (gB o4 8), kI G (q4 10) 5 (gA o4 10), (h5, .inr (3, [.ref (q5 0), .int (gI u6 1), .int (gI u6 2), .int (gI u6 3), .int (gI u6 4), .int (gI u6 5), .ref (q5 6), .ref (q5 7), .ref (q5 8), .ref (q5 9), .ref (q5 10), .ref (q5 11), .ref (q5 12), .ref (q5 13), .ref (q5 14)])), kI G (q5 0) 5 (gA u6 0), kI G (q5 6) 20 (gA u6 6), kI G (q5 7) 20 (gA u6 7), kI G (q5 8) 20 (gA u6 8), kI G (q5 9) 20 (gA u6 9), kI G (q5 10) 20 (gA u6 10), kI G (q5 11) 20 (gA u6 11), kI G (q5 12) 8 (gA u6 12), kI G (q5 13) 64 (gA u6 13), kI G (q5 14) 64 (gA u6 14)] := hD
        refine lv_iinc (v := (x2 + (1 : Int32))) (lv' := [(2, .int (x2 + (1 : Int32))), (0, .ref h0), (1, .ref h5)]) hx hb d_PV_text_39 hl (k := 2) rfl rfl (by decide) rfl (fun ls hl => ?_)
        refine lv_goto (tgt := 15) hx hb d_PV_text_42 (by decide) ?_
        have hl := lv_sub (l' := [(0, .ref h0), (1, .ref h5), (2, .int (x2 + (1 : Int32)))]) hl [1, 2, 0] rfl
        have hP : va_P G.1 CL (cw_PV G h0 q0 o0 ++ (cw_Re G (q0 2) q1 (up r1 2 h5) u5 ++ (cw_Ta G (q1 0) q2 o2 ++ (cw_Mo G (q0 4) q3 r3 o3 ++ (cw_Mo G (q0 5) q4 r4 o4 ++ (cw_La G h5 q5 u6)))))) H := hP
        have hD : va_D A (cw_PV G h0 q0 o0 ++ (cw_Re G (q0 2) q1 (up r1 2 h5) u5 ++ (cw_Ta G (q1 0) q2 o2 ++ (cw_Mo G (q0 4) q3 r3 o3 ++ (cw_Mo G (q0 5) q4 r4 o4 ++ (cw_La G h5 q5 u6)))))) := hD
        exact ih (x2 + (1 : Int32)) u5 o2 r3 o3 u6 ls H locs hl hP hD hS h
set_option maxHeartbeats 4000000 in
set_option maxRecDepth 100000 in
theorem c_PV_text {l : Launch} {G : Gl} {h0 : Nat} {h5 : Nat} {q0 : Nat → Nat} {q1 : Nat → Nat} {q2 : Nat → Nat} {q3 : Nat → Nat} {q4 : Nat → Nat} {q5 : Nat → Nat} {o0 : Ob} {r1 : (Nat → Nat)} {o1 : Ob} {o2 : Ob} {r3 : (Nat → Nat)} {o3 : Ob} {r4 : (Nat → Nat)} {o4 : Ob} {o5 : Ob} {Q : Int32 → Ob → Ob → (Nat → Nat) → Ob → Ob → Prop} (sz : Nat) (hqa : q0 1 = q1 0) (h : f_PV_text q0 h5 o0 r1 o1 o2 r3 o3 r4 o4 o5 Q) : Met l y_PV_text w_PV_text rm_PV_text (PcW G [.ref h0] sz (cw_PV G h0 q0 o0 ++ (cw_Re G (q0 2) q1 r1 o1 ++ (cw_Ta G (q1 0) q2 o2 ++ (cw_Mo G (q0 4) q3 r3 o3 ++ (cw_Mo G (q0 5) q4 r4 o4 ++ (cw_La G h5 q5 o5))))))) (va_Qi (fun (r : Int32) (u : Ob × Ob × (Nat → Nat) × Ob × Ob) => Q r u.1 u.2.1 u.2.2.1 u.2.2.2.1 u.2.2.2.2) (fun (u : Ob × Ob × (Nat → Nat) × Ob × Ob) t => BW G (va_A (cw_PV G h0 q0 o0 ++ (cw_Re G (q0 2) q1 r1 o1 ++ (cw_Ta G (q1 0) q2 o2 ++ (cw_Mo G (q0 4) q3 r3 o3 ++ (cw_Mo G (q0 5) q4 r4 o4 ++ (cw_La G h5 q5 o5)))))) sz) (cw_PV G h0 q0 o0 ++ (cw_Re G (q0 2) q1 (up r1 2 h5) u.1 ++ (cw_Ta G (q1 0) q2 u.2.1 ++ (cw_Mo G (q0 4) q3 u.2.2.1 u.2.2.2.1 ++ (cw_Mo G (q0 5) q4 r4 o4 ++ (cw_La G h5 q5 u.2.2.2.2)))))) t) (va_A (cw_PV G h0 q0 o0 ++ (cw_Re G (q0 2) q1 r1 o1 ++ (cw_Ta G (q1 0) q2 o2 ++ (cw_Mo G (q0 4) q3 r3 o3 ++ (cw_Mo G (q0 5) q4 r4 o4 ++ (cw_La G h5 q5 o5)))))) sz)) 0 0 (va_A (cw_PV G h0 q0 o0 ++ (cw_Re G (q0 2) q1 r1 o1 ++ (cw_Ta G (q1 0) q2 o2 ++ (cw_Mo G (q0 4) q3 r3 o3 ++ (cw_Mo G (q0 5) q4 r4 o4 ++ (cw_La G h5 q5 o5)))))) sz) := by
  refine Met.ofW (cc := b_PV_text) (maxL := 3) (ret := (some .int)) (by decide +kernel) rfl ?_
  intro p e s m args below meth c s₁ B hml hv
  obtain ⟨rfl, hsz, hP, hK, hD0, hE⟩ := hv
  have hx := B.exec
  have hb := B.bytes
  have hr := B.returns
  have hts0 := atoms_spec (ws := w_PV_text) B.pre
  have hts : ∀ w ∈ gw_tbl, w.before ([.ref h0]).toArray s = true := fun w hw => hts0 w (List.mem_cons_of_mem _ hw)
  have hown : s.vm.findClass R_PV = some m.cls := findClass_of_methodNamed B.named
  have hlocks := B.notSynchronized
  subst hsz
  have hD := hD0.self (sz := s.heap.size)
  generalize hAe : va_A (cw_PV G h0 q0 o0 ++ (cw_Re G (q0 2) q1 r1 o1 ++ (cw_Ta G (q1 0) q2 o2 ++ (cw_Mo G (q0 4) q3 r3 o3 ++ (cw_Mo G (q0 5) q4 r4 o4 ++ (cw_La G h5 q5 o5)))))) s.heap.size = A at hD hE ⊢
  have hA : ∀ q : Nat, s.heap.size ≤ q → A q := fun q h => by rw [← hAe]; exact Or.inr h
  have hS : va_S A s.heap s.heap [] := va_S.rf
  have C : Cx p s m ([.ref h0]).toArray meth c R_PV b_PV_text 3 (some .int) G A := ⟨hx, hb, hml, hown, hr, hts, hK, hA, hlocks, hE⟩
  have hl := lv_entry ([.ref h0]) (n := 3) (Nat.le_of_ble_eq_true rfl)
  rw [lg_entry_eq]
  generalize (lg_sl ([.ref h0]) ++ List.replicate (3 - (lg_sl ([.ref h0])).length) Slot.unset).toArray = ls at hl ⊢
  have hl : lv_has ls 3 [(0, .ref h0)] := hl
  have hD : va_D A [(h0, .inr (0, [.int (gI o0 0), .ref (q0 1), .ref (q0 2), .ref (q0 3), .ref (q0 4), .ref (q0 5), .ref (q0 6), .ref (q0 7), .ref (q0 8), .ref (q0 9), .ref (q0 10), .ref (q0 11), .ref (q0 12), .ref (q0 13)])), kQ G (q0 3) 3 (fun i => some (q0 (50 + i))), kI G (q0 6) 1000 (gA o0 6), kJ G (q0 7) 2000 (gB o0 7), kI G (q0 13) 5 (gA o0 13), ((q0 2), .inr (7, [.ref (q1 0), .int (gI o1 1), .ref (r1 2), .int (gI o1 3), .int (gI o1 4), .int (gI o1 5), .int (gI o1 6), .int (gI o1 7), .int (gI o1 8), .int (gI o1 9), .int (gI o1 10)])), ((q1 0), .inr (10, [.ref (q2 0), .int (gI o2 1)])), kB G (q2 0) 400 (gA o2 0), ((q0 4), .inr (5, [.ref (r3 0), .int (gI o3 1), .int (gI o3 2), .ref (q3 3), .ref (q3 4), .ref (q3 5), .ref (q3 6), .ref (q3 7), .ref (q3 8), .ref (q3 9), .ref (q3 10), .int (gI o3 11), .int (gI o3 12)])), kI G (q3 3) 20 (gA o3 3), kI G (q3 4) 20 (gA o3 4), kI G (q3 5) 5 (gA o3 5), kJ G (q3 6) 5 (gB o3 6), kJ G (q3 7) 5 (gB o3 7), kJ G (q3 8) 6 (gB o3 8), kI G (q3 10) 5 (gA o3 10), ((q0 5), .inr (5, [.ref (r4 0), .int (gI o4 1), .int (gI o4 2), .ref (q4 3), .ref (q4 4), .ref (q4 5), .ref (q4 6), .ref (q4 7), .ref (q4 8), .ref (q4 9), .ref (q4 10), .int (gI o4 11), .int (gI o4 12)])), kI G (q4 3) 20 (gA o4 3), kI G (q4 4) 20 (gA o4 4), kI G (q4 5) 5 (gA o4 5), kJ G (q4 6) 5 (gB o4 6), kJ G (q4 7) 5 (gB o4 7), kJ G (q4 8) 6 (gB o4 8), kI G (q4 10) 5 (gA o4 10), (h5, .inr (3, [.ref (q5 0), .int (gI o5 1), .int (gI o5 2), .int (gI o5 3), .int (gI o5 4), .int (gI o5 5), .ref (q5 6), .ref (q5 7), .ref (q5 8), .ref (q5 9), .ref (q5 10), .ref (q5 11), .ref (q5 12), .ref (q5 13), .ref (q5 14)])), kI G (q5 0) 5 (gA o5 0), kI G (q5 6) 20 (gA o5 6), kI G (q5 7) 20 (gA o5 7), kI G (q5 8) 20 (gA o5 8), kI G (q5 9) 20 (gA o5 9), kI G (q5 10) 20 (gA o5 10), kI G (q5 11) 20 (gA o5 11), kI G (q5 12) 8 (gA o5 12), kI G (q5 13) 64 (gA o5 13), kI G (q5 14) 64 (gA o5 14)] := hD
  unfold f_PV_text at h
  suffices key : ∀ (H : Heap) (locs : List Loc), va_P G.1 CL [(h0, .inr (0, [.int (gI o0 0), .ref (q0 1), .ref (q0 2), .ref (q0 3), .ref (q0 4), .ref (q0 5), .ref (q0 6), .ref (q0 7), .ref (q0 8), .ref (q0 9), .ref (q0 10), .ref (q0 11), .ref (q0 12), .ref (q0 13)])), kQ G (q0 3) 3 (fun i => some (q0 (50 + i))), kI G (q0 6) 1000 (gA o0 6), kJ G (q0 7) 2000 (gB o0 7), kI G (q0 13) 5 (gA o0 13), ((q0 2), .inr (7, [.ref (q1 0), .int (gI o1 1), .ref (r1 2), .int (gI o1 3), .int (gI o1 4), .int (gI o1 5), .int (gI o1 6), .int (gI o1 7), .int (gI o1 8), .int (gI o1 9), .int (gI o1 10)])), ((q1 0), .inr (10, [.ref (q2 0), .int (gI o2 1)])), kB G (q2 0) 400 (gA o2 0), ((q0 4), .inr (5, [.ref (r3 0), .int (gI o3 1), .int (gI o3 2), .ref (q3 3), .ref (q3 4), .ref (q3 5), .ref (q3 6), .ref (q3 7), .ref (q3 8), .ref (q3 9), .ref (q3 10), .int (gI o3 11), .int (gI o3 12)])), kI G (q3 3) 20 (gA o3 3), kI G (q3 4) 20 (gA o3 4), kI G (q3 5) 5 (gA o3 5), kJ G (q3 6) 5 (gB o3 6), kJ G (q3 7) 5 (gB o3 7), kJ G (q3 8) 6 (gB o3 8), kI G (q3 10) 5 (gA o3 10), ((q0 5), .inr (5, [.ref (r4 0), .int (gI o4 1), .int (gI o4 2), .ref (q4 3), .ref (q4 4), .ref (q4 5), .ref (q4 6), .ref (q4 7), .ref (q4 8), .ref (q4 9), .ref (q4 10), .int (gI o4 11), .int (gI o4 12)])), kI G (q4 3) 20 (gA o4 3), kI G (q4 4) 20 (gA o4 4), kI G (q4 5) 5 (gA o4 5), kJ G (q4 6) 5 (gB o4 6), kJ G (q4 7) 5 (gB o4 7), kJ G (q4 8) 6 (gB o4 8), kI G (q4 10) 5 (gA o4 10), (h5, .inr (3, [.ref (q5 0), .int (gI o5 1), .int (gI o5 2), .int (gI o5 3), .int (gI o5 4), .int (gI o5 5), .ref (q5 6), .ref (q5 7), .ref (q5 8), .ref (q5 9), .ref (q5 10), .ref (q5 11), .ref (q5 12), .ref (q5 13), .ref (q5 14)])), kI G (q5 0) 5 (gA o5 0), kI G (q5 6) 20 (gA o5 6), kI G (q5 7) 20 (gA o5 7), kI G (q5 8) 20 (gA o5 8), kI G (q5 9) 20 (gA o5 9), kI G (q5 10) 20 (gA o5 10), kI G (q5 11) 20 (gA o5 11), kI G (q5 12) 8 (gA o5 12), kI G (q5 13) 64 (gA o5 13), kI G (q5 14) 64 (gA o5 14)] H → va_S A s.heap H locs → W p l e rm_PV_text s m ([.ref h0]).toArray below meth c H locs 0 0 (MQ below (va_Qi (fun (r : Int32) (u : Ob × Ob × (Nat → Nat) × Ob × Ob) => Q r u.1 u.2.1 u.2.2.1 u.2.2.2.1 u.2.2.2.2) (fun (u : Ob × Ob × (Nat → Nat) × Ob × Ob) t => BW G A (cw_PV G h0 q0 o0 ++ (cw_Re G (q0 2) q1 (up r1 2 h5) u.1 ++ (cw_Ta G (q1 0) q2 u.2.1 ++ (cw_Mo G (q0 4) q3 u.2.2.1 u.2.2.2.1 ++ (cw_Mo G (q0 5) q4 r4 o4 ++ (cw_La G h5 q5 u.2.2.2.2)))))) t) A) ([.ref h0]).toArray s 0 0 A) (F0 m 0 ls []) from key s.heap [] hP hS
  intro H locs hP hS
  refine lv_aload_n hx hb d_PV_text_0 rfl (lv_at hl 0 rfl) ?_
  refine cl_Vr (b := b_PV_text) (As := []) (rest := []) (ws := [(h0, .inr (0, [.int (gI o0 0), .ref (q0 1), .ref (q0 2), .ref (q0 3), .ref (q0 4), .ref (q0 5), .ref (q0 6), .ref (q0 7), .ref (q0 8), .ref (q0 9), .ref (q0 10), .ref (q0 11), .ref (q0 12), .ref (q0 13)])), kQ G (q0 3) 3 (fun i => some (q0 (50 + i))), kI G (q0 6) 1000 (gA o0 6), kJ G (q0 7) 2000 (gB o0 7), kI G (q0 13) 5 (gA o0 13), ((q0 2), .inr (7, [.ref (q1 0), .int (gI o1 1), .ref (r1 2), .int (gI o1 3), .int (gI o1 4), .int (gI o1 5), .int (gI o1 6), .int (gI o1 7), .int (gI o1 8), .int (gI o1 9), .int (gI o1 10)])), ((q1 0), .inr (10, [.ref (q2 0), .int (gI o2 1)])), kB G (q2 0) 400 (gA o2 0), ((q0 4), .inr (5, [.ref (r3 0), .int (gI o3 1), .int (gI o3 2), .ref (q3 3), .ref (q3 4), .ref (q3 5), .ref (q3 6), .ref (q3 7), .ref (q3 8), .ref (q3 9), .ref (q3 10), .int (gI o3 11), .int (gI o3 12)])), kI G (q3 3) 20 (gA o3 3), kI G (q3 4) 20 (gA o3 4), kI G (q3 5) 5 (gA o3 5), kJ G (q3 6) 5 (gB o3 6), kJ G (q3 7) 5 (gB o3 7), kJ G (q3 8) 6 (gB o3 8), kI G (q3 10) 5 (gA o3 10), ((q0 5), .inr (5, [.ref (r4 0), .int (gI o4 1), .int (gI o4 2), .ref (q4 3), .ref (q4 4), .ref (q4 5), .ref (q4 6), .ref (q4 7), .ref (q4 8), .ref (q4 9), .ref (q4 10), .int (gI o4 11), .int (gI o4 12)])), kI G (q4 3) 20 (gA o4 3), kI G (q4 4) 20 (gA o4 4), kI G (q4 5) 5 (gA o4 5), kJ G (q4 6) 5 (gB o4 6), kJ G (q4 7) 5 (gB o4 7), kJ G (q4 8) 6 (gB o4 8), kI G (q4 10) 5 (gA o4 10), (h5, .inr (3, [.ref (q5 0), .int (gI o5 1), .int (gI o5 2), .int (gI o5 3), .int (gI o5 4), .int (gI o5 5), .ref (q5 6), .ref (q5 7), .ref (q5 8), .ref (q5 9), .ref (q5 10), .ref (q5 11), .ref (q5 12), .ref (q5 13), .ref (q5 14)])), kI G (q5 0) 5 (gA o5 0), kI G (q5 6) 20 (gA o5 6), kI G (q5 7) 20 (gA o5 7), kI G (q5 8) 20 (gA o5 8), kI G (q5 9) 20 (gA o5 9), kI G (q5 10) 20 (gA o5 10), kI G (q5 11) 20 (gA o5 11), kI G (q5 12) 8 (gA o5 12), kI G (q5 13) 64 (gA o5 13), kI G (q5 14) 64 (gA o5 14)]) (wr := [((q0 2), .inr (7, [.ref (q1 0), .int (gI o1 1), .ref (r1 2), .int (gI o1 3), .int (gI o1 4), .int (gI o1 5), .int (gI o1 6), .int (gI o1 7), .int (gI o1 8), .int (gI o1 9), .int (gI o1 10)])), ((q1 0), .inr (10, [.ref (q2 0), .int (gI o2 1)])), kB G (q2 0) 400 (gA o2 0), (h5, .inr (3, [.ref (q5 0), .int (gI o5 1), .int (gI o5 2), .int (gI o5 3), .int (gI o5 4), .int (gI o5 5), .ref (q5 6), .ref (q5 7), .ref (q5 8), .ref (q5 9), .ref (q5 10), .ref (q5 11), .ref (q5 12), .ref (q5 13), .ref (q5 14)])), kI G (q5 0) 5 (gA o5 0), kI G (q5 6) 20 (gA o5 6), kI G (q5 7) 20 (gA o5 7), kI G (q5 8) 20 (gA o5 8), kI G (q5 9) 20 (gA o5 9), kI G (q5 10) 20 (gA o5 10), kI G (q5 11) 20 (gA o5 11), kI G (q5 12) 8 (gA o5 12), kI G (q5 13) 64 (gA o5 13), kI G (q5 14) 64 (gA o5 14)]) (w1 := fun (_ : Unit) => cw_PV G h0 q0 o0 ++ (cw_Mo G (q0 4) q3 r3 o3 ++ (cw_Mo G (q0 5) q4 r4 o4))) (w2 := fun (u : Unit) => [(h0, .inr (0, [.int (gI o0 0), .ref (q0 1), .ref (q0 2), .ref (q0 3), .ref (q0 4), .ref (q0 5), .ref (q0 6), .ref (q0 7), .ref (q0 8), .ref (q0 9), .ref (q0 10), .ref (q0 11), .ref (q0 12), .ref (q0 13)])), kQ G (q0 3) 3 (fun i => some (q0 (50 + i))), kI G (q0 6) 1000 (gA o0 6), kJ G (q0 7) 2000 (gB o0 7), kI G (q0 13) 5 (gA o0 13), ((q0 2), .inr (7, [.ref (q1 0), .int (gI o1 1), .ref (r1 2), .int (gI o1 3), .int (gI o1 4), .int (gI o1 5), .int (gI o1 6), .int (gI o1 7), .int (gI o1 8), .int (gI o1 9), .int (gI o1 10)])), ((q1 0), .inr (10, [.ref (q2 0), .int (gI o2 1)])), kB G (q2 0) 400 (gA o2 0), ((q0 4), .inr (5, [.ref (r3 0), .int (gI o3 1), .int (gI o3 2), .ref (q3 3), .ref (q3 4), .ref (q3 5), .ref (q3 6), .ref (q3 7), .ref (q3 8), .ref (q3 9), .ref (q3 10), .int (gI o3 11), .int (gI o3 12)])), kI G (q3 3) 20 (gA o3 3), kI G (q3 4) 20 (gA o3 4), kI G (q3 5) 5 (gA o3 5), kJ G (q3 6) 5 (gB o3 6), kJ G (q3 7) 5 (gB o3 7), kJ G (q3 8) 6 (gB o3 8), kI G (q3 10) 5 (gA o3 10), ((q0 5), .inr (5, [.ref (r4 0), .int (gI o4 1), .int (gI o4 2), .ref (q4 3), .ref (q4 4), .ref (q4 5), .ref (q4 6), .ref (q4 7), .ref (q4 8), .ref (q4 9), .ref (q4 10), .int (gI o4 11), .int (gI o4 12)])), kI G (q4 3) 20 (gA o4 3), kI G (q4 4) 20 (gA o4 4), kI G (q4 5) 5 (gA o4 5), kJ G (q4 6) 5 (gB o4 6), kJ G (q4 7) 5 (gB o4 7), kJ G (q4 8) 6 (gB o4 8), kI G (q4 10) 5 (gA o4 10), (h5, .inr (3, [.ref (q5 0), .int (gI o5 1), .int (gI o5 2), .int (gI o5 3), .int (gI o5 4), .int (gI o5 5), .ref (q5 6), .ref (q5 7), .ref (q5 8), .ref (q5 9), .ref (q5 10), .ref (q5 11), .ref (q5 12), .ref (q5 13), .ref (q5 14)])), kI G (q5 0) 5 (gA o5 0), kI G (q5 6) 20 (gA o5 6), kI G (q5 7) 20 (gA o5 7), kI G (q5 8) 20 (gA o5 8), kI G (q5 9) 20 (gA o5 9), kI G (q5 10) 20 (gA o5 10), kI G (q5 11) 20 (gA o5 11), kI G (q5 12) 8 (gA o5 12), kI G (q5 13) 64 (gA o5 13), kI G (q5 14) 64 (gA o5 14)]) C (c_PV_spareLaw (h0 := h0) (q1 := q3) (q2 := q4) H.size h) wv_PV_111 ⟨Nat.le_of_ble_eq_true rfl, Nat.le_of_ble_eq_true rfl⟩ hP hD hS 0 rfl rfl [0, 1, 2, 3, 4, 8, 9, 10, 11, 12, 13, 14, 15, 16, 17, 18, 19, 20, 21, 22, 23] [5, 6, 7, 24, 25, 26, 27, 28, 29, 30, 31, 32, 33, 34] rfl rfl (by decide) (by decide) (by decide) [14, 15, 16, 17, 18, 0, 1, 2, 19, 20, 21, 22, 23, 24, 25, 26, 27, 28, 29, 30, 31, 32, 33, 34, 3, 4, 5, 6, 7, 8, 9, 10, 11, 12, 13] (by decide) (fun u => rfl) rfl hl.1 rfl (lv_room (Nat.le_of_ble_eq_true rfl)) d_PV_text_1 ⟨Nat.le_of_ble_eq_true rfl, Nat.le_of_ble_eq_true rfl⟩ rfl rfl (fun z7 u H locs h hP hD hS => ?_)
  have hP : va_P G.1 CL [(h0, .inr (0, [.int (gI o0 0), .ref (q0 1), .ref (q0 2), .ref (q0 3), .ref (q0 4), .ref (q0 5), .ref (q0 6), .ref (q0 7), .ref (q0 8), .ref (q0 9), .ref (q0 10), .ref (q0 11), .ref (q0 12), .ref (q0 13)])), kQ G (q0 3) 3 (fun i => some (q0 (50 + i))), kI G (q0 6) 1000 (gA o0 6), kJ G (q0 7) 2000 (gB o0 7), kI G (q0 13) 5 (gA o0 13), ((q0 2), .inr (7, [.ref (q1 0), .int (gI o1 1), .ref (r1 2), .int (gI o1 3), .int (gI o1 4), .int (gI o1 5), .int (gI o1 6), .int (gI o1 7), .int (gI o1 8), .int (gI o1 9), .int (gI o1 10)])), ((q1 0), .inr (10, [.ref (q2 0), .int (gI o2 1)])), kB G (q2 0) 400 (gA o2 0), ((q0 4), .inr (5, [.ref (r3 0), .int (gI o3 1), .int (gI o3 2), .ref (q3 3), .ref (q3 4), .ref (q3 5), .ref (q3 6), .ref (q3 7), .ref (q3 8), .ref (q3 9), .ref (q3 10), .int (gI o3 11), .int (gI o3 12)])), kI G (q3 3) 20 (gA o3 3), kI G (q3 4) 20 (gA o3 4), kI G (q3 5) 5 (gA o3 5), kJ G (q3 6) 5 (gB o3 6), kJ G (q3 7) 5 (gB o3 7), kJ G (q3 8) 6 (gB o3 8), kI G (q3 10) 5 (gA o3 10), ((q0 5), .inr (5, [.ref (r4 0), .int (gI o4 1), .int (gI o4 2), .ref (q4 3), .ref (q4 4), .ref (q4 5), .ref (q4 6), .ref (q4 7), .ref (q4 8), .ref (q4 9), .ref (q4 10), .int (gI o4 11), .int (gI o4 12)])), kI G (q4 3) 20 (gA o4 3), kI G (q4 4) 20 (gA o4 4), kI G (q4 5) 5 (gA o4 5), kJ G (q4 6) 5 (gB o4 6), kJ G (q4 7) 5 (gB o4 7), kJ G (q4 8) 6 (gB o4 8), kI G (q4 10) 5 (gA o4 10), (h5, .inr (3, [.ref (q5 0), .int (gI o5 1), .int (gI o5 2), .int (gI o5 3), .int (gI o5 4), .int (gI o5 5), .ref (q5 6), .ref (q5 7), .ref (q5 8), .ref (q5 9), .ref (q5 10), .ref (q5 11), .ref (q5 12), .ref (q5 13), .ref (q5 14)])), kI G (q5 0) 5 (gA o5 0), kI G (q5 6) 20 (gA o5 6), kI G (q5 7) 20 (gA o5 7), kI G (q5 8) 20 (gA o5 8), kI G (q5 9) 20 (gA o5 9), kI G (q5 10) 20 (gA o5 10), kI G (q5 11) 20 (gA o5 11), kI G (q5 12) 8 (gA o5 12), kI G (q5 13) 64 (gA o5 13), kI G (q5 14) 64 (gA o5 14)] H := hP
  have hD : va_D A [(h0, .inr (0, [.int (gI o0 0), .ref (q0 1), .ref (q0 2), .ref (q0 3), .ref (q0 4), .ref (q0 5), .ref (q0 6), .ref (q0 7), .ref (q0 8), .ref (q0 9), .ref (q0 10), .ref (q0 11), .ref (q0 12), .ref (q0 13)])), kQ G (q0 3) 3 (fun i => some (q0 (50 + i))), kI G (q0 6) 1000 (gA o0 6), kJ G (q0 7) 2000 (gB o0 7), kI G (q0 13) 5 (gA o0 13), ((q0 2), .inr (7, [.ref (q1 0), .int (gI o1 1), .ref (r1 2), .int (gI o1 3), .int (gI o1 4), .int (gI o1 5), .int (gI o1 6), .int (gI o1 7), .int (gI o1 8), .int (gI o1 9), .int (gI o1 10)])), ((q1 0), .inr (10, [.ref (q2 0), .int (gI o2 1)])), kB G (q2 0) 400 (gA o2 0), ((q0 4), .inr (5, [.ref (r3 0), .int (gI o3 1), .int (gI o3 2), .ref (q3 3), .ref (q3 4), .ref (q3 5), .ref (q3 6), .ref (q3 7), .ref (q3 8), .ref (q3 9), .ref (q3 10), .int (gI o3 11), .int (gI o3 12)])), kI G (q3 3) 20 (gA o3 3), kI G (q3 4) 20 (gA o3 4), kI G (q3 5) 5 (gA o3 5), kJ G (q3 6) 5 (gB o3 6), kJ G (q3 7) 5 (gB o3 7), kJ G (q3 8) 6 (gB o3 8), kI G (q3 10) 5 (gA o3 10), ((q0 5), .inr (5, [.ref (r4 0), .int (gI o4 1), .int (gI o4 2), .ref (q4 3), .ref (q4 4), .ref (q4 5), .ref (q4 6), .ref (q4 7), .ref (q4 8), .ref (q4 9), .ref (q4 10), .int (gI o4 11), .int (gI o4 12)])), kI G (q4 3) 20 (gA o4 3), kI G (q4 4) 20 (gA o4 4), kI G (q4 5) 5 (gA o4 5), kJ G (q4 6) 5 (gB o4 6), kJ G (q4 7) 5 (gB o4 7), kJ G (q4 8) 6 (gB o4 8), kI G (q4 10) 5 (gA o4 10), (h5, .inr (3, [.ref (q5 0), .int (gI o5 1), .int (gI o5 2), .int (gI o5 3), .int (gI o5 4), .int (gI o5 5), .ref (q5 6), .ref (q5 7), .ref (q5 8), .ref (q5 9), .ref (q5 10), .ref (q5 11), .ref (q5 12), .ref (q5 13), .ref (q5 14)])), kI G (q5 0) 5 (gA o5 0), kI G (q5 6) 20 (gA o5 6), kI G (q5 7) 20 (gA o5 7), kI G (q5 8) 20 (gA o5 8), kI G (q5 9) 20 (gA o5 9), kI G (q5 10) 20 (gA o5 10), kI G (q5 11) 20 (gA o5 11), kI G (q5 12) 8 (gA o5 12), kI G (q5 13) 64 (gA o5 13), kI G (q5 14) 64 (gA o5 14)] := hD
  have g8 := h.1
  have h := h.2
  refine W.eq (g2 := F0 m 4 ls [.ref h5]) (by rw [show z7 = h5 from g8]) ?_
  refine lv_astore_n (lv' := [(1, .ref h5), (0, .ref h0)]) hx hb d_PV_text_4 rfl hl (by decide) rfl (fun ls hl => ?_)
  refine lv_aload_n hx hb d_PV_text_5 rfl (lv_at hl 1 rfl) ?_
  refine va_get (D := G.1) (ci := 0) (v := .ref (q0 2)) (C := R_PV) (T := T_PV) (N := 14) hx hb hts i_PV hown hK hP 0 rfl rfl 2 (by decide) (hts _ wf_PV_41) (fun _ h9 => h9) rfl d_PV_text_6 ?_
  refine lv_aload_n hx hb d_PV_text_9 rfl (lv_at hl 0 rfl) ?_
  refine cl_Vv (b := b_PV_text) (As := [.ref h5]) (rest := []) (ws := [(h0, .inr (0, [.int (gI o0 0), .ref (q0 1), .ref (q0 2), .ref (q0 3), .ref (q0 4), .ref (q0 5), .ref (q0 6), .ref (q0 7), .ref (q0 8), .ref (q0 9), .ref (q0 10), .ref (q0 11), .ref (q0 12), .ref (q0 13)])), kQ G (q0 3) 3 (fun i => some (q0 (50 + i))), kI G (q0 6) 1000 (gA o0 6), kJ G (q0 7) 2000 (gB o0 7), kI G (q0 13) 5 (gA o0 13), ((q0 2), .inr (7, [.ref (q1 0), .int (gI o1 1), .ref (r1 2), .int (gI o1 3), .int (gI o1 4), .int (gI o1 5), .int (gI o1 6), .int (gI o1 7), .int (gI o1 8), .int (gI o1 9), .int (gI o1 10)])), ((q1 0), .inr (10, [.ref (q2 0), .int (gI o2 1)])), kB G (q2 0) 400 (gA o2 0), ((q0 4), .inr (5, [.ref (r3 0), .int (gI o3 1), .int (gI o3 2), .ref (q3 3), .ref (q3 4), .ref (q3 5), .ref (q3 6), .ref (q3 7), .ref (q3 8), .ref (q3 9), .ref (q3 10), .int (gI o3 11), .int (gI o3 12)])), kI G (q3 3) 20 (gA o3 3), kI G (q3 4) 20 (gA o3 4), kI G (q3 5) 5 (gA o3 5), kJ G (q3 6) 5 (gB o3 6), kJ G (q3 7) 5 (gB o3 7), kJ G (q3 8) 6 (gB o3 8), kI G (q3 10) 5 (gA o3 10), ((q0 5), .inr (5, [.ref (r4 0), .int (gI o4 1), .int (gI o4 2), .ref (q4 3), .ref (q4 4), .ref (q4 5), .ref (q4 6), .ref (q4 7), .ref (q4 8), .ref (q4 9), .ref (q4 10), .int (gI o4 11), .int (gI o4 12)])), kI G (q4 3) 20 (gA o4 3), kI G (q4 4) 20 (gA o4 4), kI G (q4 5) 5 (gA o4 5), kJ G (q4 6) 5 (gB o4 6), kJ G (q4 7) 5 (gB o4 7), kJ G (q4 8) 6 (gB o4 8), kI G (q4 10) 5 (gA o4 10), (h5, .inr (3, [.ref (q5 0), .int (gI o5 1), .int (gI o5 2), .int (gI o5 3), .int (gI o5 4), .int (gI o5 5), .ref (q5 6), .ref (q5 7), .ref (q5 8), .ref (q5 9), .ref (q5 10), .ref (q5 11), .ref (q5 12), .ref (q5 13), .ref (q5 14)])), kI G (q5 0) 5 (gA o5 0), kI G (q5 6) 20 (gA o5 6), kI G (q5 7) 20 (gA o5 7), kI G (q5 8) 20 (gA o5 8), kI G (q5 9) 20 (gA o5 9), kI G (q5 10) 20 (gA o5 10), kI G (q5 11) 20 (gA o5 11), kI G (q5 12) 8 (gA o5 12), kI G (q5 13) 64 (gA o5 13), kI G (q5 14) 64 (gA o5 14)]) (wr := [(h0, .inr (0, [.int (gI o0 0), .ref (q0 1), .ref (q0 2), .ref (q0 3), .ref (q0 4), .ref (q0 5), .ref (q0 6), .ref (q0 7), .ref (q0 8), .ref (q0 9), .ref (q0 10), .ref (q0 11), .ref (q0 12), .ref (q0 13)])), kQ G (q0 3) 3 (fun i => some (q0 (50 + i))), kI G (q0 6) 1000 (gA o0 6), kJ G (q0 7) 2000 (gB o0 7), kI G (q0 13) 5 (gA o0 13), ((q0 4), .inr (5, [.ref (r3 0), .int (gI o3 1), .int (gI o3 2), .ref (q3 3), .ref (q3 4), .ref (q3 5), .ref (q3 6), .ref (q3 7), .ref (q3 8), .ref (q3 9), .ref (q3 10), .int (gI o3 11), .int (gI o3 12)])), kI G (q3 3) 20 (gA o3 3), kI G (q3 4) 20 (gA o3 4), kI G (q3 5) 5 (gA o3 5), kJ G (q3 6) 5 (gB o3 6), kJ G (q3 7) 5 (gB o3 7), kJ G (q3 8) 6 (gB o3 8), kI G (q3 10) 5 (gA o3 10), ((q0 5), .inr (5, [.ref (r4 0), .int (gI o4 1), .int (gI o4 2), .ref (q4 3), .ref (q4 4), .ref (q4 5), .ref (q4 6), .ref (q4 7), .ref (q4 8), .ref (q4 9), .ref (q4 10), .int (gI o4 11), .int (gI o4 12)])), kI G (q4 3) 20 (gA o4 3), kI G (q4 4) 20 (gA o4 4), kI G (q4 5) 5 (gA o4 5), kJ G (q4 6) 5 (gB o4 6), kJ G (q4 7) 5 (gB o4 7), kJ G (q4 8) 6 (gB o4 8), kI G (q4 10) 5 (gA o4 10)]) (w2 := fun (u : Ob × Ob) => [(h0, .inr (0, [.int (gI o0 0), .ref (q0 1), .ref (q0 2), .ref (q0 3), .ref (q0 4), .ref (q0 5), .ref (q0 6), .ref (q0 7), .ref (q0 8), .ref (q0 9), .ref (q0 10), .ref (q0 11), .ref (q0 12), .ref (q0 13)])), kQ G (q0 3) 3 (fun i => some (q0 (50 + i))), kI G (q0 6) 1000 (gA o0 6), kJ G (q0 7) 2000 (gB o0 7), kI G (q0 13) 5 (gA o0 13), ((q0 2), .inr (7, [.ref (q1 0), .int (gI u.1 1), .ref h5, .int (gI u.1 3), .int (gI u.1 4), .int (gI u.1 5), .int (gI u.1 6), .int (gI u.1 7), .int (gI u.1 8), .int (gI u.1 9), .int (gI u.1 10)])), ((q1 0), .inr (10, [.ref (q2 0), .int (gI o2 1)])), kB G (q2 0) 400 (gA o2 0), ((q0 4), .inr (5, [.ref (r3 0), .int (gI o3 1), .int (gI o3 2), .ref (q3 3), .ref (q3 4), .ref (q3 5), .ref (q3 6), .ref (q3 7), .ref (q3 8), .ref (q3 9), .ref (q3 10), .int (gI o3 11), .int (gI o3 12)])), kI G (q3 3) 20 (gA o3 3), kI G (q3 4) 20 (gA o3 4), kI G (q3 5) 5 (gA o3 5), kJ G (q3 6) 5 (gB o3 6), kJ G (q3 7) 5 (gB o3 7), kJ G (q3 8) 6 (gB o3 8), kI G (q3 10) 5 (gA o3 10), ((q0 5), .inr (5, [.ref (r4 0), .int (gI o4 1), .int (gI o4 2), .ref (q4 3), .ref (q4 4), .ref (q4 5), .ref (q4 6), .ref (q4 7), .ref (q4 8), .ref (q4 9), .ref (q4 10), .int (gI o4 11), .int (gI o4 12)])), kI G (q4 3) 20 (gA o4 3), kI G (q4 4) 20 (gA o4 4), kI G (q4 5) 5 (gA o4 5), kJ G (q4 6) 5 (gB o4 6), kJ G (q4 7) 5 (gB o4 7), kJ G (q4 8) 6 (gB o4 8), kI G (q4 10) 5 (gA o4 10), (h5, .inr (3, [.ref (q5 0), .int (gI u.2 1), .int (gI u.2 2), .int (gI u.2 3), .int (gI u.2 4), .int (gI u.2 5), .ref (q5 6), .ref (q5 7), .ref (q5 8), .ref (q5 9), .ref (q5 10), .ref (q5 11), .ref (q5 12), .ref (q5 13), .ref (q5 14)])), kI G (q5 0) 5 (gA u.2 0), kI G (q5 6) 20 (gA u.2 6), kI G (q5 7) 20 (gA u.2 7), kI G (q5 8) 20 (gA u.2 8), kI G (q5 9) 20 (gA u.2 9), kI G (q5 10) 20 (gA u.2 10), kI G (q5 11) 20 (gA u.2 11), kI G (q5 12) 8 (gA u.2 12), kI G (q5 13) 64 (gA u.2 13), kI G (q5 14) 64 (gA u.2 14)]) C (c_Re_begin (h0 := (q0 2)) (q0 := q1) (q1 := q2) (q2 := q5) H.size h) wv_PV_115 ⟨Nat.le_of_ble_eq_true rfl, Nat.le_of_ble_eq_true rfl⟩ hP hD hS 5 rfl rfl [5, 6, 7, 24, 25, 26, 27, 28, 29, 30, 31, 32, 33, 34] [0, 1, 2, 3, 4, 8, 9, 10, 11, 12, 13, 14, 15, 16, 17, 18, 19, 20, 21, 22, 23] rfl rfl (by decide) (by decide) (by decide) [0, 1, 2, 3, 4, 21, 22, 23, 5, 6, 7, 8, 9, 10, 11, 12, 13, 14, 15, 16, 17, 18, 19, 20, 24, 25, 26, 27, 28, 29, 30, 31, 32, 33, 34] (by decide) (fun u => rfl) rfl hl.1 rfl (lv_room (Nat.le_of_ble_eq_true rfl)) d_PV_text_10 ⟨Nat.le_of_ble_eq_true rfl, Nat.le_of_ble_eq_true rfl⟩ rfl rfl (fun u H locs h hP hD hS => ?_)
  obtain ⟨u9, u10⟩ := u
  have hP : va_P G.1 CL [(h0, .inr (0, [.int (gI o0 0), .ref (q0 1), .ref (q0 2), .ref (q0 3), .ref (q0 4), .ref (q0 5), .ref (q0 6), .ref (q0 7), .ref (q0 8), .ref (q0 9), .ref (q0 10), .ref (q0 11), .ref (q0 12), .ref (q0 13)])), kQ G (q0 3) 3 (fun i => some (q0 (50 + i))), kI G (q0 6) 1000 (gA o0 6), kJ G (q0 7) 2000 (gB o0 7), kI G (q0 13) 5 (gA o0 13), ((q0 2), .inr (7, [.ref (q1 0), .int (gI u9 1), .ref h5, .int (gI u9 3), .int (gI u9 4), .int (gI u9 5), .int (gI u9 6), .int (gI u9 7), .int (gI u9 8), .int (gI u9 9), .int (gI u9 10)])), ((q1 0), .inr (10, [.ref (q2 0), .int (gI o2 1)])), kB G (q2 0) 400 (gA o2 0), ((q0 4), .inr (5, [.ref (r3 0), .int (gI o3 1), .int (gI o3 2), .ref (q3 3), .ref (q3 4), .ref (q3 5), .ref (q3 6), .ref (q3 7), .ref (q3 8), .ref (q3 9), .ref (q3 10), .int (gI o3 11), .int (gI o3 12)])), kI G (q3 3) 20 (gA o3 3), kI G (q3 4) 20 (gA o3 4), kI G (q3 5) 5 (gA o3 5), kJ G (q3 6) 5 (gB o3 6), kJ G (q3 7) 5 (gB o3 7), kJ G (q3 8) 6 (gB o3 8), kI G (q3 10) 5 (gA o3 10), ((q0 5), .inr (5, [.ref (r4 0), .int (gI o4 1), .int (gI o4 2), .ref (q4 3), .ref (q4 4), .ref (q4 5), .ref (q4 6), .ref (q4 7), .ref (q4 8), .ref (q4 9), .ref (q4 10), .int (gI o4 11), .int (gI o4 12)])), kI G (q4 3) 20 (gA o4 3), kI G (q4 4) 20 (gA o4 4), kI G (q4 5) 5 (gA o4 5), kJ G (q4 6) 5 (gB o4 6), kJ G (q4 7) 5 (gB o4 7), kJ G (q4 8) 6 (gB o4 8), kI G (q4 10) 5 (gA o4 10), (h5, .inr (3, [.ref (q5 0), .int (gI u10 1), .int (gI u10 2), .int (gI u10 3), .int (gI u10 4), .int (gI u10 5), .ref (q5 6), .ref (q5 7), .ref (q5 8), .ref (q5 9), .ref (q5 10), .ref (q5 11), .ref (q5 12), .ref (q5 13), .ref (q5 14)])), kI G (q5 0) 5 (gA u10 0), kI G (q5 6) 20 (gA u10 6), kI G (q5 7) 20 (gA u10 7), kI G (q5 8) 20 (gA u10 8), kI G (q5 9) 20 (gA u10 9), kI G (q5 10) 20 (gA u10 10), kI G (q5 11) 20 (gA u10 11), kI G (q5 12) 8 (gA u10 12), kI G (q5 13) 64 (gA u10 13), kI G (q5 14) 64 (gA u10 14)] H := hP
  have hD : va_D A [(h0, .inr (0, [.int (gI o0 0), .ref (q0 1), .ref (q0 2), .ref (q0 3), .ref (q0 4), .ref (q0 5), .ref (q0 6), .ref (q0 7), .ref (q0 8), .ref (q0 9), .ref (q0 10), .ref (q0 11), .ref (q0 12), .ref (q0 13)])), kQ G (q0 3) 3 (fun i => some (q0 (50 + i))), kI G (q0 6) 1000 (gA o0 6), kJ G (q0 7) 2000 (gB o0 7), kI G (q0 13) 5 (gA o0 13), ((q0 2), .inr (7, [.ref (q1 0), .int (gI u9 1), .ref h5, .int (gI u9 3), .int (gI u9 4), .int (gI u9 5), .int (gI u9 6), .int (gI u9 7), .int (gI u9 8), .int (gI u9 9), .int (gI u9 10)])), ((q1 0), .inr (10, [.ref (q2 0), .int (gI o2 1)])), kB G (q2 0) 400 (gA o2 0), ((q0 4), .inr (5, [.ref (r3 0), .int (gI o3 1), .int (gI o3 2), .ref (q3 3), .ref (q3 4), .ref (q3 5), .ref (q3 6), .ref (q3 7), .ref (q3 8), .ref (q3 9), .ref (q3 10), .int (gI o3 11), .int (gI o3 12)])), kI G (q3 3) 20 (gA o3 3), kI G (q3 4) 20 (gA o3 4), kI G (q3 5) 5 (gA o3 5), kJ G (q3 6) 5 (gB o3 6), kJ G (q3 7) 5 (gB o3 7), kJ G (q3 8) 6 (gB o3 8), kI G (q3 10) 5 (gA o3 10), ((q0 5), .inr (5, [.ref (r4 0), .int (gI o4 1), .int (gI o4 2), .ref (q4 3), .ref (q4 4), .ref (q4 5), .ref (q4 6), .ref (q4 7), .ref (q4 8), .ref (q4 9), .ref (q4 10), .int (gI o4 11), .int (gI o4 12)])), kI G (q4 3) 20 (gA o4 3), kI G (q4 4) 20 (gA o4 4), kI G (q4 5) 5 (gA o4 5), kJ G (q4 6) 5 (gB o4 6), kJ G (q4 7) 5 (gB o4 7), kJ G (q4 8) 6 (gB o4 8), kI G (q4 10) 5 (gA o4 10), (h5, .inr (3, [.ref (q5 0), .int (gI u10 1), .int (gI u10 2), .int (gI u10 3), .int (gI u10 4), .int (gI u10 5), .ref (q5 6), .ref (q5 7), .ref (q5 8), .ref (q5 9), .ref (q5 10), .ref (q5 11), .ref (q5 12), .ref (q5 13), .ref (q5 14)])), kI G (q5 0) 5 (gA u10 0), kI G (q5 6) 20 (gA u10 6), kI G (q5 7) 20 (gA u10 7), kI G (q5 8) 20 (gA u10 8), kI G (q5 9) 20 (gA u10 9), kI G (q5 10) 20 (gA u10 10), kI G (q5 11) 20 (gA u10 11), kI G (q5 12) 8 (gA u10 12), kI G (q5 13) 64 (gA u10 13), kI G (q5 14) 64 (gA u10 14)] := hD
  refine lv_iconst (v := (0 : Int32)) hx hb d_PV_text_13 (by decide) ?_
  refine lv_istore_n (lv' := [(2, .int (0 : Int32)), (1, .ref h5), (0, .ref h0)]) hx hb d_PV_text_14 rfl hl (by decide) rfl (fun ls hl => ?_)
  have hl := lv_sub (l' := [(0, .ref h0), (1, .ref h5), (2, .int (0 : Int32))]) hl [2, 1, 0] rfl
  have hP : va_P G.1 CL (cw_PV G h0 q0 o0 ++ (cw_Re G (q0 2) q1 (up r1 2 h5) u9 ++ (cw_Ta G (q1 0) q2 o2 ++ (cw_Mo G (q0 4) q3 r3 o3 ++ (cw_Mo G (q0 5) q4 r4 o4 ++ (cw_La G h5 q5 u10)))))) H := hP
  have hD : va_D A (cw_PV G h0 q0 o0 ++ (cw_Re G (q0 2) q1 (up r1 2 h5) u9 ++ (cw_Ta G (q1 0) q2 o2 ++ (cw_Mo G (q0 4) q3 r3 o3 ++ (cw_Mo G (q0 5) q4 r4 o4 ++ (cw_La G h5 q5 u10)))))) := hD
  obtain ⟨w, h⟩ := h
  exact t_PV_text_15 q0 h5 o0 r1 r4 o4 Q C hqa w (0 : Int32) u9 o2 r3 o3 u10 ls _ locs hl hP hD hS h
abbrev b_PV_about : ByteArray := prog_1_method_30_code
def y_PV_about : MethodName := ⟨R_PV, "about", "(I)I"⟩
abbrev w_PV_about : List Cond := Cond.code y_PV_about b_PV_about 2 (some .int) :: gw_tbl
theorem d_PV_about_0 : decode b_PV_about 0 = .ok (.iload_n 1, 1) := by decide +kernel
theorem d_PV_about_1 : decode b_PV_about 1 = .ok (.tableswitch 138 0 9 #[55, 60, 68, 76, 84, 92, 97, 105, 116, 127], 55) := by decide +kernel
theorem d_PV_about_56 : decode b_PV_about 56 = .ok (.aload_n 0, 1) := by decide +kernel
theorem d_PV_about_57 : decode b_PV_about 57 = .ok (.getfield 18, 3) := by decide +kernel
theorem d_PV_about_60 : decode b_PV_about 60 = .ok (.ireturn, 1) := by decide +kernel
theorem d_PV_about_61 : decode b_PV_about 61 = .ok (.aload_n 0, 1) := by decide +kernel
theorem d_PV_about_62 : decode b_PV_about 62 = .ok (.getfield 50, 3) := by decide +kernel
theorem d_PV_about_65 : decode b_PV_about 65 = .ok (.getfield 173, 3) := by decide +kernel
theorem d_PV_about_68 : decode b_PV_about 68 = .ok (.ireturn, 1) := by decide +kernel
theorem d_PV_about_69 : decode b_PV_about 69 = .ok (.aload_n 0, 1) := by decide +kernel
theorem d_PV_about_70 : decode b_PV_about 70 = .ok (.getfield 50, 3) := by decide +kernel
theorem d_PV_about_73 : decode b_PV_about 73 = .ok (.getfield 269, 3) := by decide +kernel
theorem d_PV_about_76 : decode b_PV_about 76 = .ok (.ireturn, 1) := by decide +kernel
theorem d_PV_about_77 : decode b_PV_about 77 = .ok (.aload_n 0, 1) := by decide +kernel
theorem d_PV_about_78 : decode b_PV_about 78 = .ok (.getfield 50, 3) := by decide +kernel
theorem d_PV_about_81 : decode b_PV_about 81 = .ok (.getfield 276, 3) := by decide +kernel
theorem d_PV_about_84 : decode b_PV_about 84 = .ok (.ireturn, 1) := by decide +kernel
theorem d_PV_about_85 : decode b_PV_about 85 = .ok (.aload_n 0, 1) := by decide +kernel
theorem d_PV_about_86 : decode b_PV_about 86 = .ok (.getfield 50, 3) := by decide +kernel
theorem d_PV_about_89 : decode b_PV_about 89 = .ok (.getfield 132, 3) := by decide +kernel
theorem d_PV_about_92 : decode b_PV_about 92 = .ok (.ireturn, 1) := by decide +kernel
theorem d_PV_about_93 : decode b_PV_about 93 = .ok (.aload_n 0, 1) := by decide +kernel
theorem d_PV_about_94 : decode b_PV_about 94 = .ok (.invokevirtual 262, 3) := by decide +kernel
theorem d_PV_about_97 : decode b_PV_about 97 = .ok (.ireturn, 1) := by decide +kernel
theorem d_PV_about_98 : decode b_PV_about 98 = .ok (.aload_n 0, 1) := by decide +kernel
theorem d_PV_about_99 : decode b_PV_about 99 = .ok (.getfield 25, 3) := by decide +kernel
theorem d_PV_about_102 : decode b_PV_about 102 = .ok (.getfield 105, 3) := by decide +kernel
theorem d_PV_about_105 : decode b_PV_about 105 = .ok (.ireturn, 1) := by decide +kernel
theorem d_PV_about_106 : decode b_PV_about 106 = .ok (.aload_n 0, 1) := by decide +kernel
theorem d_PV_about_107 : decode b_PV_about 107 = .ok (.getfield 50, 3) := by decide +kernel
theorem d_PV_about_110 : decode b_PV_about 110 = .ok (.getfield 179, 3) := by decide +kernel
theorem d_PV_about_113 : decode b_PV_about 113 = .ok (.getfield 183, 3) := by decide +kernel
theorem d_PV_about_116 : decode b_PV_about 116 = .ok (.ireturn, 1) := by decide +kernel
theorem d_PV_about_117 : decode b_PV_about 117 = .ok (.aload_n 0, 1) := by decide +kernel
theorem d_PV_about_118 : decode b_PV_about 118 = .ok (.getfield 50, 3) := by decide +kernel
theorem d_PV_about_121 : decode b_PV_about 121 = .ok (.getfield 179, 3) := by decide +kernel
theorem d_PV_about_124 : decode b_PV_about 124 = .ok (.getfield 188, 3) := by decide +kernel
theorem d_PV_about_127 : decode b_PV_about 127 = .ok (.ireturn, 1) := by decide +kernel
theorem d_PV_about_128 : decode b_PV_about 128 = .ok (.aload_n 0, 1) := by decide +kernel
theorem d_PV_about_129 : decode b_PV_about 129 = .ok (.getfield 50, 3) := by decide +kernel
theorem d_PV_about_132 : decode b_PV_about 132 = .ok (.getfield 179, 3) := by decide +kernel
theorem d_PV_about_135 : decode b_PV_about 135 = .ok (.getfield 191, 3) := by decide +kernel
theorem d_PV_about_138 : decode b_PV_about 138 = .ok (.ireturn, 1) := by decide +kernel
theorem d_PV_about_139 : decode b_PV_about 139 = .ok (.iconst (-1), 1) := by decide +kernel
theorem d_PV_about_140 : decode b_PV_about 140 = .ok (.ireturn, 1) := by decide +kernel
def f_PV_about (a0 : Int32) (o0 : Ob) (r1 : (Nat → Nat)) (o1 : Ob) (o2 : Ob) (o3 : Ob) (Q : Int32 → Prop) : Prop := (a0 = (0 : Int32) → (Q (gI o0 0))) ∧ (¬ a0 = (0 : Int32) → ((a0 = (1 : Int32) → (Q (gI o1 1))) ∧ (¬ a0 = (1 : Int32) → ((a0 = (2 : Int32) → (Q (gI o1 11))) ∧ (¬ a0 = (2 : Int32) → ((a0 = (3 : Int32) → (Q (gI o1 12))) ∧ (¬ a0 = (3 : Int32) → ((a0 = (4 : Int32) → (Q (gI o1 2))) ∧ (¬ a0 = (4 : Int32) → ((a0 = (5 : Int32) → (f_PV_countShapes o0 r1 o1 (fun z7 => Q z7))) ∧ (¬ a0 = (5 : Int32) → ((a0 = (6 : Int32) → (Q (gI o3 1))) ∧ (¬ a0 = (6 : Int32) → ((a0 = (7 : Int32) → (Q (gI o2 2))) ∧ (¬ a0 = (7 : Int32) → ((a0 = (8 : Int32) → (Q (gI o2 3))) ∧ (¬ a0 = (8 : Int32) → ((a0 = (9 : Int32) → (Q (gI o2 4))) ∧ (¬ a0 = (9 : Int32) → (Q (-1 : Int32)))))))))))))))))))))
abbrev rm_PV_about : Room := { frames := 2, cells := 0, slots := 0, locals := 42 }
set_option maxHeartbeats 4000000 in
set_option maxRecDepth 100000 in
theorem c_PV_about {l : Launch} {G : Gl} {h0 : Nat} {q0 : Nat → Nat} {q1 : Nat → Nat} {q2 : Nat → Nat} {q3 : Nat → Nat} {a0 : Int32} {o0 : Ob} {r1 : (Nat → Nat)} {o1 : Ob} {o2 : Ob} {o3 : Ob} {Q : Int32 → Prop} (sz : Nat) (h : f_PV_about a0 o0 r1 o1 o2 o3 Q) : Met l y_PV_about w_PV_about rm_PV_about (PcW G [.ref h0, .int a0] sz (cw_PV G h0 q0 o0 ++ (cw_Mo G (q0 4) q1 r1 o1 ++ (cw_Fo G (q1 9) q2 o2 ++ (cw_Ta G (q0 1) q3 o3))))) (va_Qi (fun (r : Int32) (u : Unit) => Q r) (fun (u : Unit) t => BW G (va_A (cw_PV G h0 q0 o0 ++ (cw_Mo G (q0 4) q1 r1 o1 ++ (cw_Fo G (q1 9) q2 o2 ++ (cw_Ta G (q0 1) q3 o3)))) sz) (cw_PV G h0 q0 o0 ++ (cw_Mo G (q0 4) q1 r1 o1 ++ (cw_Fo G (q1 9) q2 o2 ++ (cw_Ta G (q0 1) q3 o3)))) t) (va_A (cw_PV G h0 q0 o0 ++ (cw_Mo G (q0 4) q1 r1 o1 ++ (cw_Fo G (q1 9) q2 o2 ++ (cw_Ta G (q0 1) q3 o3)))) sz)) 0 0 (va_A (cw_PV G h0 q0 o0 ++ (cw_Mo G (q0 4) q1 r1 o1 ++ (cw_Fo G (q1 9) q2 o2 ++ (cw_Ta G (q0 1) q3 o3)))) sz) := by
  refine Met.ofW (cc := b_PV_about) (maxL := 2) (ret := (some .int)) (by decide +kernel) rfl ?_
  intro p e s m args below meth c s₁ B hml hv
  obtain ⟨rfl, hsz, hP, hK, hD0, hE⟩ := hv
  have hx := B.exec
  have hb := B.bytes
  have hr := B.returns
  have hts0 := atoms_spec (ws := w_PV_about) B.pre
  have hts : ∀ w ∈ gw_tbl, w.before ([.ref h0, .int a0]).toArray s = true := fun w hw => hts0 w (List.mem_cons_of_mem _ hw)
  have hown : s.vm.findClass R_PV = some m.cls := findClass_of_methodNamed B.named
  have hlocks := B.notSynchronized
  subst hsz
  have hD := hD0.self (sz := s.heap.size)
  generalize hAe : va_A (cw_PV G h0 q0 o0 ++ (cw_Mo G (q0 4) q1 r1 o1 ++ (cw_Fo G (q1 9) q2 o2 ++ (cw_Ta G (q0 1) q3 o3)))) s.heap.size = A at hD hE ⊢
  have hA : ∀ q : Nat, s.heap.size ≤ q → A q := fun q h => by rw [← hAe]; exact Or.inr h
  have hS : va_S A s.heap s.heap [] := va_S.rf
  have C : Cx p s m ([.ref h0, .int a0]).toArray meth c R_PV b_PV_about 2 (some .int) G A := ⟨hx, hb, hml, hown, hr, hts, hK, hA, hlocks, hE⟩
  have hl := lv_entry ([.ref h0, .int a0]) (n := 2) (Nat.le_of_ble_eq_true rfl)
  rw [lg_entry_eq]
  generalize (lg_sl ([.ref h0, .int a0]) ++ List.replicate (2 - (lg_sl ([.ref h0, .int a0])).length) Slot.unset).toArray = ls at hl ⊢
  have hl : lv_has ls 2 [(0, .ref h0), (1, .int a0)] := hl
  have hD : va_D A [(h0, .inr (0, [.int (gI o0 0), .ref (q0 1), .ref (q0 2), .ref (q0 3), .ref (q0 4), .ref (q0 5), .ref (q0 6), .ref (q0 7), .ref (q0 8), .ref (q0 9), .ref (q0 10), .ref (q0 11), .ref (q0 12), .ref (q0 13)])), kQ G (q0 3) 3 (fun i => some (q0 (50 + i))), kI G (q0 6) 1000 (gA o0 6), kJ G (q0 7) 2000 (gB o0 7), kI G (q0 13) 5 (gA o0 13), ((q0 4), .inr (5, [.ref (r1 0), .int (gI o1 1), .int (gI o1 2), .ref (q1 3), .ref (q1 4), .ref (q1 5), .ref (q1 6), .ref (q1 7), .ref (q1 8), .ref (q1 9), .ref (q1 10), .int (gI o1 11), .int (gI o1 12)])), kI G (q1 3) 20 (gA o1 3), kI G (q1 4) 20 (gA o1 4), kI G (q1 5) 5 (gA o1 5), kJ G (q1 6) 5 (gB o1 6), kJ G (q1 7) 5 (gB o1 7), kJ G (q1 8) 6 (gB o1 8), kI G (q1 10) 5 (gA o1 10), ((q1 9), .inr (1, [.int (gI o2 0), .int (gI o2 1), .int (gI o2 2), .int (gI o2 3), .int (gI o2 4), .int (gI o2 5), .int (gI o2 6)])), ((q0 1), .inr (10, [.ref (q3 0), .int (gI o3 1)])), kB G (q3 0) 400 (gA o3 0)] := hD
  unfold f_PV_about at h
  suffices key : ∀ (H : Heap) (locs : List Loc), va_P G.1 CL [(h0, .inr (0, [.int (gI o0 0), .ref (q0 1), .ref (q0 2), .ref (q0 3), .ref (q0 4), .ref (q0 5), .ref (q0 6), .ref (q0 7), .ref (q0 8), .ref (q0 9), .ref (q0 10), .ref (q0 11), .ref (q0 12), .ref (q0 13)])), kQ G (q0 3) 3 (fun i => some (q0 (50 + i))), kI G (q0 6) 1000 (gA o0 6), kJ G (q0 7) 2000 (gB o0 7), kI G (q0 13) 5 (gA o0 13), ((q0 4), .inr (5, [.ref (r1 0), .int (gI o1 1), .int (gI o1 2), .ref (q1 3), .ref (q1 4), .ref (q1 5), .ref (q1 6), .ref (q1 7), .ref (q1 8), .ref (q1 9), .ref (q1 10), .int (gI o1 11), .int (gI o1 12)])), kI G (q1 3) 20 (gA o1 3), kI G (q1 4) 20 (gA o1 4), kI G (q1 5) 5 (gA o1 5), kJ G (q1 6) 5 (gB o1 6), kJ G (q1 7) 5 (gB o1 7), kJ G (q1 8) 6 (gB o1 8), kI G (q1 10) 5 (gA o1 10), ((q1 9), .inr (1, [.int (gI o2 0), .int (gI o2 1), .int (gI o2 2), .int (gI o2 3), .int (gI o2 4), .int (gI o2 5), .int (gI o2 6)])), ((q0 1), .inr (10, [.ref (q3 0), .int (gI o3 1)])), kB G (q3 0) 400 (gA o3 0)] H → va_S A s.heap H locs → W p l e rm_PV_about s m ([.ref h0, .int a0]).toArray below meth c H locs 0 0 (MQ below (va_Qi (fun (r : Int32) (u : Unit) => Q r) (fun (u : Unit) t => BW G A (cw_PV G h0 q0 o0 ++ (cw_Mo G (q0 4) q1 r1 o1 ++ (cw_Fo G (q1 9) q2 o2 ++ (cw_Ta G (q0 1) q3 o3)))) t) A) ([.ref h0, .int a0]).toArray s 0 0 A) (F0 m 0 ls []) from key s.heap [] hP hS
  intro H locs hP hS
  refine lv_iload_n hx hb d_PV_about_0 rfl (lv_at hl 1 rfl) ?_
  by_cases c1 : a0 = (0 : Int32)
  · have h := h.1 c1
    refine lv_tableIn (tgt := 56) hx hb d_PV_about_1 (by rw [c1]; decide) (by rw [c1]; decide) (off := 55) (by rw [c1]; rfl) (by decide) ?_
    refine lv_aload_n hx hb d_PV_about_56 rfl (lv_at hl 0 rfl) ?_
    refine va_get (D := G.1) (ci := 0) (v := .int (gI o0 0)) (C := R_PV) (T := T_PV) (N := 14) hx hb hts i_PV hown hK hP 0 rfl rfl 0 (by decide) (hts _ wf_PV_18) (fun _ h9 => h9) rfl d_PV_about_57 ?_
    have hP : va_P G.1 CL (cw_PV G h0 q0 o0 ++ (cw_Mo G (q0 4) q1 r1 o1 ++ (cw_Fo G (q1 9) q2 o2 ++ (cw_Ta G (q0 1) q3 o3)))) H := hP
    have hD : va_D A (cw_PV G h0 q0 o0 ++ (cw_Mo G (q0 4) q1 r1 o1 ++ (cw_Fo G (q1 9) q2 o2 ++ (cw_Ta G (q0 1) q3 o3)))) := hD
    exact W.iret (v := (gI o0 0)) hx hb hr (fun t ht hW => ⟨⟨(gI o0 0), (), rfl, h, by rw [ht]; exact hP, va_K.moved hW.alike hK, hD⟩, hS.F ht⟩) hS.2.2 d_PV_about_60
  have h := h.2 c1
  by_cases c2 : a0 = (1 : Int32)
  · have h := h.1 c2
    refine lv_tableIn (tgt := 61) hx hb d_PV_about_1 (by rw [c2]; decide) (by rw [c2]; decide) (off := 60) (by rw [c2]; rfl) (by decide) ?_
    refine lv_aload_n hx hb d_PV_about_61 rfl (lv_at hl 0 rfl) ?_
    refine va_get (D := G.1) (ci := 0) (v := .ref (q0 4)) (C := R_PV) (T := T_PV) (N := 14) hx hb hts i_PV hown hK hP 0 rfl rfl 4 (by decide) (hts _ wf_PV_50) (fun _ h9 => h9) rfl d_PV_about_62 ?_
    refine va_get (D := G.1) (ci := 5) (v := .int (gI o1 1)) (C := R_Mo) (T := T_Mo) (N := 13) hx hb hts i_Mo hown hK hP 5 rfl rfl 1 (by decide) (hts _ wf_PV_173) (fun _ h9 => h9) rfl d_PV_about_65 ?_
    have hP : va_P G.1 CL (cw_PV G h0 q0 o0 ++ (cw_Mo G (q0 4) q1 r1 o1 ++ (cw_Fo G (q1 9) q2 o2 ++ (cw_Ta G (q0 1) q3 o3)))) H := hP
    have hD : va_D A (cw_PV G h0 q0 o0 ++ (cw_Mo G (q0 4) q1 r1 o1 ++ (cw_Fo G (q1 9) q2 o2 ++ (cw_Ta G (q0 1) q3 o3)))) := hD
    exact W.iret (v := (gI o1 1)) hx hb hr (fun t ht hW => ⟨⟨(gI o1 1), (), rfl, h, by rw [ht]; exact hP, va_K.moved hW.alike hK, hD⟩, hS.F ht⟩) hS.2.2 d_PV_about_68
  have h := h.2 c2
  by_cases c3 : a0 = (2 : Int32)
  · have h := h.1 c3
    refine lv_tableIn (tgt := 69) hx hb d_PV_about_1 (by rw [c3]; decide) (by rw [c3]; decide) (off := 68) (by rw [c3]; rfl) (by decide) ?_
    refine lv_aload_n hx hb d_PV_about_69 rfl (lv_at hl 0 rfl) ?_
    refine va_get (D := G.1) (ci := 0) (v := .ref (q0 4)) (C := R_PV) (T := T_PV) (N := 14) hx hb hts i_PV hown hK hP 0 rfl rfl 4 (by decide) (hts _ wf_PV_50) (fun _ h9 => h9) rfl d_PV_about_70 ?_
    refine va_get (D := G.1) (ci := 5) (v := .int (gI o1 11)) (C := R_Mo) (T := T_Mo) (N := 13) hx hb hts i_Mo hown hK hP 5 rfl rfl 11 (by decide) (hts _ wf_PV_269) (fun _ h9 => h9) rfl d_PV_about_73 ?_
    have hP : va_P G.1 CL (cw_PV G h0 q0 o0 ++ (cw_Mo G (q0 4) q1 r1 o1 ++ (cw_Fo G (q1 9) q2 o2 ++ (cw_Ta G (q0 1) q3 o3)))) H := hP
    have hD : va_D A (cw_PV G h0 q0 o0 ++ (cw_Mo G (q0 4) q1 r1 o1 ++ (cw_Fo G (q1 9) q2 o2 ++ (cw_Ta G (q0 1) q3 o3)))) := hD
    exact W.iret (v := (gI o1 11)) hx hb hr (fun t ht hW => ⟨⟨(gI o1 11), (), rfl, h, by rw [ht]; exact hP, va_K.moved hW.alike hK, hD⟩, hS.F ht⟩) hS.2.2 d_PV_about_76
  have h := h.2 c3
  by_cases c4 : a0 = (3 : Int32)
  · have h := h.1 c4
    refine lv_tableIn (tgt := 77) hx hb d_PV_about_1 (by rw [c4]; decide) (by rw [c4]; decide) (off := 76) (by rw [c4]; rfl) (by decide) ?_
    refine lv_aload_n hx hb d_PV_about_77 rfl (lv_at hl 0 rfl) ?_
    refine va_get (D := G.1) (ci := 0) (v := .ref (q0 4)) (C := R_PV) (T := T_PV) (N := 14) hx hb hts i_PV hown hK hP 0 rfl rfl 4 (by decide) (hts _ wf_PV_50) (fun _ h9 => h9) rfl d_PV_about_78 ?_
    refine va_get (D := G.1) (ci := 5) (v := .int (gI o1 12)) (C := R_Mo) (T := T_Mo) (N := 13) hx hb hts i_Mo hown hK hP 5 rfl rfl 12 (by decide) (hts _ wf_PV_276) (fun _ h9 => h9) rfl d_PV_about_81 ?_
    have hP : va_P G.1 CL (cw_PV G h0 q0 o0 ++ (cw_Mo G (q0 4) q1 r1 o1 ++ (cw_Fo G (q1 9) q2 o2 ++ (cw_Ta G (q0 1) q3 o3)))) H := hP
    have hD : va_D A (cw_PV G h0 q0 o0 ++ (cw_Mo G (q0 4) q1 r1 o1 ++ (cw_Fo G (q1 9) q2 o2 ++ (cw_Ta G (q0 1) q3 o3)))) := hD
    exact W.iret (v := (gI o1 12)) hx hb hr (fun t ht hW => ⟨⟨(gI o1 12), (), rfl, h, by rw [ht]; exact hP, va_K.moved hW.alike hK, hD⟩, hS.F ht⟩) hS.2.2 d_PV_about_84
  have h := h.2 c4
  by_cases c5 : a0 = (4 : Int32)
  · have h := h.1 c5
    refine lv_tableIn (tgt := 85) hx hb d_PV_about_1 (by rw [c5]; decide) (by rw [c5]; decide) (off := 84) (by rw [c5]; rfl) (by decide) ?_
    refine lv_aload_n hx hb d_PV_about_85 rfl (lv_at hl 0 rfl) ?_
    refine va_get (D := G.1) (ci := 0) (v := .ref (q0 4)) (C := R_PV) (T := T_PV) (N := 14) hx hb hts i_PV hown hK hP 0 rfl rfl 4 (by decide) (hts _ wf_PV_50) (fun _ h9 => h9) rfl d_PV_about_86 ?_
    refine va_get (D := G.1) (ci := 5) (v := .int (gI o1 2)) (C := R_Mo) (T := T_Mo) (N := 13) hx hb hts i_Mo hown hK hP 5 rfl rfl 2 (by decide) (hts _ wf_PV_132) (fun _ h9 => h9) rfl d_PV_about_89 ?_
    have hP : va_P G.1 CL (cw_PV G h0 q0 o0 ++ (cw_Mo G (q0 4) q1 r1 o1 ++ (cw_Fo G (q1 9) q2 o2 ++ (cw_Ta G (q0 1) q3 o3)))) H := hP
    have hD : va_D A (cw_PV G h0 q0 o0 ++ (cw_Mo G (q0 4) q1 r1 o1 ++ (cw_Fo G (q1 9) q2 o2 ++ (cw_Ta G (q0 1) q3 o3)))) := hD
    exact W.iret (v := (gI o1 2)) hx hb hr (fun t ht hW => ⟨⟨(gI o1 2), (), rfl, h, by rw [ht]; exact hP, va_K.moved hW.alike hK, hD⟩, hS.F ht⟩) hS.2.2 d_PV_about_92
  have h := h.2 c5
  by_cases c6 : a0 = (5 : Int32)
  · have h := h.1 c6
    refine lv_tableIn (tgt := 93) hx hb d_PV_about_1 (by rw [c6]; decide) (by rw [c6]; decide) (off := 92) (by rw [c6]; rfl) (by decide) ?_
    refine lv_aload_n hx hb d_PV_about_93 rfl (lv_at hl 0 rfl) ?_
    refine cl_Vi (b := b_PV_about) (As := []) (rest := []) (ws := [(h0, .inr (0, [.int (gI o0 0), .ref (q0 1), .ref (q0 2), .ref (q0 3), .ref (q0 4), .ref (q0 5), .ref (q0 6), .ref (q0 7), .ref (q0 8), .ref (q0 9), .ref (q0 10), .ref (q0 11), .ref (q0 12), .ref (q0 13)])), kQ G (q0 3) 3 (fun i => some (q0 (50 + i))), kI G (q0 6) 1000 (gA o0 6), kJ G (q0 7) 2000 (gB o0 7), kI G (q0 13) 5 (gA o0 13), ((q0 4), .inr (5, [.ref (r1 0), .int (gI o1 1), .int (gI o1 2), .ref (q1 3), .ref (q1 4), .ref (q1 5), .ref (q1 6), .ref (q1 7), .ref (q1 8), .ref (q1 9), .ref (q1 10), .int (gI o1 11), .int (gI o1 12)])), kI G (q1 3) 20 (gA o1 3), kI G (q1 4) 20 (gA o1 4), kI G (q1 5) 5 (gA o1 5), kJ G (q1 6) 5 (gB o1 6), kJ G (q1 7) 5 (gB o1 7), kJ G (q1 8) 6 (gB o1 8), kI G (q1 10) 5 (gA o1 10), ((q1 9), .inr (1, [.int (gI o2 0), .int (gI o2 1), .int (gI o2 2), .int (gI o2 3), .int (gI o2 4), .int (gI o2 5), .int (gI o2 6)])), ((q0 1), .inr (10, [.ref (q3 0), .int (gI o3 1)])), kB G (q3 0) 400 (gA o3 0)]) (wr := [((q1 9), .inr (1, [.int (gI o2 0), .int (gI o2 1), .int (gI o2 2), .int (gI o2 3), .int (gI o2 4), .int (gI o2 5), .int (gI o2 6)])), ((q0 1), .inr (10, [.ref (q3 0), .int (gI o3 1)])), kB G (q3 0) 400 (gA o3 0)]) (w2 := fun (u : Unit) => [(h0, .inr (0, [.int (gI o0 0), .ref (q0 1), .ref (q0 2), .ref (q0 3), .ref (q0 4), .ref (q0 5), .ref (q0 6), .ref (q0 7), .ref (q0 8), .ref (q0 9), .ref (q0 10), .ref (q0 11), .ref (q0 12), .ref (q0 13)])), kQ G (q0 3) 3 (fun i => some (q0 (50 + i))), kI G (q0 6) 1000 (gA o0 6), kJ G (q0 7) 2000 (gB o0 7), kI G (q0 13) 5 (gA o0 13), ((q0 4), .inr (5, [.ref (r1 0), .int (gI o1 1), .int (gI o1 2), .ref (q1 3), .ref (q1 4), .ref (q1 5), .ref (q1 6), .ref (q1 7), .ref (q1 8), .ref (q1 9), .ref (q1 10), .int (gI o1 11), .int (gI o1 12)])), kI G (q1 3) 20 (gA o1 3), kI G (q1 4) 20 (gA o1 4), kI G (q1 5) 5 (gA o1 5), kJ G (q1 6) 5 (gB o1 6), kJ G (q1 7) 5 (gB o1 7), kJ G (q1 8) 6 (gB o1 8), kI G (q1 10) 5 (gA o1 10), ((q1 9), .inr (1, [.int (gI o2 0), .int (gI o2 1), .int (gI o2 2), .int (gI o2 3), .int (gI o2 4), .int (gI o2 5), .int (gI o2 6)])), ((q0 1), .inr (10, [.ref (q3 0), .int (gI o3 1)])), kB G (q3 0) 400 (gA o3 0)]) C (c_PV_countShapes (h0 := h0) (q0 := q0) (q1 := q1) H.size h) wv_PV_262 ⟨Nat.le_of_ble_eq_true rfl, Nat.le_of_ble_eq_true rfl⟩ hP hD hS 0 rfl rfl [0, 1, 2, 3, 4, 5, 6, 7, 8, 9, 10, 11, 12] [13, 14, 15] rfl rfl (by decide) (by decide) (by decide) [3, 4, 5, 6, 7, 8, 9, 10, 11, 12, 13, 14, 15, 0, 1, 2] (by decide) (fun u => rfl) rfl hl.1 rfl (lv_room (Nat.le_of_ble_eq_true rfl)) d_PV_about_94 ⟨Nat.le_of_ble_eq_true rfl, Nat.le_of_ble_eq_true rfl⟩ rfl rfl (fun z7 u H locs h hP hD hS => ?_)
    have hP : va_P G.1 CL [(h0, .inr (0, [.int (gI o0 0), .ref (q0 1), .ref (q0 2), .ref (q0 3), .ref (q0 4), .ref (q0 5), .ref (q0 6), .ref (q0 7), .ref (q0 8), .ref (q0 9), .ref (q0 10), .ref (q0 11), .ref (q0 12), .ref (q0 13)])), kQ G (q0 3) 3 (fun i => some (q0 (50 + i))), kI G (q0 6) 1000 (gA o0 6), kJ G (q0 7) 2000 (gB o0 7), kI G (q0 13) 5 (gA o0 13), ((q0 4), .inr (5, [.ref (r1 0), .int (gI o1 1), .int (gI o1 2), .ref (q1 3), .ref (q1 4), .ref (q1 5), .ref (q1 6), .ref (q1 7), .ref (q1 8), .ref (q1 9), .ref (q1 10), .int (gI o1 11), .int (gI o1 12)])), kI G (q1 3) 20 (gA o1 3), kI G (q1 4) 20 (gA o1 4), kI G (q1 5) 5 (gA o1 5), kJ G (q1 6) 5 (gB o1 6), kJ G (q1 7) 5 (gB o1 7), kJ G (q1 8) 6 (gB o1 8), kI G (q1 10) 5 (gA o1 10), ((q1 9), .inr (1, [.int (gI o2 0), .int (gI o2 1), .int (gI o2 2), .int (gI o2 3), .int (gI o2 4), .int (gI o2 5), .int (gI o2 6)])), ((q0 1), .inr (10, [.ref (q3 0), .int (gI o3 1)])), kB G (q3 0) 400 (gA o3 0)] H := hP
    have hD : va_D A [(h0, .inr (0, [.int (gI o0 0), .ref (q0 1), .ref (q0 2), .ref (q0 3), .ref (q0 4), .ref (q0 5), .ref (q0 6), .ref (q0 7), .ref (q0 8), .ref (q0 9), .ref (q0 10), .ref (q0 11), .ref (q0 12), .ref (q0 13)])), kQ G (q0 3) 3 (fun i => some (q0 (50 + i))), kI G (q0 6) 1000 (gA o0 6), kJ G (q0 7) 2000 (gB o0 7), kI G (q0 13) 5 (gA o0 13), ((q0 4), .inr (5, [.ref (r1 0), .int (gI o1 1), .int (gI o1 2), .ref (q1 3), .ref (q1 4), .ref (q1 5), .ref (q1 6), .ref (q1 7), .ref (q1 8), .ref (q1 9), .ref (q1 10), .int (gI o1 11), .int (gI o1 12)])), kI G (q1 3) 20 (gA o1 3), kI G (q1 4) 20 (gA o1 4), kI G (q1 5) 5 (gA o1 5), kJ G (q1 6) 5 (gB o1 6), kJ G (q1 7) 5 (gB o1 7), kJ G (q1 8) 6 (gB o1 8), kI G (q1 10) 5 (gA o1 10), ((q1 9), .inr (1, [.int (gI o2 0), .int (gI o2 1), .int (gI o2 2), .int (gI o2 3), .int (gI o2 4), .int (gI o2 5), .int (gI o2 6)])), ((q0 1), .inr (10, [.ref (q3 0), .int (gI o3 1)])), kB G (q3 0) 400 (gA o3 0)] := hD
    have hP : va_P G.1 CL (cw_PV G h0 q0 o0 ++ (cw_Mo G (q0 4) q1 r1 o1 ++ (cw_Fo G (q1 9) q2 o2 ++ (cw_Ta G (q0 1) q3 o3)))) H := hP
    have hD : va_D A (cw_PV G h0 q0 o0 ++ (cw_Mo G (q0 4) q1 r1 o1 ++ (cw_Fo G (q1 9) q2 o2 ++ (cw_Ta G (q0 1) q3 o3)))) := hD
    exact W.iret (v := z7) hx hb hr (fun t ht hW => ⟨⟨z7, (), rfl, h, by rw [ht]; exact hP, va_K.moved hW.alike hK, hD⟩, hS.F ht⟩) hS.2.2 d_PV_about_97
  have h := h.2 c6
  by_cases c8 : a0 = (6 : Int32)
  · have h := h.1 c8
    refine lv_tableIn (tgt := 98) hx hb d_PV_about_1 (by rw [c8]; decide) (by rw [c8]; decide) (off := 97) (by rw [c8]; rfl) (by decide) ?_
    refine lv_aload_n hx hb d_PV_about_98 rfl (lv_at hl 0 rfl) ?_
    refine va_get (D := G.1) (ci := 0) (v := .ref (q0 1)) (C := R_PV) (T := T_PV) (N := 14) hx hb hts i_PV hown hK hP 0 rfl rfl 1 (by decide) (hts _ wf_PV_25) (fun _ h9 => h9) rfl d_PV_about_99 ?_
    refine va_get (D := G.1) (ci := 10) (v := .int (gI o3 1)) (C := R_Ta) (T := T_Ta) (N := 2) hx hb hts i_Ta hown hK hP 14 rfl rfl 1 (by decide) (hts _ wf_PV_105) (fun _ h9 => h9) rfl d_PV_about_102 ?_
    have hP : va_P G.1 CL (cw_PV G h0 q0 o0 ++ (cw_Mo G (q0 4) q1 r1 o1 ++ (cw_Fo G (q1 9) q2 o2 ++ (cw_Ta G (q0 1) q3 o3)))) H := hP
    have hD : va_D A (cw_PV G h0 q0 o0 ++ (cw_Mo G (q0 4) q1 r1 o1 ++ (cw_Fo G (q1 9) q2 o2 ++ (cw_Ta G (q0 1) q3 o3)))) := hD
    exact W.iret (v := (gI o3 1)) hx hb hr (fun t ht hW => ⟨⟨(gI o3 1), (), rfl, h, by rw [ht]; exact hP, va_K.moved hW.alike hK, hD⟩, hS.F ht⟩) hS.2.2 d_PV_about_105
  have h := h.2 c8
  by_cases c9 : a0 = (7 : Int32)
  · have h := h.1 c9
    refine lv_tableIn (tgt := 106) hx hb d_PV_about_1 (by rw [c9]; decide) (by rw [c9]; decide) (off := 105) (by rw [c9]; rfl) (by decide) ?_
    refine lv_aload_n hx hb d_PV_about_106 rfl (lv_at hl 0 rfl) ?_
    refine va_get (D := G.1) (ci := 0) (v := .ref (q0 4)) (C := R_PV) (T := T_PV) (N := 14) hx hb hts i_PV hown hK hP 0 rfl rfl 4 (by decide) (hts _ wf_PV_50) (fun _ h9 => h9) rfl d_PV_about_107 ?_
    refine va_get (D := G.1) (ci := 5) (v := .ref (q1 9)) (C := R_Mo) (T := T_Mo) (N := 13) hx hb hts i_Mo hown hK hP 5 rfl rfl 9 (by decide) (hts _ wf_PV_179) (fun _ h9 => h9) rfl d_PV_about_110 ?_
    refine va_get (D := G.1) (ci := 1) (v := .int (gI o2 2)) (C := R_Fo) (T := T_Fo) (N := 7) hx hb hts i_Fo hown hK hP 13 rfl rfl 2 (by decide) (hts _ wf_PV_183) (fun _ h9 => h9) rfl d_PV_about_113 ?_
    have hP : va_P G.1 CL (cw_PV G h0 q0 o0 ++ (cw_Mo G (q0 4) q1 r1 o1 ++ (cw_Fo G (q1 9) q2 o2 ++ (cw_Ta G (q0 1) q3 o3)))) H := hP
    have hD : va_D A (cw_PV G h0 q0 o0 ++ (cw_Mo G (q0 4) q1 r1 o1 ++ (cw_Fo G (q1 9) q2 o2 ++ (cw_Ta G (q0 1) q3 o3)))) := hD
    exact W.iret (v := (gI o2 2)) hx hb hr (fun t ht hW => ⟨⟨(gI o2 2), (), rfl, h, by rw [ht]; exact hP, va_K.moved hW.alike hK, hD⟩, hS.F ht⟩) hS.2.2 d_PV_about_116
  have h := h.2 c9
  by_cases c10 : a0 = (8 : Int32)
  · have h := h.1 c10
    refine lv_tableIn (tgt := 117) hx hb d_PV_about_1 (by rw [c10]; decide) (by rw [c10]; decide) (off := 116) (by rw [c10]; rfl) (by decide) ?_
    refine lv_aload_n hx hb d_PV_about_117 rfl (lv_at hl 0 rfl) ?_
    refine va_get (D := G.1) (ci := 0) (v := .ref (q0 4)) (C := R_PV) (T := T_PV) (N := 14) hx hb hts i_PV hown hK hP 0 rfl rfl 4 (by decide) (hts _ wf_PV_50) (fun _ h9 => h9) rfl d_PV_about_118 ?_
    refine va_get (D := G.1) (ci := 5) (v := .ref (q1 9)) (C := R_Mo) (T := T_Mo) (N := 13) hx hb hts i_Mo hown hK hP 5 rfl rfl 9 (by decide) (hts _ wf_PV_179) (fun _ h9 => h9) rfl d_PV_about_121 ?_
    refine va_get (D := G.1) (ci := 1) (v := .int (gI o2 3)) (C := R_Fo) (T := T_Fo) (N := 7) hx hb hts i_Fo hown hK hP 13 rfl rfl 3 (by decide) (hts _ wf_PV_188) (fun _ h9 => h9) rfl d_PV_about_124 ?_
    have hP : va_P G.1 CL (cw_PV G h0 q0 o0 ++ (cw_Mo G (q0 4) q1 r1 o1 ++ (cw_Fo G (q1 9) q2 o2 ++ (cw_Ta G (q0 1) q3 o3)))) H := hP
    have hD : va_D A (cw_PV G h0 q0 o0 ++ (cw_Mo G (q0 4) q1 r1 o1 ++ (cw_Fo G (q1 9) q2 o2 ++ (cw_Ta G (q0 1) q3 o3)))) := hD
    exact W.iret (v := (gI o2 3)) hx hb hr (fun t ht hW => ⟨⟨(gI o2 3), (), rfl, h, by rw [ht]; exact hP, va_K.moved hW.alike hK, hD⟩, hS.F ht⟩) hS.2.2 d_PV_about_127
  have h := h.2 c10
  by_cases c11 : a0 = (9 : Int32)
  · have h := h.1 c11
    refine lv_tableIn (tgt := 128) hx hb d_PV_about_1 (by rw [c11]; decide) (by rw [c11]; decide) (off := 127) (by rw [c11]; rfl) (by decide) ?_
    refine lv_aload_n hx hb d_PV_about_128 rfl (lv_at hl 0 rfl) ?_
    refine va_get (D := G.1) (ci := 0) (v := .ref (q0 4)) (C := R_PV) (T := T_PV) (N := 14) hx hb hts i_PV hown hK hP 0 rfl rfl 4 (by decide) (hts _ wf_PV_50) (fun _ h9 => h9) rfl d_PV_about_129 ?_
    refine va_get (D := G.1) (ci := 5) (v := .ref (q1 9)) (C := R_Mo) (T := T_Mo) (N := 13) hx hb hts i_Mo hown hK hP 5 rfl rfl 9 (by decide) (hts _ wf_PV_179) (fun _ h9 => h9) rfl d_PV_about_132 ?_
    refine va_get (D := G.1) (ci := 1) (v := .int (gI o2 4)) (C := R_Fo) (T := T_Fo) (N := 7) hx hb hts i_Fo hown hK hP 13 rfl rfl 4 (by decide) (hts _ wf_PV_191) (fun _ h9 => h9) rfl d_PV_about_135 ?_
    have hP : va_P G.1 CL (cw_PV G h0 q0 o0 ++ (cw_Mo G (q0 4) q1 r1 o1 ++ (cw_Fo G (q1 9) q2 o2 ++ (cw_Ta G (q0 1) q3 o3)))) H := hP
    have hD : va_D A (cw_PV G h0 q0 o0 ++ (cw_Mo G (q0 4) q1 r1 o1 ++ (cw_Fo G (q1 9) q2 o2 ++ (cw_Ta G (q0 1) q3 o3)))) := hD
    exact W.iret (v := (gI o2 4)) hx hb hr (fun t ht hW => ⟨⟨(gI o2 4), (), rfl, h, by rw [ht]; exact hP, va_K.moved hW.alike hK, hD⟩, hS.F ht⟩) hS.2.2 d_PV_about_138
  have h := h.2 c11
  refine lv_tableOut (tgt := 139) hx hb d_PV_about_1 (sw_out a0 [(0 : Int32), (1 : Int32), (2 : Int32), (3 : Int32), (4 : Int32), (5 : Int32), (6 : Int32), (7 : Int32), (8 : Int32), (9 : Int32)] rfl (by intro k hk; simp only [List.mem_cons, List.not_mem_nil, or_false] at hk; rcases hk with rfl | rfl | rfl | rfl | rfl | rfl | rfl | rfl | rfl | rfl <;> assumption)) (by decide) ?_
  refine lv_iconst (v := (-1 : Int32)) hx hb d_PV_about_139 (by decide) ?_
  have hP : va_P G.1 CL (cw_PV G h0 q0 o0 ++ (cw_Mo G (q0 4) q1 r1 o1 ++ (cw_Fo G (q1 9) q2 o2 ++ (cw_Ta G (q0 1) q3 o3)))) H := hP
  have hD : va_D A (cw_PV G h0 q0 o0 ++ (cw_Mo G (q0 4) q1 r1 o1 ++ (cw_Fo G (q1 9) q2 o2 ++ (cw_Ta G (q0 1) q3 o3)))) := hD
  exact W.iret (v := (-1 : Int32)) hx hb hr (fun t ht hW => ⟨⟨(-1 : Int32), (), rfl, h, by rw [ht]; exact hP, va_K.moved hW.alike hK, hD⟩, hS.F ht⟩) hS.2.2 d_PV_about_140
