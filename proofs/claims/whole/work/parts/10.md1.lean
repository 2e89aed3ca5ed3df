abbrev b_Md_isIn : ByteArray := prog_14_method_4_code
def y_Md_isIn : MethodName := ⟨R_Md, "isIn", "(III)Z"⟩
abbrev w_Md_isIn : List Cond := Cond.code y_Md_isIn b_Md_isIn 3 (some .boolean) :: gw_tbl
theorem d_Md_isIn_0 : decode b_Md_isIn 0 = .ok (.iload_n 0, 1) := by decide +kernel
theorem d_Md_isIn_1 : decode b_Md_isIn 1 = .ok (.iload_n 1, 1) := by decide +kernel
theorem d_Md_isIn_2 : decode b_Md_isIn 2 = .ok (.if_icmp .lt 12, 3) := by decide +kernel
theorem d_Md_isIn_5 : decode b_Md_isIn 5 = .ok (.iload_n 0, 1) := by decide +kernel
theorem d_Md_isIn_6 : decode b_Md_isIn 6 = .ok (.iload_n 2, 1) := by decide +kernel
theorem d_Md_isIn_7 : decode b_Md_isIn 7 = .ok (.if_icmp .gt 7, 3) := by decide +kernel
theorem d_Md_isIn_10 : decode b_Md_isIn 10 = .ok (.iconst 1, 1) := by decide +kernel
theorem d_Md_isIn_11 : decode b_Md_isIn 11 = .ok (.goto 4, 3) := by decide +kernel
theorem d_Md_isIn_14 : decode b_Md_isIn 14 = .ok (.iconst 0, 1) := by decide +kernel
theorem d_Md_isIn_15 : decode b_Md_isIn 15 = .ok (.ireturn, 1) := by decide +kernel
def f_Md_isIn (a0 : Int32) (a1 : Int32) (a2 : Int32) (Q : Int32 → Prop) : Prop := (a0 < a1 → (Q (0 : Int32))) ∧ (¬ a0 < a1 → ((a2 < a0 → (Q (0 : Int32))) ∧ (¬ a2 < a0 → (Q (1 : Int32)))))
abbrev rm_Md_isIn : Room := { frames := 0, cells := 0, slots := 0, locals := 0 }
set_option maxHeartbeats 4000000 in
set_option maxRecDepth 100000 in
theorem c_Md_isIn {l : Launch} {G : Gl} {a0 : Int32} {a1 : Int32} {a2 : Int32} {Q : Int32 → Prop} (sz : Nat) (h : f_Md_isIn a0 a1 a2 Q) : Met l y_Md_isIn w_Md_isIn rm_Md_isIn (PcW G [.int a0, .int a1, .int a2] sz ([])) (va_Qi (fun (r : Int32) (u : Unit) => Q r) (fun (u : Unit) t => BW G (va_A ([]) sz) ([]) t) (va_A ([]) sz)) 0 0 (va_A ([]) sz) := by
  refine Met.ofW (cc := b_Md_isIn) (maxL := 3) (ret := (some .boolean)) (by decide +kernel) rfl ?_
  intro p e s m args below meth c s₁ B hml hv
  obtain ⟨rfl, hsz, hP, hK, hD0, hE⟩ := hv
  have hx := B.exec
  have hb := B.bytes
  have hr := B.returns
  have hts0 := atoms_spec (ws := w_Md_isIn) B.pre
  have hts : ∀ w ∈ gw_tbl, w.before ([.int a0, .int a1, .int a2]).toArray s = true := fun w hw => hts0 w (List.mem_cons_of_mem _ hw)
  have hown : s.vm.findClass R_Md = some m.cls := findClass_of_methodNamed B.named
  have hlocks := B.notSynchronized
  subst hsz
  have hD := hD0.self (sz := s.heap.size)
  generalize hAe : va_A ([]) s.heap.size = A at hD hE ⊢
  have hA : ∀ q : Nat, s.heap.size ≤ q → A q := fun q h => by rw [← hAe]; exact Or.inr h
  have hS : va_S A s.heap s.heap [] := va_S.rf
  have C : Cx p s m ([.int a0, .int a1, .int a2]).toArray meth c R_Md b_Md_isIn 3 (some .boolean) G A := ⟨hx, hb, hml, hown, hr, hts, hK, hA, hlocks, hE⟩
  have hl := lv_entry ([.int a0, .int a1, .int a2]) (n := 3) (Nat.le_of_ble_eq_true rfl)
  rw [lg_entry_eq]
  generalize (lg_sl ([.int a0, .int a1, .int a2]) ++ List.replicate (3 - (lg_sl ([.int a0, .int a1, .int a2])).length) Slot.unset).toArray = ls at hl ⊢
  have hl : lv_has ls 3 [(0, .int a0), (1, .int a1), (2, .int a2)] := hl
  have hD : va_D A [] := hD
  unfold f_Md_isIn at h
  suffices key : ∀ (H : Heap) (locs : List Loc), va_P G.1 CL [] H → va_S A s.heap H locs → W p l e rm_Md_isIn s m ([.int a0, .int a1, .int a2]).toArray below meth c H locs 0 0 (MQ below (va_Qi (fun (r : Int32) (u : Unit) => Q r) (fun (u : Unit) t => BW G A ([]) t) A) ([.int a0, .int a1, .int a2]).toArray s 0 0 A) (F0 m 0 ls []) from key s.heap [] hP hS
  intro H locs hP hS
  refine lv_iload_n hx hb d_Md_isIn_0 rfl (lv_at hl 0 rfl) ?_
  refine lv_iload_n hx hb d_Md_isIn_1 rfl (lv_at hl 1 rfl) ?_
  refine lv_icmp_lt (tgt := 14) hx hb d_Md_isIn_2 (by decide) (fun c1 => ?_) (fun c1 => ?_)
  · have h := h.1 c1
    refine lv_iconst (v := (0 : Int32)) hx hb d_Md_isIn_14 (by decide) ?_
    have hP : va_P G.1 CL ([]) H := hP
    have hD : va_D A ([]) := hD
    exact W.zret (v := (0 : Int32)) hx hb hr rfl (fun t ht hW => ⟨⟨(0 : Int32), (), rfl, h, by rw [ht]; exact hP, va_K.moved hW.alike hK, hD⟩, hS.F ht⟩) hS.2.2 d_Md_isIn_15
  · have h := h.2 c1
    refine lv_iload_n hx hb d_Md_isIn_5 rfl (lv_at hl 0 rfl) ?_
    refine lv_iload_n hx hb d_Md_isIn_6 rfl (lv_at hl 2 rfl) ?_
    refine lv_icmp_gt (tgt := 14) hx hb d_Md_isIn_7 (by decide) (fun c2 => ?_) (fun c2 => ?_)
    · have h := h.1 c2
      refine lv_iconst (v := (0 : Int32)) hx hb d_Md_isIn_14 (by decide) ?_
      have hP : va_P G.1 CL ([]) H := hP
      have hD : va_D A ([]) := hD
      exact W.zret (v := (0 : Int32)) hx hb hr rfl (fun t ht hW => ⟨⟨(0 : Int32), (), rfl, h, by rw [ht]; exact hP, va_K.moved hW.alike hK, hD⟩, hS.F ht⟩) hS.2.2 d_Md_isIn_15
    · have h := h.2 c2
      refine lv_iconst (v := (1 : Int32)) hx hb d_Md_isIn_10 (by decide) ?_
      refine lv_goto (tgt := 15) hx hb d_Md_isIn_11 (by decide) ?_
      have hP : va_P G.1 CL ([]) H := hP
      have hD : va_D A ([]) := hD
      exact W.zret (v := (1 : Int32)) hx hb hr rfl (fun t ht hW => ⟨⟨(1 : Int32), (), rfl, h, by rw [ht]; exact hP, va_K.moved hW.alike hK, hD⟩, hS.F ht⟩) hS.2.2 d_Md_isIn_15
abbrev b_Md_isPiece : ByteArray := prog_14_method_5_code
def y_Md_isPiece : MethodName := ⟨R_Md, "isPiece", "(I)Z"⟩
abbrev w_Md_isPiece : List Cond := Cond.code y_Md_isPiece b_Md_isPiece 2 (some .boolean) :: gw_tbl
theorem d_Md_isPiece_0 : decode b_Md_isPiece 0 = .ok (.iload_n 1, 1) := by decide +kernel
theorem d_Md_isPiece_1 : decode b_Md_isPiece 1 = .ok (.iconst 0, 1) := by decide +kernel
theorem d_Md_isPiece_2 : decode b_Md_isPiece 2 = .ok (.aload_n 0, 1) := by decide +kernel
theorem d_Md_isPiece_3 : decode b_Md_isPiece 3 = .ok (.getfield 67, 3) := by decide +kernel
theorem d_Md_isPiece_6 : decode b_Md_isPiece 6 = .ok (.iconst 1, 1) := by decide +kernel
theorem d_Md_isPiece_7 : decode b_Md_isPiece 7 = .ok (.isub, 1) := by decide +kernel
theorem d_Md_isPiece_8 : decode b_Md_isPiece 8 = .ok (.invokestatic 76, 3) := by decide +kernel
theorem d_Md_isPiece_11 : decode b_Md_isPiece 11 = .ok (.ireturn, 1) := by decide +kernel
theorem wf_Md_67 : Cond.fieldLink R_Md 67 R_Md "pieces" "I" ∈ gw_tbl := gw_tb (List.mem_of_getElem? (i := 971) (by decide +kernel)) rfl
theorem ws_Md_76 : wS R_Md 76 y_Md_isIn b_Md_isIn 3 (some .boolean) 3 := ⟨⟨gw_tb (List.mem_of_getElem? (i := 1120) (by decide +kernel)) rfl, gw_tb (List.mem_of_getElem? (i := 13) (by decide +kernel)) rfl, gw_tb (List.mem_of_getElem? (i := 1122) (by decide +kernel)) rfl, by decide, by decide, by decide +kernel⟩, gw_tb (List.mem_of_getElem? (i := 1121) (by decide +kernel)) rfl⟩
def f_Md_isPiece (a0 : Int32) (o0 : Ob) (Q : Int32 → Prop) : Prop := f_Md_isIn a0 (0 : Int32) ((gI o0 0) - (1 : Int32)) (fun z1 => (narrow .boolean (.int z1) = .int z1) ∧ (Q z1))
abbrev rm_Md_isPiece : Room := { frames := 1, cells := 0, slots := 0, locals := 22 }
set_option maxHeartbeats 4000000 in
set_option maxRecDepth 100000 in
theorem c_Md_isPiece {l : Launch} {G : Gl} {h0 : Nat} {q0 : Nat → Nat} {a0 : Int32} {o0 : Ob} {Q : Int32 → Prop} (sz : Nat) (h : f_Md_isPiece a0 o0 Q) : Met l y_Md_isPiece w_Md_isPiece rm_Md_isPiece (PcW G [.ref h0, .int a0] sz (cw_Md G h0 q0 o0)) (va_Qi (fun (r : Int32) (u : Unit) => Q r) (fun (u : Unit) t => BW G (va_A (cw_Md G h0 q0 o0) sz) (cw_Md G h0 q0 o0) t) (va_A (cw_Md G h0 q0 o0) sz)) 0 0 (va_A (cw_Md G h0 q0 o0) sz) := by
  refine Met.ofW (cc := b_Md_isPiece) (maxL := 2) (ret := (some .boolean)) (by decide +kernel) rfl ?_
  intro p e s m args below meth c s₁ B hml hv
  obtain ⟨rfl, hsz, hP, hK, hD0, hE⟩ := hv
  have hx := B.exec
  have hb := B.bytes
  have hr := B.returns
  have hts0 := atoms_spec (ws := w_Md_isPiece) B.pre
  have hts : ∀ w ∈ gw_tbl, w.before ([.ref h0, .int a0]).toArray s = true := fun w hw => hts0 w (List.mem_cons_of_mem _ hw)
  have hown : s.vm.findClass R_Md = some m.cls := findClass_of_methodNamed B.named
  have hlocks := B.notSynchronized
  subst hsz
  have hD := hD0.self (sz := s.heap.size)
  generalize hAe : va_A (cw_Md G h0 q0 o0) s.heap.size = A at hD hE ⊢
  have hA : ∀ q : Nat, s.heap.size ≤ q → A q := fun q h => by rw [← hAe]; exact Or.inr h
  have hS : va_S A s.heap s.heap [] := va_S.rf
  have C : Cx p s m ([.ref h0, .int a0]).toArray meth c R_Md b_Md_isPiece 2 (some .boolean) G A := ⟨hx, hb, hml, hown, hr, hts, hK, hA, hlocks, hE⟩
  have hl := lv_entry ([.ref h0, .int a0]) (n := 2) (Nat.le_of_ble_eq_true rfl)
  rw [lg_entry_eq]
  generalize (lg_sl ([.ref h0, .int a0]) ++ List.replicate (2 - (lg_sl ([.ref h0, .int a0])).length) Slot.unset).toArray = ls at hl ⊢
  have hl : lv_has ls 2 [(0, .ref h0), (1, .int a0)] := hl
  have hD : va_D A [(h0, .inr (11, [.int (gI o0 0), .ref (q0 1), .ref (q0 2), .ref (q0 3), .ref (q0 4), .ref (q0 5), .ref (q0 6), .int (gI o0 7), .int (gI o0 8), .int (gI o0 9), .int (gI o0 10), .int (gI o0 11), .int (gI o0 12), .int (gI o0 13), .int (gI o0 14), .long (gL o0 15), .int (gI o0 16), .int (gI o0 17), .int (gI o0 18), .int (gI o0 19), .int (gI o0 20), .int (gI o0 21), .int (gI o0 22), .int (gI o0 23), .int (gI o0 24), .int (gI o0 25), .int (gI o0 26), .int (gI o0 27), .ref (q0 28), .long (gL o0 29), .int (gI o0 30), .ref (q0 31), .ref (q0 32), .ref (q0 33), .int (gI o0 34), .int (gI o0 35), .int (gI o0 36), .int (gI o0 37), .ref (q0 38), .ref (q0 39), .int (gI o0 40), .ref (q0 41), .ref (q0 42), .ref (q0 43), .ref (q0 44)])), kI G (q0 1) 6100 (gA o0 1), kI G (q0 2) 6100 (gA o0 2), kJ G (q0 3) 2016 (gB o0 3), kJ G (q0 4) 2016 (gB o0 4), kI G (q0 5) 300 (gA o0 5), kI G (q0 6) 400 (gA o0 6), kJ G (q0 28) 10 (gB o0 28), kI G (q0 31) 969 (gA o0 31), kI G (q0 32) 969 (gA o0 32), kI G (q0 33) 969 (gA o0 33), kI G (q0 38) 5 (gA o0 38), kI G (q0 39) 5120 (gA o0 39), kI G (q0 41) 5 (gA o0 41), kZ G (q0 42) 1024 (gA o0 42), kI G (q0 43) 8192 (gA o0 43), kI G (q0 44) 8192 (gA o0 44)] := hD
  unfold f_Md_isPiece at h
  suffices key : ∀ (H : Heap) (locs : List Loc), va_P G.1 CL [(h0, .inr (11, [.int (gI o0 0), .ref (q0 1), .ref (q0 2), .ref (q0 3), .ref (q0 4), .ref (q0 5), .ref (q0 6), .int (gI o0 7), .int (gI o0 8), .int (gI o0 9), .int (gI o0 10), .int (gI o0 11), .int (gI o0 12), .int (gI o0 13), .int (gI o0 14), .long (gL o0 15), .int (gI o0 16), .int (gI o0 17), .int (gI o0 18), .int (gI o0 19), .int (gI o0 20), .int (gI o0 21), .int (gI o0 22), .int (gI o0 23), .int (gI o0 24), .int (gI o0 25), .int (gI o0 26), .int (gI o0 27), .ref (q0 28), .long (gL o0 29), .int (gI o0 30), .ref (q0 31), .ref (q0 32), .ref (q0 33), .int (gI o0 34), .int (gI o0 35), .int (gI o0 36), .int (gI o0 37), .ref (q0 38), .ref (q0 39), .int (gI o0 40), .ref (q0 41), .ref (q0 42), .ref (q0 43), .ref (q0 44)])), kI G (q0 1) 6100 (gA o0 1), kI G (q0 2) 6100 (gA o0 2), kJ G (q0 3) 2016 (gB o0 3), kJ G (q0 4) 2016 (gB o0 4), kI G (q0 5) 300 (gA o0 5), kI G (q0 6) 400 (gA o0 6), kJ G (q0 28) 10 (gB o0 28), kI G (q0 31) 969 (gA o0 31), kI G (q0 32) 969 (gA o0 32), kI G (q0 33) 969 (gA o0 33), kI G (q0 38) 5 (gA o0 38), kI G (q0 39) 5120 (gA o0 39), kI G (q0 41) 5 (gA o0 41), kZ G (q0 42) 1024 (gA o0 42), kI G (q0 43) 8192 (gA o0 43), kI G (q0 44) 8192 (gA o0 44)] H → va_S A s.heap H locs → W p l e rm_Md_isPiece s m ([.ref h0, .int a0]).toArray below meth c H locs 0 0 (MQ below (va_Qi (fun (r : Int32) (u : Unit) => Q r) (fun (u : Unit) t => BW G A (cw_Md G h0 q0 o0) t) A) ([.ref h0, .int a0]).toArray s 0 0 A) (F0 m 0 ls []) from key s.heap [] hP hS
  intro H locs hP hS
  refine lv_iload_n hx hb d_Md_isPiece_0 rfl (lv_at hl 1 rfl) ?_
  refine lv_iconst (v := (0 : Int32)) hx hb d_Md_isPiece_1 (by decide) ?_
  refine lv_aload_n hx hb d_Md_isPiece_2 rfl (lv_at hl 0 rfl) ?_
  refine va_get (D := G.1) (ci := 11) (v := .int (gI o0 0)) (C := R_Md) (T := T_Md) (N := 45) hx hb hts i_Md hown hK hP 0 rfl rfl 0 (by decide) (hts _ wf_Md_67) (fun _ h9 => h9) rfl d_Md_isPiece_3 ?_
  refine lv_iconst (v := (1 : Int32)) hx hb d_Md_isPiece_6 (by decide) ?_
  refine lv_isub hx hb d_Md_isPiece_7 ?_
  refine cl_Si (b := b_Md_isPiece) (As := [.int a0, .int (0 : Int32), .int ((gI o0 0) - (1 : Int32))]) (rest := []) (ws := [(h0, .inr (11, [.int (gI o0 0), .ref (q0 1), .ref (q0 2), .ref (q0 3), .ref (q0 4), .ref (q0 5), .ref (q0 6), .int (gI o0 7), .int (gI o0 8), .int (gI o0 9), .int (gI o0 10), .int (gI o0 11), .int (gI o0 12), .int (gI o0 13), .int (gI o0 14), .long (gL o0 15), .int (gI o0 16), .int (gI o0 17), .int (gI o0 18), .int (gI o0 19), .int (gI o0 20), .int (gI o0 21), .int (gI o0 22), .int (gI o0 23), .int (gI o0 24), .int (gI o0 25), .int (gI o0 26), .int (gI o0 27), .ref (q0 28), .long (gL o0 29), .int (gI o0 30), .ref (q0 31), .ref (q0 32), .ref (q0 33), .int (gI o0 34), .int (gI o0 35), .int (gI o0 36), .int (gI o0 37), .ref (q0 38), .ref (q0 39), .int (gI o0 40), .ref (q0 41), .ref (q0 42), .ref (q0 43), .ref (q0 44)])), kI G (q0 1) 6100 (gA o0 1), kI G (q0 2) 6100 (gA o0 2), kJ G (q0 3) 2016 (gB o0 3), kJ G (q0 4) 2016 (gB o0 4), kI G (q0 5) 300 (gA o0 5), kI G (q0 6) 400 (gA o0 6), kJ G (q0 28) 10 (gB o0 28), kI G (q0 31) 969 (gA o0 31), kI G (q0 32) 969 (gA o0 32), kI G (q0 33) 969 (gA o0 33), kI G (q0 38) 5 (gA o0 38), kI G (q0 39) 5120 (gA o0 39), kI G (q0 41) 5 (gA o0 41), kZ G (q0 42) 1024 (gA o0 42), kI G (q0 43) 8192 (gA o0 43), kI G (q0 44) 8192 (gA o0 44)]) (wr := [(h0, .inr (11, [.int (gI o0 0), .ref (q0 1), .ref (q0 2), .ref (q0 3), .ref (q0 4), .ref (q0 5), .ref (q0 6), .int (gI o0 7), .int (gI o0 8), .int (gI o0 9), .int (gI o0 10), .int (gI o0 11), .int (gI o0 12), .int (gI o0 13), .int (gI o0 14), .long (gL o0 15), .int (gI o0 16), .int (gI o0 17), .int (gI o0 18), .int (gI o0 19), .int (gI o0 20), .int (gI o0 21), .int (gI o0 22), .int (gI o0 23), .int (gI o0 24), .int (gI o0 25), .int (gI o0 26), .int (gI o0 27), .ref (q0 28), .long (gL o0 29), .int (gI o0 30), .ref (q0 31), .ref (q0 32), .ref (q0 33), .int (gI o0 34), .int (gI o0 35), .int (gI o0 36), .int (gI o0 37), .ref (q0 38), .ref (q0 39), .int (gI o0 40), .ref (q0 41), .ref (q0 42), .ref (q0 43), .ref (q0 44)])), kI G (q0 1) 6100 (gA o0 1), kI G (q0 2) 6100 (gA o0 2), kJ G (q0 3) 2016 (gB o0 3), kJ G (q0 4) 2016 (gB o0 4), kI G (q0 5) 300 (gA o0 5), kI G (q0 6) 400 (gA o0 6), kJ G (q0 28) 10 (gB o0 28), kI G (q0 31) 969 (gA o0 31), kI G (q0 32) 969 (gA o0 32), kI G (q0 33) 969 (gA o0 33), kI G (q0 38) 5 (gA o0 38), kI G (q0 39) 5120 (gA o0 39), kI G (q0 41) 5 (gA o0 41), kZ G (q0 42) 1024 (gA o0 42), kI G (q0 43) 8192 (gA o0 43), kI G (q0 44) 8192 (gA o0 44)]) (w2 := fun (u : Unit) => [(h0, .inr (11, [.int (gI o0 0), .ref (q0 1), .ref (q0 2), .ref (q0 3), .ref (q0 4), .ref (q0 5), .ref (q0 6), .int (gI o0 7), .int (gI o0 8), .int (gI o0 9), .int (gI o0 10), .int (gI o0 11), .int (gI o0 12), .int (gI o0 13), .int (gI o0 14), .long (gL o0 15), .int (gI o0 16), .int (gI o0 17), .int (gI o0 18), .int (gI o0 19), .int (gI o0 20), .int (gI o0 21), .int (gI o0 22), .int (gI o0 23), .int (gI o0 24), .int (gI o0 25), .int (gI o0 26), .int (gI o0 27), .ref (q0 28), .long (gL o0 29), .int (gI o0 30), .ref (q0 31), .ref (q0 32), .ref (q0 33), .int (gI o0 34), .int (gI o0 35), .int (gI o0 36), .int (gI o0 37), .ref (q0 38), .ref (q0 39), .int (gI o0 40), .ref (q0 41), .ref (q0 42), .ref (q0 43), .ref (q0 44)])), kI G (q0 1) 6100 (gA o0 1), kI G (q0 2) 6100 (gA o0 2), kJ G (q0 3) 2016 (gB o0 3), kJ G (q0 4) 2016 (gB o0 4), kI G (q0 5) 300 (gA o0 5), kI G (q0 6) 400 (gA o0 6), kJ G (q0 28) 10 (gB o0 28), kI G (q0 31) 969 (gA o0 31), kI G (q0 32) 969 (gA o0 32), kI G (q0 33) 969 (gA o0 33), kI G (q0 38) 5 (gA o0 38), kI G (q0 39) 5120 (gA o0 39), kI G (q0 41) 5 (gA o0 41), kZ G (q0 42) 1024 (gA o0 42), kI G (q0 43) 8192 (gA o0 43), kI G (q0 44) 8192 (gA o0 44)]) C (c_Md_isIn H.size h) ws_Md_76 ⟨Nat.le_of_ble_eq_true rfl, Nat.le_of_ble_eq_true rfl⟩ hP hD hS [] [0, 1, 2, 3, 4, 5, 6, 7, 8, 9, 10, 11, 12, 13, 14, 15, 16] rfl rfl (by decide) (by decide) (by decide) [0, 1, 2, 3, 4, 5, 6, 7, 8, 9, 10, 11, 12, 13, 14, 15, 16] (by decide) (fun u => rfl) rfl hl.1 rfl (lv_room (Nat.le_of_ble_eq_true rfl)) d_Md_isPiece_8 ⟨Nat.le_of_ble_eq_true rfl, Nat.le_of_ble_eq_true rfl⟩ rfl rfl (fun z1 u H locs h hP hD hS => ?_)
  have hP : va_P G.1 CL [(h0, .inr (11, [.int (gI o0 0), .ref (q0 1), .ref (q0 2), .ref (q0 3), .ref (q0 4), .ref (q0 5), .ref (q0 6), .int (gI o0 7), .int (gI o0 8), .int (gI o0 9), .int (gI o0 10), .int (gI o0 11), .int (gI o0 12), .int (gI o0 13), .int (gI o0 14), .long (gL o0 15), .int (gI o0 16), .int (gI o0 17), .int (gI o0 18), .int (gI o0 19), .int (gI o0 20), .int (gI o0 21), .int (gI o0 22), .int (gI o0 23), .int (gI o0 24), .int (gI o0 25), .int (gI o0 26), .int (gI o0 27), .ref (q0 28), .long (gL o0 29), .int (gI o0 30), .ref (q0 31), .ref (q0 32), .ref (q0 33), .int (gI o0 34), .int (gI o0 35), .int (gI o0 36), .int (gI o0 37), .ref (q0 38), .ref (q0 39), .int (gI o0 40), .ref (q0 41), .ref (q0 42), .ref (q0 43), .ref (q0 44)])), kI G (q0 1) 6100 (gA o0 1), kI G (q0 2) 6100 (gA o0 2), kJ G (q0 3) 2016 (gB o0 3), kJ G (q0 4) 2016 (gB o0 4), kI G (q0 5) 300 (gA o0 5), kI G (q0 6) 400 (gA o0 6), kJ G (q0 28) 10 (gB o0 28), kI G (q0 31) 969 (gA o0 31), kI G (q0 32) 969 (gA o0 32), kI G (q0 33) 969 (gA o0 33), kI G (q0 38) 5 (gA o0 38), kI G (q0 39) 5120 (gA o0 39), kI G (q0 41) 5 (gA o0 41), kZ G (q0 42) 1024 (gA o0 42), kI G (q0 43) 8192 (gA o0 43), kI G (q0 44) 8192 (gA o0 44)] H := hP
  have hD : va_D A [(h0, .inr (11, [.int (gI o0 0), .ref (q0 1), .ref (q0 2), .ref (q0 3), .ref (q0 4), .ref (q0 5), .ref (q0 6), .int (gI o0 7), .int (gI o0 8), .int (gI o0 9), .int (gI o0 10), .int (gI o0 11), .int (gI o0 12), .int (gI o0 13), .int (gI o0 14), .long (gL o0 15), .int (gI o0 16), .int (gI o0 17), .int (gI o0 18), .int (gI o0 19), .int (gI o0 20), .int (gI o0 21), .int (gI o0 22), .int (gI o0 23), .int (gI o0 24), .int (gI o0 25), .int (gI o0 26), .int (gI o0 27), .ref (q0 28), .long (gL o0 29), .int (gI o0 30), .ref (q0 31), .ref (q0 32), .ref (q0 33), .int (gI o0 34), .int (gI o0 35), .int (gI o0 36), .int (gI o0 37), .ref (q0 38), .ref (q0 39), .int (gI o0 40), .ref (q0 41), .ref (q0 42), .ref (q0 43), .ref (q0 44)])), kI G (q0 1) 6100 (gA o0 1), kI G (q0 2) 6100 (gA o0 2), kJ G (q0 3) 2016 (gB o0 3), kJ G (q0 4) 2016 (gB o0 4), kI G (q0 5) 300 (gA o0 5), kI G (q0 6) 400 (gA o0 6), kJ G (q0 28) 10 (gB o0 28), kI G (q0 31) 969 (gA o0 31), kI G (q0 32) 969 (gA o0 32), kI G (q0 33) 969 (gA o0 33), kI G (q0 38) 5 (gA o0 38), kI G (q0 39) 5120 (gA o0 39), kI G (q0 41) 5 (gA o0 41), kZ G (q0 42) 1024 (gA o0 42), kI G (q0 43) 8192 (gA o0 43), kI G (q0 44) 8192 (gA o0 44)] := hD
  have g2 := h.1
  have h := h.2
  have hP : va_P G.1 CL (cw_Md G h0 q0 o0) H := hP
  have hD : va_D A (cw_Md G h0 q0 o0) := hD
  exact W.zret (v := z1) hx hb hr g2 (fun t ht hW => ⟨⟨z1, (), rfl, h, by rw [ht]; exact hP, va_K.moved hW.alike hK, hD⟩, hS.F ht⟩) hS.2.2 d_Md_isPiece_11
abbrev b_Md_see : ByteArray := prog_14_method_9_code
def y_Md_see : MethodName := ⟨R_Md, "see", "(I)I"⟩
abbrev w_Md_see : List Cond := Cond.code y_Md_see b_Md_see 2 (some .int) :: gw_tbl
theorem d_Md_see_0 : decode b_Md_see 0 = .ok (.iload_n 1, 1) := by decide +kernel
theorem d_Md_see_1 : decode b_Md_see 1 = .ok (.aload_n 0, 1) := by decide +kernel
theorem d_Md_see_2 : decode b_Md_see 2 = .ok (.getfield 80, 3) := by decide +kernel
theorem d_Md_see_5 : decode b_Md_see 5 = .ok (.if_icmp .ge 12, 3) := by decide +kernel
theorem d_Md_see_8 : decode b_Md_see 8 = .ok (.aload_n 0, 1) := by decide +kernel
theorem d_Md_see_9 : decode b_Md_see 9 = .ok (.getfield 26, 3) := by decide +kernel
theorem d_Md_see_12 : decode b_Md_see 12 = .ok (.iload_n 1, 1) := by decide +kernel
theorem d_Md_see_13 : decode b_Md_see 13 = .ok (.iaload, 1) := by decide +kernel
theorem d_Md_see_14 : decode b_Md_see 14 = .ok (.goto 4, 3) := by decide +kernel
theorem d_Md_see_17 : decode b_Md_see 17 = .ok (.iconst (-1), 1) := by decide +kernel
theorem d_Md_see_18 : decode b_Md_see 18 = .ok (.ireturn, 1) := by decide +kernel
theorem wf_Md_80 : Cond.fieldLink R_Md 80 R_Md "taped" "I" ∈ gw_tbl := gw_tb (List.mem_of_getElem? (i := 978) (by decide +kernel)) rfl
theorem wf_Md_26 : Cond.fieldLink R_Md 26 R_Md "tape" "[I" ∈ gw_tbl := gw_tb (List.mem_of_getElem? (i := 977) (by decide +kernel)) rfl
def f_Md_see (a0 : Int32) (o0 : Ob) (Q : Int32 → Prop) : Prop := ((gI o0 7) ≤ a0 → (Q (-1 : Int32))) ∧ (¬ (gI o0 7) ≤ a0 → ((vp_in a0 400) ∧ (Q ((gA o0 6) a0.toNatClampNeg))))
abbrev rm_Md_see : Room := { frames := 0, cells := 0, slots := 0, locals := 0 }
set_option maxHeartbeats 4000000 in
set_option maxRecDepth 100000 in
theorem c_Md_see {l : Launch} {G : Gl} {h0 : Nat} {q0 : Nat → Nat} {a0 : Int32} {o0 : Ob} {Q : Int32 → Prop} (sz : Nat) (h : f_Md_see a0 o0 Q) : Met l y_Md_see w_Md_see rm_Md_see (PcW G [.ref h0, .int a0] sz (cw_Md G h0 q0 o0)) (va_Qi (fun (r : Int32) (u : Unit) => Q r) (fun (u : Unit) t => BW G (va_A (cw_Md G h0 q0 o0) sz) (cw_Md G h0 q0 o0) t) (va_A (cw_Md G h0 q0 o0) sz)) 0 0 (va_A (cw_Md G h0 q0 o0) sz) := by
  refine Met.ofW (cc := b_Md_see) (maxL := 2) (ret := (some .int)) (by decide +kernel) rfl ?_
  intro p e s m args below meth c s₁ B hml hv
  obtain ⟨rfl, hsz, hP, hK, hD0, hE⟩ := hv
  have hx := B.exec
  have hb := B.bytes
  have hr := B.returns
  have hts0 := atoms_spec (ws := w_Md_see) B.pre
  have hts : ∀ w ∈ gw_tbl, w.before ([.ref h0, .int a0]).toArray s = true := fun w hw => hts0 w (List.mem_cons_of_mem _ hw)
  have hown : s.vm.findClass R_Md = some m.cls := findClass_of_methodNamed B.named
  have hlocks := B.notSynchronized
  subst hsz
  have hD := hD0.self (sz := s.heap.size)
  generalize hAe : va_A (cw_Md G h0 q0 o0) s.heap.size = A at hD hE ⊢
  have hA : ∀ q : Nat, s.heap.size ≤ q → A q := fun q h => by rw [← hAe]; exact Or.inr h
  have hS : va_S A s.heap s.heap [] := va_S.rf
  have C : Cx p s m ([.ref h0, .int a0]).toArray meth c R_Md b_Md_see 2 (some .int) G A := ⟨hx, hb, hml, hown, hr, hts, hK, hA, hlocks, hE⟩
  have hl := lv_entry ([.ref h0, .int a0]) (n := 2) (Nat.le_of_ble_eq_true rfl)
  rw [lg_entry_eq]
  generalize (lg_sl ([.ref h0, .int a0]) ++ List.replicate (2 - (lg_sl ([.ref h0, .int a0])).length) Slot.unset).toArray = ls at hl ⊢
  have hl : lv_has ls 2 [(0, .ref h0), (1, .int a0)] := hl
  have hD : va_D A [(h0, .inr (11, [.int (gI o0 0), .ref (q0 1), .ref (q0 2), .ref (q0 3), .ref (q0 4), .ref (q0 5), .ref (q0 6), .int (gI o0 7), .int (gI o0 8), .int (gI o0 9), .int (gI o0 10), .int (gI o0 11), .int (gI o0 12), .int (gI o0 13), .int (gI o0 14), .long (gL o0 15), .int (gI o0 16), .int (gI o0 17), .int (gI o0 18), .int (gI o0 19), .int (gI o0 20), .int (gI o0 21), .int (gI o0 22), .int (gI o0 23), .int (gI o0 24), .int (gI o0 25), .int (gI o0 26), .int (gI o0 27), .ref (q0 28), .long (gL o0 29), .int (gI o0 30), .ref (q0 31), .ref (q0 32), .ref (q0 33), .int (gI o0 34), .int (gI o0 35), .int (gI o0 36), .int (gI o0 37), .ref (q0 38), .ref (q0 39), .int (gI o0 40), .ref (q0 41), .ref (q0 42), .ref (q0 43), .ref (q0 44)])), kI G (q0 1) 6100 (gA o0 1), kI G (q0 2) 6100 (gA o0 2), kJ G (q0 3) 2016 (gB o0 3), kJ G (q0 4) 2016 (gB o0 4), kI G (q0 5) 300 (gA o0 5), kI G (q0 6) 400 (gA o0 6), kJ G (q0 28) 10 (gB o0 28), kI G (q0 31) 969 (gA o0 31), kI G (q0 32) 969 (gA o0 32), kI G (q0 33) 969 (gA o0 33), kI G (q0 38) 5 (gA o0 38), kI G (q0 39) 5120 (gA o0 39), kI G (q0 41) 5 (gA o0 41), kZ G (q0 42) 1024 (gA o0 42), kI G (q0 43) 8192 (gA o0 43), kI G (q0 44) 8192 (gA o0 44)] := hD
  unfold f_Md_see at h
  suffices key : ∀ (H : Heap) (locs : List Loc), va_P G.1 CL [(h0, .inr (11, [.int (gI o0 0), .ref (q0 1), .ref (q0 2), .ref (q0 3), .ref (q0 4), .ref (q0 5), .ref (q0 6), .int (gI o0 7), .int (gI o0 8), .int (gI o0 9), .int (gI o0 10), .int (gI o0 11), .int (gI o0 12), .int (gI o0 13), .int (gI o0 14), .long (gL o0 15), .int (gI o0 16), .int (gI o0 17), .int (gI o0 18), .int (gI o0 19), .int (gI o0 20), .int (gI o0 21), .int (gI o0 22), .int (gI o0 23), .int (gI o0 24), .int (gI o0 25), .int (gI o0 26), .int (gI o0 27), .ref (q0 28), .long (gL o0 29), .int (gI o0 30), .ref (q0 31), .ref (q0 32), .ref (q0 33), .int (gI o0 34), .int (gI o0 35), .int (gI o0 36), .int (gI o0 37), .ref (q0 38), .ref (q0 39), .int (gI o0 40), .ref (q0 41), .ref (q0 42), .ref (q0 43), .ref (q0 44)])), kI G (q0 1) 6100 (gA o0 1), kI G (q0 2) 6100 (gA o0 2), kJ G (q0 3) 2016 (gB o0 3), kJ G (q0 4) 2016 (gB o0 4), kI G (q0 5) 300 (gA o0 5), kI G (q0 6) 400 (gA o0 6), kJ G (q0 28) 10 (gB o0 28), kI G (q0 31) 969 (gA o0 31), kI G (q0 32) 969 (gA o0 32), kI G (q0 33) 969 (gA o0 33), kI G (q0 38) 5 (gA o0 38), kI G (q0 39) 5120 (gA o0 39), kI G (q0 41) 5 (gA o0 41), kZ G (q0 42) 1024 (gA o0 42), kI G (q0 43) 8192 (gA o0 43), kI G (q0 44) 8192 (gA o0 44)] H → va_S A s.heap H locs → W p l e rm_Md_see s m ([.ref h0, .int a0]).toArray below meth c H locs 0 0 (MQ below (va_Qi (fun (r : Int32) (u : Unit) => Q r) (fun (u : Unit) t => BW G A (cw_Md G h0 q0 o0) t) A) ([.ref h0, .int a0]).toArray s 0 0 A) (F0 m 0 ls []) from key s.heap [] hP hS
  intro H locs hP hS
  refine lv_iload_n hx hb d_Md_see_0 rfl (lv_at hl 1 rfl) ?_
  refine lv_aload_n hx hb d_Md_see_1 rfl (lv_at hl 0 rfl) ?_
  refine va_get (D := G.1) (ci := 11) (v := .int (gI o0 7)) (C := R_Md) (T := T_Md) (N := 45) hx hb hts i_Md hown hK hP 0 rfl rfl 7 (by decide) (hts _ wf_Md_80) (fun _ h9 => h9) rfl d_Md_see_2 ?_
  refine lv_icmp_ge (tgt := 17) hx hb d_Md_see_5 (by decide) (fun c1 => ?_) (fun c1 => ?_)
  · have h := h.1 c1
    refine lv_iconst (v := (-1 : Int32)) hx hb d_Md_see_17 (by decide) ?_
    have hP : va_P G.1 CL (cw_Md G h0 q0 o0) H := hP
    have hD : va_D A (cw_Md G h0 q0 o0) := hD
    exact W.iret (v := (-1 : Int32)) hx hb hr (fun t ht hW => ⟨⟨(-1 : Int32), (), rfl, h, by rw [ht]; exact hP, va_K.moved hW.alike hK, hD⟩, hS.F ht⟩) hS.2.2 d_Md_see_18
  · have h := h.2 c1
    refine lv_aload_n hx hb d_Md_see_8 rfl (lv_at hl 0 rfl) ?_
    refine va_get (D := G.1) (ci := 11) (v := .ref (q0 6)) (C := R_Md) (T := T_Md) (N := 45) hx hb hts i_Md hown hK hP 0 rfl rfl 6 (by decide) (hts _ wf_Md_26) (fun _ h9 => h9) rfl d_Md_see_9 ?_
    refine lv_iload_n hx hb d_Md_see_12 rfl (lv_at hl 1 rfl) ?_
    have g2 := h.1
    have h := h.2
    refine xa_iald hx hb hK hP 6 0 rfl rfl g2 (k := a0.toNatClampNeg) rfl d_Md_see_13 ?_
    refine lv_goto (tgt := 18) hx hb d_Md_see_14 (by decide) ?_
    have hP : va_P G.1 CL (cw_Md G h0 q0 o0) H := hP
    have hD : va_D A (cw_Md G h0 q0 o0) := hD
    exact W.iret (v := ((gA o0 6) a0.toNatClampNeg)) hx hb hr (fun t ht hW => ⟨⟨((gA o0 6) a0.toNatClampNeg), (), rfl, h, by rw [ht]; exact hP, va_K.moved hW.alike hK, hD⟩, hS.F ht⟩) hS.2.2 d_Md_see_18
abbrev b_Md_foldStep : ByteArray := prog_14_method_32_code
def y_Md_foldStep : MethodName := ⟨R_Md, "foldStep", "(I)V"⟩
abbrev w_Md_foldStep : List Cond := Cond.code y_Md_foldStep b_Md_foldStep 2 none :: gw_tbl
theorem d_Md_foldStep_0 : decode b_Md_foldStep 0 = .ok (.aload_n 0, 1) := by decide +kernel
theorem d_Md_foldStep_1 : decode b_Md_foldStep 1 = .ok (.dup, 1) := by decide +kernel
theorem d_Md_foldStep_2 : decode b_Md_foldStep 2 = .ok (.getfield 197, 3) := by decide +kernel
theorem d_Md_foldStep_5 : decode b_Md_foldStep 5 = .ok (.iload_n 1, 1) := by decide +kernel
theorem d_Md_foldStep_6 : decode b_Md_foldStep 6 = .ok (.aload_n 0, 1) := by decide +kernel
theorem d_Md_foldStep_7 : decode b_Md_foldStep 7 = .ok (.getfield 7, 3) := by decide +kernel
theorem d_Md_foldStep_10 : decode b_Md_foldStep 10 = .ok (.iconst 5, 1) := by decide +kernel
theorem d_Md_foldStep_11 : decode b_Md_foldStep 11 = .ok (.iaload, 1) := by decide +kernel
theorem d_Md_foldStep_12 : decode b_Md_foldStep 12 = .ok (.aload_n 0, 1) := by decide +kernel
theorem d_Md_foldStep_13 : decode b_Md_foldStep 13 = .ok (.getfield 200, 3) := by decide +kernel
theorem d_Md_foldStep_16 : decode b_Md_foldStep 16 = .ok (.imul, 1) := by decide +kernel
theorem d_Md_foldStep_17 : decode b_Md_foldStep 17 = .ok (.bipush 10, 2) := by decide +kernel
theorem d_Md_foldStep_19 : decode b_Md_foldStep 19 = .ok (.idiv, 1) := by decide +kernel
theorem d_Md_foldStep_20 : decode b_Md_foldStep 20 = .ok (.isub, 1) := by decide +kernel
theorem d_Md_foldStep_21 : decode b_Md_foldStep 21 = .ok (.aload_n 0, 1) := by decide +kernel
theorem d_Md_foldStep_22 : decode b_Md_foldStep 22 = .ok (.getfield 7, 3) := by decide +kernel
theorem d_Md_foldStep_25 : decode b_Md_foldStep 25 = .ok (.bipush 6, 2) := by decide +kernel
theorem d_Md_foldStep_27 : decode b_Md_foldStep 27 = .ok (.iaload, 1) := by decide +kernel
theorem d_Md_foldStep_28 : decode b_Md_foldStep 28 = .ok (.idiv, 1) := by decide +kernel
theorem d_Md_foldStep_29 : decode b_Md_foldStep 29 = .ok (.iadd, 1) := by decide +kernel
theorem d_Md_foldStep_30 : decode b_Md_foldStep 30 = .ok (.putfield 197, 3) := by decide +kernel
theorem d_Md_foldStep_33 : decode b_Md_foldStep 33 = .ok (.aload_n 0, 1) := by decide +kernel
theorem d_Md_foldStep_34 : decode b_Md_foldStep 34 = .ok (.getfield 197, 3) := by decide +kernel
theorem d_Md_foldStep_37 : decode b_Md_foldStep 37 = .ok (.bipush 9, 2) := by decide +kernel
theorem d_Md_foldStep_39 : decode b_Md_foldStep 39 = .ok (.if_icmp .le 9, 3) := by decide +kernel
theorem d_Md_foldStep_42 : decode b_Md_foldStep 42 = .ok (.aload_n 0, 1) := by decide +kernel
theorem d_Md_foldStep_43 : decode b_Md_foldStep 43 = .ok (.bipush 9, 2) := by decide +kernel
theorem d_Md_foldStep_45 : decode b_Md_foldStep 45 = .ok (.putfield 197, 3) := by decide +kernel
theorem d_Md_foldStep_48 : decode b_Md_foldStep 48 = .ok (.aload_n 0, 1) := by decide +kernel
theorem d_Md_foldStep_49 : decode b_Md_foldStep 49 = .ok (.getfield 197, 3) := by decide +kernel
theorem d_Md_foldStep_52 : decode b_Md_foldStep 52 = .ok (.bipush (-9), 2) := by decide +kernel
theorem d_Md_foldStep_54 : decode b_Md_foldStep 54 = .ok (.if_icmp .ge 9, 3) := by decide +kernel
theorem d_Md_foldStep_57 : decode b_Md_foldStep 57 = .ok (.aload_n 0, 1) := by decide +kernel
theorem d_Md_foldStep_58 : decode b_Md_foldStep 58 = .ok (.bipush (-9), 2) := by decide +kernel
theorem d_Md_foldStep_60 : decode b_Md_foldStep 60 = .ok (.putfield 197, 3) := by decide +kernel
theorem d_Md_foldStep_63 : decode b_Md_foldStep 63 = .ok (.aload_n 0, 1) := by decide +kernel
theorem d_Md_foldStep_64 : decode b_Md_foldStep 64 = .ok (.aload_n 0, 1) := by decide +kernel
theorem d_Md_foldStep_65 : decode b_Md_foldStep 65 = .ok (.getfield 200, 3) := by decide +kernel
theorem d_Md_foldStep_68 : decode b_Md_foldStep 68 = .ok (.aload_n 0, 1) := by decide +kernel
theorem d_Md_foldStep_69 : decode b_Md_foldStep 69 = .ok (.getfield 197, 3) := by decide +kernel
theorem d_Md_foldStep_72 : decode b_Md_foldStep 72 = .ok (.iadd, 1) := by decide +kernel
theorem d_Md_foldStep_73 : decode b_Md_foldStep 73 = .ok (.ifCond .ge 7, 3) := by decide +kernel
theorem d_Md_foldStep_76 : decode b_Md_foldStep 76 = .ok (.iconst 1, 1) := by decide +kernel
theorem d_Md_foldStep_77 : decode b_Md_foldStep 77 = .ok (.goto 4, 3) := by decide +kernel
theorem d_Md_foldStep_80 : decode b_Md_foldStep 80 = .ok (.iconst 0, 1) := by decide +kernel
theorem d_Md_foldStep_81 : decode b_Md_foldStep 81 = .ok (.putfield 203, 3) := by decide +kernel
theorem d_Md_foldStep_84 : decode b_Md_foldStep 84 = .ok (.aload_n 0, 1) := by decide +kernel
theorem d_Md_foldStep_85 : decode b_Md_foldStep 85 = .ok (.aload_n 0, 1) := by decide +kernel
theorem d_Md_foldStep_86 : decode b_Md_foldStep 86 = .ok (.getfield 203, 3) := by decide +kernel
theorem d_Md_foldStep_89 : decode b_Md_foldStep 89 = .ok (.ifCond .eq 11, 3) := by decide +kernel
theorem d_Md_foldStep_92 : decode b_Md_foldStep 92 = .ok (.aload_n 0, 1) := by decide +kernel
theorem d_Md_foldStep_93 : decode b_Md_foldStep 93 = .ok (.getfield 197, 3) := by decide +kernel
theorem d_Md_foldStep_96 : decode b_Md_foldStep 96 = .ok (.ineg, 1) := by decide +kernel
theorem d_Md_foldStep_97 : decode b_Md_foldStep 97 = .ok (.goto 4, 3) := by decide +kernel
theorem d_Md_foldStep_100 : decode b_Md_foldStep 100 = .ok (.iconst 0, 1) := by decide +kernel
theorem d_Md_foldStep_101 : decode b_Md_foldStep 101 = .ok (.putfield 207, 3) := by decide +kernel
theorem d_Md_foldStep_104 : decode b_Md_foldStep 104 = .ok (.aload_n 0, 1) := by decide +kernel
theorem d_Md_foldStep_105 : decode b_Md_foldStep 105 = .ok (.dup, 1) := by decide +kernel
theorem d_Md_foldStep_106 : decode b_Md_foldStep 106 = .ok (.getfield 200, 3) := by decide +kernel
theorem d_Md_foldStep_109 : decode b_Md_foldStep 109 = .ok (.aload_n 0, 1) := by decide +kernel
theorem d_Md_foldStep_110 : decode b_Md_foldStep 110 = .ok (.getfield 197, 3) := by decide +kernel
theorem d_Md_foldStep_113 : decode b_Md_foldStep 113 = .ok (.iadd, 1) := by decide +kernel
theorem d_Md_foldStep_114 : decode b_Md_foldStep 114 = .ok (.putfield 200, 3) := by decide +kernel
theorem d_Md_foldStep_117 : decode b_Md_foldStep 117 = .ok (.aload_n 0, 1) := by decide +kernel
theorem d_Md_foldStep_118 : decode b_Md_foldStep 118 = .ok (.getfield 200, 3) := by decide +kernel
theorem d_Md_foldStep_121 : decode b_Md_foldStep 121 = .ok (.ifCond .ge 22, 3) := by decide +kernel
theorem d_Md_foldStep_124 : decode b_Md_foldStep 124 = .ok (.aload_n 0, 1) := by decide +kernel
theorem d_Md_foldStep_125 : decode b_Md_foldStep 125 = .ok (.iconst 0, 1) := by decide +kernel
theorem d_Md_foldStep_126 : decode b_Md_foldStep 126 = .ok (.putfield 200, 3) := by decide +kernel
theorem d_Md_foldStep_129 : decode b_Md_foldStep 129 = .ok (.aload_n 0, 1) := by decide +kernel
theorem d_Md_foldStep_130 : decode b_Md_foldStep 130 = .ok (.aload_n 0, 1) := by decide +kernel
theorem d_Md_foldStep_131 : decode b_Md_foldStep 131 = .ok (.getfield 197, 3) := by decide +kernel
theorem d_Md_foldStep_134 : decode b_Md_foldStep 134 = .ok (.ineg, 1) := by decide +kernel
theorem d_Md_foldStep_135 : decode b_Md_foldStep 135 = .ok (.iconst 2, 1) := by decide +kernel
theorem d_Md_foldStep_136 : decode b_Md_foldStep 136 = .ok (.idiv, 1) := by decide +kernel
theorem d_Md_foldStep_137 : decode b_Md_foldStep 137 = .ok (.putfield 197, 3) := by decide +kernel
theorem d_Md_foldStep_140 : decode b_Md_foldStep 140 = .ok (.goto 23, 3) := by decide +kernel
theorem d_Md_foldStep_143 : decode b_Md_foldStep 143 = .ok (.aload_n 0, 1) := by decide +kernel
theorem d_Md_foldStep_144 : decode b_Md_foldStep 144 = .ok (.getfield 200, 3) := by decide +kernel
theorem d_Md_foldStep_147 : decode b_Md_foldStep 147 = .ok (.bipush 50, 2) := by decide +kernel
theorem d_Md_foldStep_149 : decode b_Md_foldStep 149 = .ok (.if_icmp .le 14, 3) := by decide +kernel
theorem d_Md_foldStep_152 : decode b_Md_foldStep 152 = .ok (.aload_n 0, 1) := by decide +kernel
theorem d_Md_foldStep_153 : decode b_Md_foldStep 153 = .ok (.bipush 50, 2) := by decide +kernel
theorem d_Md_foldStep_155 : decode b_Md_foldStep 155 = .ok (.putfield 200, 3) := by decide +kernel
theorem d_Md_foldStep_158 : decode b_Md_foldStep 158 = .ok (.aload_n 0, 1) := by decide +kernel
theorem d_Md_foldStep_159 : decode b_Md_foldStep 159 = .ok (.iconst 0, 1) := by decide +kernel
theorem d_Md_foldStep_160 : decode b_Md_foldStep 160 = .ok (.putfield 197, 3) := by decide +kernel
theorem d_Md_foldStep_163 : decode b_Md_foldStep 163 = .ok (.return_, 1) := by decide +kernel
theorem wf_Md_197 : Cond.fieldLink R_Md 197 R_Md "pace" "I" ∈ gw_tbl := gw_tb (List.mem_of_getElem? (i := 996) (by decide +kernel)) rfl
theorem wf_Md_7 : Cond.fieldLink R_Md 7 R_Md "a" "[I" ∈ gw_tbl := gw_tb (List.mem_of_getElem? (i := 972) (by decide +kernel)) rfl
theorem wf_Md_200 : Cond.fieldLink R_Md 200 R_Md "gap" "I" ∈ gw_tbl := gw_tb (List.mem_of_getElem? (i := 995) (by decide +kernel)) rfl
theorem wf_Md_203 : Cond.fieldLink R_Md 203 R_Md "isMet" "Z" ∈ gw_tbl := gw_tb (List.mem_of_getElem? (i := 998) (by decide +kernel)) rfl
theorem wf_Md_207 : Cond.fieldLink R_Md 207 R_Md "hard" "I" ∈ gw_tbl := gw_tb (List.mem_of_getElem? (i := 997) (by decide +kernel)) rfl
def f_Md_foldStep_104 (Q : Ob → Prop) (o0 : Ob) : Prop := (0 ≤ ((gI o0 24) + (gI o0 25)) → ((((gI o0 24) + (gI o0 25)) ≤ (50 : Int32) → (Q (sI o0 24 ((gI o0 24) + (gI o0 25))))) ∧ (¬ ((gI o0 24) + (gI o0 25)) ≤ (50 : Int32) → (Q (sI (sI o0 24 (50 : Int32)) 25 (0 : Int32)))))) ∧ (¬ 0 ≤ ((gI o0 24) + (gI o0 25)) → (Q (sI (sI o0 24 (0 : Int32)) 25 ((-(gI o0 25)) / (2 : Int32)))))
def f_Md_foldStep_84 (Q : Ob → Prop) (o0 : Ob) : Prop := ((gI o0 27) = 0 → (f_Md_foldStep_104 Q (sI o0 26 (0 : Int32)))) ∧ (¬ (gI o0 27) = 0 → (f_Md_foldStep_104 Q (sI o0 26 (-(gI o0 25)))))
def f_Md_foldStep_63 (Q : Ob → Prop) (o0 : Ob) : Prop := (0 ≤ ((gI o0 24) + (gI o0 25)) → (f_Md_foldStep_84 Q (sI o0 27 (0 : Int32)))) ∧ (¬ 0 ≤ ((gI o0 24) + (gI o0 25)) → (f_Md_foldStep_84 Q (sI o0 27 (1 : Int32))))
def f_Md_foldStep_48 (Q : Ob → Prop) (o0 : Ob) : Prop := ((-9 : Int32) ≤ (gI o0 25) → (f_Md_foldStep_63 Q o0)) ∧ (¬ (-9 : Int32) ≤ (gI o0 25) → (f_Md_foldStep_63 Q (sI o0 25 (-9 : Int32))))
def f_Md_foldStep (a0 : Int32) (o0 : Ob) (Q : Ob → Prop) : Prop := ∀ y6 : Int32, y6 = (a0 - ((((gA o0 1) 5) * (gI o0 24)) / (10 : Int32))) → ((¬ ((gA o0 1) 6) = 0) ∧ ((((gI o0 25) + (y6 / ((gA o0 1) 6))) ≤ (9 : Int32) → (f_Md_foldStep_48 Q (sI o0 25 ((gI o0 25) + (y6 / ((gA o0 1) 6)))))) ∧ (¬ ((gI o0 25) + (y6 / ((gA o0 1) 6))) ≤ (9 : Int32) → (f_Md_foldStep_48 Q (sI o0 25 (9 : Int32))))))
abbrev rm_Md_foldStep : Room := { frames := 0, cells := 0, slots := 0, locals := 0 }
set_option maxHeartbeats 4000000 in
set_option maxRecDepth 100000 in
theorem t_Md_foldStep_104 {p : Program} {l : Launch} {e : Env} {s : State} {m : MethodId} {args : Array Value} {below : List Frame} {meth : Method} {c : Code} {A : Nat → Prop} {G : Gl} {h0 : Nat} {q0 : Nat → Nat} (Q : Ob → Prop) (C : Cx p s m args meth c R_Md b_Md_foldStep 2 none G A) :
    ∀ (o0 : Ob) (ls : Array Slot) (H : Heap) (locs : List Loc), lv_has ls 2 [(0, .ref h0)] → va_P G.1 CL (cw_Md G h0 q0 o0) H → va_D A (cw_Md G h0 q0 o0) → va_S A s.heap H locs → f_Md_foldStep_104 Q o0 → W p l e rm_Md_foldStep s m args below meth c H locs 0 0 (MQ below (va_Qv (fun (u : Ob) => Q u) (fun (u : Ob) t => BW G A (cw_Md G h0 q0 u) t) A) args s 0 0 A) (F0 m 104 ls []) := by
  obtain ⟨hx, hb, hml, hown, hr, hts, hK, hA, hlocks, hE⟩ := id C
  intro o0 ls H locs hl hP hD hS h
  have hP : va_P G.1 CL [(h0, .inr (11, [.int (gI o0 0), .ref (q0 1), .ref (q0 2), .ref (q0 3), .ref (q0 4), .ref (q0 5), .ref (q0 6), .int (gI o0 7), .int (gI o0 8), .int (gI o0 9), .int (gI o0 10), .int (gI o0 11), .int (gI o0 12), .int (gI o0 13), .int (gI o0 14), .long (gL o0 15), .int (gI o0 16), .int (gI o0 17), .int (gI o0 18), .int (gI o0 19), .int (gI o0 20), .int (gI o0 21), .int (gI o0 22), .int (gI o0 23), .int (gI o0 24), .int (gI o0 25), .int (gI o0 26), .int (gI o0 27), .ref (q0 28), .long (gL o0 29), .int (gI o0 30), .ref (q0 31), .ref (q0 32), .ref (q0 33), .int (gI o0 34), .int (gI o0 35), .int (gI o0 36), .int (gI o0 37), .ref (q0 38), .ref (q0 39), .int (gI o0 40), .ref (q0 41), .ref (q0 42), .ref (q0 43), .ref (q0 44)])), kI G (q0 1) 6100 (gA o0 1), kI G (q0 2) 6100 (gA o0 2), kJ G (q0 3) 2016 (gB o0 3), kJ G (q0 4) 2016 (gB o0 4), kI G (q0 5) 300 (gA o0 5), kI G (q0 6) 400 (gA o0 6), kJ G (q0 28) 10 (gB o0 28), kI G (q0 31) 969 (gA o0 31), kI G (q0 32) 969 (gA o0 32), kI G (q0 33) 969 (gA o0 33), kI G (q0 38) 5 (gA o0 38), kI G (q0 39) 5120 (gA o0 39), kI G (q0 41) 5 (gA o0 41), kZ G (q0 42) 1024 (gA o0 42), kI G (q0 43) 8192 (gA o0 43), kI G (q0 44) 8192 (gA o0 44)] H := hP
  have hD : va_D A [(h0, .inr (11, [.int (gI o0 0), .ref (q0 1), .ref (q0 2), .ref (q0 3), .ref (q0 4), .ref (q0 5), .ref (q0 6), .int (gI o0 7), .int (gI o0 8), .int (gI o0 9), .int (gI o0 10), .int (gI o0 11), .int (gI o0 12), .int (gI o0 13), .int (gI o0 14), .long (gL o0 15), .int (gI o0 16), .int (gI o0 17), .int (gI o0 18), .int (gI o0 19), .int (gI o0 20), .int (gI o0 21), .int (gI o0 22), .int (gI o0 23), .int (gI o0 24), .int (gI o0 25), .int (gI o0 26), .int (gI o0 27), .ref (q0 28), .long (gL o0 29), .int (gI o0 30), .ref (q0 31), .ref (q0 32), .ref (q0 33), .int (gI o0 34), .int (gI o0 35), .int (gI o0 36), .int (gI o0 37), .ref (q0 38), .ref (q0 39), .int (gI o0 40), .ref (q0 41), .ref (q0 42), .ref (q0 43), .ref (q0 44)])), kI G (q0 1) 6100 (gA o0 1), kI G (q0 2) 6100 (gA o0 2), kJ G (q0 3) 2016 (gB o0 3), kJ G (q0 4) 2016 (gB o0 4), kI G (q0 5) 300 (gA o0 5), kI G (q0 6) 400 (gA o0 6), kJ G (q0 28) 10 (gB o0 28), kI G (q0 31) 969 (gA o0 31), kI G (q0 32) 969 (gA o0 32), kI G (q0 33) 969 (gA o0 33), kI G (q0 38) 5 (gA o0 38), kI G (q0 39) 5120 (gA o0 39), kI G (q0 41) 5 (gA o0 41), kZ G (q0 42) 1024 (gA o0 42), kI G (q0 43) 8192 (gA o0 43), kI G (q0 44) 8192 (gA o0 44)] := hD
  unfold f_Md_foldStep_104 at h
  refine lv_aload_n hx hb d_Md_foldStep_104 rfl (lv_at hl 0 rfl) ?_
  refine lv_dup hx hb d_Md_foldStep_105 rfl ?_
  refine va_get (D := G.1) (ci := 11) (v := .int (gI o0 24)) (C := R_Md) (T := T_Md) (N := 45) hx hb hts i_Md hown hK hP 0 rfl rfl 24 (by decide) (hts _ wf_Md_200) (fun _ h9 => h9) rfl d_Md_foldStep_106 ?_
  refine lv_aload_n hx hb d_Md_foldStep_109 rfl (lv_at hl 0 rfl) ?_
  refine va_get (D := G.1) (ci := 11) (v := .int (gI o0 25)) (C := R_Md) (T := T_Md) (N := 45) hx hb hts i_Md hown hK hP 0 rfl rfl 25 (by decide) (hts _ wf_Md_197) (fun _ h9 => h9) rfl d_Md_foldStep_110 ?_
  refine lv_iadd hx hb d_Md_foldStep_113 ?_
  refine va_put (D := G.1) (ci := 11) (v := .int ((gI o0 24) + (gI o0 25))) (ty := .int) (C := R_Md) (T := T_Md) (N := 45) hx hb hts i_Md ty_Md ty_Md_ok nm_Md hown hK hP hD hS 0 rfl rfl 24 (by decide) (hts _ wf_Md_200) (fun _ h9 => h9) rfl (ty_Md_ok 24 (by decide)) rfl rfl (Nat.le_of_ble_eq_true rfl) d_Md_foldStep_114 (fun H locs hP hD hS => ?_)
  have hP : va_P G.1 CL [(h0, .inr (11, [.int (gI o0 0), .ref (q0 1), .ref (q0 2), .ref (q0 3), .ref (q0 4), .ref (q0 5), .ref (q0 6), .int (gI o0 7), .int (gI o0 8), .int (gI o0 9), .int (gI o0 10), .int (gI o0 11), .int (gI o0 12), .int (gI o0 13), .int (gI o0 14), .long (gL o0 15), .int (gI o0 16), .int (gI o0 17), .int (gI o0 18), .int (gI o0 19), .int (gI o0 20), .int (gI o0 21), .int (gI o0 22), .int (gI o0 23), .int ((gI o0 24) + (gI o0 25)), .int (gI o0 25), .int (gI o0 26), .int (gI o0 27), .ref (q0 28), .long (gL o0 29), .int (gI o0 30), .ref (q0 31), .ref (q0 32), .ref (q0 33), .int (gI o0 34), .int (gI o0 35), .int (gI o0 36), .int (gI o0 37), .ref (q0 38), .ref (q0 39), .int (gI o0 40), .ref (q0 41), .ref (q0 42), .ref (q0 43), .ref (q0 44)])), kI G (q0 1) 6100 (gA o0 1), kI G (q0 2) 6100 (gA o0 2), kJ G (q0 3) 2016 (gB o0 3), kJ G (q0 4) 2016 (gB o0 4), kI G (q0 5) 300 (gA o0 5), kI G (q0 6) 400 (gA o0 6), kJ G (q0 28) 10 (gB o0 28), kI G (q0 31) 969 (gA o0 31), kI G (q0 32) 969 (gA o0 32), kI G (q0 33) 969 (gA o0 33), kI G (q0 38) 5 (gA o0 38), kI G (q0 39) 5120 (gA o0 39), kI G (q0 41) 5 (gA o0 41), kZ G (q0 42) 1024 (gA o0 42), kI G (q0 43) 8192 (gA o0 43), kI G (q0 44) 8192 (gA o0 44)] H := hP
  have hD : va_D A [(h0, .inr (11, [.int (gI o0 0), .ref (q0 1), .ref (q0 2), .ref (q0 3), .ref (q0 4), .ref (q0 5), .ref (q0 6), .int (gI o0 7), .int (gI o0 8), .int (gI o0 9), .int (gI o0 10), .int (gI o0 11), .int (gI o0 12), .int (gI o0 13), .int (gI o0 14), .long (gL o0 15), .int (gI o0 16), .int (gI o0 17), .int (gI o0 18), .int (gI o0 19), .int (gI o0 20), .int (gI o0 21), .int (gI o0 22), .int (gI o0 23), .int ((gI o0 24) + (gI o0 25)), .int (gI o0 25), .int (gI o0 26), .int (gI o0 27), .ref (q0 28), .long (gL o0 29), .int (gI o0 30), .ref (q0 31), .ref (q0 32), .ref (q0 33), .int (gI o0 34), .int (gI o0 35), .int (gI o0 36), .int (gI o0 37), .ref (q0 38), .ref (q0 39), .int (gI o0 40), .ref (q0 41), .ref (q0 42), .ref (q0 43), .ref (q0 44)])), kI G (q0 1) 6100 (gA o0 1), kI G (q0 2) 6100 (gA o0 2), kJ G (q0 3) 2016 (gB o0 3), kJ G (q0 4) 2016 (gB o0 4), kI G (q0 5) 300 (gA o0 5), kI G (q0 6) 400 (gA o0 6), kJ G (q0 28) 10 (gB o0 28), kI G (q0 31) 969 (gA o0 31), kI G (q0 32) 969 (gA o0 32), kI G (q0 33) 969 (gA o0 33), kI G (q0 38) 5 (gA o0 38), kI G (q0 39) 5120 (gA o0 39), kI G (q0 41) 5 (gA o0 41), kZ G (q0 42) 1024 (gA o0 42), kI G (q0 43) 8192 (gA o0 43), kI G (q0 44) 8192 (gA o0 44)] := hD
  refine lv_aload_n hx hb d_Md_foldStep_117 rfl (lv_at hl 0 rfl) ?_
  refine va_get (D := G.1) (ci := 11) (v := .int ((gI o0 24) + (gI o0 25))) (C := R_Md) (T := T_Md) (N := 45) hx hb hts i_Md hown hK hP 0 rfl rfl 24 (by decide) (hts _ wf_Md_200) (fun _ h9 => h9) rfl d_Md_foldStep_118 ?_
  refine lv_if_ge (tgt := 143) hx hb d_Md_foldStep_121 (by decide) (fun c1 => ?_) (fun c1 => ?_)
  · have h := h.1 c1
    refine lv_aload_n hx hb d_Md_foldStep_143 rfl (lv_at hl 0 rfl) ?_
    refine va_get (D := G.1) (ci := 11) (v := .int ((gI o0 24) + (gI o0 25))) (C := R_Md) (T := T_Md) (N := 45) hx hb hts i_Md hown hK hP 0 rfl rfl 24 (by decide) (hts _ wf_Md_200) (fun _ h9 => h9) rfl d_Md_foldStep_144 ?_
    refine lv_bipush (v := (50 : Int32)) hx hb d_Md_foldStep_147 (by decide) ?_
    refine lv_icmp_le (tgt := 163) hx hb d_Md_foldStep_149 (by decide) (fun c2 => ?_) (fun c2 => ?_)
    · have h := h.1 c2
      have hP : va_P G.1 CL (cw_Md G h0 q0 (sI o0 24 ((gI o0 24) + (gI o0 25)))) H := hP
      have hD : va_D A (cw_Md G h0 q0 (sI o0 24 ((gI o0 24) + (gI o0 25)))) := hD
      exact W.vret hx hb hr (fun t ht hW => ⟨⟨(sI o0 24 ((gI o0 24) + (gI o0 25))), rfl, h, by rw [ht]; exact hP, va_K.moved hW.alike hK, hD⟩, hS.F ht⟩) hS.2.2 d_Md_foldStep_163
    · have h := h.2 c2
      refine lv_aload_n hx hb d_Md_foldStep_152 rfl (lv_at hl 0 rfl) ?_
      refine lv_bipush (v := (50 : Int32)) hx hb d_Md_foldStep_153 (by decide) ?_
      refine va_put (D := G.1) (ci := 11) (v := .int (50 : Int32)) (ty := .int) (C := R_Md) (T := T_Md) (N := 45) hx hb hts i_Md ty_Md ty_Md_ok nm_Md hown hK hP hD hS 0 rfl rfl 24 (by decide) (hts _ wf_Md_200) (fun _ h9 => h9) rfl (ty_Md_ok 24 (by decide)) rfl rfl (Nat.le_of_ble_eq_true rfl) d_Md_foldStep_155 (fun H locs hP hD hS => ?_)
      have hP : va_P G.1 CL [(h0, .inr (11, [.int (gI o0 0), .ref (q0 1), .ref (q0 2), .ref (q0 3), .ref (q0 4), .ref (q0 5), .ref (q0 6), .int (gI o0 7), .int (gI o0 8), .int (gI o0 9), .int (gI o0 10), .int (gI o0 11), .int (gI o0 12), .int (gI o0 13), .int (gI o0 14), .long (gL o0 15), .int (gI o0 16), .int (gI o0 17), .int (gI o0 18), .int (gI o0 19), .int (gI o0 20), .int (gI o0 21), .int (gI o0 22), .int (gI o0 23), .int (50 : Int32), .int (gI o0 25), .int (gI o0 26), .int (gI o0 27), .ref (q0 28), .long (gL o0 29), .int (gI o0 30), .ref (q0 31), .ref (q0 32), .ref (q0 33), .int (gI o0 34), .int (gI o0 35), .int (gI o0 36), .int (gI o0 37), .ref (q0 38), .ref (q0 39), .int (gI o0 40), .ref (q0 41), .ref (q0 42), .ref (q0 43), .ref (q0 44)])), kI G (q0 1) 6100 (gA o0 1), kI G (q0 2) 6100 (gA o0 2), kJ G (q0 3) 2016 (gB o0 3), kJ G (q0 4) 2016 (gB o0 4), kI G (q0 5) 300 (gA o0 5), kI G (q0 6) 400 (gA o0 6), kJ G (q0 28) 10 (gB o0 28), kI G (q0 31) 969 (gA o0 31), kI G (q0 32) 969 (gA o0 32), kI G (q0 33) 969 (gA o0 33), kI G (q0 38) 5 (gA o0 38), kI G (q0 39) 5120 (gA o0 39), kI G (q0 41) 5 (gA o0 41), kZ G (q0 42) 1024 (gA o0 42), kI G (q0 43) 8192 (gA o0 43), kI G (q0 44) 8192 (gA o0 44)] H := hP
      have hD : va_D A [(h0, .inr (11, [.int (gI o0 0), .ref (q0 1), .ref (q0 2), .ref (q0 3), .ref (q0 4), .ref (q0 5), .ref (q0 6), .int (gI o0 7), .int (gI o0 8), .int (gI o0 9), .int (gI o0 10), .int (gI o0 11), .int (gI o0 12), .int (gI o0 13), .int (gI o0 14), .long (gL o0 15), .int (gI o0 16), .int (gI o0 17), .int (gI o0 18), .int (gI o0 19), .int (gI o0 20), .int (gI o0 21), .int (gI o0 22), .int (gI o0 23), .int (50 : Int32), .int (gI o0 25), .int (gI o0 26), .int (gI o0 27), .ref (q0 28), .long (gL o0 29), .int (gI o0 30), .ref (q0 31), .ref (q0 32), .ref (q0 33), .int (gI o0 34), .int (gI o0 35), .int (gI o0 36), .int (gI o0 37), .ref (q0 38), .ref (q0 39), .int (gI o0 40), .ref (q0 41), .ref (q0 42), .ref (q0 43), .ref (q0 44)])), kI G (q0 1) 6100 (gA o0 1), kI G (q0 2) 6100 (gA o0 2), kJ G (q0 3) 2016 (gB o0 3), kJ G (q0 4) 2016 (gB o0 4), kI G (q0 5) 300 (gA o0 5), kI G (q0 6) 400 (gA o0 6), kJ G (q0 28) 10 (gB o0 28), kI G (q0 31) 969 (gA o0 31), kI G (q0 32) 969 (gA o0 32), kI G (q0 33) 969 (gA o0 33), kI G (q0 38) 5 (gA o0 38), kI G (q0 39) 5120 (gA o0 39), kI G (q0 41) 5 (gA o0 41), kZ G (q0 42) 1024 (gA o0 42), kI G (q0 43) 8192 (gA o0 43), kI G (q0 44) 8192 (gA o0 44)] := hD
      refine lv_aload_n hx hb d_Md_foldStep_158 rfl (lv_at hl 0 rfl) ?_
      refine lv_iconst (v := (0 : Int32)) hx hb d_Md_foldStep_159 (by decide) ?_
      refine va_put (D := G.1) (ci := 11) (v := .int (0 : Int32)) (ty := .int) (C := R_Md) (T := T_Md) (N := 45) hx hb hts i_Md ty_Md ty_Md_ok nm_Md hown hK hP hD hS 0 rfl rfl 25 (by decide) (hts _ wf_Md_197) (fun _ h9 => h9) rfl (ty_Md_ok 25 (by decide)) rfl rfl (Nat.le_of_ble_eq_true rfl) d_Md_foldStep_160 (fun H locs hP hD hS => ?_)
      have hP : va_P G.1 CL [(h0, .inr (11, [.int (gI o0 0), .ref (q0 1), .ref (q0 2), .ref (q0 3), .ref (q0 4), .ref (q0 5), .ref (q0 6), .int (gI o0 7), .int (gI o0 8), .int (gI o0 9), .int (gI o0 10), .int (gI o0 11), .int (gI o0 12), .int (gI o0 13), .int (gI o0 14), .long (gL o0 15), .int (gI o0 16), .int (gI o0 17), .int (gI o0 18), .int (gI o0 19), .int (gI o0 20), .int (gI o0 21), .int (gI o0 22), .int (gI o0 23), .int (50 : Int32), .int (0 : Int32), .int (gI o0 26), .int (gI o0 27), .ref (q0 28), .long (gL o0 29), .int (gI o0 30), .ref (q0 31), .ref (q0 32), .ref (q0 33), .int (gI o0 34), .int (gI o0 35), .int (gI o0 36), .int (gI o0 37), .ref (q0 38), .ref (q0 39), .int (gI o0 40), .ref (q0 41), .ref (q0 42), .ref (q0 43), .ref (q0 44)])), kI G (q0 1) 6100 (gA o0 1), kI G (q0 2) 6100 (gA o0 2), kJ G (q0 3) 2016 (gB o0 3), kJ G (q0 4) 2016 (gB o0 4), kI G (q0 5) 300 (gA o0 5), kI G (q0 6) 400 (gA o0 6), kJ G (q0 28) 10 (gB o0 28), kI G (q0 31) 969 (gA o0 31), kI G (q0 32) 969 (gA o0 32), kI G (q0 33) 969 (gA o0 33), kI G (q0 38) 5 (gA o0 38), kI G (q0 39) 5120 (gA o0 39), kI G (q0 41) 5 (gA o0 41), kZ G (q0 42) 1024 (gA o0 42), kI G (q0 43) 8192 (gA o0 43), kI G (q0 44) 8192 (gA o0 44)] H := hP
      have hD : va_D A [(h0, .inr (11, [.int (gI o0 0), .ref (q0 1), .ref (q0 2), .ref (q0 3), .ref (q0 4), .ref (q0 5), .ref (q0 6), .int (gI o0 7), .int (gI o0 8), .int (gI o0 9), .int (gI o0 10), .int (gI o0 11), .int (gI o0 12), .int (gI o0 13), .int (gI o0 14), .long (gL o0 15), .int (gI o0 16), .int (gI o0 17), .int (gI o0 18), .int (gI o0 19), .int (gI o0 20), .int (gI o0 21), .int (gI o0 22), .int (gI o0 23), .int (50 : Int32), .int (0 : Int32), .int (gI o0 26), .int (gI o0 27), .ref (q0 28), .long (gL o0 29), .int (gI o0 30), .ref (q0 31), .ref (q0 32), .ref (q0 33), .int (gI o0 34), .int (gI o0 35), .int (gI o0 36), .int (gI o0 37), .ref (q0 38), .ref (q0 39), .int (gI o0 40), .ref (q0 41), .ref (q0 42), .ref (q0 43), .ref (q0 44)])), kI G (q0 1) 6100 (gA o0 1), kI G (q0 2) 6100 (gA o0 2), kJ G (q0 3) 2016 (gB o0 3), kJ G (q0 4) 2016 (gB o0 4), kI G (q0 5) 300 (gA o0 5), kI G (q0 6) 400 (gA o0 6), kJ G (q0 28) 10 (gB o0 28), kI G (q0 31) 969 (gA o0 31), kI G (q0 32) 969 (gA o0 32), kI G (q0 33) 969 (gA o0 33), kI G (q0 38) 5 (gA o0 38), kI G (q0 39) 5120 (gA o0 39), kI G (q0 41) 5 (gA o0 41), kZ G (q0 42) 1024 (gA o0 42), kI G (q0 43) 8192 (gA o0 43), kI G (q0 44) 8192 (gA o0 44)] := hD
      have hP : va_P G.1 CL (cw_Md G h0 q0 (sI (sI o0 24 (50 : Int32)) 25 (0 : Int32))) H := hP
      have hD : va_D A (cw_Md G h0 q0 (sI (sI o0 24 (50 : Int32)) 25 (0 : Int32))) := hD
      exact W.vret hx hb hr (fun t ht hW => ⟨⟨(sI (sI o0 24 (50 : Int32)) 25 (0 : Int32)), rfl, h, by rw [ht]; exact hP, va_K.moved hW.alike hK, hD⟩, hS.F ht⟩) hS.2.2 d_Md_foldStep_163
  · have h := h.2 c1
    refine lv_aload_n hx hb d_Md_foldStep_124 rfl (lv_at hl 0 rfl) ?_
    refine lv_iconst (v := (0 : Int32)) hx hb d_Md_foldStep_125 (by decide) ?_
    refine va_put (D := G.1) (ci := 11) (v := .int (0 : Int32)) (ty := .int) (C := R_Md) (T := T_Md) (N := 45) hx hb hts i_Md ty_Md ty_Md_ok nm_Md hown hK hP hD hS 0 rfl rfl 24 (by decide) (hts _ wf_Md_200) (fun _ h9 => h9) rfl (ty_Md_ok 24 (by decide)) rfl rfl (Nat.le_of_ble_eq_true rfl) d_Md_foldStep_126 (fun H locs hP hD hS => ?_)
    have hP : va_P G.1 CL [(h0, .inr (11, [.int (gI o0 0), .ref (q0 1), .ref (q0 2), .ref (q0 3), .ref (q0 4), .ref (q0 5), .ref (q0 6), .int (gI o0 7), .int (gI o0 8), .int (gI o0 9), .int (gI o0 10), .int (gI o0 11), .int (gI o0 12), .int (gI o0 13), .int (gI o0 14), .long (gL o0 15), .int (gI o0 16), .int (gI o0 17), .int (gI o0 18), .int (gI o0 19), .int (gI o0 20), .int (gI o0 21), .int (gI o0 22), .int (gI o0 23), .int (0 : Int32), .int (gI o0 25), .int (gI o0 26), .int (gI o0 27), .ref (q0 28), .long (gL o0 29), .int (gI o0 30), .ref (q0 31), .ref (q0 32), .ref (q0 33), .int (gI o0 34), .int (gI o0 35), .int (gI o0 36), .int (gI o0 37), .ref (q0 38), .ref (q0 39), .int (gI o0 40), .ref (q0 41), .ref (q0 42), .ref (q0 43), .ref (q0 44)])), kI G (q0 1) 6100 (gA o0 1), kI G (q0 2) 6100 (gA o0 2), kJ G (q0 3) 2016 (gB o0 3), kJ G (q0 4) 2016 (gB o0 4), kI G (q0 5) 300 (gA o0 5), kI G (q0 6) 400 (gA o0 6), kJ G (q0 28) 10 (gB o0 28), kI G (q0 31) 969 (gA o0 31), kI G (q0 32) 969 (gA o0 32), kI G (q0 33) 969 (gA o0 33), kI G (q0 38) 5 (gA o0 38), kI G (q0 39) 5120 (gA o0 39), kI G (q0 41) 5 (gA o0 41), kZ G (q0 42) 1024 (gA o0 42), kI G (q0 43) 8192 (gA o0 43), kI G (q0 44) 8192 (gA o0 44)] H := hP
    have hD : va_D A [(h0, .inr (11, [.int (gI o0 0), .ref (q0 1), .ref (q0 2), .ref (q0 3), .ref (q0 4), .ref (q0 5), .ref (q0 6), .int (gI o0 7), .int (gI o0 8), .int (gI o0 9), .int (gI o0 10), .int (gI o0 11), .int (gI o0 12), .int (gI o0 13), .int (gI o0 14), .long (gL o0 15), .int (gI o0 16), .int (gI o0 17), .int (gI o0 18), .int (gI o0 19), .int (gI o0 20), .int (gI o0 21), .int (gI o0 22), .int (gI o0 23), .int (0 : Int32), .int (gI o0 25), .int (gI o0 26), .int (gI o0 27), .ref (q0 28), .long (gL o0 29), .int (gI o0 30), .ref (q0 31), .ref (q0 32), .ref (q0 33), .int (gI o0 34), .int (gI o0 35), .int (gI o0 36), .int (gI o0 37), .ref (q0 38), .ref (q0 39), .int (gI o0 40), .ref (q0 41), .ref (q0 42), .ref (q0 43), .ref (q0 44)])), kI G (q0 1) 6100 (gA o0 1), kI G (q0 2) 6100 (gA o0 2), kJ G (q0 3) 2016 (gB o0 3), kJ G (q0 4) 2016 (gB o0 4), kI G (q0 5) 300 (gA o0 5), kI G (q0 6) 400 (gA o0 6), kJ G (q0 28) 10 (gB o0 28), kI G (q0 31) 969 (gA o0 31), kI G (q0 32) 969 (gA o0 32), kI G (q0 33) 969 (gA o0 33), kI G (q0 38) 5 (gA o0 38), kI G (q0 39) 5120 (gA o0 39), kI G (q0 41) 5 (gA o0 41), kZ G (q0 42) 1024 (gA o0 42), kI G (q0 43) 8192 (gA o0 43), kI G (q0 44) 8192 (gA o0 44)] := hD
    refine lv_aload_n hx hb d_Md_foldStep_129 rfl (lv_at hl 0 rfl) ?_
    refine lv_aload_n hx hb d_Md_foldStep_130 rfl (lv_at hl 0 rfl) ?_
    refine va_get (D := G.1) (ci := 11) (v := .int (gI o0 25)) (C := R_Md) (T := T_Md) (N := 45) hx hb hts i_Md hown hK hP 0 rfl rfl 25 (by decide) (hts _ wf_Md_197) (fun _ h9 => h9) rfl d_Md_foldStep_131 ?_
    refine lv_ineg hx hb d_Md_foldStep_134 ?_
    refine lv_iconst (v := (2 : Int32)) hx hb d_Md_foldStep_135 (by decide) ?_
    refine lv_idiv hx hb d_Md_foldStep_136 (by decide) ?_
    refine va_put (D := G.1) (ci := 11) (v := .int ((-(gI o0 25)) / (2 : Int32))) (ty := .int) (C := R_Md) (T := T_Md) (N := 45) hx hb hts i_Md ty_Md ty_Md_ok nm_Md hown hK hP hD hS 0 rfl rfl 25 (by decide) (hts _ wf_Md_197) (fun _ h9 => h9) rfl (ty_Md_ok 25 (by decide)) rfl rfl (Nat.le_of_ble_eq_true rfl) d_Md_foldStep_137 (fun H locs hP hD hS => ?_)
    have hP : va_P G.1 CL [(h0, .inr (11, [.int (gI o0 0), .ref (q0 1), .ref (q0 2), .ref (q0 3), .ref (q0 4), .ref (q0 5), .ref (q0 6), .int (gI o0 7), .int (gI o0 8), .int (gI o0 9), .int (gI o0 10), .int (gI o0 11), .int (gI o0 12), .int (gI o0 13), .int (gI o0 14), .long (gL o0 15), .int (gI o0 16), .int (gI o0 17), .int (gI o0 18), .int (gI o0 19), .int (gI o0 20), .int (gI o0 21), .int (gI o0 22), .int (gI o0 23), .int (0 : Int32), .int ((-(gI o0 25)) / (2 : Int32)), .int (gI o0 26), .int (gI o0 27), .ref (q0 28), .long (gL o0 29), .int (gI o0 30), .ref (q0 31), .ref (q0 32), .ref (q0 33), .int (gI o0 34), .int (gI o0 35), .int (gI o0 36), .int (gI o0 37), .ref (q0 38), .ref (q0 39), .int (gI o0 40), .ref (q0 41), .ref (q0 42), .ref (q0 43), .ref (q0 44)])), kI G (q0 1) 6100 (gA o0 1), kI G (q0 2) 6100 (gA o0 2), kJ G (q0 3) 2016 (gB o0 3), kJ G (q0 4) 2016 (gB o0 4), kI G (q0 5) 300 (gA o0 5), kI G (q0 6) 400 (gA o0 6), kJ G (q0 28) 10 (gB o0 28), kI G (q0 31) 969 (gA o0 31), kI G (q0 32) 969 (gA o0 32), kI G (q0 33) 969 (gA o0 33), kI G (q0 38) 5 (gA o0 38), kI G (q0 39) 5120 (gA o0 39), kI G (q0 41) 5 (gA o0 41), kZ G (q0 42) 1024 (gA o0 42), kI G (q0 43) 8192 (gA o0 43), kI G (q0 44) 8192 (gA o0 44)] H := hP
    have hD : va_D A [(h0, .inr (11, [.int (gI o0 0), .ref (q0 1), .ref (q0 2), .ref (q0 3), .ref (q0 4), .ref (q0 5), .ref (q0 6), .int (gI o0 7), .int (gI o0 8), .int (gI o0 9), .int (gI o0 10), .int (gI o0 11), .int (gI o0 12), .int (gI o0 13), .int (gI o0 14), .long (gL o0 15), .int (gI o0 16), .int (gI o0 17), .int (gI o0 18), .int (gI o0 19), .int (gI o0 20), .int (gI o0 21), .int (gI o0 22), .int (gI o0 23), .int (0 : Int32), .int ((-(gI o0 25)) / (2 : Int32)), .int (gI o0 26), .int (gI o0 27), .ref (q0 28), .long (gL o0 29), .int (gI o0 30), .ref (q0 31), .ref (q0 32), .ref (q0 33), .int (gI o0 34), .int (gI o0 35), .int (gI o0 36), .int (gI o0 37), .ref (q0 38), .ref (q0 39), .int (gI o0 40), .ref (q0 41), .ref (q0 42), .ref (q0 43), .ref (q0 44)])), kI G (q0 1) 6100 (gA o0 1), kI G (q0 2) 6100 (gA o0 2), kJ G (q0 3) 2016 (gB o0 3), kJ G (q0 4) 2016 (gB o0 4), kI G (q0 5) 300 (gA o0 5), kI G (q0 6) 400 (gA o0 6), kJ G (q0 28) 10 (gB o0 28), kI G (q0 31) 969 (gA o0 31), kI G (q0 32) 969 (gA o0 32), kI G (q0 33) 969 (gA o0 33), kI G (q0 38) 5 (gA o0 38), kI G (q0 39) 5120 (gA o0 39), kI G (q0 41) 5 (gA o0 41), kZ G (q0 42) 1024 (gA o0 42), kI G (q0 43) 8192 (gA o0 43), kI G (q0 44) 8192 (gA o0 44)] := hD
    refine lv_goto (tgt := 163) hx hb d_Md_foldStep_140 (by decide) ?_
    have hP : va_P G.1 CL (cw_Md G h0 q0 (sI (sI o0 24 (0 : Int32)) 25 ((-(gI o0 25)) / (2 : Int32)))) H := hP
    have hD : va_D A (cw_Md G h0 q0 (sI (sI o0 24 (0 : Int32)) 25 ((-(gI o0 25)) / (2 : Int32)))) := hD
    exact W.vret hx hb hr (fun t ht hW => ⟨⟨(sI (sI o0 24 (0 : Int32)) 25 ((-(gI o0 25)) / (2 : Int32))), rfl, h, by rw [ht]; exact hP, va_K.moved hW.alike hK, hD⟩, hS.F ht⟩) hS.2.2 d_Md_foldStep_163
set_option maxHeartbeats 4000000 in
set_option maxRecDepth 100000 in
theorem t_Md_foldStep_84 {p : Program} {l : Launch} {e : Env} {s : State} {m : MethodId} {args : Array Value} {below : List Frame} {meth : Method} {c : Code} {A : Nat → Prop} {G : Gl} {h0 : Nat} {q0 : Nat → Nat} (Q : Ob → Prop) (C : Cx p s m args meth c R_Md b_Md_foldStep 2 none G A) :
    ∀ (o0 : Ob) (ls : Array Slot) (H : Heap) (locs : List Loc), lv_has ls 2 [(0, .ref h0)] → va_P G.1 CL (cw_Md G h0 q0 o0) H → va_D A (cw_Md G h0 q0 o0) → va_S A s.heap H locs → f_Md_foldStep_84 Q o0 → W p l e rm_Md_foldStep s m args below meth c H locs 0 0 (MQ below (va_Qv (fun (u : Ob) => Q u) (fun (u : Ob) t => BW G A (cw_Md G h0 q0 u) t) A) args s 0 0 A) (F0 m 84 ls []) := by
  obtain ⟨hx, hb, hml, hown, hr, hts, hK, hA, hlocks, hE⟩ := id C
  intro o0 ls H locs hl hP hD hS h
  have hP : va_P G.1 CL [(h0, .inr (11, [.int (gI o0 0), .ref (q0 1), .ref (q0 2), .ref (q0 3), .ref (q0 4), .ref (q0 5), .ref (q0 6), .int (gI o0 7), .int (gI o0 8), .int (gI o0 9), .int (gI o0 10), .int (gI o0 11), .int (gI o0 12), .int (gI o0 13), .int (gI o0 14), .long (gL o0 15), .int (gI o0 16), .int (gI o0 17), .int (gI o0 18), .int (gI o0 19), .int (gI o0 20), .int (gI o0 21), .int (gI o0 22), .int (gI o0 23), .int (gI o0 24), .int (gI o0 25), .int (gI o0 26), .int (gI o0 27), .ref (q0 28), .long (gL o0 29), .int (gI o0 30), .ref (q0 31), .ref (q0 32), .ref (q0 33), .int (gI o0 34), .int (gI o0 35), .int (gI o0 36), .int (gI o0 37), .ref (q0 38), .ref (q0 39), .int (gI o0 40), .ref (q0 41), .ref (q0 42), .ref (q0 43), .ref (q0 44)])), kI G (q0 1) 6100 (gA o0 1), kI G (q0 2) 6100 (gA o0 2), kJ G (q0 3) 2016 (gB o0 3), kJ G (q0 4) 2016 (gB o0 4), kI G (q0 5) 300 (gA o0 5), kI G (q0 6) 400 (gA o0 6), kJ G (q0 28) 10 (gB o0 28), kI G (q0 31) 969 (gA o0 31), kI G (q0 32) 969 (gA o0 32), kI G (q0 33) 969 (gA o0 33), kI G (q0 38) 5 (gA o0 38), kI G (q0 39) 5120 (gA o0 39), kI G (q0 41) 5 (gA o0 41), kZ G (q0 42) 1024 (gA o0 42), kI G (q0 43) 8192 (gA o0 43), kI G (q0 44) 8192 (gA o0 44)] H := hP
  have hD : va_D A [(h0, .inr (11, [.int (gI o0 0), .ref (q0 1), .ref (q0 2), .ref (q0 3), .ref (q0 4), .ref (q0 5), .ref (q0 6), .int (gI o0 7), .int (gI o0 8), .int (gI o0 9), .int (gI o0 10), .int (gI o0 11), .int (gI o0 12), .int (gI o0 13), .int (gI o0 14), .long (gL o0 15), .int (gI o0 16), .int (gI o0 17), .int (gI o0 18), .int (gI o0 19), .int (gI o0 20), .int (gI o0 21), .int (gI o0 22), .int (gI o0 23), .int (gI o0 24), .int (gI o0 25), .int (gI o0 26), .int (gI o0 27), .ref (q0 28), .long (gL o0 29), .int (gI o0 30), .ref (q0 31), .ref (q0 32), .ref (q0 33), .int (gI o0 34), .int (gI o0 35), .int (gI o0 36), .int (gI o0 37), .ref (q0 38), .ref (q0 39), .int (gI o0 40), .ref (q0 41), .ref (q0 42), .ref (q0 43), .ref (q0 44)])), kI G (q0 1) 6100 (gA o0 1), kI G (q0 2) 6100 (gA o0 2), kJ G (q0 3) 2016 (gB o0 3), kJ G (q0 4) 2016 (gB o0 4), kI G (q0 5) 300 (gA o0 5), kI G (q0 6) 400 (gA o0 6), kJ G (q0 28) 10 (gB o0 28), kI G (q0 31) 969 (gA o0 31), kI G (q0 32) 969 (gA o0 32), kI G (q0 33) 969 (gA o0 33), kI G (q0 38) 5 (gA o0 38), kI G (q0 39) 5120 (gA o0 39), kI G (q0 41) 5 (gA o0 41), kZ G (q0 42) 1024 (gA o0 42), kI G (q0 43) 8192 (gA o0 43), kI G (q0 44) 8192 (gA o0 44)] := hD
  unfold f_Md_foldStep_84 at h
  refine lv_aload_n hx hb d_Md_foldStep_84 rfl (lv_at hl 0 rfl) ?_
  refine lv_aload_n hx hb d_Md_foldStep_85 rfl (lv_at hl 0 rfl) ?_
  refine va_get (D := G.1) (ci := 11) (v := .int (gI o0 27)) (C := R_Md) (T := T_Md) (N := 45) hx hb hts i_Md hown hK hP 0 rfl rfl 27 (by decide) (hts _ wf_Md_203) (fun _ h9 => h9) rfl d_Md_foldStep_86 ?_
  refine lv_if_eq (tgt := 100) hx hb d_Md_foldStep_89 (by decide) (fun c3 => ?_) (fun c3 => ?_)
  · have h := h.1 c3
    refine lv_iconst (v := (0 : Int32)) hx hb d_Md_foldStep_100 (by decide) ?_
    refine va_put (D := G.1) (ci := 11) (v := .int (0 : Int32)) (ty := .int) (C := R_Md) (T := T_Md) (N := 45) hx hb hts i_Md ty_Md ty_Md_ok nm_Md hown hK hP hD hS 0 rfl rfl 26 (by decide) (hts _ wf_Md_207) (fun _ h9 => h9) rfl (ty_Md_ok 26 (by decide)) rfl rfl (Nat.le_of_ble_eq_true rfl) d_Md_foldStep_101 (fun H locs hP hD hS => ?_)
    have hP : va_P G.1 CL [(h0, .inr (11, [.int (gI o0 0), .ref (q0 1), .ref (q0 2), .ref (q0 3), .ref (q0 4), .ref (q0 5), .ref (q0 6), .int (gI o0 7), .int (gI o0 8), .int (gI o0 9), .int (gI o0 10), .int (gI o0 11), .int (gI o0 12), .int (gI o0 13), .int (gI o0 14), .long (gL o0 15), .int (gI o0 16), .int (gI o0 17), .int (gI o0 18), .int (gI o0 19), .int (gI o0 20), .int (gI o0 21), .int (gI o0 22), .int (gI o0 23), .int (gI o0 24), .int (gI o0 25), .int (0 : Int32), .int (gI o0 27), .ref (q0 28), .long (gL o0 29), .int (gI o0 30), .ref (q0 31), .ref (q0 32), .ref (q0 33), .int (gI o0 34), .int (gI o0 35), .int (gI o0 36), .int (gI o0 37), .ref (q0 38), .ref (q0 39), .int (gI o0 40), .ref (q0 41), .ref (q0 42), .ref (q0 43), .ref (q0 44)])), kI G (q0 1) 6100 (gA o0 1), kI G (q0 2) 6100 (gA o0 2), kJ G (q0 3) 2016 (gB o0 3), kJ G (q0 4) 2016 (gB o0 4), kI G (q0 5) 300 (gA o0 5), kI G (q0 6) 400 (gA o0 6), kJ G (q0 28) 10 (gB o0 28), kI G (q0 31) 969 (gA o0 31), kI G (q0 32) 969 (gA o0 32), kI G (q0 33) 969 (gA o0 33), kI G (q0 38) 5 (gA o0 38), kI G (q0 39) 5120 (gA o0 39), kI G (q0 41) 5 (gA o0 41), kZ G (q0 42) 1024 (gA o0 42), kI G (q0 43) 8192 (gA o0 43), kI G (q0 44) 8192 (gA o0 44)] H := hP
    have hD : va_D A [(h0, .inr (11, [.int (gI o0 0), .ref (q0 1), .ref (q0 2), .ref (q0 3), .ref (q0 4), .ref (q0 5), .ref (q0 6), .int (gI o0 7), .int (gI o0 8), .int (gI o0 9), .int (gI o0 10), .int (gI o0 11), .int (gI o0 12), .int (gI o0 13), .int (gI o0 14), .long (gL o0 15), .int (gI o0 16), .int (gI o0 17), .int (gI o0 18), .int (gI o0 19), .int (gI o0 20), .int (gI o0 21), .int (gI o0 22), .int (gI o0 23), .int (gI o0 24), .int (gI o0 25), .int (0 : Int32), .int (gI o0 27), .ref (q0 28), .long (gL o0 29), .int (gI o0 30), .ref (q0 31), .ref (q0 32), .ref (q0 33), .int (gI o0 34), .int (gI o0 35), .int (gI o0 36), .int (gI o0 37), .ref (q0 38), .ref (q0 39), .int (gI o0 40), .ref (q0 41), .ref (q0 42), .ref (q0 43), .ref (q0 44)])), kI G (q0 1) 6100 (gA o0 1), kI G (q0 2) 6100 (gA o0 2), kJ G (q0 3) 2016 (gB o0 3), kJ G (q0 4) 2016 (gB o0 4), kI G (q0 5) 300 (gA o0 5), kI G (q0 6) 400 (gA o0 6), kJ G (q0 28) 10 (gB o0 28), kI G (q0 31) 969 (gA o0 31), kI G (q0 32) 969 (gA o0 32), kI G (q0 33) 969 (gA o0 33), kI G (q0 38) 5 (gA o0 38), kI G (q0 39) 5120 (gA o0 39), kI G (q0 41) 5 (gA o0 41), kZ G (q0 42) 1024 (gA o0 42), kI G (q0 43) 8192 (gA o0 43), kI G (q0 44) 8192 (gA o0 44)] := hD
    have hl := lv_sub (l' := [(0, .ref h0)]) hl [0] rfl
    have hP : va_P G.1 CL (cw_Md G h0 q0 (sI o0 26 (0 : Int32))) H := hP
    have hD : va_D A (cw_Md G h0 q0 (sI o0 26 (0 : Int32))) := hD
    exact t_Md_foldStep_104 Q C (sI o0 26 (0 : Int32)) ls _ locs hl hP hD hS h
  · have h := h.2 c3
    refine lv_aload_n hx hb d_Md_foldStep_92 rfl (lv_at hl 0 rfl) ?_
    refine va_get (D := G.1) (ci := 11) (v := .int (gI o0 25)) (C := R_Md) (T := T_Md) (N := 45) hx hb hts i_Md hown hK hP 0 rfl rfl 25 (by decide) (hts _ wf_Md_197) (fun _ h9 => h9) rfl d_Md_foldStep_93 ?_
    refine lv_ineg hx hb d_Md_foldStep_96 ?_
    refine lv_goto (tgt := 101) hx hb d_Md_foldStep_97 (by decide) ?_
    refine va_put (D := G.1) (ci := 11) (v := .int (-(gI o0 25))) (ty := .int) (C := R_Md) (T := T_Md) (N := 45) hx hb hts i_Md ty_Md ty_Md_ok nm_Md hown hK hP hD hS 0 rfl rfl 26 (by decide) (hts _ wf_Md_207) (fun _ h9 => h9) rfl (ty_Md_ok 26 (by decide)) rfl rfl (Nat.le_of_ble_eq_true rfl) d_Md_foldStep_101 (fun H locs hP hD hS => ?_)
    have hP : va_P G.1 CL [(h0, .inr (11, [.int (gI o0 0), .ref (q0 1), .ref (q0 2), .ref (q0 3), .ref (q0 4), .ref (q0 5), .ref (q0 6), .int (gI o0 7), .int (gI o0 8), .int (gI o0 9), .int (gI o0 10), .int (gI o0 11), .int (gI o0 12), .int (gI o0 13), .int (gI o0 14), .long (gL o0 15), .int (gI o0 16), .int (gI o0 17), .int (gI o0 18), .int (gI o0 19), .int (gI o0 20), .int (gI o0 21), .int (gI o0 22), .int (gI o0 23), .int (gI o0 24), .int (gI o0 25), .int (-(gI o0 25)), .int (gI o0 27), .ref (q0 28), .long (gL o0 29), .int (gI o0 30), .ref (q0 31), .ref (q0 32), .ref (q0 33), .int (gI o0 34), .int (gI o0 35), .int (gI o0 36), .int (gI o0 37), .ref (q0 38), .ref (q0 39), .int (gI o0 40), .ref (q0 41), .ref (q0 42), .ref (q0 43), .ref (q0 44)])), kI G (q0 1) 6100 (gA o0 1), kI G (q0 2) 6100 (gA o0 2), kJ G (q0 3) 2016 (gB o0 3), kJ G (q0 4) 2016 (gB o0 4), kI G (q0 5) 300 (gA o0 5), kI G (q0 6) 400 (gA o0 6), kJ G (q0 28) 10 (gB o0 28), kI G (q0 31) 969 (gA o0 31), kI G (q0 32) 969 (gA o0 32), kI G (q0 33) 969 (gA o0 33), kI G (q0 38) 5 (gA o0 38), kI G (q0 39) 5120 (gA o0 39), kI G (q0 41) 5 (gA o0 41), kZ G (q0 42) 1024 (gA o0 42), kI G (q0 43) 8192 (gA o0 43), kI G (q0 44) 8192 (gA o0 44)] H := hP
    have hD : va_D A [(h0, .inr (11, [.int (gI o0 0), .ref (q0 1), .ref (q0 2), .ref (q0 3), .ref (q0 4), .ref (q0 5), .ref (q0 6), .int (gI o0 7), .int (gI o0 8), .int (gI o0 9), .int (gI o0 10), .int (gI o0 11), .int (gI o0 12), .int (gI o0 13), .int (gI o0 14), .long (gL o0 15), .int (gI o0 16), .int (gI o0 17), .int (gI o0 18), .int (gI o0 19), .int (gI o0 20), .int (gI o0 21), .int (gI o0 22), .int (gI o0 23), .int (gI o0 24), .int (gI o0 25), .int (-(gI o0 25)), .int (gI o0 27), .ref (q0 28), .long (gL o0 29), .int (gI o0 30), .ref (q0 31), .ref (q0 32), .ref (q0 33), .int (gI o0 34), .int (gI o0 35), .int (gI o0 36), .int (gI o0 37), .ref (q0 38), .ref (q0 39), .int (gI o0 40), .ref (q0 41), .ref (q0 42), .ref (q0 43), .ref (q0 44)])), kI G (q0 1) 6100 (gA o0 1), kI G (q0 2) 6100 (gA o0 2), kJ G (q0 3) 2016 (gB o0 3), kJ G (q0 4) 2016 (gB o0 4), kI G (q0 5) 300 (gA o0 5), kI G (q0 6) 400 (gA o0 6), kJ G (q0 28) 10 (gB o0 28), kI G (q0 31) 969 (gA o0 31), kI G (q0 32) 969 (gA o0 32), kI G (q0 33) 969 (gA o0 33), kI G (q0 38) 5 (gA o0 38), kI G (q0 39) 5120 (gA o0 39), kI G (q0 41) 5 (gA o0 41), kZ G (q0 42) 1024 (gA o0 42), kI G (q0 43) 8192 (gA o0 43), kI G (q0 44) 8192 (gA o0 44)] := hD
    have hl := lv_sub (l' := [(0, .ref h0)]) hl [0] rfl
    have hP : va_P G.1 CL (cw_Md G h0 q0 (sI o0 26 (-(gI o0 25)))) H := hP
    have hD : va_D A (cw_Md G h0 q0 (sI o0 26 (-(gI o0 25)))) := hD
    exact t_Md_foldStep_104 Q C (sI o0 26 (-(gI o0 25))) ls _ locs hl hP hD hS h
set_option maxHeartbeats 4000000 in
set_option maxRecDepth 100000 in
theorem t_Md_foldStep_63 {p : Program} {l : Launch} {e : Env} {s : State} {m : MethodId} {args : Array Value} {below : List Frame} {meth : Method} {c : Code} {A : Nat → Prop} {G : Gl} {h0 : Nat} {q0 : Nat → Nat} (Q : Ob → Prop) (C : Cx p s m args meth c R_Md b_Md_foldStep 2 none G A) :
    ∀ (o0 : Ob) (ls : Array Slot) (H : Heap) (locs : List Loc), lv_has ls 2 [(0, .ref h0)] → va_P G.1 CL (cw_Md G h0 q0 o0) H → va_D A (cw_Md G h0 q0 o0) → va_S A s.heap H locs → f_Md_foldStep_63 Q o0 → W p l e rm_Md_foldStep s m args below meth c H locs 0 0 (MQ below (va_Qv (fun (u : Ob) => Q u) (fun (u : Ob) t => BW G A (cw_Md G h0 q0 u) t) A) args s 0 0 A) (F0 m 63 ls []) := by
  obtain ⟨hx, hb, hml, hown, hr, hts, hK, hA, hlocks, hE⟩ := id C
  intro o0 ls H locs hl hP hD hS h
  have hP : va_P G.1 CL [(h0, .inr (11, [.int (gI o0 0), .ref (q0 1), .ref (q0 2), .ref (q0 3), .ref (q0 4), .ref (q0 5), .ref (q0 6), .int (gI o0 7), .int (gI o0 8), .int (gI o0 9), .int (gI o0 10), .int (gI o0 11), .int (gI o0 12), .int (gI o0 13), .int (gI o0 14), .long (gL o0 15), .int (gI o0 16), .int (gI o0 17), .int (gI o0 18), .int (gI o0 19), .int (gI o0 20), .int (gI o0 21), .int (gI o0 22), .int (gI o0 23), .int (gI o0 24), .int (gI o0 25), .int (gI o0 26), .int (gI o0 27), .ref (q0 28), .long (gL o0 29), .int (gI o0 30), .ref (q0 31), .ref (q0 32), .ref (q0 33), .int (gI o0 34), .int (gI o0 35), .int (gI o0 36), .int (gI o0 37), .ref (q0 38), .ref (q0 39), .int (gI o0 40), .ref (q0 41), .ref (q0 42), .ref (q0 43), .ref (q0 44)])), kI G (q0 1) 6100 (gA o0 1), kI G (q0 2) 6100 (gA o0 2), kJ G (q0 3) 2016 (gB o0 3), kJ G (q0 4) 2016 (gB o0 4), kI G (q0 5) 300 (gA o0 5), kI G (q0 6) 400 (gA o0 6), kJ G (q0 28) 10 (gB o0 28), kI G (q0 31) 969 (gA o0 31), kI G (q0 32) 969 (gA o0 32), kI G (q0 33) 969 (gA o0 33), kI G (q0 38) 5 (gA o0 38), kI G (q0 39) 5120 (gA o0 39), kI G (q0 41) 5 (gA o0 41), kZ G (q0 42) 1024 (gA o0 42), kI G (q0 43) 8192 (gA o0 43), kI G (q0 44) 8192 (gA o0 44)] H := hP
  have hD : va_D A [(h0, .inr (11, [.int (gI o0 0), .ref (q0 1), .ref (q0 2), .ref (q0 3), .ref (q0 4), .ref (q0 5), .ref (q0 6), .int (gI o0 7), .int (gI o0 8), .int (gI o0 9), .int (gI o0 10), .int (gI o0 11), .int (gI o0 12), .int (gI o0 13), .int (gI o0 14), .long (gL o0 15), .int (gI o0 16), .int (gI o0 17), .int (gI o0 18), .int (gI o0 19), .int (gI o0 20), .int (gI o0 21), .int (gI o0 22), .int (gI o0 23), .int (gI o0 24), .int (gI o0 25), .int (gI o0 26), .int (gI o0 27), .ref (q0 28), .long (gL o0 29), .int (gI o0 30), .ref (q0 31), .ref (q0 32), .ref (q0 33), .int (gI o0 34), .int (gI o0 35), .int (gI o0 36), .int (gI o0 37), .ref (q0 38), .ref (q0 39), .int (gI o0 40), .ref (q0 41), .ref (q0 42), .ref (q0 43), .ref (q0 44)])), kI G (q0 1) 6100 (gA o0 1), kI G (q0 2) 6100 (gA o0 2), kJ G (q0 3) 2016 (gB o0 3), kJ G (q0 4) 2016 (gB o0 4), kI G (q0 5) 300 (gA o0 5), kI G (q0 6) 400 (gA o0 6), kJ G (q0 28) 10 (gB o0 28), kI G (q0 31) 969 (gA o0 31), kI G (q0 32) 969 (gA o0 32), kI G (q0 33) 969 (gA o0 33), kI G (q0 38) 5 (gA o0 38), kI G (q0 39) 5120 (gA o0 39), kI G (q0 41) 5 (gA o0 41), kZ G (q0 42) 1024 (gA o0 42), kI G (q0 43) 8192 (gA o0 43), kI G (q0 44) 8192 (gA o0 44)] := hD
  unfold f_Md_foldStep_63 at h
  refine lv_aload_n hx hb d_Md_foldStep_63 rfl (lv_at hl 0 rfl) ?_
  refine lv_aload_n hx hb d_Md_foldStep_64 rfl (lv_at hl 0 rfl) ?_
  refine va_get (D := G.1) (ci := 11) (v := .int (gI o0 24)) (C := R_Md) (T := T_Md) (N := 45) hx hb hts i_Md hown hK hP 0 rfl rfl 24 (by decide) (hts _ wf_Md_200) (fun _ h9 => h9) rfl d_Md_foldStep_65 ?_
  refine lv_aload_n hx hb d_Md_foldStep_68 rfl (lv_at hl 0 rfl) ?_
  refine va_get (D := G.1) (ci := 11) (v := .int (gI o0 25)) (C := R_Md) (T := T_Md) (N := 45) hx hb hts i_Md hown hK hP 0 rfl rfl 25 (by decide) (hts _ wf_Md_197) (fun _ h9 => h9) rfl d_Md_foldStep_69 ?_
  refine lv_iadd hx hb d_Md_foldStep_72 ?_
  refine lv_if_ge (tgt := 80) hx hb d_Md_foldStep_73 (by decide) (fun c4 => ?_) (fun c4 => ?_)
  · have h := h.1 c4
    refine lv_iconst (v := (0 : Int32)) hx hb d_Md_foldStep_80 (by decide) ?_
    refine va_put (D := G.1) (ci := 11) (v := .int (0 : Int32)) (ty := .boolean) (C := R_Md) (T := T_Md) (N := 45) hx hb hts i_Md ty_Md ty_Md_ok nm_Md hown hK hP hD hS 0 rfl rfl 27 (by decide) (hts _ wf_Md_203) (fun _ h9 => h9) rfl (ty_Md_ok 27 (by decide)) rfl rfl (Nat.le_of_ble_eq_true rfl) d_Md_foldStep_81 (fun H locs hP hD hS => ?_)
    have hP : va_P G.1 CL [(h0, .inr (11, [.int (gI o0 0), .ref (q0 1), .ref (q0 2), .ref (q0 3), .ref (q0 4), .ref (q0 5), .ref (q0 6), .int (gI o0 7), .int (gI o0 8), .int (gI o0 9), .int (gI o0 10), .int (gI o0 11), .int (gI o0 12), .int (gI o0 13), .int (gI o0 14), .long (gL o0 15), .int (gI o0 16), .int (gI o0 17), .int (gI o0 18), .int (gI o0 19), .int (gI o0 20), .int (gI o0 21), .int (gI o0 22), .int (gI o0 23), .int (gI o0 24), .int (gI o0 25), .int (gI o0 26), .int (0 : Int32), .ref (q0 28), .long (gL o0 29), .int (gI o0 30), .ref (q0 31), .ref (q0 32), .ref (q0 33), .int (gI o0 34), .int (gI o0 35), .int (gI o0 36), .int (gI o0 37), .ref (q0 38), .ref (q0 39), .int (gI o0 40), .ref (q0 41), .ref (q0 42), .ref (q0 43), .ref (q0 44)])), kI G (q0 1) 6100 (gA o0 1), kI G (q0 2) 6100 (gA o0 2), kJ G (q0 3) 2016 (gB o0 3), kJ G (q0 4) 2016 (gB o0 4), kI G (q0 5) 300 (gA o0 5), kI G (q0 6) 400 (gA o0 6), kJ G (q0 28) 10 (gB o0 28), kI G (q0 31) 969 (gA o0 31), kI G (q0 32) 969 (gA o0 32), kI G (q0 33) 969 (gA o0 33), kI G (q0 38) 5 (gA o0 38), kI G (q0 39) 5120 (gA o0 39), kI G (q0 41) 5 (gA o0 41), kZ G (q0 42) 1024 (gA o0 42), kI G (q0 43) 8192 (gA o0 43), kI G (q0 44) 8192 (gA o0 44)] H := hP
    have hD : va_D A [(h0, .inr (11, [.int (gI o0 0), .ref (q0 1), .ref (q0 2), .ref (q0 3), .ref (q0 4), .ref (q0 5), .ref (q0 6), .int (gI o0 7), .int (gI o0 8), .int (gI o0 9), .int (gI o0 10), .int (gI o0 11), .int (gI o0 12), .int (gI o0 13), .int (gI o0 14), .long (gL o0 15), .int (gI o0 16), .int (gI o0 17), .int (gI o0 18), .int (gI o0 19), .int (gI o0 20), .int (gI o0 21), .int (gI o0 22), .int (gI o0 23), .int (gI o0 24), .int (gI o0 25), .int (gI o0 26), .int (0 : Int32), .ref (q0 28), .long (gL o0 29), .int (gI o0 30), .ref (q0 31), .ref (q0 32), .ref (q0 33), .int (gI o0 34), .int (gI o0 35), .int (gI o0 36), .int (gI o0 37), .ref (q0 38), .ref (q0 39), .int (gI o0 40), .ref (q0 41), .ref (q0 42), .ref (q0 43), .ref (q0 44)])), kI G (q0 1) 6100 (gA o0 1), kI G (q0 2) 6100 (gA o0 2), kJ G (q0 3) 2016 (gB o0 3), kJ G (q0 4) 2016 (gB o0 4), kI G (q0 5) 300 (gA o0 5), kI G (q0 6) 400 (gA o0 6), kJ G (q0 28) 10 (gB o0 28), kI G (q0 31) 969 (gA o0 31), kI G (q0 32) 969 (gA o0 32), kI G (q0 33) 969 (gA o0 33), kI G (q0 38) 5 (gA o0 38), kI G (q0 39) 5120 (gA o0 39), kI G (q0 41) 5 (gA o0 41), kZ G (q0 42) 1024 (gA o0 42), kI G (q0 43) 8192 (gA o0 43), kI G (q0 44) 8192 (gA o0 44)] := hD
    have hl := lv_sub (l' := [(0, .ref h0)]) hl [0] rfl
    have hP : va_P G.1 CL (cw_Md G h0 q0 (sI o0 27 (0 : Int32))) H := hP
    have hD : va_D A (cw_Md G h0 q0 (sI o0 27 (0 : Int32))) := hD
    exact t_Md_foldStep_84 Q C (sI o0 27 (0 : Int32)) ls _ locs hl hP hD hS h
  · have h := h.2 c4
    refine lv_iconst (v := (1 : Int32)) hx hb d_Md_foldStep_76 (by decide) ?_
    refine lv_goto (tgt := 81) hx hb d_Md_foldStep_77 (by decide) ?_
    refine va_put (D := G.1) (ci := 11) (v := .int (1 : Int32)) (ty := .boolean) (C := R_Md) (T := T_Md) (N := 45) hx hb hts i_Md ty_Md ty_Md_ok nm_Md hown hK hP hD hS 0 rfl rfl 27 (by decide) (hts _ wf_Md_203) (fun _ h9 => h9) rfl (ty_Md_ok 27 (by decide)) rfl rfl (Nat.le_of_ble_eq_true rfl) d_Md_foldStep_81 (fun H locs hP hD hS => ?_)
    have hP : va_P G.1 CL [(h0, .inr (11, [.int (gI o0 0), .ref (q0 1), .ref (q0 2), .ref (q0 3), .ref (q0 4), .ref (q0 5), .ref (q0 6), .int (gI o0 7), .int (gI o0 8), .int (gI o0 9), .int (gI o0 10), .int (gI o0 11), .int (gI o0 12), .int (gI o0 13), .int (gI o0 14), .long (gL o0 15), .int (gI o0 16), .int (gI o0 17), .int (gI o0 18), .int (gI o0 19), .int (gI o0 20), .int (gI o0 21), .int (gI o0 22), .int (gI o0 23), .int (gI o0 24), .int (gI o0 25), .int (gI o0 26), .int (1 : Int32), .ref (q0 28), .long (gL o0 29), .int (gI o0 30), .ref (q0 31), .ref (q0 32), .ref (q0 33), .int (gI o0 34), .int (gI o0 35), .int (gI o0 36), .int (gI o0 37), .ref (q0 38), .ref (q0 39), .int (gI o0 40), .ref (q0 41), .ref (q0 42), .ref (q0 43), .ref (q0 44)])), kI G (q0 1) 6100 (gA o0 1), kI G (q0 2) 6100 (gA o0 2), kJ G (q0 3) 2016 (gB o0 3), kJ G (q0 4) 2016 (gB o0 4), kI G (q0 5) 300 (gA o0 5), kI G (q0 6) 400 (gA o0 6), kJ G (q0 28) 10 (gB o0 28), kI G (q0 31) 969 (gA o0 31), kI G (q0 32) 969 (gA o0 32), kI G (q0 33) 969 (gA o0 33), kI G (q0 38) 5 (gA o0 38), kI G (q0 39) 5120 (gA o0 39), kI G (q0 41) 5 (gA o0 41), kZ G (q0 42) 1024 (gA o0 42), kI G (q0 43) 8192 (gA o0 43), kI G (q0 44) 8192 (gA o0 44)] H := hP
    have hD : va_D A [(h0, .inr (11, [.int (gI o0 0), .ref (q0 1), .ref (q0 2), .ref (q0 3), .ref (q0 4), .ref (q0 5), .ref (q0 6), .int (gI o0 7), .int (gI o0 8), .int (gI o0 9), .int (gI o0 10), .int (gI o0 11), .int (gI o0 12), .int (gI o0 13), .int (gI o0 14), .long (gL o0 15), .int (gI o0 16), .int (gI o0 17), .int (gI o0 18), .int (gI o0 19), .int (gI o0 20), .int (gI o0 21), .int (gI o0 22), .int (gI o0 23), .int (gI o0 24), .int (gI o0 25), .int (gI o0 26), .int (1 : Int32), .ref (q0 28), .long (gL o0 29), .int (gI o0 30), .ref (q0 31), .ref (q0 32), .ref (q0 33), .int (gI o0 34), .int (gI o0 35), .int (gI o0 36), .int (gI o0 37), .ref (q0 38), .ref (q0 39), .int (gI o0 40), .ref (q0 41), .ref (q0 42), .ref (q0 43), .ref (q0 44)])), kI G (q0 1) 6100 (gA o0 1), kI G (q0 2) 6100 (gA o0 2), kJ G (q0 3) 2016 (gB o0 3), kJ G (q0 4) 2016 (gB o0 4), kI G (q0 5) 300 (gA o0 5), kI G (q0 6) 400 (gA o0 6), kJ G (q0 28) 10 (gB o0 28), kI G (q0 31) 969 (gA o0 31), kI G (q0 32) 969 (gA o0 32), kI G (q0 33) 969 (gA o0 33), kI G (q0 38) 5 (gA o0 38), kI G (q0 39) 5120 (gA o0 39), kI G (q0 41) 5 (gA o0 41), kZ G (q0 42) 1024 (gA o0 42), kI G (q0 43) 8192 (gA o0 43), kI G (q0 44) 8192 (gA o0 44)] := hD
    have hl := lv_sub (l' := [(0, .ref h0)]) hl [0] rfl
    have hP : va_P G.1 CL (cw_Md G h0 q0 (sI o0 27 (1 : Int32))) H := hP
    have hD : va_D A (cw_Md G h0 q0 (sI o0 27 (1 : Int32))) := hD
    exact t_Md_foldStep_84 Q C (sI o0 27 (1 : Int32)) ls _ locs hl hP hD hS h
set_option maxHeartbeats 4000000 in
set_option maxRecDepth 100000 in
theorem t_Md_foldStep_48 {p : Program} {l : Launch} {e : Env} {s : State} {m : MethodId} {args : Array Value} {below : List Frame} {meth : Method} {c : Code} {A : Nat → Prop} {G : Gl} {h0 : Nat} {q0 : Nat → Nat} (Q : Ob → Prop) (C : Cx p s m args meth c R_Md b_Md_foldStep 2 none G A) :
    ∀ (o0 : Ob) (ls : Array Slot) (H : Heap) (locs : List Loc), lv_has ls 2 [(0, .ref h0)] → va_P G.1 CL (cw_Md G h0 q0 o0) H → va_D A (cw_Md G h0 q0 o0) → va_S A s.heap H locs → f_Md_foldStep_48 Q o0 → W p l e rm_Md_foldStep s m args below meth c H locs 0 0 (MQ below (va_Qv (fun (u : Ob) => Q u) (fun (u : Ob) t => BW G A (cw_Md G h0 q0 u) t) A) args s 0 0 A) (F0 m 48 ls []) := by
  obtain ⟨hx, hb, hml, hown, hr, hts, hK, hA, hlocks, hE⟩ := id C
  intro o0 ls H locs hl hP hD hS h
  have hP : va_P G.1 CL [(h0, .inr (11, [.int (gI o0 0), .ref (q0 1), .ref (q0 2), .ref (q0 3), .ref (q0 4), .ref (q0 5), .ref (q0 6), .int (gI o0 7), .int (gI o0 8), .int (gI o0 9), .int (gI o0 10), .int (gI o0 11), .int (gI o0 12), .int (gI o0 13), .int (gI o0 14), .long (gL o0 15), .int (gI o0 16), .int (gI o0 17), .int (gI o0 18), .int (gI o0 19), .int (gI o0 20), .int (gI o0 21), .int (gI o0 22), .int (gI o0 23), .int (gI o0 24), .int (gI o0 25), .int (gI o0 26), .int (gI o0 27), .ref (q0 28), .long (gL o0 29), .int (gI o0 30), .ref (q0 31), .ref (q0 32), .ref (q0 33), .int (gI o0 34), .int (gI o0 35), .int (gI o0 36), .int (gI o0 37), .ref (q0 38), .ref (q0 39), .int (gI o0 40), .ref (q0 41), .ref (q0 42), .ref (q0 43), .ref (q0 44)])), kI G (q0 1) 6100 (gA o0 1), kI G (q0 2) 6100 (gA o0 2), kJ G (q0 3) 2016 (gB o0 3), kJ G (q0 4) 2016 (gB o0 4), kI G (q0 5) 300 (gA o0 5), kI G (q0 6) 400 (gA o0 6), kJ G (q0 28) 10 (gB o0 28), kI G (q0 31) 969 (gA o0 31), kI G (q0 32) 969 (gA o0 32), kI G (q0 33) 969 (gA o0 33), kI G (q0 38) 5 (gA o0 38), kI G (q0 39) 5120 (gA o0 39), kI G (q0 41) 5 (gA o0 41), kZ G (q0 42) 1024 (gA o0 42), kI G (q0 43) 8192 (gA o0 43), kI G (q0 44) 8192 (gA o0 44)] H := hP
  have hD : va_D A [(h0, .inr (11, [.int (gI o0 0), .ref (q0 1), .ref (q0 2), .ref (q0 3), .ref (q0 4), .ref (q0 5), .ref (q0 6), .int (gI o0 7), .int (gI o0 8), .int (gI o0 9), .int (gI o0 10), .int (gI o0 11), .int (gI o0 12), .int (gI o0 13), .int (gI o0 14), .long (gL o0 15), .int (gI o0 16), .int (gI o0 17), .int (gI o0 18), .int (gI o0 19), .int (gI o0 20), .int (gI o0 21), .int (gI o0 22), .int (gI o0 23), .int (gI o0 24), .int (gI o0 25), .int (gI o0 26), .int (gI o0 27), .ref (q0 28), .long (gL o0 29), .int (gI o0 30), .ref (q0 31), .ref (q0 32), .ref (q0 33), .int (gI o0 34), .int (gI o0 35), .int (gI o0 36), .int (gI o0 37), .ref (q0 38), .ref (q0 39), .int (gI o0 40), .ref (q0 41), .ref (q0 42), .ref (q0 43), .ref (q0 44)])), kI G (q0 1) 6100 (gA o0 1), kI G (q0 2) 6100 (gA o0 2), kJ G (q0 3) 2016 (gB o0 3), kJ G (q0 4) 2016 (gB o0 4), kI G (q0 5) 300 (gA o0 5), kI G (q0 6) 400 (gA o0 6), kJ G (q0 28) 10 (gB o0 28), kI G (q0 31) 969 (gA o0 31), kI G (q0 32) 969 (gA o0 32), kI G (q0 33) 969 (gA o0 33), kI G (q0 38) 5 (gA o0 38), kI G (q0 39) 5120 (gA o0 39), kI G (q0 41) 5 (gA o0 41), kZ G (q0 42) 1024 (gA o0 42), kI G (q0 43) 8192 (gA o0 43), kI G (q0 44) 8192 (gA o0 44)] := hD
  unfold f_Md_foldStep_48 at h
  refine lv_aload_n hx hb d_Md_foldStep_48 rfl (lv_at hl 0 rfl) ?_
  refine va_get (D := G.1) (ci := 11) (v := .int (gI o0 25)) (C := R_Md) (T := T_Md) (N := 45) hx hb hts i_Md hown hK hP 0 rfl rfl 25 (by decide) (hts _ wf_Md_197) (fun _ h9 => h9) rfl d_Md_foldStep_49 ?_
  refine lv_bipush (v := (-9 : Int32)) hx hb d_Md_foldStep_52 (by decide) ?_
  refine lv_icmp_ge (tgt := 63) hx hb d_Md_foldStep_54 (by decide) (fun c5 => ?_) (fun c5 => ?_)
  · have h := h.1 c5
    have hl := lv_sub (l' := [(0, .ref h0)]) hl [0] rfl
    have hP : va_P G.1 CL (cw_Md G h0 q0 o0) H := hP
    have hD : va_D A (cw_Md G h0 q0 o0) := hD
    exact t_Md_foldStep_63 Q C o0 ls _ locs hl hP hD hS h
  · have h := h.2 c5
    refine lv_aload_n hx hb d_Md_foldStep_57 rfl (lv_at hl 0 rfl) ?_
    refine lv_bipush (v := (-9 : Int32)) hx hb d_Md_foldStep_58 (by decide) ?_
    refine va_put (D := G.1) (ci := 11) (v := .int (-9 : Int32)) (ty := .int) (C := R_Md) (T := T_Md) (N := 45) hx hb hts i_Md ty_Md ty_Md_ok nm_Md hown hK hP hD hS 0 rfl rfl 25 (by decide) (hts _ wf_Md_197) (fun _ h9 => h9) rfl (ty_Md_ok 25 (by decide)) rfl rfl (Nat.le_of_ble_eq_true rfl) d_Md_foldStep_60 (fun H locs hP hD hS => ?_)
    have hP : va_P G.1 CL [(h0, .inr (11, [.int (gI o0 0), .ref (q0 1), .ref (q0 2), .ref (q0 3), .ref (q0 4), .ref (q0 5), .ref (q0 6), .int (gI o0 7), .int (gI o0 8), .int (gI o0 9), .int (gI o0 10), .int (gI o0 11), .int (gI o0 12), .int (gI o0 13), .int (gI o0 14), .long (gL o0 15), .int (gI o0 16), .int (gI o0 17), .int (gI o0 18), .int (gI o0 19), .int (gI o0 20), .int (gI o0 21), .int (gI o0 22), .int (gI o0 23), .int (gI o0 24), .int (-9 : Int32), .int (gI o0 26), .int (gI o0 27), .ref (q0 28), .long (gL o0 29), .int (gI o0 30), .ref (q0 31), .ref (q0 32), .ref (q0 33), .int (gI o0 34), .int (gI o0 35), .int (gI o0 36), .int (gI o0 37), .ref (q0 38), .ref (q0 39), .int (gI o0 40), .ref (q0 41), .ref (q0 42), .ref (q0 43), .ref (q0 44)])), kI G (q0 1) 6100 (gA o0 1), kI G (q0 2) 6100 (gA o0 2), kJ G (q0 3) 2016 (gB o0 3), kJ G (q0 4) 2016 (gB o0 4), kI G (q0 5) 300 (gA o0 5), kI G (q0 6) 400 (gA o0 6), kJ G (q0 28) 10 (gB o0 28), kI G (q0 31) 969 (gA o0 31), kI G (q0 32) 969 (gA o0 32), kI G (q0 33) 969 (gA o0 33), kI G (q0 38) 5 (gA o0 38), kI G (q0 39) 5120 (gA o0 39), kI G (q0 41) 5 (gA o0 41), kZ G (q0 42) 1024 (gA o0 42), kI G (q0 43) 8192 (gA o0 43), kI G (q0 44) 8192 (gA o0 44)] H := hP
    have hD : va_D A [(h0, .inr (11, [.int (gI o0 0), .ref (q0 1), .ref (q0 2), .ref (q0 3), .ref (q0 4), .ref (q0 5), .ref (q0 6), .int (gI o0 7), .int (gI o0 8), .int (gI o0 9), .int (gI o0 10), .int (gI o0 11), .int (gI o0 12), .int (gI o0 13), .int (gI o0 14), .long (gL o0 15), .int (gI o0 16), .int (gI o0 17), .int (gI o0 18), .int (gI o0 19), .int (gI o0 20), .int (gI o0 21), .int (gI o0 22), .int (gI o0 23), .int (gI o0 24), .int (-9 : Int32), .int (gI o0 26), .int (gI o0 27), .ref (q0 28), .long (gL o0 29), .int (gI o0 30), .ref (q0 31), .ref (q0 32), .ref (q0 33), .int (gI o0 34), .int (gI o0 35), .int (gI o0 36), .int (gI o0 37), .ref (q0 38), .ref (q0 39), .int (gI o0 40), .ref (q0 41), .ref (q0 42), .ref (q0 43), .ref (q0 44)])), kI G (q0 1) 6100 (gA o0 1), kI G (q0 2) 6100 (gA o0 2), kJ G (q0 3) 2016 (gB o0 3), kJ G (q0 4) 2016 (gB o0 4), kI G (q0 5) 300 (gA o0 5), kI G (q0 6) 400 (gA o0 6), kJ G (q0 28) 10 (gB o0 28), kI G (q0 31) 969 (gA o0 31), kI G (q0 32) 969 (gA o0 32), kI G (q0 33) 969 (gA o0 33), kI G (q0 38) 5 (gA o0 38), kI G (q0 39) 5120 (gA o0 39), kI G (q0 41) 5 (gA o0 41), kZ G (q0 42) 1024 (gA o0 42), kI G (q0 43) 8192 (gA o0 43), kI G (q0 44) 8192 (gA o0 44)] := hD
    have hl := lv_sub (l' := [(0, .ref h0)]) hl [0] rfl
    have hP : va_P G.1 CL (cw_Md G h0 q0 (sI o0 25 (-9 : Int32))) H := hP
    have hD : va_D A (cw_Md G h0 q0 (sI o0 25 (-9 : Int32))) := hD
    exact t_Md_foldStep_63 Q C (sI o0 25 (-9 : Int32)) ls _ locs hl hP hD hS h
set_option maxHeartbeats 4000000 in
set_option maxRecDepth 100000 in
theorem c_Md_foldStep {l : Launch} {G : Gl} {h0 : Nat} {q0 : Nat → Nat} {a0 : Int32} {o0 : Ob} {Q : Ob → Prop} (sz : Nat) (h : f_Md_foldStep a0 o0 Q) : Met l y_Md_foldStep w_Md_foldStep rm_Md_foldStep (PcW G [.ref h0, .int a0] sz (cw_Md G h0 q0 o0)) (va_Qv (fun (u : Ob) => Q u) (fun (u : Ob) t => BW G (va_A (cw_Md G h0 q0 o0) sz) (cw_Md G h0 q0 u) t) (va_A (cw_Md G h0 q0 o0) sz)) 0 0 (va_A (cw_Md G h0 q0 o0) sz) := by
  refine Met.ofW (cc := b_Md_foldStep) (maxL := 2) (ret := none) (by decide +kernel) rfl ?_
  intro p e s m args below meth c s₁ B hml hv
  obtain ⟨rfl, hsz, hP, hK, hD0, hE⟩ := hv
  have hx := B.exec
  have hb := B.bytes
  have hr := B.returns
  have hts0 := atoms_spec (ws := w_Md_foldStep) B.pre
  have hts : ∀ w ∈ gw_tbl, w.before ([.ref h0, .int a0]).toArray s = true := fun w hw => hts0 w (List.mem_cons_of_mem _ hw)
  have hown : s.vm.findClass R_Md = some m.cls := findClass_of_methodNamed B.named
  have hlocks := B.notSynchronized
  subst hsz
  have hD := hD0.self (sz := s.heap.size)
  generalize hAe : va_A (cw_Md G h0 q0 o0) s.heap.size = A at hD hE ⊢
  have hA : ∀ q : Nat, s.heap.size ≤ q → A q := fun q h => by rw [← hAe]; exact Or.inr h
  have hS : va_S A s.heap s.heap [] := va_S.rf
  have C : Cx p s m ([.ref h0, .int a0]).toArray meth c R_Md b_Md_foldStep 2 none G A := ⟨hx, hb, hml, hown, hr, hts, hK, hA, hlocks, hE⟩
  have hl := lv_entry ([.ref h0, .int a0]) (n := 2) (Nat.le_of_ble_eq_true rfl)
  rw [lg_entry_eq]
  generalize (lg_sl ([.ref h0, .int a0]) ++ List.replicate (2 - (lg_sl ([.ref h0, .int a0])).length) Slot.unset).toArray = ls at hl ⊢
  have hl : lv_has ls 2 [(0, .ref h0), (1, .int a0)] := hl
  have hD : va_D A [(h0, .inr (11, [.int (gI o0 0), .ref (q0 1), .ref (q0 2), .ref (q0 3), .ref (q0 4), .ref (q0 5), .ref (q0 6), .int (gI o0 7), .int (gI o0 8), .int (gI o0 9), .int (gI o0 10), .int (gI o0 11), .int (gI o0 12), .int (gI o0 13), .int (gI o0 14), .long (gL o0 15), .int (gI o0 16), .int (gI o0 17), .int (gI o0 18), .int (gI o0 19), .int (gI o0 20), .int (gI o0 21), .int (gI o0 22), .int (gI o0 23), .int (gI o0 24), .int (gI o0 25), .int (gI o0 26), .int (gI o0 27), .ref (q0 28), .long (gL o0 29), .int (gI o0 30), .ref (q0 31), .ref (q0 32), .ref (q0 33), .int (gI o0 34), .int (gI o0 35), .int (gI o0 36), .int (gI o0 37), .ref (q0 38), .ref (q0 39), .int (gI o0 40), .ref (q0 41), .ref (q0 42), .ref (q0 43), .ref (q0 44)])), kI G (q0 1) 6100 (gA o0 1), kI G (q0 2) 6100 (gA o0 2), kJ G (q0 3) 2016 (gB o0 3), kJ G (q0 4) 2016 (gB o0 4), kI G (q0 5) 300 (gA o0 5), kI G (q0 6) 400 (gA o0 6), kJ G (q0 28) 10 (gB o0 28), kI G (q0 31) 969 (gA o0 31), kI G (q0 32) 969 (gA o0 32), kI G (q0 33) 969 (gA o0 33), kI G (q0 38) 5 (gA o0 38), kI G (q0 39) 5120 (gA o0 39), kI G (q0 41) 5 (gA o0 41), kZ G (q0 42) 1024 (gA o0 42), kI G (q0 43) 8192 (gA o0 43), kI G (q0 44) 8192 (gA o0 44)] := hD
  unfold f_Md_foldStep at h
  suffices key : ∀ (H : Heap) (locs : List Loc), va_P G.1 CL [(h0, .inr (11, [.int (gI o0 0), .ref (q0 1), .ref (q0 2), .ref (q0 3), .ref (q0 4), .ref (q0 5), .ref (q0 6), .int (gI o0 7), .int (gI o0 8), .int (gI o0 9), .int (gI o0 10), .int (gI o0 11), .int (gI o0 12), .int (gI o0 13), .int (gI o0 14), .long (gL o0 15), .int (gI o0 16), .int (gI o0 17), .int (gI o0 18), .int (gI o0 19), .int (gI o0 20), .int (gI o0 21), .int (gI o0 22), .int (gI o0 23), .int (gI o0 24), .int (gI o0 25), .int (gI o0 26), .int (gI o0 27), .ref (q0 28), .long (gL o0 29), .int (gI o0 30), .ref (q0 31), .ref (q0 32), .ref (q0 33), .int (gI o0 34), .int (gI o0 35), .int (gI o0 36), .int (gI o0 37), .ref (q0 38), .ref (q0 39), .int (gI o0 40), .ref (q0 41), .ref (q0 42), .ref (q0 43), .ref (q0 44)])), kI G (q0 1) 6100 (gA o0 1), kI G (q0 2) 6100 (gA o0 2), kJ G (q0 3) 2016 (gB o0 3), kJ G (q0 4) 2016 (gB o0 4), kI G (q0 5) 300 (gA o0 5), kI G (q0 6) 400 (gA o0 6), kJ G (q0 28) 10 (gB o0 28), kI G (q0 31) 969 (gA o0 31), kI G (q0 32) 969 (gA o0 32), kI G (q0 33) 969 (gA o0 33), kI G (q0 38) 5 (gA o0 38), kI G (q0 39) 5120 (gA o0 39), kI G (q0 41) 5 (gA o0 41), kZ G (q0 42) 1024 (gA o0 42), kI G (q0 43) 8192 (gA o0 43), kI G (q0 44) 8192 (gA o0 44)] H → va_S A s.heap H locs → W p l e rm_Md_foldStep s m ([.ref h0, .int a0]).toArray below meth c H locs 0 0 (MQ below (va_Qv (fun (u : Ob) => Q u) (fun (u : Ob) t => BW G A (cw_Md G h0 q0 u) t) A) ([.ref h0, .int a0]).toArray s 0 0 A) (F0 m 0 ls []) from key s.heap [] hP hS
  intro H locs hP hS
  refine lv_aload_n hx hb d_Md_foldStep_0 rfl (lv_at hl 0 rfl) ?_
  refine lv_dup hx hb d_Md_foldStep_1 rfl ?_
  refine va_get (D := G.1) (ci := 11) (v := .int (gI o0 25)) (C := R_Md) (T := T_Md) (N := 45) hx hb hts i_Md hown hK hP 0 rfl rfl 25 (by decide) (hts _ wf_Md_197) (fun _ h9 => h9) rfl d_Md_foldStep_2 ?_
  refine lv_iload_n hx hb d_Md_foldStep_5 rfl (lv_at hl 1 rfl) ?_
  refine lv_aload_n hx hb d_Md_foldStep_6 rfl (lv_at hl 0 rfl) ?_
  refine va_get (D := G.1) (ci := 11) (v := .ref (q0 1)) (C := R_Md) (T := T_Md) (N := 45) hx hb hts i_Md hown hK hP 0 rfl rfl 1 (by decide) (hts _ wf_Md_7) (fun _ h9 => h9) rfl d_Md_foldStep_7 ?_
  refine lv_iconst (v := (5 : Int32)) hx hb d_Md_foldStep_10 (by decide) ?_
  refine xa_iald hx hb hK hP 1 0 rfl rfl (vp_lit rfl) (k := 5) rfl d_Md_foldStep_11 ?_
  refine lv_aload_n hx hb d_Md_foldStep_12 rfl (lv_at hl 0 rfl) ?_
  refine va_get (D := G.1) (ci := 11) (v := .int (gI o0 24)) (C := R_Md) (T := T_Md) (N := 45) hx hb hts i_Md hown hK hP 0 rfl rfl 24 (by decide) (hts _ wf_Md_200) (fun _ h9 => h9) rfl d_Md_foldStep_13 ?_
  refine lv_imul hx hb d_Md_foldStep_16 ?_
  refine lv_bipush (v := (10 : Int32)) hx hb d_Md_foldStep_17 (by decide) ?_
  refine lv_idiv hx hb d_Md_foldStep_19 (by decide) ?_
  refine lv_isub hx hb d_Md_foldStep_20 ?_
  refine lv_topi (fun y6 ey6 => ?_)
  have h := h y6 ey6
  refine lv_aload_n hx hb d_Md_foldStep_21 rfl (lv_at hl 0 rfl) ?_
  refine va_get (D := G.1) (ci := 11) (v := .ref (q0 1)) (C := R_Md) (T := T_Md) (N := 45) hx hb hts i_Md hown hK hP 0 rfl rfl 1 (by decide) (hts _ wf_Md_7) (fun _ h9 => h9) rfl d_Md_foldStep_22 ?_
  refine lv_bipush (v := (6 : Int32)) hx hb d_Md_foldStep_25 (by decide) ?_
  refine xa_iald hx hb hK hP 1 0 rfl rfl (vp_lit rfl) (k := 6) rfl d_Md_foldStep_27 ?_
  have g7 := h.1
  have h := h.2
  refine lv_idiv hx hb d_Md_foldStep_28 g7 ?_
  refine lv_iadd hx hb d_Md_foldStep_29 ?_
  refine va_put (D := G.1) (ci := 11) (v := .int ((gI o0 25) + (y6 / ((gA o0 1) 6)))) (ty := .int) (C := R_Md) (T := T_Md) (N := 45) hx hb hts i_Md ty_Md ty_Md_ok nm_Md hown hK hP hD hS 0 rfl rfl 25 (by decide) (hts _ wf_Md_197) (fun _ h9 => h9) rfl (ty_Md_ok 25 (by decide)) rfl rfl (Nat.le_of_ble_eq_true rfl) d_Md_foldStep_30 (fun H locs hP hD hS => ?_)
  have hP : va_P G.1 CL [(h0, .inr (11, [.int (gI o0 0), .ref (q0 1), .ref (q0 2), .ref (q0 3), .ref (q0 4), .ref (q0 5), .ref (q0 6), .int (gI o0 7), .int (gI o0 8), .int (gI o0 9), .int (gI o0 10), .int (gI o0 11), .int (gI o0 12), .int (gI o0 13), .int (gI o0 14), .long (gL o0 15), .int (gI o0 16), .int (gI o0 17), .int (gI o0 18), .int (gI o0 19), .int (gI o0 20), .int (gI o0 21), .int (gI o0 22), .int (gI o0 23), .int (gI o0 24), .int ((gI o0 25) + (y6 / ((gA o0 1) 6))), .int (gI o0 26), .int (gI o0 27), .ref (q0 28), .long (gL o0 29), .int (gI o0 30), .ref (q0 31), .ref (q0 32), .ref (q0 33), .int (gI o0 34), .int (gI o0 35), .int (gI o0 36), .int (gI o0 37), .ref (q0 38), .ref (q0 39), .int (gI o0 40), .ref (q0 41), .ref (q0 42), .ref (q0 43), .ref (q0 44)])), kI G (q0 1) 6100 (gA o0 1), kI G (q0 2) 6100 (gA o0 2), kJ G (q0 3) 2016 (gB o0 3), kJ G (q0 4) 2016 (gB o0 4), kI G (q0 5) 300 (gA o0 5), kI G (q0 6) 400 (gA o0 6), kJ G (q0 28) 10 (gB o0 28), kI G (q0 31) 969 (gA o0 31), kI G (q0 32) 969 (gA o0 32), kI G (q0 33) 969 (gA o0 33), kI G (q0 38) 5 (gA o0 38), kI G (q0 39) 5120 (gA o0 39), kI G (q0 41) 5 (gA o0 41), kZ G (q0 42) 1024 (gA o0 42), kI G (q0 43) 8192 (gA o0 43), kI G (q0 44) 8192 (gA o0 44)] H := hP
  have hD : va_D A [(h0, .inr (11, [.int (gI o0 0), .ref (q0 1), .ref (q0 2), .ref (q0 3), .ref (q0 4), .ref (q0 5), .ref (q0 6), .int (gI o0 7), .int (gI o0 8), .int (gI o0 9), .int (gI o0 10), .int (gI o0 11), .int (gI o0 12), .int (gI o0 13), .int (gI o0 14), .long (gL o0 15), .int (gI o0 16), .int (gI o0 17), .int (gI o0 18), .int (gI o0 19), .int (gI o0 20), .int (gI o0 21), .int (gI o0 22), .int (gI o0 23), .int (gI o0 24), .int ((gI o0 25) + (y6 / ((gA o0 1) 6))), .int (gI o0 26), .int (gI o0 27), .ref (q0 28), .long (gL o0 29), .int (gI o0 30), .ref (q0 31), .ref (q0 32), .ref (q0 33), .int (gI o0 34), .int (gI o0 35), .int (gI o0 36), .int (gI o0 37), .ref (q0 38), .ref (q0 39), .int (gI o0 40), .ref (q0 41), .ref (q0 42), .ref (q0 43), .ref (q0 44)])), kI G (q0 1) 6100 (gA o0 1), kI G (q0 2) 6100 (gA o0 2), kJ G (q0 3) 2016 (gB o0 3), kJ G (q0 4) 2016 (gB o0 4), kI G (q0 5) 300 (gA o0 5), kI G (q0 6) 400 (gA o0 6), kJ G (q0 28) 10 (gB o0 28), kI G (q0 31) 969 (gA o0 31), kI G (q0 32) 969 (gA o0 32), kI G (q0 33) 969 (gA o0 33), kI G (q0 38) 5 (gA o0 38), kI G (q0 39) 5120 (gA o0 39), kI G (q0 41) 5 (gA o0 41), kZ G (q0 42) 1024 (gA o0 42), kI G (q0 43) 8192 (gA o0 43), kI G (q0 44) 8192 (gA o0 44)] := hD
  refine lv_aload_n hx hb d_Md_foldStep_33 rfl (lv_at hl 0 rfl) ?_
  refine va_get (D := G.1) (ci := 11) (v := .int ((gI o0 25) + (y6 / ((gA o0 1) 6)))) (C := R_Md) (T := T_Md) (N := 45) hx hb hts i_Md hown hK hP 0 rfl rfl 25 (by decide) (hts _ wf_Md_197) (fun _ h9 => h9) rfl d_Md_foldStep_34 ?_
  refine lv_bipush (v := (9 : Int32)) hx hb d_Md_foldStep_37 (by decide) ?_
  refine lv_icmp_le (tgt := 48) hx hb d_Md_foldStep_39 (by decide) (fun c8 => ?_) (fun c8 => ?_)
  · have h := h.1 c8
    have hl := lv_sub (l' := [(0, .ref h0)]) hl [0] rfl
    have hP : va_P G.1 CL (cw_Md G h0 q0 (sI o0 25 ((gI o0 25) + (y6 / ((gA o0 1) 6))))) H := hP
    have hD : va_D A (cw_Md G h0 q0 (sI o0 25 ((gI o0 25) + (y6 / ((gA o0 1) 6))))) := hD
    exact t_Md_foldStep_48 Q C (sI o0 25 ((gI o0 25) + (y6 / ((gA o0 1) 6)))) ls _ locs hl hP hD hS h
  · have h := h.2 c8
    refine lv_aload_n hx hb d_Md_foldStep_42 rfl (lv_at hl 0 rfl) ?_
    refine lv_bipush (v := (9 : Int32)) hx hb d_Md_foldStep_43 (by decide) ?_
    refine va_put (D := G.1) (ci := 11) (v := .int (9 : Int32)) (ty := .int) (C := R_Md) (T := T_Md) (N := 45) hx hb hts i_Md ty_Md ty_Md_ok nm_Md hown hK hP hD hS 0 rfl rfl 25 (by decide) (hts _ wf_Md_197) (fun _ h9 => h9) rfl (ty_Md_ok 25 (by decide)) rfl rfl (Nat.le_of_ble_eq_true rfl) d_Md_foldStep_45 (fun H locs hP hD hS => ?_)
    have hP : va_P G.1 CL [(h0, .inr (11, [.int (gI o0 0), .ref (q0 1), .ref (q0 2), .ref (q0 3), .ref (q0 4), .ref (q0 5), .ref (q0 6), .int (gI o0 7), .int (gI o0 8), .int (gI o0 9), .int (gI o0 10), .int (gI o0 11), .int (gI o0 12), .int (gI o0 13), .int (gI o0 14), .long (gL o0 15), .int (gI o0 16), .int (gI o0 17), .int (gI o0 18), .int (gI o0 19), .int (gI o0 20), .int (gI o0 21), .int (gI o0 22), .int (gI o0 23), .int (gI o0 24), .int (9 : Int32), .int (gI o0 26), .int (gI o0 27), .ref (q0 28), .long (gL o0 29), .int (gI o0 30), .ref (q0 31), .ref (q0 32), .ref (q0 33), .int (gI o0 34), .int (gI o0 35), .int (gI o0 36), .int (gI o0 37), .ref (q0 38), .ref (q0 39), .int (gI o0 40), .ref (q0 41), .ref (q0 42), .ref (q0 43), .ref (q0 44)])), kI G (q0 1) 6100 (gA o0 1), kI G (q0 2) 6100 (gA o0 2), kJ G (q0 3) 2016 (gB o0 3), kJ G (q0 4) 2016 (gB o0 4), kI G (q0 5) 300 (gA o0 5), kI G (q0 6) 400 (gA o0 6), kJ G (q0 28) 10 (gB o0 28), kI G (q0 31) 969 (gA o0 31), kI G (q0 32) 969 (gA o0 32), kI G (q0 33) 969 (gA o0 33), kI G (q0 38) 5 (gA o0 38), kI G (q0 39) 5120 (gA o0 39), kI G (q0 41) 5 (gA o0 41), kZ G (q0 42) 1024 (gA o0 42), kI G (q0 43) 8192 (gA o0 43), kI G (q0 44) 8192 (gA o0 44)] H := hP
    have hD : va_D A [(h0, .inr (11, [.int (gI o0 0), .ref (q0 1), .ref (q0 2), .ref (q0 3), .ref (q0 4), .ref (q0 5), .ref (q0 6), .int (gI o0 7), .int (gI o0 8), .int (gI o0 9), .int (gI o0 10), .int (gI o0 11), .int (gI o0 12), .int (gI o0 13), .int (gI o0 14), .long (gL o0 15), .int (gI o0 16), .int (gI o0 17), .int (gI o0 18), .int (gI o0 19), .int (gI o0 20), .int (gI o0 21), .int (gI o0 22), .int (gI o0 23), .int (gI o0 24), .int (9 : Int32), .int (gI o0 26), .int (gI o0 27), .ref (q0 28), .long (gL o0 29), .int (gI o0 30), .ref (q0 31), .ref (q0 32), .ref (q0 33), .int (gI o0 34), .int (gI o0 35), .int (gI o0 36), .int (gI o0 37), .ref (q0 38), .ref (q0 39), .int (gI o0 40), .ref (q0 41), .ref (q0 42), .ref (q0 43), .ref (q0 44)])), kI G (q0 1) 6100 (gA o0 1), kI G (q0 2) 6100 (gA o0 2), kJ G (q0 3) 2016 (gB o0 3), kJ G (q0 4) 2016 (gB o0 4), kI G (q0 5) 300 (gA o0 5), kI G (q0 6) 400 (gA o0 6), kJ G (q0 28) 10 (gB o0 28), kI G (q0 31) 969 (gA o0 31), kI G (q0 32) 969 (gA o0 32), kI G (q0 33) 969 (gA o0 33), kI G (q0 38) 5 (gA o0 38), kI G (q0 39) 5120 (gA o0 39), kI G (q0 41) 5 (gA o0 41), kZ G (q0 42) 1024 (gA o0 42), kI G (q0 43) 8192 (gA o0 43), kI G (q0 44) 8192 (gA o0 44)] := hD
    have hl := lv_sub (l' := [(0, .ref h0)]) hl [0] rfl
    have hP : va_P G.1 CL (cw_Md G h0 q0 (sI o0 25 (9 : Int32))) H := hP
    have hD : va_D A (cw_Md G h0 q0 (sI o0 25 (9 : Int32))) := hD
    exact t_Md_foldStep_48 Q C (sI o0 25 (9 : Int32)) ls _ locs hl hP hD hS h
abbrev b_Md_keep : ByteArray := prog_14_method_2_code
def y_Md_keep : MethodName := ⟨R_Md, "keep", "()V"⟩
abbrev w_Md_keep : List Cond := Cond.code y_Md_keep b_Md_keep 2 none :: gw_tbl
theorem d_Md_keep_0 : decode b_Md_keep 0 = .ok (.iconst 0, 1) := by decide +kernel
theorem d_Md_keep_1 : decode b_Md_keep 1 = .ok (.istore_n 1, 1) := by decide +kernel
theorem d_Md_keep_2 : decode b_Md_keep 2 = .ok (.iload_n 1, 1) := by decide +kernel
theorem d_Md_keep_3 : decode b_Md_keep 3 = .ok (.sipush 6100, 3) := by decide +kernel
theorem d_Md_keep_6 : decode b_Md_keep 6 = .ok (.if_icmp .ge 21, 3) := by decide +kernel
theorem d_Md_keep_9 : decode b_Md_keep 9 = .ok (.aload_n 0, 1) := by decide +kernel
theorem d_Md_keep_10 : decode b_Md_keep 10 = .ok (.getfield 13, 3) := by decide +kernel
theorem d_Md_keep_13 : decode b_Md_keep 13 = .ok (.iload_n 1, 1) := by decide +kernel
theorem d_Md_keep_14 : decode b_Md_keep 14 = .ok (.aload_n 0, 1) := by decide +kernel
theorem d_Md_keep_15 : decode b_Md_keep 15 = .ok (.getfield 7, 3) := by decide +kernel
theorem d_Md_keep_18 : decode b_Md_keep 18 = .ok (.iload_n 1, 1) := by decide +kernel
theorem d_Md_keep_19 : decode b_Md_keep 19 = .ok (.iaload, 1) := by decide +kernel
theorem d_Md_keep_20 : decode b_Md_keep 20 = .ok (.iastore, 1) := by decide +kernel
theorem d_Md_keep_21 : decode b_Md_keep 21 = .ok (.iinc 1 1, 3) := by decide +kernel
theorem d_Md_keep_24 : decode b_Md_keep 24 = .ok (.goto (-22), 3) := by decide +kernel
theorem d_Md_keep_27 : decode b_Md_keep 27 = .ok (.iconst 0, 1) := by decide +kernel
theorem d_Md_keep_28 : decode b_Md_keep 28 = .ok (.istore_n 1, 1) := by decide +kernel
theorem d_Md_keep_29 : decode b_Md_keep 29 = .ok (.iload_n 1, 1) := by decide +kernel
theorem d_Md_keep_30 : decode b_Md_keep 30 = .ok (.sipush 2016, 3) := by decide +kernel
theorem d_Md_keep_33 : decode b_Md_keep 33 = .ok (.if_icmp .ge 21, 3) := by decide +kernel
theorem d_Md_keep_36 : decode b_Md_keep 36 = .ok (.aload_n 0, 1) := by decide +kernel
theorem d_Md_keep_37 : decode b_Md_keep 37 = .ok (.getfield 20, 3) := by decide +kernel
theorem d_Md_keep_40 : decode b_Md_keep 40 = .ok (.iload_n 1, 1) := by decide +kernel
theorem d_Md_keep_41 : decode b_Md_keep 41 = .ok (.aload_n 0, 1) := by decide +kernel
theorem d_Md_keep_42 : decode b_Md_keep 42 = .ok (.getfield 16, 3) := by decide +kernel
theorem d_Md_keep_45 : decode b_Md_keep 45 = .ok (.iload_n 1, 1) := by decide +kernel
theorem d_Md_keep_46 : decode b_Md_keep 46 = .ok (.laload, 1) := by decide +kernel
theorem d_Md_keep_47 : decode b_Md_keep 47 = .ok (.lastore, 1) := by decide +kernel
theorem d_Md_keep_48 : decode b_Md_keep 48 = .ok (.iinc 1 1, 3) := by decide +kernel
theorem d_Md_keep_51 : decode b_Md_keep 51 = .ok (.goto (-22), 3) := by decide +kernel
theorem d_Md_keep_54 : decode b_Md_keep 54 = .ok (.return_, 1) := by decide +kernel
theorem wf_Md_13 : Cond.fieldLink R_Md 13 R_Md "image" "[I" ∈ gw_tbl := gw_tb (List.mem_of_getElem? (i := 973) (by decide +kernel)) rfl
theorem wf_Md_20 : Cond.fieldLink R_Md 20 R_Md "imageWaves" "[J" ∈ gw_tbl := gw_tb (List.mem_of_getElem? (i := 975) (by decide +kernel)) rfl
theorem wf_Md_16 : Cond.fieldLink R_Md 16 R_Md "w" "[J" ∈ gw_tbl := gw_tb (List.mem_of_getElem? (i := 974) (by decide +kernel)) rfl
def f_Md_keep_29 (Q : Ob → Prop) : Nat → Int32 → Ob → Prop
  | 0, _, _ => False
  | n + 1, x1, o0 => ((2016 : Int32) ≤ x1 → (Q o0)) ∧ (¬ (2016 : Int32) ≤ x1 → ((vp_in x1 2016) ∧ ((vp_in x1 2016) ∧ ((f_Md_keep_29 Q n) (x1 + (1 : Int32)) (sB o0 4 (vp_updL (gB o0 4) x1.toNatClampNeg ((gB o0 3) x1.toNatClampNeg)))))))
def f_Md_keep_2 (Q : Ob → Prop) : Nat → Int32 → Ob → Prop
  | 0, _, _ => False
  | n + 1, x1, o0 => ((6100 : Int32) ≤ x1 → ((∃ w, f_Md_keep_29 Q w (0 : Int32) o0))) ∧ (¬ (6100 : Int32) ≤ x1 → ((vp_in x1 6100) ∧ ((vp_in x1 6100) ∧ ((f_Md_keep_2 Q n) (x1 + (1 : Int32)) (sA o0 2 (upd (gA o0 2) x1.toNatClampNeg ((gA o0 1) x1.toNatClampNeg)))))))
def f_Md_keep (o0 : Ob) (Q : Ob → Prop) : Prop := (∃ w, f_Md_keep_2 Q w (0 : Int32) o0)
abbrev rm_Md_keep : Room := { frames := 0, cells := 0, slots := 0, locals := 0 }
set_option maxHeartbeats 4000000 in
set_option maxRecDepth 100000 in
theorem t_Md_keep_29 {p : Program} {l : Launch} {e : Env} {s : State} {m : MethodId} {args : Array Value} {below : List Frame} {meth : Method} {c : Code} {A : Nat → Prop} {G : Gl} {h0 : Nat} {q0 : Nat → Nat} (Q : Ob → Prop) (C : Cx p s m args meth c R_Md b_Md_keep 2 none G A) :
    ∀ (n : Nat) (x1 : Int32) (o0 : Ob) (ls : Array Slot) (H : Heap) (locs : List Loc), lv_has ls 2 [(0, .ref h0), (1, .int x1)] → va_P G.1 CL (cw_Md G h0 q0 o0) H → va_D A (cw_Md G h0 q0 o0) → va_S A s.heap H locs → f_Md_keep_29 Q n x1 o0 → W p l e rm_Md_keep s m args below meth c H locs 0 0 (MQ below (va_Qv (fun (u : Ob) => Q u) (fun (u : Ob) t => BW G A (cw_Md G h0 q0 u) t) A) args s 0 0 A) (F0 m 29 ls []) := by
  obtain ⟨hx, hb, hml, hown, hr, hts, hK, hA, hlocks, hE⟩ := id C
  intro n
  induction n with
  | zero => intro x1 o0 ls H locs hl hP hD hS h; exact absurd h id
  | succ n ih =>
    intro x1 o0 ls H locs hl hP hD hS h
    have hP : va_P G.1 CL [(h0, .inr (11, [.int (gI o0 0), .ref (q0 1), .ref (q0 2), .ref (q0 3), .ref (q0 4), .ref (q0 5), .ref (q0 6), .int (gI o0 7), .int (gI o0 8), .int (gI o0 9), .int (gI o0 10), .int (gI o0 11), .int (gI o0 12), .int (gI o0 13), .int (gI o0 14), .long (gL o0 15), .int (gI o0 16), .int (gI o0 17), .int (gI o0 18), .int (gI o0 19), .int (gI o0 20), .int (gI o0 21), .int (gI o0 22), .int (gI o0 23), .int (gI o0 24), .int (gI o0 25), .int (gI o0 26), .int (gI o0 27), .ref (q0 28), .long (gL o0 29), .int (gI o0 30), .ref (q0 31), .ref (q0 32), .ref (q0 33), .int (gI o0 34), .int (gI o0 35), .int (gI o0 36), .int (gI o0 37), .ref (q0 38), .ref (q0 39), .int (gI o0 40), .ref (q0 41), .ref (q0 42), .ref (q0 43), .ref (q0 44)])), kI G (q0 1) 6100 (gA o0 1), kI G (q0 2) 6100 (gA o0 2), kJ G (q0 3) 2016 (gB o0 3), kJ G (q0 4) 2016 (gB o0 4), kI G (q0 5) 300 (gA o0 5), kI G (q0 6) 400 (gA o0 6), kJ G (q0 28) 10 (gB o0 28), kI G (q0 31) 969 (gA o0 31), kI G (q0 32) 969 (gA o0 32), kI G (q0 33) 969 (gA o0 33), kI G (q0 38) 5 (gA o0 38), kI G (q0 39) 5120 (gA o0 39), kI G (q0 41) 5 (gA o0 41), kZ G (q0 42) 1024 (gA o0 42), kI G (q0 43) 8192 (gA o0 43), kI G (q0 44) 8192 (gA o0 44)] H := hP
    have hD : va_D A [(h0, .inr (11, [.int (gI o0 0), .ref (q0 1), .ref (q0 2), .ref (q0 3), .ref (q0 4), .ref (q0 5), .ref (q0 6), .int (gI o0 7), .int (gI o0 8), .int (gI o0 9), .int (gI o0 10), .int (gI o0 11), .int (gI o0 12), .int (gI o0 13), .int (gI o0 14), .long (gL o0 15), .int (gI o0 16), .int (gI o0 17), .int (gI o0 18), .int (gI o0 19), .int (gI o0 20), .int (gI o0 21), .int (gI o0 22), .int (gI o0 23), .int (gI o0 24), .int (gI o0 25), .int (gI o0 26), .int (gI o0 27), .ref (q0 28), .long (gL o0 29), .int (gI o0 30), .ref (q0 31), .ref (q0 32), .ref (q0 33), .int (gI o0 34), .int (gI o0 35), .int (gI o0 36), .int (gI o0 37), .ref (q0 38), .ref (q0 39), .int (gI o0 40), .ref (q0 41), .ref (q0 42), .ref (q0 43), .ref (q0 44)])), kI G (q0 1) 6100 (gA o0 1), kI G (q0 2) 6100 (gA o0 2), kJ G (q0 3) 2016 (gB o0 3), kJ G (q0 4) 2016 (gB o0 4), kI G (q0 5) 300 (gA o0 5), kI G (q0 6) 400 (gA o0 6), kJ G (q0 28) 10 (gB o0 28), kI G (q0 31) 969 (gA o0 31), kI G (q0 32) 969 (gA o0 32), kI G (q0 33) 969 (gA o0 33), kI G (q0 38) 5 (gA o0 38), kI G (q0 39) 5120 (gA o0 39), kI G (q0 41) 5 (gA o0 41), kZ G (q0 42) 1024 (gA o0 42), kI G (q0 43) 8192 (gA o0 43), kI G (q0 44) 8192 (gA o0 44)] := hD
    unfold f_Md_keep_29 at h
    refine lv_iload_n hx hb d_Md_keep_29 rfl (lv_at hl 1 rfl) ?_
    refine lv_sipush (v := (2016 : Int32)) hx hb d_Md_keep_30 (by decide) ?_
    refine lv_icmp_ge (tgt := 54) hx hb d_Md_keep_33 (by decide) (fun c1 => ?_) (fun c1 => ?_)
    · have h := h.1 c1
      have hP : va_P G.1 CL (cw_Md G h0 q0 o0) H := hP
      have hD : va_D A (cw_Md G h0 q0 o0) := hD
      exact W.vret hx hb hr (fun t ht hW => ⟨⟨o0, rfl, h, by rw [ht]; exact hP, va_K.moved hW.alike hK, hD⟩, hS.F ht⟩) hS.2.2 d_Md_keep_54
    · have h := h.2 c1
      refine lv_aload_n hx hb d_Md_keep_36 rfl (lv_at hl 0 rfl) ?_
      refine va_get (D := G.1) (ci := 11) (v := .ref (q0 4)) (C := R_Md) (T := T_Md) (N := 45) hx hb hts i_Md hown hK hP 0 rfl rfl 4 (by decide) (hts _ wf_Md_20) (fun _ h9 => h9) rfl d_Md_keep_37 ?_
      refine lv_iload_n hx hb d_Md_keep_40 rfl (lv_at hl 1 rfl) ?_
      refine lv_aload_n hx hb d_Md_keep_41 rfl (lv_at hl 0 rfl) ?_
      refine va_get (D := G.1) (ci := 11) (v := .ref (q0 3)) (C := R_Md) (T := T_Md) (N := 45) hx hb hts i_Md hown hK hP 0 rfl rfl 3 (by decide) (hts _ wf_Md_16) (fun _ h9 => h9) rfl d_Md_keep_42 ?_
      refine lv_iload_n hx hb d_Md_keep_45 rfl (lv_at hl 1 rfl) ?_
      have g2 := h.1
      have h := h.2
      refine xa_lald hx hb hK hP 3 1 rfl rfl g2 (k := x1.toNatClampNeg) rfl d_Md_keep_46 ?_
      have g3 := h.1
      have h := h.2
      refine xa_last hx hb hK hP hD hS 4 1 rfl rfl g3 (k := x1.toNatClampNeg) rfl d_Md_keep_47 (fun H locs hP hD hS => ?_)
      have hP : va_P G.1 CL [(h0, .inr (11, [.int (gI o0 0), .ref (q0 1), .ref (q0 2), .ref (q0 3), .ref (q0 4), .ref (q0 5), .ref (q0 6), .int (gI o0 7), .int (gI o0 8), .int (gI o0 9), .int (gI o0 10), .int (gI o0 11), .int (gI o0 12), .int (gI o0 13), .int (gI o0 14), .long (gL o0 15), .int (gI o0 16), .int (gI o0 17), .int (gI o0 18), .int (gI o0 19), .int (gI o0 20), .int (gI o0 21), .int (gI o0 22), .int (gI o0 23), .int (gI o0 24), .int (gI o0 25), .int (gI o0 26), .int (gI o0 27), .ref (q0 28), .long (gL o0 29), .int (gI o0 30), .ref (q0 31), .ref (q0 32), .ref (q0 33), .int (gI o0 34), .int (gI o0 35), .int (gI o0 36), .int (gI o0 37), .ref (q0 38), .ref (q0 39), .int (gI o0 40), .ref (q0 41), .ref (q0 42), .ref (q0 43), .ref (q0 44)])), kI G (q0 1) 6100 (gA o0 1), kI G (q0 2) 6100 (gA o0 2), kJ G (q0 3) 2016 (gB o0 3), kJ G (q0 4) 2016 (vp_updL (gB o0 4) x1.toNatClampNeg ((gB o0 3) x1.toNatClampNeg)), kI G (q0 5) 300 (gA o0 5), kI G (q0 6) 400 (gA o0 6), kJ G (q0 28) 10 (gB o0 28), kI G (q0 31) 969 (gA o0 31), kI G (q0 32) 969 (gA o0 32), kI G (q0 33) 969 (gA o0 33), kI G (q0 38) 5 (gA o0 38), kI G (q0 39) 5120 (gA o0 39), kI G (q0 41) 5 (gA o0 41), kZ G (q0 42) 1024 (gA o0 42), kI G (q0 43) 8192 (gA o0 43), kI G (q0 44) 8192 (gA o0 44)] H := hP
      have hD : va_D A [(h0, .inr (11, [.int (gI o0 0), .ref (q0 1), .ref (q0 2), .ref (q0 3), .ref (q0 4), .ref (q0 5), .ref (q0 6), .int (gI o0 7), .int (gI o0 8), .int (gI o0 9), .int (gI o0 10), .int (gI o0 11), .int (gI o0 12), .int (gI o0 13), .int (gI o0 14), .long (gL o0 15), .int (gI o0 16), .int (gI o0 17), .int (gI o0 18), .int (gI o0 19), .int (gI o0 20), .int (gI o0 21), .int (gI o0 22), .int (gI o0 23), .int (gI o0 24), .int (gI o0 25), .int (gI o0 26), .int (gI o0 27), .ref (q0 28), .long (gL o0 29), .int (gI o0 30), .ref (q0 31), .ref (q0 32), .ref (q0 33), .int (gI o0 34), .int (gI o0 35), .int (gI o0 36), .int (gI o0 37), .ref (q0 38), .ref (q0 39), .int (gI o0 40), .ref (q0 41), .ref (q0 42), .ref (q0 43), .ref (q0 44)])), kI G (q0 1) 6100 (gA o0 1), kI G (q0 2) 6100 (gA o0 2), kJ G (q0 3) 2016 (gB o0 3), kJ G (q0 4) 2016 (vp_updL (gB o0 4) x1.toNatClampNeg ((gB o0 3) x1.toNatClampNeg)), kI G (q0 5) 300 (gA o0 5), kI G (q0 6) 400 (gA o0 6), kJ G (q0 28) 10 (gB o0 28), kI G (q0 31) 969 (gA o0 31), kI G (q0 32) 969 (gA o0 32), kI G (q0 33) 969 (gA o0 33), kI G (q0 38) 5 (gA o0 38), kI G (q0 39) 5120 (gA o0 39), kI G (q0 41) 5 (gA o0 41), kZ G (q0 42) 1024 (gA o0 42), kI G (q0 43) 8192 (gA o0 43), kI G (q0 44) 8192 (gA o0 44)] := hD
      refine lv_iinc (v := (x1 + (1 : Int32))) (lv' := [(1, .int (x1 + (1 : Int32))), (0, .ref h0)]) hx hb d_Md_keep_48 hl (k := 1) rfl rfl (by decide) rfl (fun ls hl => ?_)
      refine lv_goto (tgt := 29) hx hb d_Md_keep_51 (by decide) ?_
      have hl := lv_sub (l' := [(0, .ref h0), (1, .int (x1 + (1 : Int32)))]) hl [1, 0] rfl
      have hP : va_P G.1 CL (cw_Md G h0 q0 (sB o0 4 (vp_updL (gB o0 4) x1.toNatClampNeg ((gB o0 3) x1.toNatClampNeg)))) H := hP
      have hD : va_D A (cw_Md G h0 q0 (sB o0 4 (vp_updL (gB o0 4) x1.toNatClampNeg ((gB o0 3) x1.toNatClampNeg)))) := hD
      exact ih (x1 + (1 : Int32)) (sB o0 4 (vp_updL (gB o0 4) x1.toNatClampNeg ((gB o0 3) x1.toNatClampNeg))) ls H locs hl hP hD hS h
set_option maxHeartbeats 4000000 in
set_option maxRecDepth 100000 in
theorem t_Md_keep_2 {p : Program} {l : Launch} {e : Env} {s : State} {m : MethodId} {args : Array Value} {below : List Frame} {meth : Method} {c : Code} {A : Nat → Prop} {G : Gl} {h0 : Nat} {q0 : Nat → Nat} (Q : Ob → Prop) (C : Cx p s m args meth c R_Md b_Md_keep 2 none G A) :
    ∀ (n : Nat) (x1 : Int32) (o0 : Ob) (ls : Array Slot) (H : Heap) (locs : List Loc), lv_has ls 2 [(0, .ref h0), (1, .int x1)] → va_P G.1 CL (cw_Md G h0 q0 o0) H → va_D A (cw_Md G h0 q0 o0) → va_S A s.heap H locs → f_Md_keep_2 Q n x1 o0 → W p l e rm_Md_keep s m args below meth c H locs 0 0 (MQ below (va_Qv (fun (u : Ob) => Q u) (fun (u : Ob) t => BW G A (cw_Md G h0 q0 u) t) A) args s 0 0 A) (F0 m 2 ls []) := by
  obtain ⟨hx, hb, hml, hown, hr, hts, hK, hA, hlocks, hE⟩ := id C
  intro n
  induction n with
  | zero => intro x1 o0 ls H locs hl hP hD hS h; exact absurd h id
  | succ n ih =>
    intro x1 o0 ls H locs hl hP hD hS h
    have hP : va_P G.1 CL [(h0, .inr (11, [.int (gI o0 0), .ref (q0 1), .ref (q0 2), .ref (q0 3), .ref (q0 4), .ref (q0 5), .ref (q0 6), .int (gI o0 7), .int (gI o0 8), .int (gI o0 9), .int (gI o0 10), .int (gI o0 11), .int (gI o0 12), .int (gI o0 13), .int (gI o0 14), .long (gL o0 15), .int (gI o0 16), .int (gI o0 17), .int (gI o0 18), .int (gI o0 19), .int (gI o0 20), .int (gI o0 21), .int (gI o0 22), .int (gI o0 23), .int (gI o0 24), .int (gI o0 25), .int (gI o0 26), .int (gI o0 27), .ref (q0 28), .long (gL o0 29), .int (gI o0 30), .ref (q0 31), .ref (q0 32), .ref (q0 33), .int (gI o0 34), .int (gI o0 35), .int (gI o0 36), .int (gI o0 37), .ref (q0 38), .ref (q0 39), .int (gI o0 40), .ref (q0 41), .ref (q0 42), .ref (q0 43), .ref (q0 44)])), kI G (q0 1) 6100 (gA o0 1), kI G (q0 2) 6100 (gA o0 2), kJ G (q0 3) 2016 (gB o0 3), kJ G (q0 4) 2016 (gB o0 4), kI G (q0 5) 300 (gA o0 5), kI G (q0 6) 400 (gA o0 6), kJ G (q0 28) 10 (gB o0 28), kI G (q0 31) 969 (gA o0 31), kI G (q0 32) 969 (gA o0 32), kI G (q0 33) 969 (gA o0 33), kI G (q0 38) 5 (gA o0 38), kI G (q0 39) 5120 (gA o0 39), kI G (q0 41) 5 (gA o0 41), kZ G (q0 42) 1024 (gA o0 42), kI G (q0 43) 8192 (gA o0 43), kI G (q0 44) 8192 (gA o0 44)] H := hP
    have hD : va_D A [(h0, .inr (11, [.int (gI o0 0), .ref (q0 1), .ref (q0 2), .ref (q0 3), .ref (q0 4), .ref (q0 5), .ref (q0 6), .int (gI o0 7), .int (gI o0 8), .int (gI o0 9), .int (gI o0 10), .int (gI o0 11), .int (gI o0 12), .int (gI o0 13), .int (gI o0 14), .long (gL o0 15), .int (gI o0 16), .int (gI o0 17), .int (gI o0 18), .int (gI o0 19), .int (gI o0 20), .int (gI o0 21), .int (gI o0 22), .int (gI o0 23), .int (gI o0 24), .int (gI o0 25), .int (gI o0 26), .int (gI o0 27), .ref (q0 28), .long (gL o0 29), .int (gI o0 30), .ref (q0 31), .ref (q0 32), .ref (q0 33), .int (gI o0 34), .int (gI o0 35), .int (gI o0 36), .int (gI o0 37), .ref (q0 38), .ref (q0 39), .int (gI o0 40), .ref (q0 41), .ref (q0 42), .ref (q0 43), .ref (q0 44)])), kI G (q0 1) 6100 (gA o0 1), kI G (q0 2) 6100 (gA o0 2), kJ G (q0 3) 2016 (gB o0 3), kJ G (q0 4) 2016 (gB o0 4), kI G (q0 5) 300 (gA o0 5), kI G (q0 6) 400 (gA o0 6), kJ G (q0 28) 10 (gB o0 28), kI G (q0 31) 969 (gA o0 31), kI G (q0 32) 969 (gA o0 32), kI G (q0 33) 969 (gA o0 33), kI G (q0 38) 5 (gA o0 38), kI G (q0 39) 5120 (gA o0 39), kI G (q0 41) 5 (gA o0 41), kZ G (q0 42) 1024 (gA o0 42), kI G (q0 43) 8192 (gA o0 43), kI G (q0 44) 8192 (gA o0 44)] := hD
    unfold f_Md_keep_2 at h
    refine lv_iload_n hx hb d_Md_keep_2 rfl (lv_at hl 1 rfl) ?_
    refine lv_sipush (v := (6100 : Int32)) hx hb d_Md_keep_3 (by decide) ?_
    refine lv_icmp_ge (tgt := 27) hx hb d_Md_keep_6 (by decide) (fun c4 => ?_) (fun c4 => ?_)
    · have h := h.1 c4
      refine lv_iconst (v := (0 : Int32)) hx hb d_Md_keep_27 (by decide) ?_
      refine lv_istore_n (lv' := [(1, .int (0 : Int32)), (0, .ref h0)]) hx hb d_Md_keep_28 rfl hl (by decide) rfl (fun ls hl => ?_)
      have hl := lv_sub (l' := [(0, .ref h0), (1, .int (0 : Int32))]) hl [1, 0] rfl
      have hP : va_P G.1 CL (cw_Md G h0 q0 o0) H := hP
      have hD : va_D A (cw_Md G h0 q0 o0) := hD
      obtain ⟨w, h⟩ := h
      exact t_Md_keep_29 Q C w (0 : Int32) o0 ls _ locs hl hP hD hS h
    · have h := h.2 c4
      refine lv_aload_n hx hb d_Md_keep_9 rfl (lv_at hl 0 rfl) ?_
      refine va_get (D := G.1) (ci := 11) (v := .ref (q0 2)) (C := R_Md) (T := T_Md) (N := 45) hx hb hts i_Md hown hK hP 0 rfl rfl 2 (by decide) (hts _ wf_Md_13) (fun _ h9 => h9) rfl d_Md_keep_10 ?_
      refine lv_iload_n hx hb d_Md_keep_13 rfl (lv_at hl 1 rfl) ?_
      refine lv_aload_n hx hb d_Md_keep_14 rfl (lv_at hl 0 rfl) ?_
      refine va_get (D := G.1) (ci := 11) (v := .ref (q0 1)) (C := R_Md) (T := T_Md) (N := 45) hx hb hts i_Md hown hK hP 0 rfl rfl 1 (by decide) (hts _ wf_Md_7) (fun _ h9 => h9) rfl d_Md_keep_15 ?_
      refine lv_iload_n hx hb d_Md_keep_18 rfl (lv_at hl 1 rfl) ?_
      have g5 := h.1
      have h := h.2
      refine xa_iald hx hb hK hP 1 0 rfl rfl g5 (k := x1.toNatClampNeg) rfl d_Md_keep_19 ?_
      have g6 := h.1
      have h := h.2
      refine xa_iast hx hb hK hP hD hS 2 0 rfl rfl g6 (k := x1.toNatClampNeg) rfl d_Md_keep_20 (fun H locs hP hD hS => ?_)
      have hP : va_P G.1 CL [(h0, .inr (11, [.int (gI o0 0), .ref (q0 1), .ref (q0 2), .ref (q0 3), .ref (q0 4), .ref (q0 5), .ref (q0 6), .int (gI o0 7), .int (gI o0 8), .int (gI o0 9), .int (gI o0 10), .int (gI o0 11), .int (gI o0 12), .int (gI o0 13), .int (gI o0 14), .long (gL o0 15), .int (gI o0 16), .int (gI o0 17), .int (gI o0 18), .int (gI o0 19), .int (gI o0 20), .int (gI o0 21), .int (gI o0 22), .int (gI o0 23), .int (gI o0 24), .int (gI o0 25), .int (gI o0 26), .int (gI o0 27), .ref (q0 28), .long (gL o0 29), .int (gI o0 30), .ref (q0 31), .ref (q0 32), .ref (q0 33), .int (gI o0 34), .int (gI o0 35), .int (gI o0 36), .int (gI o0 37), .ref (q0 38), .ref (q0 39), .int (gI o0 40), .ref (q0 41), .ref (q0 42), .ref (q0 43), .ref (q0 44)])), kI G (q0 1) 6100 (gA o0 1), kI G (q0 2) 6100 (upd (gA o0 2) x1.toNatClampNeg ((gA o0 1) x1.toNatClampNeg)), kJ G (q0 3) 2016 (gB o0 3), kJ G (q0 4) 2016 (gB o0 4), kI G (q0 5) 300 (gA o0 5), kI G (q0 6) 400 (gA o0 6), kJ G (q0 28) 10 (gB o0 28), kI G (q0 31) 969 (gA o0 31), kI G (q0 32) 969 (gA o0 32), kI G (q0 33) 969 (gA o0 33), kI G (q0 38) 5 (gA o0 38), kI G (q0 39) 5120 (gA o0 39), kI G (q0 41) 5 (gA o0 41), kZ G (q0 42) 1024 (gA o0 42), kI G (q0 43) 8192 (gA o0 43), kI G (q0 44) 8192 (gA o0 44)] H := hP
      have hD : va_D A [(h0, .inr (11, [.int (gI o0 0), .ref (q0 1), .ref (q0 2), .ref (q0 3), .ref (q0 4), .ref (q0 5), .ref (q0 6), .int (gI o0 7), .int (gI o0 8), .int (gI o0 9), .int (gI o0 10), .int (gI o0 11), .int (gI o0 12), .int (gI o0 13), .int (gI o0 14), .long (gL o0 15), .int (gI o0 16), .int (gI o0 17), .int (gI o0 18), .int (gI o0 19), .int (gI o0 20), .int (gI o0 21), .int (gI o0 22), .int (gI o0 23), .int (gI o0 24), .int (gI o0 25), .int (gI o0 26), .int (gI o0 27), .ref (q0 28), .long (gL o0 29), .int (gI o0 30), .ref (q0 31), .ref (q0 32), .ref (q0 33), .int (gI o0 34), .int (gI o0 35), .int (gI o0 36), .int (gI o0 37), .ref (q0 38), .ref (q0 39), .int (gI o0 40), .ref (q0 41), .ref (q0 42), .ref (q0 43), .ref (q0 44)])), kI G (q0 1) 6100 (gA o0 1), kI G (q0 2) 6100 (upd (gA o0 2) x1.toNatClampNeg ((gA o0 1) x1.toNatClampNeg)), kJ G (q0 3) 2016 (gB o0 3), kJ G (q0 4) 2016 (gB o0 4), kI G (q0 5) 300 (gA o0 5), kI G (q0 6) 400 (gA o0 6), kJ G (q0 28) 10 (gB o0 28), kI G (q0 31) 969 (gA o0 31), kI G (q0 32) 969 (gA o0 32), kI G (q0 33) 969 (gA o0 33), kI G (q0 38) 5 (gA o0 38), kI G (q0 39) 5120 (gA o0 39), kI G (q0 41) 5 (gA o0 41), kZ G (q0 42) 1024 (gA o0 42), kI G (q0 43) 8192 (gA o0 43), kI G (q0 44) 8192 (gA o0 44)] := hD
      refine lv_iinc (v := (x1 + (1 : Int32))) (lv' := [(1, .int (x1 + (1 : Int32))), (0, .ref h0)]) hx hb d_Md_keep_21 hl (k := 1) rfl rfl (by decide) rfl (fun ls hl => ?_)
      refine lv_goto (tgt := 2) hx hb d_Md_keep_24 (by decide) ?_
      have hl := lv_sub (l' := [(0, .ref h0), (1, .int (x1 + (1 : Int32)))]) hl [1, 0] rfl
      have hP : va_P G.1 CL (cw_Md G h0 q0 (sA o0 2 (upd (gA o0 2) x1.toNatClampNeg ((gA o0 1) x1.toNatClampNeg)))) H := hP
      have hD : va_D A (cw_Md G h0 q0 (sA o0 2 (upd (gA o0 2) x1.toNatClampNeg ((gA o0 1) x1.toNatClampNeg)))) := hD
      exact ih (x1 + (1 : Int32)) (sA o0 2 (upd (gA o0 2) x1.toNatClampNeg ((gA o0 1) x1.toNatClampNeg))) ls H locs hl hP hD hS h
set_option maxHeartbeats 4000000 in
set_option maxRecDepth 100000 in
theorem c_Md_keep {l : Launch} {G : Gl} {h0 : Nat} {q0 : Nat → Nat} {o0 : Ob} {Q : Ob → Prop} (sz : Nat) (h : f_Md_keep o0 Q) : Met l y_Md_keep w_Md_keep rm_Md_keep (PcW G [.ref h0] sz (cw_Md G h0 q0 o0)) (va_Qv (fun (u : Ob) => Q u) (fun (u : Ob) t => BW G (va_A (cw_Md G h0 q0 o0) sz) (cw_Md G h0 q0 u) t) (va_A (cw_Md G h0 q0 o0) sz)) 0 0 (va_A (cw_Md G h0 q0 o0) sz) := by
  refine Met.ofW (cc := b_Md_keep) (maxL := 2) (ret := none) (by decide +kernel) rfl ?_
  intro p e s m args below meth c s₁ B hml hv
  obtain ⟨rfl, hsz, hP, hK, hD0, hE⟩ := hv
  have hx := B.exec
  have hb := B.bytes
  have hr := B.returns
  have hts0 := atoms_spec (ws := w_Md_keep) B.pre
  have hts : ∀ w ∈ gw_tbl, w.before ([.ref h0]).toArray s = true := fun w hw => hts0 w (List.mem_cons_of_mem _ hw)
  have hown : s.vm.findClass R_Md = some m.cls := findClass_of_methodNamed B.named
  have hlocks := B.notSynchronized
  subst hsz
  have hD := hD0.self (sz := s.heap.size)
  generalize hAe : va_A (cw_Md G h0 q0 o0) s.heap.size = A at hD hE ⊢
  have hA : ∀ q : Nat, s.heap.size ≤ q → A q := fun q h => by rw [← hAe]; exact Or.inr h
  have hS : va_S A s.heap s.heap [] := va_S.rf
  have C : Cx p s m ([.ref h0]).toArray meth c R_Md b_Md_keep 2 none G A := ⟨hx, hb, hml, hown, hr, hts, hK, hA, hlocks, hE⟩
  have hl := lv_entry ([.ref h0]) (n := 2) (Nat.le_of_ble_eq_true rfl)
  rw [lg_entry_eq]
  generalize (lg_sl ([.ref h0]) ++ List.replicate (2 - (lg_sl ([.ref h0])).length) Slot.unset).toArray = ls at hl ⊢
  have hl : lv_has ls 2 [(0, .ref h0)] := hl
  have hD : va_D A [(h0, .inr (11, [.int (gI o0 0), .ref (q0 1), .ref (q0 2), .ref (q0 3), .ref (q0 4), .ref (q0 5), .ref (q0 6), .int (gI o0 7), .int (gI o0 8), .int (gI o0 9), .int (gI o0 10), .int (gI o0 11), .int (gI o0 12), .int (gI o0 13), .int (gI o0 14), .long (gL o0 15), .int (gI o0 16), .int (gI o0 17), .int (gI o0 18), .int (gI o0 19), .int (gI o0 20), .int (gI o0 21), .int (gI o0 22), .int (gI o0 23), .int (gI o0 24), .int (gI o0 25), .int (gI o0 26), .int (gI o0 27), .ref (q0 28), .long (gL o0 29), .int (gI o0 30), .ref (q0 31), .ref (q0 32), .ref (q0 33), .int (gI o0 34), .int (gI o0 35), .int (gI o0 36), .int (gI o0 37), .ref (q0 38), .ref (q0 39), .int (gI o0 40), .ref (q0 41), .ref (q0 42), .ref (q0 43), .ref (q0 44)])), kI G (q0 1) 6100 (gA o0 1), kI G (q0 2) 6100 (gA o0 2), kJ G (q0 3) 2016 (gB o0 3), kJ G (q0 4) 2016 (gB o0 4), kI G (q0 5) 300 (gA o0 5), kI G (q0 6) 400 (gA o0 6), kJ G (q0 28) 10 (gB o0 28), kI G (q0 31) 969 (gA o0 31), kI G (q0 32) 969 (gA o0 32), kI G (q0 33) 969 (gA o0 33), kI G (q0 38) 5 (gA o0 38), kI G (q0 39) 5120 (gA o0 39), kI G (q0 41) 5 (gA o0 41), kZ G (q0 42) 1024 (gA o0 42), kI G (q0 43) 8192 (gA o0 43), kI G (q0 44) 8192 (gA o0 44)] := hD
  unfold f_Md_keep at h
  suffices key : ∀ (H : Heap) (locs : List Loc), va_P G.1 CL [(h0, .inr (11, [.int (gI o0 0), .ref (q0 1), .ref (q0 2), .ref (q0 3), .ref (q0 4), .ref (q0 5), .ref (q0 6), .int (gI o0 7), .int (gI o0 8), .int (gI o0 9), .int (gI o0 10), .int (gI o0 11), .int (gI o0 12), .int (gI o0 13), .int (gI o0 14), .long (gL o0 15), .int (gI o0 16), .int (gI o0 17), .int (gI o0 18), .int (gI o0 19), .int (gI o0 20), .int (gI o0 21), .int (gI o0 22), .int (gI o0 23), .int (gI o0 24), .int (gI o0 25), .int (gI o0 26), .int (gI o0 27), .ref (q0 28), .long (gL o0 29), .int (gI o0 30), .ref (q0 31), .ref (q0 32), .ref (q0 33), .int (gI o0 34), .int (gI o0 35), .int (gI o0 36), .int (gI o0 37), .ref (q0 38), .ref (q0 39), .int (gI o0 40), .ref (q0 41), .ref (q0 42), .ref (q0 43), .ref (q0 44)])), kI G (q0 1) 6100 (gA o0 1), kI G (q0 2) 6100 (gA o0 2), kJ G (q0 3) 2016 (gB o0 3), kJ G (q0 4) 2016 (gB o0 4), kI G (q0 5) 300 (gA o0 5), kI G (q0 6) 400 (gA o0 6), kJ G (q0 28) 10 (gB o0 28), kI G (q0 31) 969 (gA o0 31), kI G (q0 32) 969 (gA o0 32), kI G (q0 33) 969 (gA o0 33), kI G (q0 38) 5 (gA o0 38), kI G (q0 39) 5120 (gA o0 39), kI G (q0 41) 5 (gA o0 41), kZ G (q0 42) 1024 (gA o0 42), kI G (q0 43) 8192 (gA o0 43), kI G (q0 44) 8192 (gA o0 44)] H → va_S A s.heap H locs → W p l e rm_Md_keep s m ([.ref h0]).toArray below meth c H locs 0 0 (MQ below (va_Qv (fun (u : Ob) => Q u) (fun (u : Ob) t => BW G A (cw_Md G h0 q0 u) t) A) ([.ref h0]).toArray s 0 0 A) (F0 m 0 ls []) from key s.heap [] hP hS
  intro H locs hP hS
  refine lv_iconst (v := (0 : Int32)) hx hb d_Md_keep_0 (by decide) ?_
  refine lv_istore_n (lv' := [(1, .int (0 : Int32)), (0, .ref h0)]) hx hb d_Md_keep_1 rfl hl (by decide) rfl (fun ls hl => ?_)
  have hl := lv_sub (l' := [(0, .ref h0), (1, .int (0 : Int32))]) hl [1, 0] rfl
  have hP : va_P G.1 CL (cw_Md G h0 q0 o0) H := hP
  have hD : va_D A (cw_Md G h0 q0 o0) := hD
  obtain ⟨w, h⟩ := h
  exact t_Md_keep_2 Q C w (0 : Int32) o0 ls _ locs hl hP hD hS h
abbrev b_Md_isLetter : ByteArray := prog_14_method_10_code
def y_Md_isLetter : MethodName := ⟨R_Md, "isLetter", "(I)Z"⟩
abbrev w_Md_isLetter : List Cond := Cond.code y_Md_isLetter b_Md_isLetter 1 (some .boolean) :: gw_tbl
theorem d_Md_isLetter_0 : decode b_Md_isLetter 0 = .ok (.iload_n 0, 1) := by decide +kernel
theorem d_Md_isLetter_1 : decode b_Md_isLetter 1 = .ok (.bipush 97, 2) := by decide +kernel
theorem d_Md_isLetter_3 : decode b_Md_isLetter 3 = .ok (.bipush 122, 2) := by decide +kernel
theorem d_Md_isLetter_5 : decode b_Md_isLetter 5 = .ok (.invokestatic 76, 3) := by decide +kernel
theorem d_Md_isLetter_8 : decode b_Md_isLetter 8 = .ok (.ifCond .ne 14, 3) := by decide +kernel
theorem d_Md_isLetter_11 : decode b_Md_isLetter 11 = .ok (.iload_n 0, 1) := by decide +kernel
theorem d_Md_isLetter_12 : decode b_Md_isLetter 12 = .ok (.bipush 65, 2) := by decide +kernel
theorem d_Md_isLetter_14 : decode b_Md_isLetter 14 = .ok (.bipush 90, 2) := by decide +kernel
theorem d_Md_isLetter_16 : decode b_Md_isLetter 16 = .ok (.invokestatic 76, 3) := by decide +kernel
theorem d_Md_isLetter_19 : decode b_Md_isLetter 19 = .ok (.ifCond .eq 7, 3) := by decide +kernel
theorem d_Md_isLetter_22 : decode b_Md_isLetter 22 = .ok (.iconst 1, 1) := by decide +kernel
theorem d_Md_isLetter_23 : decode b_Md_isLetter 23 = .ok (.goto 4, 3) := by decide +kernel
theorem d_Md_isLetter_26 : decode b_Md_isLetter 26 = .ok (.iconst 0, 1) := by decide +kernel
theorem d_Md_isLetter_27 : decode b_Md_isLetter 27 = .ok (.ireturn, 1) := by decide +kernel
def f_Md_isLetter (a0 : Int32) (Q : Int32 → Prop) : Prop := f_Md_isIn a0 (97 : Int32) (122 : Int32) (fun z1 => (z1 = 0 → (f_Md_isIn a0 (65 : Int32) (90 : Int32) (fun z3 => (z3 = 0 → (Q (0 : Int32))) ∧ (¬ z3 = 0 → (Q (1 : Int32)))))) ∧ (¬ z1 = 0 → (Q (1 : Int32))))
abbrev rm_Md_isLetter : Room := { frames := 1, cells := 0, slots := 0, locals := 22 }
set_option maxHeartbeats 4000000 in
set_option maxRecDepth 100000 in
theorem c_Md_isLetter {l : Launch} {G : Gl} {a0 : Int32} {Q : Int32 → Prop} (sz : Nat) (h : f_Md_isLetter a0 Q) : Met l y_Md_isLetter w_Md_isLetter rm_Md_isLetter (PcW G [.int a0] sz ([])) (va_Qi (fun (r : Int32) (u : Unit) => Q r) (fun (u : Unit) t => BW G (va_A ([]) sz) ([]) t) (va_A ([]) sz)) 0 0 (va_A ([]) sz) := by
  refine Met.ofW (cc := b_Md_isLetter) (maxL := 1) (ret := (some .boolean)) (by decide +kernel) rfl ?_
  intro p e s m args below meth c s₁ B hml hv
  obtain ⟨rfl, hsz, hP, hK, hD0, hE⟩ := hv
  have hx := B.exec
  have hb := B.bytes
  have hr := B.returns
  have hts0 := atoms_spec (ws := w_Md_isLetter) B.pre
  have hts : ∀ w ∈ gw_tbl, w.before ([.int a0]).toArray s = true := fun w hw => hts0 w (List.mem_cons_of_mem _ hw)
  have hown : s.vm.findClass R_Md = some m.cls := findClass_of_methodNamed B.named
  have hlocks := B.notSynchronized
  subst hsz
  have hD := hD0.self (sz := s.heap.size)
  generalize hAe : va_A ([]) s.heap.size = A at hD hE ⊢
  have hA : ∀ q : Nat, s.heap.size ≤ q → A q := fun q h => by rw [← hAe]; exact Or.inr h
  have hS : va_S A s.heap s.heap [] := va_S.rf
  have C : Cx p s m ([.int a0]).toArray meth c R_Md b_Md_isLetter 1 (some .boolean) G A := ⟨hx, hb, hml, hown, hr, hts, hK, hA, hlocks, hE⟩
  have hl := lv_entry ([.int a0]) (n := 1) (Nat.le_of_ble_eq_true rfl)
  rw [lg_entry_eq]
  generalize (lg_sl ([.int a0]) ++ List.replicate (1 - (lg_sl ([.int a0])).length) Slot.unset).toArray = ls at hl ⊢
  have hl : lv_has ls 1 [(0, .int a0)] := hl
  have hD : va_D A [] := hD
  unfold f_Md_isLetter at h
  suffices key : ∀ (H : Heap) (locs : List Loc), va_P G.1 CL [] H → va_S A s.heap H locs → W p l e rm_Md_isLetter s m ([.int a0]).toArray below meth c H locs 0 0 (MQ below (va_Qi (fun (r : Int32) (u : Unit) => Q r) (fun (u : Unit) t => BW G A ([]) t) A) ([.int a0]).toArray s 0 0 A) (F0 m 0 ls []) from key s.heap [] hP hS
  intro H locs hP hS
  refine lv_iload_n hx hb d_Md_isLetter_0 rfl (lv_at hl 0 rfl) ?_
  refine lv_bipush (v := (97 : Int32)) hx hb d_Md_isLetter_1 (by decide) ?_
  refine lv_bipush (v := (122 : Int32)) hx hb d_Md_isLetter_3 (by decide) ?_
  refine cl_Si (b := b_Md_isLetter) (As := [.int a0, .int (97 : Int32), .int (122 : Int32)]) (rest := []) (ws := []) (wr := []) (w2 := fun (u : Unit) => []) C (c_Md_isIn H.size h) ws_Md_76 ⟨Nat.le_of_ble_eq_true rfl, Nat.le_of_ble_eq_true rfl⟩ hP hD hS [] [] rfl rfl (by decide) (by decide) (by decide) [] (by decide) (fun u => rfl) rfl hl.1 rfl (lv_room (Nat.le_of_ble_eq_true rfl)) d_Md_isLetter_5 ⟨Nat.le_of_ble_eq_true rfl, Nat.le_of_ble_eq_true rfl⟩ rfl rfl (fun z1 u H locs h hP hD hS => ?_)
  have hP : va_P G.1 CL [] H := hP
  have hD : va_D A [] := hD
  refine lv_if_ne (tgt := 22) hx hb d_Md_isLetter_8 (by decide) (fun c2 => ?_) (fun c2 => ?_)
  · have h := h.2 c2
    refine lv_iconst (v := (1 : Int32)) hx hb d_Md_isLetter_22 (by decide) ?_
    refine lv_goto (tgt := 27) hx hb d_Md_isLetter_23 (by decide) ?_
    have hP : va_P G.1 CL ([]) H := hP
    have hD : va_D A ([]) := hD
    exact W.zret (v := (1 : Int32)) hx hb hr rfl (fun t ht hW => ⟨⟨(1 : Int32), (), rfl, h, by rw [ht]; exact hP, va_K.moved hW.alike hK, hD⟩, hS.F ht⟩) hS.2.2 d_Md_isLetter_27
  · have h := h.1 c2
    refine lv_iload_n hx hb d_Md_isLetter_11 rfl (lv_at hl 0 rfl) ?_
    refine lv_bipush (v := (65 : Int32)) hx hb d_Md_isLetter_12 (by decide) ?_
    refine lv_bipush (v := (90 : Int32)) hx hb d_Md_isLetter_14 (by decide) ?_
    refine cl_Si (b := b_Md_isLetter) (As := [.int a0, .int (65 : Int32), .int (90 : Int32)]) (rest := []) (ws := []) (wr := []) (w2 := fun (u : Unit) => []) C (c_Md_isIn H.size h) ws_Md_76 ⟨Nat.le_of_ble_eq_true rfl, Nat.le_of_ble_eq_true rfl⟩ hP hD hS [] [] rfl rfl (by decide) (by decide) (by decide) [] (by decide) (fun u => rfl) rfl hl.1 rfl (lv_room (Nat.le_of_ble_eq_true rfl)) d_Md_isLetter_16 ⟨Nat.le_of_ble_eq_true rfl, Nat.le_of_ble_eq_true rfl⟩ rfl rfl (fun z3 u H locs h hP hD hS => ?_)
    have hP : va_P G.1 CL [] H := hP
    have hD : va_D A [] := hD
    refine lv_if_eq (tgt := 26) hx hb d_Md_isLetter_19 (by decide) (fun c4 => ?_) (fun c4 => ?_)
    · have h := h.1 c4
      refine lv_iconst (v := (0 : Int32)) hx hb d_Md_isLetter_26 (by decide) ?_
      have hP : va_P G.1 CL ([]) H := hP
      have hD : va_D A ([]) := hD
      exact W.zret (v := (0 : Int32)) hx hb hr rfl (fun t ht hW => ⟨⟨(0 : Int32), (), rfl, h, by rw [ht]; exact hP, va_K.moved hW.alike hK, hD⟩, hS.F ht⟩) hS.2.2 d_Md_isLetter_27
    · have h := h.2 c4
      refine lv_iconst (v := (1 : Int32)) hx hb d_Md_isLetter_22 (by decide) ?_
      refine lv_goto (tgt := 27) hx hb d_Md_isLetter_23 (by decide) ?_
      have hP : va_P G.1 CL ([]) H := hP
      have hD : va_D A ([]) := hD
      exact W.zret (v := (1 : Int32)) hx hb hr rfl (fun t ht hW => ⟨⟨(1 : Int32), (), rfl, h, by rw [ht]; exact hP, va_K.moved hW.alike hK, hD⟩, hS.F ht⟩) hS.2.2 d_Md_isLetter_27
abbrev b_Md_isDigit : ByteArray := prog_14_method_11_code
def y_Md_isDigit : MethodName := ⟨R_Md, "isDigit", "(I)Z"⟩
abbrev w_Md_isDigit : List Cond := Cond.code y_Md_isDigit b_Md_isDigit 1 (some .boolean) :: gw_tbl
theorem d_Md_isDigit_0 : decode b_Md_isDigit 0 = .ok (.iload_n 0, 1) := by decide +kernel
theorem d_Md_isDigit_1 : decode b_Md_isDigit 1 = .ok (.bipush 48, 2) := by decide +kernel
theorem d_Md_isDigit_3 : decode b_Md_isDigit 3 = .ok (.bipush 57, 2) := by decide +kernel
theorem d_Md_isDigit_5 : decode b_Md_isDigit 5 = .ok (.invokestatic 76, 3) := by decide +kernel
theorem d_Md_isDigit_8 : decode b_Md_isDigit 8 = .ok (.ireturn, 1) := by decide +kernel
def f_Md_isDigit (a0 : Int32) (Q : Int32 → Prop) : Prop := f_Md_isIn a0 (48 : Int32) (57 : Int32) (fun z1 => (narrow .boolean (.int z1) = .int z1) ∧ (Q z1))
abbrev rm_Md_isDigit : Room := { frames := 1, cells := 0, slots := 0, locals := 22 }
set_option maxHeartbeats 4000000 in
set_option maxRecDepth 100000 in
theorem c_Md_isDigit {l : Launch} {G : Gl} {a0 : Int32} {Q : Int32 → Prop} (sz : Nat) (h : f_Md_isDigit a0 Q) : Met l y_Md_isDigit w_Md_isDigit rm_Md_isDigit (PcW G [.int a0] sz ([])) (va_Qi (fun (r : Int32) (u : Unit) => Q r) (fun (u : Unit) t => BW G (va_A ([]) sz) ([]) t) (va_A ([]) sz)) 0 0 (va_A ([]) sz) := by
  refine Met.ofW (cc := b_Md_isDigit) (maxL := 1) (ret := (some .boolean)) (by decide +kernel) rfl ?_
  intro p e s m args below meth c s₁ B hml hv
  obtain ⟨rfl, hsz, hP, hK, hD0, hE⟩ := hv
  have hx := B.exec
  have hb := B.bytes
  have hr := B.returns
  have hts0 := atoms_spec (ws := w_Md_isDigit) B.pre
  have hts : ∀ w ∈ gw_tbl, w.before ([.int a0]).toArray s = true := fun w hw => hts0 w (List.mem_cons_of_mem _ hw)
  have hown : s.vm.findClass R_Md = some m.cls := findClass_of_methodNamed B.named
  have hlocks := B.notSynchronized
  subst hsz
  have hD := hD0.self (sz := s.heap.size)
  generalize hAe : va_A ([]) s.heap.size = A at hD hE ⊢
  have hA : ∀ q : Nat, s.heap.size ≤ q → A q := fun q h => by rw [← hAe]; exact Or.inr h
  have hS : va_S A s.heap s.heap [] := va_S.rf
  have C : Cx p s m ([.int a0]).toArray meth c R_Md b_Md_isDigit 1 (some .boolean) G A := ⟨hx, hb, hml, hown, hr, hts, hK, hA, hlocks, hE⟩
  have hl := lv_entry ([.int a0]) (n := 1) (Nat.le_of_ble_eq_true rfl)
  rw [lg_entry_eq]
  generalize (lg_sl ([.int a0]) ++ List.replicate (1 - (lg_sl ([.int a0])).length) Slot.unset).toArray = ls at hl ⊢
  have hl : lv_has ls 1 [(0, .int a0)] := hl
  have hD : va_D A [] := hD
  unfold f_Md_isDigit at h
  suffices key : ∀ (H : Heap) (locs : List Loc), va_P G.1 CL [] H → va_S A s.heap H locs → W p l e rm_Md_isDigit s m ([.int a0]).toArray below meth c H locs 0 0 (MQ below (va_Qi (fun (r : Int32) (u : Unit) => Q r) (fun (u : Unit) t => BW G A ([]) t) A) ([.int a0]).toArray s 0 0 A) (F0 m 0 ls []) from key s.heap [] hP hS
  intro H locs hP hS
  refine lv_iload_n hx hb d_Md_isDigit_0 rfl (lv_at hl 0 rfl) ?_
  refine lv_bipush (v := (48 : Int32)) hx hb d_Md_isDigit_1 (by decide) ?_
  refine lv_bipush (v := (57 : Int32)) hx hb d_Md_isDigit_3 (by decide) ?_
  refine cl_Si (b := b_Md_isDigit) (As := [.int a0, .int (48 : Int32), .int (57 : Int32)]) (rest := []) (ws := []) (wr := []) (w2 := fun (u : Unit) => []) C (c_Md_isIn H.size h) ws_Md_76 ⟨Nat.le_of_ble_eq_true rfl, Nat.le_of_ble_eq_true rfl⟩ hP hD hS [] [] rfl rfl (by decide) (by decide) (by decide) [] (by decide) (fun u => rfl) rfl hl.1 rfl (lv_room (Nat.le_of_ble_eq_true rfl)) d_Md_isDigit_5 ⟨Nat.le_of_ble_eq_true rfl, Nat.le_of_ble_eq_true rfl⟩ rfl rfl (fun z1 u H locs h hP hD hS => ?_)
  have hP : va_P G.1 CL [] H := hP
  have hD : va_D A [] := hD
  have g2 := h.1
  have h := h.2
  have hP : va_P G.1 CL ([]) H := hP
  have hD : va_D A ([]) := hD
  exact W.zret (v := z1) hx hb hr g2 (fun t ht hW => ⟨⟨z1, (), rfl, h, by rw [ht]; exact hP, va_K.moved hW.alike hK, hD⟩, hS.F ht⟩) hS.2.2 d_Md_isDigit_8
abbrev b_Md_plain : ByteArray := prog_14_method_3_code
def y_Md_plain : MethodName := ⟨R_Md, "plain", "()V"⟩
abbrev w_Md_plain : List Cond := Cond.code y_Md_plain b_Md_plain 2 none :: gw_tbl
theorem d_Md_plain_0 : decode b_Md_plain 0 = .ok (.iconst 0, 1) := by decide +kernel
theorem d_Md_plain_1 : decode b_Md_plain 1 = .ok (.istore_n 1, 1) := by decide +kernel
theorem d_Md_plain_2 : decode b_Md_plain 2 = .ok (.iload_n 1, 1) := by decide +kernel
theorem d_Md_plain_3 : decode b_Md_plain 3 = .ok (.sipush 300, 3) := by decide +kernel
theorem d_Md_plain_6 : decode b_Md_plain 6 = .ok (.if_icmp .ge 16, 3) := by decide +kernel
theorem d_Md_plain_9 : decode b_Md_plain 9 = .ok (.aload_n 0, 1) := by decide +kernel
theorem d_Md_plain_10 : decode b_Md_plain 10 = .ok (.getfield 23, 3) := by decide +kernel
theorem d_Md_plain_13 : decode b_Md_plain 13 = .ok (.iload_n 1, 1) := by decide +kernel
theorem d_Md_plain_14 : decode b_Md_plain 14 = .ok (.iconst 0, 1) := by decide +kernel
theorem d_Md_plain_15 : decode b_Md_plain 15 = .ok (.iastore, 1) := by decide +kernel
theorem d_Md_plain_16 : decode b_Md_plain 16 = .ok (.iinc 1 1, 3) := by decide +kernel
theorem d_Md_plain_19 : decode b_Md_plain 19 = .ok (.goto (-17), 3) := by decide +kernel
theorem d_Md_plain_22 : decode b_Md_plain 22 = .ok (.aload_n 0, 1) := by decide +kernel
theorem d_Md_plain_23 : decode b_Md_plain 23 = .ok (.getfield 23, 3) := by decide +kernel
theorem d_Md_plain_26 : decode b_Md_plain 26 = .ok (.iconst 2, 1) := by decide +kernel
theorem d_Md_plain_27 : decode b_Md_plain 27 = .ok (.bipush 100, 2) := by decide +kernel
theorem d_Md_plain_29 : decode b_Md_plain 29 = .ok (.iastore, 1) := by decide +kernel
theorem d_Md_plain_30 : decode b_Md_plain 30 = .ok (.aload_n 0, 1) := by decide +kernel
theorem d_Md_plain_31 : decode b_Md_plain 31 = .ok (.getfield 23, 3) := by decide +kernel
theorem d_Md_plain_34 : decode b_Md_plain 34 = .ok (.iconst 3, 1) := by decide +kernel
theorem d_Md_plain_35 : decode b_Md_plain 35 = .ok (.bipush 100, 2) := by decide +kernel
theorem d_Md_plain_37 : decode b_Md_plain 37 = .ok (.iastore, 1) := by decide +kernel
theorem d_Md_plain_38 : decode b_Md_plain 38 = .ok (.iconst 0, 1) := by decide +kernel
theorem d_Md_plain_39 : decode b_Md_plain 39 = .ok (.istore_n 1, 1) := by decide +kernel
theorem d_Md_plain_40 : decode b_Md_plain 40 = .ok (.iload_n 1, 1) := by decide +kernel
theorem d_Md_plain_41 : decode b_Md_plain 41 = .ok (.iconst 5, 1) := by decide +kernel
theorem d_Md_plain_42 : decode b_Md_plain 42 = .ok (.if_icmp .ge 19, 3) := by decide +kernel
theorem d_Md_plain_45 : decode b_Md_plain 45 = .ok (.aload_n 0, 1) := by decide +kernel
theorem d_Md_plain_46 : decode b_Md_plain 46 = .ok (.getfield 23, 3) := by decide +kernel
theorem d_Md_plain_49 : decode b_Md_plain 49 = .ok (.iconst 5, 1) := by decide +kernel
theorem d_Md_plain_50 : decode b_Md_plain 50 = .ok (.iload_n 1, 1) := by decide +kernel
theorem d_Md_plain_51 : decode b_Md_plain 51 = .ok (.iadd, 1) := by decide +kernel
theorem d_Md_plain_52 : decode b_Md_plain 52 = .ok (.bipush 6, 2) := by decide +kernel
theorem d_Md_plain_54 : decode b_Md_plain 54 = .ok (.iastore, 1) := by decide +kernel
theorem d_Md_plain_55 : decode b_Md_plain 55 = .ok (.iinc 1 1, 3) := by decide +kernel
theorem d_Md_plain_58 : decode b_Md_plain 58 = .ok (.goto (-18), 3) := by decide +kernel
theorem d_Md_plain_61 : decode b_Md_plain 61 = .ok (.return_, 1) := by decide +kernel
theorem wf_Md_23 : Cond.fieldLink R_Md 23 R_Md "fresh" "[I" ∈ gw_tbl := gw_tb (List.mem_of_getElem? (i := 976) (by decide +kernel)) rfl
def f_Md_plain_40 (Q : Ob → Prop) : Nat → Int32 → Ob → Prop
  | 0, _, _ => False
  | n + 1, x1, o0 => ((5 : Int32) ≤ x1 → (Q o0)) ∧ (¬ (5 : Int32) ≤ x1 → ((vp_in ((5 : Int32) + x1) 300) ∧ ((f_Md_plain_40 Q n) (x1 + (1 : Int32)) (sA o0 5 (upd (gA o0 5) (((5 : Int32) + x1).toNatClampNeg) (6 : Int32))))))
def f_Md_plain_2 (Q : Ob → Prop) : Nat → Int32 → Ob → Prop
  | 0, _, _ => False
  | n + 1, x1, o0 => ((300 : Int32) ≤ x1 → ((∃ w, f_Md_plain_40 Q w (0 : Int32) (sA o0 5 (upd (upd (gA o0 5) 2 (100 : Int32)) 3 (100 : Int32)))))) ∧ (¬ (300 : Int32) ≤ x1 → ((vp_in x1 300) ∧ ((f_Md_plain_2 Q n) (x1 + (1 : Int32)) (sA o0 5 (upd (gA o0 5) x1.toNatClampNeg (0 : Int32))))))
def f_Md_plain (o0 : Ob) (Q : Ob → Prop) : Prop := (∃ w, f_Md_plain_2 Q w (0 : Int32) o0)
abbrev rm_Md_plain : Room := { frames := 0, cells := 0, slots := 0, locals := 0 }
set_option maxHeartbeats 4000000 in
set_option maxRecDepth 100000 in
theorem t_Md_plain_40 {p : Program} {l : Launch} {e : Env} {s : State} {m : MethodId} {args : Array Value} {below : List Frame} {meth : Method} {c : Code} {A : Nat → Prop} {G : Gl} {h0 : Nat} {q0 : Nat → Nat} (Q : Ob → Prop) (C : Cx p s m args meth c R_Md b_Md_plain 2 none G A) :
    ∀ (n : Nat) (x1 : Int32) (o0 : Ob) (ls : Array Slot) (H : Heap) (locs : List Loc), lv_has ls 2 [(0, .ref h0), (1, .int x1)] → va_P G.1 CL (cw_Md G h0 q0 o0) H → va_D A (cw_Md G h0 q0 o0) → va_S A s.heap H locs → f_Md_plain_40 Q n x1 o0 → W p l e rm_Md_plain s m args below meth c H locs 0 0 (MQ below (va_Qv (fun (u : Ob) => Q u) (fun (u : Ob) t => BW G A (cw_Md G h0 q0 u) t) A) args s 0 0 A) (F0 m 40 ls []) := by
  obtain ⟨hx, hb, hml, hown, hr, hts, hK, hA, hlocks, hE⟩ := id C
  intro n
  induction n with
  | zero => intro x1 o0 ls H locs hl hP hD hS h; exact absurd h id
  | succ n ih =>
    intro x1 o0 ls H locs hl hP hD hS h
    have hP : va_P G.1 CL [(h0, .inr (11, [.int (gI o0 0), .ref (q0 1), .ref (q0 2), .ref (q0 3), .ref (q0 4), .ref (q0 5), .ref (q0 6), .int (gI o0 7), .int (gI o0 8), .int (gI o0 9), .int (gI o0 10), .int (gI o0 11), .int (gI o0 12), .int (gI o0 13), .int (gI o0 14), .long (gL o0 15), .int (gI o0 16), .int (gI o0 17), .int (gI o0 18), .int (gI o0 19), .int (gI o0 20), .int (gI o0 21), .int (gI o0 22), .int (gI o0 23), .int (gI o0 24), .int (gI o0 25), .int (gI o0 26), .int (gI o0 27), .ref (q0 28), .long (gL o0 29), .int (gI o0 30), .ref (q0 31), .ref (q0 32), .ref (q0 33), .int (gI o0 34), .int (gI o0 35), .int (gI o0 36), .int (gI o0 37), .ref (q0 38), .ref (q0 39), .int (gI o0 40), .ref (q0 41), .ref (q0 42), .ref (q0 43), .ref (q0 44)])), kI G (q0 1) 6100 (gA o0 1), kI G (q0 2) 6100 (gA o0 2), kJ G (q0 3) 2016 (gB o0 3), kJ G (q0 4) 2016 (gB o0 4), kI G (q0 5) 300 (gA o0 5), kI G (q0 6) 400 (gA o0 6), kJ G (q0 28) 10 (gB o0 28), kI G (q0 31) 969 (gA o0 31), kI G (q0 32) 969 (gA o0 32), kI G (q0 33) 969 (gA o0 33), kI G (q0 38) 5 (gA o0 38), kI G (q0 39) 5120 (gA o0 39), kI G (q0 41) 5 (gA o0 41), kZ G (q0 42) 1024 (gA o0 42), kI G (q0 43) 8192 (gA o0 43), kI G (q0 44) 8192 (gA o0 44)] H := hP
    have hD : va_D A [(h0, .inr (11, [.int (gI o0 0), .ref (q0 1), .ref (q0 2), .ref (q0 3), .ref (q0 4), .ref (q0 5), .ref (q0 6), .int (gI o0 7), .int (gI o0 8), .int (gI o0 9), .int (gI o0 10), .int (gI o0 11), .int (gI o0 12), .int (gI o0 13), .int (gI o0 14), .long (gL o0 15), .int (gI o0 16), .int (gI o0 17), .int (gI o0 18), .int (gI o0 19), .int (gI o0 20), .int (gI o0 21), .int (gI o0 22), .int (gI o0 23), .int (gI o0 24), .int (gI o0 25), .int (gI o0 26), .int (gI o0 27), .ref (q0 28), .long (gL o0 29), .int (gI o0 30), .ref (q0 31), .ref (q0 32), .ref (q0 33), .int (gI o0 34), .int (gI o0 35), .int (gI o0 36), .int (gI o0 37), .ref (q0 38), .ref (q0 39), .int (gI o0 40), .ref (q0 41), .ref (q0 42), .ref (q0 43), .ref (q0 44)])), kI G (q0 1) 6100 (gA o0 1), kI G (q0 2) 6100 (gA o0 2), kJ G (q0 3) 2016 (gB o0 3), kJ G (q0 4) 2016 (gB o0 4), kI G (q0 5) 300 (gA o0 5), kI G (q0 6) 400 (gA o0 6), kJ G (q0 28) 10 (gB o0 28), kI G (q0 31) 969 (gA o0 31), kI G (q0 32) 969 (gA o0 32), kI G (q0 33) 969 (gA o0 33), kI G (q0 38) 5 (gA o0 38), kI G (q0 39) 5120 (gA o0 39), kI G (q0 41) 5 (gA o0 41), kZ G (q0 42) 1024 (gA o0 42), kI G (q0 43) 8192 (gA o0 43), kI G (q0 44) 8192 (gA o0 44)] := hD
    unfold f_Md_plain_40 at h
    refine lv_iload_n hx hb d_Md_plain_40 rfl (lv_at hl 1 rfl) ?_
    refine lv_iconst (v := (5 : Int32)) hx hb d_Md_plain_41 (by decide) ?_
    refine lv_icmp_ge (tgt := 61) hx hb d_Md_plain_42 (by decide) (fun c1 => ?_) (fun c1 => ?_)
    · have h := h.1 c1
      have hP : va_P G.1 CL (cw_Md G h0 q0 o0) H := hP
      have hD : va_D A (cw_Md G h0 q0 o0) := hD
      exact W.vret hx hb hr (fun t ht hW => ⟨⟨o0, rfl, h, by rw [ht]; exact hP, va_K.moved hW.alike hK, hD⟩, hS.F ht⟩) hS.2.2 d_Md_plain_61
    · have h := h.2 c1
      refine lv_aload_n hx hb d_Md_plain_45 rfl (lv_at hl 0 rfl) ?_
      refine va_get (D := G.1) (ci := 11) (v := .ref (q0 5)) (C := R_Md) (T := T_Md) (N := 45) hx hb hts i_Md hown hK hP 0 rfl rfl 5 (by decide) (hts _ wf_Md_23) (fun _ h9 => h9) rfl d_Md_plain_46 ?_
      refine lv_iconst (v := (5 : Int32)) hx hb d_Md_plain_49 (by decide) ?_
      refine lv_iload_n hx hb d_Md_plain_50 rfl (lv_at hl 1 rfl) ?_
      refine lv_iadd hx hb d_Md_plain_51 ?_
      refine lv_bipush (v := (6 : Int32)) hx hb d_Md_plain_52 (by decide) ?_
      have g2 := h.1
      have h := h.2
      refine xa_iast hx hb hK hP hD hS 5 0 rfl rfl g2 (k := ((5 : Int32) + x1).toNatClampNeg) rfl d_Md_plain_54 (fun H locs hP hD hS => ?_)
      have hP : va_P G.1 CL [(h0, .inr (11, [.int (gI o0 0), .ref (q0 1), .ref (q0 2), .ref (q0 3), .ref (q0 4), .ref (q0 5), .ref (q0 6), .int (gI o0 7), .int (gI o0 8), .int (gI o0 9), .int (gI o0 10), .int (gI o0 11), .int (gI o0 12), .int (gI o0 13), .int (gI o0 14), .long (gL o0 15), .int (gI o0 16), .int (gI o0 17), .int (gI o0 18), .int (gI o0 19), .int (gI o0 20), .int (gI o0 21), .int (gI o0 22), .int (gI o0 23), .int (gI o0 24), .int (gI o0 25), .int (gI o0 26), .int (gI o0 27), .ref (q0 28), .long (gL o0 29), .int (gI o0 30), .ref (q0 31), .ref (q0 32), .ref (q0 33), .int (gI o0 34), .int (gI o0 35), .int (gI o0 36), .int (gI o0 37), .ref (q0 38), .ref (q0 39), .int (gI o0 40), .ref (q0 41), .ref (q0 42), .ref (q0 43), .ref (q0 44)])), kI G (q0 1) 6100 (gA o0 1), kI G (q0 2) 6100 (gA o0 2), kJ G (q0 3) 2016 (gB o0 3), kJ G (q0 4) 2016 (gB o0 4), kI G (q0 5) 300 (upd (gA o0 5) (((5 : Int32) + x1).toNatClampNeg) (6 : Int32)), kI G (q0 6) 400 (gA o0 6), kJ G (q0 28) 10 (gB o0 28), kI G (q0 31) 969 (gA o0 31), kI G (q0 32) 969 (gA o0 32), kI G (q0 33) 969 (gA o0 33), kI G (q0 38) 5 (gA o0 38), kI G (q0 39) 5120 (gA o0 39), kI G (q0 41) 5 (gA o0 41), kZ G (q0 42) 1024 (gA o0 42), kI G (q0 43) 8192 (gA o0 43), kI G (q0 44) 8192 (gA o0 44)] H := hP
      have hD : va_D A [(h0, .inr (11, [.int (gI o0 0), .ref (q0 1), .ref (q0 2), .ref (q0 3), .ref (q0 4), .ref (q0 5), .ref (q0 6), .int (gI o0 7), .int (gI o0 8), .int (gI o0 9), .int (gI o0 10), .int (gI o0 11), .int (gI o0 12), .int (gI o0 13), .int (gI o0 14), .long (gL o0 15), .int (gI o0 16), .int (gI o0 17), .int (gI o0 18), .int (gI o0 19), .int (gI o0 20), .int (gI o0 21), .int (gI o0 22), .int (gI o0 23), .int (gI o0 24), .int (gI o0 25), .int (gI o0 26), .int (gI o0 27), .ref (q0 28), .long (gL o0 29), .int (gI o0 30), .ref (q0 31), .ref (q0 32), .ref (q0 33), .int (gI o0 34), .int (gI o0 35), .int (gI o0 36), .int (gI o0 37), .ref (q0 38), .ref (q0 39), .int (gI o0 40), .ref (q0 41), .ref (q0 42), .ref (q0 43), .ref (q0 44)])), kI G (q0 1) 6100 (gA o0 1), kI G (q0 2) 6100 (gA o0 2), kJ G (q0 3) 2016 (gB o0 3), kJ G (q0 4) 2016 (gB o0 4), kI G (q0 5) 300 (upd (gA o0 5) (((5 : Int32) + x1).toNatClampNeg) (6 : Int32)), kI G (q0 6) 400 (gA o0 6), kJ G (q0 28) 10 (gB o0 28), kI G (q0 31) 969 (gA o0 31), kI G (q0 32) 969 (gA o0 32), kI G (q0 33) 969 (gA o0 33), kI G (q0 38) 5 (gA o0 38), kI G (q0 39) 5120 (gA o0 39), kI G (q0 41) 5 (gA o0 41), kZ G (q0 42) 1024 (gA o0 42), kI G (q0 43) 8192 (gA o0 43), kI G (q0 44) 8192 (gA o0 44)] := hD
      refine lv_iinc (v := (x1 + (1 : Int32))) (lv' := [(1, .int (x1 + (1 : Int32))), (0, .ref h0)]) hx hb d_Md_plain_55 hl (k := 1) rfl rfl (by decide) rfl (fun ls hl => ?_)
      refine lv_goto (tgt := 40) hx hb d_Md_plain_58 (by decide) ?_
      have hl := lv_sub (l' := [(0, .ref h0), (1, .int (x1 + (1 : Int32)))]) hl [1, 0] rfl
      have hP : va_P G.1 CL (cw_Md G h0 q0 (sA o0 5 (upd (gA o0 5) (((5 : Int32) + x1).toNatClampNeg) (6 : Int32)))) H := hP
      have hD : va_D A (cw_Md G h0 q0 (sA o0 5 (upd (gA o0 5) (((5 : Int32) + x1).toNatClampNeg) (6 : Int32)))) := hD
      exact ih (x1 + (1 : Int32)) (sA o0 5 (upd (gA o0 5) (((5 : Int32) + x1).toNatClampNeg) (6 : Int32))) ls H locs hl hP hD hS h
set_option maxHeartbeats 4000000 in
set_option maxRecDepth 100000 in
theorem t_Md_plain_2 {p : Program} {l : Launch} {e : Env} {s : State} {m : MethodId} {args : Array Value} {below : List Frame} {meth : Method} {c : Code} {A : Nat → Prop} {G : Gl} {h0 : Nat} {q0 : Nat → Nat} (Q : Ob → Prop) (C : Cx p s m args meth c R_Md b_Md_plain 2 none G A) :
    ∀ (n : Nat) (x1 : Int32) (o0 : Ob) (ls : Array Slot) (H : Heap) (locs : List Loc), lv_has ls 2 [(0, .ref h0), (1, .int x1)] → va_P G.1 CL (cw_Md G h0 q0 o0) H → va_D A (cw_Md G h0 q0 o0) → va_S A s.heap H locs → f_Md_plain_2 Q n x1 o0 → W p l e rm_Md_plain s m args below meth c H locs 0 0 (MQ below (va_Qv (fun (u : Ob) => Q u) (fun (u : Ob) t => BW G A (cw_Md G h0 q0 u) t) A) args s 0 0 A) (F0 m 2 ls []) := by
  obtain ⟨hx, hb, hml, hown, hr, hts, hK, hA, hlocks, hE⟩ := id C
  intro n
  induction n with
  | zero => intro x1 o0 ls H locs hl hP hD hS h; exact absurd h id
  | succ n ih =>
    intro x1 o0 ls H locs hl hP hD hS h
    have hP : va_P G.1 CL [(h0, .inr (11, [.int (gI o0 0), .ref (q0 1), .ref (q0 2), .ref (q0 3), .ref (q0 4), .ref (q0 5), .ref (q0 6), .int (gI o0 7), .int (gI o0 8), .int (gI o0 9), .int (gI o0 10), .int (gI o0 11), .int (gI o0 12), .int (gI o0 13), .int (gI o0 14), .long (gL o0 15), .int (gI o0 16), .int (gI o0 17), .int (gI o0 18), .int (gI o0 19), .int (gI o0 20), .int (gI o0 21), .int (gI o0 22), .int (gI o0 23), .int (gI o0 24), .int (gI o0 25), .int (gI o0 26), .int (gI o0 27), .ref (q0 28), .long (gL o0 29), .int (gI o0 30), .ref (q0 31), .ref (q0 32), .ref (q0 33), .int (gI o0 34), .int (gI o0 35), .int (gI o0 36), .int (gI o0 37), .ref (q0 38), .ref (q0 39), .int (gI o0 40), .ref (q0 41), .ref (q0 42), .ref (q0 43), .ref (q0 44)])), kI G (q0 1) 6100 (gA o0 1), kI G (q0 2) 6100 (gA o0 2), kJ G (q0 3) 2016 (gB o0 3), kJ G (q0 4) 2016 (gB o0 4), kI G (q0 5) 300 (gA o0 5), kI G (q0 6) 400 (gA o0 6), kJ G (q0 28) 10 (gB o0 28), kI G (q0 31) 969 (gA o0 31), kI G (q0 32) 969 (gA o0 32), kI G (q0 33) 969 (gA o0 33), kI G (q0 38) 5 (gA o0 38), kI G (q0 39) 5120 (gA o0 39), kI G (q0 41) 5 (gA o0 41), kZ G (q0 42) 1024 (gA o0 42), kI G (q0 43) 8192 (gA o0 43), kI G (q0 44) 8192 (gA o0 44)] H := hP
    have hD : va_D A [(h0, .inr (11, [.int (gI o0 0), .ref (q0 1), .ref (q0 2), .ref (q0 3), .ref (q0 4), .ref (q0 5), .ref (q0 6), .int (gI o0 7), .int (gI o0 8), .int (gI o0 9), .int (gI o0 10), .int (gI o0 11), .int (gI o0 12), .int (gI o0 13), .int (gI o0 14), .long (gL o0 15), .int (gI o0 16), .int (gI o0 17), .int (gI o0 18), .int (gI o0 19), .int (gI o0 20), .int (gI o0 21), .int (gI o0 22), .int (gI o0 23), .int (gI o0 24), .int (gI o0 25), .int (gI o0 26), .int (gI o0 27), .ref (q0 28), .long (gL o0 29), .int (gI o0 30), .ref (q0 31), .ref (q0 32), .ref (q0 33), .int (gI o0 34), .int (gI o0 35), .int (gI o0 36), .int (gI o0 37), .ref (q0 38), .ref (q0 39), .int (gI o0 40), .ref (q0 41), .ref (q0 42), .ref (q0 43), .ref (q0 44)])), kI G (q0 1) 6100 (gA o0 1), kI G (q0 2) 6100 (gA o0 2), kJ G (q0 3) 2016 (gB o0 3), kJ G (q0 4) 2016 (gB o0 4), kI G (q0 5) 300 (gA o0 5), kI G (q0 6) 400 (gA o0 6), kJ G (q0 28) 10 (gB o0 28), kI G (q0 31) 969 (gA o0 31), kI G (q0 32) 969 (gA o0 32), kI G (q0 33) 969 (gA o0 33), kI G (q0 38) 5 (gA o0 38), kI G (q0 39) 5120 (gA o0 39), kI G (q0 41) 5 (gA o0 41), kZ G (q0 42) 1024 (gA o0 42), kI G (q0 43) 8192 (gA o0 43), kI G (q0 44) 8192 (gA o0 44)] := hD
    unfold f_Md_plain_2 at h
    refine lv_iload_n hx hb d_Md_plain_2 rfl (lv_at hl 1 rfl) ?_
    refine lv_sipush (v := (300 : Int32)) hx hb d_Md_plain_3 (by decide) ?_
    refine lv_icmp_ge (tgt := 22) hx hb d_Md_plain_6 (by decide) (fun c3 => ?_) (fun c3 => ?_)
    · have h := h.1 c3
      refine lv_aload_n hx hb d_Md_plain_22 rfl (lv_at hl 0 rfl) ?_
      refine va_get (D := G.1) (ci := 11) (v := .ref (q0 5)) (C := R_Md) (T := T_Md) (N := 45) hx hb hts i_Md hown hK hP 0 rfl rfl 5 (by decide) (hts _ wf_Md_23) (fun _ h9 => h9) rfl d_Md_plain_23 ?_
      refine lv_iconst (v := (2 : Int32)) hx hb d_Md_plain_26 (by decide) ?_
      refine lv_bipush (v := (100 : Int32)) hx hb d_Md_plain_27 (by decide) ?_
      refine xa_iast hx hb hK hP hD hS 5 0 rfl rfl (vp_lit rfl) (k := 2) rfl d_Md_plain_29 (fun H locs hP hD hS => ?_)
      have hP : va_P G.1 CL [(h0, .inr (11, [.int (gI o0 0), .ref (q0 1), .ref (q0 2), .ref (q0 3), .ref (q0 4), .ref (q0 5), .ref (q0 6), .int (gI o0 7), .int (gI o0 8), .int (gI o0 9), .int (gI o0 10), .int (gI o0 11), .int (gI o0 12), .int (gI o0 13), .int (gI o0 14), .long (gL o0 15), .int (gI o0 16), .int (gI o0 17), .int (gI o0 18), .int (gI o0 19), .int (gI o0 20), .int (gI o0 21), .int (gI o0 22), .int (gI o0 23), .int (gI o0 24), .int (gI o0 25), .int (gI o0 26), .int (gI o0 27), .ref (q0 28), .long (gL o0 29), .int (gI o0 30), .ref (q0 31), .ref (q0 32), .ref (q0 33), .int (gI o0 34), .int (gI o0 35), .int (gI o0 36), .int (gI o0 37), .ref (q0 38), .ref (q0 39), .int (gI o0 40), .ref (q0 41), .ref (q0 42), .ref (q0 43), .ref (q0 44)])), kI G (q0 1) 6100 (gA o0 1), kI G (q0 2) 6100 (gA o0 2), kJ G (q0 3) 2016 (gB o0 3), kJ G (q0 4) 2016 (gB o0 4), kI G (q0 5) 300 (upd (gA o0 5) 2 (100 : Int32)), kI G (q0 6) 400 (gA o0 6), kJ G (q0 28) 10 (gB o0 28), kI G (q0 31) 969 (gA o0 31), kI G (q0 32) 969 (gA o0 32), kI G (q0 33) 969 (gA o0 33), kI G (q0 38) 5 (gA o0 38), kI G (q0 39) 5120 (gA o0 39), kI G (q0 41) 5 (gA o0 41), kZ G (q0 42) 1024 (gA o0 42), kI G (q0 43) 8192 (gA o0 43), kI G (q0 44) 8192 (gA o0 44)] H := hP
      have hD : va_D A [(h0, .inr (11, [.int (gI o0 0), .ref (q0 1), .ref (q0 2), .ref (q0 3), .ref (q0 4), .ref (q0 5), .ref (q0 6), .int (gI o0 7), .int (gI o0 8), .int (gI o0 9), .int (gI o0 10), .int (gI o0 11), .int (gI o0 12), .int (gI o0 13), .int (gI o0 14), .long (gL o0 15), .int (gI o0 16), .int (gI o0 17), .int (gI o0 18), .int (gI o0 19), .int (gI o0 20), .int (gI o0 21), .int (gI o0 22), .int (gI o0 23), .int (gI o0 24), .int (gI o0 25), .int (gI o0 26), .int (gI o0 27), .ref (q0 28), .long (gL o0 29), .int (gI o0 30), .ref (q0 31), .ref (q0 32), .ref (q0 33), .int (gI o0 34), .int (gI o0 35), .int (gI o0 36), .int (gI o0 37), .ref (q0 38), .ref (q0 39), .int (gI o0 40), .ref (q0 41), .ref (q0 42), .ref (q0 43), .ref (q0 44)])), kI G (q0 1) 6100 (gA o0 1), kI G (q0 2) 6100 (gA o0 2), kJ G (q0 3) 2016 (gB o0 3), kJ G (q0 4) 2016 (gB o0 4), kI G (q0 5) 300 (upd (gA o0 5) 2 (100 : Int32)), kI G (q0 6) 400 (gA o0 6), kJ G (q0 28) 10 (gB o0 28), kI G (q0 31) 969 (gA o0 31), kI G (q0 32) 969 (gA o0 32), kI G (q0 33) 969 (gA o0 33), kI G (q0 38) 5 (gA o0 38), kI G (q0 39) 5120 (gA o0 39), kI G (q0 41) 5 (gA o0 41), kZ G (q0 42) 1024 (gA o0 42), kI G (q0 43) 8192 (gA o0 43), kI G (q0 44) 8192 (gA o0 44)] := hD
      refine lv_aload_n hx hb d_Md_plain_30 rfl (lv_at hl 0 rfl) ?_
      refine va_get (D := G.1) (ci := 11) (v := .ref (q0 5)) (C := R_Md) (T := T_Md) (N := 45) hx hb hts i_Md hown hK hP 0 rfl rfl 5 (by decide) (hts _ wf_Md_23) (fun _ h9 => h9) rfl d_Md_plain_31 ?_
      refine lv_iconst (v := (3 : Int32)) hx hb d_Md_plain_34 (by decide) ?_
      refine lv_bipush (v := (100 : Int32)) hx hb d_Md_plain_35 (by decide) ?_
      refine xa_iast hx hb hK hP hD hS 5 0 rfl rfl (vp_lit rfl) (k := 3) rfl d_Md_plain_37 (fun H locs hP hD hS => ?_)
      have hP : va_P G.1 CL [(h0, .inr (11, [.int (gI o0 0), .ref (q0 1), .ref (q0 2), .ref (q0 3), .ref (q0 4), .ref (q0 5), .ref (q0 6), .int (gI o0 7), .int (gI o0 8), .int (gI o0 9), .int (gI o0 10), .int (gI o0 11), .int (gI o0 12), .int (gI o0 13), .int (gI o0 14), .long (gL o0 15), .int (gI o0 16), .int (gI o0 17), .int (gI o0 18), .int (gI o0 19), .int (gI o0 20), .int (gI o0 21), .int (gI o0 22), .int (gI o0 23), .int (gI o0 24), .int (gI o0 25), .int (gI o0 26), .int (gI o0 27), .ref (q0 28), .long (gL o0 29), .int (gI o0 30), .ref (q0 31), .ref (q0 32), .ref (q0 33), .int (gI o0 34), .int (gI o0 35), .int (gI o0 36), .int (gI o0 37), .ref (q0 38), .ref (q0 39), .int (gI o0 40), .ref (q0 41), .ref (q0 42), .ref (q0 43), .ref (q0 44)])), kI G (q0 1) 6100 (gA o0 1), kI G (q0 2) 6100 (gA o0 2), kJ G (q0 3) 2016 (gB o0 3), kJ G (q0 4) 2016 (gB o0 4), kI G (q0 5) 300 (upd (upd (gA o0 5) 2 (100 : Int32)) 3 (100 : Int32)), kI G (q0 6) 400 (gA o0 6), kJ G (q0 28) 10 (gB o0 28), kI G (q0 31) 969 (gA o0 31), kI G (q0 32) 969 (gA o0 32), kI G (q0 33) 969 (gA o0 33), kI G (q0 38) 5 (gA o0 38), kI G (q0 39) 5120 (gA o0 39), kI G (q0 41) 5 (gA o0 41), kZ G (q0 42) 1024 (gA o0 42), kI G (q0 43) 8192 (gA o0 43), kI G (q0 44) 8192 (gA o0 44)] H := hP
      have hD : va_D A [(h0, .inr (11, [.int (gI o0 0), .ref (q0 1), .ref (q0 2), .ref (q0 3), .ref (q0 4), .ref (q0 5), .ref (q0 6), .int (gI o0 7), .int (gI o0 8), .int (gI o0 9), .int (gI o0 10), .int (gI o0 11), .int (gI o0 12), .int (gI o0 13), .int (gI o0 14), .long (gL o0 15), .int (gI o0 16), .int (gI o0 17), .int (gI o0 18), .int (gI o0 19), .int (gI o0 20), .int (gI o0 21), .int (gI o0 22), .int (gI o0 23), .int (gI o0 24), .int (gI o0 25), .int (gI o0 26), .int (gI o0 27), .ref (q0 28), .long (gL o0 29), .int (gI o0 30), .ref (q0 31), .ref (q0 32), .ref (q0 33), .int (gI o0 34), .int (gI o0 35), .int (gI o0 36), .int (gI o0 37), .ref (q0 38), .ref (q0 39), .int (gI o0 40), .ref (q0 41), .ref (q0 42), .ref (q0 43), .ref (q0 44)])), kI G (q0 1) 6100 (gA o0 1), kI G (q0 2) 6100 (gA o0 2), kJ G (q0 3) 2016 (gB o0 3), kJ G (q0 4) 2016 (gB o0 4), kI G (q0 5) 300 (upd (upd (gA o0 5) 2 (100 : Int32)) 3 (100 : Int32)), kI G (q0 6) 400 (gA o0 6), kJ G (q0 28) 10 (gB o0 28), kI G (q0 31) 969 (gA o0 31), kI G (q0 32) 969 (gA o0 32), kI G (q0 33) 969 (gA o0 33), kI G (q0 38) 5 (gA o0 38), kI G (q0 39) 5120 (gA o0 39), kI G (q0 41) 5 (gA o0 41), kZ G (q0 42) 1024 (gA o0 42), kI G (q0 43) 8192 (gA o0 43), kI G (q0 44) 8192 (gA o0 44)] := hD
      refine lv_iconst (v := (0 : Int32)) hx hb d_Md_plain_38 (by decide) ?_
      refine lv_istore_n (lv' := [(1, .int (0 : Int32)), (0, .ref h0)]) hx hb d_Md_plain_39 rfl hl (by decide) rfl (fun ls hl => ?_)
      have hl := lv_sub (l' := [(0, .ref h0), (1, .int (0 : Int32))]) hl [1, 0] rfl
      have hP : va_P G.1 CL (cw_Md G h0 q0 (sA o0 5 (upd (upd (gA o0 5) 2 (100 : Int32)) 3 (100 : Int32)))) H := hP
      have hD : va_D A (cw_Md G h0 q0 (sA o0 5 (upd (upd (gA o0 5) 2 (100 : Int32)) 3 (100 : Int32)))) := hD
      obtain ⟨w, h⟩ := h
      exact t_Md_plain_40 Q C w (0 : Int32) (sA o0 5 (upd (upd (gA o0 5) 2 (100 : Int32)) 3 (100 : Int32))) ls _ locs hl hP hD hS h
    · have h := h.2 c3
      refine lv_aload_n hx hb d_Md_plain_9 rfl (lv_at hl 0 rfl) ?_
      refine va_get (D := G.1) (ci := 11) (v := .ref (q0 5)) (C := R_Md) (T := T_Md) (N := 45) hx hb hts i_Md hown hK hP 0 rfl rfl 5 (by decide) (hts _ wf_Md_23) (fun _ h9 => h9) rfl d_Md_plain_10 ?_
      refine lv_iload_n hx hb d_Md_plain_13 rfl (lv_at hl 1 rfl) ?_
      refine lv_iconst (v := (0 : Int32)) hx hb d_Md_plain_14 (by decide) ?_
      have g4 := h.1
      have h := h.2
      refine xa_iast hx hb hK hP hD hS 5 0 rfl rfl g4 (k := x1.toNatClampNeg) rfl d_Md_plain_15 (fun H locs hP hD hS => ?_)
      have hP : va_P G.1 CL [(h0, .inr (11, [.int (gI o0 0), .ref (q0 1), .ref (q0 2), .ref (q0 3), .ref (q0 4), .ref (q0 5), .ref (q0 6), .int (gI o0 7), .int (gI o0 8), .int (gI o0 9), .int (gI o0 10), .int (gI o0 11), .int (gI o0 12), .int (gI o0 13), .int (gI o0 14), .long (gL o0 15), .int (gI o0 16), .int (gI o0 17), .int (gI o0 18), .int (gI o0 19), .int (gI o0 20), .int (gI o0 21), .int (gI o0 22), .int (gI o0 23), .int (gI o0 24), .int (gI o0 25), .int (gI o0 26), .int (gI o0 27), .ref (q0 28), .long (gL o0 29), .int (gI o0 30), .ref (q0 31), .ref (q0 32), .ref (q0 33), .int (gI o0 34), .int (gI o0 35), .int (gI o0 36), .int (gI o0 37), .ref (q0 38), .ref (q0 39), .int (gI o0 40), .ref (q0 41), .ref (q0 42), .ref (q0 43), .ref (q0 44)])), kI G (q0 1) 6100 (gA o0 1), kI G (q0 2) 6100 (gA o0 2), kJ G (q0 3) 2016 (gB o0 3), kJ G (q0 4) 2016 (gB o0 4), kI G (q0 5) 300 (upd (gA o0 5) x1.toNatClampNeg (0 : Int32)), kI G (q0 6) 400 (gA o0 6), kJ G (q0 28) 10 (gB o0 28), kI G (q0 31) 969 (gA o0 31), kI G (q0 32) 969 (gA o0 32), kI G (q0 33) 969 (gA o0 33), kI G (q0 38) 5 (gA o0 38), kI G (q0 39) 5120 (gA o0 39), kI G (q0 41) 5 (gA o0 41), kZ G (q0 42) 1024 (gA o0 42), kI G (q0 43) 8192 (gA o0 43), kI G (q0 44) 8192 (gA o0 44)] H := hP
      have hD : va_D A [(h0, .inr (11, [.int (gI o0 0), .ref (q0 1), .ref (q0 2), .ref (q0 3), .ref (q0 4), .ref (q0 5), .ref (q0 6), .int (gI o0 7), .int (gI o0 8), .int (gI o0 9), .int (gI o0 10), .int (gI o0 11), .int (gI o0 12), .int (gI o0 13), .int (gI o0 14), .long (gL o0 15), .int (gI o0 16), .int (gI o0 17), .int (gI o0 18), .int (gI o0 19), .int (gI o0 20), .int (gI o0 21), .int (gI o0 22), .int (gI o0 23), .int (gI o0 24), .int (gI o0 25), .int (gI o0 26), .int (gI o0 27), .ref (q0 28), .long (gL o0 29), .int (gI o0 30), .ref (q0 31), .ref (q0 32), .ref (q0 33), .int (gI o0 34), .int (gI o0 35), .int (gI o0 36), .int (gI o0 37), .ref (q0 38), .ref (q0 39), .int (gI o0 40), .ref (q0 41), .ref (q0 42), .ref (q0 43), .ref (q0 44)])), kI G (q0 1) 6100 (gA o0 1), kI G (q0 2) 6100 (gA o0 2), kJ G (q0 3) 2016 (gB o0 3), kJ G (q0 4) 2016 (gB o0 4), kI G (q0 5) 300 (upd (gA o0 5) x1.toNatClampNeg (0 : Int32)), kI G (q0 6) 400 (gA o0 6), kJ G (q0 28) 10 (gB o0 28), kI G (q0 31) 969 (gA o0 31), kI G (q0 32) 969 (gA o0 32), kI G (q0 33) 969 (gA o0 33), kI G (q0 38) 5 (gA o0 38), kI G (q0 39) 5120 (gA o0 39), kI G (q0 41) 5 (gA o0 41), kZ G (q0 42) 1024 (gA o0 42), kI G (q0 43) 8192 (gA o0 43), kI G (q0 44) 8192 (gA o0 44)] := hD
      refine lv_iinc (v := (x1 + (1 : Int32))) (lv' := [(1, .int (x1 + (1 : Int32))), (0, .ref h0)]) hx hb d_Md_plain_16 hl (k := 1) rfl rfl (by decide) rfl (fun ls hl => ?_)
      refine lv_goto (tgt := 2) hx hb d_Md_plain_19 (by decide) ?_
      have hl := lv_sub (l' := [(0, .ref h0), (1, .int (x1 + (1 : Int32)))]) hl [1, 0] rfl
      have hP : va_P G.1 CL (cw_Md G h0 q0 (sA o0 5 (upd (gA o0 5) x1.toNatClampNeg (0 : Int32)))) H := hP
      have hD : va_D A (cw_Md G h0 q0 (sA o0 5 (upd (gA o0 5) x1.toNatClampNeg (0 : Int32)))) := hD
      exact ih (x1 + (1 : Int32)) (sA o0 5 (upd (gA o0 5) x1.toNatClampNeg (0 : Int32))) ls H locs hl hP hD hS h
set_option maxHeartbeats 4000000 in
set_option maxRecDepth 100000 in
theorem c_Md_plain {l : Launch} {G : Gl} {h0 : Nat} {q0 : Nat → Nat} {o0 : Ob} {Q : Ob → Prop} (sz : Nat) (h : f_Md_plain o0 Q) : Met l y_Md_plain w_Md_plain rm_Md_plain (PcW G [.ref h0] sz (cw_Md G h0 q0 o0)) (va_Qv (fun (u : Ob) => Q u) (fun (u : Ob) t => BW G (va_A (cw_Md G h0 q0 o0) sz) (cw_Md G h0 q0 u) t) (va_A (cw_Md G h0 q0 o0) sz)) 0 0 (va_A (cw_Md G h0 q0 o0) sz) := by
  refine Met.ofW (cc := b_Md_plain) (maxL := 2) (ret := none) (by decide +kernel) rfl ?_
  intro p e s m args below meth c s₁ B hml hv
  obtain ⟨rfl, hsz, hP, hK, hD0, hE⟩ := hv
  have hx := B.exec
  have hb := B.bytes
  have hr := B.returns
  have hts0 := atoms_spec (ws := w_Md_plain) B.pre
  have hts : ∀ w ∈ gw_tbl, w.before ([.ref h0]).toArray s = true := fun w hw => hts0 w (List.mem_cons_of_mem _ hw)
  have hown : s.vm.findClass R_Md = some m.cls := findClass_of_methodNamed B.named
  have hlocks := B.notSynchronized
  subst hsz
  have hD := hD0.self (sz := s.heap.size)
  generalize hAe : va_A (cw_Md G h0 q0 o0) s.heap.size = A at hD hE ⊢
  have hA : ∀ q : Nat, s.heap.size ≤ q → A q := fun q h => by rw [← hAe]; exact Or.inr h
  have hS : va_S A s.heap s.heap [] := va_S.rf
  have C : Cx p s m ([.ref h0]).toArray meth c R_Md b_Md_plain 2 none G A := ⟨hx, hb, hml, hown, hr, hts, hK, hA, hlocks, hE⟩
  have hl := lv_entry ([.ref h0]) (n := 2) (Nat.le_of_ble_eq_true rfl)
  rw [lg_entry_eq]
  generalize (lg_sl ([.ref h0]) ++ List.replicate (2 - (lg_sl ([.ref h0])).length) Slot.unset).toArray = ls at hl ⊢
  have hl : lv_has ls 2 [(0, .ref h0)] := hl
  have hD : va_D A [(h0, .inr (11, [.int (gI o0 0), .ref (q0 1), .ref (q0 2), .ref (q0 3), .ref (q0 4), .ref (q0 5), .ref (q0 6), .int (gI o0 7), .int (gI o0 8), .int (gI o0 9), .int (gI o0 10), .int (gI o0 11), .int (gI o0 12), .int (gI o0 13), .int (gI o0 14), .long (gL o0 15), .int (gI o0 16), .int (gI o0 17), .int (gI o0 18), .int (gI o0 19), .int (gI o0 20), .int (gI o0 21), .int (gI o0 22), .int (gI o0 23), .int (gI o0 24), .int (gI o0 25), .int (gI o0 26), .int (gI o0 27), .ref (q0 28), .long (gL o0 29), .int (gI o0 30), .ref (q0 31), .ref (q0 32), .ref (q0 33), .int (gI o0 34), .int (gI o0 35), .int (gI o0 36), .int (gI o0 37), .ref (q0 38), .ref (q0 39), .int (gI o0 40), .ref (q0 41), .ref (q0 42), .ref (q0 43), .ref (q0 44)])), kI G (q0 1) 6100 (gA o0 1), kI G (q0 2) 6100 (gA o0 2), kJ G (q0 3) 2016 (gB o0 3), kJ G (q0 4) 2016 (gB o0 4), kI G (q0 5) 300 (gA o0 5), kI G (q0 6) 400 (gA o0 6), kJ G (q0 28) 10 (gB o0 28), kI G (q0 31) 969 (gA o0 31), kI G (q0 32) 969 (gA o0 32), kI G (q0 33) 969 (gA o0 33), kI G (q0 38) 5 (gA o0 38), kI G (q0 39) 5120 (gA o0 39), kI G (q0 41) 5 (gA o0 41), kZ G (q0 42) 1024 (gA o0 42), kI G (q0 43) 8192 (gA o0 43), kI G (q0 44) 8192 (gA o0 44)] := hD
  unfold f_Md_plain at h
  suffices key : ∀ (H : Heap) (locs : List Loc), va_P G.1 CL [(h0, .inr (11, [.int (gI o0 0), .ref (q0 1), .ref (q0 2), .ref (q0 3), .ref (q0 4), .ref (q0 5), .ref (q0 6), .int (gI o0 7), .int (gI o0 8), .int (gI o0 9), .int (gI o0 10), .int (gI o0 11), .int (gI o0 12), .int (gI o0 13), .int (gI o0 14), .long (gL o0 15), .int (gI o0 16), .int (gI o0 17), .int (gI o0 18), .int (gI o0 19), .int (gI o0 20), .int (gI o0 21), .int (gI o0 22), .int (gI o0 23), .int (gI o0 24), .int (gI o0 25), .int (gI o0 26), .int (gI o0 27), .ref (q0 28), .long (gL o0 29), .int (gI o0 30), .ref (q0 31), .ref (q0 32), .ref (q0 33), .int (gI o0 34), .int (gI o0 35), .int (gI o0 36), .int (gI o0 37), .ref (q0 38), .ref (q0 39), .int (gI o0 40), .ref (q0 41), .ref (q0 42), .ref (q0 43), .ref (q0 44)])), kI G (q0 1) 6100 (gA o0 1), kI G (q0 2) 6100 (gA o0 2), kJ G (q0 3) 2016 (gB o0 3), kJ G (q0 4) 2016 (gB o0 4), kI G (q0 5) 300 (gA o0 5), kI G (q0 6) 400 (gA o0 6), kJ G (q0 28) 10 (gB o0 28), kI G (q0 31) 969 (gA o0 31), kI G (q0 32) 969 (gA o0 32), kI G (q0 33) 969 (gA o0 33), kI G (q0 38) 5 (gA o0 38), kI G (q0 39) 5120 (gA o0 39), kI G (q0 41) 5 (gA o0 41), kZ G (q0 42) 1024 (gA o0 42), kI G (q0 43) 8192 (gA o0 43), kI G (q0 44) 8192 (gA o0 44)] H → va_S A s.heap H locs → W p l e rm_Md_plain s m ([.ref h0]).toArray below meth c H locs 0 0 (MQ below (va_Qv (fun (u : Ob) => Q u) (fun (u : Ob) t => BW G A (cw_Md G h0 q0 u) t) A) ([.ref h0]).toArray s 0 0 A) (F0 m 0 ls []) from key s.heap [] hP hS
  intro H locs hP hS
  refine lv_iconst (v := (0 : Int32)) hx hb d_Md_plain_0 (by decide) ?_
  refine lv_istore_n (lv' := [(1, .int (0 : Int32)), (0, .ref h0)]) hx hb d_Md_plain_1 rfl hl (by decide) rfl (fun ls hl => ?_)
  have hl := lv_sub (l' := [(0, .ref h0), (1, .int (0 : Int32))]) hl [1, 0] rfl
  have hP : va_P G.1 CL (cw_Md G h0 q0 o0) H := hP
  have hD : va_D A (cw_Md G h0 q0 o0) := hD
  obtain ⟨w, h⟩ := h
  exact t_Md_plain_2 Q C w (0 : Int32) o0 ls _ locs hl hP hD hS h
abbrev b_Md_four : ByteArray := prog_14_method_6_code
def y_Md_four : MethodName := ⟨R_Md, "four", "(I)V"⟩
abbrev w_Md_four : List Cond := Cond.code y_Md_four b_Md_four 3 none :: gw_tbl
theorem d_Md_four_0 : decode b_Md_four 0 = .ok (.bipush 24, 2) := by decide +kernel
theorem d_Md_four_2 : decode b_Md_four 2 = .ok (.istore_n 2, 1) := by decide +kernel
theorem d_Md_four_3 : decode b_Md_four 3 = .ok (.iload_n 2, 1) := by decide +kernel
theorem d_Md_four_4 : decode b_Md_four 4 = .ok (.ifCond .lt 35, 3) := by decide +kernel
theorem d_Md_four_7 : decode b_Md_four 7 = .ok (.aload_n 0, 1) := by decide +kernel
theorem d_Md_four_8 : decode b_Md_four 8 = .ok (.getfield 26, 3) := by decide +kernel
theorem d_Md_four_11 : decode b_Md_four 11 = .ok (.aload_n 0, 1) := by decide +kernel
theorem d_Md_four_12 : decode b_Md_four 12 = .ok (.getfield 80, 3) := by decide +kernel
theorem d_Md_four_15 : decode b_Md_four 15 = .ok (.iload_n 1, 1) := by decide +kernel
theorem d_Md_four_16 : decode b_Md_four 16 = .ok (.iload_n 2, 1) := by decide +kernel
theorem d_Md_four_17 : decode b_Md_four 17 = .ok (.ishr, 1) := by decide +kernel
theorem d_Md_four_18 : decode b_Md_four 18 = .ok (.sipush 255, 3) := by decide +kernel
theorem d_Md_four_21 : decode b_Md_four 21 = .ok (.iand, 1) := by decide +kernel
theorem d_Md_four_22 : decode b_Md_four 22 = .ok (.iastore, 1) := by decide +kernel
theorem d_Md_four_23 : decode b_Md_four 23 = .ok (.aload_n 0, 1) := by decide +kernel
theorem d_Md_four_24 : decode b_Md_four 24 = .ok (.dup, 1) := by decide +kernel
theorem d_Md_four_25 : decode b_Md_four 25 = .ok (.getfield 80, 3) := by decide +kernel
theorem d_Md_four_28 : decode b_Md_four 28 = .ok (.iconst 1, 1) := by decide +kernel
theorem d_Md_four_29 : decode b_Md_four 29 = .ok (.iadd, 1) := by decide +kernel
theorem d_Md_four_30 : decode b_Md_four 30 = .ok (.putfield 80, 3) := by decide +kernel
theorem d_Md_four_33 : decode b_Md_four 33 = .ok (.iinc 2 (-8), 3) := by decide +kernel
theorem d_Md_four_36 : decode b_Md_four 36 = .ok (.goto (-33), 3) := by decide +kernel
theorem d_Md_four_39 : decode b_Md_four 39 = .ok (.return_, 1) := by decide +kernel
def f_Md_four_3 (Q : Ob → Prop) : Nat → Int32 → Int32 → Ob → Prop
  | 0, _, _, _ => False
  | n + 1, x1, x2, o0 => (x2 < 0 → (Q o0)) ∧ (¬ x2 < 0 → ((vp_in (gI o0 7) 400) ∧ ((f_Md_four_3 Q n) x1 (x2 + (-8 : Int32)) (sA (sI o0 7 ((gI o0 7) + (1 : Int32))) 6 (upd (gA o0 6) ((gI o0 7).toNatClampNeg) ((x1 >>> (x2 &&& 31)) &&& (255 : Int32)))))))
def f_Md_four (a0 : Int32) (o0 : Ob) (Q : Ob → Prop) : Prop := (∃ w, f_Md_four_3 Q w a0 (24 : Int32) o0)
abbrev rm_Md_four : Room := { frames := 0, cells := 0, slots := 0, locals := 0 }
set_option maxHeartbeats 4000000 in
set_option maxRecDepth 100000 in
theorem t_Md_four_3 {p : Program} {l : Launch} {e : Env} {s : State} {m : MethodId} {args : Array Value} {below : List Frame} {meth : Method} {c : Code} {A : Nat → Prop} {G : Gl} {h0 : Nat} {q0 : Nat → Nat} (Q : Ob → Prop) (C : Cx p s m args meth c R_Md b_Md_four 3 none G A) :
    ∀ (n : Nat) (x1 : Int32) (x2 : Int32) (o0 : Ob) (ls : Array Slot) (H : Heap) (locs : List Loc), lv_has ls 3 [(0, .ref h0), (1, .int x1), (2, .int x2)] → va_P G.1 CL (cw_Md G h0 q0 o0) H → va_D A (cw_Md G h0 q0 o0) → va_S A s.heap H locs → f_Md_four_3 Q n x1 x2 o0 → W p l e rm_Md_four s m args below meth c H locs 0 0 (MQ below (va_Qv (fun (u : Ob) => Q u) (fun (u : Ob) t => BW G A (cw_Md G h0 q0 u) t) A) args s 0 0 A) (F0 m 3 ls []) := by
  obtain ⟨hx, hb, hml, hown, hr, hts, hK, hA, hlocks, hE⟩ := id C
  intro n
  induction n with
  | zero => intro x1 x2 o0 ls H locs hl hP hD hS h; exact absurd h id
  | succ n ih =>
    intro x1 x2 o0 ls H locs hl hP hD hS h
    have hP : va_P G.1 CL [(h0, .inr (11, [.int (gI o0 0), .ref (q0 1), .ref (q0 2), .ref (q0 3), .ref (q0 4), .ref (q0 5), .ref (q0 6), .int (gI o0 7), .int (gI o0 8), .int (gI o0 9), .int (gI o0 10), .int (gI o0 11), .int (gI o0 12), .int (gI o0 13), .int (gI o0 14), .long (gL o0 15), .int (gI o0 16), .int (gI o0 17), .int (gI o0 18), .int (gI o0 19), .int (gI o0 20), .int (gI o0 21), .int (gI o0 22), .int (gI o0 23), .int (gI o0 24), .int (gI o0 25), .int (gI o0 26), .int (gI o0 27), .ref (q0 28), .long (gL o0 29), .int (gI o0 30), .ref (q0 31), .ref (q0 32), .ref (q0 33), .int (gI o0 34), .int (gI o0 35), .int (gI o0 36), .int (gI o0 37), .ref (q0 38), .ref (q0 39), .int (gI o0 40), .ref (q0 41), .ref (q0 42), .ref (q0 43), .ref (q0 44)])), kI G (q0 1) 6100 (gA o0 1), kI G (q0 2) 6100 (gA o0 2), kJ G (q0 3) 2016 (gB o0 3), kJ G (q0 4) 2016 (gB o0 4), kI G (q0 5) 300 (gA o0 5), kI G (q0 6) 400 (gA o0 6), kJ G (q0 28) 10 (gB o0 28), kI G (q0 31) 969 (gA o0 31), kI G (q0 32) 969 (gA o0 32), kI G (q0 33) 969 (gA o0 33), kI G (q0 38) 5 (gA o0 38), kI G (q0 39) 5120 (gA o0 39), kI G (q0 41) 5 (gA o0 41), kZ G (q0 42) 1024 (gA o0 42), kI G (q0 43) 8192 (gA o0 43), kI G (q0 44) 8192 (gA o0 44)] H := hP
    have hD : va_D A [(h0, .inr (11, [.int (gI o0 0), .ref (q0 1), .ref (q0 2), .ref (q0 3), .ref (q0 4), .ref (q0 5), .ref (q0 6), .int (gI o0 7), .int (gI o0 8), .int (gI o0 9), .int (gI o0 10), .int (gI o0 11), .int (gI o0 12), .int (gI o0 13), .int (gI o0 14), .long (gL o0 15), .int (gI o0 16), .int (gI o0 17), .int (gI o0 18), .int (gI o0 19), .int (gI o0 20), .int (gI o0 21), .int (gI o0 22), .int (gI o0 23), .int (gI o0 24), .int (gI o0 25), .int (gI o0 26), .int (gI o0 27), .ref (q0 28), .long (gL o0 29), .int (gI o0 30), .ref (q0 31), .ref (q0 32), .ref (q0 33), .int (gI o0 34), .int (gI o0 35), .int (gI o0 36), .int (gI o0 37), .ref (q0 38), .ref (q0 39), .int (gI o0 40), .ref (q0 41), .ref (q0 42), .ref (q0 43), .ref (q0 44)])), kI G (q0 1) 6100 (gA o0 1), kI G (q0 2) 6100 (gA o0 2), kJ G (q0 3) 2016 (gB o0 3), kJ G (q0 4) 2016 (gB o0 4), kI G (q0 5) 300 (gA o0 5), kI G (q0 6) 400 (gA o0 6), kJ G (q0 28) 10 (gB o0 28), kI G (q0 31) 969 (gA o0 31), kI G (q0 32) 969 (gA o0 32), kI G (q0 33) 969 (gA o0 33), kI G (q0 38) 5 (gA o0 38), kI G (q0 39) 5120 (gA o0 39), kI G (q0 41) 5 (gA o0 41), kZ G (q0 42) 1024 (gA o0 42), kI G (q0 43) 8192 (gA o0 43), kI G (q0 44) 8192 (gA o0 44)] := hD
    unfold f_Md_four_3 at h
    refine lv_iload_n hx hb d_Md_four_3 rfl (lv_at hl 2 rfl) ?_
    refine lv_if_lt (tgt := 39) hx hb d_Md_four_4 (by decide) (fun c1 => ?_) (fun c1 => ?_)
    · have h := h.1 c1
      have hP : va_P G.1 CL (cw_Md G h0 q0 o0) H := hP
      have hD : va_D A (cw_Md G h0 q0 o0) := hD
      exact W.vret hx hb hr (fun t ht hW => ⟨⟨o0, rfl, h, by rw [ht]; exact hP, va_K.moved hW.alike hK, hD⟩, hS.F ht⟩) hS.2.2 d_Md_four_39
    · have h := h.2 c1
      refine lv_aload_n hx hb d_Md_four_7 rfl (lv_at hl 0 rfl) ?_
      refine va_get (D := G.1) (ci := 11) (v := .ref (q0 6)) (C := R_Md) (T := T_Md) (N := 45) hx hb hts i_Md hown hK hP 0 rfl rfl 6 (by decide) (hts _ wf_Md_26) (fun _ h9 => h9) rfl d_Md_four_8 ?_
      refine lv_aload_n hx hb d_Md_four_11 rfl (lv_at hl 0 rfl) ?_
      refine va_get (D := G.1) (ci := 11) (v := .int (gI o0 7)) (C := R_Md) (T := T_Md) (N := 45) hx hb hts i_Md hown hK hP 0 rfl rfl 7 (by decide) (hts _ wf_Md_80) (fun _ h9 => h9) rfl d_Md_four_12 ?_
      refine lv_iload_n hx hb d_Md_four_15 rfl (lv_at hl 1 rfl) ?_
      refine lv_iload_n hx hb d_Md_four_16 rfl (lv_at hl 2 rfl) ?_
      refine lv_ishr hx hb d_Md_four_17 ?_
      refine lv_sipush (v := (255 : Int32)) hx hb d_Md_four_18 (by decide) ?_
      refine lv_iand hx hb d_Md_four_21 ?_
      have g2 := h.1
      have h := h.2
      refine xa_iast hx hb hK hP hD hS 6 0 rfl rfl g2 (k := (gI o0 7).toNatClampNeg) rfl d_Md_four_22 (fun H locs hP hD hS => ?_)
      have hP : va_P G.1 CL [(h0, .inr (11, [.int (gI o0 0), .ref (q0 1), .ref (q0 2), .ref (q0 3), .ref (q0 4), .ref (q0 5), .ref (q0 6), .int (gI o0 7), .int (gI o0 8), .int (gI o0 9), .int (gI o0 10), .int (gI o0 11), .int (gI o0 12), .int (gI o0 13), .int (gI o0 14), .long (gL o0 15), .int (gI o0 16), .int (gI o0 17), .int (gI o0 18), .int (gI o0 19), .int (gI o0 20), .int (gI o0 21), .int (gI o0 22), .int (gI o0 23), .int (gI o0 24), .int (gI o0 25), .int (gI o0 26), .int (gI o0 27), .ref (q0 28), .long (gL o0 29), .int (gI o0 30), .ref (q0 31), .ref (q0 32), .ref (q0 33), .int (gI o0 34), .int (gI o0 35), .int (gI o0 36), .int (gI o0 37), .ref (q0 38), .ref (q0 39), .int (gI o0 40), .ref (q0 41), .ref (q0 42), .ref (q0 43), .ref (q0 44)])), kI G (q0 1) 6100 (gA o0 1), kI G (q0 2) 6100 (gA o0 2), kJ G (q0 3) 2016 (gB o0 3), kJ G (q0 4) 2016 (gB o0 4), kI G (q0 5) 300 (gA o0 5), kI G (q0 6) 400 (upd (gA o0 6) ((gI o0 7).toNatClampNeg) ((x1 >>> (x2 &&& 31)) &&& (255 : Int32))), kJ G (q0 28) 10 (gB o0 28), kI G (q0 31) 969 (gA o0 31), kI G (q0 32) 969 (gA o0 32), kI G (q0 33) 969 (gA o0 33), kI G (q0 38) 5 (gA o0 38), kI G (q0 39) 5120 (gA o0 39), kI G (q0 41) 5 (gA o0 41), kZ G (q0 42) 1024 (gA o0 42), kI G (q0 43) 8192 (gA o0 43), kI G (q0 44) 8192 (gA o0 44)] H := hP
      have hD : va_D A [(h0, .inr (11, [.int (gI o0 0), .ref (q0 1), .ref (q0 2), .ref (q0 3), .ref (q0 4), .ref (q0 5), .ref (q0 6), .int (gI o0 7), .int (gI o0 8), .int (gI o0 9), .int (gI o0 10), .int (gI o0 11), .int (gI o0 12), .int (gI o0 13), .int (gI o0 14), .long (gL o0 15), .int (gI o0 16), .int (gI o0 17), .int (gI o0 18), .int (gI o0 19), .int (gI o0 20), .int (gI o0 21), .int (gI o0 22), .int (gI o0 23), .int (gI o0 24), .int (gI o0 25), .int (gI o0 26), .int (gI o0 27), .ref (q0 28), .long (gL o0 29), .int (gI o0 30), .ref (q0 31), .ref (q0 32), .ref (q0 33), .int (gI o0 34), .int (gI o0 35), .int (gI o0 36), .int (gI o0 37), .ref (q0 38), .ref (q0 39), .int (gI o0 40), .ref (q0 41), .ref (q0 42), .ref (q0 43), .ref (q0 44)])), kI G (q0 1) 6100 (gA o0 1), kI G (q0 2) 6100 (gA o0 2), kJ G (q0 3) 2016 (gB o0 3), kJ G (q0 4) 2016 (gB o0 4), kI G (q0 5) 300 (gA o0 5), kI G (q0 6) 400 (upd (gA o0 6) ((gI o0 7).toNatClampNeg) ((x1 >>> (x2 &&& 31)) &&& (255 : Int32))), kJ G (q0 28) 10 (gB o0 28), kI G (q0 31) 969 (gA o0 31), kI G (q0 32) 969 (gA o0 32), kI G (q0 33) 969 (gA o0 33), kI G (q0 38) 5 (gA o0 38), kI G (q0 39) 5120 (gA o0 39), kI G (q0 41) 5 (gA o0 41), kZ G (q0 42) 1024 (gA o0 42), kI G (q0 43) 8192 (gA o0 43), kI G (q0 44) 8192 (gA o0 44)] := hD
      refine lv_aload_n hx hb d_Md_four_23 rfl (lv_at hl 0 rfl) ?_
      refine lv_dup hx hb d_Md_four_24 rfl ?_
      refine va_get (D := G.1) (ci := 11) (v := .int (gI o0 7)) (C := R_Md) (T := T_Md) (N := 45) hx hb hts i_Md hown hK hP 0 rfl rfl 7 (by decide) (hts _ wf_Md_80) (fun _ h9 => h9) rfl d_Md_four_25 ?_
      refine lv_iconst (v := (1 : Int32)) hx hb d_Md_four_28 (by decide) ?_
      refine lv_iadd hx hb d_Md_four_29 ?_
      refine va_put (D := G.1) (ci := 11) (v := .int ((gI o0 7) + (1 : Int32))) (ty := .int) (C := R_Md) (T := T_Md) (N := 45) hx hb hts i_Md ty_Md ty_Md_ok nm_Md hown hK hP hD hS 0 rfl rfl 7 (by decide) (hts _ wf_Md_80) (fun _ h9 => h9) rfl (ty_Md_ok 7 (by decide)) rfl rfl (Nat.le_of_ble_eq_true rfl) d_Md_four_30 (fun H locs hP hD hS => ?_)
      have hP : va_P G.1 CL [(h0, .inr (11, [.int (gI o0 0), .ref (q0 1), .ref (q0 2), .ref (q0 3), .ref (q0 4), .ref (q0 5), .ref (q0 6), .int ((gI o0 7) + (1 : Int32)), .int (gI o0 8), .int (gI o0 9), .int (gI o0 10), .int (gI o0 11), .int (gI o0 12), .int (gI o0 13), .int (gI o0 14), .long (gL o0 15), .int (gI o0 16), .int (gI o0 17), .int (gI o0 18), .int (gI o0 19), .int (gI o0 20), .int (gI o0 21), .int (gI o0 22), .int (gI o0 23), .int (gI o0 24), .int (gI o0 25), .int (gI o0 26), .int (gI o0 27), .ref (q0 28), .long (gL o0 29), .int (gI o0 30), .ref (q0 31), .ref (q0 32), .ref (q0 33), .int (gI o0 34), .int (gI o0 35), .int (gI o0 36), .int (gI o0 37), .ref (q0 38), .ref (q0 39), .int (gI o0 40), .ref (q0 41), .ref (q0 42), .ref (q0 43), .ref (q0 44)])), kI G (q0 1) 6100 (gA o0 1), kI G (q0 2) 6100 (gA o0 2), kJ G (q0 3) 2016 (gB o0 3), kJ G (q0 4) 2016 (gB o0 4), kI G (q0 5) 300 (gA o0 5), kI G (q0 6) 400 (upd (gA o0 6) ((gI o0 7).toNatClampNeg) ((x1 >>> (x2 &&& 31)) &&& (255 : Int32))), kJ G (q0 28) 10 (gB o0 28), kI G (q0 31) 969 (gA o0 31), kI G (q0 32) 969 (gA o0 32), kI G (q0 33) 969 (gA o0 33), kI G (q0 38) 5 (gA o0 38), kI G (q0 39) 5120 (gA o0 39), kI G (q0 41) 5 (gA o0 41), kZ G (q0 42) 1024 (gA o0 42), kI G (q0 43) 8192 (gA o0 43), kI G (q0 44) 8192 (gA o0 44)] H := hP
      have hD : va_D A [(h0, .inr (11, [.int (gI o0 0), .ref (q0 1), .ref (q0 2), .ref (q0 3), .ref (q0 4), .ref (q0 5), .ref (q0 6), .int ((gI o0 7) + (1 : Int32)), .int (gI o0 8), .int (gI o0 9), .int (gI o0 10), .int (gI o0 11), .int (gI o0 12), .int (gI o0 13), .int (gI o0 14), .long (gL o0 15), .int (gI o0 16), .int (gI o0 17), .int (gI o0 18), .int (gI o0 19), .int (gI o0 20), .int (gI o0 21), .int (gI o0 22), .int (gI o0 23), .int (gI o0 24), .int (gI o0 25), .int (gI o0 26), .int (gI o0 27), .ref (q0 28), .long (gL o0 29), .int (gI o0 30), .ref (q0 31), .ref (q0 32), .ref (q0 33), .int (gI o0 34), .int (gI o0 35), .int (gI o0 36), .int (gI o0 37), .ref (q0 38), .ref (q0 39), .int (gI o0 40), .ref (q0 41), .ref (q0 42), .ref (q0 43), .ref (q0 44)])), kI G (q0 1) 6100 (gA o0 1), kI G (q0 2) 6100 (gA o0 2), kJ G (q0 3) 2016 (gB o0 3), kJ G (q0 4) 2016 (gB o0 4), kI G (q0 5) 300 (gA o0 5), kI G (q0 6) 400 (upd (gA o0 6) ((gI o0 7).toNatClampNeg) ((x1 >>> (x2 &&& 31)) &&& (255 : Int32))), kJ G (q0 28) 10 (gB o0 28), kI G (q0 31) 969 (gA o0 31), kI G (q0 32) 969 (gA o0 32), kI G (q0 33) 969 (gA o0 33), kI G (q0 38) 5 (gA o0 38), kI G (q0 39) 5120 (gA o0 39), kI G (q0 41) 5 (gA o0 41), kZ G (q0 42) 1024 (gA o0 42), kI G (q0 43) 8192 (gA o0 43), kI G (q0 44) 8192 (gA o0 44)] := hD
      refine lv_iinc (v := (x2 + (-8 : Int32))) (lv' := [(2, .int (x2 + (-8 : Int32))), (0, .ref h0), (1, .int x1)]) hx hb d_Md_four_33 hl (k := 2) rfl rfl (by decide) rfl (fun ls hl => ?_)
      refine lv_goto (tgt := 3) hx hb d_Md_four_36 (by decide) ?_
      have hl := lv_sub (l' := [(0, .ref h0), (1, .int x1), (2, .int (x2 + (-8 : Int32)))]) hl [1, 2, 0] rfl
      have hP : va_P G.1 CL (cw_Md G h0 q0 (sA (sI o0 7 ((gI o0 7) + (1 : Int32))) 6 (upd (gA o0 6) ((gI o0 7).toNatClampNeg) ((x1 >>> (x2 &&& 31)) &&& (255 : Int32))))) H := hP
      have hD : va_D A (cw_Md G h0 q0 (sA (sI o0 7 ((gI o0 7) + (1 : Int32))) 6 (upd (gA o0 6) ((gI o0 7).toNatClampNeg) ((x1 >>> (x2 &&& 31)) &&& (255 : Int32))))) := hD
      exact ih x1 (x2 + (-8 : Int32)) (sA (sI o0 7 ((gI o0 7) + (1 : Int32))) 6 (upd (gA o0 6) ((gI o0 7).toNatClampNeg) ((x1 >>> (x2 &&& 31)) &&& (255 : Int32)))) ls H locs hl hP hD hS h
set_option maxHeartbeats 4000000 in
set_option maxRecDepth 100000 in
theorem c_Md_four {l : Launch} {G : Gl} {h0 : Nat} {q0 : Nat → Nat} {a0 : Int32} {o0 : Ob} {Q : Ob → Prop} (sz : Nat) (h : f_Md_four a0 o0 Q) : Met l y_Md_four w_Md_four rm_Md_four (PcW G [.ref h0, .int a0] sz (cw_Md G h0 q0 o0)) (va_Qv (fun (u : Ob) => Q u) (fun (u : Ob) t => BW G (va_A (cw_Md G h0 q0 o0) sz) (cw_Md G h0 q0 u) t) (va_A (cw_Md G h0 q0 o0) sz)) 0 0 (va_A (cw_Md G h0 q0 o0) sz) := by
  refine Met.ofW (cc := b_Md_four) (maxL := 3) (ret := none) (by decide +kernel) rfl ?_
  intro p e s m args below meth c s₁ B hml hv
  obtain ⟨rfl, hsz, hP, hK, hD0, hE⟩ := hv
  have hx := B.exec
  have hb := B.bytes
  have hr := B.returns
  have hts0 := atoms_spec (ws := w_Md_four) B.pre
  have hts : ∀ w ∈ gw_tbl, w.before ([.ref h0, .int a0]).toArray s = true := fun w hw => hts0 w (List.mem_cons_of_mem _ hw)
  have hown : s.vm.findClass R_Md = some m.cls := findClass_of_methodNamed B.named
  have hlocks := B.notSynchronized
  subst hsz
  have hD := hD0.self (sz := s.heap.size)
  generalize hAe : va_A (cw_Md G h0 q0 o0) s.heap.size = A at hD hE ⊢
  have hA : ∀ q : Nat, s.heap.size ≤ q → A q := fun q h => by rw [← hAe]; exact Or.inr h
  have hS : va_S A s.heap s.heap [] := va_S.rf
  have C : Cx p s m ([.ref h0, .int a0]).toArray meth c R_Md b_Md_four 3 none G A := ⟨hx, hb, hml, hown, hr, hts, hK, hA, hlocks, hE⟩
  have hl := lv_entry ([.ref h0, .int a0]) (n := 3) (Nat.le_of_ble_eq_true rfl)
  rw [lg_entry_eq]
  generalize (lg_sl ([.ref h0, .int a0]) ++ List.replicate (3 - (lg_sl ([.ref h0, .int a0])).length) Slot.unset).toArray = ls at hl ⊢
  have hl : lv_has ls 3 [(0, .ref h0), (1, .int a0)] := hl
  have hD : va_D A [(h0, .inr (11, [.int (gI o0 0), .ref (q0 1), .ref (q0 2), .ref (q0 3), .ref (q0 4), .ref (q0 5), .ref (q0 6), .int (gI o0 7), .int (gI o0 8), .int (gI o0 9), .int (gI o0 10), .int (gI o0 11), .int (gI o0 12), .int (gI o0 13), .int (gI o0 14), .long (gL o0 15), .int (gI o0 16), .int (gI o0 17), .int (gI o0 18), .int (gI o0 19), .int (gI o0 20), .int (gI o0 21), .int (gI o0 22), .int (gI o0 23), .int (gI o0 24), .int (gI o0 25), .int (gI o0 26), .int (gI o0 27), .ref (q0 28), .long (gL o0 29), .int (gI o0 30), .ref (q0 31), .ref (q0 32), .ref (q0 33), .int (gI o0 34), .int (gI o0 35), .int (gI o0 36), .int (gI o0 37), .ref (q0 38), .ref (q0 39), .int (gI o0 40), .ref (q0 41), .ref (q0 42), .ref (q0 43), .ref (q0 44)])), kI G (q0 1) 6100 (gA o0 1), kI G (q0 2) 6100 (gA o0 2), kJ G (q0 3) 2016 (gB o0 3), kJ G (q0 4) 2016 (gB o0 4), kI G (q0 5) 300 (gA o0 5), kI G (q0 6) 400 (gA o0 6), kJ G (q0 28) 10 (gB o0 28), kI G (q0 31) 969 (gA o0 31), kI G (q0 32) 969 (gA o0 32), kI G (q0 33) 969 (gA o0 33), kI G (q0 38) 5 (gA o0 38), kI G (q0 39) 5120 (gA o0 39), kI G (q0 41) 5 (gA o0 41), kZ G (q0 42) 1024 (gA o0 42), kI G (q0 43) 8192 (gA o0 43), kI G (q0 44) 8192 (gA o0 44)] := hD
  unfold f_Md_four at h
  suffices key : ∀ (H : Heap) (locs : List Loc), va_P G.1 CL [(h0, .inr (11, [.int (gI o0 0), .ref (q0 1), .ref (q0 2), .ref (q0 3), .ref (q0 4), .ref (q0 5), .ref (q0 6), .int (gI o0 7), .int (gI o0 8), .int (gI o0 9), .int (gI o0 10), .int (gI o0 11), .int (gI o0 12), .int (gI o0 13), .int (gI o0 14), .long (gL o0 15), .int (gI o0 16), .int (gI o0 17), .int (gI o0 18), .int (gI o0 19), .int (gI o0 20), .int (gI o0 21), .int (gI o0 22), .int (gI o0 23), .int (gI o0 24), .int (gI o0 25), .int (gI o0 26), .int (gI o0 27), .ref (q0 28), .long (gL o0 29), .int (gI o0 30), .ref (q0 31), .ref (q0 32), .ref (q0 33), .int (gI o0 34), .int (gI o0 35), .int (gI o0 36), .int (gI o0 37), .ref (q0 38), .ref (q0 39), .int (gI o0 40), .ref (q0 41), .ref (q0 42), .ref (q0 43), .ref (q0 44)])), kI G (q0 1) 6100 (gA o0 1), kI G (q0 2) 6100 (gA o0 2), kJ G (q0 3) 2016 (gB o0 3), kJ G (q0 4) 2016 (gB o0 4), kI G (q0 5) 300 (gA o0 5), kI G (q0 6) 400 (gA o0 6), kJ G (q0 28) 10 (gB o0 28), kI G (q0 31) 969 (gA o0 31), kI G (q0 32) 969 (gA o0 32), kI G (q0 33) 969 (gA o0 33), kI G (q0 38) 5 (gA o0 38), kI G (q0 39) 5120 (gA o0 39), kI G (q0 41) 5 (gA o0 41), kZ G (q0 42) 1024 (gA o0 42), kI G (q0 43) 8192 (gA o0 43), kI G (q0 44) 8192 (gA o0 44)] H → va_S A s.heap H locs → W p l e rm_Md_four s m ([.ref h0, .int a0]).toArray below meth c H locs 0 0 (MQ below (va_Qv (fun (u : Ob) => Q u) (fun (u : Ob) t => BW G A (cw_Md G h0 q0 u) t) A) ([.ref h0, .int a0]).toArray s 0 0 A) (F0 m 0 ls []) from key s.heap [] hP hS
  intro H locs hP hS
  refine lv_bipush (v := (24 : Int32)) hx hb d_Md_four_0 (by decide) ?_
  refine lv_istore_n (lv' := [(2, .int (24 : Int32)), (0, .ref h0), (1, .int a0)]) hx hb d_Md_four_2 rfl hl (by decide) rfl (fun ls hl => ?_)
  have hl := lv_sub (l' := [(0, .ref h0), (1, .int a0), (2, .int (24 : Int32))]) hl [1, 2, 0] rfl
  have hP : va_P G.1 CL (cw_Md G h0 q0 o0) H := hP
  have hD : va_D A (cw_Md G h0 q0 o0) := hD
  obtain ⟨w, h⟩ := h
  exact t_Md_four_3 Q C w a0 (24 : Int32) o0 ls _ locs hl hP hD hS h
abbrev b_Md_feed : ByteArray := prog_14_method_7_code
def y_Md_feed : MethodName := ⟨R_Md, "feed", "(IIIII)I"⟩
abbrev w_Md_feed : List Cond := Cond.code y_Md_feed b_Md_feed 6 (some .int) :: gw_tbl
theorem d_Md_feed_0 : decode b_Md_feed 0 = .ok (.aload_n 0, 1) := by decide +kernel
theorem d_Md_feed_1 : decode b_Md_feed 1 = .ok (.getfield 80, 3) := by decide +kernel
theorem d_Md_feed_4 : decode b_Md_feed 4 = .ok (.bipush 20, 2) := by decide +kernel
theorem d_Md_feed_6 : decode b_Md_feed 6 = .ok (.iadd, 1) := by decide +kernel
theorem d_Md_feed_7 : decode b_Md_feed 7 = .ok (.sipush 400, 3) := by decide +kernel
theorem d_Md_feed_10 : decode b_Md_feed 10 = .ok (.if_icmp .le 5, 3) := by decide +kernel
theorem d_Md_feed_13 : decode b_Md_feed 13 = .ok (.iconst (-1), 1) := by decide +kernel
theorem d_Md_feed_14 : decode b_Md_feed 14 = .ok (.ireturn, 1) := by decide +kernel
theorem d_Md_feed_15 : decode b_Md_feed 15 = .ok (.aload_n 0, 1) := by decide +kernel
theorem d_Md_feed_16 : decode b_Md_feed 16 = .ok (.iload_n 1, 1) := by decide +kernel
theorem d_Md_feed_17 : decode b_Md_feed 17 = .ok (.invokevirtual 83, 3) := by decide +kernel
theorem d_Md_feed_20 : decode b_Md_feed 20 = .ok (.aload_n 0, 1) := by decide +kernel
theorem d_Md_feed_21 : decode b_Md_feed 21 = .ok (.iload_n 2, 1) := by decide +kernel
theorem d_Md_feed_22 : decode b_Md_feed 22 = .ok (.invokevirtual 83, 3) := by decide +kernel
theorem d_Md_feed_25 : decode b_Md_feed 25 = .ok (.aload_n 0, 1) := by decide +kernel
theorem d_Md_feed_26 : decode b_Md_feed 26 = .ok (.iload_n 3, 1) := by decide +kernel
theorem d_Md_feed_27 : decode b_Md_feed 27 = .ok (.invokevirtual 83, 3) := by decide +kernel
theorem d_Md_feed_30 : decode b_Md_feed 30 = .ok (.aload_n 0, 1) := by decide +kernel
theorem d_Md_feed_31 : decode b_Md_feed 31 = .ok (.iload 4, 2) := by decide +kernel
theorem d_Md_feed_33 : decode b_Md_feed 33 = .ok (.invokevirtual 83, 3) := by decide +kernel
theorem d_Md_feed_36 : decode b_Md_feed 36 = .ok (.aload_n 0, 1) := by decide +kernel
theorem d_Md_feed_37 : decode b_Md_feed 37 = .ok (.iload 5, 2) := by decide +kernel
theorem d_Md_feed_39 : decode b_Md_feed 39 = .ok (.invokevirtual 83, 3) := by decide +kernel
theorem d_Md_feed_42 : decode b_Md_feed 42 = .ok (.aload_n 0, 1) := by decide +kernel
theorem d_Md_feed_43 : decode b_Md_feed 43 = .ok (.getfield 80, 3) := by decide +kernel
theorem d_Md_feed_46 : decode b_Md_feed 46 = .ok (.ireturn, 1) := by decide +kernel
theorem wv_Md_83 : wV R_Md 83 y_Md_four b_Md_four 3 none 1 := ⟨⟨gw_tb (List.mem_of_getElem? (i := 1112) (by decide +kernel)) rfl, gw_tb (List.mem_of_getElem? (i := 13) (by decide +kernel)) rfl, gw_tb (List.mem_of_getElem? (i := 1115) (by decide +kernel)) rfl, by decide, by decide, by decide +kernel⟩, gw_tb (List.mem_of_getElem? (i := 1114) (by decide +kernel)) rfl, gw_of (List.mem_append_left _ (List.mem_of_getElem? (i := 32) (by decide +kernel))) rfl⟩
def f_Md_feed (a0 : Int32) (a1 : Int32) (a2 : Int32) (a3 : Int32) (a4 : Int32) (o0 : Ob) (Q : Int32 → Ob → Prop) : Prop := (((gI o0 7) + (20 : Int32)) ≤ (400 : Int32) → (f_Md_four a0 o0 (fun u2 => f_Md_four a1 u2 (fun u3 => f_Md_four a2 u3 (fun u4 => f_Md_four a3 u4 (fun u5 => f_Md_four a4 u5 (fun u6 => Q (gI u6 7) u6))))))) ∧ (¬ ((gI o0 7) + (20 : Int32)) ≤ (400 : Int32) → (Q (-1 : Int32) o0))
abbrev rm_Md_feed : Room := { frames := 1, cells := 0, slots := 0, locals := 22 }
set_option maxHeartbeats 4000000 in
set_option maxRecDepth 100000 in
theorem c_Md_feed {l : Launch} {G : Gl} {h0 : Nat} {q0 : Nat → Nat} {a0 : Int32} {a1 : Int32} {a2 : Int32} {a3 : Int32} {a4 : Int32} {o0 : Ob} {Q : Int32 → Ob → Prop} (sz : Nat) (h : f_Md_feed a0 a1 a2 a3 a4 o0 Q) : Met l y_Md_feed w_Md_feed rm_Md_feed (PcW G [.ref h0, .int a0, .int a1, .int a2, .int a3, .int a4] sz (cw_Md G h0 q0 o0)) (va_Qi (fun (r : Int32) (u : Ob) => Q r u) (fun (u : Ob) t => BW G (va_A (cw_Md G h0 q0 o0) sz) (cw_Md G h0 q0 u) t) (va_A (cw_Md G h0 q0 o0) sz)) 0 0 (va_A (cw_Md G h0 q0 o0) sz) := by
  refine Met.ofW (cc := b_Md_feed) (maxL := 6) (ret := (some .int)) (by decide +kernel) rfl ?_
  intro p e s m args below meth c s₁ B hml hv
  obtain ⟨rfl, hsz, hP, hK, hD0, hE⟩ := hv
  have hx := B.exec
  have hb := B.bytes
  have hr := B.returns
  have hts0 := atoms_spec (ws := w_Md_feed) B.pre
  have hts : ∀ w ∈ gw_tbl, w.before ([.ref h0, .int a0, .int a1, .int a2, .int a3, .int a4]).toArray s = true := fun w hw => hts0 w (List.mem_cons_of_mem _ hw)
  have hown : s.vm.findClass R_Md = some m.cls := findClass_of_methodNamed B.named
  have hlocks := B.notSynchronized
  subst hsz
  have hD := hD0.self (sz := s.heap.size)
  generalize hAe : va_A (cw_Md G h0 q0 o0) s.heap.size = A at hD hE ⊢
  have hA : ∀ q : Nat, s.heap.size ≤ q → A q := fun q h => by rw [← hAe]; exact Or.inr h
  have hS : va_S A s.heap s.heap [] := va_S.rf
  have C : Cx p s m ([.ref h0, .int a0, .int a1, .int a2, .int a3, .int a4]).toArray meth c R_Md b_Md_feed 6 (some .int) G A := ⟨hx, hb, hml, hown, hr, hts, hK, hA, hlocks, hE⟩
  have hl := lv_entry ([.ref h0, .int a0, .int a1, .int a2, .int a3, .int a4]) (n := 6) (Nat.le_of_ble_eq_true rfl)
  rw [lg_entry_eq]
  generalize (lg_sl ([.ref h0, .int a0, .int a1, .int a2, .int a3, .int a4]) ++ List.replicate (6 - (lg_sl ([.ref h0, .int a0, .int a1, .int a2, .int a3, .int a4])).length) Slot.unset).toArray = ls at hl ⊢
  have hl : lv_has ls 6 [(0, .ref h0), (1, .int a0), (2, .int a1), (3, .int a2), (4, .int a3), (5, .int a4)] := hl
  have hD : va_D A [(h0, .inr (11, [.int (gI o0 0), .ref (q0 1), .ref (q0 2), .ref (q0 3), .ref (q0 4), .ref (q0 5), .ref (q0 6), .int (gI o0 7), .int (gI o0 8), .int (gI o0 9), .int (gI o0 10), .int (gI o0 11), .int (gI o0 12), .int (gI o0 13), .int (gI o0 14), .long (gL o0 15), .int (gI o0 16), .int (gI o0 17), .int (gI o0 18), .int (gI o0 19), .int (gI o0 20), .int (gI o0 21), .int (gI o0 22), .int (gI o0 23), .int (gI o0 24), .int (gI o0 25), .int (gI o0 26), .int (gI o0 27), .ref (q0 28), .long (gL o0 29), .int (gI o0 30), .ref (q0 31), .ref (q0 32), .ref (q0 33), .int (gI o0 34), .int (gI o0 35), .int (gI o0 36), .int (gI o0 37), .ref (q0 38), .ref (q0 39), .int (gI o0 40), .ref (q0 41), .ref (q0 42), .ref (q0 43), .ref (q0 44)])), kI G (q0 1) 6100 (gA o0 1), kI G (q0 2) 6100 (gA o0 2), kJ G (q0 3) 2016 (gB o0 3), kJ G (q0 4) 2016 (gB o0 4), kI G (q0 5) 300 (gA o0 5), kI G (q0 6) 400 (gA o0 6), kJ G (q0 28) 10 (gB o0 28), kI G (q0 31) 969 (gA o0 31), kI G (q0 32) 969 (gA o0 32), kI G (q0 33) 969 (gA o0 33), kI G (q0 38) 5 (gA o0 38), kI G (q0 39) 5120 (gA o0 39), kI G (q0 41) 5 (gA o0 41), kZ G (q0 42) 1024 (gA o0 42), kI G (q0 43) 8192 (gA o0 43), kI G (q0 44) 8192 (gA o0 44)] := hD
  unfold f_Md_feed at h
  suffices key : ∀ (H : Heap) (locs : List Loc), va_P G.1 CL [(h0, .inr (11, [.int (gI o0 0), .ref (q0 1), .ref (q0 2), .ref (q0 3), .ref (q0 4), .ref (q0 5), .ref (q0 6), .int (gI o0 7), .int (gI o0 8), .int (gI o0 9), .int (gI o0 10), .int (gI o0 11), .int (gI o0 12), .int (gI o0 13), .int (gI o0 14), .long (gL o0 15), .int (gI o0 16), .int (gI o0 17), .int (gI o0 18), .int (gI o0 19), .int (gI o0 20), .int (gI o0 21), .int (gI o0 22), .int (gI o0 23), .int (gI o0 24), .int (gI o0 25), .int (gI o0 26), .int (gI o0 27), .ref (q0 28), .long (gL o0 29), .int (gI o0 30), .ref (q0 31), .ref (q0 32), .ref (q0 33), .int (gI o0 34), .int (gI o0 35), .int (gI o0 36), .int (gI o0 37), .ref (q0 38), .ref (q0 39), .int (gI o0 40), .ref (q0 41), .ref (q0 42), .ref (q0 43), .ref (q0 44)])), kI G (q0 1) 6100 (gA o0 1), kI G (q0 2) 6100 (gA o0 2), kJ G (q0 3) 2016 (gB o0 3), kJ G (q0 4) 2016 (gB o0 4), kI G (q0 5) 300 (gA o0 5), kI G (q0 6) 400 (gA o0 6), kJ G (q0 28) 10 (gB o0 28), kI G (q0 31) 969 (gA o0 31), kI G (q0 32) 969 (gA o0 32), kI G (q0 33) 969 (gA o0 33), kI G (q0 38) 5 (gA o0 38), kI G (q0 39) 5120 (gA o0 39), kI G (q0 41) 5 (gA o0 41), kZ G (q0 42) 1024 (gA o0 42), kI G (q0 43) 8192 (gA o0 43), kI G (q0 44) 8192 (gA o0 44)] H → va_S A s.heap H locs → W p l e rm_Md_feed s m ([.ref h0, .int a0, .int a1, .int a2, .int a3, .int a4]).toArray below meth c H locs 0 0 (MQ below (va_Qi (fun (r : Int32) (u : Ob) => Q r u) (fun (u : Ob) t => BW G A (cw_Md G h0 q0 u) t) A) ([.ref h0, .int a0, .int a1, .int a2, .int a3, .int a4]).toArray s 0 0 A) (F0 m 0 ls []) from key s.heap [] hP hS
  intro H locs hP hS
  refine lv_aload_n hx hb d_Md_feed_0 rfl (lv_at hl 0 rfl) ?_
  refine va_get (D := G.1) (ci := 11) (v := .int (gI o0 7)) (C := R_Md) (T := T_Md) (N := 45) hx hb hts i_Md hown hK hP 0 rfl rfl 7 (by decide) (hts _ wf_Md_80) (fun _ h9 => h9) rfl d_Md_feed_1 ?_
  refine lv_bipush (v := (20 : Int32)) hx hb d_Md_feed_4 (by decide) ?_
  refine lv_iadd hx hb d_Md_feed_6 ?_
  refine lv_sipush (v := (400 : Int32)) hx hb d_Md_feed_7 (by decide) ?_
  refine lv_icmp_le (tgt := 15) hx hb d_Md_feed_10 (by decide) (fun c1 => ?_) (fun c1 => ?_)
  · have h := h.1 c1
    refine lv_aload_n hx hb d_Md_feed_15 rfl (lv_at hl 0 rfl) ?_
    refine lv_iload_n hx hb d_Md_feed_16 rfl (lv_at hl 1 rfl) ?_
    refine cl_Vv (b := b_Md_feed) (As := [.int a0]) (rest := []) (ws := [(h0, .inr (11, [.int (gI o0 0), .ref (q0 1), .ref (q0 2), .ref (q0 3), .ref (q0 4), .ref (q0 5), .ref (q0 6), .int (gI o0 7), .int (gI o0 8), .int (gI o0 9), .int (gI o0 10), .int (gI o0 11), .int (gI o0 12), .int (gI o0 13), .int (gI o0 14), .long (gL o0 15), .int (gI o0 16), .int (gI o0 17), .int (gI o0 18), .int (gI o0 19), .int (gI o0 20), .int (gI o0 21), .int (gI o0 22), .int (gI o0 23), .int (gI o0 24), .int (gI o0 25), .int (gI o0 26), .int (gI o0 27), .ref (q0 28), .long (gL o0 29), .int (gI o0 30), .ref (q0 31), .ref (q0 32), .ref (q0 33), .int (gI o0 34), .int (gI o0 35), .int (gI o0 36), .int (gI o0 37), .ref (q0 38), .ref (q0 39), .int (gI o0 40), .ref (q0 41), .ref (q0 42), .ref (q0 43), .ref (q0 44)])), kI G (q0 1) 6100 (gA o0 1), kI G (q0 2) 6100 (gA o0 2), kJ G (q0 3) 2016 (gB o0 3), kJ G (q0 4) 2016 (gB o0 4), kI G (q0 5) 300 (gA o0 5), kI G (q0 6) 400 (gA o0 6), kJ G (q0 28) 10 (gB o0 28), kI G (q0 31) 969 (gA o0 31), kI G (q0 32) 969 (gA o0 32), kI G (q0 33) 969 (gA o0 33), kI G (q0 38) 5 (gA o0 38), kI G (q0 39) 5120 (gA o0 39), kI G (q0 41) 5 (gA o0 41), kZ G (q0 42) 1024 (gA o0 42), kI G (q0 43) 8192 (gA o0 43), kI G (q0 44) 8192 (gA o0 44)]) (wr := []) (w2 := fun (u : Ob) => [(h0, .inr (11, [.int (gI u 0), .ref (q0 1), .ref (q0 2), .ref (q0 3), .ref (q0 4), .ref (q0 5), .ref (q0 6), .int (gI u 7), .int (gI u 8), .int (gI u 9), .int (gI u 10), .int (gI u 11), .int (gI u 12), .int (gI u 13), .int (gI u 14), .long (gL u 15), .int (gI u 16), .int (gI u 17), .int (gI u 18), .int (gI u 19), .int (gI u 20), .int (gI u 21), .int (gI u 22), .int (gI u 23), .int (gI u 24), .int (gI u 25), .int (gI u 26), .int (gI u 27), .ref (q0 28), .long (gL u 29), .int (gI u 30), .ref (q0 31), .ref (q0 32), .ref (q0 33), .int (gI u 34), .int (gI u 35), .int (gI u 36), .int (gI u 37), .ref (q0 38), .ref (q0 39), .int (gI u 40), .ref (q0 41), .ref (q0 42), .ref (q0 43), .ref (q0 44)])), kI G (q0 1) 6100 (gA u 1), kI G (q0 2) 6100 (gA u 2), kJ G (q0 3) 2016 (gB u 3), kJ G (q0 4) 2016 (gB u 4), kI G (q0 5) 300 (gA u 5), kI G (q0 6) 400 (gA u 6), kJ G (q0 28) 10 (gB u 28), kI G (q0 31) 969 (gA u 31), kI G (q0 32) 969 (gA u 32), kI G (q0 33) 969 (gA u 33), kI G (q0 38) 5 (gA u 38), kI G (q0 39) 5120 (gA u 39), kI G (q0 41) 5 (gA u 41), kZ G (q0 42) 1024 (gA u 42), kI G (q0 43) 8192 (gA u 43), kI G (q0 44) 8192 (gA u 44)]) C (c_Md_four (h0 := h0) (q0 := q0) H.size h) wv_Md_83 ⟨Nat.le_of_ble_eq_true rfl, Nat.le_of_ble_eq_true rfl⟩ hP hD hS 0 rfl rfl [0, 1, 2, 3, 4, 5, 6, 7, 8, 9, 10, 11, 12, 13, 14, 15, 16] [] rfl rfl (by decide) (by decide) (by decide) [0, 1, 2, 3, 4, 5, 6, 7, 8, 9, 10, 11, 12, 13, 14, 15, 16] (by decide) (fun u => rfl) rfl hl.1 rfl (lv_room (Nat.le_of_ble_eq_true rfl)) d_Md_feed_17 ⟨Nat.le_of_ble_eq_true rfl, Nat.le_of_ble_eq_true rfl⟩ rfl rfl (fun u H locs h hP hD hS => ?_)
    generalize u = u2 at h hP hD
    have hP : va_P G.1 CL [(h0, .inr (11, [.int (gI u2 0), .ref (q0 1), .ref (q0 2), .ref (q0 3), .ref (q0 4), .ref (q0 5), .ref (q0 6), .int (gI u2 7), .int (gI u2 8), .int (gI u2 9), .int (gI u2 10), .int (gI u2 11), .int (gI u2 12), .int (gI u2 13), .int (gI u2 14), .long (gL u2 15), .int (gI u2 16), .int (gI u2 17), .int (gI u2 18), .int (gI u2 19), .int (gI u2 20), .int (gI u2 21), .int (gI u2 22), .int (gI u2 23), .int (gI u2 24), .int (gI u2 25), .int (gI u2 26), .int (gI u2 27), .ref (q0 28), .long (gL u2 29), .int (gI u2 30), .ref (q0 31), .ref (q0 32), .ref (q0 33), .int (gI u2 34), .int (gI u2 35), .int (gI u2 36), .int (gI u2 37), .ref (q0 38), .ref (q0 39), .int (gI u2 40), .ref (q0 41), .ref (q0 42), .ref (q0 43), .ref (q0 44)])), kI G (q0 1) 6100 (gA u2 1), kI G (q0 2) 6100 (gA u2 2), kJ G (q0 3) 2016 (gB u2 3), kJ G (q0 4) 2016 (gB u2 4), kI G (q0 5) 300 (gA u2 5), kI G (q0 6) 400 (gA u2 6), kJ G (q0 28) 10 (gB u2 28), kI G (q0 31) 969 (gA u2 31), kI G (q0 32) 969 (gA u2 32), kI G (q0 33) 969 (gA u2 33), kI G (q0 38) 5 (gA u2 38), kI G (q0 39) 5120 (gA u2 39), kI G (q0 41) 5 (gA u2 41), kZ G (q0 42) 1024 (gA u2 42), kI G (q0 43) 8192 (gA u2 43), kI G (q0 44) 8192 (gA u2 44)] H := hP
    have hD : va_D A [(h0, .inr (11, [.int (gI u2 0), .ref (q0 1), .ref (q0 2), .ref (q0 3), .ref (q0 4), .ref (q0 5), .ref (q0 6), .int (gI u2 7), .int (gI u2 8), .int (gI u2 9), .int (gI u2 10), .int (gI u2 11), .int (gI u2 12), .int (gI u2 13), .int (gI u2 14), .long (gL u2 15), .int (gI u2 16), .int (gI u2 17), .int (gI u2 18), .int (gI u2 19), .int (gI u2 20), .int (gI u2 21), .int (gI u2 22), .int (gI u2 23), .int (gI u2 24), .int (gI u2 25), .int (gI u2 26), .int (gI u2 27), .ref (q0 28), .long (gL u2 29), .int (gI u2 30), .ref (q0 31), .ref (q0 32), .ref (q0 33), .int (gI u2 34), .int (gI u2 35), .int (gI u2 36), .int (gI u2 37), .ref (q0 38), .ref (q0 39), .int (gI u2 40), .ref (q0 41), .ref (q0 42), .ref (q0 43), .ref (q0 44)])), kI G (q0 1) 6100 (gA u2 1), kI G (q0 2) 6100 (gA u2 2), kJ G (q0 3) 2016 (gB u2 3), kJ G (q0 4) 2016 (gB u2 4), kI G (q0 5) 300 (gA u2 5), kI G (q0 6) 400 (gA u2 6), kJ G (q0 28) 10 (gB u2 28), kI G (q0 31) 969 (gA u2 31), kI G (q0 32) 969 (gA u2 32), kI G (q0 33) 969 (gA u2 33), kI G (q0 38) 5 (gA u2 38), kI G (q0 39) 5120 (gA u2 39), kI G (q0 41) 5 (gA u2 41), kZ G (q0 42) 1024 (gA u2 42), kI G (q0 43) 8192 (gA u2 43), kI G (q0 44) 8192 (gA u2 44)] := hD
    refine lv_aload_n hx hb d_Md_feed_20 rfl (lv_at hl 0 rfl) ?_
    refine lv_iload_n hx hb d_Md_feed_21 rfl (lv_at hl 2 rfl) ?_
    refine cl_Vv (b := b_Md_feed) (As := [.int a1]) (rest := []) (ws := [(h0, .inr (11, [.int (gI u2 0), .ref (q0 1), .ref (q0 2), .ref (q0 3), .ref (q0 4), .ref (q0 5), .ref (q0 6), .int (gI u2 7), .int (gI u2 8), .int (gI u2 9), .int (gI u2 10), .int (gI u2 11), .int (gI u2 12), .int (gI u2 13), .int (gI u2 14), .long (gL u2 15), .int (gI u2 16), .int (gI u2 17), .int (gI u2 18), .int (gI u2 19), .int (gI u2 20), .int (gI u2 21), .int (gI u2 22), .int (gI u2 23), .int (gI u2 24), .int (gI u2 25), .int (gI u2 26), .int (gI u2 27), .ref (q0 28), .long (gL u2 29), .int (gI u2 30), .ref (q0 31), .ref (q0 32), .ref (q0 33), .int (gI u2 34), .int (gI u2 35), .int (gI u2 36), .int (gI u2 37), .ref (q0 38), .ref (q0 39), .int (gI u2 40), .ref (q0 41), .ref (q0 42), .ref (q0 43), .ref (q0 44)])), kI G (q0 1) 6100 (gA u2 1), kI G (q0 2) 6100 (gA u2 2), kJ G (q0 3) 2016 (gB u2 3), kJ G (q0 4) 2016 (gB u2 4), kI G (q0 5) 300 (gA u2 5), kI G (q0 6) 400 (gA u2 6), kJ G (q0 28) 10 (gB u2 28), kI G (q0 31) 969 (gA u2 31), kI G (q0 32) 969 (gA u2 32), kI G (q0 33) 969 (gA u2 33), kI G (q0 38) 5 (gA u2 38), kI G (q0 39) 5120 (gA u2 39), kI G (q0 41) 5 (gA u2 41), kZ G (q0 42) 1024 (gA u2 42), kI G (q0 43) 8192 (gA u2 43), kI G (q0 44) 8192 (gA u2 44)]) (wr := []) (w2 := fun (u : Ob) => [(h0, .inr (11, [.int (gI u 0), .ref (q0 1), .ref (q0 2), .ref (q0 3), .ref (q0 4), .ref (q0 5), .ref (q0 6), .int (gI u 7), .int (gI u 8), .int (gI u 9), .int (gI u 10), .int (gI u 11), .int (gI u 12), .int (gI u 13), .int (gI u 14), .long (gL u 15), .int (gI u 16), .int (gI u 17), .int (gI u 18), .int (gI u 19), .int (gI u 20), .int (gI u 21), .int (gI u 22), .int (gI u 23), .int (gI u 24), .int (gI u 25), .int (gI u 26), .int (gI u 27), .ref (q0 28), .long (gL u 29), .int (gI u 30), .ref (q0 31), .ref (q0 32), .ref (q0 33), .int (gI u 34), .int (gI u 35), .int (gI u 36), .int (gI u 37), .ref (q0 38), .ref (q0 39), .int (gI u 40), .ref (q0 41), .ref (q0 42), .ref (q0 43), .ref (q0 44)])), kI G (q0 1) 6100 (gA u 1), kI G (q0 2) 6100 (gA u 2), kJ G (q0 3) 2016 (gB u 3), kJ G (q0 4) 2016 (gB u 4), kI G (q0 5) 300 (gA u 5), kI G (q0 6) 400 (gA u 6), kJ G (q0 28) 10 (gB u 28), kI G (q0 31) 969 (gA u 31), kI G (q0 32) 969 (gA u 32), kI G (q0 33) 969 (gA u 33), kI G (q0 38) 5 (gA u 38), kI G (q0 39) 5120 (gA u 39), kI G (q0 41) 5 (gA u 41), kZ G (q0 42) 1024 (gA u 42), kI G (q0 43) 8192 (gA u 43), kI G (q0 44) 8192 (gA u 44)]) C (c_Md_four (h0 := h0) (q0 := q0) H.size h) wv_Md_83 ⟨Nat.le_of_ble_eq_true rfl, Nat.le_of_ble_eq_true rfl⟩ hP hD hS 0 rfl rfl [0, 1, 2, 3, 4, 5, 6, 7, 8, 9, 10, 11, 12, 13, 14, 15, 16] [] rfl rfl (by decide) (by decide) (by decide) [0, 1, 2, 3, 4, 5, 6, 7, 8, 9, 10, 11, 12, 13, 14, 15, 16] (by decide) (fun u => rfl) rfl hl.1 rfl (lv_room (Nat.le_of_ble_eq_true rfl)) d_Md_feed_22 ⟨Nat.le_of_ble_eq_true rfl, Nat.le_of_ble_eq_true rfl⟩ rfl rfl (fun u H locs h hP hD hS => ?_)
    generalize u = u3 at h hP hD
    have hP : va_P G.1 CL [(h0, .inr (11, [.int (gI u3 0), .ref (q0 1), .ref (q0 2), .ref (q0 3), .ref (q0 4), .ref (q0 5), .ref (q0 6), .int (gI u3 7), .int (gI u3 8), .int (gI u3 9), .int (gI u3 10), .int (gI u3 11), .int (gI u3 12), .int (gI u3 13), .int (gI u3 14), .long (gL u3 15), .int (gI u3 16), .int (gI u3 17), .int (gI u3 18), .int (gI u3 19), .int (gI u3 20), .int (gI u3 21), .int (gI u3 22), .int (gI u3 23), .int (gI u3 24), .int (gI u3 25), .int (gI u3 26), .int (gI u3 27), .ref (q0 28), .long (gL u3 29), .int (gI u3 30), .ref (q0 31), .ref (q0 32), .ref (q0 33), .int (gI u3 34), .int (gI u3 35), .int (gI u3 36), .int (gI u3 37), .ref (q0 38), .ref (q0 39), .int (gI u3 40), .ref (q0 41), .ref (q0 42), .ref (q0 43), .ref (q0 44)])), kI G (q0 1) 6100 (gA u3 1), kI G (q0 2) 6100 (gA u3 2), kJ G (q0 3) 2016 (gB u3 3), kJ G (q0 4) 2016 (gB u3 4), kI G (q0 5) 300 (gA u3 5), kI G (q0 6) 400 (gA u3 6), kJ G (q0 28) 10 (gB u3 28), kI G (q0 31) 969 (gA u3 31), kI G (q0 32) 969 (gA u3 32), kI G (q0 33) 969 (gA u3 33), kI G (q0 38) 5 (gA u3 38), kI G (q0 39) 5120 (gA u3 39), kI G (q0 41) 5 (gA u3 41), kZ G (q0 42) 1024 (gA u3 42), kI G (q0 43) 8192 (gA u3 43), kI G (q0 44) 8192 (gA u3 44)] H := hP
    have hD : va_D A [(h0, .inr (11, [.int (gI u3 0), .ref (q0 1), .ref (q0 2), .ref (q0 3), .ref (q0 4), .ref (q0 5), .ref (q0 6), .int (gI u3 7), .int (gI u3 8), .int (gI u3 9), .int (gI u3 10), .int (gI u3 11), .int (gI u3 12), .int (gI u3 13), .int (gI u3 14), .long (gL u3 15), .int (gI u3 16), .int (gI u3 17), .int (gI u3 18), .int (gI u3 19), .int (gI u3 20), .int (gI u3 21), .int (gI u3 22), .int (gI u3 23), .int (gI u3 24), .int (gI u3 25), .int (gI u3 26), .int (gI u3 27), .ref (q0 28), .long (gL u3 29), .int (gI u3 30), .ref (q0 31), .ref (q0 32), .ref (q0 33), .int (gI u3 34), .int (gI u3 35), .int (gI u3 36), .int (gI u3 37), .ref (q0 38), .ref (q0 39), .int (gI u3 40), .ref (q0 41), .ref (q0 42), .ref (q0 43), .ref (q0 44)])), kI G (q0 1) 6100 (gA u3 1), kI G (q0 2) 6100 (gA u3 2), kJ G (q0 3) 2016 (gB u3 3), kJ G (q0 4) 2016 (gB u3 4), kI G (q0 5) 300 (gA u3 5), kI G (q0 6) 400 (gA u3 6), kJ G (q0 28) 10 (gB u3 28), kI G (q0 31) 969 (gA u3 31), kI G (q0 32) 969 (gA u3 32), kI G (q0 33) 969 (gA u3 33), kI G (q0 38) 5 (gA u3 38), kI G (q0 39) 5120 (gA u3 39), kI G (q0 41) 5 (gA u3 41), kZ G (q0 42) 1024 (gA u3 42), kI G (q0 43) 8192 (gA u3 43), kI G (q0 44) 8192 (gA u3 44)] := hD
    refine lv_aload_n hx hb d_Md_feed_25 rfl (lv_at hl 0 rfl) ?_
    refine lv_iload_n hx hb d_Md_feed_26 rfl (lv_at hl 3 rfl) ?_
    refine cl_Vv (b := b_Md_feed) (As := [.int a2]) (rest := []) (ws := [(h0, .inr (11, [.int (gI u3 0), .ref (q0 1), .ref (q0 2), .ref (q0 3), .ref (q0 4), .ref (q0 5), .ref (q0 6), .int (gI u3 7), .int (gI u3 8), .int (gI u3 9), .int (gI u3 10), .int (gI u3 11), .int (gI u3 12), .int (gI u3 13), .int (gI u3 14), .long (gL u3 15), .int (gI u3 16), .int (gI u3 17), .int (gI u3 18), .int (gI u3 19), .int (gI u3 20), .int (gI u3 21), .int (gI u3 22), .int (gI u3 23), .int (gI u3 24), .int (gI u3 25), .int (gI u3 26), .int (gI u3 27), .ref (q0 28), .long (gL u3 29), .int (gI u3 30), .ref (q0 31), .ref (q0 32), .ref (q0 33), .int (gI u3 34), .int (gI u3 35), .int (gI u3 36), .int (gI u3 37), .ref (q0 38), .ref (q0 39), .int (gI u3 40), .ref (q0 41), .ref (q0 42), .ref (q0 43), .ref (q0 44)])), kI G (q0 1) 6100 (gA u3 1), kI G (q0 2) 6100 (gA u3 2), kJ G (q0 3) 2016 (gB u3 3), kJ G (q0 4) 2016 (gB u3 4), kI G (q0 5) 300 (gA u3 5), kI G (q0 6) 400 (gA u3 6), kJ G (q0 28) 10 (gB u3 28), kI G (q0 31) 969 (gA u3 31), kI G (q0 32) 969 (gA u3 32), kI G (q0 33) 969 (gA u3 33), kI G (q0 38) 5 (gA u3 38), kI G (q0 39) 5120 (gA u3 39), kI G (q0 41) 5 (gA u3 41), kZ G (q0 42) 1024 (gA u3 42), kI G (q0 43) 8192 (gA u3 43), kI G (q0 44) 8192 (gA u3 44)]) (wr := []) (w2 := fun (u : Ob) => [(h0, .inr (11, [.int (gI u 0), .ref (q0 1), .ref (q0 2), .ref (q0 3), .ref (q0 4), .ref (q0 5), .ref (q0 6), .int (gI u 7), .int (gI u 8), .int (gI u 9), .int (gI u 10), .int (gI u 11), .int (gI u 12), .int (gI u 13), .int (gI u 14), .long (gL u 15), .int (gI u 16), .int (gI u 17), .int (gI u 18), .int (gI u 19), .int (gI u 20), .int (gI u 21), .int (gI u 22), .int (gI u 23), .int (gI u 24), .int (gI u 25), .int (gI u 26), .int (gI u 27), .ref (q0 28), .long (gL u 29), .int (gI u 30), .ref (q0 31), .ref (q0 32), .ref (q0 33), .int (gI u 34), .int (gI u 35), .int (gI u 36), .int (gI u 37), .ref (q0 38), .ref (q0 39), .int (gI u 40), .ref (q0 41), .ref (q0 42), .ref (q0 43), .ref (q0 44)])), kI G (q0 1) 6100 (gA u 1), kI G (q0 2) 6100 (gA u 2), kJ G (q0 3) 2016 (gB u 3), kJ G (q0 4) 2016 (gB u 4), kI G (q0 5) 300 (gA u 5), kI G (q0 6) 400 (gA u 6), kJ G (q0 28) 10 (gB u 28), kI G (q0 31) 969 (gA u 31), kI G (q0 32) 969 (gA u 32), kI G (q0 33) 969 (gA u 33), kI G (q0 38) 5 (gA u 38), kI G (q0 39) 5120 (gA u 39), kI G (q0 41) 5 (gA u 41), kZ G (q0 42) 1024 (gA u 42), kI G (q0 43) 8192 (gA u 43), kI G (q0 44) 8192 (gA u 44)]) C (c_Md_four (h0 := h0) (q0 := q0) H.size h) wv_Md_83 ⟨Nat.le_of_ble_eq_true rfl, Nat.le_of_ble_eq_true rfl⟩ hP hD hS 0 rfl rfl [0, 1, 2, 3, 4, 5, 6, 7, 8, 9, 10, 11, 12, 13, 14, 15, 16] [] rfl rfl (by decide) (by decide) (by decide) [0, 1, 2, 3, 4, 5, 6, 7, 8, 9, 10, 11, 12, 13, 14, 15, 16] (by decide) (fun u => rfl) rfl hl.1 rfl (lv_room (Nat.le_of_ble_eq_true rfl)) d_Md_feed_27 ⟨Nat.le_of_ble_eq_true rfl, Nat.le_of_ble_eq_true rfl⟩ rfl rfl (fun u H locs h hP hD hS => ?_)
    generalize u = u4 at h hP hD
    have hP : va_P G.1 CL [(h0, .inr (11, [.int (gI u4 0), .ref (q0 1), .ref (q0 2), .ref (q0 3), .ref (q0 4), .ref (q0 5), .ref (q0 6), .int (gI u4 7), .int (gI u4 8), .int (gI u4 9), .int (gI u4 10), .int (gI u4 11), .int (gI u4 12), .int (gI u4 13), .int (gI u4 14), .long (gL u4 15), .int (gI u4 16), .int (gI u4 17), .int (gI u4 18), .int (gI u4 19), .int (gI u4 20), .int (gI u4 21), .int (gI u4 22), .int (gI u4 23), .int (gI u4 24), .int (gI u4 25), .int (gI u4 26), .int (gI u4 27), .ref (q0 28), .long (gL u4 29), .int (gI u4 30), .ref (q0 31), .ref (q0 32), .ref (q0 33), .int (gI u4 34), .int (gI u4 35), .int (gI u4 36), .int (gI u4 37), .ref (q0 38), .ref (q0 39), .int (gI u4 40), .ref (q0 41), .ref (q0 42), .ref (q0 43), .ref (q0 44)])), kI G (q0 1) 6100 (gA u4 1), kI G (q0 2) 6100 (gA u4 2), kJ G (q0 3) 2016 (gB u4 3), kJ G (q0 4) 2016 (gB u4 4), kI G (q0 5) 300 (gA u4 5), kI G (q0 6) 400 (gA u4 6), kJ G (q0 28) 10 (gB u4 28), kI G (q0 31) 969 (gA u4 31), kI G (q0 32) 969 (gA u4 32), kI G (q0 33) 969 (gA u4 33), kI G (q0 38) 5 (gA u4 38), kI G (q0 39) 5120 (gA u4 39), kI G (q0 41) 5 (gA u4 41), kZ G (q0 42) 1024 (gA u4 42), kI G (q0 43) 8192 (gA u4 43), kI G (q0 44) 8192 (gA u4 44)] H := hP
    have hD : va_D A [(h0, .inr (11, [.int (gI u4 0), .ref (q0 1), .ref (q0 2), .ref (q0 3), .ref (q0 4), .ref (q0 5), .ref (q0 6), .int (gI u4 7), .int (gI u4 8), .int (gI u4 9), .int (gI u4 10), .int (gI u4 11), .int (gI u4 12), .int (gI u4 13), .int (gI u4 14), .long (gL u4 15), .int (gI u4 16), .int (gI u4 17), .int (gI u4 18), .int (gI u4 19), .int (gI u4 20), .int (gI u4 21), .int (gI u4 22), .int (gI u4 23), .int (gI u4 24), .int (gI u4 25), .int (gI u4 26), .int (gI u4 27), .ref (q0 28), .long (gL u4 29), .int (gI u4 30), .ref (q0 31), .ref (q0 32), .ref (q0 33), .int (gI u4 34), .int (gI u4 35), .int (gI u4 36), .int (gI u4 37), .ref (q0 38), .ref (q0 39), .int (gI u4 40), .ref (q0 41), .ref (q0 42), .ref (q0 43), .ref (q0 44)])), kI G (q0 1) 6100 (gA u4 1), kI G (q0 2) 6100 (gA u4 2), kJ G (q0 3) 2016 (gB u4 3), kJ G (q0 4) 2016 (gB u4 4), kI G (q0 5) 300 (gA u4 5), kI G (q0 6) 400 (gA u4 6), kJ G (q0 28) 10 (gB u4 28), kI G (q0 31) 969 (gA u4 31), kI G (q0 32) 969 (gA u4 32), kI G (q0 33) 969 (gA u4 33), kI G (q0 38) 5 (gA u4 38), kI G (q0 39) 5120 (gA u4 39), kI G (q0 41) 5 (gA u4 41), kZ G (q0 42) 1024 (gA u4 42), kI G (q0 43) 8192 (gA u4 43), kI G (q0 44) 8192 (gA u4 44)] := hD
    refine lv_aload_n hx hb d_Md_feed_30 rfl (lv_at hl 0 rfl) ?_
    refine lv_iload hx hb d_Md_feed_31 (lv_at hl 4 rfl) ?_
    refine cl_Vv (b := b_Md_feed) (As := [.int a3]) (rest := []) (ws := [(h0, .inr (11, [.int (gI u4 0), .ref (q0 1), .ref (q0 2), .ref (q0 3), .ref (q0 4), .ref (q0 5), .ref (q0 6), .int (gI u4 7), .int (gI u4 8), .int (gI u4 9), .int (gI u4 10), .int (gI u4 11), .int (gI u4 12), .int (gI u4 13), .int (gI u4 14), .long (gL u4 15), .int (gI u4 16), .int (gI u4 17), .int (gI u4 18), .int (gI u4 19), .int (gI u4 20), .int (gI u4 21), .int (gI u4 22), .int (gI u4 23), .int (gI u4 24), .int (gI u4 25), .int (gI u4 26), .int (gI u4 27), .ref (q0 28), .long (gL u4 29), .int (gI u4 30), .ref (q0 31), .ref (q0 32), .ref (q0 33), .int (gI u4 34), .int (gI u4 35), .int (gI u4 36), .int (gI u4 37), .ref (q0 38), .ref (q0 39), .int (gI u4 40), .ref (q0 41), .ref (q0 42), .ref (q0 43), .ref (q0 44)])), kI G (q0 1) 6100 (gA u4 1), kI G (q0 2) 6100 (gA u4 2), kJ G (q0 3) 2016 (gB u4 3), kJ G (q0 4) 2016 (gB u4 4), kI G (q0 5) 300 (gA u4 5), kI G (q0 6) 400 (gA u4 6), kJ G (q0 28) 10 (gB u4 28), kI G (q0 31) 969 (gA u4 31), kI G (q0 32) 969 (gA u4 32), kI G (q0 33) 969 (gA u4 33), kI G (q0 38) 5 (gA u4 38), kI G (q0 39) 5120 (gA u4 39), kI G (q0 41) 5 (gA u4 41), kZ G (q0 42) 1024 (gA u4 42), kI G (q0 43) 8192 (gA u4 43), kI G (q0 44) 8192 (gA u4 44)]) (wr := []) (w2 := fun (u : Ob) => [(h0, .inr (11, [.int (gI u 0), .ref (q0 1), .ref (q0 2), .ref (q0 3), .ref (q0 4), .ref (q0 5), .ref (q0 6), .int (gI u 7), .int (gI u 8), .int (gI u 9), .int (gI u 10), .int (gI u 11), .int (gI u 12), .int (gI u 13), .int (gI u 14), .long (gL u 15), .int (gI u 16), .int (gI u 17), .int (gI u 18), .int (gI u 19), .int (gI u 20), .int (gI u 21), .int (gI u 22), .int (gI u 23), .int (gI u 24), .int (gI u 25), .int (gI u 26), .int (gI u 27), .ref (q0 28), .long (gL u 29), .int (gI u 30), .ref (q0 31), .ref (q0 32), .ref (q0 33), .int (gI u 34), .int (gI u 35), .int (gI u 36), .int (gI u 37), .ref (q0 38), .ref (q0 39), .int (gI u 40), .ref (q0 41), .ref (q0 42), .ref (q0 43), .ref (q0 44)])), kI G (q0 1) 6100 (gA u 1), kI G (q0 2) 6100 (gA u 2), kJ G (q0 3) 2016 (gB u 3), kJ G (q0 4) 2016 (gB u 4), kI G (q0 5) 300 (gA u 5), kI G (q0 6) 400 (gA u 6), kJ G (q0 28) 10 (gB u 28), kI G (q0 31) 969 (gA u 31), kI G (q0 32) 969 (gA u 32), kI G (q0 33) 969 (gA u 33), kI G (q0 38) 5 (gA u 38), kI G (q0 39) 5120 (gA u 39), kI G (q0 41) 5 (gA u 41), kZ G (q0 42) 1024 (gA u 42), kI G (q0 43) 8192 (gA u 43), kI G (q0 44) 8192 (gA u 44)]) C (c_Md_four (h0 := h0) (q0 := q0) H.size h) wv_Md_83 ⟨Nat.le_of_ble_eq_true rfl, Nat.le_of_ble_eq_true rfl⟩ hP hD hS 0 rfl rfl [0, 1, 2, 3, 4, 5, 6, 7, 8, 9, 10, 11, 12, 13, 14, 15, 16] [] rfl rfl (by decide) (by decide) (by decide) [0, 1, 2, 3, 4, 5, 6, 7, 8, 9, 10, 11, 12, 13, 14, 15, 16] (by decide) (fun u => rfl) rfl hl.1 rfl (lv_room (Nat.le_of_ble_eq_true rfl)) d_Md_feed_33 ⟨Nat.le_of_ble_eq_true rfl, Nat.le_of_ble_eq_true rfl⟩ rfl rfl (fun u H locs h hP hD hS => ?_)
    generalize u = u5 at h hP hD
    have hP : va_P G.1 CL [(h0, .inr (11, [.int (gI u5 0), .ref (q0 1), .ref (q0 2), .ref (q0 3), .ref (q0 4), .ref (q0 5), .ref (q0 6), .int (gI u5 7), .int (gI u5 8), .int (gI u5 9), .int (gI u5 10), .int (gI u5 11), .int (gI u5 12), .int (gI u5 13), .int (gI u5 14), .long (gL u5 15), .int (gI u5 16), .int (gI u5 17), .int (gI u5 18), .int (gI u5 19), .int (gI u5 20), .int (gI u5 21), .int (gI u5 22), .int (gI u5 23), .int (gI u5 24), .int (gI u5 25), .int (gI u5 26), .int (gI u5 27), .ref (q0 28), .long (gL u5 29), .int (gI u5 30), .ref (q0 31), .ref (q0 32), .ref (q0 33), .int (gI u5 34), .int (gI u5 35), .int (gI u5 36), .int (gI u5 37), .ref (q0 38), .ref (q0 39), .int (gI u5 40), .ref (q0 41), .ref (q0 42), .ref (q0 43), .ref (q0 44)])), kI G (q0 1) 6100 (gA u5 1), kI G (q0 2) 6100 (gA u5 2), kJ G (q0 3) 2016 (gB u5 3), kJ G (q0 4) 2016 (gB u5 4), kI G (q0 5) 300 (gA u5 5), kI G (q0 6) 400 (gA u5 6), kJ G (q0 28) 10 (gB u5 28), kI G (q0 31) 969 (gA u5 31), kI G (q0 32) 969 (gA u5 32), kI G (q0 33) 969 (gA u5 33), kI G (q0 38) 5 (gA u5 38), kI G (q0 39) 5120 (gA u5 39), kI G (q0 41) 5 (gA u5 41), kZ G (q0 42) 1024 (gA u5 42), kI G (q0 43) 8192 (gA u5 43), kI G (q0 44) 8192 (gA u5 44)] H := hP
    have hD : va_D A [(h0, .inr (11, [.int (gI u5 0), .ref (q0 1), .ref (q0 2), .ref (q0 3), .ref (q0 4), .ref (q0 5), .ref (q0 6), .int (gI u5 7), .int (gI u5 8), .int (gI u5 9), .int (gI u5 10), .int (gI u5 11), .int (gI u5 12), .int (gI u5 13), .int (gI u5 14), .long (gL u5 15), .int (gI u5 16), .int (gI u5 17), .int (gI u5 18), .int (gI u5 19), .int (gI u5 20), .int (gI u5 21), .int (gI u5 22), .int (gI u5 23), .int (gI u5 24), .int (gI u5 25), .int (gI u5 26), .int (gI u5 27), .ref (q0 28), .long (gL u5 29), .int (gI u5 30), .ref (q0 31), .ref (q0 32), .ref (q0 33), .int (gI u5 34), .int (gI u5 35), .int (gI u5 36), .int (gI u5 37), .ref (q0 38), .ref (q0 39), .int (gI u5 40), .ref (q0 41), .ref (q0 42), .ref (q0 43), .ref (q0 44)])), kI G (q0 1) 6100 (gA u5 1), kI G (q0 2) 6100 (gA u5 2), kJ G (q0 3) 2016 (gB u5 3), kJ G (q0 4) 2016 (gB u5 4), kI G (q0 5) 300 (gA u5 5), kI G (q0 6) 400 (gA u5 6), kJ G (q0 28) 10 (gB u5 28), kI G (q0 31) 969 (gA u5 31), kI G (q0 32) 969 (gA u5 32), kI G (q0 33) 969 (gA u5 33), kI G (q0 38) 5 (gA u5 38), kI G (q0 39) 5120 (gA u5 39), kI G (q0 41) 5 (gA u5 41), kZ G (q0 42) 1024 (gA u5 42), kI G (q0 43) 8192 (gA u5 43), kI G (q0 44) 8192 (gA u5 44)] := hD
    refine lv_aload_n hx hb d_Md_feed_36 rfl (lv_at hl 0 rfl) ?_
    refine lv_iload hx hb d_Md_feed_37 (lv_at hl 5 rfl) ?_
    refine cl_Vv (b := b_Md_feed) (As := [.int a4]) (rest := []) (ws := [(h0, .inr (11, [.int (gI u5 0), .ref (q0 1), .ref (q0 2), .ref (q0 3), .ref (q0 4), .ref (q0 5), .ref (q0 6), .int (gI u5 7), .int (gI u5 8), .int (gI u5 9), .int (gI u5 10), .int (gI u5 11), .int (gI u5 12), .int (gI u5 13), .int (gI u5 14), .long (gL u5 15), .int (gI u5 16), .int (gI u5 17), .int (gI u5 18), .int (gI u5 19), .int (gI u5 20), .int (gI u5 21), .int (gI u5 22), .int (gI u5 23), .int (gI u5 24), .int (gI u5 25), .int (gI u5 26), .int (gI u5 27), .ref (q0 28), .long (gL u5 29), .int (gI u5 30), .ref (q0 31), .ref (q0 32), .ref (q0 33), .int (gI u5 34), .int (gI u5 35), .int (gI u5 36), .int (gI u5 37), .ref (q0 38), .ref (q0 39), .int (gI u5 40), .ref (q0 41), .ref (q0 42), .ref (q0 43), .ref (q0 44)])), kI G (q0 1) 6100 (gA u5 1), kI G (q0 2) 6100 (gA u5 2), kJ G (q0 3) 2016 (gB u5 3), kJ G (q0 4) 2016 (gB u5 4), kI G (q0 5) 300 (gA u5 5), kI G (q0 6) 400 (gA u5 6), kJ G (q0 28) 10 (gB u5 28), kI G (q0 31) 969 (gA u5 31), kI G (q0 32) 969 (gA u5 32), kI G (q0 33) 969 (gA u5 33), kI G (q0 38) 5 (gA u5 38), kI G (q0 39) 5120 (gA u5 39), kI G (q0 41) 5 (gA u5 41), kZ G (q0 42) 1024 (gA u5 42), kI G (q0 43) 8192 (gA u5 43), kI G (q0 44) 8192 (gA u5 44)]) (wr := []) (w2 := fun (u : Ob) => [(h0, .inr (11, [.int (gI u 0), .ref (q0 1), .ref (q0 2), .ref (q0 3), .ref (q0 4), .ref (q0 5), .ref (q0 6), .int (gI u 7), .int (gI u 8), .int (gI u 9), .int (gI u 10), .int (gI u 11), .int (gI u 12), .int (gI u 13), .int (gI u 14), .long (gL u 15), .int (gI u 16), .int (gI u 17), .int (gI u 18), .int (gI u 19), .int (gI u 20), .int (gI u 21), .int (gI u 22), .int (gI u 23), .int (gI u 24), .int (gI u 25), .int (gI u 26), .int (gI u 27), .ref (q0 28), .long (gL u 29), .int (gI u 30), .ref (q0 31), .ref (q0 32), .ref (q0 33), .int (gI u 34), .int (gI u 35), .int (gI u 36), .int (gI u 37), .ref (q0 38), .ref (q0 39), .int (gI u 40), .ref (q0 41), .ref (q0 42), .ref (q0 43), .ref (q0 44)])), kI G (q0 1) 6100 (gA u 1), kI G (q0 2) 6100 (gA u 2), kJ G (q0 3) 2016 (gB u 3), kJ G (q0 4) 2016 (gB u 4), kI G (q0 5) 300 (gA u 5), kI G (q0 6) 400 (gA u 6), kJ G (q0 28) 10 (gB u 28), kI G (q0 31) 969 (gA u 31), kI G (q0 32) 969 (gA u 32), kI G (q0 33) 969 (gA u 33), kI G (q0 38) 5 (gA u 38), kI G (q0 39) 5120 (gA u 39), kI G (q0 41) 5 (gA u 41), kZ G (q0 42) 1024 (gA u 42), kI G (q0 43) 8192 (gA u 43), kI G (q0 44) 8192 (gA u 44)]) C (c_Md_four (h0 := h0) (q0 := q0) H.size h) wv_Md_83 ⟨Nat.le_of_ble_eq_true rfl, Nat.le_of_ble_eq_true rfl⟩ hP hD hS 0 rfl rfl [0, 1, 2, 3, 4, 5, 6, 7, 8, 9, 10, 11, 12, 13, 14, 15, 16] [] rfl rfl (by decide) (by decide) (by decide) [0, 1, 2, 3, 4, 5, 6, 7, 8, 9, 10, 11, 12, 13, 14, 15, 16] (by decide) (fun u => rfl) rfl hl.1 rfl (lv_room (Nat.le_of_ble_eq_true rfl)) d_Md_feed_39 ⟨Nat.le_of_ble_eq_true rfl, Nat.le_of_ble_eq_true rfl⟩ rfl rfl (fun u H locs h hP hD hS => ?_)
    generalize u = u6 at h hP hD
    have hP : va_P G.1 CL [(h0, .inr (11, [.int (gI u6 0), .ref (q0 1), .ref (q0 2), .ref (q0 3), .ref (q0 4), .ref (q0 5), .ref (q0 6), .int (gI u6 7), .int (gI u6 8), .int (gI u6 9), .int (gI u6 10), .int (gI u6 11), .int (gI u6 12), .int (gI u6 13), .int (gI u6 14), .long (gL u6 15), .int (gI u6 16), .int (gI u6 17), .int (gI u6 18), .int (gI u6 19), .int (gI u6 20), .int (gI u6 21), .int (gI u6 22), .int (gI u6 23), .int (gI u6 24), .int (gI u6 25), .int (gI u6 26), .int (gI u6 27), .ref (q0 28), .long (gL u6 29), .int (gI u6 30), .ref (q0 31), .ref (q0 32), .ref (q0 33), .int (gI u6 34), .int (gI u6 35), .int (gI u6 36), .int (gI u6 37), .ref (q0 38), .ref (q0 39), .int (gI u6 40), .ref (q0 41), .ref (q0 42), .ref (q0 43), .ref (q0 44)])), kI G (q0 1) 6100 (gA u6 1), kI G (q0 2) 6100 (gA u6 2), kJ G (q0 3) 2016 (gB u6 3), kJ G (q0 4) 2016 (gB u6 4), kI G (q0 5) 300 (gA u6 5), kI G (q0 6) 400 (gA u6 6), kJ G (q0 28) 10 (gB u6 28), kI G (q0 31) 969 (gA u6 31), kI G (q0 32) 969 (gA u6 32), kI G (q0 33) 969 (gA u6 33), kI G (q0 38) 5 (gA u6 38), kI G (q0 39) 5120 (gA u6 39), kI G (q0 41) 5 (gA u6 41), kZ G (q0 42) 1024 (gA u6 42), kI G (q0 43) 8192 (gA u6 43), kI G (q0 44) 8192 (gA u6 44)] H := hP
    have hD : va_D A [(h0, .inr (11, [.int (gI u6 0), .ref (q0 1), .ref (q0 2), .ref (q0 3), .ref (q0 4), .ref (q0 5), .ref (q0 6), .int (gI u6 7), .int (gI u6 8), .int (gI u6 9), .int (gI u6 10), .int (gI u6 11), .int (gI u6 12), .int (gI u6 13), .int (gI u6 14), .long (gL u6 15), .int (gI u6 16), .int (gI u6 17), .int (gI u6 18), .int (gI u6 19), .int (gI u6 20), .int (gI u6 21), .int (gI u6 22), .int (gI u6 23), .int (gI u6 24), .int (gI u6 25), .int (gI u6 26), .int (gI u6 27), .ref (q0 28), .long (gL u6 29), .int (gI u6 30), .ref (q0 31), .ref (q0 32), .ref (q0 33), .int (gI u6 34), .int (gI u6 35), .int (gI u6 36), .int (gI u6 37), .ref (q0 38), .ref (q0 39), .int (gI u6 40), .ref (q0 41), .ref (q0 42), .ref (q0 43), .ref (q0 44)])), kI G (q0 1) 6100 (gA u6 1), kI G (q0 2) 6100 (gA u6 2), kJ G (q0 3) 2016 (gB u6 3), kJ G (q0 4) 2016 (gB u6 4), kI G (q0 5) 300 (gA u6 5), kI G (q0 6) 400 (gA u6 6), kJ G (q0 28) 10 (gB u6 28), kI G (q0 31) 969 (gA u6 31), kI G (q0 32) 969 (gA u6 32), kI G (q0 33) 969 (gA u6 33), kI G (q0 38) 5 (gA u6 38), kI G (q0 39) 5120 (gA u6 39), kI G (q0 41) 5 (gA u6 41), kZ G (q0 42) 1024 (gA u6 42), kI G (q0 43) 8192 (gA u6 43), kI G (q0 44) 8192 (gA u6 44)] := hD
    refine lv_aload_n hx hb d_Md_feed_42 rfl (lv_at hl 0 rfl) ?_
    refine va_get (D := G.1) (ci := 11) (v := .int (gI u6 7)) (C := R_Md) (T := T_Md) (N := 45) hx hb hts i_Md hown hK hP 0 rfl rfl 7 (by decide) (hts _ wf_Md_80) (fun _ h9 => h9) rfl d_Md_feed_43 ?_
    have hP : va_P G.1 CL (cw_Md G h0 q0 u6) H := hP
    have hD : va_D A (cw_Md G h0 q0 u6) := hD
    exact W.iret (v := (gI u6 7)) hx hb hr (fun t ht hW => ⟨⟨(gI u6 7), u6, rfl, h, by rw [ht]; exact hP, va_K.moved hW.alike hK, hD⟩, hS.F ht⟩) hS.2.2 d_Md_feed_46
  · have h := h.2 c1
    refine lv_iconst (v := (-1 : Int32)) hx hb d_Md_feed_13 (by decide) ?_
    have hP : va_P G.1 CL (cw_Md G h0 q0 o0) H := hP
    have hD : va_D A (cw_Md G h0 q0 o0) := hD
    exact W.iret (v := (-1 : Int32)) hx hb hr (fun t ht hW => ⟨⟨(-1 : Int32), o0, rfl, h, by rw [ht]; exact hP, va_K.moved hW.alike hK, hD⟩, hS.F ht⟩) hS.2.2 d_Md_feed_14
abbrev b_Md_end : ByteArray := prog_14_method_8_code
def y_Md_end : MethodName := ⟨R_Md, "end", "(I)I"⟩
abbrev w_Md_end : List Cond := Cond.code y_Md_end b_Md_end 2 (some .int) :: gw_tbl
theorem d_Md_end_0 : decode b_Md_end 0 = .ok (.iload_n 1, 1) := by decide +kernel
theorem d_Md_end_1 : decode b_Md_end 1 = .ok (.iconst 0, 1) := by decide +kernel
theorem d_Md_end_2 : decode b_Md_end 2 = .ok (.aload_n 0, 1) := by decide +kernel
theorem d_Md_end_3 : decode b_Md_end 3 = .ok (.getfield 80, 3) := by decide +kernel
theorem d_Md_end_6 : decode b_Md_end 6 = .ok (.invokestatic 76, 3) := by decide +kernel
theorem d_Md_end_9 : decode b_Md_end 9 = .ok (.ifCond .ne 5, 3) := by decide +kernel
theorem d_Md_end_12 : decode b_Md_end 12 = .ok (.iconst (-1), 1) := by decide +kernel
theorem d_Md_end_13 : decode b_Md_end 13 = .ok (.ireturn, 1) := by decide +kernel
theorem d_Md_end_14 : decode b_Md_end 14 = .ok (.aload_n 0, 1) := by decide +kernel
theorem d_Md_end_15 : decode b_Md_end 15 = .ok (.iload_n 1, 1) := by decide +kernel
theorem d_Md_end_16 : decode b_Md_end 16 = .ok (.putfield 80, 3) := by decide +kernel
theorem d_Md_end_19 : decode b_Md_end 19 = .ok (.iload_n 1, 1) := by decide +kernel
theorem d_Md_end_20 : decode b_Md_end 20 = .ok (.ireturn, 1) := by decide +kernel
def f_Md_end (a0 : Int32) (o0 : Ob) (Q : Int32 → Ob → Prop) : Prop := f_Md_isIn a0 (0 : Int32) (gI o0 7) (fun z1 => (z1 = 0 → (Q (-1 : Int32) o0)) ∧ (¬ z1 = 0 → (Q a0 (sI o0 7 a0))))
abbrev rm_Md_end : Room := { frames := 1, cells := 0, slots := 0, locals := 22 }
set_option maxHeartbeats 4000000 in
set_option maxRecDepth 100000 in
theorem c_Md_end {l : Launch} {G : Gl} {h0 : Nat} {q0 : Nat → Nat} {a0 : Int32} {o0 : Ob} {Q : Int32 → Ob → Prop} (sz : Nat) (h : f_Md_end a0 o0 Q) : Met l y_Md_end w_Md_end rm_Md_end (PcW G [.ref h0, .int a0] sz (cw_Md G h0 q0 o0)) (va_Qi (fun (r : Int32) (u : Ob) => Q r u) (fun (u : Ob) t => BW G (va_A (cw_Md G h0 q0 o0) sz) (cw_Md G h0 q0 u) t) (va_A (cw_Md G h0 q0 o0) sz)) 0 0 (va_A (cw_Md G h0 q0 o0) sz) := by
  refine Met.ofW (cc := b_Md_end) (maxL := 2) (ret := (some .int)) (by decide +kernel) rfl ?_
  intro p e s m args below meth c s₁ B hml hv
  obtain ⟨rfl, hsz, hP, hK, hD0, hE⟩ := hv
  have hx := B.exec
  have hb := B.bytes
  have hr := B.returns
  have hts0 := atoms_spec (ws := w_Md_end) B.pre
  have hts : ∀ w ∈ gw_tbl, w.before ([.ref h0, .int a0]).toArray s = true := fun w hw => hts0 w (List.mem_cons_of_mem _ hw)
  have hown : s.vm.findClass R_Md = some m.cls := findClass_of_methodNamed B.named
  have hlocks := B.notSynchronized
  subst hsz
  have hD := hD0.self (sz := s.heap.size)
  generalize hAe : va_A (cw_Md G h0 q0 o0) s.heap.size = A at hD hE ⊢
  have hA : ∀ q : Nat, s.heap.size ≤ q → A q := fun q h => by rw [← hAe]; exact Or.inr h
  have hS : va_S A s.heap s.heap [] := va_S.rf
  have C : Cx p s m ([.ref h0, .int a0]).toArray meth c R_Md b_Md_end 2 (some .int) G A := ⟨hx, hb, hml, hown, hr, hts, hK, hA, hlocks, hE⟩
  have hl := lv_entry ([.ref h0, .int a0]) (n := 2) (Nat.le_of_ble_eq_true rfl)
  rw [lg_entry_eq]
  generalize (lg_sl ([.ref h0, .int a0]) ++ List.replicate (2 - (lg_sl ([.ref h0, .int a0])).length) Slot.unset).toArray = ls at hl ⊢
  have hl : lv_has ls 2 [(0, .ref h0), (1, .int a0)] := hl
  have hD : va_D A [(h0, .inr (11, [.int (gI o0 0), .ref (q0 1), .ref (q0 2), .ref (q0 3), .ref (q0 4), .ref (q0 5), .ref (q0 6), .int (gI o0 7), .int (gI o0 8), .int (gI o0 9), .int (gI o0 10), .int (gI o0 11), .int (gI o0 12), .int (gI o0 13), .int (gI o0 14), .long (gL o0 15), .int (gI o0 16), .int (gI o0 17), .int (gI o0 18), .int (gI o0 19), .int (gI o0 20), .int (gI o0 21), .int (gI o0 22), .int (gI o0 23), .int (gI o0 24), .int (gI o0 25), .int (gI o0 26), .int (gI o0 27), .ref (q0 28), .long (gL o0 29), .int (gI o0 30), .ref (q0 31), .ref (q0 32), .ref (q0 33), .int (gI o0 34), .int (gI o0 35), .int (gI o0 36), .int (gI o0 37), .ref (q0 38), .ref (q0 39), .int (gI o0 40), .ref (q0 41), .ref (q0 42), .ref (q0 43), .ref (q0 44)])), kI G (q0 1) 6100 (gA o0 1), kI G (q0 2) 6100 (gA o0 2), kJ G (q0 3) 2016 (gB o0 3), kJ G (q0 4) 2016 (gB o0 4), kI G (q0 5) 300 (gA o0 5), kI G (q0 6) 400 (gA o0 6), kJ G (q0 28) 10 (gB o0 28), kI G (q0 31) 969 (gA o0 31), kI G (q0 32) 969 (gA o0 32), kI G (q0 33) 969 (gA o0 33), kI G (q0 38) 5 (gA o0 38), kI G (q0 39) 5120 (gA o0 39), kI G (q0 41) 5 (gA o0 41), kZ G (q0 42) 1024 (gA o0 42), kI G (q0 43) 8192 (gA o0 43), kI G (q0 44) 8192 (gA o0 44)] := hD
  unfold f_Md_end at h
  suffices key : ∀ (H : Heap) (locs : List Loc), va_P G.1 CL [(h0, .inr (11, [.int (gI o0 0), .ref (q0 1), .ref (q0 2), .ref (q0 3), .ref (q0 4), .ref (q0 5), .ref (q0 6), .int (gI o0 7), .int (gI o0 8), .int (gI o0 9), .int (gI o0 10), .int (gI o0 11), .int (gI o0 12), .int (gI o0 13), .int (gI o0 14), .long (gL o0 15), .int (gI o0 16), .int (gI o0 17), .int (gI o0 18), .int (gI o0 19), .int (gI o0 20), .int (gI o0 21), .int (gI o0 22), .int (gI o0 23), .int (gI o0 24), .int (gI o0 25), .int (gI o0 26), .int (gI o0 27), .ref (q0 28), .long (gL o0 29), .int (gI o0 30), .ref (q0 31), .ref (q0 32), .ref (q0 33), .int (gI o0 34), .int (gI o0 35), .int (gI o0 36), .int (gI o0 37), .ref (q0 38), .ref (q0 39), .int (gI o0 40), .ref (q0 41), .ref (q0 42), .ref (q0 43), .ref (q0 44)])), kI G (q0 1) 6100 (gA o0 1), kI G (q0 2) 6100 (gA o0 2), kJ G (q0 3) 2016 (gB o0 3), kJ G (q0 4) 2016 (gB o0 4), kI G (q0 5) 300 (gA o0 5), kI G (q0 6) 400 (gA o0 6), kJ G (q0 28) 10 (gB o0 28), kI G (q0 31) 969 (gA o0 31), kI G (q0 32) 969 (gA o0 32), kI G (q0 33) 969 (gA o0 33), kI G (q0 38) 5 (gA o0 38), kI G (q0 39) 5120 (gA o0 39), kI G (q0 41) 5 (gA o0 41), kZ G (q0 42) 1024 (gA o0 42), kI G (q0 43) 8192 (gA o0 43), kI G (q0 44) 8192 (gA o0 44)] H → va_S A s.heap H locs → W p l e rm_Md_end s m ([.ref h0, .int a0]).toArray below meth c H locs 0 0 (MQ below (va_Qi (fun (r : Int32) (u : Ob) => Q r u) (fun (u : Ob) t => BW G A (cw_Md G h0 q0 u) t) A) ([.ref h0, .int a0]).toArray s 0 0 A) (F0 m 0 ls []) from key s.heap [] hP hS
  intro H locs hP hS
  refine lv_iload_n hx hb d_Md_end_0 rfl (lv_at hl 1 rfl) ?_
  refine lv_iconst (v := (0 : Int32)) hx hb d_Md_end_1 (by decide) ?_
  refine lv_aload_n hx hb d_Md_end_2 rfl (lv_at hl 0 rfl) ?_
  refine va_get (D := G.1) (ci := 11) (v := .int (gI o0 7)) (C := R_Md) (T := T_Md) (N := 45) hx hb hts i_Md hown hK hP 0 rfl rfl 7 (by decide) (hts _ wf_Md_80) (fun _ h9 => h9) rfl d_Md_end_3 ?_
  refine cl_Si (b := b_Md_end) (As := [.int a0, .int (0 : Int32), .int (gI o0 7)]) (rest := []) (ws := [(h0, .inr (11, [.int (gI o0 0), .ref (q0 1), .ref (q0 2), .ref (q0 3), .ref (q0 4), .ref (q0 5), .ref (q0 6), .int (gI o0 7), .int (gI o0 8), .int (gI o0 9), .int (gI o0 10), .int (gI o0 11), .int (gI o0 12), .int (gI o0 13), .int (gI o0 14), .long (gL o0 15), .int (gI o0 16), .int (gI o0 17), .int (gI o0 18), .int (gI o0 19), .int (gI o0 20), .int (gI o0 21), .int (gI o0 22), .int (gI o0 23), .int (gI o0 24), .int (gI o0 25), .int (gI o0 26), .int (gI o0 27), .ref (q0 28), .long (gL o0 29), .int (gI o0 30), .ref (q0 31), .ref (q0 32), .ref (q0 33), .int (gI o0 34), .int (gI o0 35), .int (gI o0 36), .int (gI o0 37), .ref (q0 38), .ref (q0 39), .int (gI o0 40), .ref (q0 41), .ref (q0 42), .ref (q0 43), .ref (q0 44)])), kI G (q0 1) 6100 (gA o0 1), kI G (q0 2) 6100 (gA o0 2), kJ G (q0 3) 2016 (gB o0 3), kJ G (q0 4) 2016 (gB o0 4), kI G (q0 5) 300 (gA o0 5), kI G (q0 6) 400 (gA o0 6), kJ G (q0 28) 10 (gB o0 28), kI G (q0 31) 969 (gA o0 31), kI G (q0 32) 969 (gA o0 32), kI G (q0 33) 969 (gA o0 33), kI G (q0 38) 5 (gA o0 38), kI G (q0 39) 5120 (gA o0 39), kI G (q0 41) 5 (gA o0 41), kZ G (q0 42) 1024 (gA o0 42), kI G (q0 43) 8192 (gA o0 43), kI G (q0 44) 8192 (gA o0 44)]) (wr := [(h0, .inr (11, [.int (gI o0 0), .ref (q0 1), .ref (q0 2), .ref (q0 3), .ref (q0 4), .ref (q0 5), .ref (q0 6), .int (gI o0 7), .int (gI o0 8), .int (gI o0 9), .int (gI o0 10), .int (gI o0 11), .int (gI o0 12), .int (gI o0 13), .int (gI o0 14), .long (gL o0 15), .int (gI o0 16), .int (gI o0 17), .int (gI o0 18), .int (gI o0 19), .int (gI o0 20), .int (gI o0 21), .int (gI o0 22), .int (gI o0 23), .int (gI o0 24), .int (gI o0 25), .int (gI o0 26), .int (gI o0 27), .ref (q0 28), .long (gL o0 29), .int (gI o0 30), .ref (q0 31), .ref (q0 32), .ref (q0 33), .int (gI o0 34), .int (gI o0 35), .int (gI o0 36), .int (gI o0 37), .ref (q0 38), .ref (q0 39), .int (gI o0 40), .ref (q0 41), .ref (q0 42), .ref (q0 43), .ref (q0 44)])), kI G (q0 1) 6100 (gA o0 1), kI G (q0 2) 6100 (gA o0 2), kJ G (q0 3) 2016 (gB o0 3), kJ G (q0 4) 2016 (gB o0 4), kI G (q0 5) 300 (gA o0 5), kI G (q0 6) 400 (gA o0 6), kJ G (q0 28) 10 (gB o0 28), kI G (q0 31) 969 (gA o0 31), kI G (q0 32) 969 (gA o0 32), kI G (q0 33) 969 (gA o0 33), kI G (q0 38) 5 (gA o0 38), kI G (q0 39) 5120 (gA o0 39), kI G (q0 41) 5 (gA o0 41), kZ G (q0 42) 1024 (gA o0 42), kI G (q0 43) 8192 (gA o0 43), kI G (q0 44) 8192 (gA o0 44)]) (w2 := fun (u : Unit) => [(h0, .inr (11, [.int (gI o0 0), .ref (q0 1), .ref (q0 2), .ref (q0 3), .ref (q0 4), .ref (q0 5), .ref (q0 6), .int (gI o0 7), .int (gI o0 8), .int (gI o0 9), .int (gI o0 10), .int (gI o0 11), .int (gI o0 12), .int (gI o0 13), .int (gI o0 14), .long (gL o0 15), .int (gI o0 16), .int (gI o0 17), .int (gI o0 18), .int (gI o0 19), .int (gI o0 20), .int (gI o0 21), .int (gI o0 22), .int (gI o0 23), .int (gI o0 24), .int (gI o0 25), .int (gI o0 26), .int (gI o0 27), .ref (q0 28), .long (gL o0 29), .int (gI o0 30), .ref (q0 31), .ref (q0 32), .ref (q0 33), .int (gI o0 34), .int (gI o0 35), .int (gI o0 36), .int (gI o0 37), .ref (q0 38), .ref (q0 39), .int (gI o0 40), .ref (q0 41), .ref (q0 42), .ref (q0 43), .ref (q0 44)])), kI G (q0 1) 6100 (gA o0 1), kI G (q0 2) 6100 (gA o0 2), kJ G (q0 3) 2016 (gB o0 3), kJ G (q0 4) 2016 (gB o0 4), kI G (q0 5) 300 (gA o0 5), kI G (q0 6) 400 (gA o0 6), kJ G (q0 28) 10 (gB o0 28), kI G (q0 31) 969 (gA o0 31), kI G (q0 32) 969 (gA o0 32), kI G (q0 33) 969 (gA o0 33), kI G (q0 38) 5 (gA o0 38), kI G (q0 39) 5120 (gA o0 39), kI G (q0 41) 5 (gA o0 41), kZ G (q0 42) 1024 (gA o0 42), kI G (q0 43) 8192 (gA o0 43), kI G (q0 44) 8192 (gA o0 44)]) C (c_Md_isIn H.size h) ws_Md_76 ⟨Nat.le_of_ble_eq_true rfl, Nat.le_of_ble_eq_true rfl⟩ hP hD hS [] [0, 1, 2, 3, 4, 5, 6, 7, 8, 9, 10, 11, 12, 13, 14, 15, 16] rfl rfl (by decide) (by decide) (by decide) [0, 1, 2, 3, 4, 5, 6, 7, 8, 9, 10, 11, 12, 13, 14, 15, 16] (by decide) (fun u => rfl) rfl hl.1 rfl (lv_room (Nat.le_of_ble_eq_true rfl)) d_Md_end_6 ⟨Nat.le_of_ble_eq_true rfl, Nat.le_of_ble_eq_true rfl⟩ rfl rfl (fun z1 u H locs h hP hD hS => ?_)
  have hP : va_P G.1 CL [(h0, .inr (11, [.int (gI o0 0), .ref (q0 1), .ref (q0 2), .ref (q0 3), .ref (q0 4), .ref (q0 5), .ref (q0 6), .int (gI o0 7), .int (gI o0 8), .int (gI o0 9), .int (gI o0 10), .int (gI o0 11), .int (gI o0 12), .int (gI o0 13), .int (gI o0 14), .long (gL o0 15), .int (gI o0 16), .int (gI o0 17), .int (gI o0 18), .int (gI o0 19), .int (gI o0 20), .int (gI o0 21), .int (gI o0 22), .int (gI o0 23), .int (gI o0 24), .int (gI o0 25), .int (gI o0 26), .int (gI o0 27), .ref (q0 28), .long (gL o0 29), .int (gI o0 30), .ref (q0 31), .ref (q0 32), .ref (q0 33), .int (gI o0 34), .int (gI o0 35), .int (gI o0 36), .int (gI o0 37), .ref (q0 38), .ref (q0 39), .int (gI o0 40), .ref (q0 41), .ref (q0 42), .ref (q0 43), .ref (q0 44)])), kI G (q0 1) 6100 (gA o0 1), kI G (q0 2) 6100 (gA o0 2), kJ G (q0 3) 2016 (gB o0 3), kJ G (q0 4) 2016 (gB o0 4), kI G (q0 5) 300 (gA o0 5), kI G (q0 6) 400 (gA o0 6), kJ G (q0 28) 10 (gB o0 28), kI G (q0 31) 969 (gA o0 31), kI G (q0 32) 969 (gA o0 32), kI G (q0 33) 969 (gA o0 33), kI G (q0 38) 5 (gA o0 38), kI G (q0 39) 5120 (gA o0 39), kI G (q0 41) 5 (gA o0 41), kZ G (q0 42) 1024 (gA o0 42), kI G (q0 43) 8192 (gA o0 43), kI G (q0 44) 8192 (gA o0 44)] H := hP
  have hD : va_D A [(h0, .inr (11, [.int (gI o0 0), .ref (q0 1), .ref (q0 2), .ref (q0 3), .ref (q0 4), .ref (q0 5), .ref (q0 6), .int (gI o0 7), .int (gI o0 8), .int (gI o0 9), .int (gI o0 10), .int (gI o0 11), .int (gI o0 12), .int (gI o0 13), .int (gI o0 14), .long (gL o0 15), .int (gI o0 16), .int (gI o0 17), .int (gI o0 18), .int (gI o0 19), .int (gI o0 20), .int (gI o0 21), .int (gI o0 22), .int (gI o0 23), .int (gI o0 24), .int (gI o0 25), .int (gI o0 26), .int (gI o0 27), .ref (q0 28), .long (gL o0 29), .int (gI o0 30), .ref (q0 31), .ref (q0 32), .ref (q0 33), .int (gI o0 34), .int (gI o0 35), .int (gI o0 36), .int (gI o0 37), .ref (q0 38), .ref (q0 39), .int (gI o0 40), .ref (q0 41), .ref (q0 42), .ref (q0 43), .ref (q0 44)])), kI G (q0 1) 6100 (gA o0 1), kI G (q0 2) 6100 (gA o0 2), kJ G (q0 3) 2016 (gB o0 3), kJ G (q0 4) 2016 (gB o0 4), kI G (q0 5) 300 (gA o0 5), kI G (q0 6) 400 (gA o0 6), kJ G (q0 28) 10 (gB o0 28), kI G (q0 31) 969 (gA o0 31), kI G (q0 32) 969 (gA o0 32), kI G (q0 33) 969 (gA o0 33), kI G (q0 38) 5 (gA o0 38), kI G (q0 39) 5120 (gA o0 39), kI G (q0 41) 5 (gA o0 41), kZ G (q0 42) 1024 (gA o0 42), kI G (q0 43) 8192 (gA o0 43), kI G (q0 44) 8192 (gA o0 44)] := hD
  refine lv_if_ne (tgt := 14) hx hb d_Md_end_9 (by decide) (fun c2 => ?_) (fun c2 => ?_)
  · have h := h.2 c2
    refine lv_aload_n hx hb d_Md_end_14 rfl (lv_at hl 0 rfl) ?_
    refine lv_iload_n hx hb d_Md_end_15 rfl (lv_at hl 1 rfl) ?_
    refine va_put (D := G.1) (ci := 11) (v := .int a0) (ty := .int) (C := R_Md) (T := T_Md) (N := 45) hx hb hts i_Md ty_Md ty_Md_ok nm_Md hown hK hP hD hS 0 rfl rfl 7 (by decide) (hts _ wf_Md_80) (fun _ h9 => h9) rfl (ty_Md_ok 7 (by decide)) rfl rfl (Nat.le_of_ble_eq_true rfl) d_Md_end_16 (fun H locs hP hD hS => ?_)
    have hP : va_P G.1 CL [(h0, .inr (11, [.int (gI o0 0), .ref (q0 1), .ref (q0 2), .ref (q0 3), .ref (q0 4), .ref (q0 5), .ref (q0 6), .int a0, .int (gI o0 8), .int (gI o0 9), .int (gI o0 10), .int (gI o0 11), .int (gI o0 12), .int (gI o0 13), .int (gI o0 14), .long (gL o0 15), .int (gI o0 16), .int (gI o0 17), .int (gI o0 18), .int (gI o0 19), .int (gI o0 20), .int (gI o0 21), .int (gI o0 22), .int (gI o0 23), .int (gI o0 24), .int (gI o0 25), .int (gI o0 26), .int (gI o0 27), .ref (q0 28), .long (gL o0 29), .int (gI o0 30), .ref (q0 31), .ref (q0 32), .ref (q0 33), .int (gI o0 34), .int (gI o0 35), .int (gI o0 36), .int (gI o0 37), .ref (q0 38), .ref (q0 39), .int (gI o0 40), .ref (q0 41), .ref (q0 42), .ref (q0 43), .ref (q0 44)])), kI G (q0 1) 6100 (gA o0 1), kI G (q0 2) 6100 (gA o0 2), kJ G (q0 3) 2016 (gB o0 3), kJ G (q0 4) 2016 (gB o0 4), kI G (q0 5) 300 (gA o0 5), kI G (q0 6) 400 (gA o0 6), kJ G (q0 28) 10 (gB o0 28), kI G (q0 31) 969 (gA o0 31), kI G (q0 32) 969 (gA o0 32), kI G (q0 33) 969 (gA o0 33), kI G (q0 38) 5 (gA o0 38), kI G (q0 39) 5120 (gA o0 39), kI G (q0 41) 5 (gA o0 41), kZ G (q0 42) 1024 (gA o0 42), kI G (q0 43) 8192 (gA o0 43), kI G (q0 44) 8192 (gA o0 44)] H := hP
    have hD : va_D A [(h0, .inr (11, [.int (gI o0 0), .ref (q0 1), .ref (q0 2), .ref (q0 3), .ref (q0 4), .ref (q0 5), .ref (q0 6), .int a0, .int (gI o0 8), .int (gI o0 9), .int (gI o0 10), .int (gI o0 11), .int (gI o0 12), .int (gI o0 13), .int (gI o0 14), .long (gL o0 15), .int (gI o0 16), .int (gI o0 17), .int (gI o0 18), .int (gI o0 19), .int (gI o0 20), .int (gI o0 21), .int (gI o0 22), .int (gI o0 23), .int (gI o0 24), .int (gI o0 25), .int (gI o0 26), .int (gI o0 27), .ref (q0 28), .long (gL o0 29), .int (gI o0 30), .ref (q0 31), .ref (q0 32), .ref (q0 33), .int (gI o0 34), .int (gI o0 35), .int (gI o0 36), .int (gI o0 37), .ref (q0 38), .ref (q0 39), .int (gI o0 40), .ref (q0 41), .ref (q0 42), .ref (q0 43), .ref (q0 44)])), kI G (q0 1) 6100 (gA o0 1), kI G (q0 2) 6100 (gA o0 2), kJ G (q0 3) 2016 (gB o0 3), kJ G (q0 4) 2016 (gB o0 4), kI G (q0 5) 300 (gA o0 5), kI G (q0 6) 400 (gA o0 6), kJ G (q0 28) 10 (gB o0 28), kI G (q0 31) 969 (gA o0 31), kI G (q0 32) 969 (gA o0 32), kI G (q0 33) 969 (gA o0 33), kI G (q0 38) 5 (gA o0 38), kI G (q0 39) 5120 (gA o0 39), kI G (q0 41) 5 (gA o0 41), kZ G (q0 42) 1024 (gA o0 42), kI G (q0 43) 8192 (gA o0 43), kI G (q0 44) 8192 (gA o0 44)] := hD
    refine lv_iload_n hx hb d_Md_end_19 rfl (lv_at hl 1 rfl) ?_
    have hP : va_P G.1 CL (cw_Md G h0 q0 (sI o0 7 a0)) H := hP
    have hD : va_D A (cw_Md G h0 q0 (sI o0 7 a0)) := hD
    exact W.iret (v := a0) hx hb hr (fun t ht hW => ⟨⟨a0, (sI o0 7 a0), rfl, h, by rw [ht]; exact hP, va_K.moved hW.alike hK, hD⟩, hS.F ht⟩) hS.2.2 d_Md_end_20
  · have h := h.1 c2
    refine lv_iconst (v := (-1 : Int32)) hx hb d_Md_end_12 (by decide) ?_
    have hP : va_P G.1 CL (cw_Md G h0 q0 o0) H := hP
    have hD : va_D A (cw_Md G h0 q0 o0) := hD
    exact W.iret (v := (-1 : Int32)) hx hb hr (fun t ht hW => ⟨⟨(-1 : Int32), o0, rfl, h, by rw [ht]; exact hP, va_K.moved hW.alike hK, hD⟩, hS.F ht⟩) hS.2.2 d_Md_end_13
