abbrev b_Md_law : ByteArray := prog_14_method_27_code
def y_Md_law : MethodName := ⟨R_Md, "law", "(I)I"⟩
abbrev w_Md_law : List Cond := Cond.code y_Md_law b_Md_law 2 (some .int) :: gw_tbl
theorem d_Md_law_0 : decode b_Md_law 0 = .ok (.aload_n 0, 1) := by decide +kernel
theorem d_Md_law_1 : decode b_Md_law 1 = .ok (.iload_n 1, 1) := by decide +kernel
theorem d_Md_law_2 : decode b_Md_law 2 = .ok (.invokevirtual 169, 3) := by decide +kernel
theorem d_Md_law_5 : decode b_Md_law 5 = .ok (.ifCond .eq 14, 3) := by decide +kernel
theorem d_Md_law_8 : decode b_Md_law 8 = .ok (.aload_n 0, 1) := by decide +kernel
theorem d_Md_law_9 : decode b_Md_law 9 = .ok (.getfield 7, 3) := by decide +kernel
theorem d_Md_law_12 : decode b_Md_law 12 = .ok (.sipush 5605, 3) := by decide +kernel
theorem d_Md_law_15 : decode b_Md_law 15 = .ok (.iload_n 1, 1) := by decide +kernel
theorem d_Md_law_16 : decode b_Md_law 16 = .ok (.iadd, 1) := by decide +kernel
theorem d_Md_law_17 : decode b_Md_law 17 = .ok (.iaload, 1) := by decide +kernel
theorem d_Md_law_18 : decode b_Md_law 18 = .ok (.ireturn, 1) := by decide +kernel
theorem d_Md_law_19 : decode b_Md_law 19 = .ok (.iload_n 1, 1) := by decide +kernel
theorem d_Md_law_20 : decode b_Md_law 20 = .ok (.tableswitch 68 10 13 #[32, 41, 50, 59], 32) := by decide +kernel
theorem d_Md_law_52 : decode b_Md_law 52 = .ok (.aload_n 0, 1) := by decide +kernel
theorem d_Md_law_53 : decode b_Md_law 53 = .ok (.getfield 7, 3) := by decide +kernel
theorem d_Md_law_56 : decode b_Md_law 56 = .ok (.sipush 5601, 3) := by decide +kernel
theorem d_Md_law_59 : decode b_Md_law 59 = .ok (.iaload, 1) := by decide +kernel
theorem d_Md_law_60 : decode b_Md_law 60 = .ok (.ireturn, 1) := by decide +kernel
theorem d_Md_law_61 : decode b_Md_law 61 = .ok (.aload_n 0, 1) := by decide +kernel
theorem d_Md_law_62 : decode b_Md_law 62 = .ok (.getfield 7, 3) := by decide +kernel
theorem d_Md_law_65 : decode b_Md_law 65 = .ok (.sipush 5602, 3) := by decide +kernel
theorem d_Md_law_68 : decode b_Md_law 68 = .ok (.iaload, 1) := by decide +kernel
theorem d_Md_law_69 : decode b_Md_law 69 = .ok (.ireturn, 1) := by decide +kernel
theorem d_Md_law_70 : decode b_Md_law 70 = .ok (.aload_n 0, 1) := by decide +kernel
theorem d_Md_law_71 : decode b_Md_law 71 = .ok (.getfield 7, 3) := by decide +kernel
theorem d_Md_law_74 : decode b_Md_law 74 = .ok (.sipush 5603, 3) := by decide +kernel
theorem d_Md_law_77 : decode b_Md_law 77 = .ok (.iaload, 1) := by decide +kernel
theorem d_Md_law_78 : decode b_Md_law 78 = .ok (.ireturn, 1) := by decide +kernel
theorem d_Md_law_79 : decode b_Md_law 79 = .ok (.aload_n 0, 1) := by decide +kernel
theorem d_Md_law_80 : decode b_Md_law 80 = .ok (.getfield 7, 3) := by decide +kernel
theorem d_Md_law_83 : decode b_Md_law 83 = .ok (.sipush 5604, 3) := by decide +kernel
theorem d_Md_law_86 : decode b_Md_law 86 = .ok (.iaload, 1) := by decide +kernel
theorem d_Md_law_87 : decode b_Md_law 87 = .ok (.ireturn, 1) := by decide +kernel
theorem d_Md_law_88 : decode b_Md_law 88 = .ok (.iconst (-1), 1) := by decide +kernel
theorem d_Md_law_89 : decode b_Md_law 89 = .ok (.ireturn, 1) := by decide +kernel
theorem wv_Md_169 : wV R_Md 169 y_Md_isPiece b_Md_isPiece 2 (some .boolean) 1 := ⟨⟨gw_tb (List.mem_of_getElem? (i := 1197) (by decide +kernel)) rfl, gw_tb (List.mem_of_getElem? (i := 13) (by decide +kernel)) rfl, gw_tb (List.mem_of_getElem? (i := 1200) (by decide +kernel)) rfl, by decide, by decide, by decide +kernel⟩, gw_tb (List.mem_of_getElem? (i := 1199) (by decide +kernel)) rfl, gw_of (List.mem_append_left _ (List.mem_of_getElem? (i := 45) (by decide +kernel))) rfl⟩
def f_Md_law (a0 : Int32) (o0 : Ob) (Q : Int32 → Prop) : Prop := f_Md_isPiece a0 o0 (fun z1 => (z1 = 0 → ((a0 = (10 : Int32) → (Q ((gA o0 1) 5601))) ∧ (¬ a0 = (10 : Int32) → ((a0 = (11 : Int32) → (Q ((gA o0 1) 5602))) ∧ (¬ a0 = (11 : Int32) → ((a0 = (12 : Int32) → (Q ((gA o0 1) 5603))) ∧ (¬ a0 = (12 : Int32) → ((a0 = (13 : Int32) → (Q ((gA o0 1) 5604))) ∧ (¬ a0 = (13 : Int32) → (Q (-1 : Int32))))))))))) ∧ (¬ z1 = 0 → ((vp_in ((5605 : Int32) + a0) 6100) ∧ (∀ y8 : Int32, y8 = ((gA o0 1) (((5605 : Int32) + a0).toNatClampNeg)) → (Q y8)))))
abbrev rm_Md_law : Room := { frames := 2, cells := 0, slots := 0, locals := 43 }
set_option maxHeartbeats 4000000 in
set_option maxRecDepth 100000 in
theorem c_Md_law {l : Launch} {G : Gl} {h0 : Nat} {q0 : Nat → Nat} {a0 : Int32} {o0 : Ob} {Q : Int32 → Prop} (sz : Nat) (h : f_Md_law a0 o0 Q) : Met l y_Md_law w_Md_law rm_Md_law (PcW G [.ref h0, .int a0] sz (cw_Md G h0 q0 o0)) (va_Qi (fun (r : Int32) (u : Unit) => Q r) (fun (u : Unit) t => BW G (va_A (cw_Md G h0 q0 o0) sz) (cw_Md G h0 q0 o0) t) (va_A (cw_Md G h0 q0 o0) sz)) 0 0 (va_A (cw_Md G h0 q0 o0) sz) := by
  refine Met.ofW (cc := b_Md_law) (maxL := 2) (ret := (some .int)) (by decide +kernel) rfl ?_
  intro p e s m args below meth c s₁ B hml hv
  obtain ⟨rfl, hsz, hP, hK, hD0, hE⟩ := hv
  have hx := B.exec
  have hb := B.bytes
  have hr := B.returns
  have hts0 := atoms_spec (ws := w_Md_law) B.pre
  have hts : ∀ w ∈ gw_tbl, w.before ([.ref h0, .int a0]).toArray s = true := fun w hw => hts0 w (List.mem_cons_of_mem _ hw)
  have hown : s.vm.findClass R_Md = some m.cls := findClass_of_methodNamed B.named
  have hlocks := B.notSynchronized
  subst hsz
  have hD := hD0.self (sz := s.heap.size)
  generalize hAe : va_A (cw_Md G h0 q0 o0) s.heap.size = A at hD hE ⊢
  have hA : ∀ q : Nat, s.heap.size ≤ q → A q := fun q h => by rw [← hAe]; exact Or.inr h
  have hS : va_S A s.heap s.heap [] := va_S.rf
  have C : Cx p s m ([.ref h0, .int a0]).toArray meth c R_Md b_Md_law 2 (some .int) G A := ⟨hx, hb, hml, hown, hr, hts, hK, hA, hlocks, hE⟩
  have hl := lv_entry ([.ref h0, .int a0]) (n := 2) (Nat.le_of_ble_eq_true rfl)
  rw [lg_entry_eq]
  generalize (lg_sl ([.ref h0, .int a0]) ++ List.replicate (2 - (lg_sl ([.ref h0, .int a0])).length) Slot.unset).toArray = ls at hl ⊢
  have hl : lv_has ls 2 [(0, .ref h0), (1, .int a0)] := hl
  have hD : va_D A [(h0, .inr (11, [.int (gI o0 0), .ref (q0 1), .ref (q0 2), .ref (q0 3), .ref (q0 4), .ref (q0 5), .ref (q0 6), .int (gI o0 7), .int (gI o0 8), .int (gI o0 9), .int (gI o0 10), .int (gI o0 11), .int (gI o0 12), .int (gI o0 13), .int (gI o0 14), .long (gL o0 15), .int (gI o0 16), .int (gI o0 17), .int (gI o0 18), .int (gI o0 19), .int (gI o0 20), .int (gI o0 21), .int (gI o0 22), .int (gI o0 23), .int (gI o0 24), .int (gI o0 25), .int (gI o0 26), .int (gI o0 27), .ref (q0 28), .long (gL o0 29), .int (gI o0 30), .ref (q0 31), .ref (q0 32), .ref (q0 33), .int (gI o0 34), .int (gI o0 35), .int (gI o0 36), .int (gI o0 37), .ref (q0 38), .ref (q0 39), .int (gI o0 40), .ref (q0 41), .ref (q0 42), .ref (q0 43), .ref (q0 44)])), kI G (q0 1) 6100 (gA o0 1), kI G (q0 2) 6100 (gA o0 2), kJ G (q0 3) 2016 (gB o0 3), kJ G (q0 4) 2016 (gB o0 4), kI G (q0 5) 300 (gA o0 5), kI G (q0 6) 400 (gA o0 6), kJ G (q0 28) 10 (gB o0 28), kI G (q0 31) 969 (gA o0 31), kI G (q0 32) 969 (gA o0 32), kI G (q0 33) 969 (gA o0 33), kI G (q0 38) 5 (gA o0 38), kI G (q0 39) 5120 (gA o0 39), kI G (q0 41) 5 (gA o0 41), kZ G (q0 42) 1024 (gA o0 42), kI G (q0 43) 8192 (gA o0 43), kI G (q0 44) 8192 (gA o0 44)] := hD
  unfold f_Md_law at h
  suffices key : ∀ (H : Heap) (locs : List Loc), va_P G.1 CL [(h0, .inr (11, [.int (gI o0 0), .ref (q0 1), .ref (q0 2), .ref (q0 3), .ref (q0 4), .ref (q0 5), .ref (q0 6), .int (gI o0 7), .int (gI o0 8), .int (gI o0 9), .int (gI o0 10), .int (gI o0 11), .int (gI o0 12), .int (gI o0 13), .int (gI o0 14), .long (gL o0 15), .int (gI o0 16), .int (gI o0 17), .int (gI o0 18), .int (gI o0 19), .int (gI o0 20), .int (gI o0 21), .int (gI o0 22), .int (gI o0 23), .int (gI o0 24), .int (gI o0 25), .int (gI o0 26), .int (gI o0 27), .ref (q0 28), .long (gL o0 29), .int (gI o0 30), .ref (q0 31), .ref (q0 32), .ref (q0 33), .int (gI o0 34), .int (gI o0 35), .int (gI o0 36), .int (gI o0 37), .ref (q0 38), .ref (q0 39), .int (gI o0 40), .ref (q0 41), .ref (q0 42), .ref (q0 43), .ref (q0 44)])), kI G (q0 1) 6100 (gA o0 1), kI G (q0 2) 6100 (gA o0 2), kJ G (q0 3) 2016 (gB o0 3), kJ G (q0 4) 2016 (gB o0 4), kI G (q0 5) 300 (gA o0 5), kI G (q0 6) 400 (gA o0 6), kJ G (q0 28) 10 (gB o0 28), kI G (q0 31) 969 (gA o0 31), kI G (q0 32) 969 (gA o0 32), kI G (q0 33) 969 (gA o0 33), kI G (q0 38) 5 (gA o0 38), kI G (q0 39) 5120 (gA o0 39), kI G (q0 41) 5 (gA o0 41), kZ G (q0 42) 1024 (gA o0 42), kI G (q0 43) 8192 (gA o0 43), kI G (q0 44) 8192 (gA o0 44)] H → va_S A s.heap H locs → W p l e rm_Md_law s m ([.ref h0, .int a0]).toArray below meth c H locs 0 0 (MQ below (va_Qi (fun (r : Int32) (u : Unit) => Q r) (fun (u : Unit) t => BW G A (cw_Md G h0 q0 o0) t) A) ([.ref h0, .int a0]).toArray s 0 0 A) (F0 m 0 ls []) from key s.heap [] hP hS
  intro H locs hP hS
  refine lv_aload_n hx hb d_Md_law_0 rfl (lv_at hl 0 rfl) ?_
  refine lv_iload_n hx hb d_Md_law_1 rfl (lv_at hl 1 rfl) ?_
  refine cl_Vi (b := b_Md_law) (As := [.int a0]) (rest := []) (ws := [(h0, .inr (11, [.int (gI o0 0), .ref (q0 1), .ref (q0 2), .ref (q0 3), .ref (q0 4), .ref (q0 5), .ref (q0 6), .int (gI o0 7), .int (gI o0 8), .int (gI o0 9), .int (gI o0 10), .int (gI o0 11), .int (gI o0 12), .int (gI o0 13), .int (gI o0 14), .long (gL o0 15), .int (gI o0 16), .int (gI o0 17), .int (gI o0 18), .int (gI o0 19), .int (gI o0 20), .int (gI o0 21), .int (gI o0 22), .int (gI o0 23), .int (gI o0 24), .int (gI o0 25), .int (gI o0 26), .int (gI o0 27), .ref (q0 28), .long (gL o0 29), .int (gI o0 30), .ref (q0 31), .ref (q0 32), .ref (q0 33), .int (gI o0 34), .int (gI o0 35), .int (gI o0 36), .int (gI o0 37), .ref (q0 38), .ref (q0 39), .int (gI o0 40), .ref (q0 41), .ref (q0 42), .ref (q0 43), .ref (q0 44)])), kI G (q0 1) 6100 (gA o0 1), kI G (q0 2) 6100 (gA o0 2), kJ G (q0 3) 2016 (gB o0 3), kJ G (q0 4) 2016 (gB o0 4), kI G (q0 5) 300 (gA o0 5), kI G (q0 6) 400 (gA o0 6), kJ G (q0 28) 10 (gB o0 28), kI G (q0 31) 969 (gA o0 31), kI G (q0 32) 969 (gA o0 32), kI G (q0 33) 969 (gA o0 33), kI G (q0 38) 5 (gA o0 38), kI G (q0 39) 5120 (gA o0 39), kI G (q0 41) 5 (gA o0 41), kZ G (q0 42) 1024 (gA o0 42), kI G (q0 43) 8192 (gA o0 43), kI G (q0 44) 8192 (gA o0 44)]) (wr := []) (w2 := fun (u : Unit) => [(h0, .inr (11, [.int (gI o0 0), .ref (q0 1), .ref (q0 2), .ref (q0 3), .ref (q0 4), .ref (q0 5), .ref (q0 6), .int (gI o0 7), .int (gI o0 8), .int (gI o0 9), .int (gI o0 10), .int (gI o0 11), .int (gI o0 12), .int (gI o0 13), .int (gI o0 14), .long (gL o0 15), .int (gI o0 16), .int (gI o0 17), .int (gI o0 18), .int (gI o0 19), .int (gI o0 20), .int (gI o0 21), .int (gI o0 22), .int (gI o0 23), .int (gI o0 24), .int (gI o0 25), .int (gI o0 26), .int (gI o0 27), .ref (q0 28), .long (gL o0 29), .int (gI o0 30), .ref (q0 31), .ref (q0 32), .ref (q0 33), .int (gI o0 34), .int (gI o0 35), .int (gI o0 36), .int (gI o0 37), .ref (q0 38), .ref (q0 39), .int (gI o0 40), .ref (q0 41), .ref (q0 42), .ref (q0 43), .ref (q0 44)])), kI G (q0 1) 6100 (gA o0 1), kI G (q0 2) 6100 (gA o0 2), kJ G (q0 3) 2016 (gB o0 3), kJ G (q0 4) 2016 (gB o0 4), kI G (q0 5) 300 (gA o0 5), kI G (q0 6) 400 (gA o0 6), kJ G (q0 28) 10 (gB o0 28), kI G (q0 31) 969 (gA o0 31), kI G (q0 32) 969 (gA o0 32), kI G (q0 33) 969 (gA o0 33), kI G (q0 38) 5 (gA o0 38), kI G (q0 39) 5120 (gA o0 39), kI G (q0 41) 5 (gA o0 41), kZ G (q0 42) 1024 (gA o0 42), kI G (q0 43) 8192 (gA o0 43), kI G (q0 44) 8192 (gA o0 44)]) C (c_Md_isPiece (h0 := h0) (q0 := q0) H.size h) wv_Md_169 ⟨Nat.le_of_ble_eq_true rfl, Nat.le_of_ble_eq_true rfl⟩ hP hD hS 0 rfl rfl [0, 1, 2, 3, 4, 5, 6, 7, 8, 9, 10, 11, 12, 13, 14, 15, 16] [] rfl rfl (by decide) (by decide) (by decide) [0, 1, 2, 3, 4, 5, 6, 7, 8, 9, 10, 11, 12, 13, 14, 15, 16] (by decide) (fun u => rfl) rfl hl.1 rfl (lv_room (Nat.le_of_ble_eq_true rfl)) d_Md_law_2 ⟨Nat.le_of_ble_eq_true rfl, Nat.le_of_ble_eq_true rfl⟩ rfl rfl (fun z1 u H locs h hP hD hS => ?_)
  have hP : va_P G.1 CL [(h0, .inr (11, [.int (gI o0 0), .ref (q0 1), .ref (q0 2), .ref (q0 3), .ref (q0 4), .ref (q0 5), .ref (q0 6), .int (gI o0 7), .int (gI o0 8), .int (gI o0 9), .int (gI o0 10), .int (gI o0 11), .int (gI o0 12), .int (gI o0 13), .int (gI o0 14), .long (gL o0 15), .int (gI o0 16), .int (gI o0 17), .int (gI o0 18), .int (gI o0 19), .int (gI o0 20), .int (gI o0 21), .int (gI o0 22), .int (gI o0 23), .int (gI o0 24), .int (gI o0 25), .int (gI o0 26), .int (gI o0 27), .ref (q0 28), .long (gL o0 29), .int (gI o0 30), .ref (q0 31), .ref (q0 32), .ref (q0 33), .int (gI o0 34), .int (gI o0 35), .int (gI o0 36), .int (gI o0 37), .ref (q0 38), .ref (q0 39), .int (gI o0 40), .ref (q0 41), .ref (q0 42), .ref (q0 43), .ref (q0 44)])), kI G (q0 1) 6100 (gA o0 1), kI G (q0 2) 6100 (gA o0 2), kJ G (q0 3) 2016 (gB o0 3), kJ G (q0 4) 2016 (gB o0 4), kI G (q0 5) 300 (gA o0 5), kI G (q0 6) 400 (gA o0 6), kJ G (q0 28) 10 (gB o0 28), kI G (q0 31) 969 (gA o0 31), kI G (q0 32) 969 (gA o0 32), kI G (q0 33) 969 (gA o0 33), kI G (q0 38) 5 (gA o0 38), kI G (q0 39) 5120 (gA o0 39), kI G (q0 41) 5 (gA o0 41), kZ G (q0 42) 1024 (gA o0 42), kI G (q0 43) 8192 (gA o0 43), kI G (q0 44) 8192 (gA o0 44)] H := hP
  have hD : va_D A [(h0, .inr (11, [.int (gI o0 0), .ref (q0 1), .ref (q0 2), .ref (q0 3), .ref (q0 4), .ref (q0 5), .ref (q0 6), .int (gI o0 7), .int (gI o0 8), .int (gI o0 9), .int (gI o0 10), .int (gI o0 11), .int (gI o0 12), .int (gI o0 13), .int (gI o0 14), .long (gL o0 15), .int (gI o0 16), .int (gI o0 17), .int (gI o0 18), .int (gI o0 19), .int (gI o0 20), .int (gI o0 21), .int (gI o0 22), .int (gI o0 23), .int (gI o0 24), .int (gI o0 25), .int (gI o0 26), .int (gI o0 27), .ref (q0 28), .long (gL o0 29), .int (gI o0 30), .ref (q0 31), .ref (q0 32), .ref (q0 33), .int (gI o0 34), .int (gI o0 35), .int (gI o0 36), .int (gI o0 37), .ref (q0 38), .ref (q0 39), .int (gI o0 40), .ref (q0 41), .ref (q0 42), .ref (q0 43), .ref (q0 44)])), kI G (q0 1) 6100 (gA o0 1), kI G (q0 2) 6100 (gA o0 2), kJ G (q0 3) 2016 (gB o0 3), kJ G (q0 4) 2016 (gB o0 4), kI G (q0 5) 300 (gA o0 5), kI G (q0 6) 400 (gA o0 6), kJ G (q0 28) 10 (gB o0 28), kI G (q0 31) 969 (gA o0 31), kI G (q0 32) 969 (gA o0 32), kI G (q0 33) 969 (gA o0 33), kI G (q0 38) 5 (gA o0 38), kI G (q0 39) 5120 (gA o0 39), kI G (q0 41) 5 (gA o0 41), kZ G (q0 42) 1024 (gA o0 42), kI G (q0 43) 8192 (gA o0 43), kI G (q0 44) 8192 (gA o0 44)] := hD
  refine lv_if_eq (tgt := 19) hx hb d_Md_law_5 (by decide) (fun c2 => ?_) (fun c2 => ?_)
  · have h := h.1 c2
    refine lv_iload_n hx hb d_Md_law_19 rfl (lv_at hl 1 rfl) ?_
    by_cases c3 : a0 = (10 : Int32)
    · have h := h.1 c3
      refine lv_tableIn (tgt := 52) hx hb d_Md_law_20 (by rw [c3]; decide) (by rw [c3]; decide) (off := 32) (by rw [c3]; rfl) (by decide) ?_
      refine lv_aload_n hx hb d_Md_law_52 rfl (lv_at hl 0 rfl) ?_
      refine va_get (D := G.1) (ci := 11) (v := .ref (q0 1)) (C := R_Md) (T := T_Md) (N := 45) hx hb hts i_Md hown hK hP 0 rfl rfl 1 (by decide) (hts _ wf_Md_7) (fun _ h9 => h9) rfl d_Md_law_53 ?_
      refine lv_sipush (v := (5601 : Int32)) hx hb d_Md_law_56 (by decide) ?_
      refine xa_iald hx hb hK hP 1 0 rfl rfl (vp_lit rfl) (k := 5601) rfl d_Md_law_59 ?_
      have hP : va_P G.1 CL (cw_Md G h0 q0 o0) H := hP
      have hD : va_D A (cw_Md G h0 q0 o0) := hD
      exact W.iret (v := ((gA o0 1) 5601)) hx hb hr (fun t ht hW => ⟨⟨((gA o0 1) 5601), (), rfl, h, by rw [ht]; exact hP, va_K.moved hW.alike hK, hD⟩, hS.F ht⟩) hS.2.2 d_Md_law_60
    have h := h.2 c3
    by_cases c4 : a0 = (11 : Int32)
    · have h := h.1 c4
      refine lv_tableIn (tgt := 61) hx hb d_Md_law_20 (by rw [c4]; decide) (by rw [c4]; decide) (off := 41) (by rw [c4]; rfl) (by decide) ?_
      refine lv_aload_n hx hb d_Md_law_61 rfl (lv_at hl 0 rfl) ?_
      refine va_get (D := G.1) (ci := 11) (v := .ref (q0 1)) (C := R_Md) (T := T_Md) (N := 45) hx hb hts i_Md hown hK hP 0 rfl rfl 1 (by decide) (hts _ wf_Md_7) (fun _ h9 => h9) rfl d_Md_law_62 ?_
      refine lv_sipush (v := (5602 : Int32)) hx hb d_Md_law_65 (by decide) ?_
      refine xa_iald hx hb hK hP 1 0 rfl rfl (vp_lit rfl) (k := 5602) rfl d_Md_law_68 ?_
      have hP : va_P G.1 CL (cw_Md G h0 q0 o0) H := hP
      have hD : va_D A (cw_Md G h0 q0 o0) := hD
      exact W.iret (v := ((gA o0 1) 5602)) hx hb hr (fun t ht hW => ⟨⟨((gA o0 1) 5602), (), rfl, h, by rw [ht]; exact hP, va_K.moved hW.alike hK, hD⟩, hS.F ht⟩) hS.2.2 d_Md_law_69
    have h := h.2 c4
    by_cases c5 : a0 = (12 : Int32)
    · have h := h.1 c5
      refine lv_tableIn (tgt := 70) hx hb d_Md_law_20 (by rw [c5]; decide) (by rw [c5]; decide) (off := 50) (by rw [c5]; rfl) (by decide) ?_
      refine lv_aload_n hx hb d_Md_law_70 rfl (lv_at hl 0 rfl) ?_
      refine va_get (D := G.1) (ci := 11) (v := .ref (q0 1)) (C := R_Md) (T := T_Md) (N := 45) hx hb hts i_Md hown hK hP 0 rfl rfl 1 (by decide) (hts _ wf_Md_7) (fun _ h9 => h9) rfl d_Md_law_71 ?_
      refine lv_sipush (v := (5603 : Int32)) hx hb d_Md_law_74 (by decide) ?_
      refine xa_iald hx hb hK hP 1 0 rfl rfl (vp_lit rfl) (k := 5603) rfl d_Md_law_77 ?_
      have hP : va_P G.1 CL (cw_Md G h0 q0 o0) H := hP
      have hD : va_D A (cw_Md G h0 q0 o0) := hD
      exact W.iret (v := ((gA o0 1) 5603)) hx hb hr (fun t ht hW => ⟨⟨((gA o0 1) 5603), (), rfl, h, by rw [ht]; exact hP, va_K.moved hW.alike hK, hD⟩, hS.F ht⟩) hS.2.2 d_Md_law_78
    have h := h.2 c5
    by_cases c6 : a0 = (13 : Int32)
    · have h := h.1 c6
      refine lv_tableIn (tgt := 79) hx hb d_Md_law_20 (by rw [c6]; decide) (by rw [c6]; decide) (off := 59) (by rw [c6]; rfl) (by decide) ?_
      refine lv_aload_n hx hb d_Md_law_79 rfl (lv_at hl 0 rfl) ?_
      refine va_get (D := G.1) (ci := 11) (v := .ref (q0 1)) (C := R_Md) (T := T_Md) (N := 45) hx hb hts i_Md hown hK hP 0 rfl rfl 1 (by decide) (hts _ wf_Md_7) (fun _ h9 => h9) rfl d_Md_law_80 ?_
      refine lv_sipush (v := (5604 : Int32)) hx hb d_Md_law_83 (by decide) ?_
      refine xa_iald hx hb hK hP 1 0 rfl rfl (vp_lit rfl) (k := 5604) rfl d_Md_law_86 ?_
      have hP : va_P G.1 CL (cw_Md G h0 q0 o0) H := hP
      have hD : va_D A (cw_Md G h0 q0 o0) := hD
      exact W.iret (v := ((gA o0 1) 5604)) hx hb hr (fun t ht hW => ⟨⟨((gA o0 1) 5604), (), rfl, h, by rw [ht]; exact hP, va_K.moved hW.alike hK, hD⟩, hS.F ht⟩) hS.2.2 d_Md_law_87
    have h := h.2 c6
    refine lv_tableOut (tgt := 88) hx hb d_Md_law_20 (sw_out a0 [(10 : Int32), (11 : Int32), (12 : Int32), (13 : Int32)] rfl (by intro k hk; simp only [List.mem_cons, List.not_mem_nil, or_false] at hk; rcases hk with rfl | rfl | rfl | rfl <;> assumption)) (by decide) ?_
    refine lv_iconst (v := (-1 : Int32)) hx hb d_Md_law_88 (by decide) ?_
    have hP : va_P G.1 CL (cw_Md G h0 q0 o0) H := hP
    have hD : va_D A (cw_Md G h0 q0 o0) := hD
    exact W.iret (v := (-1 : Int32)) hx hb hr (fun t ht hW => ⟨⟨(-1 : Int32), (), rfl, h, by rw [ht]; exact hP, va_K.moved hW.alike hK, hD⟩, hS.F ht⟩) hS.2.2 d_Md_law_89
  · have h := h.2 c2
    refine lv_aload_n hx hb d_Md_law_8 rfl (lv_at hl 0 rfl) ?_
    refine va_get (D := G.1) (ci := 11) (v := .ref (q0 1)) (C := R_Md) (T := T_Md) (N := 45) hx hb hts i_Md hown hK hP 0 rfl rfl 1 (by decide) (hts _ wf_Md_7) (fun _ h9 => h9) rfl d_Md_law_9 ?_
    refine lv_sipush (v := (5605 : Int32)) hx hb d_Md_law_12 (by decide) ?_
    refine lv_iload_n hx hb d_Md_law_15 rfl (lv_at hl 1 rfl) ?_
    refine lv_iadd hx hb d_Md_law_16 ?_
    have g7 := h.1
    have h := h.2
    refine xa_iald hx hb hK hP 1 0 rfl rfl g7 (k := ((5605 : Int32) + a0).toNatClampNeg) rfl d_Md_law_17 ?_
    refine lv_topi (fun y8 ey8 => ?_)
    have h := h y8 ey8
    have hP : va_P G.1 CL (cw_Md G h0 q0 o0) H := hP
    have hD : va_D A (cw_Md G h0 q0 o0) := hD
    exact W.iret (v := y8) hx hb hr (fun t ht hW => ⟨⟨y8, (), rfl, h, by rw [ht]; exact hP, va_K.moved hW.alike hK, hD⟩, hS.F ht⟩) hS.2.2 d_Md_law_18
abbrev b_Md_say : ByteArray := prog_14_method_28_code
def y_Md_say : MethodName := ⟨R_Md, "say", "(I)I"⟩
abbrev w_Md_say : List Cond := Cond.code y_Md_say b_Md_say 2 (some .int) :: gw_tbl
theorem d_Md_say_0 : decode b_Md_say 0 = .ok (.iload_n 1, 1) := by decide +kernel
theorem d_Md_say_1 : decode b_Md_say 1 = .ok (.iconst 0, 1) := by decide +kernel
theorem d_Md_say_2 : decode b_Md_say 2 = .ok (.bipush 7, 2) := by decide +kernel
theorem d_Md_say_4 : decode b_Md_say 4 = .ok (.invokestatic 76, 3) := by decide +kernel
theorem d_Md_say_7 : decode b_Md_say 7 = .ok (.ifCond .eq 30, 3) := by decide +kernel
theorem d_Md_say_10 : decode b_Md_say 10 = .ok (.aload_n 0, 1) := by decide +kernel
theorem d_Md_say_11 : decode b_Md_say 11 = .ok (.getfield 7, 3) := by decide +kernel
theorem d_Md_say_14 : decode b_Md_say 14 = .ok (.sipush 5740, 3) := by decide +kernel
theorem d_Md_say_17 : decode b_Md_say 17 = .ok (.bipush 17, 2) := by decide +kernel
theorem d_Md_say_19 : decode b_Md_say 19 = .ok (.iload_n 1, 1) := by decide +kernel
theorem d_Md_say_20 : decode b_Md_say 20 = .ok (.imul, 1) := by decide +kernel
theorem d_Md_say_21 : decode b_Md_say 21 = .ok (.iadd, 1) := by decide +kernel
theorem d_Md_say_22 : decode b_Md_say 22 = .ok (.iaload, 1) := by decide +kernel
theorem d_Md_say_23 : decode b_Md_say 23 = .ok (.ifCond .eq 14, 3) := by decide +kernel
theorem d_Md_say_26 : decode b_Md_say 26 = .ok (.aload_n 0, 1) := by decide +kernel
theorem d_Md_say_27 : decode b_Md_say 27 = .ok (.getfield 7, 3) := by decide +kernel
theorem d_Md_say_30 : decode b_Md_say 30 = .ok (.iconst 3, 1) := by decide +kernel
theorem d_Md_say_31 : decode b_Md_say 31 = .ok (.iaload, 1) := by decide +kernel
theorem d_Md_say_32 : decode b_Md_say 32 = .ok (.bipush 20, 2) := by decide +kernel
theorem d_Md_say_34 : decode b_Md_say 34 = .ok (.if_icmp .ne 5, 3) := by decide +kernel
theorem d_Md_say_37 : decode b_Md_say 37 = .ok (.iconst (-1), 1) := by decide +kernel
theorem d_Md_say_38 : decode b_Md_say 38 = .ok (.ireturn, 1) := by decide +kernel
theorem d_Md_say_39 : decode b_Md_say 39 = .ok (.aload_n 0, 1) := by decide +kernel
theorem d_Md_say_40 : decode b_Md_say 40 = .ok (.getfield 7, 3) := by decide +kernel
theorem d_Md_say_43 : decode b_Md_say 43 = .ok (.bipush 40, 2) := by decide +kernel
theorem d_Md_say_45 : decode b_Md_say 45 = .ok (.iconst 2, 1) := by decide +kernel
theorem d_Md_say_46 : decode b_Md_say 46 = .ok (.aload_n 0, 1) := by decide +kernel
theorem d_Md_say_47 : decode b_Md_say 47 = .ok (.getfield 7, 3) := by decide +kernel
theorem d_Md_say_50 : decode b_Md_say 50 = .ok (.iconst 3, 1) := by decide +kernel
theorem d_Md_say_51 : decode b_Md_say 51 = .ok (.iaload, 1) := by decide +kernel
theorem d_Md_say_52 : decode b_Md_say 52 = .ok (.imul, 1) := by decide +kernel
theorem d_Md_say_53 : decode b_Md_say 53 = .ok (.iadd, 1) := by decide +kernel
theorem d_Md_say_54 : decode b_Md_say 54 = .ok (.iload_n 1, 1) := by decide +kernel
theorem d_Md_say_55 : decode b_Md_say 55 = .ok (.iastore, 1) := by decide +kernel
theorem d_Md_say_56 : decode b_Md_say 56 = .ok (.aload_n 0, 1) := by decide +kernel
theorem d_Md_say_57 : decode b_Md_say 57 = .ok (.getfield 7, 3) := by decide +kernel
theorem d_Md_say_60 : decode b_Md_say 60 = .ok (.bipush 40, 2) := by decide +kernel
theorem d_Md_say_62 : decode b_Md_say 62 = .ok (.iconst 2, 1) := by decide +kernel
theorem d_Md_say_63 : decode b_Md_say 63 = .ok (.aload_n 0, 1) := by decide +kernel
theorem d_Md_say_64 : decode b_Md_say 64 = .ok (.getfield 7, 3) := by decide +kernel
theorem d_Md_say_67 : decode b_Md_say 67 = .ok (.iconst 3, 1) := by decide +kernel
theorem d_Md_say_68 : decode b_Md_say 68 = .ok (.iaload, 1) := by decide +kernel
theorem d_Md_say_69 : decode b_Md_say 69 = .ok (.imul, 1) := by decide +kernel
theorem d_Md_say_70 : decode b_Md_say 70 = .ok (.iadd, 1) := by decide +kernel
theorem d_Md_say_71 : decode b_Md_say 71 = .ok (.iconst 1, 1) := by decide +kernel
theorem d_Md_say_72 : decode b_Md_say 72 = .ok (.iadd, 1) := by decide +kernel
theorem d_Md_say_73 : decode b_Md_say 73 = .ok (.aload_n 0, 1) := by decide +kernel
theorem d_Md_say_74 : decode b_Md_say 74 = .ok (.getfield 7, 3) := by decide +kernel
theorem d_Md_say_77 : decode b_Md_say 77 = .ok (.iconst 0, 1) := by decide +kernel
theorem d_Md_say_78 : decode b_Md_say 78 = .ok (.iaload, 1) := by decide +kernel
theorem d_Md_say_79 : decode b_Md_say 79 = .ok (.iastore, 1) := by decide +kernel
theorem d_Md_say_80 : decode b_Md_say 80 = .ok (.aload_n 0, 1) := by decide +kernel
theorem d_Md_say_81 : decode b_Md_say 81 = .ok (.getfield 7, 3) := by decide +kernel
theorem d_Md_say_84 : decode b_Md_say 84 = .ok (.iconst 3, 1) := by decide +kernel
theorem d_Md_say_85 : decode b_Md_say 85 = .ok (.dup2, 1) := by decide +kernel
theorem d_Md_say_86 : decode b_Md_say 86 = .ok (.iaload, 1) := by decide +kernel
theorem d_Md_say_87 : decode b_Md_say 87 = .ok (.iconst 1, 1) := by decide +kernel
theorem d_Md_say_88 : decode b_Md_say 88 = .ok (.iadd, 1) := by decide +kernel
theorem d_Md_say_89 : decode b_Md_say 89 = .ok (.iastore, 1) := by decide +kernel
theorem d_Md_say_90 : decode b_Md_say 90 = .ok (.aload_n 0, 1) := by decide +kernel
theorem d_Md_say_91 : decode b_Md_say 91 = .ok (.getfield 7, 3) := by decide +kernel
theorem d_Md_say_94 : decode b_Md_say 94 = .ok (.iconst 3, 1) := by decide +kernel
theorem d_Md_say_95 : decode b_Md_say 95 = .ok (.iaload, 1) := by decide +kernel
theorem d_Md_say_96 : decode b_Md_say 96 = .ok (.ireturn, 1) := by decide +kernel
def f_Md_say (a0 : Int32) (o0 : Ob) (Q : Int32 → Ob → Prop) : Prop := f_Md_isIn a0 (0 : Int32) (7 : Int32) (fun z1 => (z1 = 0 → (Q (-1 : Int32) o0)) ∧ (¬ z1 = 0 → ((vp_in ((5740 : Int32) + ((17 : Int32) * a0)) 6100) ∧ (∀ y4 : Int32, y4 = ((gA o0 1) (((5740 : Int32) + ((17 : Int32) * a0)).toNatClampNeg)) → ((y4 = 0 → (Q (-1 : Int32) o0)) ∧ (¬ y4 = 0 → ((((gA o0 1) 3) = (20 : Int32) → (Q (-1 : Int32) o0)) ∧ (¬ ((gA o0 1) 3) = (20 : Int32) → ((vp_in ((40 : Int32) + ((2 : Int32) * ((gA o0 1) 3))) 6100) ∧ (∀ y8 : Int32, y8 = ((upd (gA o0 1) (((40 : Int32) + ((2 : Int32) * ((gA o0 1) 3))).toNatClampNeg) a0) 3) → (∀ y9 : Int32, y9 = (((40 : Int32) + ((2 : Int32) * y8)) + (1 : Int32)) → (∀ y10 : Int32, y10 = ((upd (gA o0 1) (((40 : Int32) + ((2 : Int32) * ((gA o0 1) 3))).toNatClampNeg) a0) 0) → ((vp_in y9 6100) ∧ (∀ y12 : Int32, y12 = ((upd (upd (gA o0 1) (((40 : Int32) + ((2 : Int32) * ((gA o0 1) 3))).toNatClampNeg) a0) y9.toNatClampNeg y10) 3) → (∀ y13 : Int32, y13 = ((upd (upd (upd (gA o0 1) (((40 : Int32) + ((2 : Int32) * ((gA o0 1) 3))).toNatClampNeg) a0) y9.toNatClampNeg y10) 3 (y12 + (1 : Int32))) 3) → (Q y13 (sA o0 1 (upd (upd (upd (gA o0 1) (((40 : Int32) + ((2 : Int32) * ((gA o0 1) 3))).toNatClampNeg) a0) y9.toNatClampNeg y10) 3 (y12 + (1 : Int32))))))))))))))))))))
abbrev rm_Md_say : Room := { frames := 1, cells := 0, slots := 0, locals := 22 }
set_option maxHeartbeats 4000000 in
set_option maxRecDepth 100000 in
theorem c_Md_say {l : Launch} {G : Gl} {h0 : Nat} {q0 : Nat → Nat} {a0 : Int32} {o0 : Ob} {Q : Int32 → Ob → Prop} (sz : Nat) (h : f_Md_say a0 o0 Q) : Met l y_Md_say w_Md_say rm_Md_say (PcW G [.ref h0, .int a0] sz (cw_Md G h0 q0 o0)) (va_Qi (fun (r : Int32) (u : Ob) => Q r u) (fun (u : Ob) t => BW G (va_A (cw_Md G h0 q0 o0) sz) (cw_Md G h0 q0 u) t) (va_A (cw_Md G h0 q0 o0) sz)) 0 0 (va_A (cw_Md G h0 q0 o0) sz) := by
  refine Met.ofW (cc := b_Md_say) (maxL := 2) (ret := (some .int)) (by decide +kernel) rfl ?_
  intro p e s m args below meth c s₁ B hml hv
  obtain ⟨rfl, hsz, hP, hK, hD0, hE⟩ := hv
  have hx := B.exec
  have hb := B.bytes
  have hr := B.returns
  have hts0 := atoms_spec (ws := w_Md_say) B.pre
  have hts : ∀ w ∈ gw_tbl, w.before ([.ref h0, .int a0]).toArray s = true := fun w hw => hts0 w (List.mem_cons_of_mem _ hw)
  have hown : s.vm.findClass R_Md = some m.cls := findClass_of_methodNamed B.named
  have hlocks := B.notSynchronized
  subst hsz
  have hD := hD0.self (sz := s.heap.size)
  generalize hAe : va_A (cw_Md G h0 q0 o0) s.heap.size = A at hD hE ⊢
  have hA : ∀ q : Nat, s.heap.size ≤ q → A q := fun q h => by rw [← hAe]; exact Or.inr h
  have hS : va_S A s.heap s.heap [] := va_S.rf
  have C : Cx p s m ([.ref h0, .int a0]).toArray meth c R_Md b_Md_say 2 (some .int) G A := ⟨hx, hb, hml, hown, hr, hts, hK, hA, hlocks, hE⟩
  have hl := lv_entry ([.ref h0, .int a0]) (n := 2) (Nat.le_of_ble_eq_true rfl)
  rw [lg_entry_eq]
  generalize (lg_sl ([.ref h0, .int a0]) ++ List.replicate (2 - (lg_sl ([.ref h0, .int a0])).length) Slot.unset).toArray = ls at hl ⊢
  have hl : lv_has ls 2 [(0, .ref h0), (1, .int a0)] := hl
  have hD : va_D A [(h0, .inr (11, [.int (gI o0 0), .ref (q0 1), .ref (q0 2), .ref (q0 3), .ref (q0 4), .ref (q0 5), .ref (q0 6), .int (gI o0 7), .int (gI o0 8), .int (gI o0 9), .int (gI o0 10), .int (gI o0 11), .int (gI o0 12), .int (gI o0 13), .int (gI o0 14), .long (gL o0 15), .int (gI o0 16), .int (gI o0 17), .int (gI o0 18), .int (gI o0 19), .int (gI o0 20), .int (gI o0 21), .int (gI o0 22), .int (gI o0 23), .int (gI o0 24), .int (gI o0 25), .int (gI o0 26), .int (gI o0 27), .ref (q0 28), .long (gL o0 29), .int (gI o0 30), .ref (q0 31), .ref (q0 32), .ref (q0 33), .int (gI o0 34), .int (gI o0 35), .int (gI o0 36), .int (gI o0 37), .ref (q0 38), .ref (q0 39), .int (gI o0 40), .ref (q0 41), .ref (q0 42), .ref (q0 43), .ref (q0 44)])), kI G (q0 1) 6100 (gA o0 1), kI G (q0 2) 6100 (gA o0 2), kJ G (q0 3) 2016 (gB o0 3), kJ G (q0 4) 2016 (gB o0 4), kI G (q0 5) 300 (gA o0 5), kI G (q0 6) 400 (gA o0 6), kJ G (q0 28) 10 (gB o0 28), kI G (q0 31) 969 (gA o0 31), kI G (q0 32) 969 (gA o0 32), kI G (q0 33) 969 (gA o0 33), kI G (q0 38) 5 (gA o0 38), kI G (q0 39) 5120 (gA o0 39), kI G (q0 41) 5 (gA o0 41), kZ G (q0 42) 1024 (gA o0 42), kI G (q0 43) 8192 (gA o0 43), kI G (q0 44) 8192 (gA o0 44)] := hD
  unfold f_Md_say at h
  suffices key : ∀ (H : Heap) (locs : List Loc), va_P G.1 CL [(h0, .inr (11, [.int (gI o0 0), .ref (q0 1), .ref (q0 2), .ref (q0 3), .ref (q0 4), .ref (q0 5), .ref (q0 6), .int (gI o0 7), .int (gI o0 8), .int (gI o0 9), .int (gI o0 10), .int (gI o0 11), .int (gI o0 12), .int (gI o0 13), .int (gI o0 14), .long (gL o0 15), .int (gI o0 16), .int (gI o0 17), .int (gI o0 18), .int (gI o0 19), .int (gI o0 20), .int (gI o0 21), .int (gI o0 22), .int (gI o0 23), .int (gI o0 24), .int (gI o0 25), .int (gI o0 26), .int (gI o0 27), .ref (q0 28), .long (gL o0 29), .int (gI o0 30), .ref (q0 31), .ref (q0 32), .ref (q0 33), .int (gI o0 34), .int (gI o0 35), .int (gI o0 36), .int (gI o0 37), .ref (q0 38), .ref (q0 39), .int (gI o0 40), .ref (q0 41), .ref (q0 42), .ref (q0 43), .ref (q0 44)])), kI G (q0 1) 6100 (gA o0 1), kI G (q0 2) 6100 (gA o0 2), kJ G (q0 3) 2016 (gB o0 3), kJ G (q0 4) 2016 (gB o0 4), kI G (q0 5) 300 (gA o0 5), kI G (q0 6) 400 (gA o0 6), kJ G (q0 28) 10 (gB o0 28), kI G (q0 31) 969 (gA o0 31), kI G (q0 32) 969 (gA o0 32), kI G (q0 33) 969 (gA o0 33), kI G (q0 38) 5 (gA o0 38), kI G (q0 39) 5120 (gA o0 39), kI G (q0 41) 5 (gA o0 41), kZ G (q0 42) 1024 (gA o0 42), kI G (q0 43) 8192 (gA o0 43), kI G (q0 44) 8192 (gA o0 44)] H → va_S A s.heap H locs → W p l e rm_Md_say s m ([.ref h0, .int a0]).toArray below meth c H locs 0 0 (MQ below (va_Qi (fun (r : Int32) (u : Ob) => Q r u) (fun (u : Ob) t => BW G A (cw_Md G h0 q0 u) t) A) ([.ref h0, .int a0]).toArray s 0 0 A) (F0 m 0 ls []) from key s.heap [] hP hS
  intro H locs hP hS
  refine lv_iload_n hx hb d_Md_say_0 rfl (lv_at hl 1 rfl) ?_
  refine lv_iconst (v := (0 : Int32)) hx hb d_Md_say_1 (by decide) ?_
  refine lv_bipush (v := (7 : Int32)) hx hb d_Md_say_2 (by decide) ?_
  refine cl_Si (b := b_Md_say) (As := [.int a0, .int (0 : Int32), .int (7 : Int32)]) (rest := []) (ws := [(h0, .inr (11, [.int (gI o0 0), .ref (q0 1), .ref (q0 2), .ref (q0 3), .ref (q0 4), .ref (q0 5), .ref (q0 6), .int (gI o0 7), .int (gI o0 8), .int (gI o0 9), .int (gI o0 10), .int (gI o0 11), .int (gI o0 12), .int (gI o0 13), .int (gI o0 14), .long (gL o0 15), .int (gI o0 16), .int (gI o0 17), .int (gI o0 18), .int (gI o0 19), .int (gI o0 20), .int (gI o0 21), .int (gI o0 22), .int (gI o0 23), .int (gI o0 24), .int (gI o0 25), .int (gI o0 26), .int (gI o0 27), .ref (q0 28), .long (gL o0 29), .int (gI o0 30), .ref (q0 31), .ref (q0 32), .ref (q0 33), .int (gI o0 34), .int (gI o0 35), .int (gI o0 36), .int (gI o0 37), .ref (q0 38), .ref (q0 39), .int (gI o0 40), .ref (q0 41), .ref (q0 42), .ref (q0 43), .ref (q0 44)])), kI G (q0 1) 6100 (gA o0 1), kI G (q0 2) 6100 (gA o0 2), kJ G (q0 3) 2016 (gB o0 3), kJ G (q0 4) 2016 (gB o0 4), kI G (q0 5) 300 (gA o0 5), kI G (q0 6) 400 (gA o0 6), kJ G (q0 28) 10 (gB o0 28), kI G (q0 31) 969 (gA o0 31), kI G (q0 32) 969 (gA o0 32), kI G (q0 33) 969 (gA o0 33), kI G (q0 38) 5 (gA o0 38), kI G (q0 39) 5120 (gA o0 39), kI G (q0 41) 5 (gA o0 41), kZ G (q0 42) 1024 (gA o0 42), kI G (q0 43) 8192 (gA o0 43), kI G (q0 44) 8192 (gA o0 44)]) (wr := [(h0, .inr (11, [.int (gI o0 0), .ref (q0 1), .ref (q0 2), .ref (q0 3), .ref (q0 4), .ref (q0 5), .ref (q0 6), .int (gI o0 7), .int (gI o0 8), .int (gI o0 9), .int (gI o0 10), .int (gI o0 11), .int (gI o0 12), .int (gI o0 13), .int (gI o0 14), .long (gL o0 15), .int (gI o0 16), .int (gI o0 17), .int (gI o0 18), .int (gI o0 19), .int (gI o0 20), .int (gI o0 21), .int (gI o0 22), .int (gI o0 23), .int (gI o0 24), .int (gI o0 25), .int (gI o0 26), .int (gI o0 27), .ref (q0 28), .long (gL o0 29), .int (gI o0 30), .ref (q0 31), .ref (q0 32), .ref (q0 33), .int (gI o0 34), .int (gI o0 35), .int (gI o0 36), .int (gI o0 37), .ref (q0 38), .ref (q0 39), .int (gI o0 40), .ref (q0 41), .ref (q0 42), .ref (q0 43), .ref (q0 44)])), kI G (q0 1) 6100 (gA o0 1), kI G (q0 2) 6100 (gA o0 2), kJ G (q0 3) 2016 (gB o0 3), kJ G (q0 4) 2016 (gB o0 4), kI G (q0 5) 300 (gA o0 5), kI G (q0 6) 400 (gA o0 6), kJ G (q0 28) 10 (gB o0 28), kI G (q0 31) 969 (gA o0 31), kI G (q0 32) 969 (gA o0 32), kI G (q0 33) 969 (gA o0 33), kI G (q0 38) 5 (gA o0 38), kI G (q0 39) 5120 (gA o0 39), kI G (q0 41) 5 (gA o0 41), kZ G (q0 42) 1024 (gA o0 42), kI G (q0 43) 8192 (gA o0 43), kI G (q0 44) 8192 (gA o0 44)]) (w2 := fun (u : Unit) => [(h0, .inr (11, [.int (gI o0 0), .ref (q0 1), .ref (q0 2), .ref (q0 3), .ref (q0 4), .ref (q0 5), .ref (q0 6), .int (gI o0 7), .int (gI o0 8), .int (gI o0 9), .int (gI o0 10), .int (gI o0 11), .int (gI o0 12), .int (gI o0 13), .int (gI o0 14), .long (gL o0 15), .int (gI o0 16), .int (gI o0 17), .int (gI o0 18), .int (gI o0 19), .int (gI o0 20), .int (gI o0 21), .int (gI o0 22), .int (gI o0 23), .int (gI o0 24), .int (gI o0 25), .int (gI o0 26), .int (gI o0 27), .ref (q0 28), .long (gL o0 29), .int (gI o0 30), .ref (q0 31), .ref (q0 32), .ref (q0 33), .int (gI o0 34), .int (gI o0 35), .int (gI o0 36), .int (gI o0 37), .ref (q0 38), .ref (q0 39), .int (gI o0 40), .ref (q0 41), .ref (q0 42), .ref (q0 43), .ref (q0 44)])), kI G (q0 1) 6100 (gA o0 1), kI G (q0 2) 6100 (gA o0 2), kJ G (q0 3) 2016 (gB o0 3), kJ G (q0 4) 2016 (gB o0 4), kI G (q0 5) 300 (gA o0 5), kI G (q0 6) 400 (gA o0 6), kJ G (q0 28) 10 (gB o0 28), kI G (q0 31) 969 (gA o0 31), kI G (q0 32) 969 (gA o0 32), kI G (q0 33) 969 (gA o0 33), kI G (q0 38) 5 (gA o0 38), kI G (q0 39) 5120 (gA o0 39), kI G (q0 41) 5 (gA o0 41), kZ G (q0 42) 1024 (gA o0 42), kI G (q0 43) 8192 (gA o0 43), kI G (q0 44) 8192 (gA o0 44)]) C (c_Md_isIn H.size h) ws_Md_76 ⟨Nat.le_of_ble_eq_true rfl, Nat.le_of_ble_eq_true rfl⟩ hP hD hS [] [0, 1, 2, 3, 4, 5, 6, 7, 8, 9, 10, 11, 12, 13, 14, 15, 16] rfl rfl (by decide) (by decide) (by decide) [0, 1, 2, 3, 4, 5, 6, 7, 8, 9, 10, 11, 12, 13, 14, 15, 16] (by decide) (fun u => rfl) rfl hl.1 rfl (lv_room (Nat.le_of_ble_eq_true rfl)) d_Md_say_4 ⟨Nat.le_of_ble_eq_true rfl, Nat.le_of_ble_eq_true rfl⟩ rfl rfl (fun z1 u H locs h hP hD hS => ?_)
  have hP : va_P G.1 CL [(h0, .inr (11, [.int (gI o0 0), .ref (q0 1), .ref (q0 2), .ref (q0 3), .ref (q0 4), .ref (q0 5), .ref (q0 6), .int (gI o0 7), .int (gI o0 8), .int (gI o0 9), .int (gI o0 10), .int (gI o0 11), .int (gI o0 12), .int (gI o0 13), .int (gI o0 14), .long (gL o0 15), .int (gI o0 16), .int (gI o0 17), .int (gI o0 18), .int (gI o0 19), .int (gI o0 20), .int (gI o0 21), .int (gI o0 22), .int (gI o0 23), .int (gI o0 24), .int (gI o0 25), .int (gI o0 26), .int (gI o0 27), .ref (q0 28), .long (gL o0 29), .int (gI o0 30), .ref (q0 31), .ref (q0 32), .ref (q0 33), .int (gI o0 34), .int (gI o0 35), .int (gI o0 36), .int (gI o0 37), .ref (q0 38), .ref (q0 39), .int (gI o0 40), .ref (q0 41), .ref (q0 42), .ref (q0 43), .ref (q0 44)])), kI G (q0 1) 6100 (gA o0 1), kI G (q0 2) 6100 (gA o0 2), kJ G (q0 3) 2016 (gB o0 3), kJ G (q0 4) 2016 (gB o0 4), kI G (q0 5) 300 (gA o0 5), kI G (q0 6) 400 (gA o0 6), kJ G (q0 28) 10 (gB o0 28), kI G (q0 31) 969 (gA o0 31), kI G (q0 32) 969 (gA o0 32), kI G (q0 33) 969 (gA o0 33), kI G (q0 38) 5 (gA o0 38), kI G (q0 39) 5120 (gA o0 39), kI G (q0 41) 5 (gA o0 41), kZ G (q0 42) 1024 (gA o0 42), kI G (q0 43) 8192 (gA o0 43), kI G (q0 44) 8192 (gA o0 44)] H := hP
  have hD : va_D A [(h0, .inr (11, [.int (gI o0 0), .ref (q0 1), .ref (q0 2), .ref (q0 3), .ref (q0 4), .ref (q0 5), .ref (q0 6), .int (gI o0 7), .int (gI o0 8), .int (gI o0 9), .int (gI o0 10), .int (gI o0 11), .int (gI o0 12), .int (gI o0 13), .int (gI o0 14), .long (gL o0 15), .int (gI o0 16), .int (gI o0 17), .int (gI o0 18), .int (gI o0 19), .int (gI o0 20), .int (gI o0 21), .int (gI o0 22), .int (gI o0 23), .int (gI o0 24), .int (gI o0 25), .int (gI o0 26), .int (gI o0 27), .ref (q0 28), .long (gL o0 29), .int (gI o0 30), .ref (q0 31), .ref (q0 32), .ref (q0 33), .int (gI o0 34), .int (gI o0 35), .int (gI o0 36), .int (gI o0 37), .ref (q0 38), .ref (q0 39), .int (gI o0 40), .ref (q0 41), .ref (q0 42), .ref (q0 43), .ref (q0 44)])), kI G (q0 1) 6100 (gA o0 1), kI G (q0 2) 6100 (gA o0 2), kJ G (q0 3) 2016 (gB o0 3), kJ G (q0 4) 2016 (gB o0 4), kI G (q0 5) 300 (gA o0 5), kI G (q0 6) 400 (gA o0 6), kJ G (q0 28) 10 (gB o0 28), kI G (q0 31) 969 (gA o0 31), kI G (q0 32) 969 (gA o0 32), kI G (q0 33) 969 (gA o0 33), kI G (q0 38) 5 (gA o0 38), kI G (q0 39) 5120 (gA o0 39), kI G (q0 41) 5 (gA o0 41), kZ G (q0 42) 1024 (gA o0 42), kI G (q0 43) 8192 (gA o0 43), kI G (q0 44) 8192 (gA o0 44)] := hD
  refine lv_if_eq (tgt := 37) hx hb d_Md_say_7 (by decide) (fun c2 => ?_) (fun c2 => ?_)
  · have h := h.1 c2
    refine lv_iconst (v := (-1 : Int32)) hx hb d_Md_say_37 (by decide) ?_
    have hP : va_P G.1 CL (cw_Md G h0 q0 o0) H := hP
    have hD : va_D A (cw_Md G h0 q0 o0) := hD
    exact W.iret (v := (-1 : Int32)) hx hb hr (fun t ht hW => ⟨⟨(-1 : Int32), o0, rfl, h, by rw [ht]; exact hP, va_K.moved hW.alike hK, hD⟩, hS.F ht⟩) hS.2.2 d_Md_say_38
  · have h := h.2 c2
    refine lv_aload_n hx hb d_Md_say_10 rfl (lv_at hl 0 rfl) ?_
    refine va_get (D := G.1) (ci := 11) (v := .ref (q0 1)) (C := R_Md) (T := T_Md) (N := 45) hx hb hts i_Md hown hK hP 0 rfl rfl 1 (by decide) (hts _ wf_Md_7) (fun _ h9 => h9) rfl d_Md_say_11 ?_
    refine lv_sipush (v := (5740 : Int32)) hx hb d_Md_say_14 (by decide) ?_
    refine lv_bipush (v := (17 : Int32)) hx hb d_Md_say_17 (by decide) ?_
    refine lv_iload_n hx hb d_Md_say_19 rfl (lv_at hl 1 rfl) ?_
    refine lv_imul hx hb d_Md_say_20 ?_
    refine lv_iadd hx hb d_Md_say_21 ?_
    have g3 := h.1
    have h := h.2
    refine xa_iald hx hb hK hP 1 0 rfl rfl g3 (k := ((5740 : Int32) + ((17 : Int32) * a0)).toNatClampNeg) rfl d_Md_say_22 ?_
    refine lv_topi (fun y4 ey4 => ?_)
    have h := h y4 ey4
    refine lv_if_eq (tgt := 37) hx hb d_Md_say_23 (by decide) (fun c5 => ?_) (fun c5 => ?_)
    · have h := h.1 c5
      refine lv_iconst (v := (-1 : Int32)) hx hb d_Md_say_37 (by decide) ?_
      have hP : va_P G.1 CL (cw_Md G h0 q0 o0) H := hP
      have hD : va_D A (cw_Md G h0 q0 o0) := hD
      exact W.iret (v := (-1 : Int32)) hx hb hr (fun t ht hW => ⟨⟨(-1 : Int32), o0, rfl, h, by rw [ht]; exact hP, va_K.moved hW.alike hK, hD⟩, hS.F ht⟩) hS.2.2 d_Md_say_38
    · have h := h.2 c5
      refine lv_aload_n hx hb d_Md_say_26 rfl (lv_at hl 0 rfl) ?_
      refine va_get (D := G.1) (ci := 11) (v := .ref (q0 1)) (C := R_Md) (T := T_Md) (N := 45) hx hb hts i_Md hown hK hP 0 rfl rfl 1 (by decide) (hts _ wf_Md_7) (fun _ h9 => h9) rfl d_Md_say_27 ?_
      refine lv_iconst (v := (3 : Int32)) hx hb d_Md_say_30 (by decide) ?_
      refine xa_iald hx hb hK hP 1 0 rfl rfl (vp_lit rfl) (k := 3) rfl d_Md_say_31 ?_
      refine lv_bipush (v := (20 : Int32)) hx hb d_Md_say_32 (by decide) ?_
      refine lv_icmp_ne (tgt := 39) hx hb d_Md_say_34 (by decide) (fun c6 => ?_) (fun c6 => ?_)
      · have h := h.2 c6
        refine lv_aload_n hx hb d_Md_say_39 rfl (lv_at hl 0 rfl) ?_
        refine va_get (D := G.1) (ci := 11) (v := .ref (q0 1)) (C := R_Md) (T := T_Md) (N := 45) hx hb hts i_Md hown hK hP 0 rfl rfl 1 (by decide) (hts _ wf_Md_7) (fun _ h9 => h9) rfl d_Md_say_40 ?_
        refine lv_bipush (v := (40 : Int32)) hx hb d_Md_say_43 (by decide) ?_
        refine lv_iconst (v := (2 : Int32)) hx hb d_Md_say_45 (by decide) ?_
        refine lv_aload_n hx hb d_Md_say_46 rfl (lv_at hl 0 rfl) ?_
        refine va_get (D := G.1) (ci := 11) (v := .ref (q0 1)) (C := R_Md) (T := T_Md) (N := 45) hx hb hts i_Md hown hK hP 0 rfl rfl 1 (by decide) (hts _ wf_Md_7) (fun _ h9 => h9) rfl d_Md_say_47 ?_
        refine lv_iconst (v := (3 : Int32)) hx hb d_Md_say_50 (by decide) ?_
        refine xa_iald hx hb hK hP 1 0 rfl rfl (vp_lit rfl) (k := 3) rfl d_Md_say_51 ?_
        refine lv_imul hx hb d_Md_say_52 ?_
        refine lv_iadd hx hb d_Md_say_53 ?_
        refine lv_iload_n hx hb d_Md_say_54 rfl (lv_at hl 1 rfl) ?_
        have g7 := h.1
        have h := h.2
        refine xa_iast hx hb hK hP hD hS 1 0 rfl rfl g7 (k := ((40 : Int32) + ((2 : Int32) * ((gA o0 1) 3))).toNatClampNeg) rfl d_Md_say_55 (fun H locs hP hD hS => ?_)
        have hP : va_P G.1 CL [(h0, .inr (11, [.int (gI o0 0), .ref (q0 1), .ref (q0 2), .ref (q0 3), .ref (q0 4), .ref (q0 5), .ref (q0 6), .int (gI o0 7), .int (gI o0 8), .int (gI o0 9), .int (gI o0 10), .int (gI o0 11), .int (gI o0 12), .int (gI o0 13), .int (gI o0 14), .long (gL o0 15), .int (gI o0 16), .int (gI o0 17), .int (gI o0 18), .int (gI o0 19), .int (gI o0 20), .int (gI o0 21), .int (gI o0 22), .int (gI o0 23), .int (gI o0 24), .int (gI o0 25), .int (gI o0 26), .int (gI o0 27), .ref (q0 28), .long (gL o0 29), .int (gI o0 30), .ref (q0 31), .ref (q0 32), .ref (q0 33), .int (gI o0 34), .int (gI o0 35), .int (gI o0 36), .int (gI o0 37), .ref (q0 38), .ref (q0 39), .int (gI o0 40), .ref (q0 41), .ref (q0 42), .ref (q0 43), .ref (q0 44)])), kI G (q0 1) 6100 (upd (gA o0 1) (((40 : Int32) + ((2 : Int32) * ((gA o0 1) 3))).toNatClampNeg) a0), kI G (q0 2) 6100 (gA o0 2), kJ G (q0 3) 2016 (gB o0 3), kJ G (q0 4) 2016 (gB o0 4), kI G (q0 5) 300 (gA o0 5), kI G (q0 6) 400 (gA o0 6), kJ G (q0 28) 10 (gB o0 28), kI G (q0 31) 969 (gA o0 31), kI G (q0 32) 969 (gA o0 32), kI G (q0 33) 969 (gA o0 33), kI G (q0 38) 5 (gA o0 38), kI G (q0 39) 5120 (gA o0 39), kI G (q0 41) 5 (gA o0 41), kZ G (q0 42) 1024 (gA o0 42), kI G (q0 43) 8192 (gA o0 43), kI G (q0 44) 8192 (gA o0 44)] H := hP
        have hD : va_D A [(h0, .inr (11, [.int (gI o0 0), .ref (q0 1), .ref (q0 2), .ref (q0 3), .ref (q0 4), .ref (q0 5), .ref (q0 6), .int (gI o0 7), .int (gI o0 8), .int (gI o0 9), .int (gI o0 10), .int (gI o0 11), .int (gI o0 12), .int (gI o0 13), .int (gI o0 14), .long (gL o0 15), .int (gI o0 16), .int (gI o0 17), .int (gI o0 18), .int (gI o0 19), .int (gI o0 20), .int (gI o0 21), .int (gI o0 22), .int (gI o0 23), .int (gI o0 24), .int (gI o0 25), .int (gI o0 26), .int (gI o0 27), .ref (q0 28), .long (gL o0 29), .int (gI o0 30), .ref (q0 31), .ref (q0 32), .ref (q0 33), .int (gI o0 34), .int (gI o0 35), .int (gI o0 36), .int (gI o0 37), .ref (q0 38), .ref (q0 39), .int (gI o0 40), .ref (q0 41), .ref (q0 42), .ref (q0 43), .ref (q0 44)])), kI G (q0 1) 6100 (upd (gA o0 1) (((40 : Int32) + ((2 : Int32) * ((gA o0 1) 3))).toNatClampNeg) a0), kI G (q0 2) 6100 (gA o0 2), kJ G (q0 3) 2016 (gB o0 3), kJ G (q0 4) 2016 (gB o0 4), kI G (q0 5) 300 (gA o0 5), kI G (q0 6) 400 (gA o0 6), kJ G (q0 28) 10 (gB o0 28), kI G (q0 31) 969 (gA o0 31), kI G (q0 32) 969 (gA o0 32), kI G (q0 33) 969 (gA o0 33), kI G (q0 38) 5 (gA o0 38), kI G (q0 39) 5120 (gA o0 39), kI G (q0 41) 5 (gA o0 41), kZ G (q0 42) 1024 (gA o0 42), kI G (q0 43) 8192 (gA o0 43), kI G (q0 44) 8192 (gA o0 44)] := hD
        refine lv_aload_n hx hb d_Md_say_56 rfl (lv_at hl 0 rfl) ?_
        refine va_get (D := G.1) (ci := 11) (v := .ref (q0 1)) (C := R_Md) (T := T_Md) (N := 45) hx hb hts i_Md hown hK hP 0 rfl rfl 1 (by decide) (hts _ wf_Md_7) (fun _ h9 => h9) rfl d_Md_say_57 ?_
        refine lv_bipush (v := (40 : Int32)) hx hb d_Md_say_60 (by decide) ?_
        refine lv_iconst (v := (2 : Int32)) hx hb d_Md_say_62 (by decide) ?_
        refine lv_aload_n hx hb d_Md_say_63 rfl (lv_at hl 0 rfl) ?_
        refine va_get (D := G.1) (ci := 11) (v := .ref (q0 1)) (C := R_Md) (T := T_Md) (N := 45) hx hb hts i_Md hown hK hP 0 rfl rfl 1 (by decide) (hts _ wf_Md_7) (fun _ h9 => h9) rfl d_Md_say_64 ?_
        refine lv_iconst (v := (3 : Int32)) hx hb d_Md_say_67 (by decide) ?_
        refine xa_iald hx hb hK hP 1 0 rfl rfl (vp_lit rfl) (k := 3) rfl d_Md_say_68 ?_
        refine lv_topi (fun y8 ey8 => ?_)
        have h := h y8 ey8
        refine lv_imul hx hb d_Md_say_69 ?_
        refine lv_iadd hx hb d_Md_say_70 ?_
        refine lv_iconst (v := (1 : Int32)) hx hb d_Md_say_71 (by decide) ?_
        refine lv_iadd hx hb d_Md_say_72 ?_
        refine lv_topi (fun y9 ey9 => ?_)
        have h := h y9 ey9
        refine lv_aload_n hx hb d_Md_say_73 rfl (lv_at hl 0 rfl) ?_
        refine va_get (D := G.1) (ci := 11) (v := .ref (q0 1)) (C := R_Md) (T := T_Md) (N := 45) hx hb hts i_Md hown hK hP 0 rfl rfl 1 (by decide) (hts _ wf_Md_7) (fun _ h9 => h9) rfl d_Md_say_74 ?_
        refine lv_iconst (v := (0 : Int32)) hx hb d_Md_say_77 (by decide) ?_
        refine xa_iald hx hb hK hP 1 0 rfl rfl (vp_lit rfl) (k := 0) rfl d_Md_say_78 ?_
        refine lv_topi (fun y10 ey10 => ?_)
        have h := h y10 ey10
        have g11 := h.1
        have h := h.2
        refine xa_iast hx hb hK hP hD hS 1 0 rfl rfl g11 (k := y9.toNatClampNeg) rfl d_Md_say_79 (fun H locs hP hD hS => ?_)
        have hP : va_P G.1 CL [(h0, .inr (11, [.int (gI o0 0), .ref (q0 1), .ref (q0 2), .ref (q0 3), .ref (q0 4), .ref (q0 5), .ref (q0 6), .int (gI o0 7), .int (gI o0 8), .int (gI o0 9), .int (gI o0 10), .int (gI o0 11), .int (gI o0 12), .int (gI o0 13), .int (gI o0 14), .long (gL o0 15), .int (gI o0 16), .int (gI o0 17), .int (gI o0 18), .int (gI o0 19), .int (gI o0 20), .int (gI o0 21), .int (gI o0 22), .int (gI o0 23), .int (gI o0 24), .int (gI o0 25), .int (gI o0 26), .int (gI o0 27), .ref (q0 28), .long (gL o0 29), .int (gI o0 30), .ref (q0 31), .ref (q0 32), .ref (q0 33), .int (gI o0 34), .int (gI o0 35), .int (gI o0 36), .int (gI o0 37), .ref (q0 38), .ref (q0 39), .int (gI o0 40), .ref (q0 41), .ref (q0 42), .ref (q0 43), .ref (q0 44)])), kI G (q0 1) 6100 (upd (upd (gA o0 1) (((40 : Int32) + ((2 : Int32) * ((gA o0 1) 3))).toNatClampNeg) a0) y9.toNatClampNeg y10), kI G (q0 2) 6100 (gA o0 2), kJ G (q0 3) 2016 (gB o0 3), kJ G (q0 4) 2016 (gB o0 4), kI G (q0 5) 300 (gA o0 5), kI G (q0 6) 400 (gA o0 6), kJ G (q0 28) 10 (gB o0 28), kI G (q0 31) 969 (gA o0 31), kI G (q0 32) 969 (gA o0 32), kI G (q0 33) 969 (gA o0 33), kI G (q0 38) 5 (gA o0 38), kI G (q0 39) 5120 (gA o0 39), kI G (q0 41) 5 (gA o0 41), kZ G (q0 42) 1024 (gA o0 42), kI G (q0 43) 8192 (gA o0 43), kI G (q0 44) 8192 (gA o0 44)] H := hP
        have hD : va_D A [(h0, .inr (11, [.int (gI o0 0), .ref (q0 1), .ref (q0 2), .ref (q0 3), .ref (q0 4), .ref (q0 5), .ref (q0 6), .int (gI o0 7), .int (gI o0 8), .int (gI o0 9), .int (gI o0 10), .int (gI o0 11), .int (gI o0 12), .int (gI o0 13), .int (gI o0 14), .long (gL o0 15), .int (gI o0 16), .int (gI o0 17), .int (gI o0 18), .int (gI o0 19), .int (gI o0 20), .int (gI o0 21), .int (gI o0 22), .int (gI o0 23), .int (gI o0 24), .int (gI o0 25), .int (gI o0 26), .int (gI o0 27), .ref (q0 28), .long (gL o0 29), .int (gI o0 30), .ref (q0 31), .ref (q0 32), .ref (q0 33), .int (gI o0 34), .int (gI o0 35), .int (gI o0 36), .int (gI o0 37), .ref (q0 38), .ref (q0 39), .int (gI o0 40), .ref (q0 41), .ref (q0 42), .ref (q0 43), .ref (q0 44)])), kI G (q0 1) 6100 (upd (upd (gA o0 1) (((40 : Int32) + ((2 : Int32) * ((gA o0 1) 3))).toNatClampNeg) a0) y9.toNatClampNeg y10), kI G (q0 2) 6100 (gA o0 2), kJ G (q0 3) 2016 (gB o0 3), kJ G (q0 4) 2016 (gB o0 4), kI G (q0 5) 300 (gA o0 5), kI G (q0 6) 400 (gA o0 6), kJ G (q0 28) 10 (gB o0 28), kI G (q0 31) 969 (gA o0 31), kI G (q0 32) 969 (gA o0 32), kI G (q0 33) 969 (gA o0 33), kI G (q0 38) 5 (gA o0 38), kI G (q0 39) 5120 (gA o0 39), kI G (q0 41) 5 (gA o0 41), kZ G (q0 42) 1024 (gA o0 42), kI G (q0 43) 8192 (gA o0 43), kI G (q0 44) 8192 (gA o0 44)] := hD
        refine lv_aload_n hx hb d_Md_say_80 rfl (lv_at hl 0 rfl) ?_
        refine va_get (D := G.1) (ci := 11) (v := .ref (q0 1)) (C := R_Md) (T := T_Md) (N := 45) hx hb hts i_Md hown hK hP 0 rfl rfl 1 (by decide) (hts _ wf_Md_7) (fun _ h9 => h9) rfl d_Md_say_81 ?_
        refine lv_iconst (v := (3 : Int32)) hx hb d_Md_say_84 (by decide) ?_
        refine lv_dup2_11 hx hb d_Md_say_85 rfl rfl ?_
        refine xa_iald hx hb hK hP 1 0 rfl rfl (vp_lit rfl) (k := 3) rfl d_Md_say_86 ?_
        refine lv_topi (fun y12 ey12 => ?_)
        have h := h y12 ey12
        refine lv_iconst (v := (1 : Int32)) hx hb d_Md_say_87 (by decide) ?_
        refine lv_iadd hx hb d_Md_say_88 ?_
        refine xa_iast hx hb hK hP hD hS 1 0 rfl rfl (vp_lit rfl) (k := 3) rfl d_Md_say_89 (fun H locs hP hD hS => ?_)
        have hP : va_P G.1 CL [(h0, .inr (11, [.int (gI o0 0), .ref (q0 1), .ref (q0 2), .ref (q0 3), .ref (q0 4), .ref (q0 5), .ref (q0 6), .int (gI o0 7), .int (gI o0 8), .int (gI o0 9), .int (gI o0 10), .int (gI o0 11), .int (gI o0 12), .int (gI o0 13), .int (gI o0 14), .long (gL o0 15), .int (gI o0 16), .int (gI o0 17), .int (gI o0 18), .int (gI o0 19), .int (gI o0 20), .int (gI o0 21), .int (gI o0 22), .int (gI o0 23), .int (gI o0 24), .int (gI o0 25), .int (gI o0 26), .int (gI o0 27), .ref (q0 28), .long (gL o0 29), .int (gI o0 30), .ref (q0 31), .ref (q0 32), .ref (q0 33), .int (gI o0 34), .int (gI o0 35), .int (gI o0 36), .int (gI o0 37), .ref (q0 38), .ref (q0 39), .int (gI o0 40), .ref (q0 41), .ref (q0 42), .ref (q0 43), .ref (q0 44)])), kI G (q0 1) 6100 (upd (upd (upd (gA o0 1) (((40 : Int32) + ((2 : Int32) * ((gA o0 1) 3))).toNatClampNeg) a0) y9.toNatClampNeg y10) 3 (y12 + (1 : Int32))), kI G (q0 2) 6100 (gA o0 2), kJ G (q0 3) 2016 (gB o0 3), kJ G (q0 4) 2016 (gB o0 4), kI G (q0 5) 300 (gA o0 5), kI G (q0 6) 400 (gA o0 6), kJ G (q0 28) 10 (gB o0 28), kI G (q0 31) 969 (gA o0 31), kI G (q0 32) 969 (gA o0 32), kI G (q0 33) 969 (gA o0 33), kI G (q0 38) 5 (gA o0 38), kI G (q0 39) 5120 (gA o0 39), kI G (q0 41) 5 (gA o0 41), kZ G (q0 42) 1024 (gA o0 42), kI G (q0 43) 8192 (gA o0 43), kI G (q0 44) 8192 (gA o0 44)] H := hP
        have hD : va_D A [(h0, .inr (11, [.int (gI o0 0), .ref (q0 1), .ref (q0 2), .ref (q0 3), .ref (q0 4), .ref (q0 5), .ref (q0 6), .int (gI o0 7), .int (gI o0 8), .int (gI o0 9), .int (gI o0 10), .int (gI o0 11), .int (gI o0 12), .int (gI o0 13), .int (gI o0 14), .long (gL o0 15), .int (gI o0 16), .int (gI o0 17), .int (gI o0 18), .int (gI o0 19), .int (gI o0 20), .int (gI o0 21), .int (gI o0 22), .int (gI o0 23), .int (gI o0 24), .int (gI o0 25), .int (gI o0 26), .int (gI o0 27), .ref (q0 28), .long (gL o0 29), .int (gI o0 30), .ref (q0 31), .ref (q0 32), .ref (q0 33), .int (gI o0 34), .int (gI o0 35), .int (gI o0 36), .int (gI o0 37), .ref (q0 38), .ref (q0 39), .int (gI o0 40), .ref (q0 41), .ref (q0 42), .ref (q0 43), .ref (q0 44)])), kI G (q0 1) 6100 (upd (upd (upd (gA o0 1) (((40 : Int32) + ((2 : Int32) * ((gA o0 1) 3))).toNatClampNeg) a0) y9.toNatClampNeg y10) 3 (y12 + (1 : Int32))), kI G (q0 2) 6100 (gA o0 2), kJ G (q0 3) 2016 (gB o0 3), kJ G (q0 4) 2016 (gB o0 4), kI G (q0 5) 300 (gA o0 5), kI G (q0 6) 400 (gA o0 6), kJ G (q0 28) 10 (gB o0 28), kI G (q0 31) 969 (gA o0 31), kI G (q0 32) 969 (gA o0 32), kI G (q0 33) 969 (gA o0 33), kI G (q0 38) 5 (gA o0 38), kI G (q0 39) 5120 (gA o0 39), kI G (q0 41) 5 (gA o0 41), kZ G (q0 42) 1024 (gA o0 42), kI G (q0 43) 8192 (gA o0 43), kI G (q0 44) 8192 (gA o0 44)] := hD
        refine lv_aload_n hx hb d_Md_say_90 rfl (lv_at hl 0 rfl) ?_
        refine va_get (D := G.1) (ci := 11) (v := .ref (q0 1)) (C := R_Md) (T := T_Md) (N := 45) hx hb hts i_Md hown hK hP 0 rfl rfl 1 (by decide) (hts _ wf_Md_7) (fun _ h9 => h9) rfl d_Md_say_91 ?_
        refine lv_iconst (v := (3 : Int32)) hx hb d_Md_say_94 (by decide) ?_
        refine xa_iald hx hb hK hP 1 0 rfl rfl (vp_lit rfl) (k := 3) rfl d_Md_say_95 ?_
        refine lv_topi (fun y13 ey13 => ?_)
        have h := h y13 ey13
        have hP : va_P G.1 CL (cw_Md G h0 q0 (sA o0 1 (upd (upd (upd (gA o0 1) (((40 : Int32) + ((2 : Int32) * ((gA o0 1) 3))).toNatClampNeg) a0) y9.toNatClampNeg y10) 3 (y12 + (1 : Int32))))) H := hP
        have hD : va_D A (cw_Md G h0 q0 (sA o0 1 (upd (upd (upd (gA o0 1) (((40 : Int32) + ((2 : Int32) * ((gA o0 1) 3))).toNatClampNeg) a0) y9.toNatClampNeg y10) 3 (y12 + (1 : Int32))))) := hD
        exact W.iret (v := y13) hx hb hr (fun t ht hW => ⟨⟨y13, (sA o0 1 (upd (upd (upd (gA o0 1) (((40 : Int32) + ((2 : Int32) * ((gA o0 1) 3))).toNatClampNeg) a0) y9.toNatClampNeg y10) 3 (y12 + (1 : Int32)))), rfl, h, by rw [ht]; exact hP, va_K.moved hW.alike hK, hD⟩, hS.F ht⟩) hS.2.2 d_Md_say_96
      · have h := h.1 c6
        refine lv_iconst (v := (-1 : Int32)) hx hb d_Md_say_37 (by decide) ?_
        have hP : va_P G.1 CL (cw_Md G h0 q0 o0) H := hP
        have hD : va_D A (cw_Md G h0 q0 o0) := hD
        exact W.iret (v := (-1 : Int32)) hx hb hr (fun t ht hW => ⟨⟨(-1 : Int32), o0, rfl, h, by rw [ht]; exact hP, va_K.moved hW.alike hK, hD⟩, hS.F ht⟩) hS.2.2 d_Md_say_38
abbrev b_Md_folds : ByteArray := prog_14_method_29_code
def y_Md_folds : MethodName := ⟨R_Md, "folds", "(III)Z"⟩
abbrev w_Md_folds : List Cond := Cond.code y_Md_folds b_Md_folds 4 (some .boolean) :: gw_tbl
theorem d_Md_folds_0 : decode b_Md_folds 0 = .ok (.iload_n 1, 1) := by decide +kernel
theorem d_Md_folds_1 : decode b_Md_folds 1 = .ok (.iconst 0, 1) := by decide +kernel
theorem d_Md_folds_2 : decode b_Md_folds 2 = .ok (.bipush 40, 2) := by decide +kernel
theorem d_Md_folds_4 : decode b_Md_folds 4 = .ok (.invokestatic 76, 3) := by decide +kernel
theorem d_Md_folds_7 : decode b_Md_folds 7 = .ok (.ifCond .eq 23, 3) := by decide +kernel
theorem d_Md_folds_10 : decode b_Md_folds 10 = .ok (.iload_n 2, 1) := by decide +kernel
theorem d_Md_folds_11 : decode b_Md_folds 11 = .ok (.iconst 1, 1) := by decide +kernel
theorem d_Md_folds_12 : decode b_Md_folds 12 = .ok (.bipush 20, 2) := by decide +kernel
theorem d_Md_folds_14 : decode b_Md_folds 14 = .ok (.invokestatic 76, 3) := by decide +kernel
theorem d_Md_folds_17 : decode b_Md_folds 17 = .ok (.ifCond .eq 13, 3) := by decide +kernel
theorem d_Md_folds_20 : decode b_Md_folds 20 = .ok (.iload_n 3, 1) := by decide +kernel
theorem d_Md_folds_21 : decode b_Md_folds 21 = .ok (.iconst 1, 1) := by decide +kernel
theorem d_Md_folds_22 : decode b_Md_folds 22 = .ok (.bipush 20, 2) := by decide +kernel
theorem d_Md_folds_24 : decode b_Md_folds 24 = .ok (.invokestatic 76, 3) := by decide +kernel
theorem d_Md_folds_27 : decode b_Md_folds 27 = .ok (.ifCond .ne 5, 3) := by decide +kernel
theorem d_Md_folds_30 : decode b_Md_folds 30 = .ok (.iconst 0, 1) := by decide +kernel
theorem d_Md_folds_31 : decode b_Md_folds 31 = .ok (.ireturn, 1) := by decide +kernel
theorem d_Md_folds_32 : decode b_Md_folds 32 = .ok (.aload_n 0, 1) := by decide +kernel
theorem d_Md_folds_33 : decode b_Md_folds 33 = .ok (.getfield 7, 3) := by decide +kernel
theorem d_Md_folds_36 : decode b_Md_folds 36 = .ok (.iconst 4, 1) := by decide +kernel
theorem d_Md_folds_37 : decode b_Md_folds 37 = .ok (.iload_n 1, 1) := by decide +kernel
theorem d_Md_folds_38 : decode b_Md_folds 38 = .ok (.iastore, 1) := by decide +kernel
theorem d_Md_folds_39 : decode b_Md_folds 39 = .ok (.aload_n 0, 1) := by decide +kernel
theorem d_Md_folds_40 : decode b_Md_folds 40 = .ok (.getfield 7, 3) := by decide +kernel
theorem d_Md_folds_43 : decode b_Md_folds 43 = .ok (.iconst 5, 1) := by decide +kernel
theorem d_Md_folds_44 : decode b_Md_folds 44 = .ok (.iload_n 2, 1) := by decide +kernel
theorem d_Md_folds_45 : decode b_Md_folds 45 = .ok (.iastore, 1) := by decide +kernel
theorem d_Md_folds_46 : decode b_Md_folds 46 = .ok (.aload_n 0, 1) := by decide +kernel
theorem d_Md_folds_47 : decode b_Md_folds 47 = .ok (.getfield 7, 3) := by decide +kernel
theorem d_Md_folds_50 : decode b_Md_folds 50 = .ok (.bipush 6, 2) := by decide +kernel
theorem d_Md_folds_52 : decode b_Md_folds 52 = .ok (.iload_n 3, 1) := by decide +kernel
theorem d_Md_folds_53 : decode b_Md_folds 53 = .ok (.iastore, 1) := by decide +kernel
theorem d_Md_folds_54 : decode b_Md_folds 54 = .ok (.iconst 1, 1) := by decide +kernel
theorem d_Md_folds_55 : decode b_Md_folds 55 = .ok (.ireturn, 1) := by decide +kernel
def f_Md_folds (a0 : Int32) (a1 : Int32) (a2 : Int32) (o0 : Ob) (Q : Int32 → Ob → Prop) : Prop := f_Md_isIn a0 (0 : Int32) (40 : Int32) (fun z1 => (z1 = 0 → (Q (0 : Int32) o0)) ∧ (¬ z1 = 0 → (f_Md_isIn a1 (1 : Int32) (20 : Int32) (fun z3 => (z3 = 0 → (Q (0 : Int32) o0)) ∧ (¬ z3 = 0 → (f_Md_isIn a2 (1 : Int32) (20 : Int32) (fun z5 => (z5 = 0 → (Q (0 : Int32) o0)) ∧ (¬ z5 = 0 → (Q (1 : Int32) (sA o0 1 (upd (upd (upd (gA o0 1) 4 a0) 5 a1) 6 a2)))))))))))
abbrev rm_Md_folds : Room := { frames := 1, cells := 0, slots := 0, locals := 22 }
set_option maxHeartbeats 4000000 in
set_option maxRecDepth 100000 in
theorem c_Md_folds {l : Launch} {G : Gl} {h0 : Nat} {q0 : Nat → Nat} {a0 : Int32} {a1 : Int32} {a2 : Int32} {o0 : Ob} {Q : Int32 → Ob → Prop} (sz : Nat) (h : f_Md_folds a0 a1 a2 o0 Q) : Met l y_Md_folds w_Md_folds rm_Md_folds (PcW G [.ref h0, .int a0, .int a1, .int a2] sz (cw_Md G h0 q0 o0)) (va_Qi (fun (r : Int32) (u : Ob) => Q r u) (fun (u : Ob) t => BW G (va_A (cw_Md G h0 q0 o0) sz) (cw_Md G h0 q0 u) t) (va_A (cw_Md G h0 q0 o0) sz)) 0 0 (va_A (cw_Md G h0 q0 o0) sz) := by
  refine Met.ofW (cc := b_Md_folds) (maxL := 4) (ret := (some .boolean)) (by decide +kernel) rfl ?_
  intro p e s m args below meth c s₁ B hml hv
  obtain ⟨rfl, hsz, hP, hK, hD0, hE⟩ := hv
  have hx := B.exec
  have hb := B.bytes
  have hr := B.returns
  have hts0 := atoms_spec (ws := w_Md_folds) B.pre
  have hts : ∀ w ∈ gw_tbl, w.before ([.ref h0, .int a0, .int a1, .int a2]).toArray s = true := fun w hw => hts0 w (List.mem_cons_of_mem _ hw)
  have hown : s.vm.findClass R_Md = some m.cls := findClass_of_methodNamed B.named
  have hlocks := B.notSynchronized
  subst hsz
  have hD := hD0.self (sz := s.heap.size)
  generalize hAe : va_A (cw_Md G h0 q0 o0) s.heap.size = A at hD hE ⊢
  have hA : ∀ q : Nat, s.heap.size ≤ q → A q := fun q h => by rw [← hAe]; exact Or.inr h
  have hS : va_S A s.heap s.heap [] := va_S.rf
  have C : Cx p s m ([.ref h0, .int a0, .int a1, .int a2]).toArray meth c R_Md b_Md_folds 4 (some .boolean) G A := ⟨hx, hb, hml, hown, hr, hts, hK, hA, hlocks, hE⟩
  have hl := lv_entry ([.ref h0, .int a0, .int a1, .int a2]) (n := 4) (Nat.le_of_ble_eq_true rfl)
  rw [lg_entry_eq]
  generalize (lg_sl ([.ref h0, .int a0, .int a1, .int a2]) ++ List.replicate (4 - (lg_sl ([.ref h0, .int a0, .int a1, .int a2])).length) Slot.unset).toArray = ls at hl ⊢
  have hl : lv_has ls 4 [(0, .ref h0), (1, .int a0), (2, .int a1), (3, .int a2)] := hl
  have hD : va_D A [(h0, .inr (11, [.int (gI o0 0), .ref (q0 1), .ref (q0 2), .ref (q0 3), .ref (q0 4), .ref (q0 5), .ref (q0 6), .int (gI o0 7), .int (gI o0 8), .int (gI o0 9), .int (gI o0 10), .int (gI o0 11), .int (gI o0 12), .int (gI o0 13), .int (gI o0 14), .long (gL o0 15), .int (gI o0 16), .int (gI o0 17), .int (gI o0 18), .int (gI o0 19), .int (gI o0 20), .int (gI o0 21), .int (gI o0 22), .int (gI o0 23), .int (gI o0 24), .int (gI o0 25), .int (gI o0 26), .int (gI o0 27), .ref (q0 28), .long (gL o0 29), .int (gI o0 30), .ref (q0 31), .ref (q0 32), .ref (q0 33), .int (gI o0 34), .int (gI o0 35), .int (gI o0 36), .int (gI o0 37), .ref (q0 38), .ref (q0 39), .int (gI o0 40), .ref (q0 41), .ref (q0 42), .ref (q0 43), .ref (q0 44)])), kI G (q0 1) 6100 (gA o0 1), kI G (q0 2) 6100 (gA o0 2), kJ G (q0 3) 2016 (gB o0 3), kJ G (q0 4) 2016 (gB o0 4), kI G (q0 5) 300 (gA o0 5), kI G (q0 6) 400 (gA o0 6), kJ G (q0 28) 10 (gB o0 28), kI G (q0 31) 969 (gA o0 31), kI G (q0 32) 969 (gA o0 32), kI G (q0 33) 969 (gA o0 33), kI G (q0 38) 5 (gA o0 38), kI G (q0 39) 5120 (gA o0 39), kI G (q0 41) 5 (gA o0 41), kZ G (q0 42) 1024 (gA o0 42), kI G (q0 43) 8192 (gA o0 43), kI G (q0 44) 8192 (gA o0 44)] := hD
  unfold f_Md_folds at h
  suffices key : ∀ (H : Heap) (locs : List Loc), va_P G.1 CL [(h0, .inr (11, [.int (gI o0 0), .ref (q0 1), .ref (q0 2), .ref (q0 3), .ref (q0 4), .ref (q0 5), .ref (q0 6), .int (gI o0 7), .int (gI o0 8), .int (gI o0 9), .int (gI o0 10), .int (gI o0 11), .int (gI o0 12), .int (gI o0 13), .int (gI o0 14), .long (gL o0 15), .int (gI o0 16), .int (gI o0 17), .int (gI o0 18), .int (gI o0 19), .int (gI o0 20), .int (gI o0 21), .int (gI o0 22), .int (gI o0 23), .int (gI o0 24), .int (gI o0 25), .int (gI o0 26), .int (gI o0 27), .ref (q0 28), .long (gL o0 29), .int (gI o0 30), .ref (q0 31), .ref (q0 32), .ref (q0 33), .int (gI o0 34), .int (gI o0 35), .int (gI o0 36), .int (gI o0 37), .ref (q0 38), .ref (q0 39), .int (gI o0 40), .ref (q0 41), .ref (q0 42), .ref (q0 43), .ref (q0 44)])), kI G (q0 1) 6100 (gA o0 1), kI G (q0 2) 6100 (gA o0 2), kJ G (q0 3) 2016 (gB o0 3), kJ G (q0 4) 2016 (gB o0 4), kI G (q0 5) 300 (gA o0 5), kI G (q0 6) 400 (gA o0 6), kJ G (q0 28) 10 (gB o0 28), kI G (q0 31) 969 (gA o0 31), kI G (q0 32) 969 (gA o0 32), kI G (q0 33) 969 (gA o0 33), kI G (q0 38) 5 (gA o0 38), kI G (q0 39) 5120 (gA o0 39), kI G (q0 41) 5 (gA o0 41), kZ G (q0 42) 1024 (gA o0 42), kI G (q0 43) 8192 (gA o0 43), kI G (q0 44) 8192 (gA o0 44)] H → va_S A s.heap H locs → W p l e rm_Md_folds s m ([.ref h0, .int a0, .int a1, .int a2]).toArray below meth c H locs 0 0 (MQ below (va_Qi (fun (r : Int32) (u : Ob) => Q r u) (fun (u : Ob) t => BW G A (cw_Md G h0 q0 u) t) A) ([.ref h0, .int a0, .int a1, .int a2]).toArray s 0 0 A) (F0 m 0 ls []) from key s.heap [] hP hS
  intro H locs hP hS
  refine lv_iload_n hx hb d_Md_folds_0 rfl (lv_at hl 1 rfl) ?_
  refine lv_iconst (v := (0 : Int32)) hx hb d_Md_folds_1 (by decide) ?_
  refine lv_bipush (v := (40 : Int32)) hx hb d_Md_folds_2 (by decide) ?_
  refine cl_Si (b := b_Md_folds) (As := [.int a0, .int (0 : Int32), .int (40 : Int32)]) (rest := []) (ws := [(h0, .inr (11, [.int (gI o0 0), .ref (q0 1), .ref (q0 2), .ref (q0 3), .ref (q0 4), .ref (q0 5), .ref (q0 6), .int (gI o0 7), .int (gI o0 8), .int (gI o0 9), .int (gI o0 10), .int (gI o0 11), .int (gI o0 12), .int (gI o0 13), .int (gI o0 14), .long (gL o0 15), .int (gI o0 16), .int (gI o0 17), .int (gI o0 18), .int (gI o0 19), .int (gI o0 20), .int (gI o0 21), .int (gI o0 22), .int (gI o0 23), .int (gI o0 24), .int (gI o0 25), .int (gI o0 26), .int (gI o0 27), .ref (q0 28), .long (gL o0 29), .int (gI o0 30), .ref (q0 31), .ref (q0 32), .ref (q0 33), .int (gI o0 34), .int (gI o0 35), .int (gI o0 36), .int (gI o0 37), .ref (q0 38), .ref (q0 39), .int (gI o0 40), .ref (q0 41), .ref (q0 42), .ref (q0 43), .ref (q0 44)])), kI G (q0 1) 6100 (gA o0 1), kI G (q0 2) 6100 (gA o0 2), kJ G (q0 3) 2016 (gB o0 3), kJ G (q0 4) 2016 (gB o0 4), kI G (q0 5) 300 (gA o0 5), kI G (q0 6) 400 (gA o0 6), kJ G (q0 28) 10 (gB o0 28), kI G (q0 31) 969 (gA o0 31), kI G (q0 32) 969 (gA o0 32), kI G (q0 33) 969 (gA o0 33), kI G (q0 38) 5 (gA o0 38), kI G (q0 39) 5120 (gA o0 39), kI G (q0 41) 5 (gA o0 41), kZ G (q0 42) 1024 (gA o0 42), kI G (q0 43) 8192 (gA o0 43), kI G (q0 44) 8192 (gA o0 44)]) (wr := [(h0, .inr (11, [.int (gI o0 0), .ref (q0 1), .ref (q0 2), .ref (q0 3), .ref (q0 4), .ref (q0 5), .ref (q0 6), .int (gI o0 7), .int (gI o0 8), .int (gI o0 9), .int (gI o0 10), .int (gI o0 11), .int (gI o0 12), .int (gI o0 13), .int (gI o0 14), .long (gL o0 15), .int (gI o0 16), .int (gI o0 17), .int (gI o0 18), .int (gI o0 19), .int (gI o0 20), .int (gI o0 21), .int (gI o0 22), .int (gI o0 23), .int (gI o0 24), .int (gI o0 25), .int (gI o0 26), .int (gI o0 27), .ref (q0 28), .long (gL o0 29), .int (gI o0 30), .ref (q0 31), .ref (q0 32), .ref (q0 33), .int (gI o0 34), .int (gI o0 35), .int (gI o0 36), .int (gI o0 37), .ref (q0 38), .ref (q0 39), .int (gI o0 40), .ref (q0 41), .ref (q0 42), .ref (q0 43), .ref (q0 44)])), kI G (q0 1) 6100 (gA o0 1), kI G (q0 2) 6100 (gA o0 2), kJ G (q0 3) 2016 (gB o0 3), kJ G (q0 4) 2016 (gB o0 4), kI G (q0 5) 300 (gA o0 5), kI G (q0 6) 400 (gA o0 6), kJ G (q0 28) 10 (gB o0 28), kI G (q0 31) 969 (gA o0 31), kI G (q0 32) 969 (gA o0 32), kI G (q0 33) 969 (gA o0 33), kI G (q0 38) 5 (gA o0 38), kI G (q0 39) 5120 (gA o0 39), kI G (q0 41) 5 (gA o0 41), kZ G (q0 42) 1024 (gA o0 42), kI G (q0 43) 8192 (gA o0 43), kI G (q0 44) 8192 (gA o0 44)]) (w2 := fun (u : Unit) => [(h0, .inr (11, [.int (gI o0 0), .ref (q0 1), .ref (q0 2), .ref (q0 3), .ref (q0 4), .ref (q0 5), .ref (q0 6), .int (gI o0 7), .int (gI o0 8), .int (gI o0 9), .int (gI o0 10), .int (gI o0 11), .int (gI o0 12), .int (gI o0 13), .int (gI o0 14), .long (gL o0 15), .int (gI o0 16), .int (gI o0 17), .int (gI o0 18), .int (gI o0 19), .int (gI o0 20), .int (gI o0 21), .int (gI o0 22), .int (gI o0 23), .int (gI o0 24), .int (gI o0 25), .int (gI o0 26), .int (gI o0 27), .ref (q0 28), .long (gL o0 29), .int (gI o0 30), .ref (q0 31), .ref (q0 32), .ref (q0 33), .int (gI o0 34), .int (gI o0 35), .int (gI o0 36), .int (gI o0 37), .ref (q0 38), .ref (q0 39), .int (gI o0 40), .ref (q0 41), .ref (q0 42), .ref (q0 43), .ref (q0 44)])), kI G (q0 1) 6100 (gA o0 1), kI G (q0 2) 6100 (gA o0 2), kJ G (q0 3) 2016 (gB o0 3), kJ G (q0 4) 2016 (gB o0 4), kI G (q0 5) 300 (gA o0 5), kI G (q0 6) 400 (gA o0 6), kJ G (q0 28) 10 (gB o0 28), kI G (q0 31) 969 (gA o0 31), kI G (q0 32) 969 (gA o0 32), kI G (q0 33) 969 (gA o0 33), kI G (q0 38) 5 (gA o0 38), kI G (q0 39) 5120 (gA o0 39), kI G (q0 41) 5 (gA o0 41), kZ G (q0 42) 1024 (gA o0 42), kI G (q0 43) 8192 (gA o0 43), kI G (q0 44) 8192 (gA o0 44)]) C (c_Md_isIn H.size h) ws_Md_76 ⟨Nat.le_of_ble_eq_true rfl, Nat.le_of_ble_eq_true rfl⟩ hP hD hS [] [0, 1, 2, 3, 4, 5, 6, 7, 8, 9, 10, 11, 12, 13, 14, 15, 16] rfl rfl (by decide) (by decide) (by decide) [0, 1, 2, 3, 4, 5, 6, 7, 8, 9, 10, 11, 12, 13, 14, 15, 16] (by decide) (fun u => rfl) rfl hl.1 rfl (lv_room (Nat.le_of_ble_eq_true rfl)) d_Md_folds_4 ⟨Nat.le_of_ble_eq_true rfl, Nat.le_of_ble_eq_true rfl⟩ rfl rfl (fun z1 u H locs h hP hD hS => ?_)
  have hP : va_P G.1 CL [(h0, .inr (11, [.int (gI o0 0), .ref (q0 1), .ref (q0 2), .ref (q0 3), .ref (q0 4), .ref (q0 5), .ref (q0 6), .int (gI o0 7), .int (gI o0 8), .int (gI o0 9), .int (gI o0 10), .int (gI o0 11), .int (gI o0 12), .int (gI o0 13), .int (gI o0 14), .long (gL o0 15), .int (gI o0 16), .int (gI o0 17), .int (gI o0 18), .int (gI o0 19), .int (gI o0 20), .int (gI o0 21), .int (gI o0 22), .int (gI o0 23), .int (gI o0 24), .int (gI o0 25), .int (gI o0 26), .int (gI o0 27), .ref (q0 28), .long (gL o0 29), .int (gI o0 30), .ref (q0 31), .ref (q0 32), .ref (q0 33), .int (gI o0 34), .int (gI o0 35), .int (gI o0 36), .int (gI o0 37), .ref (q0 38), .ref (q0 39), .int (gI o0 40), .ref (q0 41), .ref (q0 42), .ref (q0 43), .ref (q0 44)])), kI G (q0 1) 6100 (gA o0 1), kI G (q0 2) 6100 (gA o0 2), kJ G (q0 3) 2016 (gB o0 3), kJ G (q0 4) 2016 (gB o0 4), kI G (q0 5) 300 (gA o0 5), kI G (q0 6) 400 (gA o0 6), kJ G (q0 28) 10 (gB o0 28), kI G (q0 31) 969 (gA o0 31), kI G (q0 32) 969 (gA o0 32), kI G (q0 33) 969 (gA o0 33), kI G (q0 38) 5 (gA o0 38), kI G (q0 39) 5120 (gA o0 39), kI G (q0 41) 5 (gA o0 41), kZ G (q0 42) 1024 (gA o0 42), kI G (q0 43) 8192 (gA o0 43), kI G (q0 44) 8192 (gA o0 44)] H := hP
  have hD : va_D A [(h0, .inr (11, [.int (gI o0 0), .ref (q0 1), .ref (q0 2), .ref (q0 3), .ref (q0 4), .ref (q0 5), .ref (q0 6), .int (gI o0 7), .int (gI o0 8), .int (gI o0 9), .int (gI o0 10), .int (gI o0 11), .int (gI o0 12), .int (gI o0 13), .int (gI o0 14), .long (gL o0 15), .int (gI o0 16), .int (gI o0 17), .int (gI o0 18), .int (gI o0 19), .int (gI o0 20), .int (gI o0 21), .int (gI o0 22), .int (gI o0 23), .int (gI o0 24), .int (gI o0 25), .int (gI o0 26), .int (gI o0 27), .ref (q0 28), .long (gL o0 29), .int (gI o0 30), .ref (q0 31), .ref (q0 32), .ref (q0 33), .int (gI o0 34), .int (gI o0 35), .int (gI o0 36), .int (gI o0 37), .ref (q0 38), .ref (q0 39), .int (gI o0 40), .ref (q0 41), .ref (q0 42), .ref (q0 43), .ref (q0 44)])), kI G (q0 1) 6100 (gA o0 1), kI G (q0 2) 6100 (gA o0 2), kJ G (q0 3) 2016 (gB o0 3), kJ G (q0 4) 2016 (gB o0 4), kI G (q0 5) 300 (gA o0 5), kI G (q0 6) 400 (gA o0 6), kJ G (q0 28) 10 (gB o0 28), kI G (q0 31) 969 (gA o0 31), kI G (q0 32) 969 (gA o0 32), kI G (q0 33) 969 (gA o0 33), kI G (q0 38) 5 (gA o0 38), kI G (q0 39) 5120 (gA o0 39), kI G (q0 41) 5 (gA o0 41), kZ G (q0 42) 1024 (gA o0 42), kI G (q0 43) 8192 (gA o0 43), kI G (q0 44) 8192 (gA o0 44)] := hD
  refine lv_if_eq (tgt := 30) hx hb d_Md_folds_7 (by decide) (fun c2 => ?_) (fun c2 => ?_)
  · have h := h.1 c2
    refine lv_iconst (v := (0 : Int32)) hx hb d_Md_folds_30 (by decide) ?_
    have hP : va_P G.1 CL (cw_Md G h0 q0 o0) H := hP
    have hD : va_D A (cw_Md G h0 q0 o0) := hD
    exact W.zret (v := (0 : Int32)) hx hb hr rfl (fun t ht hW => ⟨⟨(0 : Int32), o0, rfl, h, by rw [ht]; exact hP, va_K.moved hW.alike hK, hD⟩, hS.F ht⟩) hS.2.2 d_Md_folds_31
  · have h := h.2 c2
    refine lv_iload_n hx hb d_Md_folds_10 rfl (lv_at hl 2 rfl) ?_
    refine lv_iconst (v := (1 : Int32)) hx hb d_Md_folds_11 (by decide) ?_
    refine lv_bipush (v := (20 : Int32)) hx hb d_Md_folds_12 (by decide) ?_
    refine cl_Si (b := b_Md_folds) (As := [.int a1, .int (1 : Int32), .int (20 : Int32)]) (rest := []) (ws := [(h0, .inr (11, [.int (gI o0 0), .ref (q0 1), .ref (q0 2), .ref (q0 3), .ref (q0 4), .ref (q0 5), .ref (q0 6), .int (gI o0 7), .int (gI o0 8), .int (gI o0 9), .int (gI o0 10), .int (gI o0 11), .int (gI o0 12), .int (gI o0 13), .int (gI o0 14), .long (gL o0 15), .int (gI o0 16), .int (gI o0 17), .int (gI o0 18), .int (gI o0 19), .int (gI o0 20), .int (gI o0 21), .int (gI o0 22), .int (gI o0 23), .int (gI o0 24), .int (gI o0 25), .int (gI o0 26), .int (gI o0 27), .ref (q0 28), .long (gL o0 29), .int (gI o0 30), .ref (q0 31), .ref (q0 32), .ref (q0 33), .int (gI o0 34), .int (gI o0 35), .int (gI o0 36), .int (gI o0 37), .ref (q0 38), .ref (q0 39), .int (gI o0 40), .ref (q0 41), .ref (q0 42), .ref (q0 43), .ref (q0 44)])), kI G (q0 1) 6100 (gA o0 1), kI G (q0 2) 6100 (gA o0 2), kJ G (q0 3) 2016 (gB o0 3), kJ G (q0 4) 2016 (gB o0 4), kI G (q0 5) 300 (gA o0 5), kI G (q0 6) 400 (gA o0 6), kJ G (q0 28) 10 (gB o0 28), kI G (q0 31) 969 (gA o0 31), kI G (q0 32) 969 (gA o0 32), kI G (q0 33) 969 (gA o0 33), kI G (q0 38) 5 (gA o0 38), kI G (q0 39) 5120 (gA o0 39), kI G (q0 41) 5 (gA o0 41), kZ G (q0 42) 1024 (gA o0 42), kI G (q0 43) 8192 (gA o0 43), kI G (q0 44) 8192 (gA o0 44)]) (wr := [(h0, .inr (11, [.int (gI o0 0), .ref (q0 1), .ref (q0 2), .ref (q0 3), .ref (q0 4), .ref (q0 5), .ref (q0 6), .int (gI o0 7), .int (gI o0 8), .int (gI o0 9), .int (gI o0 10), .int (gI o0 11), .int (gI o0 12), .int (gI o0 13), .int (gI o0 14), .long (gL o0 15), .int (gI o0 16), .int (gI o0 17), .int (gI o0 18), .int (gI o0 19), .int (gI o0 20), .int (gI o0 21), .int (gI o0 22), .int (gI o0 23), .int (gI o0 24), .int (gI o0 25), .int (gI o0 26), .int (gI o0 27), .ref (q0 28), .long (gL o0 29), .int (gI o0 30), .ref (q0 31), .ref (q0 32), .ref (q0 33), .int (gI o0 34), .int (gI o0 35), .int (gI o0 36), .int (gI o0 37), .ref (q0 38), .ref (q0 39), .int (gI o0 40), .ref (q0 41), .ref (q0 42), .ref (q0 43), .ref (q0 44)])), kI G (q0 1) 6100 (gA o0 1), kI G (q0 2) 6100 (gA o0 2), kJ G (q0 3) 2016 (gB o0 3), kJ G (q0 4) 2016 (gB o0 4), kI G (q0 5) 300 (gA o0 5), kI G (q0 6) 400 (gA o0 6), kJ G (q0 28) 10 (gB o0 28), kI G (q0 31) 969 (gA o0 31), kI G (q0 32) 969 (gA o0 32), kI G (q0 33) 969 (gA o0 33), kI G (q0 38) 5 (gA o0 38), kI G (q0 39) 5120 (gA o0 39), kI G (q0 41) 5 (gA o0 41), kZ G (q0 42) 1024 (gA o0 42), kI G (q0 43) 8192 (gA o0 43), kI G (q0 44) 8192 (gA o0 44)]) (w2 := fun (u : Unit) => [(h0, .inr (11, [.int (gI o0 0), .ref (q0 1), .ref (q0 2), .ref (q0 3), .ref (q0 4), .ref (q0 5), .ref (q0 6), .int (gI o0 7), .int (gI o0 8), .int (gI o0 9), .int (gI o0 10), .int (gI o0 11), .int (gI o0 12), .int (gI o0 13), .int (gI o0 14), .long (gL o0 15), .int (gI o0 16), .int (gI o0 17), .int (gI o0 18), .int (gI o0 19), .int (gI o0 20), .int (gI o0 21), .int (gI o0 22), .int (gI o0 23), .int (gI o0 24), .int (gI o0 25), .int (gI o0 26), .int (gI o0 27), .ref (q0 28), .long (gL o0 29), .int (gI o0 30), .ref (q0 31), .ref (q0 32), .ref (q0 33), .int (gI o0 34), .int (gI o0 35), .int (gI o0 36), .int (gI o0 37), .ref (q0 38), .ref (q0 39), .int (gI o0 40), .ref (q0 41), .ref (q0 42), .ref (q0 43), .ref (q0 44)])), kI G (q0 1) 6100 (gA o0 1), kI G (q0 2) 6100 (gA o0 2), kJ G (q0 3) 2016 (gB o0 3), kJ G (q0 4) 2016 (gB o0 4), kI G (q0 5) 300 (gA o0 5), kI G (q0 6) 400 (gA o0 6), kJ G (q0 28) 10 (gB o0 28), kI G (q0 31) 969 (gA o0 31), kI G (q0 32) 969 (gA o0 32), kI G (q0 33) 969 (gA o0 33), kI G (q0 38) 5 (gA o0 38), kI G (q0 39) 5120 (gA o0 39), kI G (q0 41) 5 (gA o0 41), kZ G (q0 42) 1024 (gA o0 42), kI G (q0 43) 8192 (gA o0 43), kI G (q0 44) 8192 (gA o0 44)]) C (c_Md_isIn H.size h) ws_Md_76 ⟨Nat.le_of_ble_eq_true rfl, Nat.le_of_ble_eq_true rfl⟩ hP hD hS [] [0, 1, 2, 3, 4, 5, 6, 7, 8, 9, 10, 11, 12, 13, 14, 15, 16] rfl rfl (by decide) (by decide) (by decide) [0, 1, 2, 3, 4, 5, 6, 7, 8, 9, 10, 11, 12, 13, 14, 15, 16] (by decide) (fun u => rfl) rfl hl.1 rfl (lv_room (Nat.le_of_ble_eq_true rfl)) d_Md_folds_14 ⟨Nat.le_of_ble_eq_true rfl, Nat.le_of_ble_eq_true rfl⟩ rfl rfl (fun z3 u H locs h hP hD hS => ?_)
    have hP : va_P G.1 CL [(h0, .inr (11, [.int (gI o0 0), .ref (q0 1), .ref (q0 2), .ref (q0 3), .ref (q0 4), .ref (q0 5), .ref (q0 6), .int (gI o0 7), .int (gI o0 8), .int (gI o0 9), .int (gI o0 10), .int (gI o0 11), .int (gI o0 12), .int (gI o0 13), .int (gI o0 14), .long (gL o0 15), .int (gI o0 16), .int (gI o0 17), .int (gI o0 18), .int (gI o0 19), .int (gI o0 20), .int (gI o0 21), .int (gI o0 22), .int (gI o0 23), .int (gI o0 24), .int (gI o0 25), .int (gI o0 26), .int (gI o0 27), .ref (q0 28), .long (gL o0 29), .int (gI o0 30), .ref (q0 31), .ref (q0 32), .ref (q0 33), .int (gI o0 34), .int (gI o0 35), .int (gI o0 36), .int (gI o0 37), .ref (q0 38), .ref (q0 39), .int (gI o0 40), .ref (q0 41), .ref (q0 42), .ref (q0 43), .ref (q0 44)])), kI G (q0 1) 6100 (gA o0 1), kI G (q0 2) 6100 (gA o0 2), kJ G (q0 3) 2016 (gB o0 3), kJ G (q0 4) 2016 (gB o0 4), kI G (q0 5) 300 (gA o0 5), kI G (q0 6) 400 (gA o0 6), kJ G (q0 28) 10 (gB o0 28), kI G (q0 31) 969 (gA o0 31), kI G (q0 32) 969 (gA o0 32), kI G (q0 33) 969 (gA o0 33), kI G (q0 38) 5 (gA o0 38), kI G (q0 39) 5120 (gA o0 39), kI G (q0 41) 5 (gA o0 41), kZ G (q0 42) 1024 (gA o0 42), kI G (q0 43) 8192 (gA o0 43), kI G (q0 44) 8192 (gA o0 44)] H := hP
    have hD : va_D A [(h0, .inr (11, [.int (gI o0 0), .ref (q0 1), .ref (q0 2), .ref (q0 3), .ref (q0 4), .ref (q0 5), .ref (q0 6), .int (gI o0 7), .int (gI o0 8), .int (gI o0 9), .int (gI o0 10), .int (gI o0 11), .int (gI o0 12), .int (gI o0 13), .int (gI o0 14), .long (gL o0 15), .int (gI o0 16), .int (gI o0 17), .int (gI o0 18), .int (gI o0 19), .int (gI o0 20), .int (gI o0 21), .int (gI o0 22), .int (gI o0 23), .int (gI o0 24), .int (gI o0 25), .int (gI o0 26), .int (gI o0 27), .ref (q0 28), .long (gL o0 29), .int (gI o0 30), .ref (q0 31), .ref (q0 32), .ref (q0 33), .int (gI o0 34), .int (gI o0 35), .int (gI o0 36), .int (gI o0 37), .ref (q0 38), .ref (q0 39), .int (gI o0 40), .ref (q0 41), .ref (q0 42), .ref (q0 43), .ref (q0 44)])), kI G (q0 1) 6100 (gA o0 1), kI G (q0 2) 6100 (gA o0 2), kJ G (q0 3) 2016 (gB o0 3), kJ G (q0 4) 2016 (gB o0 4), kI G (q0 5) 300 (gA o0 5), kI G (q0 6) 400 (gA o0 6), kJ G (q0 28) 10 (gB o0 28), kI G (q0 31) 969 (gA o0 31), kI G (q0 32) 969 (gA o0 32), kI G (q0 33) 969 (gA o0 33), kI G (q0 38) 5 (gA o0 38), kI G (q0 39) 5120 (gA o0 39), kI G (q0 41) 5 (gA o0 41), kZ G (q0 42) 1024 (gA o0 42), kI G (q0 43) 8192 (gA o0 43), kI G (q0 44) 8192 (gA o0 44)] := hD
    refine lv_if_eq (tgt := 30) hx hb d_Md_folds_17 (by decide) (fun c4 => ?_) (fun c4 => ?_)
    · have h := h.1 c4
      refine lv_iconst (v := (0 : Int32)) hx hb d_Md_folds_30 (by decide) ?_
      have hP : va_P G.1 CL (cw_Md G h0 q0 o0) H := hP
      have hD : va_D A (cw_Md G h0 q0 o0) := hD
      exact W.zret (v := (0 : Int32)) hx hb hr rfl (fun t ht hW => ⟨⟨(0 : Int32), o0, rfl, h, by rw [ht]; exact hP, va_K.moved hW.alike hK, hD⟩, hS.F ht⟩) hS.2.2 d_Md_folds_31
    · have h := h.2 c4
      refine lv_iload_n hx hb d_Md_folds_20 rfl (lv_at hl 3 rfl) ?_
      refine lv_iconst (v := (1 : Int32)) hx hb d_Md_folds_21 (by decide) ?_
      refine lv_bipush (v := (20 : Int32)) hx hb d_Md_folds_22 (by decide) ?_
      refine cl_Si (b := b_Md_folds) (As := [.int a2, .int (1 : Int32), .int (20 : Int32)]) (rest := []) (ws := [(h0, .inr (11, [.int (gI o0 0), .ref (q0 1), .ref (q0 2), .ref (q0 3), .ref (q0 4), .ref (q0 5), .ref (q0 6), .int (gI o0 7), .int (gI o0 8), .int (gI o0 9), .int (gI o0 10), .int (gI o0 11), .int (gI o0 12), .int (gI o0 13), .int (gI o0 14), .long (gL o0 15), .int (gI o0 16), .int (gI o0 17), .int (gI o0 18), .int (gI o0 19), .int (gI o0 20), .int (gI o0 21), .int (gI o0 22), .int (gI o0 23), .int (gI o0 24), .int (gI o0 25), .int (gI o0 26), .int (gI o0 27), .ref (q0 28), .long (gL o0 29), .int (gI o0 30), .ref (q0 31), .ref (q0 32), .ref (q0 33), .int (gI o0 34), .int (gI o0 35), .int (gI o0 36), .int (gI o0 37), .ref (q0 38), .ref (q0 39), .int (gI o0 40), .ref (q0 41), .ref (q0 42), .ref (q0 43), .ref (q0 44)])), kI G (q0 1) 6100 (gA o0 1), kI G (q0 2) 6100 (gA o0 2), kJ G (q0 3) 2016 (gB o0 3), kJ G (q0 4) 2016 (gB o0 4), kI G (q0 5) 300 (gA o0 5), kI G (q0 6) 400 (gA o0 6), kJ G (q0 28) 10 (gB o0 28), kI G (q0 31) 969 (gA o0 31), kI G (q0 32) 969 (gA o0 32), kI G (q0 33) 969 (gA o0 33), kI G (q0 38) 5 (gA o0 38), kI G (q0 39) 5120 (gA o0 39), kI G (q0 41) 5 (gA o0 41), kZ G (q0 42) 1024 (gA o0 42), kI G (q0 43) 8192 (gA o0 43), kI G (q0 44) 8192 (gA o0 44)]) (wr := [(h0, .inr (11, [.int (gI o0 0), .ref (q0 1), .ref (q0 2), .ref (q0 3), .ref (q0 4), .ref (q0 5), .ref (q0 6), .int (gI o0 7), .int (gI o0 8), .int (gI o0 9), .int (gI o0 10), .int (gI o0 11), .int (gI o0 12), .int (gI o0 13), .int (gI o0 14), .long (gL o0 15), .int (gI o0 16), .int (gI o0 17), .int (gI o0 18), .int (gI o0 19), .int (gI o0 20), .int (gI o0 21), .int (gI o0 22), .int (gI o0 23), .int (gI o0 24), .int (gI o0 25), .int (gI o0 26), .int (gI o0 27), .ref (q0 28), .long (gL o0 29), .int (gI o0 30), .ref (q0 31), .ref (q0 32), .ref (q0 33), .int (gI o0 34), .int (gI o0 35), .int (gI o0 36), .int (gI o0 37), .ref (q0 38), .ref (q0 39), .int (gI o0 40), .ref (q0 41), .ref (q0 42), .ref (q0 43), .ref (q0 44)])), kI G (q0 1) 6100 (gA o0 1), kI G (q0 2) 6100 (gA o0 2), kJ G (q0 3) 2016 (gB o0 3), kJ G (q0 4) 2016 (gB o0 4), kI G (q0 5) 300 (gA o0 5), kI G (q0 6) 400 (gA o0 6), kJ G (q0 28) 10 (gB o0 28), kI G (q0 31) 969 (gA o0 31), kI G (q0 32) 969 (gA o0 32), kI G (q0 33) 969 (gA o0 33), kI G (q0 38) 5 (gA o0 38), kI G (q0 39) 5120 (gA o0 39), kI G (q0 41) 5 (gA o0 41), kZ G (q0 42) 1024 (gA o0 42), kI G (q0 43) 8192 (gA o0 43), kI G (q0 44) 8192 (gA o0 44)]) (w2 := fun (u : Unit) => [(h0, .inr (11, [.int (gI o0 0), .ref (q0 1), .ref (q0 2), .ref (q0 3), .ref (q0 4), .ref (q0 5), .ref (q0 6), .int (gI o0 7), .int (gI o0 8), .int (gI o0 9), .int (gI o0 10), .int (gI o0 11), .int (gI o0 12), .int (gI o0 13), .int (gI o0 14), .long (gL o0 15), .int (gI o0 16), .int (gI o0 17), .int (gI o0 18), .int (gI o0 19), .int (gI o0 20), .int (gI o0 21), .int (gI o0 22), .int (gI o0 23), .int (gI o0 24), .int (gI o0 25), .int (gI o0 26), .int (gI o0 27), .ref (q0 28), .long (gL o0 29), .int (gI o0 30), .ref (q0 31), .ref (q0 32), .ref (q0 33), .int (gI o0 34), .int (gI o0 35), .int (gI o0 36), .int (gI o0 37), .ref (q0 38), .ref (q0 39), .int (gI o0 40), .ref (q0 41), .ref (q0 42), .ref (q0 43), .ref (q0 44)])), kI G (q0 1) 6100 (gA o0 1), kI G (q0 2) 6100 (gA o0 2), kJ G (q0 3) 2016 (gB o0 3), kJ G (q0 4) 2016 (gB o0 4), kI G (q0 5) 300 (gA o0 5), kI G (q0 6) 400 (gA o0 6), kJ G (q0 28) 10 (gB o0 28), kI G (q0 31) 969 (gA o0 31), kI G (q0 32) 969 (gA o0 32), kI G (q0 33) 969 (gA o0 33), kI G (q0 38) 5 (gA o0 38), kI G (q0 39) 5120 (gA o0 39), kI G (q0 41) 5 (gA o0 41), kZ G (q0 42) 1024 (gA o0 42), kI G (q0 43) 8192 (gA o0 43), kI G (q0 44) 8192 (gA o0 44)]) C (c_Md_isIn H.size h) ws_Md_76 ⟨Nat.le_of_ble_eq_true rfl, Nat.le_of_ble_eq_true rfl⟩ hP hD hS [] [0, 1, 2, 3, 4, 5, 6, 7, 8, 9, 10, 11, 12, 13, 14, 15, 16] rfl rfl (by decide) (by decide) (by decide) [0, 1, 2, 3, 4, 5, 6, 7, 8, 9, 10, 11, 12, 13, 14, 15, 16] (by decide) (fun u => rfl) rfl hl.1 rfl (lv_room (Nat.le_of_ble_eq_true rfl)) d_Md_folds_24 ⟨Nat.le_of_ble_eq_true rfl, Nat.le_of_ble_eq_true rfl⟩ rfl rfl (fun z5 u H locs h hP hD hS => ?_)
      have hP : va_P G.1 CL [(h0, .inr (11, [.int (gI o0 0), .ref (q0 1), .ref (q0 2), .ref (q0 3), .ref (q0 4), .ref (q0 5), .ref (q0 6), .int (gI o0 7), .int (gI o0 8), .int (gI o0 9), .int (gI o0 10), .int (gI o0 11), .int (gI o0 12), .int (gI o0 13), .int (gI o0 14), .long (gL o0 15), .int (gI o0 16), .int (gI o0 17), .int (gI o0 18), .int (gI o0 19), .int (gI o0 20), .int (gI o0 21), .int (gI o0 22), .int (gI o0 23), .int (gI o0 24), .int (gI o0 25), .int (gI o0 26), .int (gI o0 27), .ref (q0 28), .long (gL o0 29), .int (gI o0 30), .ref (q0 31), .ref (q0 32), .ref (q0 33), .int (gI o0 34), .int (gI o0 35), .int (gI o0 36), .int (gI o0 37), .ref (q0 38), .ref (q0 39), .int (gI o0 40), .ref (q0 41), .ref (q0 42), .ref (q0 43), .ref (q0 44)])), kI G (q0 1) 6100 (gA o0 1), kI G (q0 2) 6100 (gA o0 2), kJ G (q0 3) 2016 (gB o0 3), kJ G (q0 4) 2016 (gB o0 4), kI G (q0 5) 300 (gA o0 5), kI G (q0 6) 400 (gA o0 6), kJ G (q0 28) 10 (gB o0 28), kI G (q0 31) 969 (gA o0 31), kI G (q0 32) 969 (gA o0 32), kI G (q0 33) 969 (gA o0 33), kI G (q0 38) 5 (gA o0 38), kI G (q0 39) 5120 (gA o0 39), kI G (q0 41) 5 (gA o0 41), kZ G (q0 42) 1024 (gA o0 42), kI G (q0 43) 8192 (gA o0 43), kI G (q0 44) 8192 (gA o0 44)] H := hP
      have hD : va_D A [(h0, .inr (11, [.int (gI o0 0), .ref (q0 1), .ref (q0 2), .ref (q0 3), .ref (q0 4), .ref (q0 5), .ref (q0 6), .int (gI o0 7), .int (gI o0 8), .int (gI o0 9), .int (gI o0 10), .int (gI o0 11), .int (gI o0 12), .int (gI o0 13), .int (gI o0 14), .long (gL o0 15), .int (gI o0 16), .int (gI o0 17), .int (gI o0 18), .int (gI o0 19), .int (gI o0 20), .int (gI o0 21), .int (gI o0 22), .int (gI o0 23), .int (gI o0 24), .int (gI o0 25), .int (gI o0 26), .int (gI o0 27), .ref (q0 28), .long (gL o0 29), .int (gI o0 30), .ref (q0 31), .ref (q0 32), .ref (q0 33), .int (gI o0 34), .int (gI o0 35), .int (gI o0 36), .int (gI o0 37), .ref (q0 38), .ref (q0 39), .int (gI o0 40), .ref (q0 41), .ref (q0 42), .ref (q0 43), .ref (q0 44)])), kI G (q0 1) 6100 (gA o0 1), kI G (q0 2) 6100 (gA o0 2), kJ G (q0 3) 2016 (gB o0 3), kJ G (q0 4) 2016 (gB o0 4), kI G (q0 5) 300 (gA o0 5), kI G (q0 6) 400 (gA o0 6), kJ G (q0 28) 10 (gB o0 28), kI G (q0 31) 969 (gA o0 31), kI G (q0 32) 969 (gA o0 32), kI G (q0 33) 969 (gA o0 33), kI G (q0 38) 5 (gA o0 38), kI G (q0 39) 5120 (gA o0 39), kI G (q0 41) 5 (gA o0 41), kZ G (q0 42) 1024 (gA o0 42), kI G (q0 43) 8192 (gA o0 43), kI G (q0 44) 8192 (gA o0 44)] := hD
      refine lv_if_ne (tgt := 32) hx hb d_Md_folds_27 (by decide) (fun c6 => ?_) (fun c6 => ?_)
      · have h := h.2 c6
        refine lv_aload_n hx hb d_Md_folds_32 rfl (lv_at hl 0 rfl) ?_
        refine va_get (D := G.1) (ci := 11) (v := .ref (q0 1)) (C := R_Md) (T := T_Md) (N := 45) hx hb hts i_Md hown hK hP 0 rfl rfl 1 (by decide) (hts _ wf_Md_7) (fun _ h9 => h9) rfl d_Md_folds_33 ?_
        refine lv_iconst (v := (4 : Int32)) hx hb d_Md_folds_36 (by decide) ?_
        refine lv_iload_n hx hb d_Md_folds_37 rfl (lv_at hl 1 rfl) ?_
        refine xa_iast hx hb hK hP hD hS 1 0 rfl rfl (vp_lit rfl) (k := 4) rfl d_Md_folds_38 (fun H locs hP hD hS => ?_)
        have hP : va_P G.1 CL [(h0, .inr (11, [.int (gI o0 0), .ref (q0 1), .ref (q0 2), .ref (q0 3), .ref (q0 4), .ref (q0 5), .ref (q0 6), .int (gI o0 7), .int (gI o0 8), .int (gI o0 9), .int (gI o0 10), .int (gI o0 11), .int (gI o0 12), .int (gI o0 13), .int (gI o0 14), .long (gL o0 15), .int (gI o0 16), .int (gI o0 17), .int (gI o0 18), .int (gI o0 19), .int (gI o0 20), .int (gI o0 21), .int (gI o0 22), .int (gI o0 23), .int (gI o0 24), .int (gI o0 25), .int (gI o0 26), .int (gI o0 27), .ref (q0 28), .long (gL o0 29), .int (gI o0 30), .ref (q0 31), .ref (q0 32), .ref (q0 33), .int (gI o0 34), .int (gI o0 35), .int (gI o0 36), .int (gI o0 37), .ref (q0 38), .ref (q0 39), .int (gI o0 40), .ref (q0 41), .ref (q0 42), .ref (q0 43), .ref (q0 44)])), kI G (q0 1) 6100 (upd (gA o0 1) 4 a0), kI G (q0 2) 6100 (gA o0 2), kJ G (q0 3) 2016 (gB o0 3), kJ G (q0 4) 2016 (gB o0 4), kI G (q0 5) 300 (gA o0 5), kI G (q0 6) 400 (gA o0 6), kJ G (q0 28) 10 (gB o0 28), kI G (q0 31) 969 (gA o0 31), kI G (q0 32) 969 (gA o0 32), kI G (q0 33) 969 (gA o0 33), kI G (q0 38) 5 (gA o0 38), kI G (q0 39) 5120 (gA o0 39), kI G (q0 41) 5 (gA o0 41), kZ G (q0 42) 1024 (gA o0 42), kI G (q0 43) 8192 (gA o0 43), kI G (q0 44) 8192 (gA o0 44)] H := hP
        have hD : va_D A [(h0, .inr (11, [.int (gI o0 0), .ref (q0 1), .ref (q0 2), .ref (q0 3), .ref (q0 4), .ref (q0 5), .ref (q0 6), .int (gI o0 7), .int (gI o0 8), .int (gI o0 9), .int (gI o0 10), .int (gI o0 11), .int (gI o0 12), .int (gI o0 13), .int (gI o0 14), .long (gL o0 15), .int (gI o0 16), .int (gI o0 17), .int (gI o0 18), .int (gI o0 19), .int (gI o0 20), .int (gI o0 21), .int (gI o0 22), .int (gI o0 23), .int (gI o0 24), .int (gI o0 25), .int (gI o0 26), .int (gI o0 27), .ref (q0 28), .long (gL o0 29), .int (gI o0 30), .ref (q0 31), .ref (q0 32), .ref (q0 33), .int (gI o0 34), .int (gI o0 35), .int (gI o0 36), .int (gI o0 37), .ref (q0 38), .ref (q0 39), .int (gI o0 40), .ref (q0 41), .ref (q0 42), .ref (q0 43), .ref (q0 44)])), kI G (q0 1) 6100 (upd (gA o0 1) 4 a0), kI G (q0 2) 6100 (gA o0 2), kJ G (q0 3) 2016 (gB o0 3), kJ G (q0 4) 2016 (gB o0 4), kI G (q0 5) 300 (gA o0 5), kI G (q0 6) 400 (gA o0 6), kJ G (q0 28) 10 (gB o0 28), kI G (q0 31) 969 (gA o0 31), kI G (q0 32) 969 (gA o0 32), kI G (q0 33) 969 (gA o0 33), kI G (q0 38) 5 (gA o0 38), kI G (q0 39) 5120 (gA o0 39), kI G (q0 41) 5 (gA o0 41), kZ G (q0 42) 1024 (gA o0 42), kI G (q0 43) 8192 (gA o0 43), kI G (q0 44) 8192 (gA o0 44)] := hD
        refine lv_aload_n hx hb d_Md_folds_39 rfl (lv_at hl 0 rfl) ?_
        refine va_get (D := G.1) (ci := 11) (v := .ref (q0 1)) (C := R_Md) (T := T_Md) (N := 45) hx hb hts i_Md hown hK hP 0 rfl rfl 1 (by decide) (hts _ wf_Md_7) (fun _ h9 => h9) rfl d_Md_folds_40 ?_
        refine lv_iconst (v := (5 : Int32)) hx hb d_Md_folds_43 (by decide) ?_
        refine lv_iload_n hx hb d_Md_folds_44 rfl (lv_at hl 2 rfl) ?_
        refine xa_iast hx hb hK hP hD hS 1 0 rfl rfl (vp_lit rfl) (k := 5) rfl d_Md_folds_45 (fun H locs hP hD hS => ?_)
        have hP : va_P G.1 CL [(h0, .inr (11, [.int (gI o0 0), .ref (q0 1), .ref (q0 2), .ref (q0 3), .ref (q0 4), .ref (q0 5), .ref (q0 6), .int (gI o0 7), .int (gI o0 8), .int (gI o0 9), .int (gI o0 10), .int (gI o0 11), .int (gI o0 12), .int (gI o0 13), .int (gI o0 14), .long (gL o0 15), .int (gI o0 16), .int (gI o0 17), .int (gI o0 18), .int (gI o0 19), .int (gI o0 20), .int (gI o0 21), .int (gI o0 22), .int (gI o0 23), .int (gI o0 24), .int (gI o0 25), .int (gI o0 26), .int (gI o0 27), .ref (q0 28), .long (gL o0 29), .int (gI o0 30), .ref (q0 31), .ref (q0 32), .ref (q0 33), .int (gI o0 34), .int (gI o0 35), .int (gI o0 36), .int (gI o0 37), .ref (q0 38), .ref (q0 39), .int (gI o0 40), .ref (q0 41), .ref (q0 42), .ref (q0 43), .ref (q0 44)])), kI G (q0 1) 6100 (upd (upd (gA o0 1) 4 a0) 5 a1), kI G (q0 2) 6100 (gA o0 2), kJ G (q0 3) 2016 (gB o0 3), kJ G (q0 4) 2016 (gB o0 4), kI G (q0 5) 300 (gA o0 5), kI G (q0 6) 400 (gA o0 6), kJ G (q0 28) 10 (gB o0 28), kI G (q0 31) 969 (gA o0 31), kI G (q0 32) 969 (gA o0 32), kI G (q0 33) 969 (gA o0 33), kI G (q0 38) 5 (gA o0 38), kI G (q0 39) 5120 (gA o0 39), kI G (q0 41) 5 (gA o0 41), kZ G (q0 42) 1024 (gA o0 42), kI G (q0 43) 8192 (gA o0 43), kI G (q0 44) 8192 (gA o0 44)] H := hP
        have hD : va_D A [(h0, .inr (11, [.int (gI o0 0), .ref (q0 1), .ref (q0 2), .ref (q0 3), .ref (q0 4), .ref (q0 5), .ref (q0 6), .int (gI o0 7), .int (gI o0 8), .int (gI o0 9), .int (gI o0 10), .int (gI o0 11), .int (gI o0 12), .int (gI o0 13), .int (gI o0 14), .long (gL o0 15), .int (gI o0 16), .int (gI o0 17), .int (gI o0 18), .int (gI o0 19), .int (gI o0 20), .int (gI o0 21), .int (gI o0 22), .int (gI o0 23), .int (gI o0 24), .int (gI o0 25), .int (gI o0 26), .int (gI o0 27), .ref (q0 28), .long (gL o0 29), .int (gI o0 30), .ref (q0 31), .ref (q0 32), .ref (q0 33), .int (gI o0 34), .int (gI o0 35), .int (gI o0 36), .int (gI o0 37), .ref (q0 38), .ref (q0 39), .int (gI o0 40), .ref (q0 41), .ref (q0 42), .ref (q0 43), .ref (q0 44)])), kI G (q0 1) 6100 (upd (upd (gA o0 1) 4 a0) 5 a1), kI G (q0 2) 6100 (gA o0 2), kJ G (q0 3) 2016 (gB o0 3), kJ G (q0 4) 2016 (gB o0 4), kI G (q0 5) 300 (gA o0 5), kI G (q0 6) 400 (gA o0 6), kJ G (q0 28) 10 (gB o0 28), kI G (q0 31) 969 (gA o0 31), kI G (q0 32) 969 (gA o0 32), kI G (q0 33) 969 (gA o0 33), kI G (q0 38) 5 (gA o0 38), kI G (q0 39) 5120 (gA o0 39), kI G (q0 41) 5 (gA o0 41), kZ G (q0 42) 1024 (gA o0 42), kI G (q0 43) 8192 (gA o0 43), kI G (q0 44) 8192 (gA o0 44)] := hD
        refine lv_aload_n hx hb d_Md_folds_46 rfl (lv_at hl 0 rfl) ?_
        refine va_get (D := G.1) (ci := 11) (v := .ref (q0 1)) (C := R_Md) (T := T_Md) (N := 45) hx hb hts i_Md hown hK hP 0 rfl rfl 1 (by decide) (hts _ wf_Md_7) (fun _ h9 => h9) rfl d_Md_folds_47 ?_
        refine lv_bipush (v := (6 : Int32)) hx hb d_Md_folds_50 (by decide) ?_
        refine lv_iload_n hx hb d_Md_folds_52 rfl (lv_at hl 3 rfl) ?_
        refine xa_iast hx hb hK hP hD hS 1 0 rfl rfl (vp_lit rfl) (k := 6) rfl d_Md_folds_53 (fun H locs hP hD hS => ?_)
        have hP : va_P G.1 CL [(h0, .inr (11, [.int (gI o0 0), .ref (q0 1), .ref (q0 2), .ref (q0 3), .ref (q0 4), .ref (q0 5), .ref (q0 6), .int (gI o0 7), .int (gI o0 8), .int (gI o0 9), .int (gI o0 10), .int (gI o0 11), .int (gI o0 12), .int (gI o0 13), .int (gI o0 14), .long (gL o0 15), .int (gI o0 16), .int (gI o0 17), .int (gI o0 18), .int (gI o0 19), .int (gI o0 20), .int (gI o0 21), .int (gI o0 22), .int (gI o0 23), .int (gI o0 24), .int (gI o0 25), .int (gI o0 26), .int (gI o0 27), .ref (q0 28), .long (gL o0 29), .int (gI o0 30), .ref (q0 31), .ref (q0 32), .ref (q0 33), .int (gI o0 34), .int (gI o0 35), .int (gI o0 36), .int (gI o0 37), .ref (q0 38), .ref (q0 39), .int (gI o0 40), .ref (q0 41), .ref (q0 42), .ref (q0 43), .ref (q0 44)])), kI G (q0 1) 6100 (upd (upd (upd (gA o0 1) 4 a0) 5 a1) 6 a2), kI G (q0 2) 6100 (gA o0 2), kJ G (q0 3) 2016 (gB o0 3), kJ G (q0 4) 2016 (gB o0 4), kI G (q0 5) 300 (gA o0 5), kI G (q0 6) 400 (gA o0 6), kJ G (q0 28) 10 (gB o0 28), kI G (q0 31) 969 (gA o0 31), kI G (q0 32) 969 (gA o0 32), kI G (q0 33) 969 (gA o0 33), kI G (q0 38) 5 (gA o0 38), kI G (q0 39) 5120 (gA o0 39), kI G (q0 41) 5 (gA o0 41), kZ G (q0 42) 1024 (gA o0 42), kI G (q0 43) 8192 (gA o0 43), kI G (q0 44) 8192 (gA o0 44)] H := hP
        have hD : va_D A [(h0, .inr (11, [.int (gI o0 0), .ref (q0 1), .ref (q0 2), .ref (q0 3), .ref (q0 4), .ref (q0 5), .ref (q0 6), .int (gI o0 7), .int (gI o0 8), .int (gI o0 9), .int (gI o0 10), .int (gI o0 11), .int (gI o0 12), .int (gI o0 13), .int (gI o0 14), .long (gL o0 15), .int (gI o0 16), .int (gI o0 17), .int (gI o0 18), .int (gI o0 19), .int (gI o0 20), .int (gI o0 21), .int (gI o0 22), .int (gI o0 23), .int (gI o0 24), .int (gI o0 25), .int (gI o0 26), .int (gI o0 27), .ref (q0 28), .long (gL o0 29), .int (gI o0 30), .ref (q0 31), .ref (q0 32), .ref (q0 33), .int (gI o0 34), .int (gI o0 35), .int (gI o0 36), .int (gI o0 37), .ref (q0 38), .ref (q0 39), .int (gI o0 40), .ref (q0 41), .ref (q0 42), .ref (q0 43), .ref (q0 44)])), kI G (q0 1) 6100 (upd (upd (upd (gA o0 1) 4 a0) 5 a1) 6 a2), kI G (q0 2) 6100 (gA o0 2), kJ G (q0 3) 2016 (gB o0 3), kJ G (q0 4) 2016 (gB o0 4), kI G (q0 5) 300 (gA o0 5), kI G (q0 6) 400 (gA o0 6), kJ G (q0 28) 10 (gB o0 28), kI G (q0 31) 969 (gA o0 31), kI G (q0 32) 969 (gA o0 32), kI G (q0 33) 969 (gA o0 33), kI G (q0 38) 5 (gA o0 38), kI G (q0 39) 5120 (gA o0 39), kI G (q0 41) 5 (gA o0 41), kZ G (q0 42) 1024 (gA o0 42), kI G (q0 43) 8192 (gA o0 43), kI G (q0 44) 8192 (gA o0 44)] := hD
        refine lv_iconst (v := (1 : Int32)) hx hb d_Md_folds_54 (by decide) ?_
        have hP : va_P G.1 CL (cw_Md G h0 q0 (sA o0 1 (upd (upd (upd (gA o0 1) 4 a0) 5 a1) 6 a2))) H := hP
        have hD : va_D A (cw_Md G h0 q0 (sA o0 1 (upd (upd (upd (gA o0 1) 4 a0) 5 a1) 6 a2))) := hD
        exact W.zret (v := (1 : Int32)) hx hb hr rfl (fun t ht hW => ⟨⟨(1 : Int32), (sA o0 1 (upd (upd (upd (gA o0 1) 4 a0) 5 a1) 6 a2)), rfl, h, by rw [ht]; exact hP, va_K.moved hW.alike hK, hD⟩, hS.F ht⟩) hS.2.2 d_Md_folds_55
      · have h := h.1 c6
        refine lv_iconst (v := (0 : Int32)) hx hb d_Md_folds_30 (by decide) ?_
        have hP : va_P G.1 CL (cw_Md G h0 q0 o0) H := hP
        have hD : va_D A (cw_Md G h0 q0 o0) := hD
        exact W.zret (v := (0 : Int32)) hx hb hr rfl (fun t ht hW => ⟨⟨(0 : Int32), o0, rfl, h, by rw [ht]; exact hP, va_K.moved hW.alike hK, hD⟩, hS.F ht⟩) hS.2.2 d_Md_folds_31
abbrev b_Md_wants : ByteArray := prog_14_method_30_code
def y_Md_wants : MethodName := ⟨R_Md, "wants", "(III)V"⟩
abbrev w_Md_wants : List Cond := Cond.code y_Md_wants b_Md_wants 5 none :: gw_tbl
theorem d_Md_wants_0 : decode b_Md_wants 0 = .ok (.sipush 5610, 3) := by decide +kernel
theorem d_Md_wants_3 : decode b_Md_wants 3 = .ok (.bipush 6, 2) := by decide +kernel
theorem d_Md_wants_5 : decode b_Md_wants 5 = .ok (.iload_n 1, 1) := by decide +kernel
theorem d_Md_wants_6 : decode b_Md_wants 6 = .ok (.imul, 1) := by decide +kernel
theorem d_Md_wants_7 : decode b_Md_wants 7 = .ok (.iadd, 1) := by decide +kernel
theorem d_Md_wants_8 : decode b_Md_wants 8 = .ok (.istore 4, 2) := by decide +kernel
theorem d_Md_wants_10 : decode b_Md_wants 10 = .ok (.aload_n 0, 1) := by decide +kernel
theorem d_Md_wants_11 : decode b_Md_wants 11 = .ok (.getfield 7, 3) := by decide +kernel
theorem d_Md_wants_14 : decode b_Md_wants 14 = .ok (.iload 4, 2) := by decide +kernel
theorem d_Md_wants_16 : decode b_Md_wants 16 = .ok (.iconst 5, 1) := by decide +kernel
theorem d_Md_wants_17 : decode b_Md_wants 17 = .ok (.iadd, 1) := by decide +kernel
theorem d_Md_wants_18 : decode b_Md_wants 18 = .ok (.iaload, 1) := by decide +kernel
theorem d_Md_wants_19 : decode b_Md_wants 19 = .ok (.aload_n 0, 1) := by decide +kernel
theorem d_Md_wants_20 : decode b_Md_wants 20 = .ok (.getfield 172, 3) := by decide +kernel
theorem d_Md_wants_23 : decode b_Md_wants 23 = .ok (.if_icmp .ge 4, 3) := by decide +kernel
theorem d_Md_wants_26 : decode b_Md_wants 26 = .ok (.return_, 1) := by decide +kernel
theorem d_Md_wants_27 : decode b_Md_wants 27 = .ok (.aload_n 0, 1) := by decide +kernel
theorem d_Md_wants_28 : decode b_Md_wants 28 = .ok (.getfield 7, 3) := by decide +kernel
theorem d_Md_wants_31 : decode b_Md_wants 31 = .ok (.iload 4, 2) := by decide +kernel
theorem d_Md_wants_33 : decode b_Md_wants 33 = .ok (.iconst 5, 1) := by decide +kernel
theorem d_Md_wants_34 : decode b_Md_wants 34 = .ok (.iadd, 1) := by decide +kernel
theorem d_Md_wants_35 : decode b_Md_wants 35 = .ok (.iaload, 1) := by decide +kernel
theorem d_Md_wants_36 : decode b_Md_wants 36 = .ok (.aload_n 0, 1) := by decide +kernel
theorem d_Md_wants_37 : decode b_Md_wants 37 = .ok (.getfield 172, 3) := by decide +kernel
theorem d_Md_wants_40 : decode b_Md_wants 40 = .ok (.if_icmp .le 46, 3) := by decide +kernel
theorem d_Md_wants_43 : decode b_Md_wants 43 = .ok (.aload_n 0, 1) := by decide +kernel
theorem d_Md_wants_44 : decode b_Md_wants 44 = .ok (.aload_n 0, 1) := by decide +kernel
theorem d_Md_wants_45 : decode b_Md_wants 45 = .ok (.getfield 7, 3) := by decide +kernel
theorem d_Md_wants_48 : decode b_Md_wants 48 = .ok (.iload 4, 2) := by decide +kernel
theorem d_Md_wants_50 : decode b_Md_wants 50 = .ok (.iconst 5, 1) := by decide +kernel
theorem d_Md_wants_51 : decode b_Md_wants 51 = .ok (.iadd, 1) := by decide +kernel
theorem d_Md_wants_52 : decode b_Md_wants 52 = .ok (.iaload, 1) := by decide +kernel
theorem d_Md_wants_53 : decode b_Md_wants 53 = .ok (.putfield 172, 3) := by decide +kernel
theorem d_Md_wants_56 : decode b_Md_wants 56 = .ok (.aload_n 0, 1) := by decide +kernel
theorem d_Md_wants_57 : decode b_Md_wants 57 = .ok (.iconst 0, 1) := by decide +kernel
theorem d_Md_wants_58 : decode b_Md_wants 58 = .ok (.putfield 175, 3) := by decide +kernel
theorem d_Md_wants_61 : decode b_Md_wants 61 = .ok (.aload_n 0, 1) := by decide +kernel
theorem d_Md_wants_62 : decode b_Md_wants 62 = .ok (.iconst 0, 1) := by decide +kernel
theorem d_Md_wants_63 : decode b_Md_wants 63 = .ok (.putfield 178, 3) := by decide +kernel
theorem d_Md_wants_66 : decode b_Md_wants 66 = .ok (.aload_n 0, 1) := by decide +kernel
theorem d_Md_wants_67 : decode b_Md_wants 67 = .ok (.iconst 0, 1) := by decide +kernel
theorem d_Md_wants_68 : decode b_Md_wants 68 = .ok (.putfield 181, 3) := by decide +kernel
theorem d_Md_wants_71 : decode b_Md_wants 71 = .ok (.aload_n 0, 1) := by decide +kernel
theorem d_Md_wants_72 : decode b_Md_wants 72 = .ok (.iload_n 2, 1) := by decide +kernel
theorem d_Md_wants_73 : decode b_Md_wants 73 = .ok (.putfield 184, 3) := by decide +kernel
theorem d_Md_wants_76 : decode b_Md_wants 76 = .ok (.aload_n 0, 1) := by decide +kernel
theorem d_Md_wants_77 : decode b_Md_wants 77 = .ok (.iload_n 3, 1) := by decide +kernel
theorem d_Md_wants_78 : decode b_Md_wants 78 = .ok (.putfield 187, 3) := by decide +kernel
theorem d_Md_wants_81 : decode b_Md_wants 81 = .ok (.aload_n 0, 1) := by decide +kernel
theorem d_Md_wants_82 : decode b_Md_wants 82 = .ok (.iload_n 1, 1) := by decide +kernel
theorem d_Md_wants_83 : decode b_Md_wants 83 = .ok (.putfield 190, 3) := by decide +kernel
theorem d_Md_wants_86 : decode b_Md_wants 86 = .ok (.aload_n 0, 1) := by decide +kernel
theorem d_Md_wants_87 : decode b_Md_wants 87 = .ok (.dup, 1) := by decide +kernel
theorem d_Md_wants_88 : decode b_Md_wants 88 = .ok (.getfield 175, 3) := by decide +kernel
theorem d_Md_wants_91 : decode b_Md_wants 91 = .ok (.aload_n 0, 1) := by decide +kernel
theorem d_Md_wants_92 : decode b_Md_wants 92 = .ok (.getfield 7, 3) := by decide +kernel
theorem d_Md_wants_95 : decode b_Md_wants 95 = .ok (.iload 4, 2) := by decide +kernel
theorem d_Md_wants_97 : decode b_Md_wants 97 = .ok (.iconst 2, 1) := by decide +kernel
theorem d_Md_wants_98 : decode b_Md_wants 98 = .ok (.iadd, 1) := by decide +kernel
theorem d_Md_wants_99 : decode b_Md_wants 99 = .ok (.iaload, 1) := by decide +kernel
theorem d_Md_wants_100 : decode b_Md_wants 100 = .ok (.iadd, 1) := by decide +kernel
theorem d_Md_wants_101 : decode b_Md_wants 101 = .ok (.putfield 175, 3) := by decide +kernel
theorem d_Md_wants_104 : decode b_Md_wants 104 = .ok (.aload_n 0, 1) := by decide +kernel
theorem d_Md_wants_105 : decode b_Md_wants 105 = .ok (.dup, 1) := by decide +kernel
theorem d_Md_wants_106 : decode b_Md_wants 106 = .ok (.getfield 178, 3) := by decide +kernel
theorem d_Md_wants_109 : decode b_Md_wants 109 = .ok (.iconst 1, 1) := by decide +kernel
theorem d_Md_wants_110 : decode b_Md_wants 110 = .ok (.iadd, 1) := by decide +kernel
theorem d_Md_wants_111 : decode b_Md_wants 111 = .ok (.putfield 178, 3) := by decide +kernel
theorem d_Md_wants_114 : decode b_Md_wants 114 = .ok (.aload_n 0, 1) := by decide +kernel
theorem d_Md_wants_115 : decode b_Md_wants 115 = .ok (.getfield 7, 3) := by decide +kernel
theorem d_Md_wants_118 : decode b_Md_wants 118 = .ok (.iload 4, 2) := by decide +kernel
theorem d_Md_wants_120 : decode b_Md_wants 120 = .ok (.iconst 3, 1) := by decide +kernel
theorem d_Md_wants_121 : decode b_Md_wants 121 = .ok (.iadd, 1) := by decide +kernel
theorem d_Md_wants_122 : decode b_Md_wants 122 = .ok (.iaload, 1) := by decide +kernel
theorem d_Md_wants_123 : decode b_Md_wants 123 = .ok (.aload_n 0, 1) := by decide +kernel
theorem d_Md_wants_124 : decode b_Md_wants 124 = .ok (.getfield 181, 3) := by decide +kernel
theorem d_Md_wants_127 : decode b_Md_wants 127 = .ok (.if_icmp .le 16, 3) := by decide +kernel
theorem d_Md_wants_130 : decode b_Md_wants 130 = .ok (.aload_n 0, 1) := by decide +kernel
theorem d_Md_wants_131 : decode b_Md_wants 131 = .ok (.aload_n 0, 1) := by decide +kernel
theorem d_Md_wants_132 : decode b_Md_wants 132 = .ok (.getfield 7, 3) := by decide +kernel
theorem d_Md_wants_135 : decode b_Md_wants 135 = .ok (.iload 4, 2) := by decide +kernel
theorem d_Md_wants_137 : decode b_Md_wants 137 = .ok (.iconst 3, 1) := by decide +kernel
theorem d_Md_wants_138 : decode b_Md_wants 138 = .ok (.iadd, 1) := by decide +kernel
theorem d_Md_wants_139 : decode b_Md_wants 139 = .ok (.iaload, 1) := by decide +kernel
theorem d_Md_wants_140 : decode b_Md_wants 140 = .ok (.putfield 181, 3) := by decide +kernel
theorem d_Md_wants_143 : decode b_Md_wants 143 = .ok (.return_, 1) := by decide +kernel
theorem wf_Md_172 : Cond.fieldLink R_Md 172 R_Md "strongest" "I" ∈ gw_tbl := gw_tb (List.mem_of_getElem? (i := 988) (by decide +kernel)) rfl
theorem wf_Md_175 : Cond.fieldLink R_Md 175 R_Md "sum" "I" ∈ gw_tbl := gw_tb (List.mem_of_getElem? (i := 989) (by decide +kernel)) rfl
theorem wf_Md_178 : Cond.fieldLink R_Md 178 R_Md "many" "I" ∈ gw_tbl := gw_tb (List.mem_of_getElem? (i := 990) (by decide +kernel)) rfl
theorem wf_Md_181 : Cond.fieldLink R_Md 181 R_Md "speed" "I" ∈ gw_tbl := gw_tb (List.mem_of_getElem? (i := 991) (by decide +kernel)) rfl
theorem wf_Md_184 : Cond.fieldLink R_Md 184 R_Md "bySaid" "I" ∈ gw_tbl := gw_tb (List.mem_of_getElem? (i := 992) (by decide +kernel)) rfl
theorem wf_Md_187 : Cond.fieldLink R_Md 187 R_Md "byItem" "I" ∈ gw_tbl := gw_tb (List.mem_of_getElem? (i := 993) (by decide +kernel)) rfl
theorem wf_Md_190 : Cond.fieldLink R_Md 190 R_Md "byGesture" "I" ∈ gw_tbl := gw_tb (List.mem_of_getElem? (i := 994) (by decide +kernel)) rfl
def f_Md_wants_86 (Q : Ob → Prop) (x4 : Int32) (o0 : Ob) : Prop := (vp_in (x4 + (2 : Int32)) 6100) ∧ (∀ y2 : Int32, y2 = ((gI o0 18) + ((gA o0 1) ((x4 + (2 : Int32)).toNatClampNeg))) → ((vp_in (x4 + (3 : Int32)) 6100) ∧ ((((gA o0 1) ((x4 + (3 : Int32)).toNatClampNeg)) ≤ (gI o0 20) → (Q (sI (sI o0 18 y2) 19 ((gI o0 19) + (1 : Int32))))) ∧ (¬ ((gA o0 1) ((x4 + (3 : Int32)).toNatClampNeg)) ≤ (gI o0 20) → ((vp_in (x4 + (3 : Int32)) 6100) ∧ (Q (sI (sI (sI o0 18 y2) 19 ((gI o0 19) + (1 : Int32))) 20 ((gA o0 1) ((x4 + (3 : Int32)).toNatClampNeg)))))))))
def f_Md_wants (a0 : Int32) (a1 : Int32) (a2 : Int32) (o0 : Ob) (Q : Ob → Prop) : Prop := ∀ y6 : Int32, y6 = (((5610 : Int32) + ((6 : Int32) * a0)) + (5 : Int32)) → ((vp_in y6 6100) ∧ (((gI o0 17) ≤ ((gA o0 1) y6.toNatClampNeg) → (∀ y9 : Int32, y9 = (((5610 : Int32) + ((6 : Int32) * a0)) + (5 : Int32)) → ((vp_in y9 6100) ∧ ((((gA o0 1) y9.toNatClampNeg) ≤ (gI o0 17) → (f_Md_wants_86 Q ((5610 : Int32) + ((6 : Int32) * a0)) o0)) ∧ (¬ ((gA o0 1) y9.toNatClampNeg) ≤ (gI o0 17) → (∀ y12 : Int32, y12 = (((5610 : Int32) + ((6 : Int32) * a0)) + (5 : Int32)) → ((vp_in y12 6100) ∧ (f_Md_wants_86 Q ((5610 : Int32) + ((6 : Int32) * a0)) (sI (sI (sI (sI (sI (sI (sI o0 17 ((gA o0 1) y12.toNatClampNeg)) 18 (0 : Int32)) 19 (0 : Int32)) 20 (0 : Int32)) 21 a1) 22 a2) 23 a0))))))))) ∧ (¬ (gI o0 17) ≤ ((gA o0 1) y6.toNatClampNeg) → (Q o0))))
abbrev rm_Md_wants : Room := { frames := 0, cells := 0, slots := 0, locals := 0 }
set_option maxHeartbeats 4000000 in
set_option maxRecDepth 100000 in
theorem t_Md_wants_86 {p : Program} {l : Launch} {e : Env} {s : State} {m : MethodId} {args : Array Value} {below : List Frame} {meth : Method} {c : Code} {A : Nat → Prop} {G : Gl} {h0 : Nat} {q0 : Nat → Nat} (Q : Ob → Prop) (C : Cx p s m args meth c R_Md b_Md_wants 5 none G A) :
    ∀ (x4 : Int32) (o0 : Ob) (ls : Array Slot) (H : Heap) (locs : List Loc), lv_has ls 5 [(0, .ref h0), (4, .int x4)] → va_P G.1 CL (cw_Md G h0 q0 o0) H → va_D A (cw_Md G h0 q0 o0) → va_S A s.heap H locs → f_Md_wants_86 Q x4 o0 → W p l e rm_Md_wants s m args below meth c H locs 0 0 (MQ below (va_Qv (fun (u : Ob) => Q u) (fun (u : Ob) t => BW G A (cw_Md G h0 q0 u) t) A) args s 0 0 A) (F0 m 86 ls []) := by
  obtain ⟨hx, hb, hml, hown, hr, hts, hK, hA, hlocks, hE⟩ := id C
  intro x4 o0 ls H locs hl hP hD hS h
  have hP : va_P G.1 CL [(h0, .inr (11, [.int (gI o0 0), .ref (q0 1), .ref (q0 2), .ref (q0 3), .ref (q0 4), .ref (q0 5), .ref (q0 6), .int (gI o0 7), .int (gI o0 8), .int (gI o0 9), .int (gI o0 10), .int (gI o0 11), .int (gI o0 12), .int (gI o0 13), .int (gI o0 14), .long (gL o0 15), .int (gI o0 16), .int (gI o0 17), .int (gI o0 18), .int (gI o0 19), .int (gI o0 20), .int (gI o0 21), .int (gI o0 22), .int (gI o0 23), .int (gI o0 24), .int (gI o0 25), .int (gI o0 26), .int (gI o0 27), .ref (q0 28), .long (gL o0 29), .int (gI o0 30), .ref (q0 31), .ref (q0 32), .ref (q0 33), .int (gI o0 34), .int (gI o0 35), .int (gI o0 36), .int (gI o0 37), .ref (q0 38), .ref (q0 39), .int (gI o0 40), .ref (q0 41), .ref (q0 42), .ref (q0 43), .ref (q0 44)])), kI G (q0 1) 6100 (gA o0 1), kI G (q0 2) 6100 (gA o0 2), kJ G (q0 3) 2016 (gB o0 3), kJ G (q0 4) 2016 (gB o0 4), kI G (q0 5) 300 (gA o0 5), kI G (q0 6) 400 (gA o0 6), kJ G (q0 28) 10 (gB o0 28), kI G (q0 31) 969 (gA o0 31), kI G (q0 32) 969 (gA o0 32), kI G (q0 33) 969 (gA o0 33), kI G (q0 38) 5 (gA o0 38), kI G (q0 39) 5120 (gA o0 39), kI G (q0 41) 5 (gA o0 41), kZ G (q0 42) 1024 (gA o0 42), kI G (q0 43) 8192 (gA o0 43), kI G (q0 44) 8192 (gA o0 44)] H := hP
  have hD : va_D A [(h0, .inr (11, [.int (gI o0 0), .ref (q0 1), .ref (q0 2), .ref (q0 3), .ref (q0 4), .ref (q0 5), .ref (q0 6), .int (gI o0 7), .int (gI o0 8), .int (gI o0 9), .int (gI o0 10), .int (gI o0 11), .int (gI o0 12), .int (gI o0 13), .int (gI o0 14), .long (gL o0 15), .int (gI o0 16), .int (gI o0 17), .int (gI o0 18), .int (gI o0 19), .int (gI o0 20), .int (gI o0 21), .int (gI o0 22), .int (gI o0 23), .int (gI o0 24), .int (gI o0 25), .int (gI o0 26), .int (gI o0 27), .ref (q0 28), .long (gL o0 29), .int (gI o0 30), .ref (q0 31), .ref (q0 32), .ref (q0 33), .int (gI o0 34), .int (gI o0 35), .int (gI o0 36), .int (gI o0 37), .ref (q0 38), .ref (q0 39), .int (gI o0 40), .ref (q0 41), .ref (q0 42), .ref (q0 43), .ref (q0 44)])), kI G (q0 1) 6100 (gA o0 1), kI G (q0 2) 6100 (gA o0 2), kJ G (q0 3) 2016 (gB o0 3), kJ G (q0 4) 2016 (gB o0 4), kI G (q0 5) 300 (gA o0 5), kI G (q0 6) 400 (gA o0 6), kJ G (q0 28) 10 (gB o0 28), kI G (q0 31) 969 (gA o0 31), kI G (q0 32) 969 (gA o0 32), kI G (q0 33) 969 (gA o0 33), kI G (q0 38) 5 (gA o0 38), kI G (q0 39) 5120 (gA o0 39), kI G (q0 41) 5 (gA o0 41), kZ G (q0 42) 1024 (gA o0 42), kI G (q0 43) 8192 (gA o0 43), kI G (q0 44) 8192 (gA o0 44)] := hD
  unfold f_Md_wants_86 at h
  refine lv_aload_n hx hb d_Md_wants_86 rfl (lv_at hl 0 rfl) ?_
  refine lv_dup hx hb d_Md_wants_87 rfl ?_
  refine va_get (D := G.1) (ci := 11) (v := .int (gI o0 18)) (C := R_Md) (T := T_Md) (N := 45) hx hb hts i_Md hown hK hP 0 rfl rfl 18 (by decide) (hts _ wf_Md_175) (fun _ h9 => h9) rfl d_Md_wants_88 ?_
  refine lv_aload_n hx hb d_Md_wants_91 rfl (lv_at hl 0 rfl) ?_
  refine va_get (D := G.1) (ci := 11) (v := .ref (q0 1)) (C := R_Md) (T := T_Md) (N := 45) hx hb hts i_Md hown hK hP 0 rfl rfl 1 (by decide) (hts _ wf_Md_7) (fun _ h9 => h9) rfl d_Md_wants_92 ?_
  refine lv_iload hx hb d_Md_wants_95 (lv_at hl 1 rfl) ?_
  refine lv_iconst (v := (2 : Int32)) hx hb d_Md_wants_97 (by decide) ?_
  refine lv_iadd hx hb d_Md_wants_98 ?_
  have g1 := h.1
  have h := h.2
  refine xa_iald hx hb hK hP 1 0 rfl rfl g1 (k := (x4 + (2 : Int32)).toNatClampNeg) rfl d_Md_wants_99 ?_
  refine lv_iadd hx hb d_Md_wants_100 ?_
  refine lv_topi (fun y2 ey2 => ?_)
  have h := h y2 ey2
  refine va_put (D := G.1) (ci := 11) (v := .int y2) (ty := .int) (C := R_Md) (T := T_Md) (N := 45) hx hb hts i_Md ty_Md ty_Md_ok nm_Md hown hK hP hD hS 0 rfl rfl 18 (by decide) (hts _ wf_Md_175) (fun _ h9 => h9) rfl (ty_Md_ok 18 (by decide)) rfl rfl (Nat.le_of_ble_eq_true rfl) d_Md_wants_101 (fun H locs hP hD hS => ?_)
  have hP : va_P G.1 CL [(h0, .inr (11, [.int (gI o0 0), .ref (q0 1), .ref (q0 2), .ref (q0 3), .ref (q0 4), .ref (q0 5), .ref (q0 6), .int (gI o0 7), .int (gI o0 8), .int (gI o0 9), .int (gI o0 10), .int (gI o0 11), .int (gI o0 12), .int (gI o0 13), .int (gI o0 14), .long (gL o0 15), .int (gI o0 16), .int (gI o0 17), .int y2, .int (gI o0 19), .int (gI o0 20), .int (gI o0 21), .int (gI o0 22), .int (gI o0 23), .int (gI o0 24), .int (gI o0 25), .int (gI o0 26), .int (gI o0 27), .ref (q0 28), .long (gL o0 29), .int (gI o0 30), .ref (q0 31), .ref (q0 32), .ref (q0 33), .int (gI o0 34), .int (gI o0 35), .int (gI o0 36), .int (gI o0 37), .ref (q0 38), .ref (q0 39), .int (gI o0 40), .ref (q0 41), .ref (q0 42), .ref (q0 43), .ref (q0 44)])), kI G (q0 1) 6100 (gA o0 1), kI G (q0 2) 6100 (gA o0 2), kJ G (q0 3) 2016 (gB o0 3), kJ G (q0 4) 2016 (gB o0 4), kI G (q0 5) 300 (gA o0 5), kI G (q0 6) 400 (gA o0 6), kJ G (q0 28) 10 (gB o0 28), kI G (q0 31) 969 (gA o0 31), kI G (q0 32) 969 (gA o0 32), kI G (q0 33) 969 (gA o0 33), kI G (q0 38) 5 (gA o0 38), kI G (q0 39) 5120 (gA o0 39), kI G (q0 41) 5 (gA o0 41), kZ G (q0 42) 1024 (gA o0 42), kI G (q0 43) 8192 (gA o0 43), kI G (q0 44) 8192 (gA o0 44)] H := hP
  have hD : va_D A [(h0, .inr (11, [.int (gI o0 0), .ref (q0 1), .ref (q0 2), .ref (q0 3), .ref (q0 4), .ref (q0 5), .ref (q0 6), .int (gI o0 7), .int (gI o0 8), .int (gI o0 9), .int (gI o0 10), .int (gI o0 11), .int (gI o0 12), .int (gI o0 13), .int (gI o0 14), .long (gL o0 15), .int (gI o0 16), .int (gI o0 17), .int y2, .int (gI o0 19), .int (gI o0 20), .int (gI o0 21), .int (gI o0 22), .int (gI o0 23), .int (gI o0 24), .int (gI o0 25), .int (gI o0 26), .int (gI o0 27), .ref (q0 28), .long (gL o0 29), .int (gI o0 30), .ref (q0 31), .ref (q0 32), .ref (q0 33), .int (gI o0 34), .int (gI o0 35), .int (gI o0 36), .int (gI o0 37), .ref (q0 38), .ref (q0 39), .int (gI o0 40), .ref (q0 41), .ref (q0 42), .ref (q0 43), .ref (q0 44)])), kI G (q0 1) 6100 (gA o0 1), kI G (q0 2) 6100 (gA o0 2), kJ G (q0 3) 2016 (gB o0 3), kJ G (q0 4) 2016 (gB o0 4), kI G (q0 5) 300 (gA o0 5), kI G (q0 6) 400 (gA o0 6), kJ G (q0 28) 10 (gB o0 28), kI G (q0 31) 969 (gA o0 31), kI G (q0 32) 969 (gA o0 32), kI G (q0 33) 969 (gA o0 33), kI G (q0 38) 5 (gA o0 38), kI G (q0 39) 5120 (gA o0 39), kI G (q0 41) 5 (gA o0 41), kZ G (q0 42) 1024 (gA o0 42), kI G (q0 43) 8192 (gA o0 43), kI G (q0 44) 8192 (gA o0 44)] := hD
  refine lv_aload_n hx hb d_Md_wants_104 rfl (lv_at hl 0 rfl) ?_
  refine lv_dup hx hb d_Md_wants_105 rfl ?_
  refine va_get (D := G.1) (ci := 11) (v := .int (gI o0 19)) (C := R_Md) (T := T_Md) (N := 45) hx hb hts i_Md hown hK hP 0 rfl rfl 19 (by decide) (hts _ wf_Md_178) (fun _ h9 => h9) rfl d_Md_wants_106 ?_
  refine lv_iconst (v := (1 : Int32)) hx hb d_Md_wants_109 (by decide) ?_
  refine lv_iadd hx hb d_Md_wants_110 ?_
  refine va_put (D := G.1) (ci := 11) (v := .int ((gI o0 19) + (1 : Int32))) (ty := .int) (C := R_Md) (T := T_Md) (N := 45) hx hb hts i_Md ty_Md ty_Md_ok nm_Md hown hK hP hD hS 0 rfl rfl 19 (by decide) (hts _ wf_Md_178) (fun _ h9 => h9) rfl (ty_Md_ok 19 (by decide)) rfl rfl (Nat.le_of_ble_eq_true rfl) d_Md_wants_111 (fun H locs hP hD hS => ?_)
  have hP : va_P G.1 CL [(h0, .inr (11, [.int (gI o0 0), .ref (q0 1), .ref (q0 2), .ref (q0 3), .ref (q0 4), .ref (q0 5), .ref (q0 6), .int (gI o0 7), .int (gI o0 8), .int (gI o0 9), .int (gI o0 10), .int (gI o0 11), .int (gI o0 12), .int (gI o0 13), .int (gI o0 14), .long (gL o0 15), .int (gI o0 16), .int (gI o0 17), .int y2, .int ((gI o0 19) + (1 : Int32)), .int (gI o0 20), .int (gI o0 21), .int (gI o0 22), .int (gI o0 23), .int (gI o0 24), .int (gI o0 25), .int (gI o0 26), .int (gI o0 27), .ref (q0 28), .long (gL o0 29), .int (gI o0 30), .ref (q0 31), .ref (q0 32), .ref (q0 33), .int (gI o0 34), .int (gI o0 35), .int (gI o0 36), .int (gI o0 37), .ref (q0 38), .ref (q0 39), .int (gI o0 40), .ref (q0 41), .ref (q0 42), .ref (q0 43), .ref (q0 44)])), kI G (q0 1) 6100 (gA o0 1), kI G (q0 2) 6100 (gA o0 2), kJ G (q0 3) 2016 (gB o0 3), kJ G (q0 4) 2016 (gB o0 4), kI G (q0 5) 300 (gA o0 5), kI G (q0 6) 400 (gA o0 6), kJ G (q0 28) 10 (gB o0 28), kI G (q0 31) 969 (gA o0 31), kI G (q0 32) 969 (gA o0 32), kI G (q0 33) 969 (gA o0 33), kI G (q0 38) 5 (gA o0 38), kI G (q0 39) 5120 (gA o0 39), kI G (q0 41) 5 (gA o0 41), kZ G (q0 42) 1024 (gA o0 42), kI G (q0 43) 8192 (gA o0 43), kI G (q0 44) 8192 (gA o0 44)] H := hP
  have hD : va_D A [(h0, .inr (11, [.int (gI o0 0), .ref (q0 1), .ref (q0 2), .ref (q0 3), .ref (q0 4), .ref (q0 5), .ref (q0 6), .int (gI o0 7), .int (gI o0 8), .int (gI o0 9), .int (gI o0 10), .int (gI o0 11), .int (gI o0 12), .int (gI o0 13), .int (gI o0 14), .long (gL o0 15), .int (gI o0 16), .int (gI o0 17), .int y2, .int ((gI o0 19) + (1 : Int32)), .int (gI o0 20), .int (gI o0 21), .int (gI o0 22), .int (gI o0 23), .int (gI o0 24), .int (gI o0 25), .int (gI o0 26), .int (gI o0 27), .ref (q0 28), .long (gL o0 29), .int (gI o0 30), .ref (q0 31), .ref (q0 32), .ref (q0 33), .int (gI o0 34), .int (gI o0 35), .int (gI o0 36), .int (gI o0 37), .ref (q0 38), .ref (q0 39), .int (gI o0 40), .ref (q0 41), .ref (q0 42), .ref (q0 43), .ref (q0 44)])), kI G (q0 1) 6100 (gA o0 1), kI G (q0 2) 6100 (gA o0 2), kJ G (q0 3) 2016 (gB o0 3), kJ G (q0 4) 2016 (gB o0 4), kI G (q0 5) 300 (gA o0 5), kI G (q0 6) 400 (gA o0 6), kJ G (q0 28) 10 (gB o0 28), kI G (q0 31) 969 (gA o0 31), kI G (q0 32) 969 (gA o0 32), kI G (q0 33) 969 (gA o0 33), kI G (q0 38) 5 (gA o0 38), kI G (q0 39) 5120 (gA o0 39), kI G (q0 41) 5 (gA o0 41), kZ G (q0 42) 1024 (gA o0 42), kI G (q0 43) 8192 (gA o0 43), kI G (q0 44) 8192 (gA o0 44)] := hD
  refine lv_aload_n hx hb d_Md_wants_114 rfl (lv_at hl 0 rfl) ?_
  refine va_get (D := G.1) (ci := 11) (v := .ref (q0 1)) (C := R_Md) (T := T_Md) (N := 45) hx hb hts i_Md hown hK hP 0 rfl rfl 1 (by decide) (hts _ wf_Md_7) (fun _ h9 => h9) rfl d_Md_wants_115 ?_
  refine lv_iload hx hb d_Md_wants_118 (lv_at hl 1 rfl) ?_
  refine lv_iconst (v := (3 : Int32)) hx hb d_Md_wants_120 (by decide) ?_
  refine lv_iadd hx hb d_Md_wants_121 ?_
  have g3 := h.1
  have h := h.2
  refine xa_iald hx hb hK hP 1 0 rfl rfl g3 (k := (x4 + (3 : Int32)).toNatClampNeg) rfl d_Md_wants_122 ?_
  refine lv_aload_n hx hb d_Md_wants_123 rfl (lv_at hl 0 rfl) ?_
  refine va_get (D := G.1) (ci := 11) (v := .int (gI o0 20)) (C := R_Md) (T := T_Md) (N := 45) hx hb hts i_Md hown hK hP 0 rfl rfl 20 (by decide) (hts _ wf_Md_181) (fun _ h9 => h9) rfl d_Md_wants_124 ?_
  refine lv_icmp_le (tgt := 143) hx hb d_Md_wants_127 (by decide) (fun c4 => ?_) (fun c4 => ?_)
  · have h := h.1 c4
    have hP : va_P G.1 CL (cw_Md G h0 q0 (sI (sI o0 18 y2) 19 ((gI o0 19) + (1 : Int32)))) H := hP
    have hD : va_D A (cw_Md G h0 q0 (sI (sI o0 18 y2) 19 ((gI o0 19) + (1 : Int32)))) := hD
    exact W.vret hx hb hr (fun t ht hW => ⟨⟨(sI (sI o0 18 y2) 19 ((gI o0 19) + (1 : Int32))), rfl, h, by rw [ht]; exact hP, va_K.moved hW.alike hK, hD⟩, hS.F ht⟩) hS.2.2 d_Md_wants_143
  · have h := h.2 c4
    refine lv_aload_n hx hb d_Md_wants_130 rfl (lv_at hl 0 rfl) ?_
    refine lv_aload_n hx hb d_Md_wants_131 rfl (lv_at hl 0 rfl) ?_
    refine va_get (D := G.1) (ci := 11) (v := .ref (q0 1)) (C := R_Md) (T := T_Md) (N := 45) hx hb hts i_Md hown hK hP 0 rfl rfl 1 (by decide) (hts _ wf_Md_7) (fun _ h9 => h9) rfl d_Md_wants_132 ?_
    refine lv_iload hx hb d_Md_wants_135 (lv_at hl 1 rfl) ?_
    refine lv_iconst (v := (3 : Int32)) hx hb d_Md_wants_137 (by decide) ?_
    refine lv_iadd hx hb d_Md_wants_138 ?_
    have g5 := h.1
    have h := h.2
    refine xa_iald hx hb hK hP 1 0 rfl rfl g5 (k := (x4 + (3 : Int32)).toNatClampNeg) rfl d_Md_wants_139 ?_
    refine va_put (D := G.1) (ci := 11) (v := .int ((gA o0 1) ((x4 + (3 : Int32)).toNatClampNeg))) (ty := .int) (C := R_Md) (T := T_Md) (N := 45) hx hb hts i_Md ty_Md ty_Md_ok nm_Md hown hK hP hD hS 0 rfl rfl 20 (by decide) (hts _ wf_Md_181) (fun _ h9 => h9) rfl (ty_Md_ok 20 (by decide)) rfl rfl (Nat.le_of_ble_eq_true rfl) d_Md_wants_140 (fun H locs hP hD hS => ?_)
    have hP : va_P G.1 CL [(h0, .inr (11, [.int (gI o0 0), .ref (q0 1), .ref (q0 2), .ref (q0 3), .ref (q0 4), .ref (q0 5), .ref (q0 6), .int (gI o0 7), .int (gI o0 8), .int (gI o0 9), .int (gI o0 10), .int (gI o0 11), .int (gI o0 12), .int (gI o0 13), .int (gI o0 14), .long (gL o0 15), .int (gI o0 16), .int (gI o0 17), .int y2, .int ((gI o0 19) + (1 : Int32)), .int ((gA o0 1) ((x4 + (3 : Int32)).toNatClampNeg)), .int (gI o0 21), .int (gI o0 22), .int (gI o0 23), .int (gI o0 24), .int (gI o0 25), .int (gI o0 26), .int (gI o0 27), .ref (q0 28), .long (gL o0 29), .int (gI o0 30), .ref (q0 31), .ref (q0 32), .ref (q0 33), .int (gI o0 34), .int (gI o0 35), .int (gI o0 36), .int (gI o0 37), .ref (q0 38), .ref (q0 39), .int (gI o0 40), .ref (q0 41), .ref (q0 42), .ref (q0 43), .ref (q0 44)])), kI G (q0 1) 6100 (gA o0 1), kI G (q0 2) 6100 (gA o0 2), kJ G (q0 3) 2016 (gB o0 3), kJ G (q0 4) 2016 (gB o0 4), kI G (q0 5) 300 (gA o0 5), kI G (q0 6) 400 (gA o0 6), kJ G (q0 28) 10 (gB o0 28), kI G (q0 31) 969 (gA o0 31), kI G (q0 32) 969 (gA o0 32), kI G (q0 33) 969 (gA o0 33), kI G (q0 38) 5 (gA o0 38), kI G (q0 39) 5120 (gA o0 39), kI G (q0 41) 5 (gA o0 41), kZ G (q0 42) 1024 (gA o0 42), kI G (q0 43) 8192 (gA o0 43), kI G (q0 44) 8192 (gA o0 44)] H := hP
    have hD : va_D A [(h0, .inr (11, [.int (gI o0 0), .ref (q0 1), .ref (q0 2), .ref (q0 3), .ref (q0 4), .ref (q0 5), .ref (q0 6), .int (gI o0 7), .int (gI o0 8), .int (gI o0 9), .int (gI o0 10), .int (gI o0 11), .int (gI o0 12), .int (gI o0 13), .int (gI o0 14), .long (gL o0 15), .int (gI o0 16), .int (gI o0 17), .int y2, .int ((gI o0 19) + (1 : Int32)), .int ((gA o0 1) ((x4 + (3 : Int32)).toNatClampNeg)), .int (gI o0 21), .int (gI o0 22), .int (gI o0 23), .int (gI o0 24), .int (gI o0 25), .int (gI o0 26), .int (gI o0 27), .ref (q0 28), .long (gL o0 29), .int (gI o0 30), .ref (q0 31), .ref (q0 32), .ref (q0 33), .int (gI o0 34), .int (gI o0 35), .int (gI o0 36), .int (gI o0 37), .ref (q0 38), .ref (q0 39), .int (gI o0 40), .ref (q0 41), .ref (q0 42), .ref (q0 43), .ref (q0 44)])), kI G (q0 1) 6100 (gA o0 1), kI G (q0 2) 6100 (gA o0 2), kJ G (q0 3) 2016 (gB o0 3), kJ G (q0 4) 2016 (gB o0 4), kI G (q0 5) 300 (gA o0 5), kI G (q0 6) 400 (gA o0 6), kJ G (q0 28) 10 (gB o0 28), kI G (q0 31) 969 (gA o0 31), kI G (q0 32) 969 (gA o0 32), kI G (q0 33) 969 (gA o0 33), kI G (q0 38) 5 (gA o0 38), kI G (q0 39) 5120 (gA o0 39), kI G (q0 41) 5 (gA o0 41), kZ G (q0 42) 1024 (gA o0 42), kI G (q0 43) 8192 (gA o0 43), kI G (q0 44) 8192 (gA o0 44)] := hD
    have hP : va_P G.1 CL (cw_Md G h0 q0 (sI (sI (sI o0 18 y2) 19 ((gI o0 19) + (1 : Int32))) 20 ((gA o0 1) ((x4 + (3 : Int32)).toNatClampNeg)))) H := hP
    have hD : va_D A (cw_Md G h0 q0 (sI (sI (sI o0 18 y2) 19 ((gI o0 19) + (1 : Int32))) 20 ((gA o0 1) ((x4 + (3 : Int32)).toNatClampNeg)))) := hD
    exact W.vret hx hb hr (fun t ht hW => ⟨⟨(sI (sI (sI o0 18 y2) 19 ((gI o0 19) + (1 : Int32))) 20 ((gA o0 1) ((x4 + (3 : Int32)).toNatClampNeg))), rfl, h, by rw [ht]; exact hP, va_K.moved hW.alike hK, hD⟩, hS.F ht⟩) hS.2.2 d_Md_wants_143
set_option maxHeartbeats 4000000 in
set_option maxRecDepth 100000 in
theorem c_Md_wants {l : Launch} {G : Gl} {h0 : Nat} {q0 : Nat → Nat} {a0 : Int32} {a1 : Int32} {a2 : Int32} {o0 : Ob} {Q : Ob → Prop} (sz : Nat) (h : f_Md_wants a0 a1 a2 o0 Q) : Met l y_Md_wants w_Md_wants rm_Md_wants (PcW G [.ref h0, .int a0, .int a1, .int a2] sz (cw_Md G h0 q0 o0)) (va_Qv (fun (u : Ob) => Q u) (fun (u : Ob) t => BW G (va_A (cw_Md G h0 q0 o0) sz) (cw_Md G h0 q0 u) t) (va_A (cw_Md G h0 q0 o0) sz)) 0 0 (va_A (cw_Md G h0 q0 o0) sz) := by
  refine Met.ofW (cc := b_Md_wants) (maxL := 5) (ret := none) (by decide +kernel) rfl ?_
  intro p e s m args below meth c s₁ B hml hv
  obtain ⟨rfl, hsz, hP, hK, hD0, hE⟩ := hv
  have hx := B.exec
  have hb := B.bytes
  have hr := B.returns
  have hts0 := atoms_spec (ws := w_Md_wants) B.pre
  have hts : ∀ w ∈ gw_tbl, w.before ([.ref h0, .int a0, .int a1, .int a2]).toArray s = true := fun w hw => hts0 w (List.mem_cons_of_mem _ hw)
  have hown : s.vm.findClass R_Md = some m.cls := findClass_of_methodNamed B.named
  have hlocks := B.notSynchronized
  subst hsz
  have hD := hD0.self (sz := s.heap.size)
  generalize hAe : va_A (cw_Md G h0 q0 o0) s.heap.size = A at hD hE ⊢
  have hA : ∀ q : Nat, s.heap.size ≤ q → A q := fun q h => by rw [← hAe]; exact Or.inr h
  have hS : va_S A s.heap s.heap [] := va_S.rf
  have C : Cx p s m ([.ref h0, .int a0, .int a1, .int a2]).toArray meth c R_Md b_Md_wants 5 none G A := ⟨hx, hb, hml, hown, hr, hts, hK, hA, hlocks, hE⟩
  have hl := lv_entry ([.ref h0, .int a0, .int a1, .int a2]) (n := 5) (Nat.le_of_ble_eq_true rfl)
  rw [lg_entry_eq]
  generalize (lg_sl ([.ref h0, .int a0, .int a1, .int a2]) ++ List.replicate (5 - (lg_sl ([.ref h0, .int a0, .int a1, .int a2])).length) Slot.unset).toArray = ls at hl ⊢
  have hl : lv_has ls 5 [(0, .ref h0), (1, .int a0), (2, .int a1), (3, .int a2)] := hl
  have hD : va_D A [(h0, .inr (11, [.int (gI o0 0), .ref (q0 1), .ref (q0 2), .ref (q0 3), .ref (q0 4), .ref (q0 5), .ref (q0 6), .int (gI o0 7), .int (gI o0 8), .int (gI o0 9), .int (gI o0 10), .int (gI o0 11), .int (gI o0 12), .int (gI o0 13), .int (gI o0 14), .long (gL o0 15), .int (gI o0 16), .int (gI o0 17), .int (gI o0 18), .int (gI o0 19), .int (gI o0 20), .int (gI o0 21), .int (gI o0 22), .int (gI o0 23), .int (gI o0 24), .int (gI o0 25), .int (gI o0 26), .int (gI o0 27), .ref (q0 28), .long (gL o0 29), .int (gI o0 30), .ref (q0 31), .ref (q0 32), .ref (q0 33), .int (gI o0 34), .int (gI o0 35), .int (gI o0 36), .int (gI o0 37), .ref (q0 38), .ref (q0 39), .int (gI o0 40), .ref (q0 41), .ref (q0 42), .ref (q0 43), .ref (q0 44)])), kI G (q0 1) 6100 (gA o0 1), kI G (q0 2) 6100 (gA o0 2), kJ G (q0 3) 2016 (gB o0 3), kJ G (q0 4) 2016 (gB o0 4), kI G (q0 5) 300 (gA o0 5), kI G (q0 6) 400 (gA o0 6), kJ G (q0 28) 10 (gB o0 28), kI G (q0 31) 969 (gA o0 31), kI G (q0 32) 969 (gA o0 32), kI G (q0 33) 969 (gA o0 33), kI G (q0 38) 5 (gA o0 38), kI G (q0 39) 5120 (gA o0 39), kI G (q0 41) 5 (gA o0 41), kZ G (q0 42) 1024 (gA o0 42), kI G (q0 43) 8192 (gA o0 43), kI G (q0 44) 8192 (gA o0 44)] := hD
  unfold f_Md_wants at h
  suffices key : ∀ (H : Heap) (locs : List Loc), va_P G.1 CL [(h0, .inr (11, [.int (gI o0 0), .ref (q0 1), .ref (q0 2), .ref (q0 3), .ref (q0 4), .ref (q0 5), .ref (q0 6), .int (gI o0 7), .int (gI o0 8), .int (gI o0 9), .int (gI o0 10), .int (gI o0 11), .int (gI o0 12), .int (gI o0 13), .int (gI o0 14), .long (gL o0 15), .int (gI o0 16), .int (gI o0 17), .int (gI o0 18), .int (gI o0 19), .int (gI o0 20), .int (gI o0 21), .int (gI o0 22), .int (gI o0 23), .int (gI o0 24), .int (gI o0 25), .int (gI o0 26), .int (gI o0 27), .ref (q0 28), .long (gL o0 29), .int (gI o0 30), .ref (q0 31), .ref (q0 32), .ref (q0 33), .int (gI o0 34), .int (gI o0 35), .int (gI o0 36), .int (gI o0 37), .ref (q0 38), .ref (q0 39), .int (gI o0 40), .ref (q0 41), .ref (q0 42), .ref (q0 43), .ref (q0 44)])), kI G (q0 1) 6100 (gA o0 1), kI G (q0 2) 6100 (gA o0 2), kJ G (q0 3) 2016 (gB o0 3), kJ G (q0 4) 2016 (gB o0 4), kI G (q0 5) 300 (gA o0 5), kI G (q0 6) 400 (gA o0 6), kJ G (q0 28) 10 (gB o0 28), kI G (q0 31) 969 (gA o0 31), kI G (q0 32) 969 (gA o0 32), kI G (q0 33) 969 (gA o0 33), kI G (q0 38) 5 (gA o0 38), kI G (q0 39) 5120 (gA o0 39), kI G (q0 41) 5 (gA o0 41), kZ G (q0 42) 1024 (gA o0 42), kI G (q0 43) 8192 (gA o0 43), kI G (q0 44) 8192 (gA o0 44)] H → va_S A s.heap H locs → W p l e rm_Md_wants s m ([.ref h0, .int a0, .int a1, .int a2]).toArray below meth c H locs 0 0 (MQ below (va_Qv (fun (u : Ob) => Q u) (fun (u : Ob) t => BW G A (cw_Md G h0 q0 u) t) A) ([.ref h0, .int a0, .int a1, .int a2]).toArray s 0 0 A) (F0 m 0 ls []) from key s.heap [] hP hS
  intro H locs hP hS
  refine lv_sipush (v := (5610 : Int32)) hx hb d_Md_wants_0 (by decide) ?_
  refine lv_bipush (v := (6 : Int32)) hx hb d_Md_wants_3 (by decide) ?_
  refine lv_iload_n hx hb d_Md_wants_5 rfl (lv_at hl 1 rfl) ?_
  refine lv_imul hx hb d_Md_wants_6 ?_
  refine lv_iadd hx hb d_Md_wants_7 ?_
  refine lv_istore (lv' := [(4, .int ((5610 : Int32) + ((6 : Int32) * a0))), (0, .ref h0), (1, .int a0), (2, .int a1), (3, .int a2)]) hx hb d_Md_wants_8 hl (by decide) rfl (fun ls hl => ?_)
  refine lv_aload_n hx hb d_Md_wants_10 rfl (lv_at hl 1 rfl) ?_
  refine va_get (D := G.1) (ci := 11) (v := .ref (q0 1)) (C := R_Md) (T := T_Md) (N := 45) hx hb hts i_Md hown hK hP 0 rfl rfl 1 (by decide) (hts _ wf_Md_7) (fun _ h9 => h9) rfl d_Md_wants_11 ?_
  refine lv_iload hx hb d_Md_wants_14 (lv_at hl 0 rfl) ?_
  refine lv_iconst (v := (5 : Int32)) hx hb d_Md_wants_16 (by decide) ?_
  refine lv_iadd hx hb d_Md_wants_17 ?_
  refine lv_topi (fun y6 ey6 => ?_)
  have h := h y6 ey6
  have g7 := h.1
  have h := h.2
  refine xa_iald hx hb hK hP 1 0 rfl rfl g7 (k := y6.toNatClampNeg) rfl d_Md_wants_18 ?_
  refine lv_aload_n hx hb d_Md_wants_19 rfl (lv_at hl 1 rfl) ?_
  refine va_get (D := G.1) (ci := 11) (v := .int (gI o0 17)) (C := R_Md) (T := T_Md) (N := 45) hx hb hts i_Md hown hK hP 0 rfl rfl 17 (by decide) (hts _ wf_Md_172) (fun _ h9 => h9) rfl d_Md_wants_20 ?_
  refine lv_icmp_ge (tgt := 27) hx hb d_Md_wants_23 (by decide) (fun c8 => ?_) (fun c8 => ?_)
  · have h := h.1 c8
    refine lv_aload_n hx hb d_Md_wants_27 rfl (lv_at hl 1 rfl) ?_
    refine va_get (D := G.1) (ci := 11) (v := .ref (q0 1)) (C := R_Md) (T := T_Md) (N := 45) hx hb hts i_Md hown hK hP 0 rfl rfl 1 (by decide) (hts _ wf_Md_7) (fun _ h9 => h9) rfl d_Md_wants_28 ?_
    refine lv_iload hx hb d_Md_wants_31 (lv_at hl 0 rfl) ?_
    refine lv_iconst (v := (5 : Int32)) hx hb d_Md_wants_33 (by decide) ?_
    refine lv_iadd hx hb d_Md_wants_34 ?_
    refine lv_topi (fun y9 ey9 => ?_)
    have h := h y9 ey9
    have g10 := h.1
    have h := h.2
    refine xa_iald hx hb hK hP 1 0 rfl rfl g10 (k := y9.toNatClampNeg) rfl d_Md_wants_35 ?_
    refine lv_aload_n hx hb d_Md_wants_36 rfl (lv_at hl 1 rfl) ?_
    refine va_get (D := G.1) (ci := 11) (v := .int (gI o0 17)) (C := R_Md) (T := T_Md) (N := 45) hx hb hts i_Md hown hK hP 0 rfl rfl 17 (by decide) (hts _ wf_Md_172) (fun _ h9 => h9) rfl d_Md_wants_37 ?_
    refine lv_icmp_le (tgt := 86) hx hb d_Md_wants_40 (by decide) (fun c11 => ?_) (fun c11 => ?_)
    · have h := h.1 c11
      have hl := lv_sub (l' := [(0, .ref h0), (4, .int ((5610 : Int32) + ((6 : Int32) * a0)))]) hl [1, 0] rfl
      have hP : va_P G.1 CL (cw_Md G h0 q0 o0) H := hP
      have hD : va_D A (cw_Md G h0 q0 o0) := hD
      exact t_Md_wants_86 Q C ((5610 : Int32) + ((6 : Int32) * a0)) o0 ls _ locs hl hP hD hS h
    · have h := h.2 c11
      refine lv_aload_n hx hb d_Md_wants_43 rfl (lv_at hl 1 rfl) ?_
      refine lv_aload_n hx hb d_Md_wants_44 rfl (lv_at hl 1 rfl) ?_
      refine va_get (D := G.1) (ci := 11) (v := .ref (q0 1)) (C := R_Md) (T := T_Md) (N := 45) hx hb hts i_Md hown hK hP 0 rfl rfl 1 (by decide) (hts _ wf_Md_7) (fun _ h9 => h9) rfl d_Md_wants_45 ?_
      refine lv_iload hx hb d_Md_wants_48 (lv_at hl 0 rfl) ?_
      refine lv_iconst (v := (5 : Int32)) hx hb d_Md_wants_50 (by decide) ?_
      refine lv_iadd hx hb d_Md_wants_51 ?_
      refine lv_topi (fun y12 ey12 => ?_)
      have h := h y12 ey12
      have g13 := h.1
      have h := h.2
      refine xa_iald hx hb hK hP 1 0 rfl rfl g13 (k := y12.toNatClampNeg) rfl d_Md_wants_52 ?_
      refine va_put (D := G.1) (ci := 11) (v := .int ((gA o0 1) y12.toNatClampNeg)) (ty := .int) (C := R_Md) (T := T_Md) (N := 45) hx hb hts i_Md ty_Md ty_Md_ok nm_Md hown hK hP hD hS 0 rfl rfl 17 (by decide) (hts _ wf_Md_172) (fun _ h9 => h9) rfl (ty_Md_ok 17 (by decide)) rfl rfl (Nat.le_of_ble_eq_true rfl) d_Md_wants_53 (fun H locs hP hD hS => ?_)
      have hP : va_P G.1 CL [(h0, .inr (11, [.int (gI o0 0), .ref (q0 1), .ref (q0 2), .ref (q0 3), .ref (q0 4), .ref (q0 5), .ref (q0 6), .int (gI o0 7), .int (gI o0 8), .int (gI o0 9), .int (gI o0 10), .int (gI o0 11), .int (gI o0 12), .int (gI o0 13), .int (gI o0 14), .long (gL o0 15), .int (gI o0 16), .int ((gA o0 1) y12.toNatClampNeg), .int (gI o0 18), .int (gI o0 19), .int (gI o0 20), .int (gI o0 21), .int (gI o0 22), .int (gI o0 23), .int (gI o0 24), .int (gI o0 25), .int (gI o0 26), .int (gI o0 27), .ref (q0 28), .long (gL o0 29), .int (gI o0 30), .ref (q0 31), .ref (q0 32), .ref (q0 33), .int (gI o0 34), .int (gI o0 35), .int (gI o0 36), .int (gI o0 37), .ref (q0 38), .ref (q0 39), .int (gI o0 40), .ref (q0 41), .ref (q0 42), .ref (q0 43), .ref (q0 44)])), kI G (q0 1) 6100 (gA o0 1), kI G (q0 2) 6100 (gA o0 2), kJ G (q0 3) 2016 (gB o0 3), kJ G (q0 4) 2016 (gB o0 4), kI G (q0 5) 300 (gA o0 5), kI G (q0 6) 400 (gA o0 6), kJ G (q0 28) 10 (gB o0 28), kI G (q0 31) 969 (gA o0 31), kI G (q0 32) 969 (gA o0 32), kI G (q0 33) 969 (gA o0 33), kI G (q0 38) 5 (gA o0 38), kI G (q0 39) 5120 (gA o0 39), kI G (q0 41) 5 (gA o0 41), kZ G (q0 42) 1024 (gA o0 42), kI G (q0 43) 8192 (gA o0 43), kI G (q0 44) 8192 (gA o0 44)] H := hP
      have hD : va_D A [(h0, .inr (11, [.int (gI o0 0), .ref (q0 1), .ref (q0 2), .ref (q0 3), .ref (q0 4), .ref (q0 5), .ref (q0 6), .int (gI o0 7), .int (gI o0 8), .int (gI o0 9), .int (gI o0 10), .int (gI o0 11), .int (gI o0 12), .int (gI o0 13), .int (gI o0 14), .long (gL o0 15), .int (gI o0 16), .int ((gA o0 1) y12.toNatClampNeg), .int (gI o0 18), .int (gI o0 19), .int (gI o0 20), .int (gI o0 21), .int (gI o0 22), .int (gI o0 23), .int (gI o0 24), .int (gI o0 25), .int (gI o0 26), .int (gI o0 27), .ref (q0 28), .long (gL o0 29), .int (gI o0 30), .ref (q0 31), .ref (q0 32), .ref (q0 33), .int (gI o0 34), .int (gI o0 35), .int (gI o0 36), .int (gI o0 37), .ref (q0 38), .ref (q0 39), .int (gI o0 40), .ref (q0 41), .ref (q0 42), .ref (q0 43), .ref (q0 44)])), kI G (q0 1) 6100 (gA o0 1), kI G (q0 2) 6100 (gA o0 2), kJ G (q0 3) 2016 (gB o0 3), kJ G (q0 4) 2016 (gB o0 4), kI G (q0 5) 300 (gA o0 5), kI G (q0 6) 400 (gA o0 6), kJ G (q0 28) 10 (gB o0 28), kI G (q0 31) 969 (gA o0 31), kI G (q0 32) 969 (gA o0 32), kI G (q0 33) 969 (gA o0 33), kI G (q0 38) 5 (gA o0 38), kI G (q0 39) 5120 (gA o0 39), kI G (q0 41) 5 (gA o0 41), kZ G (q0 42) 1024 (gA o0 42), kI G (q0 43) 8192 (gA o0 43), kI G (q0 44) 8192 (gA o0 44)] := hD
      refine lv_aload_n hx hb d_Md_wants_56 rfl (lv_at hl 1 rfl) ?_
      refine lv_iconst (v := (0 : Int32)) hx hb d_Md_wants_57 (by decide) ?_
      refine va_put (D := G.1) (ci := 11) (v := .int (0 : Int32)) (ty := .int) (C := R_Md) (T := T_Md) (N := 45) hx hb hts i_Md ty_Md ty_Md_ok nm_Md hown hK hP hD hS 0 rfl rfl 18 (by decide) (hts _ wf_Md_175) (fun _ h9 => h9) rfl (ty_Md_ok 18 (by decide)) rfl rfl (Nat.le_of_ble_eq_true rfl) d_Md_wants_58 (fun H locs hP hD hS => ?_)
      have hP : va_P G.1 CL [(h0, .inr (11, [.int (gI o0 0), .ref (q0 1), .ref (q0 2), .ref (q0 3), .ref (q0 4), .ref (q0 5), .ref (q0 6), .int (gI o0 7), .int (gI o0 8), .int (gI o0 9), .int (gI o0 10), .int (gI o0 11), .int (gI o0 12), .int (gI o0 13), .int (gI o0 14), .long (gL o0 15), .int (gI o0 16), .int ((gA o0 1) y12.toNatClampNeg), .int (0 : Int32), .int (gI o0 19), .int (gI o0 20), .int (gI o0 21), .int (gI o0 22), .int (gI o0 23), .int (gI o0 24), .int (gI o0 25), .int (gI o0 26), .int (gI o0 27), .ref (q0 28), .long (gL o0 29), .int (gI o0 30), .ref (q0 31), .ref (q0 32), .ref (q0 33), .int (gI o0 34), .int (gI o0 35), .int (gI o0 36), .int (gI o0 37), .ref (q0 38), .ref (q0 39), .int (gI o0 40), .ref (q0 41), .ref (q0 42), .ref (q0 43), .ref (q0 44)])), kI G (q0 1) 6100 (gA o0 1), kI G (q0 2) 6100 (gA o0 2), kJ G (q0 3) 2016 (gB o0 3), kJ G (q0 4) 2016 (gB o0 4), kI G (q0 5) 300 (gA o0 5), kI G (q0 6) 400 (gA o0 6), kJ G (q0 28) 10 (gB o0 28), kI G (q0 31) 969 (gA o0 31), kI G (q0 32) 969 (gA o0 32), kI G (q0 33) 969 (gA o0 33), kI G (q0 38) 5 (gA o0 38), kI G (q0 39) 5120 (gA o0 39), kI G (q0 41) 5 (gA o0 41), kZ G (q0 42) 1024 (gA o0 42), kI G (q0 43) 8192 (gA o0 43), kI G (q0 44) 8192 (gA o0 44)] H := hP
      have hD : va_D A [(h0, .inr (11, [.int (gI o0 0), .ref (q0 1), .ref (q0 2), .ref (q0 3), .ref (q0 4), .ref (q0 5), .ref (q0 6), .int (gI o0 7), .int (gI o0 8), .int (gI o0 9), .int (gI o0 10), .int (gI o0 11), .int (gI o0 12), .int (gI o0 13), .int (gI o0 14), .long (gL o0 15), .int (gI o0 16), .int ((gA o0 1) y12.toNatClampNeg), .int (0 : Int32), .int (gI o0 19), .int (gI o0 20), .int (gI o0 21), .int (gI o0 22), .int (gI o0 23), .int (gI o0 24), .int (gI o0 25), .int (gI o0 26), .int (gI o0 27), .ref (q0 28), .long (gL o0 29), .int (gI o0 30), .ref (q0 31), .ref (q0 32), .ref (q0 33), .int (gI o0 34), .int (gI o0 35), .int (gI o0 36), .int (gI o0 37), .ref (q0 38), .ref (q0 39), .int (gI o0 40), .ref (q0 41), .ref (q0 42), .ref (q0 43), .ref (q0 44)])), kI G (q0 1) 6100 (gA o0 1), kI G (q0 2) 6100 (gA o0 2), kJ G (q0 3) 2016 (gB o0 3), kJ G (q0 4) 2016 (gB o0 4), kI G (q0 5) 300 (gA o0 5), kI G (q0 6) 400 (gA o0 6), kJ G (q0 28) 10 (gB o0 28), kI G (q0 31) 969 (gA o0 31), kI G (q0 32) 969 (gA o0 32), kI G (q0 33) 969 (gA o0 33), kI G (q0 38) 5 (gA o0 38), kI G (q0 39) 5120 (gA o0 39), kI G (q0 41) 5 (gA o0 41), kZ G (q0 42) 1024 (gA o0 42), kI G (q0 43) 8192 (gA o0 43), kI G (q0 44) 8192 (gA o0 44)] := hD
      refine lv_aload_n hx hb d_Md_wants_61 rfl (lv_at hl 1 rfl) ?_
      refine lv_iconst (v := (0 : Int32)) hx hb d_Md_wants_62 (by decide) ?_
      refine va_put (D := G.1) (ci := 11) (v := .int (0 : Int32)) (ty := .int) (C := R_Md) (T := T_Md) (N := 45) hx hb hts i_Md ty_Md ty_Md_ok nm_Md hown hK hP hD hS 0 rfl rfl 19 (by decide) (hts _ wf_Md_178) (fun _ h9 => h9) rfl (ty_Md_ok 19 (by decide)) rfl rfl (Nat.le_of_ble_eq_true rfl) d_Md_wants_63 (fun H locs hP hD hS => ?_)
      have hP : va_P G.1 CL [(h0, .inr (11, [.int (gI o0 0), .ref (q0 1), .ref (q0 2), .ref (q0 3), .ref (q0 4), .ref (q0 5), .ref (q0 6), .int (gI o0 7), .int (gI o0 8), .int (gI o0 9), .int (gI o0 10), .int (gI o0 11), .int (gI o0 12), .int (gI o0 13), .int (gI o0 14), .long (gL o0 15), .int (gI o0 16), .int ((gA o0 1) y12.toNatClampNeg), .int (0 : Int32), .int (0 : Int32), .int (gI o0 20), .int (gI o0 21), .int (gI o0 22), .int (gI o0 23), .int (gI o0 24), .int (gI o0 25), .int (gI o0 26), .int (gI o0 27), .ref (q0 28), .long (gL o0 29), .int (gI o0 30), .ref (q0 31), .ref (q0 32), .ref (q0 33), .int (gI o0 34), .int (gI o0 35), .int (gI o0 36), .int (gI o0 37), .ref (q0 38), .ref (q0 39), .int (gI o0 40), .ref (q0 41), .ref (q0 42), .ref (q0 43), .ref (q0 44)])), kI G (q0 1) 6100 (gA o0 1), kI G (q0 2) 6100 (gA o0 2), kJ G (q0 3) 2016 (gB o0 3), kJ G (q0 4) 2016 (gB o0 4), kI G (q0 5) 300 (gA o0 5), kI G (q0 6) 400 (gA o0 6), kJ G (q0 28) 10 (gB o0 28), kI G (q0 31) 969 (gA o0 31), kI G (q0 32) 969 (gA o0 32), kI G (q0 33) 969 (gA o0 33), kI G (q0 38) 5 (gA o0 38), kI G (q0 39) 5120 (gA o0 39), kI G (q0 41) 5 (gA o0 41), kZ G (q0 42) 1024 (gA o0 42), kI G (q0 43) 8192 (gA o0 43), kI G (q0 44) 8192 (gA o0 44)] H := hP
      have hD : va_D A [(h0, .inr (11, [.int (gI o0 0), .ref (q0 1), .ref (q0 2), .ref (q0 3), .ref (q0 4), .ref (q0 5), .ref (q0 6), .int (gI o0 7), .int (gI o0 8), .int (gI o0 9), .int (gI o0 10), .int (gI o0 11), .int (gI o0 12), .int (gI o0 13), .int (gI o0 14), .long (gL o0 15), .int (gI o0 16), .int ((gA o0 1) y12.toNatClampNeg), .int (0 : Int32), .int (0 : Int32), .int (gI o0 20), .int (gI o0 21), .int (gI o0 22), .int (gI o0 23), .int (gI o0 24), .int (gI o0 25), .int (gI o0 26), .int (gI o0 27), .ref (q0 28), .long (gL o0 29), .int (gI o0 30), .ref (q0 31), .ref (q0 32), .ref (q0 33), .int (gI o0 34), .int (gI o0 35), .int (gI o0 36), .int (gI o0 37), .ref (q0 38), .ref (q0 39), .int (gI o0 40), .ref (q0 41), .ref (q0 42), .ref (q0 43), .ref (q0 44)])), kI G (q0 1) 6100 (gA o0 1), kI G (q0 2) 6100 (gA o0 2), kJ G (q0 3) 2016 (gB o0 3), kJ G (q0 4) 2016 (gB o0 4), kI G (q0 5) 300 (gA o0 5), kI G (q0 6) 400 (gA o0 6), kJ G (q0 28) 10 (gB o0 28), kI G (q0 31) 969 (gA o0 31), kI G (q0 32) 969 (gA o0 32), kI G (q0 33) 969 (gA o0 33), kI G (q0 38) 5 (gA o0 38), kI G (q0 39) 5120 (gA o0 39), kI G (q0 41) 5 (gA o0 41), kZ G (q0 42) 1024 (gA o0 42), kI G (q0 43) 8192 (gA o0 43), kI G (q0 44) 8192 (gA o0 44)] := hD
      refine lv_aload_n hx hb d_Md_wants_66 rfl (lv_at hl 1 rfl) ?_
      refine lv_iconst (v := (0 : Int32)) hx hb d_Md_wants_67 (by decide) ?_
      refine va_put (D := G.1) (ci := 11) (v := .int (0 : Int32)) (ty := .int) (C := R_Md) (T := T_Md) (N := 45) hx hb hts i_Md ty_Md ty_Md_ok nm_Md hown hK hP hD hS 0 rfl rfl 20 (by decide) (hts _ wf_Md_181) (fun _ h9 => h9) rfl (ty_Md_ok 20 (by decide)) rfl rfl (Nat.le_of_ble_eq_true rfl) d_Md_wants_68 (fun H locs hP hD hS => ?_)
      have hP : va_P G.1 CL [(h0, .inr (11, [.int (gI o0 0), .ref (q0 1), .ref (q0 2), .ref (q0 3), .ref (q0 4), .ref (q0 5), .ref (q0 6), .int (gI o0 7), .int (gI o0 8), .int (gI o0 9), .int (gI o0 10), .int (gI o0 11), .int (gI o0 12), .int (gI o0 13), .int (gI o0 14), .long (gL o0 15), .int (gI o0 16), .int ((gA o0 1) y12.toNatClampNeg), .int (0 : Int32), .int (0 : Int32), .int (0 : Int32), .int (gI o0 21), .int (gI o0 22), .int (gI o0 23), .int (gI o0 24), .int (gI o0 25), .int (gI o0 26), .int (gI o0 27), .ref (q0 28), .long (gL o0 29), .int (gI o0 30), .ref (q0 31), .ref (q0 32), .ref (q0 33), .int (gI o0 34), .int (gI o0 35), .int (gI o0 36), .int (gI o0 37), .ref (q0 38), .ref (q0 39), .int (gI o0 40), .ref (q0 41), .ref (q0 42), .ref (q0 43), .ref (q0 44)])), kI G (q0 1) 6100 (gA o0 1), kI G (q0 2) 6100 (gA o0 2), kJ G (q0 3) 2016 (gB o0 3), kJ G (q0 4) 2016 (gB o0 4), kI G (q0 5) 300 (gA o0 5), kI G (q0 6) 400 (gA o0 6), kJ G (q0 28) 10 (gB o0 28), kI G (q0 31) 969 (gA o0 31), kI G (q0 32) 969 (gA o0 32), kI G (q0 33) 969 (gA o0 33), kI G (q0 38) 5 (gA o0 38), kI G (q0 39) 5120 (gA o0 39), kI G (q0 41) 5 (gA o0 41), kZ G (q0 42) 1024 (gA o0 42), kI G (q0 43) 8192 (gA o0 43), kI G (q0 44) 8192 (gA o0 44)] H := hP
      have hD : va_D A [(h0, .inr (11, [.int (gI o0 0), .ref (q0 1), .ref (q0 2), .ref (q0 3), .ref (q0 4), .ref (q0 5), .ref (q0 6), .int (gI o0 7), .int (gI o0 8), .int (gI o0 9), .int (gI o0 10), .int (gI o0 11), .int (gI o0 12), .int (gI o0 13), .int (gI o0 14), .long (gL o0 15), .int (gI o0 16), .int ((gA o0 1) y12.toNatClampNeg), .int (0 : Int32), .int (0 : Int32), .int (0 : Int32), .int (gI o0 21), .int (gI o0 22), .int (gI o0 23), .int (gI o0 24), .int (gI o0 25), .int (gI o0 26), .int (gI o0 27), .ref (q0 28), .long (gL o0 29), .int (gI o0 30), .ref (q0 31), .ref (q0 32), .ref (q0 33), .int (gI o0 34), .int (gI o0 35), .int (gI o0 36), .int (gI o0 37), .ref (q0 38), .ref (q0 39), .int (gI o0 40), .ref (q0 41), .ref (q0 42), .ref (q0 43), .ref (q0 44)])), kI G (q0 1) 6100 (gA o0 1), kI G (q0 2) 6100 (gA o0 2), kJ G (q0 3) 2016 (gB o0 3), kJ G (q0 4) 2016 (gB o0 4), kI G (q0 5) 300 (gA o0 5), kI G (q0 6) 400 (gA o0 6), kJ G (q0 28) 10 (gB o0 28), kI G (q0 31) 969 (gA o0 31), kI G (q0 32) 969 (gA o0 32), kI G (q0 33) 969 (gA o0 33), kI G (q0 38) 5 (gA o0 38), kI G (q0 39) 5120 (gA o0 39), kI G (q0 41) 5 (gA o0 41), kZ G (q0 42) 1024 (gA o0 42), kI G (q0 43) 8192 (gA o0 43), kI G (q0 44) 8192 (gA o0 44)] := hD
      refine lv_aload_n hx hb d_Md_wants_71 rfl (lv_at hl 1 rfl) ?_
      refine lv_iload_n hx hb d_Md_wants_72 rfl (lv_at hl 3 rfl) ?_
      refine va_put (D := G.1) (ci := 11) (v := .int a1) (ty := .int) (C := R_Md) (T := T_Md) (N := 45) hx hb hts i_Md ty_Md ty_Md_ok nm_Md hown hK hP hD hS 0 rfl rfl 21 (by decide) (hts _ wf_Md_184) (fun _ h9 => h9) rfl (ty_Md_ok 21 (by decide)) rfl rfl (Nat.le_of_ble_eq_true rfl) d_Md_wants_73 (fun H locs hP hD hS => ?_)
      have hP : va_P G.1 CL [(h0, .inr (11, [.int (gI o0 0), .ref (q0 1), .ref (q0 2), .ref (q0 3), .ref (q0 4), .ref (q0 5), .ref (q0 6), .int (gI o0 7), .int (gI o0 8), .int (gI o0 9), .int (gI o0 10), .int (gI o0 11), .int (gI o0 12), .int (gI o0 13), .int (gI o0 14), .long (gL o0 15), .int (gI o0 16), .int ((gA o0 1) y12.toNatClampNeg), .int (0 : Int32), .int (0 : Int32), .int (0 : Int32), .int a1, .int (gI o0 22), .int (gI o0 23), .int (gI o0 24), .int (gI o0 25), .int (gI o0 26), .int (gI o0 27), .ref (q0 28), .long (gL o0 29), .int (gI o0 30), .ref (q0 31), .ref (q0 32), .ref (q0 33), .int (gI o0 34), .int (gI o0 35), .int (gI o0 36), .int (gI o0 37), .ref (q0 38), .ref (q0 39), .int (gI o0 40), .ref (q0 41), .ref (q0 42), .ref (q0 43), .ref (q0 44)])), kI G (q0 1) 6100 (gA o0 1), kI G (q0 2) 6100 (gA o0 2), kJ G (q0 3) 2016 (gB o0 3), kJ G (q0 4) 2016 (gB o0 4), kI G (q0 5) 300 (gA o0 5), kI G (q0 6) 400 (gA o0 6), kJ G (q0 28) 10 (gB o0 28), kI G (q0 31) 969 (gA o0 31), kI G (q0 32) 969 (gA o0 32), kI G (q0 33) 969 (gA o0 33), kI G (q0 38) 5 (gA o0 38), kI G (q0 39) 5120 (gA o0 39), kI G (q0 41) 5 (gA o0 41), kZ G (q0 42) 1024 (gA o0 42), kI G (q0 43) 8192 (gA o0 43), kI G (q0 44) 8192 (gA o0 44)] H := hP
      have hD : va_D A [(h0, .inr (11, [.int (gI o0 0), .ref (q0 1), .ref (q0 2), .ref (q0 3), .ref (q0 4), .ref (q0 5), .ref (q0 6), .int (gI o0 7), .int (gI o0 8), .int (gI o0 9), .int (gI o0 10), .int (gI o0 11), .int (gI o0 12), .int (gI o0 13), .int (gI o0 14), .long (gL o0 15), .int (gI o0 16), .int ((gA o0 1) y12.toNatClampNeg), .int (0 : Int32), .int (0 : Int32), .int (0 : Int32), .int a1, .int (gI o0 22), .int (gI o0 23), .int (gI o0 24), .int (gI o0 25), .int (gI o0 26), .int (gI o0 27), .ref (q0 28), .long (gL o0 29), .int (gI o0 30), .ref (q0 31), .ref (q0 32), .ref (q0 33), .int (gI o0 34), .int (gI o0 35), .int (gI o0 36), .int (gI o0 37), .ref (q0 38), .ref (q0 39), .int (gI o0 40), .ref (q0 41), .ref (q0 42), .ref (q0 43), .ref (q0 44)])), kI G (q0 1) 6100 (gA o0 1), kI G (q0 2) 6100 (gA o0 2), kJ G (q0 3) 2016 (gB o0 3), kJ G (q0 4) 2016 (gB o0 4), kI G (q0 5) 300 (gA o0 5), kI G (q0 6) 400 (gA o0 6), kJ G (q0 28) 10 (gB o0 28), kI G (q0 31) 969 (gA o0 31), kI G (q0 32) 969 (gA o0 32), kI G (q0 33) 969 (gA o0 33), kI G (q0 38) 5 (gA o0 38), kI G (q0 39) 5120 (gA o0 39), kI G (q0 41) 5 (gA o0 41), kZ G (q0 42) 1024 (gA o0 42), kI G (q0 43) 8192 (gA o0 43), kI G (q0 44) 8192 (gA o0 44)] := hD
      refine lv_aload_n hx hb d_Md_wants_76 rfl (lv_at hl 1 rfl) ?_
      refine lv_iload_n hx hb d_Md_wants_77 rfl (lv_at hl 4 rfl) ?_
      refine va_put (D := G.1) (ci := 11) (v := .int a2) (ty := .int) (C := R_Md) (T := T_Md) (N := 45) hx hb hts i_Md ty_Md ty_Md_ok nm_Md hown hK hP hD hS 0 rfl rfl 22 (by decide) (hts _ wf_Md_187) (fun _ h9 => h9) rfl (ty_Md_ok 22 (by decide)) rfl rfl (Nat.le_of_ble_eq_true rfl) d_Md_wants_78 (fun H locs hP hD hS => ?_)
      have hP : va_P G.1 CL [(h0, .inr (11, [.int (gI o0 0), .ref (q0 1), .ref (q0 2), .ref (q0 3), .ref (q0 4), .ref (q0 5), .ref (q0 6), .int (gI o0 7), .int (gI o0 8), .int (gI o0 9), .int (gI o0 10), .int (gI o0 11), .int (gI o0 12), .int (gI o0 13), .int (gI o0 14), .long (gL o0 15), .int (gI o0 16), .int ((gA o0 1) y12.toNatClampNeg), .int (0 : Int32), .int (0 : Int32), .int (0 : Int32), .int a1, .int a2, .int (gI o0 23), .int (gI o0 24), .int (gI o0 25), .int (gI o0 26), .int (gI o0 27), .ref (q0 28), .long (gL o0 29), .int (gI o0 30), .ref (q0 31), .ref (q0 32), .ref (q0 33), .int (gI o0 34), .int (gI o0 35), .int (gI o0 36), .int (gI o0 37), .ref (q0 38), .ref (q0 39), .int (gI o0 40), .ref (q0 41), .ref (q0 42), .ref (q0 43), .ref (q0 44)])), kI G (q0 1) 6100 (gA o0 1), kI G (q0 2) 6100 (gA o0 2), kJ G (q0 3) 2016 (gB o0 3), kJ G (q0 4) 2016 (gB o0 4), kI G (q0 5) 300 (gA o0 5), kI G (q0 6) 400 (gA o0 6), kJ G (q0 28) 10 (gB o0 28), kI G (q0 31) 969 (gA o0 31), kI G (q0 32) 969 (gA o0 32), kI G (q0 33) 969 (gA o0 33), kI G (q0 38) 5 (gA o0 38), kI G (q0 39) 5120 (gA o0 39), kI G (q0 41) 5 (gA o0 41), kZ G (q0 42) 1024 (gA o0 42), kI G (q0 43) 8192 (gA o0 43), kI G (q0 44) 8192 (gA o0 44)] H := hP
      have hD : va_D A [(h0, .inr (11, [.int (gI o0 0), .ref (q0 1), .ref (q0 2), .ref (q0 3), .ref (q0 4), .ref (q0 5), .ref (q0 6), .int (gI o0 7), .int (gI o0 8), .int (gI o0 9), .int (gI o0 10), .int (gI o0 11), .int (gI o0 12), .int (gI o0 13), .int (gI o0 14), .long (gL o0 15), .int (gI o0 16), .int ((gA o0 1) y12.toNatClampNeg), .int (0 : Int32), .int (0 : Int32), .int (0 : Int32), .int a1, .int a2, .int (gI o0 23), .int (gI o0 24), .int (gI o0 25), .int (gI o0 26), .int (gI o0 27), .ref (q0 28), .long (gL o0 29), .int (gI o0 30), .ref (q0 31), .ref (q0 32), .ref (q0 33), .int (gI o0 34), .int (gI o0 35), .int (gI o0 36), .int (gI o0 37), .ref (q0 38), .ref (q0 39), .int (gI o0 40), .ref (q0 41), .ref (q0 42), .ref (q0 43), .ref (q0 44)])), kI G (q0 1) 6100 (gA o0 1), kI G (q0 2) 6100 (gA o0 2), kJ G (q0 3) 2016 (gB o0 3), kJ G (q0 4) 2016 (gB o0 4), kI G (q0 5) 300 (gA o0 5), kI G (q0 6) 400 (gA o0 6), kJ G (q0 28) 10 (gB o0 28), kI G (q0 31) 969 (gA o0 31), kI G (q0 32) 969 (gA o0 32), kI G (q0 33) 969 (gA o0 33), kI G (q0 38) 5 (gA o0 38), kI G (q0 39) 5120 (gA o0 39), kI G (q0 41) 5 (gA o0 41), kZ G (q0 42) 1024 (gA o0 42), kI G (q0 43) 8192 (gA o0 43), kI G (q0 44) 8192 (gA o0 44)] := hD
      refine lv_aload_n hx hb d_Md_wants_81 rfl (lv_at hl 1 rfl) ?_
      refine lv_iload_n hx hb d_Md_wants_82 rfl (lv_at hl 2 rfl) ?_
      refine va_put (D := G.1) (ci := 11) (v := .int a0) (ty := .int) (C := R_Md) (T := T_Md) (N := 45) hx hb hts i_Md ty_Md ty_Md_ok nm_Md hown hK hP hD hS 0 rfl rfl 23 (by decide) (hts _ wf_Md_190) (fun _ h9 => h9) rfl (ty_Md_ok 23 (by decide)) rfl rfl (Nat.le_of_ble_eq_true rfl) d_Md_wants_83 (fun H locs hP hD hS => ?_)
      have hP : va_P G.1 CL [(h0, .inr (11, [.int (gI o0 0), .ref (q0 1), .ref (q0 2), .ref (q0 3), .ref (q0 4), .ref (q0 5), .ref (q0 6), .int (gI o0 7), .int (gI o0 8), .int (gI o0 9), .int (gI o0 10), .int (gI o0 11), .int (gI o0 12), .int (gI o0 13), .int (gI o0 14), .long (gL o0 15), .int (gI o0 16), .int ((gA o0 1) y12.toNatClampNeg), .int (0 : Int32), .int (0 : Int32), .int (0 : Int32), .int a1, .int a2, .int a0, .int (gI o0 24), .int (gI o0 25), .int (gI o0 26), .int (gI o0 27), .ref (q0 28), .long (gL o0 29), .int (gI o0 30), .ref (q0 31), .ref (q0 32), .ref (q0 33), .int (gI o0 34), .int (gI o0 35), .int (gI o0 36), .int (gI o0 37), .ref (q0 38), .ref (q0 39), .int (gI o0 40), .ref (q0 41), .ref (q0 42), .ref (q0 43), .ref (q0 44)])), kI G (q0 1) 6100 (gA o0 1), kI G (q0 2) 6100 (gA o0 2), kJ G (q0 3) 2016 (gB o0 3), kJ G (q0 4) 2016 (gB o0 4), kI G (q0 5) 300 (gA o0 5), kI G (q0 6) 400 (gA o0 6), kJ G (q0 28) 10 (gB o0 28), kI G (q0 31) 969 (gA o0 31), kI G (q0 32) 969 (gA o0 32), kI G (q0 33) 969 (gA o0 33), kI G (q0 38) 5 (gA o0 38), kI G (q0 39) 5120 (gA o0 39), kI G (q0 41) 5 (gA o0 41), kZ G (q0 42) 1024 (gA o0 42), kI G (q0 43) 8192 (gA o0 43), kI G (q0 44) 8192 (gA o0 44)] H := hP
      have hD : va_D A [(h0, .inr (11, [.int (gI o0 0), .ref (q0 1), .ref (q0 2), .ref (q0 3), .ref (q0 4), .ref (q0 5), .ref (q0 6), .int (gI o0 7), .int (gI o0 8), .int (gI o0 9), .int (gI o0 10), .int (gI o0 11), .int (gI o0 12), .int (gI o0 13), .int (gI o0 14), .long (gL o0 15), .int (gI o0 16), .int ((gA o0 1) y12.toNatClampNeg), .int (0 : Int32), .int (0 : Int32), .int (0 : Int32), .int a1, .int a2, .int a0, .int (gI o0 24), .int (gI o0 25), .int (gI o0 26), .int (gI o0 27), .ref (q0 28), .long (gL o0 29), .int (gI o0 30), .ref (q0 31), .ref (q0 32), .ref (q0 33), .int (gI o0 34), .int (gI o0 35), .int (gI o0 36), .int (gI o0 37), .ref (q0 38), .ref (q0 39), .int (gI o0 40), .ref (q0 41), .ref (q0 42), .ref (q0 43), .ref (q0 44)])), kI G (q0 1) 6100 (gA o0 1), kI G (q0 2) 6100 (gA o0 2), kJ G (q0 3) 2016 (gB o0 3), kJ G (q0 4) 2016 (gB o0 4), kI G (q0 5) 300 (gA o0 5), kI G (q0 6) 400 (gA o0 6), kJ G (q0 28) 10 (gB o0 28), kI G (q0 31) 969 (gA o0 31), kI G (q0 32) 969 (gA o0 32), kI G (q0 33) 969 (gA o0 33), kI G (q0 38) 5 (gA o0 38), kI G (q0 39) 5120 (gA o0 39), kI G (q0 41) 5 (gA o0 41), kZ G (q0 42) 1024 (gA o0 42), kI G (q0 43) 8192 (gA o0 43), kI G (q0 44) 8192 (gA o0 44)] := hD
      have hl := lv_sub (l' := [(0, .ref h0), (4, .int ((5610 : Int32) + ((6 : Int32) * a0)))]) hl [1, 0] rfl
      have hP : va_P G.1 CL (cw_Md G h0 q0 (sI (sI (sI (sI (sI (sI (sI o0 17 ((gA o0 1) y12.toNatClampNeg)) 18 (0 : Int32)) 19 (0 : Int32)) 20 (0 : Int32)) 21 a1) 22 a2) 23 a0)) H := hP
      have hD : va_D A (cw_Md G h0 q0 (sI (sI (sI (sI (sI (sI (sI o0 17 ((gA o0 1) y12.toNatClampNeg)) 18 (0 : Int32)) 19 (0 : Int32)) 20 (0 : Int32)) 21 a1) 22 a2) 23 a0)) := hD
      exact t_Md_wants_86 Q C ((5610 : Int32) + ((6 : Int32) * a0)) (sI (sI (sI (sI (sI (sI (sI o0 17 ((gA o0 1) y12.toNatClampNeg)) 18 (0 : Int32)) 19 (0 : Int32)) 20 (0 : Int32)) 21 a1) 22 a2) 23 a0) ls _ locs hl hP hD hS h
  · have h := h.2 c8
    have hP : va_P G.1 CL (cw_Md G h0 q0 o0) H := hP
    have hD : va_D A (cw_Md G h0 q0 o0) := hD
    exact W.vret hx hb hr (fun t ht hW => ⟨⟨o0, rfl, h, by rw [ht]; exact hP, va_K.moved hW.alike hK, hD⟩, hS.F ht⟩) hS.2.2 d_Md_wants_26
abbrev b_Md_lead : ByteArray := prog_14_method_31_code
def y_Md_lead : MethodName := ⟨R_Md, "lead", "(II)V"⟩
abbrev w_Md_lead : List Cond := Cond.code y_Md_lead b_Md_lead 9 none :: gw_tbl
theorem d_Md_lead_0 : decode b_Md_lead 0 = .ok (.aload_n 0, 1) := by decide +kernel
theorem d_Md_lead_1 : decode b_Md_lead 1 = .ok (.iconst (-1), 1) := by decide +kernel
theorem d_Md_lead_2 : decode b_Md_lead 2 = .ok (.putfield 172, 3) := by decide +kernel
theorem d_Md_lead_5 : decode b_Md_lead 5 = .ok (.iconst 0, 1) := by decide +kernel
theorem d_Md_lead_6 : decode b_Md_lead 6 = .ok (.istore_n 3, 1) := by decide +kernel
theorem d_Md_lead_7 : decode b_Md_lead 7 = .ok (.iload_n 3, 1) := by decide +kernel
theorem d_Md_lead_8 : decode b_Md_lead 8 = .ok (.aload_n 0, 1) := by decide +kernel
theorem d_Md_lead_9 : decode b_Md_lead 9 = .ok (.getfield 7, 3) := by decide +kernel
theorem d_Md_lead_12 : decode b_Md_lead 12 = .ok (.iconst 3, 1) := by decide +kernel
theorem d_Md_lead_13 : decode b_Md_lead 13 = .ok (.iaload, 1) := by decide +kernel
theorem d_Md_lead_14 : decode b_Md_lead 14 = .ok (.if_icmp .ge 182, 3) := by decide +kernel
theorem d_Md_lead_17 : decode b_Md_lead 17 = .ok (.sipush 5740, 3) := by decide +kernel
theorem d_Md_lead_20 : decode b_Md_lead 20 = .ok (.bipush 17, 2) := by decide +kernel
theorem d_Md_lead_22 : decode b_Md_lead 22 = .ok (.aload_n 0, 1) := by decide +kernel
theorem d_Md_lead_23 : decode b_Md_lead 23 = .ok (.getfield 7, 3) := by decide +kernel
theorem d_Md_lead_26 : decode b_Md_lead 26 = .ok (.bipush 40, 2) := by decide +kernel
theorem d_Md_lead_28 : decode b_Md_lead 28 = .ok (.iconst 2, 1) := by decide +kernel
theorem d_Md_lead_29 : decode b_Md_lead 29 = .ok (.iload_n 3, 1) := by decide +kernel
theorem d_Md_lead_30 : decode b_Md_lead 30 = .ok (.imul, 1) := by decide +kernel
theorem d_Md_lead_31 : decode b_Md_lead 31 = .ok (.iadd, 1) := by decide +kernel
theorem d_Md_lead_32 : decode b_Md_lead 32 = .ok (.iaload, 1) := by decide +kernel
theorem d_Md_lead_33 : decode b_Md_lead 33 = .ok (.imul, 1) := by decide +kernel
theorem d_Md_lead_34 : decode b_Md_lead 34 = .ok (.iadd, 1) := by decide +kernel
theorem d_Md_lead_35 : decode b_Md_lead 35 = .ok (.istore 4, 2) := by decide +kernel
theorem d_Md_lead_37 : decode b_Md_lead 37 = .ok (.iconst 0, 1) := by decide +kernel
theorem d_Md_lead_38 : decode b_Md_lead 38 = .ok (.istore 5, 2) := by decide +kernel
theorem d_Md_lead_40 : decode b_Md_lead 40 = .ok (.iload 5, 2) := by decide +kernel
theorem d_Md_lead_42 : decode b_Md_lead 42 = .ok (.aload_n 0, 1) := by decide +kernel
theorem d_Md_lead_43 : decode b_Md_lead 43 = .ok (.getfield 7, 3) := by decide +kernel
theorem d_Md_lead_46 : decode b_Md_lead 46 = .ok (.iload 4, 2) := by decide +kernel
theorem d_Md_lead_48 : decode b_Md_lead 48 = .ok (.iaload, 1) := by decide +kernel
theorem d_Md_lead_49 : decode b_Md_lead 49 = .ok (.if_icmp .ge 141, 3) := by decide +kernel
theorem d_Md_lead_52 : decode b_Md_lead 52 = .ok (.aload_n 0, 1) := by decide +kernel
theorem d_Md_lead_53 : decode b_Md_lead 53 = .ok (.getfield 7, 3) := by decide +kernel
theorem d_Md_lead_56 : decode b_Md_lead 56 = .ok (.bipush 40, 2) := by decide +kernel
theorem d_Md_lead_58 : decode b_Md_lead 58 = .ok (.iconst 2, 1) := by decide +kernel
theorem d_Md_lead_59 : decode b_Md_lead 59 = .ok (.iload_n 3, 1) := by decide +kernel
theorem d_Md_lead_60 : decode b_Md_lead 60 = .ok (.imul, 1) := by decide +kernel
theorem d_Md_lead_61 : decode b_Md_lead 61 = .ok (.iadd, 1) := by decide +kernel
theorem d_Md_lead_62 : decode b_Md_lead 62 = .ok (.iconst 1, 1) := by decide +kernel
theorem d_Md_lead_63 : decode b_Md_lead 63 = .ok (.iadd, 1) := by decide +kernel
theorem d_Md_lead_64 : decode b_Md_lead 64 = .ok (.iaload, 1) := by decide +kernel
theorem d_Md_lead_65 : decode b_Md_lead 65 = .ok (.aload_n 0, 1) := by decide +kernel
theorem d_Md_lead_66 : decode b_Md_lead 66 = .ok (.getfield 7, 3) := by decide +kernel
theorem d_Md_lead_69 : decode b_Md_lead 69 = .ok (.iload 4, 2) := by decide +kernel
theorem d_Md_lead_71 : decode b_Md_lead 71 = .ok (.iconst 2, 1) := by decide +kernel
theorem d_Md_lead_72 : decode b_Md_lead 72 = .ok (.iadd, 1) := by decide +kernel
theorem d_Md_lead_73 : decode b_Md_lead 73 = .ok (.iconst 2, 1) := by decide +kernel
theorem d_Md_lead_74 : decode b_Md_lead 74 = .ok (.iload 5, 2) := by decide +kernel
theorem d_Md_lead_76 : decode b_Md_lead 76 = .ok (.imul, 1) := by decide +kernel
theorem d_Md_lead_77 : decode b_Md_lead 77 = .ok (.iadd, 1) := by decide +kernel
theorem d_Md_lead_78 : decode b_Md_lead 78 = .ok (.iaload, 1) := by decide +kernel
theorem d_Md_lead_79 : decode b_Md_lead 79 = .ok (.iadd, 1) := by decide +kernel
theorem d_Md_lead_80 : decode b_Md_lead 80 = .ok (.istore 6, 2) := by decide +kernel
theorem d_Md_lead_82 : decode b_Md_lead 82 = .ok (.iconst 0, 1) := by decide +kernel
theorem d_Md_lead_83 : decode b_Md_lead 83 = .ok (.istore 7, 2) := by decide +kernel
theorem d_Md_lead_85 : decode b_Md_lead 85 = .ok (.iload 7, 2) := by decide +kernel
theorem d_Md_lead_87 : decode b_Md_lead 87 = .ok (.aload_n 0, 1) := by decide +kernel
theorem d_Md_lead_88 : decode b_Md_lead 88 = .ok (.getfield 7, 3) := by decide +kernel
theorem d_Md_lead_91 : decode b_Md_lead 91 = .ok (.sipush 5604, 3) := by decide +kernel
theorem d_Md_lead_94 : decode b_Md_lead 94 = .ok (.iaload, 1) := by decide +kernel
theorem d_Md_lead_95 : decode b_Md_lead 95 = .ok (.if_icmp .ge 89, 3) := by decide +kernel
theorem d_Md_lead_98 : decode b_Md_lead 98 = .ok (.sipush 5610, 3) := by decide +kernel
theorem d_Md_lead_101 : decode b_Md_lead 101 = .ok (.bipush 6, 2) := by decide +kernel
theorem d_Md_lead_103 : decode b_Md_lead 103 = .ok (.iload 7, 2) := by decide +kernel
theorem d_Md_lead_105 : decode b_Md_lead 105 = .ok (.imul, 1) := by decide +kernel
theorem d_Md_lead_106 : decode b_Md_lead 106 = .ok (.iadd, 1) := by decide +kernel
theorem d_Md_lead_107 : decode b_Md_lead 107 = .ok (.istore 8, 2) := by decide +kernel
theorem d_Md_lead_109 : decode b_Md_lead 109 = .ok (.aload_n 0, 1) := by decide +kernel
theorem d_Md_lead_110 : decode b_Md_lead 110 = .ok (.getfield 7, 3) := by decide +kernel
theorem d_Md_lead_113 : decode b_Md_lead 113 = .ok (.iload 8, 2) := by decide +kernel
theorem d_Md_lead_115 : decode b_Md_lead 115 = .ok (.iaload, 1) := by decide +kernel
theorem d_Md_lead_116 : decode b_Md_lead 116 = .ok (.aload_n 0, 1) := by decide +kernel
theorem d_Md_lead_117 : decode b_Md_lead 117 = .ok (.getfield 7, 3) := by decide +kernel
theorem d_Md_lead_120 : decode b_Md_lead 120 = .ok (.iload 4, 2) := by decide +kernel
theorem d_Md_lead_122 : decode b_Md_lead 122 = .ok (.iconst 1, 1) := by decide +kernel
theorem d_Md_lead_123 : decode b_Md_lead 123 = .ok (.iadd, 1) := by decide +kernel
theorem d_Md_lead_124 : decode b_Md_lead 124 = .ok (.iconst 2, 1) := by decide +kernel
theorem d_Md_lead_125 : decode b_Md_lead 125 = .ok (.iload 5, 2) := by decide +kernel
theorem d_Md_lead_127 : decode b_Md_lead 127 = .ok (.imul, 1) := by decide +kernel
theorem d_Md_lead_128 : decode b_Md_lead 128 = .ok (.iadd, 1) := by decide +kernel
theorem d_Md_lead_129 : decode b_Md_lead 129 = .ok (.iaload, 1) := by decide +kernel
theorem d_Md_lead_130 : decode b_Md_lead 130 = .ok (.if_icmp .ne 48, 3) := by decide +kernel
theorem d_Md_lead_133 : decode b_Md_lead 133 = .ok (.aload_n 0, 1) := by decide +kernel
theorem d_Md_lead_134 : decode b_Md_lead 134 = .ok (.getfield 7, 3) := by decide +kernel
theorem d_Md_lead_137 : decode b_Md_lead 137 = .ok (.iload 8, 2) := by decide +kernel
theorem d_Md_lead_139 : decode b_Md_lead 139 = .ok (.iconst 1, 1) := by decide +kernel
theorem d_Md_lead_140 : decode b_Md_lead 140 = .ok (.iadd, 1) := by decide +kernel
theorem d_Md_lead_141 : decode b_Md_lead 141 = .ok (.iaload, 1) := by decide +kernel
theorem d_Md_lead_142 : decode b_Md_lead 142 = .ok (.iload_n 1, 1) := by decide +kernel
theorem d_Md_lead_143 : decode b_Md_lead 143 = .ok (.if_icmp .ne 35, 3) := by decide +kernel
theorem d_Md_lead_146 : decode b_Md_lead 146 = .ok (.iload_n 2, 1) := by decide +kernel
theorem d_Md_lead_147 : decode b_Md_lead 147 = .ok (.iload 6, 2) := by decide +kernel
theorem d_Md_lead_149 : decode b_Md_lead 149 = .ok (.iload 6, 2) := by decide +kernel
theorem d_Md_lead_151 : decode b_Md_lead 151 = .ok (.aload_n 0, 1) := by decide +kernel
theorem d_Md_lead_152 : decode b_Md_lead 152 = .ok (.getfield 7, 3) := by decide +kernel
theorem d_Md_lead_155 : decode b_Md_lead 155 = .ok (.iload 8, 2) := by decide +kernel
theorem d_Md_lead_157 : decode b_Md_lead 157 = .ok (.iconst 4, 1) := by decide +kernel
theorem d_Md_lead_158 : decode b_Md_lead 158 = .ok (.iadd, 1) := by decide +kernel
theorem d_Md_lead_159 : decode b_Md_lead 159 = .ok (.iaload, 1) := by decide +kernel
theorem d_Md_lead_160 : decode b_Md_lead 160 = .ok (.iadd, 1) := by decide +kernel
theorem d_Md_lead_161 : decode b_Md_lead 161 = .ok (.iconst 1, 1) := by decide +kernel
theorem d_Md_lead_162 : decode b_Md_lead 162 = .ok (.isub, 1) := by decide +kernel
theorem d_Md_lead_163 : decode b_Md_lead 163 = .ok (.invokestatic 76, 3) := by decide +kernel
theorem d_Md_lead_166 : decode b_Md_lead 166 = .ok (.ifCond .eq 12, 3) := by decide +kernel
theorem d_Md_lead_169 : decode b_Md_lead 169 = .ok (.aload_n 0, 1) := by decide +kernel
theorem d_Md_lead_170 : decode b_Md_lead 170 = .ok (.iload 7, 2) := by decide +kernel
theorem d_Md_lead_172 : decode b_Md_lead 172 = .ok (.iload_n 3, 1) := by decide +kernel
theorem d_Md_lead_173 : decode b_Md_lead 173 = .ok (.iload 5, 2) := by decide +kernel
theorem d_Md_lead_175 : decode b_Md_lead 175 = .ok (.invokevirtual 193, 3) := by decide +kernel
theorem d_Md_lead_178 : decode b_Md_lead 178 = .ok (.iinc 7 1, 3) := by decide +kernel
theorem d_Md_lead_181 : decode b_Md_lead 181 = .ok (.goto (-96), 3) := by decide +kernel
theorem d_Md_lead_184 : decode b_Md_lead 184 = .ok (.iinc 5 1, 3) := by decide +kernel
theorem d_Md_lead_187 : decode b_Md_lead 187 = .ok (.goto (-147), 3) := by decide +kernel
theorem d_Md_lead_190 : decode b_Md_lead 190 = .ok (.iinc 3 1, 3) := by decide +kernel
theorem d_Md_lead_193 : decode b_Md_lead 193 = .ok (.goto (-186), 3) := by decide +kernel
theorem d_Md_lead_196 : decode b_Md_lead 196 = .ok (.aload_n 0, 1) := by decide +kernel
theorem d_Md_lead_197 : decode b_Md_lead 197 = .ok (.getfield 172, 3) := by decide +kernel
theorem d_Md_lead_200 : decode b_Md_lead 200 = .ok (.ifCond .lt 7, 3) := by decide +kernel
theorem d_Md_lead_203 : decode b_Md_lead 203 = .ok (.iconst 1, 1) := by decide +kernel
theorem d_Md_lead_204 : decode b_Md_lead 204 = .ok (.goto 4, 3) := by decide +kernel
theorem d_Md_lead_207 : decode b_Md_lead 207 = .ok (.iconst 0, 1) := by decide +kernel
theorem d_Md_lead_208 : decode b_Md_lead 208 = .ok (.istore_n 3, 1) := by decide +kernel
theorem d_Md_lead_209 : decode b_Md_lead 209 = .ok (.iload_n 3, 1) := by decide +kernel
theorem d_Md_lead_210 : decode b_Md_lead 210 = .ok (.ifCond .eq 15, 3) := by decide +kernel
theorem d_Md_lead_213 : decode b_Md_lead 213 = .ok (.aload_n 0, 1) := by decide +kernel
theorem d_Md_lead_214 : decode b_Md_lead 214 = .ok (.getfield 175, 3) := by decide +kernel
theorem d_Md_lead_217 : decode b_Md_lead 217 = .ok (.aload_n 0, 1) := by decide +kernel
theorem d_Md_lead_218 : decode b_Md_lead 218 = .ok (.getfield 178, 3) := by decide +kernel
theorem d_Md_lead_221 : decode b_Md_lead 221 = .ok (.idiv, 1) := by decide +kernel
theorem d_Md_lead_222 : decode b_Md_lead 222 = .ok (.goto 13, 3) := by decide +kernel
theorem d_Md_lead_225 : decode b_Md_lead 225 = .ok (.aload_n 0, 1) := by decide +kernel
theorem d_Md_lead_226 : decode b_Md_lead 226 = .ok (.getfield 7, 3) := by decide +kernel
theorem d_Md_lead_229 : decode b_Md_lead 229 = .ok (.sipush 5605, 3) := by decide +kernel
theorem d_Md_lead_232 : decode b_Md_lead 232 = .ok (.iload_n 1, 1) := by decide +kernel
theorem d_Md_lead_233 : decode b_Md_lead 233 = .ok (.iadd, 1) := by decide +kernel
theorem d_Md_lead_234 : decode b_Md_lead 234 = .ok (.iaload, 1) := by decide +kernel
theorem d_Md_lead_235 : decode b_Md_lead 235 = .ok (.istore 4, 2) := by decide +kernel
theorem d_Md_lead_237 : decode b_Md_lead 237 = .ok (.iload_n 3, 1) := by decide +kernel
theorem d_Md_lead_238 : decode b_Md_lead 238 = .ok (.ifCond .eq 10, 3) := by decide +kernel
theorem d_Md_lead_241 : decode b_Md_lead 241 = .ok (.aload_n 0, 1) := by decide +kernel
theorem d_Md_lead_242 : decode b_Md_lead 242 = .ok (.getfield 181, 3) := by decide +kernel
theorem d_Md_lead_245 : decode b_Md_lead 245 = .ok (.goto 4, 3) := by decide +kernel
theorem d_Md_lead_248 : decode b_Md_lead 248 = .ok (.iconst 1, 1) := by decide +kernel
theorem d_Md_lead_249 : decode b_Md_lead 249 = .ok (.istore 5, 2) := by decide +kernel
theorem d_Md_lead_251 : decode b_Md_lead 251 = .ok (.iload 4, 2) := by decide +kernel
theorem d_Md_lead_253 : decode b_Md_lead 253 = .ok (.aload_n 0, 1) := by decide +kernel
theorem d_Md_lead_254 : decode b_Md_lead 254 = .ok (.getfield 7, 3) := by decide +kernel
theorem d_Md_lead_257 : decode b_Md_lead 257 = .ok (.bipush 20, 2) := by decide +kernel
theorem d_Md_lead_259 : decode b_Md_lead 259 = .ok (.iload_n 1, 1) := by decide +kernel
theorem d_Md_lead_260 : decode b_Md_lead 260 = .ok (.iadd, 1) := by decide +kernel
theorem d_Md_lead_261 : decode b_Md_lead 261 = .ok (.iaload, 1) := by decide +kernel
theorem d_Md_lead_262 : decode b_Md_lead 262 = .ok (.isub, 1) := by decide +kernel
theorem d_Md_lead_263 : decode b_Md_lead 263 = .ok (.istore 6, 2) := by decide +kernel
theorem d_Md_lead_265 : decode b_Md_lead 265 = .ok (.aload_n 0, 1) := by decide +kernel
theorem d_Md_lead_266 : decode b_Md_lead 266 = .ok (.getfield 7, 3) := by decide +kernel
theorem d_Md_lead_269 : decode b_Md_lead 269 = .ok (.bipush 20, 2) := by decide +kernel
theorem d_Md_lead_271 : decode b_Md_lead 271 = .ok (.iload_n 1, 1) := by decide +kernel
theorem d_Md_lead_272 : decode b_Md_lead 272 = .ok (.iadd, 1) := by decide +kernel
theorem d_Md_lead_273 : decode b_Md_lead 273 = .ok (.dup2, 1) := by decide +kernel
theorem d_Md_lead_274 : decode b_Md_lead 274 = .ok (.iaload, 1) := by decide +kernel
theorem d_Md_lead_275 : decode b_Md_lead 275 = .ok (.iload 6, 2) := by decide +kernel
theorem d_Md_lead_277 : decode b_Md_lead 277 = .ok (.iload 5, 2) := by decide +kernel
theorem d_Md_lead_279 : decode b_Md_lead 279 = .ok (.if_icmp .le 8, 3) := by decide +kernel
theorem d_Md_lead_282 : decode b_Md_lead 282 = .ok (.iload 5, 2) := by decide +kernel
theorem d_Md_lead_284 : decode b_Md_lead 284 = .ok (.goto 19, 3) := by decide +kernel
theorem d_Md_lead_287 : decode b_Md_lead 287 = .ok (.iload 6, 2) := by decide +kernel
theorem d_Md_lead_289 : decode b_Md_lead 289 = .ok (.iload 5, 2) := by decide +kernel
theorem d_Md_lead_291 : decode b_Md_lead 291 = .ok (.ineg, 1) := by decide +kernel
theorem d_Md_lead_292 : decode b_Md_lead 292 = .ok (.if_icmp .ge 9, 3) := by decide +kernel
theorem d_Md_lead_295 : decode b_Md_lead 295 = .ok (.iload 5, 2) := by decide +kernel
theorem d_Md_lead_297 : decode b_Md_lead 297 = .ok (.ineg, 1) := by decide +kernel
theorem d_Md_lead_298 : decode b_Md_lead 298 = .ok (.goto 5, 3) := by decide +kernel
theorem d_Md_lead_301 : decode b_Md_lead 301 = .ok (.iload 6, 2) := by decide +kernel
theorem d_Md_lead_303 : decode b_Md_lead 303 = .ok (.iadd, 1) := by decide +kernel
theorem d_Md_lead_304 : decode b_Md_lead 304 = .ok (.iastore, 1) := by decide +kernel
theorem d_Md_lead_305 : decode b_Md_lead 305 = .ok (.sipush 520, 3) := by decide +kernel
theorem d_Md_lead_308 : decode b_Md_lead 308 = .ok (.bipush 25, 2) := by decide +kernel
theorem d_Md_lead_310 : decode b_Md_lead 310 = .ok (.iload_n 2, 1) := by decide +kernel
theorem d_Md_lead_311 : decode b_Md_lead 311 = .ok (.imul, 1) := by decide +kernel
theorem d_Md_lead_312 : decode b_Md_lead 312 = .ok (.iadd, 1) := by decide +kernel
theorem d_Md_lead_313 : decode b_Md_lead 313 = .ok (.iconst 5, 1) := by decide +kernel
theorem d_Md_lead_314 : decode b_Md_lead 314 = .ok (.iload_n 1, 1) := by decide +kernel
theorem d_Md_lead_315 : decode b_Md_lead 315 = .ok (.imul, 1) := by decide +kernel
theorem d_Md_lead_316 : decode b_Md_lead 316 = .ok (.iadd, 1) := by decide +kernel
theorem d_Md_lead_317 : decode b_Md_lead 317 = .ok (.istore 7, 2) := by decide +kernel
theorem d_Md_lead_319 : decode b_Md_lead 319 = .ok (.aload_n 0, 1) := by decide +kernel
theorem d_Md_lead_320 : decode b_Md_lead 320 = .ok (.getfield 7, 3) := by decide +kernel
theorem d_Md_lead_323 : decode b_Md_lead 323 = .ok (.iload 7, 2) := by decide +kernel
theorem d_Md_lead_325 : decode b_Md_lead 325 = .ok (.aload_n 0, 1) := by decide +kernel
theorem d_Md_lead_326 : decode b_Md_lead 326 = .ok (.getfield 7, 3) := by decide +kernel
theorem d_Md_lead_329 : decode b_Md_lead 329 = .ok (.bipush 20, 2) := by decide +kernel
theorem d_Md_lead_331 : decode b_Md_lead 331 = .ok (.iload_n 1, 1) := by decide +kernel
theorem d_Md_lead_332 : decode b_Md_lead 332 = .ok (.iadd, 1) := by decide +kernel
theorem d_Md_lead_333 : decode b_Md_lead 333 = .ok (.iaload, 1) := by decide +kernel
theorem d_Md_lead_334 : decode b_Md_lead 334 = .ok (.iastore, 1) := by decide +kernel
theorem d_Md_lead_335 : decode b_Md_lead 335 = .ok (.aload_n 0, 1) := by decide +kernel
theorem d_Md_lead_336 : decode b_Md_lead 336 = .ok (.getfield 7, 3) := by decide +kernel
theorem d_Md_lead_339 : decode b_Md_lead 339 = .ok (.iload 7, 2) := by decide +kernel
theorem d_Md_lead_341 : decode b_Md_lead 341 = .ok (.iconst 1, 1) := by decide +kernel
theorem d_Md_lead_342 : decode b_Md_lead 342 = .ok (.iadd, 1) := by decide +kernel
theorem d_Md_lead_343 : decode b_Md_lead 343 = .ok (.iload 4, 2) := by decide +kernel
theorem d_Md_lead_345 : decode b_Md_lead 345 = .ok (.iastore, 1) := by decide +kernel
theorem d_Md_lead_346 : decode b_Md_lead 346 = .ok (.aload_n 0, 1) := by decide +kernel
theorem d_Md_lead_347 : decode b_Md_lead 347 = .ok (.getfield 7, 3) := by decide +kernel
theorem d_Md_lead_350 : decode b_Md_lead 350 = .ok (.iload 7, 2) := by decide +kernel
theorem d_Md_lead_352 : decode b_Md_lead 352 = .ok (.iconst 2, 1) := by decide +kernel
theorem d_Md_lead_353 : decode b_Md_lead 353 = .ok (.iadd, 1) := by decide +kernel
theorem d_Md_lead_354 : decode b_Md_lead 354 = .ok (.iload_n 3, 1) := by decide +kernel
theorem d_Md_lead_355 : decode b_Md_lead 355 = .ok (.ifCond .eq 10, 3) := by decide +kernel
theorem d_Md_lead_358 : decode b_Md_lead 358 = .ok (.aload_n 0, 1) := by decide +kernel
theorem d_Md_lead_359 : decode b_Md_lead 359 = .ok (.getfield 184, 3) := by decide +kernel
theorem d_Md_lead_362 : decode b_Md_lead 362 = .ok (.goto 4, 3) := by decide +kernel
theorem d_Md_lead_365 : decode b_Md_lead 365 = .ok (.iconst (-1), 1) := by decide +kernel
theorem d_Md_lead_366 : decode b_Md_lead 366 = .ok (.iastore, 1) := by decide +kernel
theorem d_Md_lead_367 : decode b_Md_lead 367 = .ok (.aload_n 0, 1) := by decide +kernel
theorem d_Md_lead_368 : decode b_Md_lead 368 = .ok (.getfield 7, 3) := by decide +kernel
theorem d_Md_lead_371 : decode b_Md_lead 371 = .ok (.iload 7, 2) := by decide +kernel
theorem d_Md_lead_373 : decode b_Md_lead 373 = .ok (.iconst 3, 1) := by decide +kernel
theorem d_Md_lead_374 : decode b_Md_lead 374 = .ok (.iadd, 1) := by decide +kernel
theorem d_Md_lead_375 : decode b_Md_lead 375 = .ok (.iload_n 3, 1) := by decide +kernel
theorem d_Md_lead_376 : decode b_Md_lead 376 = .ok (.ifCond .eq 10, 3) := by decide +kernel
theorem d_Md_lead_379 : decode b_Md_lead 379 = .ok (.aload_n 0, 1) := by decide +kernel
theorem d_Md_lead_380 : decode b_Md_lead 380 = .ok (.getfield 187, 3) := by decide +kernel
theorem d_Md_lead_383 : decode b_Md_lead 383 = .ok (.goto 4, 3) := by decide +kernel
theorem d_Md_lead_386 : decode b_Md_lead 386 = .ok (.iconst (-1), 1) := by decide +kernel
theorem d_Md_lead_387 : decode b_Md_lead 387 = .ok (.iastore, 1) := by decide +kernel
theorem d_Md_lead_388 : decode b_Md_lead 388 = .ok (.aload_n 0, 1) := by decide +kernel
theorem d_Md_lead_389 : decode b_Md_lead 389 = .ok (.getfield 7, 3) := by decide +kernel
theorem d_Md_lead_392 : decode b_Md_lead 392 = .ok (.iload 7, 2) := by decide +kernel
theorem d_Md_lead_394 : decode b_Md_lead 394 = .ok (.iconst 4, 1) := by decide +kernel
theorem d_Md_lead_395 : decode b_Md_lead 395 = .ok (.iadd, 1) := by decide +kernel
theorem d_Md_lead_396 : decode b_Md_lead 396 = .ok (.iload_n 3, 1) := by decide +kernel
theorem d_Md_lead_397 : decode b_Md_lead 397 = .ok (.ifCond .eq 10, 3) := by decide +kernel
theorem d_Md_lead_400 : decode b_Md_lead 400 = .ok (.aload_n 0, 1) := by decide +kernel
theorem d_Md_lead_401 : decode b_Md_lead 401 = .ok (.getfield 190, 3) := by decide +kernel
theorem d_Md_lead_404 : decode b_Md_lead 404 = .ok (.goto 4, 3) := by decide +kernel
theorem d_Md_lead_407 : decode b_Md_lead 407 = .ok (.iconst (-1), 1) := by decide +kernel
theorem d_Md_lead_408 : decode b_Md_lead 408 = .ok (.iastore, 1) := by decide +kernel
theorem d_Md_lead_409 : decode b_Md_lead 409 = .ok (.return_, 1) := by decide +kernel
theorem wv_Md_193 : wV R_Md 193 y_Md_wants b_Md_wants 5 none 3 := ⟨⟨gw_tb (List.mem_of_getElem? (i := 1217) (by decide +kernel)) rfl, gw_tb (List.mem_of_getElem? (i := 13) (by decide +kernel)) rfl, gw_tb (List.mem_of_getElem? (i := 1220) (by decide +kernel)) rfl, by decide, by decide, by decide +kernel⟩, gw_tb (List.mem_of_getElem? (i := 1219) (by decide +kernel)) rfl, gw_of (List.mem_append_left _ (List.mem_of_getElem? (i := 47) (by decide +kernel))) rfl⟩
def f_Md_lead_85 (k40 : Int32 → Int32 → Int32 → Int32 → Int32 → Ob → Prop) (Q : Ob → Prop) : Nat → Int32 → Int32 → Int32 → Int32 → Int32 → Int32 → Int32 → Ob → Prop
  | 0, _, _, _, _, _, _, _, _ => False
  | n + 1, x1, x2, x3, x4, x5, x6, x7, o0 => (((gA o0 1) 5604) ≤ x7 → (k40 x1 x2 x3 x4 (x5 + (1 : Int32)) o0)) ∧ (¬ ((gA o0 1) 5604) ≤ x7 → ((vp_in ((5610 : Int32) + ((6 : Int32) * x7)) 6100) ∧ (∀ y3 : Int32, y3 = ((gA o0 1) (((5610 : Int32) + ((6 : Int32) * x7)).toNatClampNeg)) → ((vp_in ((x4 + (1 : Int32)) + ((2 : Int32) * x5)) 6100) ∧ (∀ y5 : Int32, y5 = ((gA o0 1) (((x4 + (1 : Int32)) + ((2 : Int32) * x5)).toNatClampNeg)) → ((y3 = y5 → (∀ y7 : Int32, y7 = (((5610 : Int32) + ((6 : Int32) * x7)) + (1 : Int32)) → ((vp_in y7 6100) ∧ ((((gA o0 1) y7.toNatClampNeg) = x1 → (∀ y10 : Int32, y10 = (((5610 : Int32) + ((6 : Int32) * x7)) + (4 : Int32)) → ((vp_in y10 6100) ∧ (∀ y12 : Int32, y12 = ((x6 + ((gA o0 1) y10.toNatClampNeg)) - (1 : Int32)) → (f_Md_isIn x2 x6 y12 (fun z13 => (z13 = 0 → ((f_Md_lead_85 k40 Q n) x1 x2 x3 x4 x5 x6 (x7 + (1 : Int32)) o0)) ∧ (¬ z13 = 0 → (f_Md_wants x7 x3 x5 o0 (fun u15 => (f_Md_lead_85 k40 Q n) x1 x2 x3 x4 x5 x6 (x7 + (1 : Int32)) u15))))))))) ∧ (¬ ((gA o0 1) y7.toNatClampNeg) = x1 → ((f_Md_lead_85 k40 Q n) x1 x2 x3 x4 x5 x6 (x7 + (1 : Int32)) o0)))))) ∧ (¬ y3 = y5 → ((f_Md_lead_85 k40 Q n) x1 x2 x3 x4 x5 x6 (x7 + (1 : Int32)) o0))))))))
def f_Md_lead_40 (k7 : Int32 → Int32 → Int32 → Ob → Prop) (Q : Ob → Prop) : Nat → Int32 → Int32 → Int32 → Int32 → Int32 → Ob → Prop
  | 0, _, _, _, _, _, _ => False
  | n + 1, x1, x2, x3, x4, x5, o0 => (vp_in x4 6100) ∧ ((((gA o0 1) x4.toNatClampNeg) ≤ x5 → (k7 x1 x2 (x3 + (1 : Int32)) o0)) ∧ (¬ ((gA o0 1) x4.toNatClampNeg) ≤ x5 → (∀ y18 : Int32, y18 = (((40 : Int32) + ((2 : Int32) * x3)) + (1 : Int32)) → ((vp_in y18 6100) ∧ ((vp_in ((x4 + (2 : Int32)) + ((2 : Int32) * x5)) 6100) ∧ (∀ y21 : Int32, y21 = ((gA o0 1) (((x4 + (2 : Int32)) + ((2 : Int32) * x5)).toNatClampNeg)) → ((∃ w, f_Md_lead_85 (f_Md_lead_40 k7 Q n) Q w x1 x2 x3 x4 x5 (((gA o0 1) y18.toNatClampNeg) + y21) (0 : Int32) o0))))))))
def f_Md_lead_388 (Q : Ob → Prop) (x3 : Int32) (x7 : Int32) (o0 : Ob) : Prop := (x3 = 0 → ((vp_in (x7 + (4 : Int32)) 6100) ∧ (Q (sA o0 1 (upd (gA o0 1) ((x7 + (4 : Int32)).toNatClampNeg) (-1 : Int32)))))) ∧ (¬ x3 = 0 → ((vp_in (x7 + (4 : Int32)) 6100) ∧ (Q (sA o0 1 (upd (gA o0 1) ((x7 + (4 : Int32)).toNatClampNeg) (gI o0 23))))))
def f_Md_lead_367 (Q : Ob → Prop) (x3 : Int32) (x7 : Int32) (o0 : Ob) : Prop := (x3 = 0 → ((vp_in (x7 + (3 : Int32)) 6100) ∧ (f_Md_lead_388 Q x3 x7 (sA o0 1 (upd (gA o0 1) ((x7 + (3 : Int32)).toNatClampNeg) (-1 : Int32)))))) ∧ (¬ x3 = 0 → ((vp_in (x7 + (3 : Int32)) 6100) ∧ (f_Md_lead_388 Q x3 x7 (sA o0 1 (upd (gA o0 1) ((x7 + (3 : Int32)).toNatClampNeg) (gI o0 22))))))
def f_Md_lead_305 (Q : Ob → Prop) (x1 : Int32) (x2 : Int32) (x3 : Int32) (x4 : Int32) (o0 : Ob) : Prop := ∀ y28 : Int32, y28 = (((520 : Int32) + ((25 : Int32) * x2)) + ((5 : Int32) * x1)) → ((vp_in ((20 : Int32) + x1) 6100) ∧ (∀ y30 : Int32, y30 = ((gA o0 1) (((20 : Int32) + x1).toNatClampNeg)) → ((vp_in y28 6100) ∧ ((vp_in (y28 + (1 : Int32)) 6100) ∧ ((x3 = 0 → ((vp_in (y28 + (2 : Int32)) 6100) ∧ (f_Md_lead_367 Q x3 y28 (sA o0 1 (upd (upd (upd (gA o0 1) y28.toNatClampNeg y30) ((y28 + (1 : Int32)).toNatClampNeg) x4) ((y28 + (2 : Int32)).toNatClampNeg) (-1 : Int32)))))) ∧ (¬ x3 = 0 → ((vp_in (y28 + (2 : Int32)) 6100) ∧ (f_Md_lead_367 Q x3 y28 (sA o0 1 (upd (upd (upd (gA o0 1) y28.toNatClampNeg y30) ((y28 + (1 : Int32)).toNatClampNeg) x4) ((y28 + (2 : Int32)).toNatClampNeg) (gI o0 21)))))))))))
def f_Md_lead_251 (Q : Ob → Prop) (x1 : Int32) (x2 : Int32) (x3 : Int32) (x4 : Int32) (x5 : Int32) (o0 : Ob) : Prop := (vp_in ((20 : Int32) + x1) 6100) ∧ (∀ y37 : Int32, y37 = ((gA o0 1) (((20 : Int32) + x1).toNatClampNeg)) → ((vp_in ((20 : Int32) + x1) 6100) ∧ (∀ y39 : Int32, y39 = ((gA o0 1) (((20 : Int32) + x1).toNatClampNeg)) → (((x4 - y37) ≤ x5 → (((-x5) ≤ (x4 - y37) → ((vp_in ((20 : Int32) + x1) 6100) ∧ (f_Md_lead_305 Q x1 x2 x3 x4 (sA o0 1 (upd (gA o0 1) (((20 : Int32) + x1).toNatClampNeg) (y39 + (x4 - y37))))))) ∧ (¬ (-x5) ≤ (x4 - y37) → ((vp_in ((20 : Int32) + x1) 6100) ∧ (f_Md_lead_305 Q x1 x2 x3 x4 (sA o0 1 (upd (gA o0 1) (((20 : Int32) + x1).toNatClampNeg) (y39 + (-x5))))))))) ∧ (¬ (x4 - y37) ≤ x5 → ((vp_in ((20 : Int32) + x1) 6100) ∧ (f_Md_lead_305 Q x1 x2 x3 x4 (sA o0 1 (upd (gA o0 1) (((20 : Int32) + x1).toNatClampNeg) (y39 + x5))))))))))
def f_Md_lead_237 (Q : Ob → Prop) (x1 : Int32) (x2 : Int32) (x3 : Int32) (x4 : Int32) (o0 : Ob) : Prop := (x3 = 0 → (f_Md_lead_251 Q x1 x2 x3 x4 (1 : Int32) o0)) ∧ (¬ x3 = 0 → (f_Md_lead_251 Q x1 x2 x3 x4 (gI o0 20) o0))
def f_Md_lead_209 (Q : Ob → Prop) (x1 : Int32) (x2 : Int32) (x3 : Int32) (o0 : Ob) : Prop := (x3 = 0 → ((vp_in ((5605 : Int32) + x1) 6100) ∧ (∀ y48 : Int32, y48 = ((gA o0 1) (((5605 : Int32) + x1).toNatClampNeg)) → (f_Md_lead_237 Q x1 x2 x3 y48 o0)))) ∧ (¬ x3 = 0 → ((¬ (gI o0 19) = 0) ∧ (f_Md_lead_237 Q x1 x2 x3 ((gI o0 18) / (gI o0 19)) o0)))
def f_Md_lead_7 (Q : Ob → Prop) : Nat → Int32 → Int32 → Int32 → Ob → Prop
  | 0, _, _, _, _ => False
  | n + 1, x1, x2, x3, o0 => (((gA o0 1) 3) ≤ x3 → (((gI o0 17) < 0 → (f_Md_lead_209 Q x1 x2 (0 : Int32) o0)) ∧ (¬ (gI o0 17) < 0 → (f_Md_lead_209 Q x1 x2 (1 : Int32) o0)))) ∧ (¬ ((gA o0 1) 3) ≤ x3 → ((vp_in ((40 : Int32) + ((2 : Int32) * x3)) 6100) ∧ (∀ y53 : Int32, y53 = ((gA o0 1) (((40 : Int32) + ((2 : Int32) * x3)).toNatClampNeg)) → ((∃ w, f_Md_lead_40 (f_Md_lead_7 Q n) Q w x1 x2 x3 ((5740 : Int32) + ((17 : Int32) * y53)) (0 : Int32) o0)))))
def f_Md_lead (a0 : Int32) (a1 : Int32) (o0 : Ob) (Q : Ob → Prop) : Prop := (∃ w, f_Md_lead_7 Q w a0 a1 (0 : Int32) (sI o0 17 (-1 : Int32)))
abbrev rm_Md_lead : Room := { frames := 1, cells := 0, slots := 0, locals := 24 }
set_option maxHeartbeats 4000000 in
set_option maxRecDepth 100000 in
theorem t_Md_lead_85 {p : Program} {l : Launch} {e : Env} {s : State} {m : MethodId} {args : Array Value} {below : List Frame} {meth : Method} {c : Code} {A : Nat → Prop} {G : Gl} {h0 : Nat} {q0 : Nat → Nat} (k40 : Int32 → Int32 → Int32 → Int32 → Int32 → Ob → Prop) (Q : Ob → Prop) (C : Cx p s m args meth c R_Md b_Md_lead 9 none G A)
    (hk40 : ∀ (x1 : Int32) (x2 : Int32) (x3 : Int32) (x4 : Int32) (x5 : Int32) (o0 : Ob) (ls : Array Slot) (H : Heap) (locs : List Loc), lv_has ls 9 [(0, .ref h0), (1, .int x1), (2, .int x2), (3, .int x3), (4, .int x4), (5, .int x5)] → va_P G.1 CL (cw_Md G h0 q0 o0) H → va_D A (cw_Md G h0 q0 o0) → va_S A s.heap H locs → k40 x1 x2 x3 x4 x5 o0 → W p l e rm_Md_lead s m args below meth c H locs 0 0 (MQ below (va_Qv (fun (u : Ob) => Q u) (fun (u : Ob) t => BW G A (cw_Md G h0 q0 u) t) A) args s 0 0 A) (F0 m 40 ls [])) :
    ∀ (n : Nat) (x1 : Int32) (x2 : Int32) (x3 : Int32) (x4 : Int32) (x5 : Int32) (x6 : Int32) (x7 : Int32) (o0 : Ob) (ls : Array Slot) (H : Heap) (locs : List Loc), lv_has ls 9 [(0, .ref h0), (1, .int x1), (2, .int x2), (3, .int x3), (4, .int x4), (5, .int x5), (6, .int x6), (7, .int x7)] → va_P G.1 CL (cw_Md G h0 q0 o0) H → va_D A (cw_Md G h0 q0 o0) → va_S A s.heap H locs → f_Md_lead_85 k40 Q n x1 x2 x3 x4 x5 x6 x7 o0 → W p l e rm_Md_lead s m args below meth c H locs 0 0 (MQ below (va_Qv (fun (u : Ob) => Q u) (fun (u : Ob) t => BW G A (cw_Md G h0 q0 u) t) A) args s 0 0 A) (F0 m 85 ls []) := by
  obtain ⟨hx, hb, hml, hown, hr, hts, hK, hA, hlocks, hE⟩ := id C
  intro n
  induction n with
  | zero => intro x1 x2 x3 x4 x5 x6 x7 o0 ls H locs hl hP hD hS h; exact absurd h id
  | succ n ih =>
    intro x1 x2 x3 x4 x5 x6 x7 o0 ls H locs hl hP hD hS h
    have hP : va_P G.1 CL [(h0, .inr (11, [.int (gI o0 0), .ref (q0 1), .ref (q0 2), .ref (q0 3), .ref (q0 4), .ref (q0 5), .ref (q0 6), .int (gI o0 7), .int (gI o0 8), .int (gI o0 9), .int (gI o0 10), .int (gI o0 11), .int (gI o0 12), .int (gI o0 13), .int (gI o0 14), .long (gL o0 15), .int (gI o0 16), .int (gI o0 17), .int (gI o0 18), .int (gI o0 19), .int (gI o0 20), .int (gI o0 21), .int (gI o0 22), .int (gI o0 23), .int (gI o0 24), .int (gI o0 25), .int (gI o0 26), .int (gI o0 27), .ref (q0 28), .long (gL o0 29), .int (gI o0 30), .ref (q0 31), .ref (q0 32), .ref (q0 33), .int (gI o0 34), .int (gI o0 35), .int (gI o0 36), .int (gI o0 37), .ref (q0 38), .ref (q0 39), .int (gI o0 40), .ref (q0 41), .ref (q0 42), .ref (q0 43), .ref (q0 44)])), kI G (q0 1) 6100 (gA o0 1), kI G (q0 2) 6100 (gA o0 2), kJ G (q0 3) 2016 (gB o0 3), kJ G (q0 4) 2016 (gB o0 4), kI G (q0 5) 300 (gA o0 5), kI G (q0 6) 400 (gA o0 6), kJ G (q0 28) 10 (gB o0 28), kI G (q0 31) 969 (gA o0 31), kI G (q0 32) 969 (gA o0 32), kI G (q0 33) 969 (gA o0 33), kI G (q0 38) 5 (gA o0 38), kI G (q0 39) 5120 (gA o0 39), kI G (q0 41) 5 (gA o0 41), kZ G (q0 42) 1024 (gA o0 42), kI G (q0 43) 8192 (gA o0 43), kI G (q0 44) 8192 (gA o0 44)] H := hP
    have hD : va_D A [(h0, .inr (11, [.int (gI o0 0), .ref (q0 1), .ref (q0 2), .ref (q0 3), .ref (q0 4), .ref (q0 5), .ref (q0 6), .int (gI o0 7), .int (gI o0 8), .int (gI o0 9), .int (gI o0 10), .int (gI o0 11), .int (gI o0 12), .int (gI o0 13), .int (gI o0 14), .long (gL o0 15), .int (gI o0 16), .int (gI o0 17), .int (gI o0 18), .int (gI o0 19), .int (gI o0 20), .int (gI o0 21), .int (gI o0 22), .int (gI o0 23), .int (gI o0 24), .int (gI o0 25), .int (gI o0 26), .int (gI o0 27), .ref (q0 28), .long (gL o0 29), .int (gI o0 30), .ref (q0 31), .ref (q0 32), .ref (q0 33), .int (gI o0 34), .int (gI o0 35), .int (gI o0 36), .int (gI o0 37), .ref (q0 38), .ref (q0 39), .int (gI o0 40), .ref (q0 41), .ref (q0 42), .ref (q0 43), .ref (q0 44)])), kI G (q0 1) 6100 (gA o0 1), kI G (q0 2) 6100 (gA o0 2), kJ G (q0 3) 2016 (gB o0 3), kJ G (q0 4) 2016 (gB o0 4), kI G (q0 5) 300 (gA o0 5), kI G (q0 6) 400 (gA o0 6), kJ G (q0 28) 10 (gB o0 28), kI G (q0 31) 969 (gA o0 31), kI G (q0 32) 969 (gA o0 32), kI G (q0 33) 969 (gA o0 33), kI G (q0 38) 5 (gA o0 38), kI G (q0 39) 5120 (gA o0 39), kI G (q0 41) 5 (gA o0 41), kZ G (q0 42) 1024 (gA o0 42), kI G (q0 43) 8192 (gA o0 43), kI G (q0 44) 8192 (gA o0 44)] := hD
    unfold f_Md_lead_85 at h
    refine lv_iload hx hb d_Md_lead_85 (lv_at hl 7 rfl) ?_
    refine lv_aload_n hx hb d_Md_lead_87 rfl (lv_at hl 0 rfl) ?_
    refine va_get (D := G.1) (ci := 11) (v := .ref (q0 1)) (C := R_Md) (T := T_Md) (N := 45) hx hb hts i_Md hown hK hP 0 rfl rfl 1 (by decide) (hts _ wf_Md_7) (fun _ h9 => h9) rfl d_Md_lead_88 ?_
    refine lv_sipush (v := (5604 : Int32)) hx hb d_Md_lead_91 (by decide) ?_
    refine xa_iald hx hb hK hP 1 0 rfl rfl (vp_lit rfl) (k := 5604) rfl d_Md_lead_94 ?_
    refine lv_icmp_ge (tgt := 184) hx hb d_Md_lead_95 (by decide) (fun c1 => ?_) (fun c1 => ?_)
    · have h := h.1 c1
      refine lv_iinc (v := (x5 + (1 : Int32))) (lv' := [(5, .int (x5 + (1 : Int32))), (0, .ref h0), (1, .int x1), (2, .int x2), (3, .int x3), (4, .int x4), (6, .int x6), (7, .int x7)]) hx hb d_Md_lead_184 hl (k := 5) rfl rfl (by decide) rfl (fun ls hl => ?_)
      refine lv_goto (tgt := 40) hx hb d_Md_lead_187 (by decide) ?_
      have hl := lv_sub (l' := [(0, .ref h0), (1, .int x1), (2, .int x2), (3, .int x3), (4, .int x4), (5, .int (x5 + (1 : Int32)))]) hl [1, 2, 3, 4, 5, 0] rfl
      have hP : va_P G.1 CL (cw_Md G h0 q0 o0) H := hP
      have hD : va_D A (cw_Md G h0 q0 o0) := hD
      exact hk40 x1 x2 x3 x4 (x5 + (1 : Int32)) o0 ls H locs hl hP hD hS h
    · have h := h.2 c1
      refine lv_sipush (v := (5610 : Int32)) hx hb d_Md_lead_98 (by decide) ?_
      refine lv_bipush (v := (6 : Int32)) hx hb d_Md_lead_101 (by decide) ?_
      refine lv_iload hx hb d_Md_lead_103 (lv_at hl 7 rfl) ?_
      refine lv_imul hx hb d_Md_lead_105 ?_
      refine lv_iadd hx hb d_Md_lead_106 ?_
      refine lv_istore (lv' := [(8, .int ((5610 : Int32) + ((6 : Int32) * x7))), (0, .ref h0), (1, .int x1), (2, .int x2), (3, .int x3), (4, .int x4), (5, .int x5), (6, .int x6), (7, .int x7)]) hx hb d_Md_lead_107 hl (by decide) rfl (fun ls hl => ?_)
      refine lv_aload_n hx hb d_Md_lead_109 rfl (lv_at hl 1 rfl) ?_
      refine va_get (D := G.1) (ci := 11) (v := .ref (q0 1)) (C := R_Md) (T := T_Md) (N := 45) hx hb hts i_Md hown hK hP 0 rfl rfl 1 (by decide) (hts _ wf_Md_7) (fun _ h9 => h9) rfl d_Md_lead_110 ?_
      refine lv_iload hx hb d_Md_lead_113 (lv_at hl 0 rfl) ?_
      have g2 := h.1
      have h := h.2
      refine xa_iald hx hb hK hP 1 0 rfl rfl g2 (k := ((5610 : Int32) + ((6 : Int32) * x7)).toNatClampNeg) rfl d_Md_lead_115 ?_
      refine lv_topi (fun y3 ey3 => ?_)
      have h := h y3 ey3
      refine lv_aload_n hx hb d_Md_lead_116 rfl (lv_at hl 1 rfl) ?_
      refine va_get (D := G.1) (ci := 11) (v := .ref (q0 1)) (C := R_Md) (T := T_Md) (N := 45) hx hb hts i_Md hown hK hP 0 rfl rfl 1 (by decide) (hts _ wf_Md_7) (fun _ h9 => h9) rfl d_Md_lead_117 ?_
      refine lv_iload hx hb d_Md_lead_120 (lv_at hl 5 rfl) ?_
      refine lv_iconst (v := (1 : Int32)) hx hb d_Md_lead_122 (by decide) ?_
      refine lv_iadd hx hb d_Md_lead_123 ?_
      refine lv_iconst (v := (2 : Int32)) hx hb d_Md_lead_124 (by decide) ?_
      refine lv_iload hx hb d_Md_lead_125 (lv_at hl 6 rfl) ?_
      refine lv_imul hx hb d_Md_lead_127 ?_
      refine lv_iadd hx hb d_Md_lead_128 ?_
      have g4 := h.1
      have h := h.2
      refine xa_iald hx hb hK hP 1 0 rfl rfl g4 (k := ((x4 + (1 : Int32)) + ((2 : Int32) * x5)).toNatClampNeg) rfl d_Md_lead_129 ?_
      refine lv_topi (fun y5 ey5 => ?_)
      have h := h y5 ey5
      refine lv_icmp_ne (tgt := 178) hx hb d_Md_lead_130 (by decide) (fun c6 => ?_) (fun c6 => ?_)
      · have h := h.2 c6
        refine lv_iinc (v := (x7 + (1 : Int32))) (lv' := [(7, .int (x7 + (1 : Int32))), (8, .int ((5610 : Int32) + ((6 : Int32) * x7))), (0, .ref h0), (1, .int x1), (2, .int x2), (3, .int x3), (4, .int x4), (5, .int x5), (6, .int x6)]) hx hb d_Md_lead_178 hl (k := 8) rfl rfl (by decide) rfl (fun ls hl => ?_)
        refine lv_goto (tgt := 85) hx hb d_Md_lead_181 (by decide) ?_
        have hl := lv_sub (l' := [(0, .ref h0), (1, .int x1), (2, .int x2), (3, .int x3), (4, .int x4), (5, .int x5), (6, .int x6), (7, .int (x7 + (1 : Int32)))]) hl [2, 3, 4, 5, 6, 7, 8, 0] rfl
        have hP : va_P G.1 CL (cw_Md G h0 q0 o0) H := hP
        have hD : va_D A (cw_Md G h0 q0 o0) := hD
        exact ih x1 x2 x3 x4 x5 x6 (x7 + (1 : Int32)) o0 ls H locs hl hP hD hS h
      · have h := h.1 c6
        refine lv_aload_n hx hb d_Md_lead_133 rfl (lv_at hl 1 rfl) ?_
        refine va_get (D := G.1) (ci := 11) (v := .ref (q0 1)) (C := R_Md) (T := T_Md) (N := 45) hx hb hts i_Md hown hK hP 0 rfl rfl 1 (by decide) (hts _ wf_Md_7) (fun _ h9 => h9) rfl d_Md_lead_134 ?_
        refine lv_iload hx hb d_Md_lead_137 (lv_at hl 0 rfl) ?_
        refine lv_iconst (v := (1 : Int32)) hx hb d_Md_lead_139 (by decide) ?_
        refine lv_iadd hx hb d_Md_lead_140 ?_
        refine lv_topi (fun y7 ey7 => ?_)
        have h := h y7 ey7
        have g8 := h.1
        have h := h.2
        refine xa_iald hx hb hK hP 1 0 rfl rfl g8 (k := y7.toNatClampNeg) rfl d_Md_lead_141 ?_
        refine lv_iload_n hx hb d_Md_lead_142 rfl (lv_at hl 2 rfl) ?_
        refine lv_icmp_ne (tgt := 178) hx hb d_Md_lead_143 (by decide) (fun c9 => ?_) (fun c9 => ?_)
        · have h := h.2 c9
          refine lv_iinc (v := (x7 + (1 : Int32))) (lv' := [(7, .int (x7 + (1 : Int32))), (8, .int ((5610 : Int32) + ((6 : Int32) * x7))), (0, .ref h0), (1, .int x1), (2, .int x2), (3, .int x3), (4, .int x4), (5, .int x5), (6, .int x6)]) hx hb d_Md_lead_178 hl (k := 8) rfl rfl (by decide) rfl (fun ls hl => ?_)
          refine lv_goto (tgt := 85) hx hb d_Md_lead_181 (by decide) ?_
          have hl := lv_sub (l' := [(0, .ref h0), (1, .int x1), (2, .int x2), (3, .int x3), (4, .int x4), (5, .int x5), (6, .int x6), (7, .int (x7 + (1 : Int32)))]) hl [2, 3, 4, 5, 6, 7, 8, 0] rfl
          have hP : va_P G.1 CL (cw_Md G h0 q0 o0) H := hP
          have hD : va_D A (cw_Md G h0 q0 o0) := hD
          exact ih x1 x2 x3 x4 x5 x6 (x7 + (1 : Int32)) o0 ls H locs hl hP hD hS h
        · have h := h.1 c9
          refine lv_iload_n hx hb d_Md_lead_146 rfl (lv_at hl 3 rfl) ?_
          refine lv_iload hx hb d_Md_lead_147 (lv_at hl 7 rfl) ?_
          refine lv_iload hx hb d_Md_lead_149 (lv_at hl 7 rfl) ?_
          refine lv_aload_n hx hb d_Md_lead_151 rfl (lv_at hl 1 rfl) ?_
          refine va_get (D := G.1) (ci := 11) (v := .ref (q0 1)) (C := R_Md) (T := T_Md) (N := 45) hx hb hts i_Md hown hK hP 0 rfl rfl 1 (by decide) (hts _ wf_Md_7) (fun _ h9 => h9) rfl d_Md_lead_152 ?_
          refine lv_iload hx hb d_Md_lead_155 (lv_at hl 0 rfl) ?_
          refine lv_iconst (v := (4 : Int32)) hx hb d_Md_lead_157 (by decide) ?_
          refine lv_iadd hx hb d_Md_lead_158 ?_
          refine lv_topi (fun y10 ey10 => ?_)
          have h := h y10 ey10
          have g11 := h.1
          have h := h.2
          refine xa_iald hx hb hK hP 1 0 rfl rfl g11 (k := y10.toNatClampNeg) rfl d_Md_lead_159 ?_
          refine lv_iadd hx hb d_Md_lead_160 ?_
          refine lv_iconst (v := (1 : Int32)) hx hb d_Md_lead_161 (by decide) ?_
          refine lv_isub hx hb d_Md_lead_162 ?_
          refine lv_topi (fun y12 ey12 => ?_)
          have h := h y12 ey12
          refine cl_Si (b := b_Md_lead) (As := [.int x2, .int x6, .int y12]) (rest := []) (ws := [(h0, .inr (11, [.int (gI o0 0), .ref (q0 1), .ref (q0 2), .ref (q0 3), .ref (q0 4), .ref (q0 5), .ref (q0 6), .int (gI o0 7), .int (gI o0 8), .int (gI o0 9), .int (gI o0 10), .int (gI o0 11), .int (gI o0 12), .int (gI o0 13), .int (gI o0 14), .long (gL o0 15), .int (gI o0 16), .int (gI o0 17), .int (gI o0 18), .int (gI o0 19), .int (gI o0 20), .int (gI o0 21), .int (gI o0 22), .int (gI o0 23), .int (gI o0 24), .int (gI o0 25), .int (gI o0 26), .int (gI o0 27), .ref (q0 28), .long (gL o0 29), .int (gI o0 30), .ref (q0 31), .ref (q0 32), .ref (q0 33), .int (gI o0 34), .int (gI o0 35), .int (gI o0 36), .int (gI o0 37), .ref (q0 38), .ref (q0 39), .int (gI o0 40), .ref (q0 41), .ref (q0 42), .ref (q0 43), .ref (q0 44)])), kI G (q0 1) 6100 (gA o0 1), kI G (q0 2) 6100 (gA o0 2), kJ G (q0 3) 2016 (gB o0 3), kJ G (q0 4) 2016 (gB o0 4), kI G (q0 5) 300 (gA o0 5), kI G (q0 6) 400 (gA o0 6), kJ G (q0 28) 10 (gB o0 28), kI G (q0 31) 969 (gA o0 31), kI G (q0 32) 969 (gA o0 32), kI G (q0 33) 969 (gA o0 33), kI G (q0 38) 5 (gA o0 38), kI G (q0 39) 5120 (gA o0 39), kI G (q0 41) 5 (gA o0 41), kZ G (q0 42) 1024 (gA o0 42), kI G (q0 43) 8192 (gA o0 43), kI G (q0 44) 8192 (gA o0 44)]) (wr := [(h0, .inr (11, [.int (gI o0 0), .ref (q0 1), .ref (q0 2), .ref (q0 3), .ref (q0 4), .ref (q0 5), .ref (q0 6), .int (gI o0 7), .int (gI o0 8), .int (gI o0 9), .int (gI o0 10), .int (gI o0 11), .int (gI o0 12), .int (gI o0 13), .int (gI o0 14), .long (gL o0 15), .int (gI o0 16), .int (gI o0 17), .int (gI o0 18), .int (gI o0 19), .int (gI o0 20), .int (gI o0 21), .int (gI o0 22), .int (gI o0 23), .int (gI o0 24), .int (gI o0 25), .int (gI o0 26), .int (gI o0 27), .ref (q0 28), .long (gL o0 29), .int (gI o0 30), .ref (q0 31), .ref (q0 32), .ref (q0 33), .int (gI o0 34), .int (gI o0 35), .int (gI o0 36), .int (gI o0 37), .ref (q0 38), .ref (q0 39), .int (gI o0 40), .ref (q0 41), .ref (q0 42), .ref (q0 43), .ref (q0 44)])), kI G (q0 1) 6100 (gA o0 1), kI G (q0 2) 6100 (gA o0 2), kJ G (q0 3) 2016 (gB o0 3), kJ G (q0 4) 2016 (gB o0 4), kI G (q0 5) 300 (gA o0 5), kI G (q0 6) 400 (gA o0 6), kJ G (q0 28) 10 (gB o0 28), kI G (q0 31) 969 (gA o0 31), kI G (q0 32) 969 (gA o0 32), kI G (q0 33) 969 (gA o0 33), kI G (q0 38) 5 (gA o0 38), kI G (q0 39) 5120 (gA o0 39), kI G (q0 41) 5 (gA o0 41), kZ G (q0 42) 1024 (gA o0 42), kI G (q0 43) 8192 (gA o0 43), kI G (q0 44) 8192 (gA o0 44)]) (w2 := fun (u : Unit) => [(h0, .inr (11, [.int (gI o0 0), .ref (q0 1), .ref (q0 2), .ref (q0 3), .ref (q0 4), .ref (q0 5), .ref (q0 6), .int (gI o0 7), .int (gI o0 8), .int (gI o0 9), .int (gI o0 10), .int (gI o0 11), .int (gI o0 12), .int (gI o0 13), .int (gI o0 14), .long (gL o0 15), .int (gI o0 16), .int (gI o0 17), .int (gI o0 18), .int (gI o0 19), .int (gI o0 20), .int (gI o0 21), .int (gI o0 22), .int (gI o0 23), .int (gI o0 24), .int (gI o0 25), .int (gI o0 26), .int (gI o0 27), .ref (q0 28), .long (gL o0 29), .int (gI o0 30), .ref (q0 31), .ref (q0 32), .ref (q0 33), .int (gI o0 34), .int (gI o0 35), .int (gI o0 36), .int (gI o0 37), .ref (q0 38), .ref (q0 39), .int (gI o0 40), .ref (q0 41), .ref (q0 42), .ref (q0 43), .ref (q0 44)])), kI G (q0 1) 6100 (gA o0 1), kI G (q0 2) 6100 (gA o0 2), kJ G (q0 3) 2016 (gB o0 3), kJ G (q0 4) 2016 (gB o0 4), kI G (q0 5) 300 (gA o0 5), kI G (q0 6) 400 (gA o0 6), kJ G (q0 28) 10 (gB o0 28), kI G (q0 31) 969 (gA o0 31), kI G (q0 32) 969 (gA o0 32), kI G (q0 33) 969 (gA o0 33), kI G (q0 38) 5 (gA o0 38), kI G (q0 39) 5120 (gA o0 39), kI G (q0 41) 5 (gA o0 41), kZ G (q0 42) 1024 (gA o0 42), kI G (q0 43) 8192 (gA o0 43), kI G (q0 44) 8192 (gA o0 44)]) C (c_Md_isIn H.size h) ws_Md_76 ⟨Nat.le_of_ble_eq_true rfl, Nat.le_of_ble_eq_true rfl⟩ hP hD hS [] [0, 1, 2, 3, 4, 5, 6, 7, 8, 9, 10, 11, 12, 13, 14, 15, 16] rfl rfl (by decide) (by decide) (by decide) [0, 1, 2, 3, 4, 5, 6, 7, 8, 9, 10, 11, 12, 13, 14, 15, 16] (by decide) (fun u => rfl) rfl hl.1 rfl (lv_room (Nat.le_of_ble_eq_true rfl)) d_Md_lead_163 ⟨Nat.le_of_ble_eq_true rfl, Nat.le_of_ble_eq_true rfl⟩ rfl rfl (fun z13 u H locs h hP hD hS => ?_)
          have hP : va_P G.1 CL [(h0, .inr (11, [.int (gI o0 0), .ref (q0 1), .ref (q0 2), .ref (q0 3), .ref (q0 4), .ref (q0 5), .ref (q0 6), .int (gI o0 7), .int (gI o0 8), .int (gI o0 9), .int (gI o0 10), .int (gI o0 11), .int (gI o0 12), .int (gI o0 13), .int (gI o0 14), .long (gL o0 15), .int (gI o0 16), .int (gI o0 17), .int (gI o0 18), .int (gI o0 19), .int (gI o0 20), .int (gI o0 21), .int (gI o0 22), .int (gI o0 23), .int (gI o0 24), .int (gI o0 25), .int (gI o0 26), .int (gI o0 27), .ref (q0 28), .long (gL o0 29), .int (gI o0 30), .ref (q0 31), .ref (q0 32), .ref (q0 33), .int (gI o0 34), .int (gI o0 35), .int (gI o0 36), .int (gI o0 37), .ref (q0 38), .ref (q0 39), .int (gI o0 40), .ref (q0 41), .ref (q0 42), .ref (q0 43), .ref (q0 44)])), kI G (q0 1) 6100 (gA o0 1), kI G (q0 2) 6100 (gA o0 2), kJ G (q0 3) 2016 (gB o0 3), kJ G (q0 4) 2016 (gB o0 4), kI G (q0 5) 300 (gA o0 5), kI G (q0 6) 400 (gA o0 6), kJ G (q0 28) 10 (gB o0 28), kI G (q0 31) 969 (gA o0 31), kI G (q0 32) 969 (gA o0 32), kI G (q0 33) 969 (gA o0 33), kI G (q0 38) 5 (gA o0 38), kI G (q0 39) 5120 (gA o0 39), kI G (q0 41) 5 (gA o0 41), kZ G (q0 42) 1024 (gA o0 42), kI G (q0 43) 8192 (gA o0 43), kI G (q0 44) 8192 (gA o0 44)] H := hP
          have hD : va_D A [(h0, .inr (11, [.int (gI o0 0), .ref (q0 1), .ref (q0 2), .ref (q0 3), .ref (q0 4), .ref (q0 5), .ref (q0 6), .int (gI o0 7), .int (gI o0 8), .int (gI o0 9), .int (gI o0 10), .int (gI o0 11), .int (gI o0 12), .int (gI o0 13), .int (gI o0 14), .long (gL o0 15), .int (gI o0 16), .int (gI o0 17), .int (gI o0 18), .int (gI o0 19), .int (gI o0 20), .int (gI o0 21), .int (gI o0 22), .int (gI o0 23), .int (gI o0 24), .int (gI o0 25), .int (gI o0 26), .int (gI o0 27), .ref (q0 28), .long (gL o0 29), .int (gI o0 30), .ref (q0 31), .ref (q0 32), .ref (q0 33), .int (gI o0 34), .int (gI o0 35), .int (gI o0 36), .int (gI o0 37), .ref (q0 38), .ref (q0 39), .int (gI o0 40), .ref (q0 41), .ref (q0 42), .ref (q0 43), .ref (q0 44)])), kI G (q0 1) 6100 (gA o0 1), kI G (q0 2) 6100 (gA o0 2), kJ G (q0 3) 2016 (gB o0 3), kJ G (q0 4) 2016 (gB o0 4), kI G (q0 5) 300 (gA o0 5), kI G (q0 6) 400 (gA o0 6), kJ G (q0 28) 10 (gB o0 28), kI G (q0 31) 969 (gA o0 31), kI G (q0 32) 969 (gA o0 32), kI G (q0 33) 969 (gA o0 33), kI G (q0 38) 5 (gA o0 38), kI G (q0 39) 5120 (gA o0 39), kI G (q0 41) 5 (gA o0 41), kZ G (q0 42) 1024 (gA o0 42), kI G (q0 43) 8192 (gA o0 43), kI G (q0 44) 8192 (gA o0 44)] := hD
          refine lv_if_eq (tgt := 178) hx hb d_Md_lead_166 (by decide) (fun c14 => ?_) (fun c14 => ?_)
          · have h := h.1 c14
            refine lv_iinc (v := (x7 + (1 : Int32))) (lv' := [(7, .int (x7 + (1 : Int32))), (8, .int ((5610 : Int32) + ((6 : Int32) * x7))), (0, .ref h0), (1, .int x1), (2, .int x2), (3, .int x3), (4, .int x4), (5, .int x5), (6, .int x6)]) hx hb d_Md_lead_178 hl (k := 8) rfl rfl (by decide) rfl (fun ls hl => ?_)
            refine lv_goto (tgt := 85) hx hb d_Md_lead_181 (by decide) ?_
            have hl := lv_sub (l' := [(0, .ref h0), (1, .int x1), (2, .int x2), (3, .int x3), (4, .int x4), (5, .int x5), (6, .int x6), (7, .int (x7 + (1 : Int32)))]) hl [2, 3, 4, 5, 6, 7, 8, 0] rfl
            have hP : va_P G.1 CL (cw_Md G h0 q0 o0) H := hP
            have hD : va_D A (cw_Md G h0 q0 o0) := hD
            exact ih x1 x2 x3 x4 x5 x6 (x7 + (1 : Int32)) o0 ls H locs hl hP hD hS h
          · have h := h.2 c14
            refine lv_aload_n hx hb d_Md_lead_169 rfl (lv_at hl 1 rfl) ?_
            refine lv_iload hx hb d_Md_lead_170 (lv_at hl 8 rfl) ?_
            refine lv_iload_n hx hb d_Md_lead_172 rfl (lv_at hl 4 rfl) ?_
            refine lv_iload hx hb d_Md_lead_173 (lv_at hl 6 rfl) ?_
            refine cl_Vv (b := b_Md_lead) (As := [.int x7, .int x3, .int x5]) (rest := []) (ws := [(h0, .inr (11, [.int (gI o0 0), .ref (q0 1), .ref (q0 2), .ref (q0 3), .ref (q0 4), .ref (q0 5), .ref (q0 6), .int (gI o0 7), .int (gI o0 8), .int (gI o0 9), .int (gI o0 10), .int (gI o0 11), .int (gI o0 12), .int (gI o0 13), .int (gI o0 14), .long (gL o0 15), .int (gI o0 16), .int (gI o0 17), .int (gI o0 18), .int (gI o0 19), .int (gI o0 20), .int (gI o0 21), .int (gI o0 22), .int (gI o0 23), .int (gI o0 24), .int (gI o0 25), .int (gI o0 26), .int (gI o0 27), .ref (q0 28), .long (gL o0 29), .int (gI o0 30), .ref (q0 31), .ref (q0 32), .ref (q0 33), .int (gI o0 34), .int (gI o0 35), .int (gI o0 36), .int (gI o0 37), .ref (q0 38), .ref (q0 39), .int (gI o0 40), .ref (q0 41), .ref (q0 42), .ref (q0 43), .ref (q0 44)])), kI G (q0 1) 6100 (gA o0 1), kI G (q0 2) 6100 (gA o0 2), kJ G (q0 3) 2016 (gB o0 3), kJ G (q0 4) 2016 (gB o0 4), kI G (q0 5) 300 (gA o0 5), kI G (q0 6) 400 (gA o0 6), kJ G (q0 28) 10 (gB o0 28), kI G (q0 31) 969 (gA o0 31), kI G (q0 32) 969 (gA o0 32), kI G (q0 33) 969 (gA o0 33), kI G (q0 38) 5 (gA o0 38), kI G (q0 39) 5120 (gA o0 39), kI G (q0 41) 5 (gA o0 41), kZ G (q0 42) 1024 (gA o0 42), kI G (q0 43) 8192 (gA o0 43), kI G (q0 44) 8192 (gA o0 44)]) (wr := []) (w2 := fun (u : Ob) => [(h0, .inr (11, [.int (gI u 0), .ref (q0 1), .ref (q0 2), .ref (q0 3), .ref (q0 4), .ref (q0 5), .ref (q0 6), .int (gI u 7), .int (gI u 8), .int (gI u 9), .int (gI u 10), .int (gI u 11), .int (gI u 12), .int (gI u 13), .int (gI u 14), .long (gL u 15), .int (gI u 16), .int (gI u 17), .int (gI u 18), .int (gI u 19), .int (gI u 20), .int (gI u 21), .int (gI u 22), .int (gI u 23), .int (gI u 24), .int (gI u 25), .int (gI u 26), .int (gI u 27), .ref (q0 28), .long (gL u 29), .int (gI u 30), .ref (q0 31), .ref (q0 32), .ref (q0 33), .int (gI u 34), .int (gI u 35), .int (gI u 36), .int (gI u 37), .ref (q0 38), .ref (q0 39), .int (gI u 40), .ref (q0 41), .ref (q0 42), .ref (q0 43), .ref (q0 44)])), kI G (q0 1) 6100 (gA u 1), kI G (q0 2) 6100 (gA u 2), kJ G (q0 3) 2016 (gB u 3), kJ G (q0 4) 2016 (gB u 4), kI G (q0 5) 300 (gA u 5), kI G (q0 6) 400 (gA u 6), kJ G (q0 28) 10 (gB u 28), kI G (q0 31) 969 (gA u 31), kI G (q0 32) 969 (gA u 32), kI G (q0 33) 969 (gA u 33), kI G (q0 38) 5 (gA u 38), kI G (q0 39) 5120 (gA u 39), kI G (q0 41) 5 (gA u 41), kZ G (q0 42) 1024 (gA u 42), kI G (q0 43) 8192 (gA u 43), kI G (q0 44) 8192 (gA u 44)]) C (c_Md_wants (h0 := h0) (q0 := q0) H.size h) wv_Md_193 ⟨Nat.le_of_ble_eq_true rfl, Nat.le_of_ble_eq_true rfl⟩ hP hD hS 0 rfl rfl [0, 1, 2, 3, 4, 5, 6, 7, 8, 9, 10, 11, 12, 13, 14, 15, 16] [] rfl rfl (by decide) (by decide) (by decide) [0, 1, 2, 3, 4, 5, 6, 7, 8, 9, 10, 11, 12, 13, 14, 15, 16] (by decide) (fun u => rfl) rfl hl.1 rfl (lv_room (Nat.le_of_ble_eq_true rfl)) d_Md_lead_175 ⟨Nat.le_of_ble_eq_true rfl, Nat.le_of_ble_eq_true rfl⟩ rfl rfl (fun u H locs h hP hD hS => ?_)
            generalize u = u15 at h hP hD
            have hP : va_P G.1 CL [(h0, .inr (11, [.int (gI u15 0), .ref (q0 1), .ref (q0 2), .ref (q0 3), .ref (q0 4), .ref (q0 5), .ref (q0 6), .int (gI u15 7), .int (gI u15 8), .int (gI u15 9), .int (gI u15 10), .int (gI u15 11), .int (gI u15 12), .int (gI u15 13), .int (gI u15 14), .long (gL u15 15), .int (gI u15 16), .int (gI u15 17), .int (gI u15 18), .int (gI u15 19), .int (gI u15 20), .int (gI u15 21), .int (gI u15 22), .int (gI u15 23), .int (gI u15 24), .int (gI u15 25), .int (gI u15 26), .int (gI u15 27), .ref (q0 28), .long (gL u15 29), .int (gI u15 30), .ref (q0 31), .ref (q0 32), .ref (q0 33), .int (gI u15 34), .int (gI u15 35), .int (gI u15 36), .int (gI u15 37), .ref (q0 38), .ref (q0 39), .int (gI u15 40), .ref (q0 41), .ref (q0 42), .ref (q0 43), .ref (q0 44)])), kI G (q0 1) 6100 (gA u15 1), kI G (q0 2) 6100 (gA u15 2), kJ G (q0 3) 2016 (gB u15 3), kJ G (q0 4) 2016 (gB u15 4), kI G (q0 5) 300 (gA u15 5), kI G (q0 6) 400 (gA u15 6), kJ G (q0 28) 10 (gB u15 28), kI G (q0 31) 969 (gA u15 31), kI G (q0 32) 969 (gA u15 32), kI G (q0 33) 969 (gA u15 33), kI G (q0 38) 5 (gA u15 38), kI G (q0 39) 5120 (gA u15 39), kI G (q0 41) 5 (gA u15 41), kZ G (q0 42) 1024 (gA u15 42), kI G (q0 43) 8192 (gA u15 43), kI G (q0 44) 8192 (gA u15 44)] H := hP
            have hD : va_D A [(h0, .inr (11, [.int (gI u15 0), .ref (q0 1), .ref (q0 2), .ref (q0 3), .ref (q0 4), .ref (q0 5), .ref (q0 6), .int (gI u15 7), .int (gI u15 8), .int (gI u15 9), .int (gI u15 10), .int (gI u15 11), .int (gI u15 12), .int (gI u15 13), .int (gI u15 14), .long (gL u15 15), .int (gI u15 16), .int (gI u15 17), .int (gI u15 18), .int (gI u15 19), .int (gI u15 20), .int (gI u15 21), .int (gI u15 22), .int (gI u15 23), .int (gI u15 24), .int (gI u15 25), .int (gI u15 26), .int (gI u15 27), .ref (q0 28), .long (gL u15 29), .int (gI u15 30), .ref (q0 31), .ref (q0 32), .ref (q0 33), .int (gI u15 34), .int (gI u15 35), .int (gI u15 36), .int (gI u15 37), .ref (q0 38), .ref (q0 39), .int (gI u15 40), .ref (q0 41), .ref (q0 42), .ref (q0 43), .ref (q0 44)])), kI G (q0 1) 6100 (gA u15 1), kI G (q0 2) 6100 (gA u15 2), kJ G (q0 3) 2016 (gB u15 3), kJ G (q0 4) 2016 (gB u15 4), kI G (q0 5) 300 (gA u15 5), kI G (q0 6) 400 (gA u15 6), kJ G (q0 28) 10 (gB u15 28), kI G (q0 31) 969 (gA u15 31), kI G (q0 32) 969 (gA u15 32), kI G (q0 33) 969 (gA u15 33), kI G (q0 38) 5 (gA u15 38), kI G (q0 39) 5120 (gA u15 39), kI G (q0 41) 5 (gA u15 41), kZ G (q0 42) 1024 (gA u15 42), kI G (q0 43) 8192 (gA u15 43), kI G (q0 44) 8192 (gA u15 44)] := hD
            refine lv_iinc (v := (x7 + (1 : Int32))) (lv' := [(7, .int (x7 + (1 : Int32))), (8, .int ((5610 : Int32) + ((6 : Int32) * x7))), (0, .ref h0), (1, .int x1), (2, .int x2), (3, .int x3), (4, .int x4), (5, .int x5), (6, .int x6)]) hx hb d_Md_lead_178 hl (k := 8) rfl rfl (by decide) rfl (fun ls hl => ?_)
            refine lv_goto (tgt := 85) hx hb d_Md_lead_181 (by decide) ?_
            have hl := lv_sub (l' := [(0, .ref h0), (1, .int x1), (2, .int x2), (3, .int x3), (4, .int x4), (5, .int x5), (6, .int x6), (7, .int (x7 + (1 : Int32)))]) hl [2, 3, 4, 5, 6, 7, 8, 0] rfl
            have hP : va_P G.1 CL (cw_Md G h0 q0 u15) H := hP
            have hD : va_D A (cw_Md G h0 q0 u15) := hD
            exact ih x1 x2 x3 x4 x5 x6 (x7 + (1 : Int32)) u15 ls H locs hl hP hD hS h
set_option maxHeartbeats 4000000 in
set_option maxRecDepth 100000 in
theorem t_Md_lead_40 {p : Program} {l : Launch} {e : Env} {s : State} {m : MethodId} {args : Array Value} {below : List Frame} {meth : Method} {c : Code} {A : Nat → Prop} {G : Gl} {h0 : Nat} {q0 : Nat → Nat} (k7 : Int32 → Int32 → Int32 → Ob → Prop) (Q : Ob → Prop) (C : Cx p s m args meth c R_Md b_Md_lead 9 none G A)
    (hk7 : ∀ (x1 : Int32) (x2 : Int32) (x3 : Int32) (o0 : Ob) (ls : Array Slot) (H : Heap) (locs : List Loc), lv_has ls 9 [(0, .ref h0), (1, .int x1), (2, .int x2), (3, .int x3)] → va_P G.1 CL (cw_Md G h0 q0 o0) H → va_D A (cw_Md G h0 q0 o0) → va_S A s.heap H locs → k7 x1 x2 x3 o0 → W p l e rm_Md_lead s m args below meth c H locs 0 0 (MQ below (va_Qv (fun (u : Ob) => Q u) (fun (u : Ob) t => BW G A (cw_Md G h0 q0 u) t) A) args s 0 0 A) (F0 m 7 ls [])) :
    ∀ (n : Nat) (x1 : Int32) (x2 : Int32) (x3 : Int32) (x4 : Int32) (x5 : Int32) (o0 : Ob) (ls : Array Slot) (H : Heap) (locs : List Loc), lv_has ls 9 [(0, .ref h0), (1, .int x1), (2, .int x2), (3, .int x3), (4, .int x4), (5, .int x5)] → va_P G.1 CL (cw_Md G h0 q0 o0) H → va_D A (cw_Md G h0 q0 o0) → va_S A s.heap H locs → f_Md_lead_40 k7 Q n x1 x2 x3 x4 x5 o0 → W p l e rm_Md_lead s m args below meth c H locs 0 0 (MQ below (va_Qv (fun (u : Ob) => Q u) (fun (u : Ob) t => BW G A (cw_Md G h0 q0 u) t) A) args s 0 0 A) (F0 m 40 ls []) := by
  obtain ⟨hx, hb, hml, hown, hr, hts, hK, hA, hlocks, hE⟩ := id C
  intro n
  induction n with
  | zero => intro x1 x2 x3 x4 x5 o0 ls H locs hl hP hD hS h; exact absurd h id
  | succ n ih =>
    intro x1 x2 x3 x4 x5 o0 ls H locs hl hP hD hS h
    have hP : va_P G.1 CL [(h0, .inr (11, [.int (gI o0 0), .ref (q0 1), .ref (q0 2), .ref (q0 3), .ref (q0 4), .ref (q0 5), .ref (q0 6), .int (gI o0 7), .int (gI o0 8), .int (gI o0 9), .int (gI o0 10), .int (gI o0 11), .int (gI o0 12), .int (gI o0 13), .int (gI o0 14), .long (gL o0 15), .int (gI o0 16), .int (gI o0 17), .int (gI o0 18), .int (gI o0 19), .int (gI o0 20), .int (gI o0 21), .int (gI o0 22), .int (gI o0 23), .int (gI o0 24), .int (gI o0 25), .int (gI o0 26), .int (gI o0 27), .ref (q0 28), .long (gL o0 29), .int (gI o0 30), .ref (q0 31), .ref (q0 32), .ref (q0 33), .int (gI o0 34), .int (gI o0 35), .int (gI o0 36), .int (gI o0 37), .ref (q0 38), .ref (q0 39), .int (gI o0 40), .ref (q0 41), .ref (q0 42), .ref (q0 43), .ref (q0 44)])), kI G (q0 1) 6100 (gA o0 1), kI G (q0 2) 6100 (gA o0 2), kJ G (q0 3) 2016 (gB o0 3), kJ G (q0 4) 2016 (gB o0 4), kI G (q0 5) 300 (gA o0 5), kI G (q0 6) 400 (gA o0 6), kJ G (q0 28) 10 (gB o0 28), kI G (q0 31) 969 (gA o0 31), kI G (q0 32) 969 (gA o0 32), kI G (q0 33) 969 (gA o0 33), kI G (q0 38) 5 (gA o0 38), kI G (q0 39) 5120 (gA o0 39), kI G (q0 41) 5 (gA o0 41), kZ G (q0 42) 1024 (gA o0 42), kI G (q0 43) 8192 (gA o0 43), kI G (q0 44) 8192 (gA o0 44)] H := hP
    have hD : va_D A [(h0, .inr (11, [.int (gI o0 0), .ref (q0 1), .ref (q0 2), .ref (q0 3), .ref (q0 4), .ref (q0 5), .ref (q0 6), .int (gI o0 7), .int (gI o0 8), .int (gI o0 9), .int (gI o0 10), .int (gI o0 11), .int (gI o0 12), .int (gI o0 13), .int (gI o0 14), .long (gL o0 15), .int (gI o0 16), .int (gI o0 17), .int (gI o0 18), .int (gI o0 19), .int (gI o0 20), .int (gI o0 21), .int (gI o0 22), .int (gI o0 23), .int (gI o0 24), .int (gI o0 25), .int (gI o0 26), .int (gI o0 27), .ref (q0 28), .long (gL o0 29), .int (gI o0 30), .ref (q0 31), .ref (q0 32), .ref (q0 33), .int (gI o0 34), .int (gI o0 35), .int (gI o0 36), .int (gI o0 37), .ref (q0 38), .ref (q0 39), .int (gI o0 40), .ref (q0 41), .ref (q0 42), .ref (q0 43), .ref (q0 44)])), kI G (q0 1) 6100 (gA o0 1), kI G (q0 2) 6100 (gA o0 2), kJ G (q0 3) 2016 (gB o0 3), kJ G (q0 4) 2016 (gB o0 4), kI G (q0 5) 300 (gA o0 5), kI G (q0 6) 400 (gA o0 6), kJ G (q0 28) 10 (gB o0 28), kI G (q0 31) 969 (gA o0 31), kI G (q0 32) 969 (gA o0 32), kI G (q0 33) 969 (gA o0 33), kI G (q0 38) 5 (gA o0 38), kI G (q0 39) 5120 (gA o0 39), kI G (q0 41) 5 (gA o0 41), kZ G (q0 42) 1024 (gA o0 42), kI G (q0 43) 8192 (gA o0 43), kI G (q0 44) 8192 (gA o0 44)] := hD
    unfold f_Md_lead_40 at h
    refine lv_iload hx hb d_Md_lead_40 (lv_at hl 5 rfl) ?_
    refine lv_aload_n hx hb d_Md_lead_42 rfl (lv_at hl 0 rfl) ?_
    refine va_get (D := G.1) (ci := 11) (v := .ref (q0 1)) (C := R_Md) (T := T_Md) (N := 45) hx hb hts i_Md hown hK hP 0 rfl rfl 1 (by decide) (hts _ wf_Md_7) (fun _ h9 => h9) rfl d_Md_lead_43 ?_
    refine lv_iload hx hb d_Md_lead_46 (lv_at hl 4 rfl) ?_
    have g16 := h.1
    have h := h.2
    refine xa_iald hx hb hK hP 1 0 rfl rfl g16 (k := x4.toNatClampNeg) rfl d_Md_lead_48 ?_
    refine lv_icmp_ge (tgt := 190) hx hb d_Md_lead_49 (by decide) (fun c17 => ?_) (fun c17 => ?_)
    · have h := h.1 c17
      refine lv_iinc (v := (x3 + (1 : Int32))) (lv' := [(3, .int (x3 + (1 : Int32))), (0, .ref h0), (1, .int x1), (2, .int x2), (4, .int x4), (5, .int x5)]) hx hb d_Md_lead_190 hl (k := 3) rfl rfl (by decide) rfl (fun ls hl => ?_)
      refine lv_goto (tgt := 7) hx hb d_Md_lead_193 (by decide) ?_
      have hl := lv_sub (l' := [(0, .ref h0), (1, .int x1), (2, .int x2), (3, .int (x3 + (1 : Int32)))]) hl [1, 2, 3, 0] rfl
      have hP : va_P G.1 CL (cw_Md G h0 q0 o0) H := hP
      have hD : va_D A (cw_Md G h0 q0 o0) := hD
      exact hk7 x1 x2 (x3 + (1 : Int32)) o0 ls H locs hl hP hD hS h
    · have h := h.2 c17
      refine lv_aload_n hx hb d_Md_lead_52 rfl (lv_at hl 0 rfl) ?_
      refine va_get (D := G.1) (ci := 11) (v := .ref (q0 1)) (C := R_Md) (T := T_Md) (N := 45) hx hb hts i_Md hown hK hP 0 rfl rfl 1 (by decide) (hts _ wf_Md_7) (fun _ h9 => h9) rfl d_Md_lead_53 ?_
      refine lv_bipush (v := (40 : Int32)) hx hb d_Md_lead_56 (by decide) ?_
      refine lv_iconst (v := (2 : Int32)) hx hb d_Md_lead_58 (by decide) ?_
      refine lv_iload_n hx hb d_Md_lead_59 rfl (lv_at hl 3 rfl) ?_
      refine lv_imul hx hb d_Md_lead_60 ?_
      refine lv_iadd hx hb d_Md_lead_61 ?_
      refine lv_iconst (v := (1 : Int32)) hx hb d_Md_lead_62 (by decide) ?_
      refine lv_iadd hx hb d_Md_lead_63 ?_
      refine lv_topi (fun y18 ey18 => ?_)
      have h := h y18 ey18
      have g19 := h.1
      have h := h.2
      refine xa_iald hx hb hK hP 1 0 rfl rfl g19 (k := y18.toNatClampNeg) rfl d_Md_lead_64 ?_
      refine lv_aload_n hx hb d_Md_lead_65 rfl (lv_at hl 0 rfl) ?_
      refine va_get (D := G.1) (ci := 11) (v := .ref (q0 1)) (C := R_Md) (T := T_Md) (N := 45) hx hb hts i_Md hown hK hP 0 rfl rfl 1 (by decide) (hts _ wf_Md_7) (fun _ h9 => h9) rfl d_Md_lead_66 ?_
      refine lv_iload hx hb d_Md_lead_69 (lv_at hl 4 rfl) ?_
      refine lv_iconst (v := (2 : Int32)) hx hb d_Md_lead_71 (by decide) ?_
      refine lv_iadd hx hb d_Md_lead_72 ?_
      refine lv_iconst (v := (2 : Int32)) hx hb d_Md_lead_73 (by decide) ?_
      refine lv_iload hx hb d_Md_lead_74 (lv_at hl 5 rfl) ?_
      refine lv_imul hx hb d_Md_lead_76 ?_
      refine lv_iadd hx hb d_Md_lead_77 ?_
      have g20 := h.1
      have h := h.2
      refine xa_iald hx hb hK hP 1 0 rfl rfl g20 (k := ((x4 + (2 : Int32)) + ((2 : Int32) * x5)).toNatClampNeg) rfl d_Md_lead_78 ?_
      refine lv_topi (fun y21 ey21 => ?_)
      have h := h y21 ey21
      refine lv_iadd hx hb d_Md_lead_79 ?_
      refine lv_istore (lv' := [(6, .int (((gA o0 1) y18.toNatClampNeg) + y21)), (0, .ref h0), (1, .int x1), (2, .int x2), (3, .int x3), (4, .int x4), (5, .int x5)]) hx hb d_Md_lead_80 hl (by decide) rfl (fun ls hl => ?_)
      refine lv_iconst (v := (0 : Int32)) hx hb d_Md_lead_82 (by decide) ?_
      refine lv_istore (lv' := [(7, .int (0 : Int32)), (6, .int (((gA o0 1) y18.toNatClampNeg) + y21)), (0, .ref h0), (1, .int x1), (2, .int x2), (3, .int x3), (4, .int x4), (5, .int x5)]) hx hb d_Md_lead_83 hl (by decide) rfl (fun ls hl => ?_)
      have hl := lv_sub (l' := [(0, .ref h0), (1, .int x1), (2, .int x2), (3, .int x3), (4, .int x4), (5, .int x5), (6, .int (((gA o0 1) y18.toNatClampNeg) + y21)), (7, .int (0 : Int32))]) hl [2, 3, 4, 5, 6, 7, 1, 0] rfl
      have hP : va_P G.1 CL (cw_Md G h0 q0 o0) H := hP
      have hD : va_D A (cw_Md G h0 q0 o0) := hD
      obtain ⟨w, h⟩ := h
      exact t_Md_lead_85 (f_Md_lead_40 k7 Q n) Q C ih w x1 x2 x3 x4 x5 (((gA o0 1) y18.toNatClampNeg) + y21) (0 : Int32) o0 ls _ locs hl hP hD hS h
set_option maxHeartbeats 4000000 in
set_option maxRecDepth 100000 in
theorem t_Md_lead_388 {p : Program} {l : Launch} {e : Env} {s : State} {m : MethodId} {args : Array Value} {below : List Frame} {meth : Method} {c : Code} {A : Nat → Prop} {G : Gl} {h0 : Nat} {q0 : Nat → Nat} (Q : Ob → Prop) (C : Cx p s m args meth c R_Md b_Md_lead 9 none G A) :
    ∀ (x3 : Int32) (x7 : Int32) (o0 : Ob) (ls : Array Slot) (H : Heap) (locs : List Loc), lv_has ls 9 [(0, .ref h0), (3, .int x3), (7, .int x7)] → va_P G.1 CL (cw_Md G h0 q0 o0) H → va_D A (cw_Md G h0 q0 o0) → va_S A s.heap H locs → f_Md_lead_388 Q x3 x7 o0 → W p l e rm_Md_lead s m args below meth c H locs 0 0 (MQ below (va_Qv (fun (u : Ob) => Q u) (fun (u : Ob) t => BW G A (cw_Md G h0 q0 u) t) A) args s 0 0 A) (F0 m 388 ls []) := by
  obtain ⟨hx, hb, hml, hown, hr, hts, hK, hA, hlocks, hE⟩ := id C
  intro x3 x7 o0 ls H locs hl hP hD hS h
  have hP : va_P G.1 CL [(h0, .inr (11, [.int (gI o0 0), .ref (q0 1), .ref (q0 2), .ref (q0 3), .ref (q0 4), .ref (q0 5), .ref (q0 6), .int (gI o0 7), .int (gI o0 8), .int (gI o0 9), .int (gI o0 10), .int (gI o0 11), .int (gI o0 12), .int (gI o0 13), .int (gI o0 14), .long (gL o0 15), .int (gI o0 16), .int (gI o0 17), .int (gI o0 18), .int (gI o0 19), .int (gI o0 20), .int (gI o0 21), .int (gI o0 22), .int (gI o0 23), .int (gI o0 24), .int (gI o0 25), .int (gI o0 26), .int (gI o0 27), .ref (q0 28), .long (gL o0 29), .int (gI o0 30), .ref (q0 31), .ref (q0 32), .ref (q0 33), .int (gI o0 34), .int (gI o0 35), .int (gI o0 36), .int (gI o0 37), .ref (q0 38), .ref (q0 39), .int (gI o0 40), .ref (q0 41), .ref (q0 42), .ref (q0 43), .ref (q0 44)])), kI G (q0 1) 6100 (gA o0 1), kI G (q0 2) 6100 (gA o0 2), kJ G (q0 3) 2016 (gB o0 3), kJ G (q0 4) 2016 (gB o0 4), kI G (q0 5) 300 (gA o0 5), kI G (q0 6) 400 (gA o0 6), kJ G (q0 28) 10 (gB o0 28), kI G (q0 31) 969 (gA o0 31), kI G (q0 32) 969 (gA o0 32), kI G (q0 33) 969 (gA o0 33), kI G (q0 38) 5 (gA o0 38), kI G (q0 39) 5120 (gA o0 39), kI G (q0 41) 5 (gA o0 41), kZ G (q0 42) 1024 (gA o0 42), kI G (q0 43) 8192 (gA o0 43), kI G (q0 44) 8192 (gA o0 44)] H := hP
  have hD : va_D A [(h0, .inr (11, [.int (gI o0 0), .ref (q0 1), .ref (q0 2), .ref (q0 3), .ref (q0 4), .ref (q0 5), .ref (q0 6), .int (gI o0 7), .int (gI o0 8), .int (gI o0 9), .int (gI o0 10), .int (gI o0 11), .int (gI o0 12), .int (gI o0 13), .int (gI o0 14), .long (gL o0 15), .int (gI o0 16), .int (gI o0 17), .int (gI o0 18), .int (gI o0 19), .int (gI o0 20), .int (gI o0 21), .int (gI o0 22), .int (gI o0 23), .int (gI o0 24), .int (gI o0 25), .int (gI o0 26), .int (gI o0 27), .ref (q0 28), .long (gL o0 29), .int (gI o0 30), .ref (q0 31), .ref (q0 32), .ref (q0 33), .int (gI o0 34), .int (gI o0 35), .int (gI o0 36), .int (gI o0 37), .ref (q0 38), .ref (q0 39), .int (gI o0 40), .ref (q0 41), .ref (q0 42), .ref (q0 43), .ref (q0 44)])), kI G (q0 1) 6100 (gA o0 1), kI G (q0 2) 6100 (gA o0 2), kJ G (q0 3) 2016 (gB o0 3), kJ G (q0 4) 2016 (gB o0 4), kI G (q0 5) 300 (gA o0 5), kI G (q0 6) 400 (gA o0 6), kJ G (q0 28) 10 (gB o0 28), kI G (q0 31) 969 (gA o0 31), kI G (q0 32) 969 (gA o0 32), kI G (q0 33) 969 (gA o0 33), kI G (q0 38) 5 (gA o0 38), kI G (q0 39) 5120 (gA o0 39), kI G (q0 41) 5 (gA o0 41), kZ G (q0 42) 1024 (gA o0 42), kI G (q0 43) 8192 (gA o0 43), kI G (q0 44) 8192 (gA o0 44)] := hD
  unfold f_Md_lead_388 at h
  refine lv_aload_n hx hb d_Md_lead_388 rfl (lv_at hl 0 rfl) ?_
  refine va_get (D := G.1) (ci := 11) (v := .ref (q0 1)) (C := R_Md) (T := T_Md) (N := 45) hx hb hts i_Md hown hK hP 0 rfl rfl 1 (by decide) (hts _ wf_Md_7) (fun _ h9 => h9) rfl d_Md_lead_389 ?_
  refine lv_iload hx hb d_Md_lead_392 (lv_at hl 2 rfl) ?_
  refine lv_iconst (v := (4 : Int32)) hx hb d_Md_lead_394 (by decide) ?_
  refine lv_iadd hx hb d_Md_lead_395 ?_
  refine lv_iload_n hx hb d_Md_lead_396 rfl (lv_at hl 1 rfl) ?_
  refine lv_if_eq (tgt := 407) hx hb d_Md_lead_397 (by decide) (fun c22 => ?_) (fun c22 => ?_)
  · have h := h.1 c22
    refine lv_iconst (v := (-1 : Int32)) hx hb d_Md_lead_407 (by decide) ?_
    have g23 := h.1
    have h := h.2
    refine xa_iast hx hb hK hP hD hS 1 0 rfl rfl g23 (k := (x7 + (4 : Int32)).toNatClampNeg) rfl d_Md_lead_408 (fun H locs hP hD hS => ?_)
    have hP : va_P G.1 CL [(h0, .inr (11, [.int (gI o0 0), .ref (q0 1), .ref (q0 2), .ref (q0 3), .ref (q0 4), .ref (q0 5), .ref (q0 6), .int (gI o0 7), .int (gI o0 8), .int (gI o0 9), .int (gI o0 10), .int (gI o0 11), .int (gI o0 12), .int (gI o0 13), .int (gI o0 14), .long (gL o0 15), .int (gI o0 16), .int (gI o0 17), .int (gI o0 18), .int (gI o0 19), .int (gI o0 20), .int (gI o0 21), .int (gI o0 22), .int (gI o0 23), .int (gI o0 24), .int (gI o0 25), .int (gI o0 26), .int (gI o0 27), .ref (q0 28), .long (gL o0 29), .int (gI o0 30), .ref (q0 31), .ref (q0 32), .ref (q0 33), .int (gI o0 34), .int (gI o0 35), .int (gI o0 36), .int (gI o0 37), .ref (q0 38), .ref (q0 39), .int (gI o0 40), .ref (q0 41), .ref (q0 42), .ref (q0 43), .ref (q0 44)])), kI G (q0 1) 6100 (upd (gA o0 1) ((x7 + (4 : Int32)).toNatClampNeg) (-1 : Int32)), kI G (q0 2) 6100 (gA o0 2), kJ G (q0 3) 2016 (gB o0 3), kJ G (q0 4) 2016 (gB o0 4), kI G (q0 5) 300 (gA o0 5), kI G (q0 6) 400 (gA o0 6), kJ G (q0 28) 10 (gB o0 28), kI G (q0 31) 969 (gA o0 31), kI G (q0 32) 969 (gA o0 32), kI G (q0 33) 969 (gA o0 33), kI G (q0 38) 5 (gA o0 38), kI G (q0 39) 5120 (gA o0 39), kI G (q0 41) 5 (gA o0 41), kZ G (q0 42) 1024 (gA o0 42), kI G (q0 43) 8192 (gA o0 43), kI G (q0 44) 8192 (gA o0 44)] H := hP
    have hD : va_D A [(h0, .inr (11, [.int (gI o0 0), .ref (q0 1), .ref (q0 2), .ref (q0 3), .ref (q0 4), .ref (q0 5), .ref (q0 6), .int (gI o0 7), .int (gI o0 8), .int (gI o0 9), .int (gI o0 10), .int (gI o0 11), .int (gI o0 12), .int (gI o0 13), .int (gI o0 14), .long (gL o0 15), .int (gI o0 16), .int (gI o0 17), .int (gI o0 18), .int (gI o0 19), .int (gI o0 20), .int (gI o0 21), .int (gI o0 22), .int (gI o0 23), .int (gI o0 24), .int (gI o0 25), .int (gI o0 26), .int (gI o0 27), .ref (q0 28), .long (gL o0 29), .int (gI o0 30), .ref (q0 31), .ref (q0 32), .ref (q0 33), .int (gI o0 34), .int (gI o0 35), .int (gI o0 36), .int (gI o0 37), .ref (q0 38), .ref (q0 39), .int (gI o0 40), .ref (q0 41), .ref (q0 42), .ref (q0 43), .ref (q0 44)])), kI G (q0 1) 6100 (upd (gA o0 1) ((x7 + (4 : Int32)).toNatClampNeg) (-1 : Int32)), kI G (q0 2) 6100 (gA o0 2), kJ G (q0 3) 2016 (gB o0 3), kJ G (q0 4) 2016 (gB o0 4), kI G (q0 5) 300 (gA o0 5), kI G (q0 6) 400 (gA o0 6), kJ G (q0 28) 10 (gB o0 28), kI G (q0 31) 969 (gA o0 31), kI G (q0 32) 969 (gA o0 32), kI G (q0 33) 969 (gA o0 33), kI G (q0 38) 5 (gA o0 38), kI G (q0 39) 5120 (gA o0 39), kI G (q0 41) 5 (gA o0 41), kZ G (q0 42) 1024 (gA o0 42), kI G (q0 43) 8192 (gA o0 43), kI G (q0 44) 8192 (gA o0 44)] := hD
    have hP : va_P G.1 CL (cw_Md G h0 q0 (sA o0 1 (upd (gA o0 1) ((x7 + (4 : Int32)).toNatClampNeg) (-1 : Int32)))) H := hP
    have hD : va_D A (cw_Md G h0 q0 (sA o0 1 (upd (gA o0 1) ((x7 + (4 : Int32)).toNatClampNeg) (-1 : Int32)))) := hD
    exact W.vret hx hb hr (fun t ht hW => ⟨⟨(sA o0 1 (upd (gA o0 1) ((x7 + (4 : Int32)).toNatClampNeg) (-1 : Int32))), rfl, h, by rw [ht]; exact hP, va_K.moved hW.alike hK, hD⟩, hS.F ht⟩) hS.2.2 d_Md_lead_409
  · have h := h.2 c22
    refine lv_aload_n hx hb d_Md_lead_400 rfl (lv_at hl 0 rfl) ?_
    refine va_get (D := G.1) (ci := 11) (v := .int (gI o0 23)) (C := R_Md) (T := T_Md) (N := 45) hx hb hts i_Md hown hK hP 0 rfl rfl 23 (by decide) (hts _ wf_Md_190) (fun _ h9 => h9) rfl d_Md_lead_401 ?_
    refine lv_goto (tgt := 408) hx hb d_Md_lead_404 (by decide) ?_
    have g24 := h.1
    have h := h.2
    refine xa_iast hx hb hK hP hD hS 1 0 rfl rfl g24 (k := (x7 + (4 : Int32)).toNatClampNeg) rfl d_Md_lead_408 (fun H locs hP hD hS => ?_)
    have hP : va_P G.1 CL [(h0, .inr (11, [.int (gI o0 0), .ref (q0 1), .ref (q0 2), .ref (q0 3), .ref (q0 4), .ref (q0 5), .ref (q0 6), .int (gI o0 7), .int (gI o0 8), .int (gI o0 9), .int (gI o0 10), .int (gI o0 11), .int (gI o0 12), .int (gI o0 13), .int (gI o0 14), .long (gL o0 15), .int (gI o0 16), .int (gI o0 17), .int (gI o0 18), .int (gI o0 19), .int (gI o0 20), .int (gI o0 21), .int (gI o0 22), .int (gI o0 23), .int (gI o0 24), .int (gI o0 25), .int (gI o0 26), .int (gI o0 27), .ref (q0 28), .long (gL o0 29), .int (gI o0 30), .ref (q0 31), .ref (q0 32), .ref (q0 33), .int (gI o0 34), .int (gI o0 35), .int (gI o0 36), .int (gI o0 37), .ref (q0 38), .ref (q0 39), .int (gI o0 40), .ref (q0 41), .ref (q0 42), .ref (q0 43), .ref (q0 44)])), kI G (q0 1) 6100 (upd (gA o0 1) ((x7 + (4 : Int32)).toNatClampNeg) (gI o0 23)), kI G (q0 2) 6100 (gA o0 2), kJ G (q0 3) 2016 (gB o0 3), kJ G (q0 4) 2016 (gB o0 4), kI G (q0 5) 300 (gA o0 5), kI G (q0 6) 400 (gA o0 6), kJ G (q0 28) 10 (gB o0 28), kI G (q0 31) 969 (gA o0 31), kI G (q0 32) 969 (gA o0 32), kI G (q0 33) 969 (gA o0 33), kI G (q0 38) 5 (gA o0 38), kI G (q0 39) 5120 (gA o0 39), kI G (q0 41) 5 (gA o0 41), kZ G (q0 42) 1024 (gA o0 42), kI G (q0 43) 8192 (gA o0 43), kI G (q0 44) 8192 (gA o0 44)] H := hP
    have hD : va_D A [(h0, .inr (11, [.int (gI o0 0), .ref (q0 1), .ref (q0 2), .ref (q0 3), .ref (q0 4), .ref (q0 5), .ref (q0 6), .int (gI o0 7), .int (gI o0 8), .int (gI o0 9), .int (gI o0 10), .int (gI o0 11), .int (gI o0 12), .int (gI o0 13), .int (gI o0 14), .long (gL o0 15), .int (gI o0 16), .int (gI o0 17), .int (gI o0 18), .int (gI o0 19), .int (gI o0 20), .int (gI o0 21), .int (gI o0 22), .int (gI o0 23), .int (gI o0 24), .int (gI o0 25), .int (gI o0 26), .int (gI o0 27), .ref (q0 28), .long (gL o0 29), .int (gI o0 30), .ref (q0 31), .ref (q0 32), .ref (q0 33), .int (gI o0 34), .int (gI o0 35), .int (gI o0 36), .int (gI o0 37), .ref (q0 38), .ref (q0 39), .int (gI o0 40), .ref (q0 41), .ref (q0 42), .ref (q0 43), .ref (q0 44)])), kI G (q0 1) 6100 (upd (gA o0 1) ((x7 + (4 : Int32)).toNatClampNeg) (gI o0 23)), kI G (q0 2) 6100 (gA o0 2), kJ G (q0 3) 2016 (gB o0 3), kJ G (q0 4) 2016 (gB o0 4), kI G (q0 5) 300 (gA o0 5), kI G (q0 6) 400 (gA o0 6), kJ G (q0 28) 10 (gB o0 28), kI G (q0 31) 969 (gA o0 31), kI G (q0 32) 969 (gA o0 32), kI G (q0 33) 969 (gA o0 33), kI G (q0 38) 5 (gA o0 38), kI G (q0 39) 5120 (gA o0 39), kI G (q0 41) 5 (gA o0 41), kZ G (q0 42) 1024 (gA o0 42), kI G (q0 43) 8192 (gA o0 43), kI G (q0 44) 8192 (gA o0 44)] := hD
    have hP : va_P G.1 CL (cw_Md G h0 q0 (sA o0 1 (upd (gA o0 1) ((x7 + (4 : Int32)).toNatClampNeg) (gI o0 23)))) H := hP
    have hD : va_D A (cw_Md G h0 q0 (sA o0 1 (upd (gA o0 1) ((x7 + (4 : Int32)).toNatClampNeg) (gI o0 23)))) := hD
    exact W.vret hx hb hr (fun t ht hW => ⟨⟨(sA o0 1 (upd (gA o0 1) ((x7 + (4 : Int32)).toNatClampNeg) (gI o0 23))), rfl, h, by rw [ht]; exact hP, va_K.moved hW.alike hK, hD⟩, hS.F ht⟩) hS.2.2 d_Md_lead_409
set_option maxHeartbeats 4000000 in
set_option maxRecDepth 100000 in
theorem t_Md_lead_367 {p : Program} {l : Launch} {e : Env} {s : State} {m : MethodId} {args : Array Value} {below : List Frame} {meth : Method} {c : Code} {A : Nat → Prop} {G : Gl} {h0 : Nat} {q0 : Nat → Nat} (Q : Ob → Prop) (C : Cx p s m args meth c R_Md b_Md_lead 9 none G A) :
    ∀ (x3 : Int32) (x7 : Int32) (o0 : Ob) (ls : Array Slot) (H : Heap) (locs : List Loc), lv_has ls 9 [(0, .ref h0), (3, .int x3), (7, .int x7)] → va_P G.1 CL (cw_Md G h0 q0 o0) H → va_D A (cw_Md G h0 q0 o0) → va_S A s.heap H locs → f_Md_lead_367 Q x3 x7 o0 → W p l e rm_Md_lead s m args below meth c H locs 0 0 (MQ below (va_Qv (fun (u : Ob) => Q u) (fun (u : Ob) t => BW G A (cw_Md G h0 q0 u) t) A) args s 0 0 A) (F0 m 367 ls []) := by
  obtain ⟨hx, hb, hml, hown, hr, hts, hK, hA, hlocks, hE⟩ := id C
  intro x3 x7 o0 ls H locs hl hP hD hS h
  have hP : va_P G.1 CL [(h0, .inr (11, [.int (gI o0 0), .ref (q0 1), .ref (q0 2), .ref (q0 3), .ref (q0 4), .ref (q0 5), .ref (q0 6), .int (gI o0 7), .int (gI o0 8), .int (gI o0 9), .int (gI o0 10), .int (gI o0 11), .int (gI o0 12), .int (gI o0 13), .int (gI o0 14), .long (gL o0 15), .int (gI o0 16), .int (gI o0 17), .int (gI o0 18), .int (gI o0 19), .int (gI o0 20), .int (gI o0 21), .int (gI o0 22), .int (gI o0 23), .int (gI o0 24), .int (gI o0 25), .int (gI o0 26), .int (gI o0 27), .ref (q0 28), .long (gL o0 29), .int (gI o0 30), .ref (q0 31), .ref (q0 32), .ref (q0 33), .int (gI o0 34), .int (gI o0 35), .int (gI o0 36), .int (gI o0 37), .ref (q0 38), .ref (q0 39), .int (gI o0 40), .ref (q0 41), .ref (q0 42), .ref (q0 43), .ref (q0 44)])), kI G (q0 1) 6100 (gA o0 1), kI G (q0 2) 6100 (gA o0 2), kJ G (q0 3) 2016 (gB o0 3), kJ G (q0 4) 2016 (gB o0 4), kI G (q0 5) 300 (gA o0 5), kI G (q0 6) 400 (gA o0 6), kJ G (q0 28) 10 (gB o0 28), kI G (q0 31) 969 (gA o0 31), kI G (q0 32) 969 (gA o0 32), kI G (q0 33) 969 (gA o0 33), kI G (q0 38) 5 (gA o0 38), kI G (q0 39) 5120 (gA o0 39), kI G (q0 41) 5 (gA o0 41), kZ G (q0 42) 1024 (gA o0 42), kI G (q0 43) 8192 (gA o0 43), kI G (q0 44) 8192 (gA o0 44)] H := hP
  have hD : va_D A [(h0, .inr (11, [.int (gI o0 0), .ref (q0 1), .ref (q0 2), .ref (q0 3), .ref (q0 4), .ref (q0 5), .ref (q0 6), .int (gI o0 7), .int (gI o0 8), .int (gI o0 9), .int (gI o0 10), .int (gI o0 11), .int (gI o0 12), .int (gI o0 13), .int (gI o0 14), .long (gL o0 15), .int (gI o0 16), .int (gI o0 17), .int (gI o0 18), .int (gI o0 19), .int (gI o0 20), .int (gI o0 21), .int (gI o0 22), .int (gI o0 23), .int (gI o0 24), .int (gI o0 25), .int (gI o0 26), .int (gI o0 27), .ref (q0 28), .long (gL o0 29), .int (gI o0 30), .ref (q0 31), .ref (q0 32), .ref (q0 33), .int (gI o0 34), .int (gI o0 35), .int (gI o0 36), .int (gI o0 37), .ref (q0 38), .ref (q0 39), .int (gI o0 40), .ref (q0 41), .ref (q0 42), .ref (q0 43), .ref (q0 44)])), kI G (q0 1) 6100 (gA o0 1), kI G (q0 2) 6100 (gA o0 2), kJ G (q0 3) 2016 (gB o0 3), kJ G (q0 4) 2016 (gB o0 4), kI G (q0 5) 300 (gA o0 5), kI G (q0 6) 400 (gA o0 6), kJ G (q0 28) 10 (gB o0 28), kI G (q0 31) 969 (gA o0 31), kI G (q0 32) 969 (gA o0 32), kI G (q0 33) 969 (gA o0 33), kI G (q0 38) 5 (gA o0 38), kI G (q0 39) 5120 (gA o0 39), kI G (q0 41) 5 (gA o0 41), kZ G (q0 42) 1024 (gA o0 42), kI G (q0 43) 8192 (gA o0 43), kI G (q0 44) 8192 (gA o0 44)] := hD
  unfold f_Md_lead_367 at h
  refine lv_aload_n hx hb d_Md_lead_367 rfl (lv_at hl 0 rfl) ?_
  refine va_get (D := G.1) (ci := 11) (v := .ref (q0 1)) (C := R_Md) (T := T_Md) (N := 45) hx hb hts i_Md hown hK hP 0 rfl rfl 1 (by decide) (hts _ wf_Md_7) (fun _ h9 => h9) rfl d_Md_lead_368 ?_
  refine lv_iload hx hb d_Md_lead_371 (lv_at hl 2 rfl) ?_
  refine lv_iconst (v := (3 : Int32)) hx hb d_Md_lead_373 (by decide) ?_
  refine lv_iadd hx hb d_Md_lead_374 ?_
  refine lv_iload_n hx hb d_Md_lead_375 rfl (lv_at hl 1 rfl) ?_
  refine lv_if_eq (tgt := 386) hx hb d_Md_lead_376 (by decide) (fun c25 => ?_) (fun c25 => ?_)
  · have h := h.1 c25
    refine lv_iconst (v := (-1 : Int32)) hx hb d_Md_lead_386 (by decide) ?_
    have g26 := h.1
    have h := h.2
    refine xa_iast hx hb hK hP hD hS 1 0 rfl rfl g26 (k := (x7 + (3 : Int32)).toNatClampNeg) rfl d_Md_lead_387 (fun H locs hP hD hS => ?_)
    have hP : va_P G.1 CL [(h0, .inr (11, [.int (gI o0 0), .ref (q0 1), .ref (q0 2), .ref (q0 3), .ref (q0 4), .ref (q0 5), .ref (q0 6), .int (gI o0 7), .int (gI o0 8), .int (gI o0 9), .int (gI o0 10), .int (gI o0 11), .int (gI o0 12), .int (gI o0 13), .int (gI o0 14), .long (gL o0 15), .int (gI o0 16), .int (gI o0 17), .int (gI o0 18), .int (gI o0 19), .int (gI o0 20), .int (gI o0 21), .int (gI o0 22), .int (gI o0 23), .int (gI o0 24), .int (gI o0 25), .int (gI o0 26), .int (gI o0 27), .ref (q0 28), .long (gL o0 29), .int (gI o0 30), .ref (q0 31), .ref (q0 32), .ref (q0 33), .int (gI o0 34), .int (gI o0 35), .int (gI o0 36), .int (gI o0 37), .ref (q0 38), .ref (q0 39), .int (gI o0 40), .ref (q0 41), .ref (q0 42), .ref (q0 43), .ref (q0 44)])), kI G (q0 1) 6100 (upd (gA o0 1) ((x7 + (3 : Int32)).toNatClampNeg) (-1 : Int32)), kI G (q0 2) 6100 (gA o0 2), kJ G (q0 3) 2016 (gB o0 3), kJ G (q0 4) 2016 (gB o0 4), kI G (q0 5) 300 (gA o0 5), kI G (q0 6) 400 (gA o0 6), kJ G (q0 28) 10 (gB o0 28), kI G (q0 31) 969 (gA o0 31), kI G (q0 32) 969 (gA o0 32), kI G (q0 33) 969 (gA o0 33), kI G (q0 38) 5 (gA o0 38), kI G (q0 39) 5120 (gA o0 39), kI G (q0 41) 5 (gA o0 41), kZ G (q0 42) 1024 (gA o0 42), kI G (q0 43) 8192 (gA o0 43), kI G (q0 44) 8192 (gA o0 44)] H := hP
    have hD : va_D A [(h0, .inr (11, [.int (gI o0 0), .ref (q0 1), .ref (q0 2), .ref (q0 3), .ref (q0 4), .ref (q0 5), .ref (q0 6), .int (gI o0 7), .int (gI o0 8), .int (gI o0 9), .int (gI o0 10), .int (gI o0 11), .int (gI o0 12), .int (gI o0 13), .int (gI o0 14), .long (gL o0 15), .int (gI o0 16), .int (gI o0 17), .int (gI o0 18), .int (gI o0 19), .int (gI o0 20), .int (gI o0 21), .int (gI o0 22), .int (gI o0 23), .int (gI o0 24), .int (gI o0 25), .int (gI o0 26), .int (gI o0 27), .ref (q0 28), .long (gL o0 29), .int (gI o0 30), .ref (q0 31), .ref (q0 32), .ref (q0 33), .int (gI o0 34), .int (gI o0 35), .int (gI o0 36), .int (gI o0 37), .ref (q0 38), .ref (q0 39), .int (gI o0 40), .ref (q0 41), .ref (q0 42), .ref (q0 43), .ref (q0 44)])), kI G (q0 1) 6100 (upd (gA o0 1) ((x7 + (3 : Int32)).toNatClampNeg) (-1 : Int32)), kI G (q0 2) 6100 (gA o0 2), kJ G (q0 3) 2016 (gB o0 3), kJ G (q0 4) 2016 (gB o0 4), kI G (q0 5) 300 (gA o0 5), kI G (q0 6) 400 (gA o0 6), kJ G (q0 28) 10 (gB o0 28), kI G (q0 31) 969 (gA o0 31), kI G (q0 32) 969 (gA o0 32), kI G (q0 33) 969 (gA o0 33), kI G (q0 38) 5 (gA o0 38), kI G (q0 39) 5120 (gA o0 39), kI G (q0 41) 5 (gA o0 41), kZ G (q0 42) 1024 (gA o0 42), kI G (q0 43) 8192 (gA o0 43), kI G (q0 44) 8192 (gA o0 44)] := hD
    have hl := lv_sub (l' := [(0, .ref h0), (3, .int x3), (7, .int x7)]) hl [0, 1, 2] rfl
    have hP : va_P G.1 CL (cw_Md G h0 q0 (sA o0 1 (upd (gA o0 1) ((x7 + (3 : Int32)).toNatClampNeg) (-1 : Int32)))) H := hP
    have hD : va_D A (cw_Md G h0 q0 (sA o0 1 (upd (gA o0 1) ((x7 + (3 : Int32)).toNatClampNeg) (-1 : Int32)))) := hD
    exact t_Md_lead_388 Q C x3 x7 (sA o0 1 (upd (gA o0 1) ((x7 + (3 : Int32)).toNatClampNeg) (-1 : Int32))) ls _ locs hl hP hD hS h
  · have h := h.2 c25
    refine lv_aload_n hx hb d_Md_lead_379 rfl (lv_at hl 0 rfl) ?_
    refine va_get (D := G.1) (ci := 11) (v := .int (gI o0 22)) (C := R_Md) (T := T_Md) (N := 45) hx hb hts i_Md hown hK hP 0 rfl rfl 22 (by decide) (hts _ wf_Md_187) (fun _ h9 => h9) rfl d_Md_lead_380 ?_
    refine lv_goto (tgt := 387) hx hb d_Md_lead_383 (by decide) ?_
    have g27 := h.1
    have h := h.2
    refine xa_iast hx hb hK hP hD hS 1 0 rfl rfl g27 (k := (x7 + (3 : Int32)).toNatClampNeg) rfl d_Md_lead_387 (fun H locs hP hD hS => ?_)
    have hP : va_P G.1 CL [(h0, .inr (11, [.int (gI o0 0), .ref (q0 1), .ref (q0 2), .ref (q0 3), .ref (q0 4), .ref (q0 5), .ref (q0 6), .int (gI o0 7), .int (gI o0 8), .int (gI o0 9), .int (gI o0 10), .int (gI o0 11), .int (gI o0 12), .int (gI o0 13), .int (gI o0 14), .long (gL o0 15), .int (gI o0 16), .int (gI o0 17), .int (gI o0 18), .int (gI o0 19), .int (gI o0 20), .int (gI o0 21), .int (gI o0 22), .int (gI o0 23), .int (gI o0 24), .int (gI o0 25), .int (gI o0 26), .int (gI o0 27), .ref (q0 28), .long (gL o0 29), .int (gI o0 30), .ref (q0 31), .ref (q0 32), .ref (q0 33), .int (gI o0 34), .int (gI o0 35), .int (gI o0 36), .int (gI o0 37), .ref (q0 38), .ref (q0 39), .int (gI o0 40), .ref (q0 41), .ref (q0 42), .ref (q0 43), .ref (q0 44)])), kI G (q0 1) 6100 (upd (gA o0 1) ((x7 + (3 : Int32)).toNatClampNeg) (gI o0 22)), kI G (q0 2) 6100 (gA o0 2), kJ G (q0 3) 2016 (gB o0 3), kJ G (q0 4) 2016 (gB o0 4), kI G (q0 5) 300 (gA o0 5), kI G (q0 6) 400 (gA o0 6), kJ G (q0 28) 10 (gB o0 28), kI G (q0 31) 969 (gA o0 31), kI G (q0 32) 969 (gA o0 32), kI G (q0 33) 969 (gA o0 33), kI G (q0 38) 5 (gA o0 38), kI G (q0 39) 5120 (gA o0 39), kI G (q0 41) 5 (gA o0 41), kZ G (q0 42) 1024 (gA o0 42), kI G (q0 43) 8192 (gA o0 43), kI G (q0 44) 8192 (gA o0 44)] H := hP
    have hD : va_D A [(h0, .inr (11, [.int (gI o0 0), .ref (q0 1), .ref (q0 2), .ref (q0 3), .ref (q0 4), .ref (q0 5), .ref (q0 6), .int (gI o0 7), .int (gI o0 8), .int (gI o0 9), .int (gI o0 10), .int (gI o0 11), .int (gI o0 12), .int (gI o0 13), .int (gI o0 14), .long (gL o0 15), .int (gI o0 16), .int (gI o0 17), .int (gI o0 18), .int (gI o0 19), .int (gI o0 20), .int (gI o0 21), .int (gI o0 22), .int (gI o0 23), .int (gI o0 24), .int (gI o0 25), .int (gI o0 26), .int (gI o0 27), .ref (q0 28), .long (gL o0 29), .int (gI o0 30), .ref (q0 31), .ref (q0 32), .ref (q0 33), .int (gI o0 34), .int (gI o0 35), .int (gI o0 36), .int (gI o0 37), .ref (q0 38), .ref (q0 39), .int (gI o0 40), .ref (q0 41), .ref (q0 42), .ref (q0 43), .ref (q0 44)])), kI G (q0 1) 6100 (upd (gA o0 1) ((x7 + (3 : Int32)).toNatClampNeg) (gI o0 22)), kI G (q0 2) 6100 (gA o0 2), kJ G (q0 3) 2016 (gB o0 3), kJ G (q0 4) 2016 (gB o0 4), kI G (q0 5) 300 (gA o0 5), kI G (q0 6) 400 (gA o0 6), kJ G (q0 28) 10 (gB o0 28), kI G (q0 31) 969 (gA o0 31), kI G (q0 32) 969 (gA o0 32), kI G (q0 33) 969 (gA o0 33), kI G (q0 38) 5 (gA o0 38), kI G (q0 39) 5120 (gA o0 39), kI G (q0 41) 5 (gA o0 41), kZ G (q0 42) 1024 (gA o0 42), kI G (q0 43) 8192 (gA o0 43), kI G (q0 44) 8192 (gA o0 44)] := hD
    have hl := lv_sub (l' := [(0, .ref h0), (3, .int x3), (7, .int x7)]) hl [0, 1, 2] rfl
    have hP : va_P G.1 CL (cw_Md G h0 q0 (sA o0 1 (upd (gA o0 1) ((x7 + (3 : Int32)).toNatClampNeg) (gI o0 22)))) H := hP
    have hD : va_D A (cw_Md G h0 q0 (sA o0 1 (upd (gA o0 1) ((x7 + (3 : Int32)).toNatClampNeg) (gI o0 22)))) := hD
    exact t_Md_lead_388 Q C x3 x7 (sA o0 1 (upd (gA o0 1) ((x7 + (3 : Int32)).toNatClampNeg) (gI o0 22))) ls _ locs hl hP hD hS h
set_option maxHeartbeats 4000000 in
set_option maxRecDepth 100000 in
theorem t_Md_lead_305 {p : Program} {l : Launch} {e : Env} {s : State} {m : MethodId} {args : Array Value} {below : List Frame} {meth : Method} {c : Code} {A : Nat → Prop} {G : Gl} {h0 : Nat} {q0 : Nat → Nat} (Q : Ob → Prop) (C : Cx p s m args meth c R_Md b_Md_lead 9 none G A) :
    ∀ (x1 : Int32) (x2 : Int32) (x3 : Int32) (x4 : Int32) (o0 : Ob) (ls : Array Slot) (H : Heap) (locs : List Loc), lv_has ls 9 [(0, .ref h0), (1, .int x1), (2, .int x2), (3, .int x3), (4, .int x4)] → va_P G.1 CL (cw_Md G h0 q0 o0) H → va_D A (cw_Md G h0 q0 o0) → va_S A s.heap H locs → f_Md_lead_305 Q x1 x2 x3 x4 o0 → W p l e rm_Md_lead s m args below meth c H locs 0 0 (MQ below (va_Qv (fun (u : Ob) => Q u) (fun (u : Ob) t => BW G A (cw_Md G h0 q0 u) t) A) args s 0 0 A) (F0 m 305 ls []) := by
  obtain ⟨hx, hb, hml, hown, hr, hts, hK, hA, hlocks, hE⟩ := id C
  intro x1 x2 x3 x4 o0 ls H locs hl hP hD hS h
  have hP : va_P G.1 CL [(h0, .inr (11, [.int (gI o0 0), .ref (q0 1), .ref (q0 2), .ref (q0 3), .ref (q0 4), .ref (q0 5), .ref (q0 6), .int (gI o0 7), .int (gI o0 8), .int (gI o0 9), .int (gI o0 10), .int (gI o0 11), .int (gI o0 12), .int (gI o0 13), .int (gI o0 14), .long (gL o0 15), .int (gI o0 16), .int (gI o0 17), .int (gI o0 18), .int (gI o0 19), .int (gI o0 20), .int (gI o0 21), .int (gI o0 22), .int (gI o0 23), .int (gI o0 24), .int (gI o0 25), .int (gI o0 26), .int (gI o0 27), .ref (q0 28), .long (gL o0 29), .int (gI o0 30), .ref (q0 31), .ref (q0 32), .ref (q0 33), .int (gI o0 34), .int (gI o0 35), .int (gI o0 36), .int (gI o0 37), .ref (q0 38), .ref (q0 39), .int (gI o0 40), .ref (q0 41), .ref (q0 42), .ref (q0 43), .ref (q0 44)])), kI G (q0 1) 6100 (gA o0 1), kI G (q0 2) 6100 (gA o0 2), kJ G (q0 3) 2016 (gB o0 3), kJ G (q0 4) 2016 (gB o0 4), kI G (q0 5) 300 (gA o0 5), kI G (q0 6) 400 (gA o0 6), kJ G (q0 28) 10 (gB o0 28), kI G (q0 31) 969 (gA o0 31), kI G (q0 32) 969 (gA o0 32), kI G (q0 33) 969 (gA o0 33), kI G (q0 38) 5 (gA o0 38), kI G (q0 39) 5120 (gA o0 39), kI G (q0 41) 5 (gA o0 41), kZ G (q0 42) 1024 (gA o0 42), kI G (q0 43) 8192 (gA o0 43), kI G (q0 44) 8192 (gA o0 44)] H := hP
  have hD : va_D A [(h0, .inr (11, [.int (gI o0 0), .ref (q0 1), .ref (q0 2), .ref (q0 3), .ref (q0 4), .ref (q0 5), .ref (q0 6), .int (gI o0 7), .int (gI o0 8), .int (gI o0 9), .int (gI o0 10), .int (gI o0 11), .int (gI o0 12), .int (gI o0 13), .int (gI o0 14), .long (gL o0 15), .int (gI o0 16), .int (gI o0 17), .int (gI o0 18), .int (gI o0 19), .int (gI o0 20), .int (gI o0 21), .int (gI o0 22), .int (gI o0 23), .int (gI o0 24), .int (gI o0 25), .int (gI o0 26), .int (gI o0 27), .ref (q0 28), .long (gL o0 29), .int (gI o0 30), .ref (q0 31), .ref (q0 32), .ref (q0 33), .int (gI o0 34), .int (gI o0 35), .int (gI o0 36), .int (gI o0 37), .ref (q0 38), .ref (q0 39), .int (gI o0 40), .ref (q0 41), .ref (q0 42), .ref (q0 43), .ref (q0 44)])), kI G (q0 1) 6100 (gA o0 1), kI G (q0 2) 6100 (gA o0 2), kJ G (q0 3) 2016 (gB o0 3), kJ G (q0 4) 2016 (gB o0 4), kI G (q0 5) 300 (gA o0 5), kI G (q0 6) 400 (gA o0 6), kJ G (q0 28) 10 (gB o0 28), kI G (q0 31) 969 (gA o0 31), kI G (q0 32) 969 (gA o0 32), kI G (q0 33) 969 (gA o0 33), kI G (q0 38) 5 (gA o0 38), kI G (q0 39) 5120 (gA o0 39), kI G (q0 41) 5 (gA o0 41), kZ G (q0 42) 1024 (gA o0 42), kI G (q0 43) 8192 (gA o0 43), kI G (q0 44) 8192 (gA o0 44)] := hD
  unfold f_Md_lead_305 at h
  refine lv_sipush (v := (520 : Int32)) hx hb d_Md_lead_305 (by decide) ?_
  refine lv_bipush (v := (25 : Int32)) hx hb d_Md_lead_308 (by decide) ?_
  refine lv_iload_n hx hb d_Md_lead_310 rfl (lv_at hl 2 rfl) ?_
  refine lv_imul hx hb d_Md_lead_311 ?_
  refine lv_iadd hx hb d_Md_lead_312 ?_
  refine lv_iconst (v := (5 : Int32)) hx hb d_Md_lead_313 (by decide) ?_
  refine lv_iload_n hx hb d_Md_lead_314 rfl (lv_at hl 1 rfl) ?_
  refine lv_imul hx hb d_Md_lead_315 ?_
  refine lv_iadd hx hb d_Md_lead_316 ?_
  refine lv_topi (fun y28 ey28 => ?_)
  have h := h y28 ey28
  refine lv_istore (lv' := [(7, .int y28), (0, .ref h0), (1, .int x1), (2, .int x2), (3, .int x3), (4, .int x4)]) hx hb d_Md_lead_317 hl (by decide) rfl (fun ls hl => ?_)
  refine lv_aload_n hx hb d_Md_lead_319 rfl (lv_at hl 1 rfl) ?_
  refine va_get (D := G.1) (ci := 11) (v := .ref (q0 1)) (C := R_Md) (T := T_Md) (N := 45) hx hb hts i_Md hown hK hP 0 rfl rfl 1 (by decide) (hts _ wf_Md_7) (fun _ h9 => h9) rfl d_Md_lead_320 ?_
  refine lv_iload hx hb d_Md_lead_323 (lv_at hl 0 rfl) ?_
  refine lv_aload_n hx hb d_Md_lead_325 rfl (lv_at hl 1 rfl) ?_
  refine va_get (D := G.1) (ci := 11) (v := .ref (q0 1)) (C := R_Md) (T := T_Md) (N := 45) hx hb hts i_Md hown hK hP 0 rfl rfl 1 (by decide) (hts _ wf_Md_7) (fun _ h9 => h9) rfl d_Md_lead_326 ?_
  refine lv_bipush (v := (20 : Int32)) hx hb d_Md_lead_329 (by decide) ?_
  refine lv_iload_n hx hb d_Md_lead_331 rfl (lv_at hl 2 rfl) ?_
  refine lv_iadd hx hb d_Md_lead_332 ?_
  have g29 := h.1
  have h := h.2
  refine xa_iald hx hb hK hP 1 0 rfl rfl g29 (k := ((20 : Int32) + x1).toNatClampNeg) rfl d_Md_lead_333 ?_
  refine lv_topi (fun y30 ey30 => ?_)
  have h := h y30 ey30
  have g31 := h.1
  have h := h.2
  refine xa_iast hx hb hK hP hD hS 1 0 rfl rfl g31 (k := y28.toNatClampNeg) rfl d_Md_lead_334 (fun H locs hP hD hS => ?_)
  have hP : va_P G.1 CL [(h0, .inr (11, [.int (gI o0 0), .ref (q0 1), .ref (q0 2), .ref (q0 3), .ref (q0 4), .ref (q0 5), .ref (q0 6), .int (gI o0 7), .int (gI o0 8), .int (gI o0 9), .int (gI o0 10), .int (gI o0 11), .int (gI o0 12), .int (gI o0 13), .int (gI o0 14), .long (gL o0 15), .int (gI o0 16), .int (gI o0 17), .int (gI o0 18), .int (gI o0 19), .int (gI o0 20), .int (gI o0 21), .int (gI o0 22), .int (gI o0 23), .int (gI o0 24), .int (gI o0 25), .int (gI o0 26), .int (gI o0 27), .ref (q0 28), .long (gL o0 29), .int (gI o0 30), .ref (q0 31), .ref (q0 32), .ref (q0 33), .int (gI o0 34), .int (gI o0 35), .int (gI o0 36), .int (gI o0 37), .ref (q0 38), .ref (q0 39), .int (gI o0 40), .ref (q0 41), .ref (q0 42), .ref (q0 43), .ref (q0 44)])), kI G (q0 1) 6100 (upd (gA o0 1) y28.toNatClampNeg y30), kI G (q0 2) 6100 (gA o0 2), kJ G (q0 3) 2016 (gB o0 3), kJ G (q0 4) 2016 (gB o0 4), kI G (q0 5) 300 (gA o0 5), kI G (q0 6) 400 (gA o0 6), kJ G (q0 28) 10 (gB o0 28), kI G (q0 31) 969 (gA o0 31), kI G (q0 32) 969 (gA o0 32), kI G (q0 33) 969 (gA o0 33), kI G (q0 38) 5 (gA o0 38), kI G (q0 39) 5120 (gA o0 39), kI G (q0 41) 5 (gA o0 41), kZ G (q0 42) 1024 (gA o0 42), kI G (q0 43) 8192 (gA o0 43), kI G (q0 44) 8192 (gA o0 44)] H := hP
  have hD : va_D A [(h0, .inr (11, [.int (gI o0 0), .ref (q0 1), .ref (q0 2), .ref (q0 3), .ref (q0 4), .ref (q0 5), .ref (q0 6), .int (gI o0 7), .int (gI o0 8), .int (gI o0 9), .int (gI o0 10), .int (gI o0 11), .int (gI o0 12), .int (gI o0 13), .int (gI o0 14), .long (gL o0 15), .int (gI o0 16), .int (gI o0 17), .int (gI o0 18), .int (gI o0 19), .int (gI o0 20), .int (gI o0 21), .int (gI o0 22), .int (gI o0 23), .int (gI o0 24), .int (gI o0 25), .int (gI o0 26), .int (gI o0 27), .ref (q0 28), .long (gL o0 29), .int (gI o0 30), .ref (q0 31), .ref (q0 32), .ref (q0 33), .int (gI o0 34), .int (gI o0 35), .int (gI o0 36), .int (gI o0 37), .ref (q0 38), .ref (q0 39), .int (gI o0 40), .ref (q0 41), .ref (q0 42), .ref (q0 43), .ref (q0 44)])), kI G (q0 1) 6100 (upd (gA o0 1) y28.toNatClampNeg y30), kI G (q0 2) 6100 (gA o0 2), kJ G (q0 3) 2016 (gB o0 3), kJ G (q0 4) 2016 (gB o0 4), kI G (q0 5) 300 (gA o0 5), kI G (q0 6) 400 (gA o0 6), kJ G (q0 28) 10 (gB o0 28), kI G (q0 31) 969 (gA o0 31), kI G (q0 32) 969 (gA o0 32), kI G (q0 33) 969 (gA o0 33), kI G (q0 38) 5 (gA o0 38), kI G (q0 39) 5120 (gA o0 39), kI G (q0 41) 5 (gA o0 41), kZ G (q0 42) 1024 (gA o0 42), kI G (q0 43) 8192 (gA o0 43), kI G (q0 44) 8192 (gA o0 44)] := hD
  refine lv_aload_n hx hb d_Md_lead_335 rfl (lv_at hl 1 rfl) ?_
  refine va_get (D := G.1) (ci := 11) (v := .ref (q0 1)) (C := R_Md) (T := T_Md) (N := 45) hx hb hts i_Md hown hK hP 0 rfl rfl 1 (by decide) (hts _ wf_Md_7) (fun _ h9 => h9) rfl d_Md_lead_336 ?_
  refine lv_iload hx hb d_Md_lead_339 (lv_at hl 0 rfl) ?_
  refine lv_iconst (v := (1 : Int32)) hx hb d_Md_lead_341 (by decide) ?_
  refine lv_iadd hx hb d_Md_lead_342 ?_
  refine lv_iload hx hb d_Md_lead_343 (lv_at hl 5 rfl) ?_
  have g32 := h.1
  have h := h.2
  refine xa_iast hx hb hK hP hD hS 1 0 rfl rfl g32 (k := (y28 + (1 : Int32)).toNatClampNeg) rfl d_Md_lead_345 (fun H locs hP hD hS => ?_)
  have hP : va_P G.1 CL [(h0, .inr (11, [.int (gI o0 0), .ref (q0 1), .ref (q0 2), .ref (q0 3), .ref (q0 4), .ref (q0 5), .ref (q0 6), .int (gI o0 7), .int (gI o0 8), .int (gI o0 9), .int (gI o0 10), .int (gI o0 11), .int (gI o0 12), .int (gI o0 13), .int (gI o0 14), .long (gL o0 15), .int (gI o0 16), .int (gI o0 17), .int (gI o0 18), .int (gI o0 19), .int (gI o0 20), .int (gI o0 21), .int (gI o0 22), .int (gI o0 23), .int (gI o0 24), .int (gI o0 25), .int (gI o0 26), .int (gI o0 27), .ref (q0 28), .long (gL o0 29), .int (gI o0 30), .ref (q0 31), .ref (q0 32), .ref (q0 33), .int (gI o0 34), .int (gI o0 35), .int (gI o0 36), .int (gI o0 37), .ref (q0 38), .ref (q0 39), .int (gI o0 40), .ref (q0 41), .ref (q0 42), .ref (q0 43), .ref (q0 44)])), kI G (q0 1) 6100 (upd (upd (gA o0 1) y28.toNatClampNeg y30) ((y28 + (1 : Int32)).toNatClampNeg) x4), kI G (q0 2) 6100 (gA o0 2), kJ G (q0 3) 2016 (gB o0 3), kJ G (q0 4) 2016 (gB o0 4), kI G (q0 5) 300 (gA o0 5), kI G (q0 6) 400 (gA o0 6), kJ G (q0 28) 10 (gB o0 28), kI G (q0 31) 969 (gA o0 31), kI G (q0 32) 969 (gA o0 32), kI G (q0 33) 969 (gA o0 33), kI G (q0 38) 5 (gA o0 38), kI G (q0 39) 5120 (gA o0 39), kI G (q0 41) 5 (gA o0 41), kZ G (q0 42) 1024 (gA o0 42), kI G (q0 43) 8192 (gA o0 43), kI G (q0 44) 8192 (gA o0 44)] H := hP
  have hD : va_D A [(h0, .inr (11, [.int (gI o0 0), .ref (q0 1), .ref (q0 2), .ref (q0 3), .ref (q0 4), .ref (q0 5), .ref (q0 6), .int (gI o0 7), .int (gI o0 8), .int (gI o0 9), .int (gI o0 10), .int (gI o0 11), .int (gI o0 12), .int (gI o0 13), .int (gI o0 14), .long (gL o0 15), .int (gI o0 16), .int (gI o0 17), .int (gI o0 18), .int (gI o0 19), .int (gI o0 20), .int (gI o0 21), .int (gI o0 22), .int (gI o0 23), .int (gI o0 24), .int (gI o0 25), .int (gI o0 26), .int (gI o0 27), .ref (q0 28), .long (gL o0 29), .int (gI o0 30), .ref (q0 31), .ref (q0 32), .ref (q0 33), .int (gI o0 34), .int (gI o0 35), .int (gI o0 36), .int (gI o0 37), .ref (q0 38), .ref (q0 39), .int (gI o0 40), .ref (q0 41), .ref (q0 42), .ref (q0 43), .ref (q0 44)])), kI G (q0 1) 6100 (upd (upd (gA o0 1) y28.toNatClampNeg y30) ((y28 + (1 : Int32)).toNatClampNeg) x4), kI G (q0 2) 6100 (gA o0 2), kJ G (q0 3) 2016 (gB o0 3), kJ G (q0 4) 2016 (gB o0 4), kI G (q0 5) 300 (gA o0 5), kI G (q0 6) 400 (gA o0 6), kJ G (q0 28) 10 (gB o0 28), kI G (q0 31) 969 (gA o0 31), kI G (q0 32) 969 (gA o0 32), kI G (q0 33) 969 (gA o0 33), kI G (q0 38) 5 (gA o0 38), kI G (q0 39) 5120 (gA o0 39), kI G (q0 41) 5 (gA o0 41), kZ G (q0 42) 1024 (gA o0 42), kI G (q0 43) 8192 (gA o0 43), kI G (q0 44) 8192 (gA o0 44)] := hD
  refine lv_aload_n hx hb d_Md_lead_346 rfl (lv_at hl 1 rfl) ?_
  refine va_get (D := G.1) (ci := 11) (v := .ref (q0 1)) (C := R_Md) (T := T_Md) (N := 45) hx hb hts i_Md hown hK hP 0 rfl rfl 1 (by decide) (hts _ wf_Md_7) (fun _ h9 => h9) rfl d_Md_lead_347 ?_
  refine lv_iload hx hb d_Md_lead_350 (lv_at hl 0 rfl) ?_
  refine lv_iconst (v := (2 : Int32)) hx hb d_Md_lead_352 (by decide) ?_
  refine lv_iadd hx hb d_Md_lead_353 ?_
  refine lv_iload_n hx hb d_Md_lead_354 rfl (lv_at hl 4 rfl) ?_
  refine lv_if_eq (tgt := 365) hx hb d_Md_lead_355 (by decide) (fun c33 => ?_) (fun c33 => ?_)
  · have h := h.1 c33
    refine lv_iconst (v := (-1 : Int32)) hx hb d_Md_lead_365 (by decide) ?_
    have g34 := h.1
    have h := h.2
    refine xa_iast hx hb hK hP hD hS 1 0 rfl rfl g34 (k := (y28 + (2 : Int32)).toNatClampNeg) rfl d_Md_lead_366 (fun H locs hP hD hS => ?_)
    have hP : va_P G.1 CL [(h0, .inr (11, [.int (gI o0 0), .ref (q0 1), .ref (q0 2), .ref (q0 3), .ref (q0 4), .ref (q0 5), .ref (q0 6), .int (gI o0 7), .int (gI o0 8), .int (gI o0 9), .int (gI o0 10), .int (gI o0 11), .int (gI o0 12), .int (gI o0 13), .int (gI o0 14), .long (gL o0 15), .int (gI o0 16), .int (gI o0 17), .int (gI o0 18), .int (gI o0 19), .int (gI o0 20), .int (gI o0 21), .int (gI o0 22), .int (gI o0 23), .int (gI o0 24), .int (gI o0 25), .int (gI o0 26), .int (gI o0 27), .ref (q0 28), .long (gL o0 29), .int (gI o0 30), .ref (q0 31), .ref (q0 32), .ref (q0 33), .int (gI o0 34), .int (gI o0 35), .int (gI o0 36), .int (gI o0 37), .ref (q0 38), .ref (q0 39), .int (gI o0 40), .ref (q0 41), .ref (q0 42), .ref (q0 43), .ref (q0 44)])), kI G (q0 1) 6100 (upd (upd (upd (gA o0 1) y28.toNatClampNeg y30) ((y28 + (1 : Int32)).toNatClampNeg) x4) ((y28 + (2 : Int32)).toNatClampNeg) (-1 : Int32)), kI G (q0 2) 6100 (gA o0 2), kJ G (q0 3) 2016 (gB o0 3), kJ G (q0 4) 2016 (gB o0 4), kI G (q0 5) 300 (gA o0 5), kI G (q0 6) 400 (gA o0 6), kJ G (q0 28) 10 (gB o0 28), kI G (q0 31) 969 (gA o0 31), kI G (q0 32) 969 (gA o0 32), kI G (q0 33) 969 (gA o0 33), kI G (q0 38) 5 (gA o0 38), kI G (q0 39) 5120 (gA o0 39), kI G (q0 41) 5 (gA o0 41), kZ G (q0 42) 1024 (gA o0 42), kI G (q0 43) 8192 (gA o0 43), kI G (q0 44) 8192 (gA o0 44)] H := hP
    have hD : va_D A [(h0, .inr (11, [.int (gI o0 0), .ref (q0 1), .ref (q0 2), .ref (q0 3), .ref (q0 4), .ref (q0 5), .ref (q0 6), .int (gI o0 7), .int (gI o0 8), .int (gI o0 9), .int (gI o0 10), .int (gI o0 11), .int (gI o0 12), .int (gI o0 13), .int (gI o0 14), .long (gL o0 15), .int (gI o0 16), .int (gI o0 17), .int (gI o0 18), .int (gI o0 19), .int (gI o0 20), .int (gI o0 21), .int (gI o0 22), .int (gI o0 23), .int (gI o0 24), .int (gI o0 25), .int (gI o0 26), .int (gI o0 27), .ref (q0 28), .long (gL o0 29), .int (gI o0 30), .ref (q0 31), .ref (q0 32), .ref (q0 33), .int (gI o0 34), .int (gI o0 35), .int (gI o0 36), .int (gI o0 37), .ref (q0 38), .ref (q0 39), .int (gI o0 40), .ref (q0 41), .ref (q0 42), .ref (q0 43), .ref (q0 44)])), kI G (q0 1) 6100 (upd (upd (upd (gA o0 1) y28.toNatClampNeg y30) ((y28 + (1 : Int32)).toNatClampNeg) x4) ((y28 + (2 : Int32)).toNatClampNeg) (-1 : Int32)), kI G (q0 2) 6100 (gA o0 2), kJ G (q0 3) 2016 (gB o0 3), kJ G (q0 4) 2016 (gB o0 4), kI G (q0 5) 300 (gA o0 5), kI G (q0 6) 400 (gA o0 6), kJ G (q0 28) 10 (gB o0 28), kI G (q0 31) 969 (gA o0 31), kI G (q0 32) 969 (gA o0 32), kI G (q0 33) 969 (gA o0 33), kI G (q0 38) 5 (gA o0 38), kI G (q0 39) 5120 (gA o0 39), kI G (q0 41) 5 (gA o0 41), kZ G (q0 42) 1024 (gA o0 42), kI G (q0 43) 8192 (gA o0 43), kI G (q0 44) 8192 (gA o0 44)] := hD
    have hl := lv_sub (l' := [(0, .ref h0), (3, .int x3), (7, .int y28)]) hl [1, 4, 0] rfl
    have hP : va_P G.1 CL (cw_Md G h0 q0 (sA o0 1 (upd (upd (upd (gA o0 1) y28.toNatClampNeg y30) ((y28 + (1 : Int32)).toNatClampNeg) x4) ((y28 + (2 : Int32)).toNatClampNeg) (-1 : Int32)))) H := hP
    have hD : va_D A (cw_Md G h0 q0 (sA o0 1 (upd (upd (upd (gA o0 1) y28.toNatClampNeg y30) ((y28 + (1 : Int32)).toNatClampNeg) x4) ((y28 + (2 : Int32)).toNatClampNeg) (-1 : Int32)))) := hD
    exact t_Md_lead_367 Q C x3 y28 (sA o0 1 (upd (upd (upd (gA o0 1) y28.toNatClampNeg y30) ((y28 + (1 : Int32)).toNatClampNeg) x4) ((y28 + (2 : Int32)).toNatClampNeg) (-1 : Int32))) ls _ locs hl hP hD hS h
  · have h := h.2 c33
    refine lv_aload_n hx hb d_Md_lead_358 rfl (lv_at hl 1 rfl) ?_
    refine va_get (D := G.1) (ci := 11) (v := .int (gI o0 21)) (C := R_Md) (T := T_Md) (N := 45) hx hb hts i_Md hown hK hP 0 rfl rfl 21 (by decide) (hts _ wf_Md_184) (fun _ h9 => h9) rfl d_Md_lead_359 ?_
    refine lv_goto (tgt := 366) hx hb d_Md_lead_362 (by decide) ?_
    have g35 := h.1
    have h := h.2
    refine xa_iast hx hb hK hP hD hS 1 0 rfl rfl g35 (k := (y28 + (2 : Int32)).toNatClampNeg) rfl d_Md_lead_366 (fun H locs hP hD hS => ?_)
    have hP : va_P G.1 CL [(h0, .inr (11, [.int (gI o0 0), .ref (q0 1), .ref (q0 2), .ref (q0 3), .ref (q0 4), .ref (q0 5), .ref (q0 6), .int (gI o0 7), .int (gI o0 8), .int (gI o0 9), .int (gI o0 10), .int (gI o0 11), .int (gI o0 12), .int (gI o0 13), .int (gI o0 14), .long (gL o0 15), .int (gI o0 16), .int (gI o0 17), .int (gI o0 18), .int (gI o0 19), .int (gI o0 20), .int (gI o0 21), .int (gI o0 22), .int (gI o0 23), .int (gI o0 24), .int (gI o0 25), .int (gI o0 26), .int (gI o0 27), .ref (q0 28), .long (gL o0 29), .int (gI o0 30), .ref (q0 31), .ref (q0 32), .ref (q0 33), .int (gI o0 34), .int (gI o0 35), .int (gI o0 36), .int (gI o0 37), .ref (q0 38), .ref (q0 39), .int (gI o0 40), .ref (q0 41), .ref (q0 42), .ref (q0 43), .ref (q0 44)])), kI G (q0 1) 6100 (upd (upd (upd (gA o0 1) y28.toNatClampNeg y30) ((y28 + (1 : Int32)).toNatClampNeg) x4) ((y28 + (2 : Int32)).toNatClampNeg) (gI o0 21)), kI G (q0 2) 6100 (gA o0 2), kJ G (q0 3) 2016 (gB o0 3), kJ G (q0 4) 2016 (gB o0 4), kI G (q0 5) 300 (gA o0 5), kI G (q0 6) 400 (gA o0 6), kJ G (q0 28) 10 (gB o0 28), kI G (q0 31) 969 (gA o0 31), kI G (q0 32) 969 (gA o0 32), kI G (q0 33) 969 (gA o0 33), kI G (q0 38) 5 (gA o0 38), kI G (q0 39) 5120 (gA o0 39), kI G (q0 41) 5 (gA o0 41), kZ G (q0 42) 1024 (gA o0 42), kI G (q0 43) 8192 (gA o0 43), kI G (q0 44) 8192 (gA o0 44)] H := hP
    have hD : va_D A [(h0, .inr (11, [.int (gI o0 0), .ref (q0 1), .ref (q0 2), .ref (q0 3), .ref (q0 4), .ref (q0 5), .ref (q0 6), .int (gI o0 7), .int (gI o0 8), .int (gI o0 9), .int (gI o0 10), .int (gI o0 11), .int (gI o0 12), .int (gI o0 13), .int (gI o0 14), .long (gL o0 15), .int (gI o0 16), .int (gI o0 17), .int (gI o0 18), .int (gI o0 19), .int (gI o0 20), .int (gI o0 21), .int (gI o0 22), .int (gI o0 23), .int (gI o0 24), .int (gI o0 25), .int (gI o0 26), .int (gI o0 27), .ref (q0 28), .long (gL o0 29), .int (gI o0 30), .ref (q0 31), .ref (q0 32), .ref (q0 33), .int (gI o0 34), .int (gI o0 35), .int (gI o0 36), .int (gI o0 37), .ref (q0 38), .ref (q0 39), .int (gI o0 40), .ref (q0 41), .ref (q0 42), .ref (q0 43), .ref (q0 44)])), kI G (q0 1) 6100 (upd (upd (upd (gA o0 1) y28.toNatClampNeg y30) ((y28 + (1 : Int32)).toNatClampNeg) x4) ((y28 + (2 : Int32)).toNatClampNeg) (gI o0 21)), kI G (q0 2) 6100 (gA o0 2), kJ G (q0 3) 2016 (gB o0 3), kJ G (q0 4) 2016 (gB o0 4), kI G (q0 5) 300 (gA o0 5), kI G (q0 6) 400 (gA o0 6), kJ G (q0 28) 10 (gB o0 28), kI G (q0 31) 969 (gA o0 31), kI G (q0 32) 969 (gA o0 32), kI G (q0 33) 969 (gA o0 33), kI G (q0 38) 5 (gA o0 38), kI G (q0 39) 5120 (gA o0 39), kI G (q0 41) 5 (gA o0 41), kZ G (q0 42) 1024 (gA o0 42), kI G (q0 43) 8192 (gA o0 43), kI G (q0 44) 8192 (gA o0 44)] := hD
    have hl := lv_sub (l' := [(0, .ref h0), (3, .int x3), (7, .int y28)]) hl [1, 4, 0] rfl
    have hP : va_P G.1 CL (cw_Md G h0 q0 (sA o0 1 (upd (upd (upd (gA o0 1) y28.toNatClampNeg y30) ((y28 + (1 : Int32)).toNatClampNeg) x4) ((y28 + (2 : Int32)).toNatClampNeg) (gI o0 21)))) H := hP
    have hD : va_D A (cw_Md G h0 q0 (sA o0 1 (upd (upd (upd (gA o0 1) y28.toNatClampNeg y30) ((y28 + (1 : Int32)).toNatClampNeg) x4) ((y28 + (2 : Int32)).toNatClampNeg) (gI o0 21)))) := hD
    exact t_Md_lead_367 Q C x3 y28 (sA o0 1 (upd (upd (upd (gA o0 1) y28.toNatClampNeg y30) ((y28 + (1 : Int32)).toNatClampNeg) x4) ((y28 + (2 : Int32)).toNatClampNeg) (gI o0 21))) ls _ locs hl hP hD hS h
set_option maxHeartbeats 4000000 in
set_option maxRecDepth 100000 in
theorem t_Md_lead_251 {p : Program} {l : Launch} {e : Env} {s : State} {m : MethodId} {args : Array Value} {below : List Frame} {meth : Method} {c : Code} {A : Nat → Prop} {G : Gl} {h0 : Nat} {q0 : Nat → Nat} (Q : Ob → Prop) (C : Cx p s m args meth c R_Md b_Md_lead 9 none G A) :
    ∀ (x1 : Int32) (x2 : Int32) (x3 : Int32) (x4 : Int32) (x5 : Int32) (o0 : Ob) (ls : Array Slot) (H : Heap) (locs : List Loc), lv_has ls 9 [(0, .ref h0), (1, .int x1), (2, .int x2), (3, .int x3), (4, .int x4), (5, .int x5)] → va_P G.1 CL (cw_Md G h0 q0 o0) H → va_D A (cw_Md G h0 q0 o0) → va_S A s.heap H locs → f_Md_lead_251 Q x1 x2 x3 x4 x5 o0 → W p l e rm_Md_lead s m args below meth c H locs 0 0 (MQ below (va_Qv (fun (u : Ob) => Q u) (fun (u : Ob) t => BW G A (cw_Md G h0 q0 u) t) A) args s 0 0 A) (F0 m 251 ls []) := by
  obtain ⟨hx, hb, hml, hown, hr, hts, hK, hA, hlocks, hE⟩ := id C
  intro x1 x2 x3 x4 x5 o0 ls H locs hl hP hD hS h
  have hP : va_P G.1 CL [(h0, .inr (11, [.int (gI o0 0), .ref (q0 1), .ref (q0 2), .ref (q0 3), .ref (q0 4), .ref (q0 5), .ref (q0 6), .int (gI o0 7), .int (gI o0 8), .int (gI o0 9), .int (gI o0 10), .int (gI o0 11), .int (gI o0 12), .int (gI o0 13), .int (gI o0 14), .long (gL o0 15), .int (gI o0 16), .int (gI o0 17), .int (gI o0 18), .int (gI o0 19), .int (gI o0 20), .int (gI o0 21), .int (gI o0 22), .int (gI o0 23), .int (gI o0 24), .int (gI o0 25), .int (gI o0 26), .int (gI o0 27), .ref (q0 28), .long (gL o0 29), .int (gI o0 30), .ref (q0 31), .ref (q0 32), .ref (q0 33), .int (gI o0 34), .int (gI o0 35), .int (gI o0 36), .int (gI o0 37), .ref (q0 38), .ref (q0 39), .int (gI o0 40), .ref (q0 41), .ref (q0 42), .ref (q0 43), .ref (q0 44)])), kI G (q0 1) 6100 (gA o0 1), kI G (q0 2) 6100 (gA o0 2), kJ G (q0 3) 2016 (gB o0 3), kJ G (q0 4) 2016 (gB o0 4), kI G (q0 5) 300 (gA o0 5), kI G (q0 6) 400 (gA o0 6), kJ G (q0 28) 10 (gB o0 28), kI G (q0 31) 969 (gA o0 31), kI G (q0 32) 969 (gA o0 32), kI G (q0 33) 969 (gA o0 33), kI G (q0 38) 5 (gA o0 38), kI G (q0 39) 5120 (gA o0 39), kI G (q0 41) 5 (gA o0 41), kZ G (q0 42) 1024 (gA o0 42), kI G (q0 43) 8192 (gA o0 43), kI G (q0 44) 8192 (gA o0 44)] H := hP
  have hD : va_D A [(h0, .inr (11, [.int (gI o0 0), .ref (q0 1), .ref (q0 2), .ref (q0 3), .ref (q0 4), .ref (q0 5), .ref (q0 6), .int (gI o0 7), .int (gI o0 8), .int (gI o0 9), .int (gI o0 10), .int (gI o0 11), .int (gI o0 12), .int (gI o0 13), .int (gI o0 14), .long (gL o0 15), .int (gI o0 16), .int (gI o0 17), .int (gI o0 18), .int (gI o0 19), .int (gI o0 20), .int (gI o0 21), .int (gI o0 22), .int (gI o0 23), .int (gI o0 24), .int (gI o0 25), .int (gI o0 26), .int (gI o0 27), .ref (q0 28), .long (gL o0 29), .int (gI o0 30), .ref (q0 31), .ref (q0 32), .ref (q0 33), .int (gI o0 34), .int (gI o0 35), .int (gI o0 36), .int (gI o0 37), .ref (q0 38), .ref (q0 39), .int (gI o0 40), .ref (q0 41), .ref (q0 42), .ref (q0 43), .ref (q0 44)])), kI G (q0 1) 6100 (gA o0 1), kI G (q0 2) 6100 (gA o0 2), kJ G (q0 3) 2016 (gB o0 3), kJ G (q0 4) 2016 (gB o0 4), kI G (q0 5) 300 (gA o0 5), kI G (q0 6) 400 (gA o0 6), kJ G (q0 28) 10 (gB o0 28), kI G (q0 31) 969 (gA o0 31), kI G (q0 32) 969 (gA o0 32), kI G (q0 33) 969 (gA o0 33), kI G (q0 38) 5 (gA o0 38), kI G (q0 39) 5120 (gA o0 39), kI G (q0 41) 5 (gA o0 41), kZ G (q0 42) 1024 (gA o0 42), kI G (q0 43) 8192 (gA o0 43), kI G (q0 44) 8192 (gA o0 44)] := hD
  unfold f_Md_lead_251 at h
  refine lv_iload hx hb d_Md_lead_251 (lv_at hl 4 rfl) ?_
  refine lv_aload_n hx hb d_Md_lead_253 rfl (lv_at hl 0 rfl) ?_
  refine va_get (D := G.1) (ci := 11) (v := .ref (q0 1)) (C := R_Md) (T := T_Md) (N := 45) hx hb hts i_Md hown hK hP 0 rfl rfl 1 (by decide) (hts _ wf_Md_7) (fun _ h9 => h9) rfl d_Md_lead_254 ?_
  refine lv_bipush (v := (20 : Int32)) hx hb d_Md_lead_257 (by decide) ?_
  refine lv_iload_n hx hb d_Md_lead_259 rfl (lv_at hl 1 rfl) ?_
  refine lv_iadd hx hb d_Md_lead_260 ?_
  have g36 := h.1
  have h := h.2
  refine xa_iald hx hb hK hP 1 0 rfl rfl g36 (k := ((20 : Int32) + x1).toNatClampNeg) rfl d_Md_lead_261 ?_
  refine lv_topi (fun y37 ey37 => ?_)
  have h := h y37 ey37
  refine lv_isub hx hb d_Md_lead_262 ?_
  refine lv_istore (lv' := [(6, .int (x4 - y37)), (0, .ref h0), (1, .int x1), (2, .int x2), (3, .int x3), (4, .int x4), (5, .int x5)]) hx hb d_Md_lead_263 hl (by decide) rfl (fun ls hl => ?_)
  refine lv_aload_n hx hb d_Md_lead_265 rfl (lv_at hl 1 rfl) ?_
  refine va_get (D := G.1) (ci := 11) (v := .ref (q0 1)) (C := R_Md) (T := T_Md) (N := 45) hx hb hts i_Md hown hK hP 0 rfl rfl 1 (by decide) (hts _ wf_Md_7) (fun _ h9 => h9) rfl d_Md_lead_266 ?_
  refine lv_bipush (v := (20 : Int32)) hx hb d_Md_lead_269 (by decide) ?_
  refine lv_iload_n hx hb d_Md_lead_271 rfl (lv_at hl 2 rfl) ?_
  refine lv_iadd hx hb d_Md_lead_272 ?_
  refine lv_dup2_11 hx hb d_Md_lead_273 rfl rfl ?_
  have g38 := h.1
  have h := h.2
  refine xa_iald hx hb hK hP 1 0 rfl rfl g38 (k := ((20 : Int32) + x1).toNatClampNeg) rfl d_Md_lead_274 ?_
  refine lv_topi (fun y39 ey39 => ?_)
  have h := h y39 ey39
  refine lv_iload hx hb d_Md_lead_275 (lv_at hl 0 rfl) ?_
  refine lv_iload hx hb d_Md_lead_277 (lv_at hl 6 rfl) ?_
  refine lv_icmp_le (tgt := 287) hx hb d_Md_lead_279 (by decide) (fun c40 => ?_) (fun c40 => ?_)
  · have h := h.1 c40
    refine lv_iload hx hb d_Md_lead_287 (lv_at hl 0 rfl) ?_
    refine lv_iload hx hb d_Md_lead_289 (lv_at hl 6 rfl) ?_
    refine lv_ineg hx hb d_Md_lead_291 ?_
    refine lv_icmp_ge (tgt := 301) hx hb d_Md_lead_292 (by decide) (fun c41 => ?_) (fun c41 => ?_)
    · have h := h.1 c41
      refine lv_iload hx hb d_Md_lead_301 (lv_at hl 0 rfl) ?_
      refine lv_iadd hx hb d_Md_lead_303 ?_
      have g42 := h.1
      have h := h.2
      refine xa_iast hx hb hK hP hD hS 1 0 rfl rfl g42 (k := ((20 : Int32) + x1).toNatClampNeg) rfl d_Md_lead_304 (fun H locs hP hD hS => ?_)
      have hP : va_P G.1 CL [(h0, .inr (11, [.int (gI o0 0), .ref (q0 1), .ref (q0 2), .ref (q0 3), .ref (q0 4), .ref (q0 5), .ref (q0 6), .int (gI o0 7), .int (gI o0 8), .int (gI o0 9), .int (gI o0 10), .int (gI o0 11), .int (gI o0 12), .int (gI o0 13), .int (gI o0 14), .long (gL o0 15), .int (gI o0 16), .int (gI o0 17), .int (gI o0 18), .int (gI o0 19), .int (gI o0 20), .int (gI o0 21), .int (gI o0 22), .int (gI o0 23), .int (gI o0 24), .int (gI o0 25), .int (gI o0 26), .int (gI o0 27), .ref (q0 28), .long (gL o0 29), .int (gI o0 30), .ref (q0 31), .ref (q0 32), .ref (q0 33), .int (gI o0 34), .int (gI o0 35), .int (gI o0 36), .int (gI o0 37), .ref (q0 38), .ref (q0 39), .int (gI o0 40), .ref (q0 41), .ref (q0 42), .ref (q0 43), .ref (q0 44)])), kI G (q0 1) 6100 (upd (gA o0 1) (((20 : Int32) + x1).toNatClampNeg) (y39 + (x4 - y37))), kI G (q0 2) 6100 (gA o0 2), kJ G (q0 3) 2016 (gB o0 3), kJ G (q0 4) 2016 (gB o0 4), kI G (q0 5) 300 (gA o0 5), kI G (q0 6) 400 (gA o0 6), kJ G (q0 28) 10 (gB o0 28), kI G (q0 31) 969 (gA o0 31), kI G (q0 32) 969 (gA o0 32), kI G (q0 33) 969 (gA o0 33), kI G (q0 38) 5 (gA o0 38), kI G (q0 39) 5120 (gA o0 39), kI G (q0 41) 5 (gA o0 41), kZ G (q0 42) 1024 (gA o0 42), kI G (q0 43) 8192 (gA o0 43), kI G (q0 44) 8192 (gA o0 44)] H := hP
      have hD : va_D A [(h0, .inr (11, [.int (gI o0 0), .ref (q0 1), .ref (q0 2), .ref (q0 3), .ref (q0 4), .ref (q0 5), .ref (q0 6), .int (gI o0 7), .int (gI o0 8), .int (gI o0 9), .int (gI o0 10), .int (gI o0 11), .int (gI o0 12), .int (gI o0 13), .int (gI o0 14), .long (gL o0 15), .int (gI o0 16), .int (gI o0 17), .int (gI o0 18), .int (gI o0 19), .int (gI o0 20), .int (gI o0 21), .int (gI o0 22), .int (gI o0 23), .int (gI o0 24), .int (gI o0 25), .int (gI o0 26), .int (gI o0 27), .ref (q0 28), .long (gL o0 29), .int (gI o0 30), .ref (q0 31), .ref (q0 32), .ref (q0 33), .int (gI o0 34), .int (gI o0 35), .int (gI o0 36), .int (gI o0 37), .ref (q0 38), .ref (q0 39), .int (gI o0 40), .ref (q0 41), .ref (q0 42), .ref (q0 43), .ref (q0 44)])), kI G (q0 1) 6100 (upd (gA o0 1) (((20 : Int32) + x1).toNatClampNeg) (y39 + (x4 - y37))), kI G (q0 2) 6100 (gA o0 2), kJ G (q0 3) 2016 (gB o0 3), kJ G (q0 4) 2016 (gB o0 4), kI G (q0 5) 300 (gA o0 5), kI G (q0 6) 400 (gA o0 6), kJ G (q0 28) 10 (gB o0 28), kI G (q0 31) 969 (gA o0 31), kI G (q0 32) 969 (gA o0 32), kI G (q0 33) 969 (gA o0 33), kI G (q0 38) 5 (gA o0 38), kI G (q0 39) 5120 (gA o0 39), kI G (q0 41) 5 (gA o0 41), kZ G (q0 42) 1024 (gA o0 42), kI G (q0 43) 8192 (gA o0 43), kI G (q0 44) 8192 (gA o0 44)] := hD
      have hl := lv_sub (l' := [(0, .ref h0), (1, .int x1), (2, .int x2), (3, .int x3), (4, .int x4)]) hl [1, 2, 3, 4, 5] rfl
      have hP : va_P G.1 CL (cw_Md G h0 q0 (sA o0 1 (upd (gA o0 1) (((20 : Int32) + x1).toNatClampNeg) (y39 + (x4 - y37))))) H := hP
      have hD : va_D A (cw_Md G h0 q0 (sA o0 1 (upd (gA o0 1) (((20 : Int32) + x1).toNatClampNeg) (y39 + (x4 - y37))))) := hD
      exact t_Md_lead_305 Q C x1 x2 x3 x4 (sA o0 1 (upd (gA o0 1) (((20 : Int32) + x1).toNatClampNeg) (y39 + (x4 - y37)))) ls _ locs hl hP hD hS h
    · have h := h.2 c41
      refine lv_iload hx hb d_Md_lead_295 (lv_at hl 6 rfl) ?_
      refine lv_ineg hx hb d_Md_lead_297 ?_
      refine lv_goto (tgt := 303) hx hb d_Md_lead_298 (by decide) ?_
      refine lv_iadd hx hb d_Md_lead_303 ?_
      have g43 := h.1
      have h := h.2
      refine xa_iast hx hb hK hP hD hS 1 0 rfl rfl g43 (k := ((20 : Int32) + x1).toNatClampNeg) rfl d_Md_lead_304 (fun H locs hP hD hS => ?_)
      have hP : va_P G.1 CL [(h0, .inr (11, [.int (gI o0 0), .ref (q0 1), .ref (q0 2), .ref (q0 3), .ref (q0 4), .ref (q0 5), .ref (q0 6), .int (gI o0 7), .int (gI o0 8), .int (gI o0 9), .int (gI o0 10), .int (gI o0 11), .int (gI o0 12), .int (gI o0 13), .int (gI o0 14), .long (gL o0 15), .int (gI o0 16), .int (gI o0 17), .int (gI o0 18), .int (gI o0 19), .int (gI o0 20), .int (gI o0 21), .int (gI o0 22), .int (gI o0 23), .int (gI o0 24), .int (gI o0 25), .int (gI o0 26), .int (gI o0 27), .ref (q0 28), .long (gL o0 29), .int (gI o0 30), .ref (q0 31), .ref (q0 32), .ref (q0 33), .int (gI o0 34), .int (gI o0 35), .int (gI o0 36), .int (gI o0 37), .ref (q0 38), .ref (q0 39), .int (gI o0 40), .ref (q0 41), .ref (q0 42), .ref (q0 43), .ref (q0 44)])), kI G (q0 1) 6100 (upd (gA o0 1) (((20 : Int32) + x1).toNatClampNeg) (y39 + (-x5))), kI G (q0 2) 6100 (gA o0 2), kJ G (q0 3) 2016 (gB o0 3), kJ G (q0 4) 2016 (gB o0 4), kI G (q0 5) 300 (gA o0 5), kI G (q0 6) 400 (gA o0 6), kJ G (q0 28) 10 (gB o0 28), kI G (q0 31) 969 (gA o0 31), kI G (q0 32) 969 (gA o0 32), kI G (q0 33) 969 (gA o0 33), kI G (q0 38) 5 (gA o0 38), kI G (q0 39) 5120 (gA o0 39), kI G (q0 41) 5 (gA o0 41), kZ G (q0 42) 1024 (gA o0 42), kI G (q0 43) 8192 (gA o0 43), kI G (q0 44) 8192 (gA o0 44)] H := hP
      have hD : va_D A [(h0, .inr (11, [.int (gI o0 0), .ref (q0 1), .ref (q0 2), .ref (q0 3), .ref (q0 4), .ref (q0 5), .ref (q0 6), .int (gI o0 7), .int (gI o0 8), .int (gI o0 9), .int (gI o0 10), .int (gI o0 11), .int (gI o0 12), .int (gI o0 13), .int (gI o0 14), .long (gL o0 15), .int (gI o0 16), .int (gI o0 17), .int (gI o0 18), .int (gI o0 19), .int (gI o0 20), .int (gI o0 21), .int (gI o0 22), .int (gI o0 23), .int (gI o0 24), .int (gI o0 25), .int (gI o0 26), .int (gI o0 27), .ref (q0 28), .long (gL o0 29), .int (gI o0 30), .ref (q0 31), .ref (q0 32), .ref (q0 33), .int (gI o0 34), .int (gI o0 35), .int (gI o0 36), .int (gI o0 37), .ref (q0 38), .ref (q0 39), .int (gI o0 40), .ref (q0 41), .ref (q0 42), .ref (q0 43), .ref (q0 44)])), kI G (q0 1) 6100 (upd (gA o0 1) (((20 : Int32) + x1).toNatClampNeg) (y39 + (-x5))), kI G (q0 2) 6100 (gA o0 2), kJ G (q0 3) 2016 (gB o0 3), kJ G (q0 4) 2016 (gB o0 4), kI G (q0 5) 300 (gA o0 5), kI G (q0 6) 400 (gA o0 6), kJ G (q0 28) 10 (gB o0 28), kI G (q0 31) 969 (gA o0 31), kI G (q0 32) 969 (gA o0 32), kI G (q0 33) 969 (gA o0 33), kI G (q0 38) 5 (gA o0 38), kI G (q0 39) 5120 (gA o0 39), kI G (q0 41) 5 (gA o0 41), kZ G (q0 42) 1024 (gA o0 42), kI G (q0 43) 8192 (gA o0 43), kI G (q0 44) 8192 (gA o0 44)] := hD
      have hl := lv_sub (l' := [(0, .ref h0), (1, .int x1), (2, .int x2), (3, .int x3), (4, .int x4)]) hl [1, 2, 3, 4, 5] rfl
      have hP : va_P G.1 CL (cw_Md G h0 q0 (sA o0 1 (upd (gA o0 1) (((20 : Int32) + x1).toNatClampNeg) (y39 + (-x5))))) H := hP
      have hD : va_D A (cw_Md G h0 q0 (sA o0 1 (upd (gA o0 1) (((20 : Int32) + x1).toNatClampNeg) (y39 + (-x5))))) := hD
      exact t_Md_lead_305 Q C x1 x2 x3 x4 (sA o0 1 (upd (gA o0 1) (((20 : Int32) + x1).toNatClampNeg) (y39 + (-x5)))) ls _ locs hl hP hD hS h
  · have h := h.2 c40
    refine lv_iload hx hb d_Md_lead_282 (lv_at hl 6 rfl) ?_
    refine lv_goto (tgt := 303) hx hb d_Md_lead_284 (by decide) ?_
    refine lv_iadd hx hb d_Md_lead_303 ?_
    have g44 := h.1
    have h := h.2
    refine xa_iast hx hb hK hP hD hS 1 0 rfl rfl g44 (k := ((20 : Int32) + x1).toNatClampNeg) rfl d_Md_lead_304 (fun H locs hP hD hS => ?_)
    have hP : va_P G.1 CL [(h0, .inr (11, [.int (gI o0 0), .ref (q0 1), .ref (q0 2), .ref (q0 3), .ref (q0 4), .ref (q0 5), .ref (q0 6), .int (gI o0 7), .int (gI o0 8), .int (gI o0 9), .int (gI o0 10), .int (gI o0 11), .int (gI o0 12), .int (gI o0 13), .int (gI o0 14), .long (gL o0 15), .int (gI o0 16), .int (gI o0 17), .int (gI o0 18), .int (gI o0 19), .int (gI o0 20), .int (gI o0 21), .int (gI o0 22), .int (gI o0 23), .int (gI o0 24), .int (gI o0 25), .int (gI o0 26), .int (gI o0 27), .ref (q0 28), .long (gL o0 29), .int (gI o0 30), .ref (q0 31), .ref (q0 32), .ref (q0 33), .int (gI o0 34), .int (gI o0 35), .int (gI o0 36), .int (gI o0 37), .ref (q0 38), .ref (q0 39), .int (gI o0 40), .ref (q0 41), .ref (q0 42), .ref (q0 43), .ref (q0 44)])), kI G (q0 1) 6100 (upd (gA o0 1) (((20 : Int32) + x1).toNatClampNeg) (y39 + x5)), kI G (q0 2) 6100 (gA o0 2), kJ G (q0 3) 2016 (gB o0 3), kJ G (q0 4) 2016 (gB o0 4), kI G (q0 5) 300 (gA o0 5), kI G (q0 6) 400 (gA o0 6), kJ G (q0 28) 10 (gB o0 28), kI G (q0 31) 969 (gA o0 31), kI G (q0 32) 969 (gA o0 32), kI G (q0 33) 969 (gA o0 33), kI G (q0 38) 5 (gA o0 38), kI G (q0 39) 5120 (gA o0 39), kI G (q0 41) 5 (gA o0 41), kZ G (q0 42) 1024 (gA o0 42), kI G (q0 43) 8192 (gA o0 43), kI G (q0 44) 8192 (gA o0 44)] H := hP
    have hD : va_D A [(h0, .inr (11, [.int (gI o0 0), .ref (q0 1), .ref (q0 2), .ref (q0 3), .ref (q0 4), .ref (q0 5), .ref (q0 6), .int (gI o0 7), .int (gI o0 8), .int (gI o0 9), .int (gI o0 10), .int (gI o0 11), .int (gI o0 12), .int (gI o0 13), .int (gI o0 14), .long (gL o0 15), .int (gI o0 16), .int (gI o0 17), .int (gI o0 18), .int (gI o0 19), .int (gI o0 20), .int (gI o0 21), .int (gI o0 22), .int (gI o0 23), .int (gI o0 24), .int (gI o0 25), .int (gI o0 26), .int (gI o0 27), .ref (q0 28), .long (gL o0 29), .int (gI o0 30), .ref (q0 31), .ref (q0 32), .ref (q0 33), .int (gI o0 34), .int (gI o0 35), .int (gI o0 36), .int (gI o0 37), .ref (q0 38), .ref (q0 39), .int (gI o0 40), .ref (q0 41), .ref (q0 42), .ref (q0 43), .ref (q0 44)])), kI G (q0 1) 6100 (upd (gA o0 1) (((20 : Int32) + x1).toNatClampNeg) (y39 + x5)), kI G (q0 2) 6100 (gA o0 2), kJ G (q0 3) 2016 (gB o0 3), kJ G (q0 4) 2016 (gB o0 4), kI G (q0 5) 300 (gA o0 5), kI G (q0 6) 400 (gA o0 6), kJ G (q0 28) 10 (gB o0 28), kI G (q0 31) 969 (gA o0 31), kI G (q0 32) 969 (gA o0 32), kI G (q0 33) 969 (gA o0 33), kI G (q0 38) 5 (gA o0 38), kI G (q0 39) 5120 (gA o0 39), kI G (q0 41) 5 (gA o0 41), kZ G (q0 42) 1024 (gA o0 42), kI G (q0 43) 8192 (gA o0 43), kI G (q0 44) 8192 (gA o0 44)] := hD
    have hl := lv_sub (l' := [(0, .ref h0), (1, .int x1), (2, .int x2), (3, .int x3), (4, .int x4)]) hl [1, 2, 3, 4, 5] rfl
    have hP : va_P G.1 CL (cw_Md G h0 q0 (sA o0 1 (upd (gA o0 1) (((20 : Int32) + x1).toNatClampNeg) (y39 + x5)))) H := hP
    have hD : va_D A (cw_Md G h0 q0 (sA o0 1 (upd (gA o0 1) (((20 : Int32) + x1).toNatClampNeg) (y39 + x5)))) := hD
    exact t_Md_lead_305 Q C x1 x2 x3 x4 (sA o0 1 (upd (gA o0 1) (((20 : Int32) + x1).toNatClampNeg) (y39 + x5))) ls _ locs hl hP hD hS h
set_option maxHeartbeats 4000000 in
set_option maxRecDepth 100000 in
theorem t_Md_lead_237 {p : Program} {l : Launch} {e : Env} {s : State} {m : MethodId} {args : Array Value} {below : List Frame} {meth : Method} {c : Code} {A : Nat → Prop} {G : Gl} {h0 : Nat} {q0 : Nat → Nat} (Q : Ob → Prop) (C : Cx p s m args meth c R_Md b_Md_lead 9 none G A) :
    ∀ (x1 : Int32) (x2 : Int32) (x3 : Int32) (x4 : Int32) (o0 : Ob) (ls : Array Slot) (H : Heap) (locs : List Loc), lv_has ls 9 [(0, .ref h0), (1, .int x1), (2, .int x2), (3, .int x3), (4, .int x4)] → va_P G.1 CL (cw_Md G h0 q0 o0) H → va_D A (cw_Md G h0 q0 o0) → va_S A s.heap H locs → f_Md_lead_237 Q x1 x2 x3 x4 o0 → W p l e rm_Md_lead s m args below meth c H locs 0 0 (MQ below (va_Qv (fun (u : Ob) => Q u) (fun (u : Ob) t => BW G A (cw_Md G h0 q0 u) t) A) args s 0 0 A) (F0 m 237 ls []) := by
  obtain ⟨hx, hb, hml, hown, hr, hts, hK, hA, hlocks, hE⟩ := id C
  intro x1 x2 x3 x4 o0 ls H locs hl hP hD hS h
  have hP : va_P G.1 CL [(h0, .inr (11, [.int (gI o0 0), .ref (q0 1), .ref (q0 2), .ref (q0 3), .ref (q0 4), .ref (q0 5), .ref (q0 6), .int (gI o0 7), .int (gI o0 8), .int (gI o0 9), .int (gI o0 10), .int (gI o0 11), .int (gI o0 12), .int (gI o0 13), .int (gI o0 14), .long (gL o0 15), .int (gI o0 16), .int (gI o0 17), .int (gI o0 18), .int (gI o0 19), .int (gI o0 20), .int (gI o0 21), .int (gI o0 22), .int (gI o0 23), .int (gI o0 24), .int (gI o0 25), .int (gI o0 26), .int (gI o0 27), .ref (q0 28), .long (gL o0 29), .int (gI o0 30), .ref (q0 31), .ref (q0 32), .ref (q0 33), .int (gI o0 34), .int (gI o0 35), .int (gI o0 36), .int (gI o0 37), .ref (q0 38), .ref (q0 39), .int (gI o0 40), .ref (q0 41), .ref (q0 42), .ref (q0 43), .ref (q0 44)])), kI G (q0 1) 6100 (gA o0 1), kI G (q0 2) 6100 (gA o0 2), kJ G (q0 3) 2016 (gB o0 3), kJ G (q0 4) 2016 (gB o0 4), kI G (q0 5) 300 (gA o0 5), kI G (q0 6) 400 (gA o0 6), kJ G (q0 28) 10 (gB o0 28), kI G (q0 31) 969 (gA o0 31), kI G (q0 32) 969 (gA o0 32), kI G (q0 33) 969 (gA o0 33), kI G (q0 38) 5 (gA o0 38), kI G (q0 39) 5120 (gA o0 39), kI G (q0 41) 5 (gA o0 41), kZ G (q0 42) 1024 (gA o0 42), kI G (q0 43) 8192 (gA o0 43), kI G (q0 44) 8192 (gA o0 44)] H := hP
  have hD : va_D A [(h0, .inr (11, [.int (gI o0 0), .ref (q0 1), .ref (q0 2), .ref (q0 3), .ref (q0 4), .ref (q0 5), .ref (q0 6), .int (gI o0 7), .int (gI o0 8), .int (gI o0 9), .int (gI o0 10), .int (gI o0 11), .int (gI o0 12), .int (gI o0 13), .int (gI o0 14), .long (gL o0 15), .int (gI o0 16), .int (gI o0 17), .int (gI o0 18), .int (gI o0 19), .int (gI o0 20), .int (gI o0 21), .int (gI o0 22), .int (gI o0 23), .int (gI o0 24), .int (gI o0 25), .int (gI o0 26), .int (gI o0 27), .ref (q0 28), .long (gL o0 29), .int (gI o0 30), .ref (q0 31), .ref (q0 32), .ref (q0 33), .int (gI o0 34), .int (gI o0 35), .int (gI o0 36), .int (gI o0 37), .ref (q0 38), .ref (q0 39), .int (gI o0 40), .ref (q0 41), .ref (q0 42), .ref (q0 43), .ref (q0 44)])), kI G (q0 1) 6100 (gA o0 1), kI G (q0 2) 6100 (gA o0 2), kJ G (q0 3) 2016 (gB o0 3), kJ G (q0 4) 2016 (gB o0 4), kI G (q0 5) 300 (gA o0 5), kI G (q0 6) 400 (gA o0 6), kJ G (q0 28) 10 (gB o0 28), kI G (q0 31) 969 (gA o0 31), kI G (q0 32) 969 (gA o0 32), kI G (q0 33) 969 (gA o0 33), kI G (q0 38) 5 (gA o0 38), kI G (q0 39) 5120 (gA o0 39), kI G (q0 41) 5 (gA o0 41), kZ G (q0 42) 1024 (gA o0 42), kI G (q0 43) 8192 (gA o0 43), kI G (q0 44) 8192 (gA o0 44)] := hD
  unfold f_Md_lead_237 at h
  refine lv_iload_n hx hb d_Md_lead_237 rfl (lv_at hl 3 rfl) ?_
  refine lv_if_eq (tgt := 248) hx hb d_Md_lead_238 (by decide) (fun c45 => ?_) (fun c45 => ?_)
  · have h := h.1 c45
    refine lv_iconst (v := (1 : Int32)) hx hb d_Md_lead_248 (by decide) ?_
    refine lv_istore (lv' := [(5, .int (1 : Int32)), (0, .ref h0), (1, .int x1), (2, .int x2), (3, .int x3), (4, .int x4)]) hx hb d_Md_lead_249 hl (by decide) rfl (fun ls hl => ?_)
    have hl := lv_sub (l' := [(0, .ref h0), (1, .int x1), (2, .int x2), (3, .int x3), (4, .int x4), (5, .int (1 : Int32))]) hl [1, 2, 3, 4, 5, 0] rfl
    have hP : va_P G.1 CL (cw_Md G h0 q0 o0) H := hP
    have hD : va_D A (cw_Md G h0 q0 o0) := hD
    exact t_Md_lead_251 Q C x1 x2 x3 x4 (1 : Int32) o0 ls _ locs hl hP hD hS h
  · have h := h.2 c45
    refine lv_aload_n hx hb d_Md_lead_241 rfl (lv_at hl 0 rfl) ?_
    refine va_get (D := G.1) (ci := 11) (v := .int (gI o0 20)) (C := R_Md) (T := T_Md) (N := 45) hx hb hts i_Md hown hK hP 0 rfl rfl 20 (by decide) (hts _ wf_Md_181) (fun _ h9 => h9) rfl d_Md_lead_242 ?_
    refine lv_goto (tgt := 249) hx hb d_Md_lead_245 (by decide) ?_
    refine lv_istore (lv' := [(5, .int (gI o0 20)), (0, .ref h0), (1, .int x1), (2, .int x2), (3, .int x3), (4, .int x4)]) hx hb d_Md_lead_249 hl (by decide) rfl (fun ls hl => ?_)
    have hl := lv_sub (l' := [(0, .ref h0), (1, .int x1), (2, .int x2), (3, .int x3), (4, .int x4), (5, .int (gI o0 20))]) hl [1, 2, 3, 4, 5, 0] rfl
    have hP : va_P G.1 CL (cw_Md G h0 q0 o0) H := hP
    have hD : va_D A (cw_Md G h0 q0 o0) := hD
    exact t_Md_lead_251 Q C x1 x2 x3 x4 (gI o0 20) o0 ls _ locs hl hP hD hS h
set_option maxHeartbeats 4000000 in
set_option maxRecDepth 100000 in
theorem t_Md_lead_209 {p : Program} {l : Launch} {e : Env} {s : State} {m : MethodId} {args : Array Value} {below : List Frame} {meth : Method} {c : Code} {A : Nat → Prop} {G : Gl} {h0 : Nat} {q0 : Nat → Nat} (Q : Ob → Prop) (C : Cx p s m args meth c R_Md b_Md_lead 9 none G A) :
    ∀ (x1 : Int32) (x2 : Int32) (x3 : Int32) (o0 : Ob) (ls : Array Slot) (H : Heap) (locs : List Loc), lv_has ls 9 [(0, .ref h0), (1, .int x1), (2, .int x2), (3, .int x3)] → va_P G.1 CL (cw_Md G h0 q0 o0) H → va_D A (cw_Md G h0 q0 o0) → va_S A s.heap H locs → f_Md_lead_209 Q x1 x2 x3 o0 → W p l e rm_Md_lead s m args below meth c H locs 0 0 (MQ below (va_Qv (fun (u : Ob) => Q u) (fun (u : Ob) t => BW G A (cw_Md G h0 q0 u) t) A) args s 0 0 A) (F0 m 209 ls []) := by
  obtain ⟨hx, hb, hml, hown, hr, hts, hK, hA, hlocks, hE⟩ := id C
  intro x1 x2 x3 o0 ls H locs hl hP hD hS h
  have hP : va_P G.1 CL [(h0, .inr (11, [.int (gI o0 0), .ref (q0 1), .ref (q0 2), .ref (q0 3), .ref (q0 4), .ref (q0 5), .ref (q0 6), .int (gI o0 7), .int (gI o0 8), .int (gI o0 9), .int (gI o0 10), .int (gI o0 11), .int (gI o0 12), .int (gI o0 13), .int (gI o0 14), .long (gL o0 15), .int (gI o0 16), .int (gI o0 17), .int (gI o0 18), .int (gI o0 19), .int (gI o0 20), .int (gI o0 21), .int (gI o0 22), .int (gI o0 23), .int (gI o0 24), .int (gI o0 25), .int (gI o0 26), .int (gI o0 27), .ref (q0 28), .long (gL o0 29), .int (gI o0 30), .ref (q0 31), .ref (q0 32), .ref (q0 33), .int (gI o0 34), .int (gI o0 35), .int (gI o0 36), .int (gI o0 37), .ref (q0 38), .ref (q0 39), .int (gI o0 40), .ref (q0 41), .ref (q0 42), .ref (q0 43), .ref (q0 44)])), kI G (q0 1) 6100 (gA o0 1), kI G (q0 2) 6100 (gA o0 2), kJ G (q0 3) 2016 (gB o0 3), kJ G (q0 4) 2016 (gB o0 4), kI G (q0 5) 300 (gA o0 5), kI G (q0 6) 400 (gA o0 6), kJ G (q0 28) 10 (gB o0 28), kI G (q0 31) 969 (gA o0 31), kI G (q0 32) 969 (gA o0 32), kI G (q0 33) 969 (gA o0 33), kI G (q0 38) 5 (gA o0 38), kI G (q0 39) 5120 (gA o0 39), kI G (q0 41) 5 (gA o0 41), kZ G (q0 42) 1024 (gA o0 42), kI G (q0 43) 8192 (gA o0 43), kI G (q0 44) 8192 (gA o0 44)] H := hP
  have hD : va_D A [(h0, .inr (11, [.int (gI o0 0), .ref (q0 1), .ref (q0 2), .ref (q0 3), .ref (q0 4), .ref (q0 5), .ref (q0 6), .int (gI o0 7), .int (gI o0 8), .int (gI o0 9), .int (gI o0 10), .int (gI o0 11), .int (gI o0 12), .int (gI o0 13), .int (gI o0 14), .long (gL o0 15), .int (gI o0 16), .int (gI o0 17), .int (gI o0 18), .int (gI o0 19), .int (gI o0 20), .int (gI o0 21), .int (gI o0 22), .int (gI o0 23), .int (gI o0 24), .int (gI o0 25), .int (gI o0 26), .int (gI o0 27), .ref (q0 28), .long (gL o0 29), .int (gI o0 30), .ref (q0 31), .ref (q0 32), .ref (q0 33), .int (gI o0 34), .int (gI o0 35), .int (gI o0 36), .int (gI o0 37), .ref (q0 38), .ref (q0 39), .int (gI o0 40), .ref (q0 41), .ref (q0 42), .ref (q0 43), .ref (q0 44)])), kI G (q0 1) 6100 (gA o0 1), kI G (q0 2) 6100 (gA o0 2), kJ G (q0 3) 2016 (gB o0 3), kJ G (q0 4) 2016 (gB o0 4), kI G (q0 5) 300 (gA o0 5), kI G (q0 6) 400 (gA o0 6), kJ G (q0 28) 10 (gB o0 28), kI G (q0 31) 969 (gA o0 31), kI G (q0 32) 969 (gA o0 32), kI G (q0 33) 969 (gA o0 33), kI G (q0 38) 5 (gA o0 38), kI G (q0 39) 5120 (gA o0 39), kI G (q0 41) 5 (gA o0 41), kZ G (q0 42) 1024 (gA o0 42), kI G (q0 43) 8192 (gA o0 43), kI G (q0 44) 8192 (gA o0 44)] := hD
  unfold f_Md_lead_209 at h
  refine lv_iload_n hx hb d_Md_lead_209 rfl (lv_at hl 3 rfl) ?_
  refine lv_if_eq (tgt := 225) hx hb d_Md_lead_210 (by decide) (fun c46 => ?_) (fun c46 => ?_)
  · have h := h.1 c46
    refine lv_aload_n hx hb d_Md_lead_225 rfl (lv_at hl 0 rfl) ?_
    refine va_get (D := G.1) (ci := 11) (v := .ref (q0 1)) (C := R_Md) (T := T_Md) (N := 45) hx hb hts i_Md hown hK hP 0 rfl rfl 1 (by decide) (hts _ wf_Md_7) (fun _ h9 => h9) rfl d_Md_lead_226 ?_
    refine lv_sipush (v := (5605 : Int32)) hx hb d_Md_lead_229 (by decide) ?_
    refine lv_iload_n hx hb d_Md_lead_232 rfl (lv_at hl 1 rfl) ?_
    refine lv_iadd hx hb d_Md_lead_233 ?_
    have g47 := h.1
    have h := h.2
    refine xa_iald hx hb hK hP 1 0 rfl rfl g47 (k := ((5605 : Int32) + x1).toNatClampNeg) rfl d_Md_lead_234 ?_
    refine lv_topi (fun y48 ey48 => ?_)
    have h := h y48 ey48
    refine lv_istore (lv' := [(4, .int y48), (0, .ref h0), (1, .int x1), (2, .int x2), (3, .int x3)]) hx hb d_Md_lead_235 hl (by decide) rfl (fun ls hl => ?_)
    have hl := lv_sub (l' := [(0, .ref h0), (1, .int x1), (2, .int x2), (3, .int x3), (4, .int y48)]) hl [1, 2, 3, 4, 0] rfl
    have hP : va_P G.1 CL (cw_Md G h0 q0 o0) H := hP
    have hD : va_D A (cw_Md G h0 q0 o0) := hD
    exact t_Md_lead_237 Q C x1 x2 x3 y48 o0 ls _ locs hl hP hD hS h
  · have h := h.2 c46
    refine lv_aload_n hx hb d_Md_lead_213 rfl (lv_at hl 0 rfl) ?_
    refine va_get (D := G.1) (ci := 11) (v := .int (gI o0 18)) (C := R_Md) (T := T_Md) (N := 45) hx hb hts i_Md hown hK hP 0 rfl rfl 18 (by decide) (hts _ wf_Md_175) (fun _ h9 => h9) rfl d_Md_lead_214 ?_
    refine lv_aload_n hx hb d_Md_lead_217 rfl (lv_at hl 0 rfl) ?_
    refine va_get (D := G.1) (ci := 11) (v := .int (gI o0 19)) (C := R_Md) (T := T_Md) (N := 45) hx hb hts i_Md hown hK hP 0 rfl rfl 19 (by decide) (hts _ wf_Md_178) (fun _ h9 => h9) rfl d_Md_lead_218 ?_
    have g49 := h.1
    have h := h.2
    refine lv_idiv hx hb d_Md_lead_221 g49 ?_
    refine lv_goto (tgt := 235) hx hb d_Md_lead_222 (by decide) ?_
    refine lv_istore (lv' := [(4, .int ((gI o0 18) / (gI o0 19))), (0, .ref h0), (1, .int x1), (2, .int x2), (3, .int x3)]) hx hb d_Md_lead_235 hl (by decide) rfl (fun ls hl => ?_)
    have hl := lv_sub (l' := [(0, .ref h0), (1, .int x1), (2, .int x2), (3, .int x3), (4, .int ((gI o0 18) / (gI o0 19)))]) hl [1, 2, 3, 4, 0] rfl
    have hP : va_P G.1 CL (cw_Md G h0 q0 o0) H := hP
    have hD : va_D A (cw_Md G h0 q0 o0) := hD
    exact t_Md_lead_237 Q C x1 x2 x3 ((gI o0 18) / (gI o0 19)) o0 ls _ locs hl hP hD hS h
set_option maxHeartbeats 4000000 in
set_option maxRecDepth 100000 in
theorem t_Md_lead_7 {p : Program} {l : Launch} {e : Env} {s : State} {m : MethodId} {args : Array Value} {below : List Frame} {meth : Method} {c : Code} {A : Nat → Prop} {G : Gl} {h0 : Nat} {q0 : Nat → Nat} (Q : Ob → Prop) (C : Cx p s m args meth c R_Md b_Md_lead 9 none G A) :
    ∀ (n : Nat) (x1 : Int32) (x2 : Int32) (x3 : Int32) (o0 : Ob) (ls : Array Slot) (H : Heap) (locs : List Loc), lv_has ls 9 [(0, .ref h0), (1, .int x1), (2, .int x2), (3, .int x3)] → va_P G.1 CL (cw_Md G h0 q0 o0) H → va_D A (cw_Md G h0 q0 o0) → va_S A s.heap H locs → f_Md_lead_7 Q n x1 x2 x3 o0 → W p l e rm_Md_lead s m args below meth c H locs 0 0 (MQ below (va_Qv (fun (u : Ob) => Q u) (fun (u : Ob) t => BW G A (cw_Md G h0 q0 u) t) A) args s 0 0 A) (F0 m 7 ls []) := by
  obtain ⟨hx, hb, hml, hown, hr, hts, hK, hA, hlocks, hE⟩ := id C
  intro n
  induction n with
  | zero => intro x1 x2 x3 o0 ls H locs hl hP hD hS h; exact absurd h id
  | succ n ih =>
    intro x1 x2 x3 o0 ls H locs hl hP hD hS h
    have hP : va_P G.1 CL [(h0, .inr (11, [.int (gI o0 0), .ref (q0 1), .ref (q0 2), .ref (q0 3), .ref (q0 4), .ref (q0 5), .ref (q0 6), .int (gI o0 7), .int (gI o0 8), .int (gI o0 9), .int (gI o0 10), .int (gI o0 11), .int (gI o0 12), .int (gI o0 13), .int (gI o0 14), .long (gL o0 15), .int (gI o0 16), .int (gI o0 17), .int (gI o0 18), .int (gI o0 19), .int (gI o0 20), .int (gI o0 21), .int (gI o0 22), .int (gI o0 23), .int (gI o0 24), .int (gI o0 25), .int (gI o0 26), .int (gI o0 27), .ref (q0 28), .long (gL o0 29), .int (gI o0 30), .ref (q0 31), .ref (q0 32), .ref (q0 33), .int (gI o0 34), .int (gI o0 35), .int (gI o0 36), .int (gI o0 37), .ref (q0 38), .ref (q0 39), .int (gI o0 40), .ref (q0 41), .ref (q0 42), .ref (q0 43), .ref (q0 44)])), kI G (q0 1) 6100 (gA o0 1), kI G (q0 2) 6100 (gA o0 2), kJ G (q0 3) 2016 (gB o0 3), kJ G (q0 4) 2016 (gB o0 4), kI G (q0 5) 300 (gA o0 5), kI G (q0 6) 400 (gA o0 6), kJ G (q0 28) 10 (gB o0 28), kI G (q0 31) 969 (gA o0 31), kI G (q0 32) 969 (gA o0 32), kI G (q0 33) 969 (gA o0 33), kI G (q0 38) 5 (gA o0 38), kI G (q0 39) 5120 (gA o0 39), kI G (q0 41) 5 (gA o0 41), kZ G (q0 42) 1024 (gA o0 42), kI G (q0 43) 8192 (gA o0 43), kI G (q0 44) 8192 (gA o0 44)] H := hP
    have hD : va_D A [(h0, .inr (11, [.int (gI o0 0), .ref (q0 1), .ref (q0 2), .ref (q0 3), .ref (q0 4), .ref (q0 5), .ref (q0 6), .int (gI o0 7), .int (gI o0 8), .int (gI o0 9), .int (gI o0 10), .int (gI o0 11), .int (gI o0 12), .int (gI o0 13), .int (gI o0 14), .long (gL o0 15), .int (gI o0 16), .int (gI o0 17), .int (gI o0 18), .int (gI o0 19), .int (gI o0 20), .int (gI o0 21), .int (gI o0 22), .int (gI o0 23), .int (gI o0 24), .int (gI o0 25), .int (gI o0 26), .int (gI o0 27), .ref (q0 28), .long (gL o0 29), .int (gI o0 30), .ref (q0 31), .ref (q0 32), .ref (q0 33), .int (gI o0 34), .int (gI o0 35), .int (gI o0 36), .int (gI o0 37), .ref (q0 38), .ref (q0 39), .int (gI o0 40), .ref (q0 41), .ref (q0 42), .ref (q0 43), .ref (q0 44)])), kI G (q0 1) 6100 (gA o0 1), kI G (q0 2) 6100 (gA o0 2), kJ G (q0 3) 2016 (gB o0 3), kJ G (q0 4) 2016 (gB o0 4), kI G (q0 5) 300 (gA o0 5), kI G (q0 6) 400 (gA o0 6), kJ G (q0 28) 10 (gB o0 28), kI G (q0 31) 969 (gA o0 31), kI G (q0 32) 969 (gA o0 32), kI G (q0 33) 969 (gA o0 33), kI G (q0 38) 5 (gA o0 38), kI G (q0 39) 5120 (gA o0 39), kI G (q0 41) 5 (gA o0 41), kZ G (q0 42) 1024 (gA o0 42), kI G (q0 43) 8192 (gA o0 43), kI G (q0 44) 8192 (gA o0 44)] := hD
    unfold f_Md_lead_7 at h
    refine lv_iload_n hx hb d_Md_lead_7 rfl (lv_at hl 3 rfl) ?_
    refine lv_aload_n hx hb d_Md_lead_8 rfl (lv_at hl 0 rfl) ?_
    refine va_get (D := G.1) (ci := 11) (v := .ref (q0 1)) (C := R_Md) (T := T_Md) (N := 45) hx hb hts i_Md hown hK hP 0 rfl rfl 1 (by decide) (hts _ wf_Md_7) (fun _ h9 => h9) rfl d_Md_lead_9 ?_
    refine lv_iconst (v := (3 : Int32)) hx hb d_Md_lead_12 (by decide) ?_
    refine xa_iald hx hb hK hP 1 0 rfl rfl (vp_lit rfl) (k := 3) rfl d_Md_lead_13 ?_
    refine lv_icmp_ge (tgt := 196) hx hb d_Md_lead_14 (by decide) (fun c50 => ?_) (fun c50 => ?_)
    · have h := h.1 c50
      refine lv_aload_n hx hb d_Md_lead_196 rfl (lv_at hl 0 rfl) ?_
      refine va_get (D := G.1) (ci := 11) (v := .int (gI o0 17)) (C := R_Md) (T := T_Md) (N := 45) hx hb hts i_Md hown hK hP 0 rfl rfl 17 (by decide) (hts _ wf_Md_172) (fun _ h9 => h9) rfl d_Md_lead_197 ?_
      refine lv_if_lt (tgt := 207) hx hb d_Md_lead_200 (by decide) (fun c51 => ?_) (fun c51 => ?_)
      · have h := h.1 c51
        refine lv_iconst (v := (0 : Int32)) hx hb d_Md_lead_207 (by decide) ?_
        refine lv_istore_n (lv' := [(3, .int (0 : Int32)), (0, .ref h0), (1, .int x1), (2, .int x2)]) hx hb d_Md_lead_208 rfl hl (by decide) rfl (fun ls hl => ?_)
        have hl := lv_sub (l' := [(0, .ref h0), (1, .int x1), (2, .int x2), (3, .int (0 : Int32))]) hl [1, 2, 3, 0] rfl
        have hP : va_P G.1 CL (cw_Md G h0 q0 o0) H := hP
        have hD : va_D A (cw_Md G h0 q0 o0) := hD
        exact t_Md_lead_209 Q C x1 x2 (0 : Int32) o0 ls _ locs hl hP hD hS h
      · have h := h.2 c51
        refine lv_iconst (v := (1 : Int32)) hx hb d_Md_lead_203 (by decide) ?_
        refine lv_goto (tgt := 208) hx hb d_Md_lead_204 (by decide) ?_
        refine lv_istore_n (lv' := [(3, .int (1 : Int32)), (0, .ref h0), (1, .int x1), (2, .int x2)]) hx hb d_Md_lead_208 rfl hl (by decide) rfl (fun ls hl => ?_)
        have hl := lv_sub (l' := [(0, .ref h0), (1, .int x1), (2, .int x2), (3, .int (1 : Int32))]) hl [1, 2, 3, 0] rfl
        have hP : va_P G.1 CL (cw_Md G h0 q0 o0) H := hP
        have hD : va_D A (cw_Md G h0 q0 o0) := hD
        exact t_Md_lead_209 Q C x1 x2 (1 : Int32) o0 ls _ locs hl hP hD hS h
    · have h := h.2 c50
      refine lv_sipush (v := (5740 : Int32)) hx hb d_Md_lead_17 (by decide) ?_
      refine lv_bipush (v := (17 : Int32)) hx hb d_Md_lead_20 (by decide) ?_
      refine lv_aload_n hx hb d_Md_lead_22 rfl (lv_at hl 0 rfl) ?_
      refine va_get (D := G.1) (ci := 11) (v := .ref (q0 1)) (C := R_Md) (T := T_Md) (N := 45) hx hb hts i_Md hown hK hP 0 rfl rfl 1 (by decide) (hts _ wf_Md_7) (fun _ h9 => h9) rfl d_Md_lead_23 ?_
      refine lv_bipush (v := (40 : Int32)) hx hb d_Md_lead_26 (by decide) ?_
      refine lv_iconst (v := (2 : Int32)) hx hb d_Md_lead_28 (by decide) ?_
      refine lv_iload_n hx hb d_Md_lead_29 rfl (lv_at hl 3 rfl) ?_
      refine lv_imul hx hb d_Md_lead_30 ?_
      refine lv_iadd hx hb d_Md_lead_31 ?_
      have g52 := h.1
      have h := h.2
      refine xa_iald hx hb hK hP 1 0 rfl rfl g52 (k := ((40 : Int32) + ((2 : Int32) * x3)).toNatClampNeg) rfl d_Md_lead_32 ?_
      refine lv_topi (fun y53 ey53 => ?_)
      have h := h y53 ey53
      refine lv_imul hx hb d_Md_lead_33 ?_
      refine lv_iadd hx hb d_Md_lead_34 ?_
      refine lv_istore (lv' := [(4, .int ((5740 : Int32) + ((17 : Int32) * y53))), (0, .ref h0), (1, .int x1), (2, .int x2), (3, .int x3)]) hx hb d_Md_lead_35 hl (by decide) rfl (fun ls hl => ?_)
      refine lv_iconst (v := (0 : Int32)) hx hb d_Md_lead_37 (by decide) ?_
      refine lv_istore (lv' := [(5, .int (0 : Int32)), (4, .int ((5740 : Int32) + ((17 : Int32) * y53))), (0, .ref h0), (1, .int x1), (2, .int x2), (3, .int x3)]) hx hb d_Md_lead_38 hl (by decide) rfl (fun ls hl => ?_)
      have hl := lv_sub (l' := [(0, .ref h0), (1, .int x1), (2, .int x2), (3, .int x3), (4, .int ((5740 : Int32) + ((17 : Int32) * y53))), (5, .int (0 : Int32))]) hl [2, 3, 4, 5, 1, 0] rfl
      have hP : va_P G.1 CL (cw_Md G h0 q0 o0) H := hP
      have hD : va_D A (cw_Md G h0 q0 o0) := hD
      obtain ⟨w, h⟩ := h
      exact t_Md_lead_40 (f_Md_lead_7 Q n) Q C ih w x1 x2 x3 ((5740 : Int32) + ((17 : Int32) * y53)) (0 : Int32) o0 ls _ locs hl hP hD hS h
set_option maxHeartbeats 4000000 in
set_option maxRecDepth 100000 in
theorem c_Md_lead {l : Launch} {G : Gl} {h0 : Nat} {q0 : Nat → Nat} {a0 : Int32} {a1 : Int32} {o0 : Ob} {Q : Ob → Prop} (sz : Nat) (h : f_Md_lead a0 a1 o0 Q) : Met l y_Md_lead w_Md_lead rm_Md_lead (PcW G [.ref h0, .int a0, .int a1] sz (cw_Md G h0 q0 o0)) (va_Qv (fun (u : Ob) => Q u) (fun (u : Ob) t => BW G (va_A (cw_Md G h0 q0 o0) sz) (cw_Md G h0 q0 u) t) (va_A (cw_Md G h0 q0 o0) sz)) 0 0 (va_A (cw_Md G h0 q0 o0) sz) := by
  refine Met.ofW (cc := b_Md_lead) (maxL := 9) (ret := none) (by decide +kernel) rfl ?_
  intro p e s m args below meth c s₁ B hml hv
  obtain ⟨rfl, hsz, hP, hK, hD0, hE⟩ := hv
  have hx := B.exec
  have hb := B.bytes
  have hr := B.returns
  have hts0 := atoms_spec (ws := w_Md_lead) B.pre
  have hts : ∀ w ∈ gw_tbl, w.before ([.ref h0, .int a0, .int a1]).toArray s = true := fun w hw => hts0 w (List.mem_cons_of_mem _ hw)
  have hown : s.vm.findClass R_Md = some m.cls := findClass_of_methodNamed B.named
  have hlocks := B.notSynchronized
  subst hsz
  have hD := hD0.self (sz := s.heap.size)
  generalize hAe : va_A (cw_Md G h0 q0 o0) s.heap.size = A at hD hE ⊢
  have hA : ∀ q : Nat, s.heap.size ≤ q → A q := fun q h => by rw [← hAe]; exact Or.inr h
  have hS : va_S A s.heap s.heap [] := va_S.rf
  have C : Cx p s m ([.ref h0, .int a0, .int a1]).toArray meth c R_Md b_Md_lead 9 none G A := ⟨hx, hb, hml, hown, hr, hts, hK, hA, hlocks, hE⟩
  have hl := lv_entry ([.ref h0, .int a0, .int a1]) (n := 9) (Nat.le_of_ble_eq_true rfl)
  rw [lg_entry_eq]
  generalize (lg_sl ([.ref h0, .int a0, .int a1]) ++ List.replicate (9 - (lg_sl ([.ref h0, .int a0, .int a1])).length) Slot.unset).toArray = ls at hl ⊢
  have hl : lv_has ls 9 [(0, .ref h0), (1, .int a0), (2, .int a1)] := hl
  have hD : va_D A [(h0, .inr (11, [.int (gI o0 0), .ref (q0 1), .ref (q0 2), .ref (q0 3), .ref (q0 4), .ref (q0 5), .ref (q0 6), .int (gI o0 7), .int (gI o0 8), .int (gI o0 9), .int (gI o0 10), .int (gI o0 11), .int (gI o0 12), .int (gI o0 13), .int (gI o0 14), .long (gL o0 15), .int (gI o0 16), .int (gI o0 17), .int (gI o0 18), .int (gI o0 19), .int (gI o0 20), .int (gI o0 21), .int (gI o0 22), .int (gI o0 23), .int (gI o0 24), .int (gI o0 25), .int (gI o0 26), .int (gI o0 27), .ref (q0 28), .long (gL o0 29), .int (gI o0 30), .ref (q0 31), .ref (q0 32), .ref (q0 33), .int (gI o0 34), .int (gI o0 35), .int (gI o0 36), .int (gI o0 37), .ref (q0 38), .ref (q0 39), .int (gI o0 40), .ref (q0 41), .ref (q0 42), .ref (q0 43), .ref (q0 44)])), kI G (q0 1) 6100 (gA o0 1), kI G (q0 2) 6100 (gA o0 2), kJ G (q0 3) 2016 (gB o0 3), kJ G (q0 4) 2016 (gB o0 4), kI G (q0 5) 300 (gA o0 5), kI G (q0 6) 400 (gA o0 6), kJ G (q0 28) 10 (gB o0 28), kI G (q0 31) 969 (gA o0 31), kI G (q0 32) 969 (gA o0 32), kI G (q0 33) 969 (gA o0 33), kI G (q0 38) 5 (gA o0 38), kI G (q0 39) 5120 (gA o0 39), kI G (q0 41) 5 (gA o0 41), kZ G (q0 42) 1024 (gA o0 42), kI G (q0 43) 8192 (gA o0 43), kI G (q0 44) 8192 (gA o0 44)] := hD
  unfold f_Md_lead at h
  suffices key : ∀ (H : Heap) (locs : List Loc), va_P G.1 CL [(h0, .inr (11, [.int (gI o0 0), .ref (q0 1), .ref (q0 2), .ref (q0 3), .ref (q0 4), .ref (q0 5), .ref (q0 6), .int (gI o0 7), .int (gI o0 8), .int (gI o0 9), .int (gI o0 10), .int (gI o0 11), .int (gI o0 12), .int (gI o0 13), .int (gI o0 14), .long (gL o0 15), .int (gI o0 16), .int (gI o0 17), .int (gI o0 18), .int (gI o0 19), .int (gI o0 20), .int (gI o0 21), .int (gI o0 22), .int (gI o0 23), .int (gI o0 24), .int (gI o0 25), .int (gI o0 26), .int (gI o0 27), .ref (q0 28), .long (gL o0 29), .int (gI o0 30), .ref (q0 31), .ref (q0 32), .ref (q0 33), .int (gI o0 34), .int (gI o0 35), .int (gI o0 36), .int (gI o0 37), .ref (q0 38), .ref (q0 39), .int (gI o0 40), .ref (q0 41), .ref (q0 42), .ref (q0 43), .ref (q0 44)])), kI G (q0 1) 6100 (gA o0 1), kI G (q0 2) 6100 (gA o0 2), kJ G (q0 3) 2016 (gB o0 3), kJ G (q0 4) 2016 (gB o0 4), kI G (q0 5) 300 (gA o0 5), kI G (q0 6) 400 (gA o0 6), kJ G (q0 28) 10 (gB o0 28), kI G (q0 31) 969 (gA o0 31), kI G (q0 32) 969 (gA o0 32), kI G (q0 33) 969 (gA o0 33), kI G (q0 38) 5 (gA o0 38), kI G (q0 39) 5120 (gA o0 39), kI G (q0 41) 5 (gA o0 41), kZ G (q0 42) 1024 (gA o0 42), kI G (q0 43) 8192 (gA o0 43), kI G (q0 44) 8192 (gA o0 44)] H → va_S A s.heap H locs → W p l e rm_Md_lead s m ([.ref h0, .int a0, .int a1]).toArray below meth c H locs 0 0 (MQ below (va_Qv (fun (u : Ob) => Q u) (fun (u : Ob) t => BW G A (cw_Md G h0 q0 u) t) A) ([.ref h0, .int a0, .int a1]).toArray s 0 0 A) (F0 m 0 ls []) from key s.heap [] hP hS
  intro H locs hP hS
  refine lv_aload_n hx hb d_Md_lead_0 rfl (lv_at hl 0 rfl) ?_
  refine lv_iconst (v := (-1 : Int32)) hx hb d_Md_lead_1 (by decide) ?_
  refine va_put (D := G.1) (ci := 11) (v := .int (-1 : Int32)) (ty := .int) (C := R_Md) (T := T_Md) (N := 45) hx hb hts i_Md ty_Md ty_Md_ok nm_Md hown hK hP hD hS 0 rfl rfl 17 (by decide) (hts _ wf_Md_172) (fun _ h9 => h9) rfl (ty_Md_ok 17 (by decide)) rfl rfl (Nat.le_of_ble_eq_true rfl) d_Md_lead_2 (fun H locs hP hD hS => ?_)
  have hP : va_P G.1 CL [(h0, .inr (11, [.int (gI o0 0), .ref (q0 1), .ref (q0 2), .ref (q0 3), .ref (q0 4), .ref (q0 5), .ref (q0 6), .int (gI o0 7), .int (gI o0 8), .int (gI o0 9), .int (gI o0 10), .int (gI o0 11), .int (gI o0 12), .int (gI o0 13), .int (gI o0 14), .long (gL o0 15), .int (gI o0 16), .int (-1 : Int32), .int (gI o0 18), .int (gI o0 19), .int (gI o0 20), .int (gI o0 21), .int (gI o0 22), .int (gI o0 23), .int (gI o0 24), .int (gI o0 25), .int (gI o0 26), .int (gI o0 27), .ref (q0 28), .long (gL o0 29), .int (gI o0 30), .ref (q0 31), .ref (q0 32), .ref (q0 33), .int (gI o0 34), .int (gI o0 35), .int (gI o0 36), .int (gI o0 37), .ref (q0 38), .ref (q0 39), .int (gI o0 40), .ref (q0 41), .ref (q0 42), .ref (q0 43), .ref (q0 44)])), kI G (q0 1) 6100 (gA o0 1), kI G (q0 2) 6100 (gA o0 2), kJ G (q0 3) 2016 (gB o0 3), kJ G (q0 4) 2016 (gB o0 4), kI G (q0 5) 300 (gA o0 5), kI G (q0 6) 400 (gA o0 6), kJ G (q0 28) 10 (gB o0 28), kI G (q0 31) 969 (gA o0 31), kI G (q0 32) 969 (gA o0 32), kI G (q0 33) 969 (gA o0 33), kI G (q0 38) 5 (gA o0 38), kI G (q0 39) 5120 (gA o0 39), kI G (q0 41) 5 (gA o0 41), kZ G (q0 42) 1024 (gA o0 42), kI G (q0 43) 8192 (gA o0 43), kI G (q0 44) 8192 (gA o0 44)] H := hP
  have hD : va_D A [(h0, .inr (11, [.int (gI o0 0), .ref (q0 1), .ref (q0 2), .ref (q0 3), .ref (q0 4), .ref (q0 5), .ref (q0 6), .int (gI o0 7), .int (gI o0 8), .int (gI o0 9), .int (gI o0 10), .int (gI o0 11), .int (gI o0 12), .int (gI o0 13), .int (gI o0 14), .long (gL o0 15), .int (gI o0 16), .int (-1 : Int32), .int (gI o0 18), .int (gI o0 19), .int (gI o0 20), .int (gI o0 21), .int (gI o0 22), .int (gI o0 23), .int (gI o0 24), .int (gI o0 25), .int (gI o0 26), .int (gI o0 27), .ref (q0 28), .long (gL o0 29), .int (gI o0 30), .ref (q0 31), .ref (q0 32), .ref (q0 33), .int (gI o0 34), .int (gI o0 35), .int (gI o0 36), .int (gI o0 37), .ref (q0 38), .ref (q0 39), .int (gI o0 40), .ref (q0 41), .ref (q0 42), .ref (q0 43), .ref (q0 44)])), kI G (q0 1) 6100 (gA o0 1), kI G (q0 2) 6100 (gA o0 2), kJ G (q0 3) 2016 (gB o0 3), kJ G (q0 4) 2016 (gB o0 4), kI G (q0 5) 300 (gA o0 5), kI G (q0 6) 400 (gA o0 6), kJ G (q0 28) 10 (gB o0 28), kI G (q0 31) 969 (gA o0 31), kI G (q0 32) 969 (gA o0 32), kI G (q0 33) 969 (gA o0 33), kI G (q0 38) 5 (gA o0 38), kI G (q0 39) 5120 (gA o0 39), kI G (q0 41) 5 (gA o0 41), kZ G (q0 42) 1024 (gA o0 42), kI G (q0 43) 8192 (gA o0 43), kI G (q0 44) 8192 (gA o0 44)] := hD
  refine lv_iconst (v := (0 : Int32)) hx hb d_Md_lead_5 (by decide) ?_
  refine lv_istore_n (lv' := [(3, .int (0 : Int32)), (0, .ref h0), (1, .int a0), (2, .int a1)]) hx hb d_Md_lead_6 rfl hl (by decide) rfl (fun ls hl => ?_)
  have hl := lv_sub (l' := [(0, .ref h0), (1, .int a0), (2, .int a1), (3, .int (0 : Int32))]) hl [1, 2, 3, 0] rfl
  have hP : va_P G.1 CL (cw_Md G h0 q0 (sI o0 17 (-1 : Int32))) H := hP
  have hD : va_D A (cw_Md G h0 q0 (sI o0 17 (-1 : Int32))) := hD
  obtain ⟨w, h⟩ := h
  exact t_Md_lead_7 Q C w a0 a1 (0 : Int32) (sI o0 17 (-1 : Int32)) ls _ locs hl hP hD hS h
abbrev b_Md_part : ByteArray := prog_14_method_33_code
def y_Md_part : MethodName := ⟨R_Md, "part", "(JJ)J"⟩
abbrev w_Md_part : List Cond := Cond.code y_Md_part b_Md_part 7 (some .long) :: gw_tbl
theorem d_Md_part_0 : decode b_Md_part 0 = .ok (.lload_n 1, 1) := by decide +kernel
theorem d_Md_part_1 : decode b_Md_part 1 = .ok (.lload_n 3, 1) := by decide +kernel
theorem d_Md_part_2 : decode b_Md_part 2 = .ok (.ldiv, 1) := by decide +kernel
theorem d_Md_part_3 : decode b_Md_part 3 = .ok (.lstore 5, 2) := by decide +kernel
theorem d_Md_part_5 : decode b_Md_part 5 = .ok (.lload 5, 2) := by decide +kernel
theorem d_Md_part_7 : decode b_Md_part 7 = .ok (.lload_n 3, 1) := by decide +kernel
theorem d_Md_part_8 : decode b_Md_part 8 = .ok (.lmul, 1) := by decide +kernel
theorem d_Md_part_9 : decode b_Md_part 9 = .ok (.lload_n 1, 1) := by decide +kernel
theorem d_Md_part_10 : decode b_Md_part 10 = .ok (.lcmp, 1) := by decide +kernel
theorem d_Md_part_11 : decode b_Md_part 11 = .ok (.ifCond .le 9, 3) := by decide +kernel
theorem d_Md_part_14 : decode b_Md_part 14 = .ok (.lload 5, 2) := by decide +kernel
theorem d_Md_part_16 : decode b_Md_part 16 = .ok (.lconst 1, 1) := by decide +kernel
theorem d_Md_part_17 : decode b_Md_part 17 = .ok (.lsub, 1) := by decide +kernel
theorem d_Md_part_18 : decode b_Md_part 18 = .ok (.lstore 5, 2) := by decide +kernel
theorem d_Md_part_20 : decode b_Md_part 20 = .ok (.aload_n 0, 1) := by decide +kernel
theorem d_Md_part_21 : decode b_Md_part 21 = .ok (.lload_n 1, 1) := by decide +kernel
theorem d_Md_part_22 : decode b_Md_part 22 = .ok (.lload 5, 2) := by decide +kernel
theorem d_Md_part_24 : decode b_Md_part 24 = .ok (.lload_n 3, 1) := by decide +kernel
theorem d_Md_part_25 : decode b_Md_part 25 = .ok (.lmul, 1) := by decide +kernel
theorem d_Md_part_26 : decode b_Md_part 26 = .ok (.lsub, 1) := by decide +kernel
theorem d_Md_part_27 : decode b_Md_part 27 = .ok (.putfield 210, 3) := by decide +kernel
theorem d_Md_part_30 : decode b_Md_part 30 = .ok (.lload 5, 2) := by decide +kernel
theorem d_Md_part_32 : decode b_Md_part 32 = .ok (.lreturn, 1) := by decide +kernel
theorem wf_Md_210 : Cond.fieldLink R_Md 210 R_Md "rest" "J" ∈ gw_tbl := gw_tb (List.mem_of_getElem? (i := 1000) (by decide +kernel)) rfl
def f_Md_part_20 (Q : Int64 → Ob → Prop) (x1 : Int64) (x3 : Int64) (x5 : Int64) (o0 : Ob) : Prop := Q x5 (sL o0 29 (x1 - (x5 * x3)))
def f_Md_part (a0 : Int64) (a1 : Int64) (o0 : Ob) (Q : Int64 → Ob → Prop) : Prop := (¬ a1 = 0) ∧ (((lg_cmp ((a0 / a1) * a1) a0) ≤ 0 → (f_Md_part_20 Q a0 a1 (a0 / a1) o0)) ∧ (¬ (lg_cmp ((a0 / a1) * a1) a0) ≤ 0 → (f_Md_part_20 Q a0 a1 ((a0 / a1) - (1 : Int64)) o0)))
abbrev rm_Md_part : Room := { frames := 0, cells := 0, slots := 0, locals := 0 }
set_option maxHeartbeats 4000000 in
set_option maxRecDepth 100000 in
theorem t_Md_part_20 {p : Program} {l : Launch} {e : Env} {s : State} {m : MethodId} {args : Array Value} {below : List Frame} {meth : Method} {c : Code} {A : Nat → Prop} {G : Gl} {h0 : Nat} {q0 : Nat → Nat} (Q : Int64 → Ob → Prop) (C : Cx p s m args meth c R_Md b_Md_part 7 (some .long) G A) :
    ∀ (x1 : Int64) (x3 : Int64) (x5 : Int64) (o0 : Ob) (ls : Array Slot) (H : Heap) (locs : List Loc), lv_has ls 7 [(0, .ref h0), (1, .long x1), (3, .long x3), (5, .long x5)] → va_P G.1 CL (cw_Md G h0 q0 o0) H → va_D A (cw_Md G h0 q0 o0) → va_S A s.heap H locs → f_Md_part_20 Q x1 x3 x5 o0 → W p l e rm_Md_part s m args below meth c H locs 0 0 (MQ below (va_Ql (fun (r : Int64) (u : Ob) => Q r u) (fun (u : Ob) t => BW G A (cw_Md G h0 q0 u) t) A) args s 0 0 A) (F0 m 20 ls []) := by
  obtain ⟨hx, hb, hml, hown, hr, hts, hK, hA, hlocks, hE⟩ := id C
  intro x1 x3 x5 o0 ls H locs hl hP hD hS h
  have hP : va_P G.1 CL [(h0, .inr (11, [.int (gI o0 0), .ref (q0 1), .ref (q0 2), .ref (q0 3), .ref (q0 4), .ref (q0 5), .ref (q0 6), .int (gI o0 7), .int (gI o0 8), .int (gI o0 9), .int (gI o0 10), .int (gI o0 11), .int (gI o0 12), .int (gI o0 13), .int (gI o0 14), .long (gL o0 15), .int (gI o0 16), .int (gI o0 17), .int (gI o0 18), .int (gI o0 19), .int (gI o0 20), .int (gI o0 21), .int (gI o0 22), .int (gI o0 23), .int (gI o0 24), .int (gI o0 25), .int (gI o0 26), .int (gI o0 27), .ref (q0 28), .long (gL o0 29), .int (gI o0 30), .ref (q0 31), .ref (q0 32), .ref (q0 33), .int (gI o0 34), .int (gI o0 35), .int (gI o0 36), .int (gI o0 37), .ref (q0 38), .ref (q0 39), .int (gI o0 40), .ref (q0 41), .ref (q0 42), .ref (q0 43), .ref (q0 44)])), kI G (q0 1) 6100 (gA o0 1), kI G (q0 2) 6100 (gA o0 2), kJ G (q0 3) 2016 (gB o0 3), kJ G (q0 4) 2016 (gB o0 4), kI G (q0 5) 300 (gA o0 5), kI G (q0 6) 400 (gA o0 6), kJ G (q0 28) 10 (gB o0 28), kI G (q0 31) 969 (gA o0 31), kI G (q0 32) 969 (gA o0 32), kI G (q0 33) 969 (gA o0 33), kI G (q0 38) 5 (gA o0 38), kI G (q0 39) 5120 (gA o0 39), kI G (q0 41) 5 (gA o0 41), kZ G (q0 42) 1024 (gA o0 42), kI G (q0 43) 8192 (gA o0 43), kI G (q0 44) 8192 (gA o0 44)] H := hP
  have hD : va_D A [(h0, .inr (11, [.int (gI o0 0), .ref (q0 1), .ref (q0 2), .ref (q0 3), .ref (q0 4), .ref (q0 5), .ref (q0 6), .int (gI o0 7), .int (gI o0 8), .int (gI o0 9), .int (gI o0 10), .int (gI o0 11), .int (gI o0 12), .int (gI o0 13), .int (gI o0 14), .long (gL o0 15), .int (gI o0 16), .int (gI o0 17), .int (gI o0 18), .int (gI o0 19), .int (gI o0 20), .int (gI o0 21), .int (gI o0 22), .int (gI o0 23), .int (gI o0 24), .int (gI o0 25), .int (gI o0 26), .int (gI o0 27), .ref (q0 28), .long (gL o0 29), .int (gI o0 30), .ref (q0 31), .ref (q0 32), .ref (q0 33), .int (gI o0 34), .int (gI o0 35), .int (gI o0 36), .int (gI o0 37), .ref (q0 38), .ref (q0 39), .int (gI o0 40), .ref (q0 41), .ref (q0 42), .ref (q0 43), .ref (q0 44)])), kI G (q0 1) 6100 (gA o0 1), kI G (q0 2) 6100 (gA o0 2), kJ G (q0 3) 2016 (gB o0 3), kJ G (q0 4) 2016 (gB o0 4), kI G (q0 5) 300 (gA o0 5), kI G (q0 6) 400 (gA o0 6), kJ G (q0 28) 10 (gB o0 28), kI G (q0 31) 969 (gA o0 31), kI G (q0 32) 969 (gA o0 32), kI G (q0 33) 969 (gA o0 33), kI G (q0 38) 5 (gA o0 38), kI G (q0 39) 5120 (gA o0 39), kI G (q0 41) 5 (gA o0 41), kZ G (q0 42) 1024 (gA o0 42), kI G (q0 43) 8192 (gA o0 43), kI G (q0 44) 8192 (gA o0 44)] := hD
  unfold f_Md_part_20 at h
  refine lv_aload_n hx hb d_Md_part_20 rfl (lv_at hl 0 rfl) ?_
  refine lv_lload_n hx hb d_Md_part_21 rfl (lv_at hl 1 rfl) ?_
  refine lv_lload hx hb d_Md_part_22 (lv_at hl 3 rfl) ?_
  refine lv_lload_n hx hb d_Md_part_24 rfl (lv_at hl 2 rfl) ?_
  refine lv_lmul hx hb d_Md_part_25 ?_
  refine lv_lsub hx hb d_Md_part_26 ?_
  refine va_put (D := G.1) (ci := 11) (v := .long (x1 - (x5 * x3))) (ty := .long) (C := R_Md) (T := T_Md) (N := 45) hx hb hts i_Md ty_Md ty_Md_ok nm_Md hown hK hP hD hS 0 rfl rfl 29 (by decide) (hts _ wf_Md_210) (fun _ h9 => h9) rfl (ty_Md_ok 29 (by decide)) rfl rfl (Nat.le_of_ble_eq_true rfl) d_Md_part_27 (fun H locs hP hD hS => ?_)
  have hP : va_P G.1 CL [(h0, .inr (11, [.int (gI o0 0), .ref (q0 1), .ref (q0 2), .ref (q0 3), .ref (q0 4), .ref (q0 5), .ref (q0 6), .int (gI o0 7), .int (gI o0 8), .int (gI o0 9), .int (gI o0 10), .int (gI o0 11), .int (gI o0 12), .int (gI o0 13), .int (gI o0 14), .long (gL o0 15), .int (gI o0 16), .int (gI o0 17), .int (gI o0 18), .int (gI o0 19), .int (gI o0 20), .int (gI o0 21), .int (gI o0 22), .int (gI o0 23), .int (gI o0 24), .int (gI o0 25), .int (gI o0 26), .int (gI o0 27), .ref (q0 28), .long (x1 - (x5 * x3)), .int (gI o0 30), .ref (q0 31), .ref (q0 32), .ref (q0 33), .int (gI o0 34), .int (gI o0 35), .int (gI o0 36), .int (gI o0 37), .ref (q0 38), .ref (q0 39), .int (gI o0 40), .ref (q0 41), .ref (q0 42), .ref (q0 43), .ref (q0 44)])), kI G (q0 1) 6100 (gA o0 1), kI G (q0 2) 6100 (gA o0 2), kJ G (q0 3) 2016 (gB o0 3), kJ G (q0 4) 2016 (gB o0 4), kI G (q0 5) 300 (gA o0 5), kI G (q0 6) 400 (gA o0 6), kJ G (q0 28) 10 (gB o0 28), kI G (q0 31) 969 (gA o0 31), kI G (q0 32) 969 (gA o0 32), kI G (q0 33) 969 (gA o0 33), kI G (q0 38) 5 (gA o0 38), kI G (q0 39) 5120 (gA o0 39), kI G (q0 41) 5 (gA o0 41), kZ G (q0 42) 1024 (gA o0 42), kI G (q0 43) 8192 (gA o0 43), kI G (q0 44) 8192 (gA o0 44)] H := hP
  have hD : va_D A [(h0, .inr (11, [.int (gI o0 0), .ref (q0 1), .ref (q0 2), .ref (q0 3), .ref (q0 4), .ref (q0 5), .ref (q0 6), .int (gI o0 7), .int (gI o0 8), .int (gI o0 9), .int (gI o0 10), .int (gI o0 11), .int (gI o0 12), .int (gI o0 13), .int (gI o0 14), .long (gL o0 15), .int (gI o0 16), .int (gI o0 17), .int (gI o0 18), .int (gI o0 19), .int (gI o0 20), .int (gI o0 21), .int (gI o0 22), .int (gI o0 23), .int (gI o0 24), .int (gI o0 25), .int (gI o0 26), .int (gI o0 27), .ref (q0 28), .long (x1 - (x5 * x3)), .int (gI o0 30), .ref (q0 31), .ref (q0 32), .ref (q0 33), .int (gI o0 34), .int (gI o0 35), .int (gI o0 36), .int (gI o0 37), .ref (q0 38), .ref (q0 39), .int (gI o0 40), .ref (q0 41), .ref (q0 42), .ref (q0 43), .ref (q0 44)])), kI G (q0 1) 6100 (gA o0 1), kI G (q0 2) 6100 (gA o0 2), kJ G (q0 3) 2016 (gB o0 3), kJ G (q0 4) 2016 (gB o0 4), kI G (q0 5) 300 (gA o0 5), kI G (q0 6) 400 (gA o0 6), kJ G (q0 28) 10 (gB o0 28), kI G (q0 31) 969 (gA o0 31), kI G (q0 32) 969 (gA o0 32), kI G (q0 33) 969 (gA o0 33), kI G (q0 38) 5 (gA o0 38), kI G (q0 39) 5120 (gA o0 39), kI G (q0 41) 5 (gA o0 41), kZ G (q0 42) 1024 (gA o0 42), kI G (q0 43) 8192 (gA o0 43), kI G (q0 44) 8192 (gA o0 44)] := hD
  refine lv_lload hx hb d_Md_part_30 (lv_at hl 3 rfl) ?_
  have hP : va_P G.1 CL (cw_Md G h0 q0 (sL o0 29 (x1 - (x5 * x3)))) H := hP
  have hD : va_D A (cw_Md G h0 q0 (sL o0 29 (x1 - (x5 * x3)))) := hD
  exact W.lret (v := x5) hx hb hr (fun t ht hW => ⟨⟨x5, (sL o0 29 (x1 - (x5 * x3))), rfl, h, by rw [ht]; exact hP, va_K.moved hW.alike hK, hD⟩, hS.F ht⟩) hS.2.2 d_Md_part_32
set_option maxHeartbeats 4000000 in
set_option maxRecDepth 100000 in
theorem c_Md_part {l : Launch} {G : Gl} {h0 : Nat} {q0 : Nat → Nat} {a0 : Int64} {a1 : Int64} {o0 : Ob} {Q : Int64 → Ob → Prop} (sz : Nat) (h : f_Md_part a0 a1 o0 Q) : Met l y_Md_part w_Md_part rm_Md_part (PcW G [.ref h0, .long a0, .long a1] sz (cw_Md G h0 q0 o0)) (va_Ql (fun (r : Int64) (u : Ob) => Q r u) (fun (u : Ob) t => BW G (va_A (cw_Md G h0 q0 o0) sz) (cw_Md G h0 q0 u) t) (va_A (cw_Md G h0 q0 o0) sz)) 0 0 (va_A (cw_Md G h0 q0 o0) sz) := by
  refine Met.ofW (cc := b_Md_part) (maxL := 7) (ret := (some .long)) (by decide +kernel) rfl ?_
  intro p e s m args below meth c s₁ B hml hv
  obtain ⟨rfl, hsz, hP, hK, hD0, hE⟩ := hv
  have hx := B.exec
  have hb := B.bytes
  have hr := B.returns
  have hts0 := atoms_spec (ws := w_Md_part) B.pre
  have hts : ∀ w ∈ gw_tbl, w.before ([.ref h0, .long a0, .long a1]).toArray s = true := fun w hw => hts0 w (List.mem_cons_of_mem _ hw)
  have hown : s.vm.findClass R_Md = some m.cls := findClass_of_methodNamed B.named
  have hlocks := B.notSynchronized
  subst hsz
  have hD := hD0.self (sz := s.heap.size)
  generalize hAe : va_A (cw_Md G h0 q0 o0) s.heap.size = A at hD hE ⊢
  have hA : ∀ q : Nat, s.heap.size ≤ q → A q := fun q h => by rw [← hAe]; exact Or.inr h
  have hS : va_S A s.heap s.heap [] := va_S.rf
  have C : Cx p s m ([.ref h0, .long a0, .long a1]).toArray meth c R_Md b_Md_part 7 (some .long) G A := ⟨hx, hb, hml, hown, hr, hts, hK, hA, hlocks, hE⟩
  have hl := lv_entry ([.ref h0, .long a0, .long a1]) (n := 7) (Nat.le_of_ble_eq_true rfl)
  rw [lg_entry_eq]
  generalize (lg_sl ([.ref h0, .long a0, .long a1]) ++ List.replicate (7 - (lg_sl ([.ref h0, .long a0, .long a1])).length) Slot.unset).toArray = ls at hl ⊢
  have hl : lv_has ls 7 [(0, .ref h0), (1, .long a0), (3, .long a1)] := hl
  have hD : va_D A [(h0, .inr (11, [.int (gI o0 0), .ref (q0 1), .ref (q0 2), .ref (q0 3), .ref (q0 4), .ref (q0 5), .ref (q0 6), .int (gI o0 7), .int (gI o0 8), .int (gI o0 9), .int (gI o0 10), .int (gI o0 11), .int (gI o0 12), .int (gI o0 13), .int (gI o0 14), .long (gL o0 15), .int (gI o0 16), .int (gI o0 17), .int (gI o0 18), .int (gI o0 19), .int (gI o0 20), .int (gI o0 21), .int (gI o0 22), .int (gI o0 23), .int (gI o0 24), .int (gI o0 25), .int (gI o0 26), .int (gI o0 27), .ref (q0 28), .long (gL o0 29), .int (gI o0 30), .ref (q0 31), .ref (q0 32), .ref (q0 33), .int (gI o0 34), .int (gI o0 35), .int (gI o0 36), .int (gI o0 37), .ref (q0 38), .ref (q0 39), .int (gI o0 40), .ref (q0 41), .ref (q0 42), .ref (q0 43), .ref (q0 44)])), kI G (q0 1) 6100 (gA o0 1), kI G (q0 2) 6100 (gA o0 2), kJ G (q0 3) 2016 (gB o0 3), kJ G (q0 4) 2016 (gB o0 4), kI G (q0 5) 300 (gA o0 5), kI G (q0 6) 400 (gA o0 6), kJ G (q0 28) 10 (gB o0 28), kI G (q0 31) 969 (gA o0 31), kI G (q0 32) 969 (gA o0 32), kI G (q0 33) 969 (gA o0 33), kI G (q0 38) 5 (gA o0 38), kI G (q0 39) 5120 (gA o0 39), kI G (q0 41) 5 (gA o0 41), kZ G (q0 42) 1024 (gA o0 42), kI G (q0 43) 8192 (gA o0 43), kI G (q0 44) 8192 (gA o0 44)] := hD
  unfold f_Md_part at h
  suffices key : ∀ (H : Heap) (locs : List Loc), va_P G.1 CL [(h0, .inr (11, [.int (gI o0 0), .ref (q0 1), .ref (q0 2), .ref (q0 3), .ref (q0 4), .ref (q0 5), .ref (q0 6), .int (gI o0 7), .int (gI o0 8), .int (gI o0 9), .int (gI o0 10), .int (gI o0 11), .int (gI o0 12), .int (gI o0 13), .int (gI o0 14), .long (gL o0 15), .int (gI o0 16), .int (gI o0 17), .int (gI o0 18), .int (gI o0 19), .int (gI o0 20), .int (gI o0 21), .int (gI o0 22), .int (gI o0 23), .int (gI o0 24), .int (gI o0 25), .int (gI o0 26), .int (gI o0 27), .ref (q0 28), .long (gL o0 29), .int (gI o0 30), .ref (q0 31), .ref (q0 32), .ref (q0 33), .int (gI o0 34), .int (gI o0 35), .int (gI o0 36), .int (gI o0 37), .ref (q0 38), .ref (q0 39), .int (gI o0 40), .ref (q0 41), .ref (q0 42), .ref (q0 43), .ref (q0 44)])), kI G (q0 1) 6100 (gA o0 1), kI G (q0 2) 6100 (gA o0 2), kJ G (q0 3) 2016 (gB o0 3), kJ G (q0 4) 2016 (gB o0 4), kI G (q0 5) 300 (gA o0 5), kI G (q0 6) 400 (gA o0 6), kJ G (q0 28) 10 (gB o0 28), kI G (q0 31) 969 (gA o0 31), kI G (q0 32) 969 (gA o0 32), kI G (q0 33) 969 (gA o0 33), kI G (q0 38) 5 (gA o0 38), kI G (q0 39) 5120 (gA o0 39), kI G (q0 41) 5 (gA o0 41), kZ G (q0 42) 1024 (gA o0 42), kI G (q0 43) 8192 (gA o0 43), kI G (q0 44) 8192 (gA o0 44)] H → va_S A s.heap H locs → W p l e rm_Md_part s m ([.ref h0, .long a0, .long a1]).toArray below meth c H locs 0 0 (MQ below (va_Ql (fun (r : Int64) (u : Ob) => Q r u) (fun (u : Ob) t => BW G A (cw_Md G h0 q0 u) t) A) ([.ref h0, .long a0, .long a1]).toArray s 0 0 A) (F0 m 0 ls []) from key s.heap [] hP hS
  intro H locs hP hS
  refine lv_lload_n hx hb d_Md_part_0 rfl (lv_at hl 1 rfl) ?_
  refine lv_lload_n hx hb d_Md_part_1 rfl (lv_at hl 2 rfl) ?_
  have g1 := h.1
  have h := h.2
  refine lv_ldiv hx hb d_Md_part_2 g1 ?_
  refine lv_lstore (lv' := [(5, .long (a0 / a1)), (0, .ref h0), (1, .long a0), (3, .long a1)]) hx hb d_Md_part_3 hl (by decide) rfl (fun ls hl => ?_)
  refine lv_lload hx hb d_Md_part_5 (lv_at hl 0 rfl) ?_
  refine lv_lload_n hx hb d_Md_part_7 rfl (lv_at hl 3 rfl) ?_
  refine lv_lmul hx hb d_Md_part_8 ?_
  refine lv_lload_n hx hb d_Md_part_9 rfl (lv_at hl 2 rfl) ?_
  refine W.lcmp hx hb d_Md_part_10 ?_
  refine lv_if_le (tgt := 20) hx hb d_Md_part_11 (by decide) (fun c2 => ?_) (fun c2 => ?_)
  · have h := h.1 c2
    have hl := lv_sub (l' := [(0, .ref h0), (1, .long a0), (3, .long a1), (5, .long (a0 / a1))]) hl [1, 2, 3, 0] rfl
    have hP : va_P G.1 CL (cw_Md G h0 q0 o0) H := hP
    have hD : va_D A (cw_Md G h0 q0 o0) := hD
    exact t_Md_part_20 Q C a0 a1 (a0 / a1) o0 ls _ locs hl hP hD hS h
  · have h := h.2 c2
    refine lv_lload hx hb d_Md_part_14 (lv_at hl 0 rfl) ?_
    refine lv_lconst (v := (1 : Int64)) hx hb d_Md_part_16 (by decide) ?_
    refine lv_lsub hx hb d_Md_part_17 ?_
    refine lv_lstore (lv' := [(5, .long ((a0 / a1) - (1 : Int64))), (0, .ref h0), (1, .long a0), (3, .long a1)]) hx hb d_Md_part_18 hl (by decide) rfl (fun ls hl => ?_)
    have hl := lv_sub (l' := [(0, .ref h0), (1, .long a0), (3, .long a1), (5, .long ((a0 / a1) - (1 : Int64)))]) hl [1, 2, 3, 0] rfl
    have hP : va_P G.1 CL (cw_Md G h0 q0 o0) H := hP
    have hD : va_D A (cw_Md G h0 q0 o0) := hD
    exact t_Md_part_20 Q C a0 a1 ((a0 / a1) - (1 : Int64)) o0 ls _ locs hl hP hD hS h
abbrev b_Md_less : ByteArray := prog_14_method_35_code
def y_Md_less : MethodName := ⟨R_Md, "less", "(J)J"⟩
abbrev w_Md_less : List Cond := Cond.code y_Md_less b_Md_less 5 (some .long) :: gw_tbl
theorem d_Md_less_0 : decode b_Md_less 0 = .ok (.lload_n 1, 1) := by decide +kernel
theorem d_Md_less_1 : decode b_Md_less 1 = .ok (.lload_n 1, 1) := by decide +kernel
theorem d_Md_less_2 : decode b_Md_less 2 = .ok (.aload_n 0, 1) := by decide +kernel
theorem d_Md_less_3 : decode b_Md_less 3 = .ok (.getfield 7, 3) := by decide +kernel
theorem d_Md_less_6 : decode b_Md_less 6 = .ok (.sipush 5601, 3) := by decide +kernel
theorem d_Md_less_9 : decode b_Md_less 9 = .ok (.iaload, 1) := by decide +kernel
theorem d_Md_less_10 : decode b_Md_less 10 = .ok (.i2l, 1) := by decide +kernel
theorem d_Md_less_11 : decode b_Md_less 11 = .ok (.lmul, 1) := by decide +kernel
theorem d_Md_less_12 : decode b_Md_less 12 = .ok (.ldc2_w 229, 3) := by decide +kernel
theorem d_Md_less_15 : decode b_Md_less 15 = .ok (.ldiv, 1) := by decide +kernel
theorem d_Md_less_16 : decode b_Md_less 16 = .ok (.lsub, 1) := by decide +kernel
theorem d_Md_less_17 : decode b_Md_less 17 = .ok (.lstore_n 3, 1) := by decide +kernel
theorem d_Md_less_18 : decode b_Md_less 18 = .ok (.lload_n 3, 1) := by decide +kernel
theorem d_Md_less_19 : decode b_Md_less 19 = .ok (.ldc2_w 231, 3) := by decide +kernel
theorem d_Md_less_22 : decode b_Md_less 22 = .ok (.lcmp, 1) := by decide +kernel
theorem d_Md_less_23 : decode b_Md_less 23 = .ok (.ifCond .le 9, 3) := by decide +kernel
theorem d_Md_less_26 : decode b_Md_less 26 = .ok (.ldc2_w 231, 3) := by decide +kernel
theorem d_Md_less_29 : decode b_Md_less 29 = .ok (.goto 18, 3) := by decide +kernel
theorem d_Md_less_32 : decode b_Md_less 32 = .ok (.lload_n 3, 1) := by decide +kernel
theorem d_Md_less_33 : decode b_Md_less 33 = .ok (.ldc2_w 233, 3) := by decide +kernel
theorem d_Md_less_36 : decode b_Md_less 36 = .ok (.lcmp, 1) := by decide +kernel
theorem d_Md_less_37 : decode b_Md_less 37 = .ok (.ifCond .ge 9, 3) := by decide +kernel
theorem d_Md_less_40 : decode b_Md_less 40 = .ok (.ldc2_w 233, 3) := by decide +kernel
theorem d_Md_less_43 : decode b_Md_less 43 = .ok (.goto 4, 3) := by decide +kernel
theorem d_Md_less_46 : decode b_Md_less 46 = .ok (.lload_n 3, 1) := by decide +kernel
theorem d_Md_less_47 : decode b_Md_less 47 = .ok (.lreturn, 1) := by decide +kernel
theorem wc_Md_229 : Cond.constantLong R_Md 229 (1000) ∈ gw_tbl := gw_tb (List.mem_of_getElem? (i := 1238) (by decide +kernel)) rfl
theorem wc_Md_231 : Cond.constantLong R_Md 231 (1000000000) ∈ gw_tbl := gw_tb (List.mem_of_getElem? (i := 1239) (by decide +kernel)) rfl
theorem wc_Md_233 : Cond.constantLong R_Md 233 (-1000000000) ∈ gw_tbl := gw_tb (List.mem_of_getElem? (i := 1240) (by decide +kernel)) rfl
def f_Md_less (a0 : Int64) (o0 : Ob) (Q : Int64 → Prop) : Prop := ∀ y1 : Int64, y1 = ((a0 * (((gA o0 1) 5601).toInt64)) / (1000 : Int64)) → (((lg_cmp (a0 - y1) (1000000000 : Int64)) ≤ 0 → ((0 ≤ (lg_cmp (a0 - y1) (-1000000000 : Int64)) → (Q (a0 - y1))) ∧ (¬ 0 ≤ (lg_cmp (a0 - y1) (-1000000000 : Int64)) → (Q (-1000000000 : Int64))))) ∧ (¬ (lg_cmp (a0 - y1) (1000000000 : Int64)) ≤ 0 → (Q (1000000000 : Int64))))
abbrev rm_Md_less : Room := { frames := 0, cells := 0, slots := 0, locals := 0 }
set_option maxHeartbeats 4000000 in
set_option maxRecDepth 100000 in
theorem c_Md_less {l : Launch} {G : Gl} {h0 : Nat} {q0 : Nat → Nat} {a0 : Int64} {o0 : Ob} {Q : Int64 → Prop} (sz : Nat) (h : f_Md_less a0 o0 Q) : Met l y_Md_less w_Md_less rm_Md_less (PcW G [.ref h0, .long a0] sz (cw_Md G h0 q0 o0)) (va_Ql (fun (r : Int64) (u : Unit) => Q r) (fun (u : Unit) t => BW G (va_A (cw_Md G h0 q0 o0) sz) (cw_Md G h0 q0 o0) t) (va_A (cw_Md G h0 q0 o0) sz)) 0 0 (va_A (cw_Md G h0 q0 o0) sz) := by
  refine Met.ofW (cc := b_Md_less) (maxL := 5) (ret := (some .long)) (by decide +kernel) rfl ?_
  intro p e s m args below meth c s₁ B hml hv
  obtain ⟨rfl, hsz, hP, hK, hD0, hE⟩ := hv
  have hx := B.exec
  have hb := B.bytes
  have hr := B.returns
  have hts0 := atoms_spec (ws := w_Md_less) B.pre
  have hts : ∀ w ∈ gw_tbl, w.before ([.ref h0, .long a0]).toArray s = true := fun w hw => hts0 w (List.mem_cons_of_mem _ hw)
  have hown : s.vm.findClass R_Md = some m.cls := findClass_of_methodNamed B.named
  have hlocks := B.notSynchronized
  subst hsz
  have hD := hD0.self (sz := s.heap.size)
  generalize hAe : va_A (cw_Md G h0 q0 o0) s.heap.size = A at hD hE ⊢
  have hA : ∀ q : Nat, s.heap.size ≤ q → A q := fun q h => by rw [← hAe]; exact Or.inr h
  have hS : va_S A s.heap s.heap [] := va_S.rf
  have C : Cx p s m ([.ref h0, .long a0]).toArray meth c R_Md b_Md_less 5 (some .long) G A := ⟨hx, hb, hml, hown, hr, hts, hK, hA, hlocks, hE⟩
  have hl := lv_entry ([.ref h0, .long a0]) (n := 5) (Nat.le_of_ble_eq_true rfl)
  rw [lg_entry_eq]
  generalize (lg_sl ([.ref h0, .long a0]) ++ List.replicate (5 - (lg_sl ([.ref h0, .long a0])).length) Slot.unset).toArray = ls at hl ⊢
  have hl : lv_has ls 5 [(0, .ref h0), (1, .long a0)] := hl
  have hD : va_D A [(h0, .inr (11, [.int (gI o0 0), .ref (q0 1), .ref (q0 2), .ref (q0 3), .ref (q0 4), .ref (q0 5), .ref (q0 6), .int (gI o0 7), .int (gI o0 8), .int (gI o0 9), .int (gI o0 10), .int (gI o0 11), .int (gI o0 12), .int (gI o0 13), .int (gI o0 14), .long (gL o0 15), .int (gI o0 16), .int (gI o0 17), .int (gI o0 18), .int (gI o0 19), .int (gI o0 20), .int (gI o0 21), .int (gI o0 22), .int (gI o0 23), .int (gI o0 24), .int (gI o0 25), .int (gI o0 26), .int (gI o0 27), .ref (q0 28), .long (gL o0 29), .int (gI o0 30), .ref (q0 31), .ref (q0 32), .ref (q0 33), .int (gI o0 34), .int (gI o0 35), .int (gI o0 36), .int (gI o0 37), .ref (q0 38), .ref (q0 39), .int (gI o0 40), .ref (q0 41), .ref (q0 42), .ref (q0 43), .ref (q0 44)])), kI G (q0 1) 6100 (gA o0 1), kI G (q0 2) 6100 (gA o0 2), kJ G (q0 3) 2016 (gB o0 3), kJ G (q0 4) 2016 (gB o0 4), kI G (q0 5) 300 (gA o0 5), kI G (q0 6) 400 (gA o0 6), kJ G (q0 28) 10 (gB o0 28), kI G (q0 31) 969 (gA o0 31), kI G (q0 32) 969 (gA o0 32), kI G (q0 33) 969 (gA o0 33), kI G (q0 38) 5 (gA o0 38), kI G (q0 39) 5120 (gA o0 39), kI G (q0 41) 5 (gA o0 41), kZ G (q0 42) 1024 (gA o0 42), kI G (q0 43) 8192 (gA o0 43), kI G (q0 44) 8192 (gA o0 44)] := hD
  unfold f_Md_less at h
  suffices key : ∀ (H : Heap) (locs : List Loc), va_P G.1 CL [(h0, .inr (11, [.int (gI o0 0), .ref (q0 1), .ref (q0 2), .ref (q0 3), .ref (q0 4), .ref (q0 5), .ref (q0 6), .int (gI o0 7), .int (gI o0 8), .int (gI o0 9), .int (gI o0 10), .int (gI o0 11), .int (gI o0 12), .int (gI o0 13), .int (gI o0 14), .long (gL o0 15), .int (gI o0 16), .int (gI o0 17), .int (gI o0 18), .int (gI o0 19), .int (gI o0 20), .int (gI o0 21), .int (gI o0 22), .int (gI o0 23), .int (gI o0 24), .int (gI o0 25), .int (gI o0 26), .int (gI o0 27), .ref (q0 28), .long (gL o0 29), .int (gI o0 30), .ref (q0 31), .ref (q0 32), .ref (q0 33), .int (gI o0 34), .int (gI o0 35), .int (gI o0 36), .int (gI o0 37), .ref (q0 38), .ref (q0 39), .int (gI o0 40), .ref (q0 41), .ref (q0 42), .ref (q0 43), .ref (q0 44)])), kI G (q0 1) 6100 (gA o0 1), kI G (q0 2) 6100 (gA o0 2), kJ G (q0 3) 2016 (gB o0 3), kJ G (q0 4) 2016 (gB o0 4), kI G (q0 5) 300 (gA o0 5), kI G (q0 6) 400 (gA o0 6), kJ G (q0 28) 10 (gB o0 28), kI G (q0 31) 969 (gA o0 31), kI G (q0 32) 969 (gA o0 32), kI G (q0 33) 969 (gA o0 33), kI G (q0 38) 5 (gA o0 38), kI G (q0 39) 5120 (gA o0 39), kI G (q0 41) 5 (gA o0 41), kZ G (q0 42) 1024 (gA o0 42), kI G (q0 43) 8192 (gA o0 43), kI G (q0 44) 8192 (gA o0 44)] H → va_S A s.heap H locs → W p l e rm_Md_less s m ([.ref h0, .long a0]).toArray below meth c H locs 0 0 (MQ below (va_Ql (fun (r : Int64) (u : Unit) => Q r) (fun (u : Unit) t => BW G A (cw_Md G h0 q0 o0) t) A) ([.ref h0, .long a0]).toArray s 0 0 A) (F0 m 0 ls []) from key s.heap [] hP hS
  intro H locs hP hS
  refine lv_lload_n hx hb d_Md_less_0 rfl (lv_at hl 1 rfl) ?_
  refine lv_lload_n hx hb d_Md_less_1 rfl (lv_at hl 1 rfl) ?_
  refine lv_aload_n hx hb d_Md_less_2 rfl (lv_at hl 0 rfl) ?_
  refine va_get (D := G.1) (ci := 11) (v := .ref (q0 1)) (C := R_Md) (T := T_Md) (N := 45) hx hb hts i_Md hown hK hP 0 rfl rfl 1 (by decide) (hts _ wf_Md_7) (fun _ h9 => h9) rfl d_Md_less_3 ?_
  refine lv_sipush (v := (5601 : Int32)) hx hb d_Md_less_6 (by decide) ?_
  refine xa_iald hx hb hK hP 1 0 rfl rfl (vp_lit rfl) (k := 5601) rfl d_Md_less_9 ?_
  refine lv_i2l (v := (((gA o0 1) 5601).toInt64)) hx hb d_Md_less_10 rfl ?_
  refine lv_lmul hx hb d_Md_less_11 ?_
  refine lv_ldc2 hx hb hown (hts _ wc_Md_229) d_Md_less_12 ?_
  refine lv_ldiv hx hb d_Md_less_15 (by decide) ?_
  refine lv_topl (fun y1 ey1 => ?_)
  have h := h y1 ey1
  refine lv_lsub hx hb d_Md_less_16 ?_
  refine lv_lstore_n (lv' := [(3, .long (a0 - y1)), (0, .ref h0), (1, .long a0)]) hx hb d_Md_less_17 rfl hl (by decide) rfl (fun ls hl => ?_)
  refine lv_lload_n hx hb d_Md_less_18 rfl (lv_at hl 0 rfl) ?_
  refine lv_ldc2 hx hb hown (hts _ wc_Md_231) d_Md_less_19 ?_
  refine W.lcmp hx hb d_Md_less_22 ?_
  refine lv_if_le (tgt := 32) hx hb d_Md_less_23 (by decide) (fun c2 => ?_) (fun c2 => ?_)
  · have h := h.1 c2
    refine lv_lload_n hx hb d_Md_less_32 rfl (lv_at hl 0 rfl) ?_
    refine lv_ldc2 hx hb hown (hts _ wc_Md_233) d_Md_less_33 ?_
    refine W.lcmp hx hb d_Md_less_36 ?_
    refine lv_if_ge (tgt := 46) hx hb d_Md_less_37 (by decide) (fun c3 => ?_) (fun c3 => ?_)
    · have h := h.1 c3
      refine lv_lload_n hx hb d_Md_less_46 rfl (lv_at hl 0 rfl) ?_
      have hP : va_P G.1 CL (cw_Md G h0 q0 o0) H := hP
      have hD : va_D A (cw_Md G h0 q0 o0) := hD
      exact W.lret (v := (a0 - y1)) hx hb hr (fun t ht hW => ⟨⟨(a0 - y1), (), rfl, h, by rw [ht]; exact hP, va_K.moved hW.alike hK, hD⟩, hS.F ht⟩) hS.2.2 d_Md_less_47
    · have h := h.2 c3
      refine lv_ldc2 hx hb hown (hts _ wc_Md_233) d_Md_less_40 ?_
      refine lv_goto (tgt := 47) hx hb d_Md_less_43 (by decide) ?_
      have hP : va_P G.1 CL (cw_Md G h0 q0 o0) H := hP
      have hD : va_D A (cw_Md G h0 q0 o0) := hD
      exact W.lret (v := (-1000000000 : Int64)) hx hb hr (fun t ht hW => ⟨⟨(-1000000000 : Int64), (), rfl, h, by rw [ht]; exact hP, va_K.moved hW.alike hK, hD⟩, hS.F ht⟩) hS.2.2 d_Md_less_47
  · have h := h.2 c2
    refine lv_ldc2 hx hb hown (hts _ wc_Md_231) d_Md_less_26 ?_
    refine lv_goto (tgt := 47) hx hb d_Md_less_29 (by decide) ?_
    have hP : va_P G.1 CL (cw_Md G h0 q0 o0) H := hP
    have hD : va_D A (cw_Md G h0 q0 o0) := hD
    exact W.lret (v := (1000000000 : Int64)) hx hb hr (fun t ht hW => ⟨⟨(1000000000 : Int64), (), rfl, h, by rw [ht]; exact hP, va_K.moved hW.alike hK, hD⟩, hS.F ht⟩) hS.2.2 d_Md_less_47
abbrev b_Md_step : ByteArray := prog_14_method_34_code
def y_Md_step : MethodName := ⟨R_Md, "step", "()V"⟩
abbrev w_Md_step : List Cond := Cond.code y_Md_step b_Md_step 8 none :: gw_tbl
theorem d_Md_step_0 : decode b_Md_step 0 = .ok (.aload_n 0, 1) := by decide +kernel
theorem d_Md_step_1 : decode b_Md_step 1 = .ok (.aload_n 0, 1) := by decide +kernel
theorem d_Md_step_2 : decode b_Md_step 2 = .ok (.getfield 7, 3) := by decide +kernel
theorem d_Md_step_5 : decode b_Md_step 5 = .ok (.bipush 7, 2) := by decide +kernel
theorem d_Md_step_7 : decode b_Md_step 7 = .ok (.iaload, 1) := by decide +kernel
theorem d_Md_step_8 : decode b_Md_step 8 = .ok (.putfield 200, 3) := by decide +kernel
theorem d_Md_step_11 : decode b_Md_step 11 = .ok (.aload_n 0, 1) := by decide +kernel
theorem d_Md_step_12 : decode b_Md_step 12 = .ok (.aload_n 0, 1) := by decide +kernel
theorem d_Md_step_13 : decode b_Md_step 13 = .ok (.getfield 7, 3) := by decide +kernel
theorem d_Md_step_16 : decode b_Md_step 16 = .ok (.bipush 8, 2) := by decide +kernel
theorem d_Md_step_18 : decode b_Md_step 18 = .ok (.iaload, 1) := by decide +kernel
theorem d_Md_step_19 : decode b_Md_step 19 = .ok (.putfield 197, 3) := by decide +kernel
theorem d_Md_step_22 : decode b_Md_step 22 = .ok (.aload_n 0, 1) := by decide +kernel
theorem d_Md_step_23 : decode b_Md_step 23 = .ok (.aload_n 0, 1) := by decide +kernel
theorem d_Md_step_24 : decode b_Md_step 24 = .ok (.getfield 7, 3) := by decide +kernel
theorem d_Md_step_27 : decode b_Md_step 27 = .ok (.iconst 4, 1) := by decide +kernel
theorem d_Md_step_28 : decode b_Md_step 28 = .ok (.iaload, 1) := by decide +kernel
theorem d_Md_step_29 : decode b_Md_step 29 = .ok (.invokevirtual 213, 3) := by decide +kernel
theorem d_Md_step_32 : decode b_Md_step 32 = .ok (.aload_n 0, 1) := by decide +kernel
theorem d_Md_step_33 : decode b_Md_step 33 = .ok (.getfield 7, 3) := by decide +kernel
theorem d_Md_step_36 : decode b_Md_step 36 = .ok (.bipush 7, 2) := by decide +kernel
theorem d_Md_step_38 : decode b_Md_step 38 = .ok (.aload_n 0, 1) := by decide +kernel
theorem d_Md_step_39 : decode b_Md_step 39 = .ok (.getfield 200, 3) := by decide +kernel
theorem d_Md_step_42 : decode b_Md_step 42 = .ok (.iastore, 1) := by decide +kernel
theorem d_Md_step_43 : decode b_Md_step 43 = .ok (.aload_n 0, 1) := by decide +kernel
theorem d_Md_step_44 : decode b_Md_step 44 = .ok (.getfield 7, 3) := by decide +kernel
theorem d_Md_step_47 : decode b_Md_step 47 = .ok (.bipush 8, 2) := by decide +kernel
theorem d_Md_step_49 : decode b_Md_step 49 = .ok (.aload_n 0, 1) := by decide +kernel
theorem d_Md_step_50 : decode b_Md_step 50 = .ok (.getfield 197, 3) := by decide +kernel
theorem d_Md_step_53 : decode b_Md_step 53 = .ok (.iastore, 1) := by decide +kernel
theorem d_Md_step_54 : decode b_Md_step 54 = .ok (.aload_n 0, 1) := by decide +kernel
theorem d_Md_step_55 : decode b_Md_step 55 = .ok (.getfield 7, 3) := by decide +kernel
theorem d_Md_step_58 : decode b_Md_step 58 = .ok (.bipush 9, 2) := by decide +kernel
theorem d_Md_step_60 : decode b_Md_step 60 = .ok (.dup2, 1) := by decide +kernel
theorem d_Md_step_61 : decode b_Md_step 61 = .ok (.iaload, 1) := by decide +kernel
theorem d_Md_step_62 : decode b_Md_step 62 = .ok (.aload_n 0, 1) := by decide +kernel
theorem d_Md_step_63 : decode b_Md_step 63 = .ok (.getfield 207, 3) := by decide +kernel
theorem d_Md_step_66 : decode b_Md_step 66 = .ok (.iadd, 1) := by decide +kernel
theorem d_Md_step_67 : decode b_Md_step 67 = .ok (.iastore, 1) := by decide +kernel
theorem d_Md_step_68 : decode b_Md_step 68 = .ok (.aload_n 0, 1) := by decide +kernel
theorem d_Md_step_69 : decode b_Md_step 69 = .ok (.getfield 7, 3) := by decide +kernel
theorem d_Md_step_72 : decode b_Md_step 72 = .ok (.bipush 10, 2) := by decide +kernel
theorem d_Md_step_74 : decode b_Md_step 74 = .ok (.dup2, 1) := by decide +kernel
theorem d_Md_step_75 : decode b_Md_step 75 = .ok (.iaload, 1) := by decide +kernel
theorem d_Md_step_76 : decode b_Md_step 76 = .ok (.aload_n 0, 1) := by decide +kernel
theorem d_Md_step_77 : decode b_Md_step 77 = .ok (.getfield 203, 3) := by decide +kernel
theorem d_Md_step_80 : decode b_Md_step 80 = .ok (.ifCond .eq 7, 3) := by decide +kernel
theorem d_Md_step_83 : decode b_Md_step 83 = .ok (.iconst 1, 1) := by decide +kernel
theorem d_Md_step_84 : decode b_Md_step 84 = .ok (.goto 4, 3) := by decide +kernel
theorem d_Md_step_87 : decode b_Md_step 87 = .ok (.iconst 0, 1) := by decide +kernel
theorem d_Md_step_88 : decode b_Md_step 88 = .ok (.iadd, 1) := by decide +kernel
theorem d_Md_step_89 : decode b_Md_step 89 = .ok (.iastore, 1) := by decide +kernel
theorem d_Md_step_90 : decode b_Md_step 90 = .ok (.iconst 0, 1) := by decide +kernel
theorem d_Md_step_91 : decode b_Md_step 91 = .ok (.istore_n 1, 1) := by decide +kernel
theorem d_Md_step_92 : decode b_Md_step 92 = .ok (.iload_n 1, 1) := by decide +kernel
theorem d_Md_step_93 : decode b_Md_step 93 = .ok (.aload_n 0, 1) := by decide +kernel
theorem d_Md_step_94 : decode b_Md_step 94 = .ok (.getfield 67, 3) := by decide +kernel
theorem d_Md_step_97 : decode b_Md_step 97 = .ok (.iconst 1, 1) := by decide +kernel
theorem d_Md_step_98 : decode b_Md_step 98 = .ok (.isub, 1) := by decide +kernel
theorem d_Md_step_99 : decode b_Md_step 99 = .ok (.if_icmp .ge 135, 3) := by decide +kernel
theorem d_Md_step_102 : decode b_Md_step 102 = .ok (.aload_n 0, 1) := by decide +kernel
theorem d_Md_step_103 : decode b_Md_step 103 = .ok (.getfield 16, 3) := by decide +kernel
theorem d_Md_step_106 : decode b_Md_step 106 = .ok (.iconst 0, 1) := by decide +kernel
theorem d_Md_step_107 : decode b_Md_step 107 = .ok (.iload_n 1, 1) := by decide +kernel
theorem d_Md_step_108 : decode b_Md_step 108 = .ok (.iadd, 1) := by decide +kernel
theorem d_Md_step_109 : decode b_Md_step 109 = .ok (.laload, 1) := by decide +kernel
theorem d_Md_step_110 : decode b_Md_step 110 = .ok (.lstore_n 2, 1) := by decide +kernel
theorem d_Md_step_111 : decode b_Md_step 111 = .ok (.aload_n 0, 1) := by decide +kernel
theorem d_Md_step_112 : decode b_Md_step 112 = .ok (.getfield 16, 3) := by decide +kernel
theorem d_Md_step_115 : decode b_Md_step 115 = .ok (.iconst 5, 1) := by decide +kernel
theorem d_Md_step_116 : decode b_Md_step 116 = .ok (.iload_n 1, 1) := by decide +kernel
theorem d_Md_step_117 : decode b_Md_step 117 = .ok (.iadd, 1) := by decide +kernel
theorem d_Md_step_118 : decode b_Md_step 118 = .ok (.iconst 1, 1) := by decide +kernel
theorem d_Md_step_119 : decode b_Md_step 119 = .ok (.iadd, 1) := by decide +kernel
theorem d_Md_step_120 : decode b_Md_step 120 = .ok (.laload, 1) := by decide +kernel
theorem d_Md_step_121 : decode b_Md_step 121 = .ok (.lstore 4, 2) := by decide +kernel
theorem d_Md_step_123 : decode b_Md_step 123 = .ok (.aload_n 0, 1) := by decide +kernel
theorem d_Md_step_124 : decode b_Md_step 124 = .ok (.aload_n 0, 1) := by decide +kernel
theorem d_Md_step_125 : decode b_Md_step 125 = .ok (.getfield 7, 3) := by decide +kernel
theorem d_Md_step_128 : decode b_Md_step 128 = .ok (.bipush 20, 2) := by decide +kernel
theorem d_Md_step_130 : decode b_Md_step 130 = .ok (.iload_n 1, 1) := by decide +kernel
theorem d_Md_step_131 : decode b_Md_step 131 = .ok (.iadd, 1) := by decide +kernel
theorem d_Md_step_132 : decode b_Md_step 132 = .ok (.iconst 1, 1) := by decide +kernel
theorem d_Md_step_133 : decode b_Md_step 133 = .ok (.iadd, 1) := by decide +kernel
theorem d_Md_step_134 : decode b_Md_step 134 = .ok (.iaload, 1) := by decide +kernel
theorem d_Md_step_135 : decode b_Md_step 135 = .ok (.aload_n 0, 1) := by decide +kernel
theorem d_Md_step_136 : decode b_Md_step 136 = .ok (.getfield 7, 3) := by decide +kernel
theorem d_Md_step_139 : decode b_Md_step 139 = .ok (.bipush 20, 2) := by decide +kernel
theorem d_Md_step_141 : decode b_Md_step 141 = .ok (.iload_n 1, 1) := by decide +kernel
theorem d_Md_step_142 : decode b_Md_step 142 = .ok (.iadd, 1) := by decide +kernel
theorem d_Md_step_143 : decode b_Md_step 143 = .ok (.iaload, 1) := by decide +kernel
theorem d_Md_step_144 : decode b_Md_step 144 = .ok (.isub, 1) := by decide +kernel
theorem d_Md_step_145 : decode b_Md_step 145 = .ok (.i2l, 1) := by decide +kernel
theorem d_Md_step_146 : decode b_Md_step 146 = .ok (.lload_n 2, 1) := by decide +kernel
theorem d_Md_step_147 : decode b_Md_step 147 = .ok (.lload 4, 2) := by decide +kernel
theorem d_Md_step_149 : decode b_Md_step 149 = .ok (.ladd, 1) := by decide +kernel
theorem d_Md_step_150 : decode b_Md_step 150 = .ok (.lmul, 1) := by decide +kernel
theorem d_Md_step_151 : decode b_Md_step 151 = .ok (.aload_n 0, 1) := by decide +kernel
theorem d_Md_step_152 : decode b_Md_step 152 = .ok (.getfield 16, 3) := by decide +kernel
theorem d_Md_step_155 : decode b_Md_step 155 = .ok (.bipush 10, 2) := by decide +kernel
theorem d_Md_step_157 : decode b_Md_step 157 = .ok (.iload_n 1, 1) := by decide +kernel
theorem d_Md_step_158 : decode b_Md_step 158 = .ok (.iadd, 1) := by decide +kernel
theorem d_Md_step_159 : decode b_Md_step 159 = .ok (.laload, 1) := by decide +kernel
theorem d_Md_step_160 : decode b_Md_step 160 = .ok (.ladd, 1) := by decide +kernel
theorem d_Md_step_161 : decode b_Md_step 161 = .ok (.aload_n 0, 1) := by decide +kernel
theorem d_Md_step_162 : decode b_Md_step 162 = .ok (.getfield 7, 3) := by decide +kernel
theorem d_Md_step_165 : decode b_Md_step 165 = .ok (.bipush 20, 2) := by decide +kernel
theorem d_Md_step_167 : decode b_Md_step 167 = .ok (.iload_n 1, 1) := by decide +kernel
theorem d_Md_step_168 : decode b_Md_step 168 = .ok (.iadd, 1) := by decide +kernel
theorem d_Md_step_169 : decode b_Md_step 169 = .ok (.iaload, 1) := by decide +kernel
theorem d_Md_step_170 : decode b_Md_step 170 = .ok (.aload_n 0, 1) := by decide +kernel
theorem d_Md_step_171 : decode b_Md_step 171 = .ok (.getfield 7, 3) := by decide +kernel
theorem d_Md_step_174 : decode b_Md_step 174 = .ok (.bipush 20, 2) := by decide +kernel
theorem d_Md_step_176 : decode b_Md_step 176 = .ok (.iload_n 1, 1) := by decide +kernel
theorem d_Md_step_177 : decode b_Md_step 177 = .ok (.iadd, 1) := by decide +kernel
theorem d_Md_step_178 : decode b_Md_step 178 = .ok (.iconst 1, 1) := by decide +kernel
theorem d_Md_step_179 : decode b_Md_step 179 = .ok (.iadd, 1) := by decide +kernel
theorem d_Md_step_180 : decode b_Md_step 180 = .ok (.iaload, 1) := by decide +kernel
theorem d_Md_step_181 : decode b_Md_step 181 = .ok (.iadd, 1) := by decide +kernel
theorem d_Md_step_182 : decode b_Md_step 182 = .ok (.i2l, 1) := by decide +kernel
theorem d_Md_step_183 : decode b_Md_step 183 = .ok (.invokevirtual 216, 3) := by decide +kernel
theorem d_Md_step_186 : decode b_Md_step 186 = .ok (.lstore 6, 2) := by decide +kernel
theorem d_Md_step_188 : decode b_Md_step 188 = .ok (.aload_n 0, 1) := by decide +kernel
theorem d_Md_step_189 : decode b_Md_step 189 = .ok (.getfield 16, 3) := by decide +kernel
theorem d_Md_step_192 : decode b_Md_step 192 = .ok (.bipush 10, 2) := by decide +kernel
theorem d_Md_step_194 : decode b_Md_step 194 = .ok (.iload_n 1, 1) := by decide +kernel
theorem d_Md_step_195 : decode b_Md_step 195 = .ok (.iadd, 1) := by decide +kernel
theorem d_Md_step_196 : decode b_Md_step 196 = .ok (.aload_n 0, 1) := by decide +kernel
theorem d_Md_step_197 : decode b_Md_step 197 = .ok (.getfield 210, 3) := by decide +kernel
theorem d_Md_step_200 : decode b_Md_step 200 = .ok (.lastore, 1) := by decide +kernel
theorem d_Md_step_201 : decode b_Md_step 201 = .ok (.aload_n 0, 1) := by decide +kernel
theorem d_Md_step_202 : decode b_Md_step 202 = .ok (.getfield 36, 3) := by decide +kernel
theorem d_Md_step_205 : decode b_Md_step 205 = .ok (.iconst 0, 1) := by decide +kernel
theorem d_Md_step_206 : decode b_Md_step 206 = .ok (.iload_n 1, 1) := by decide +kernel
theorem d_Md_step_207 : decode b_Md_step 207 = .ok (.iadd, 1) := by decide +kernel
theorem d_Md_step_208 : decode b_Md_step 208 = .ok (.iconst 1, 1) := by decide +kernel
theorem d_Md_step_209 : decode b_Md_step 209 = .ok (.iadd, 1) := by decide +kernel
theorem d_Md_step_210 : decode b_Md_step 210 = .ok (.lload_n 2, 1) := by decide +kernel
theorem d_Md_step_211 : decode b_Md_step 211 = .ok (.lload 6, 2) := by decide +kernel
theorem d_Md_step_213 : decode b_Md_step 213 = .ok (.ladd, 1) := by decide +kernel
theorem d_Md_step_214 : decode b_Md_step 214 = .ok (.lastore, 1) := by decide +kernel
theorem d_Md_step_215 : decode b_Md_step 215 = .ok (.aload_n 0, 1) := by decide +kernel
theorem d_Md_step_216 : decode b_Md_step 216 = .ok (.getfield 36, 3) := by decide +kernel
theorem d_Md_step_219 : decode b_Md_step 219 = .ok (.iconst 5, 1) := by decide +kernel
theorem d_Md_step_220 : decode b_Md_step 220 = .ok (.iload_n 1, 1) := by decide +kernel
theorem d_Md_step_221 : decode b_Md_step 221 = .ok (.iadd, 1) := by decide +kernel
theorem d_Md_step_222 : decode b_Md_step 222 = .ok (.lload 4, 2) := by decide +kernel
theorem d_Md_step_224 : decode b_Md_step 224 = .ok (.lload 6, 2) := by decide +kernel
theorem d_Md_step_226 : decode b_Md_step 226 = .ok (.lsub, 1) := by decide +kernel
theorem d_Md_step_227 : decode b_Md_step 227 = .ok (.lastore, 1) := by decide +kernel
theorem d_Md_step_228 : decode b_Md_step 228 = .ok (.iinc 1 1, 3) := by decide +kernel
theorem d_Md_step_231 : decode b_Md_step 231 = .ok (.goto (-139), 3) := by decide +kernel
theorem d_Md_step_234 : decode b_Md_step 234 = .ok (.aload_n 0, 1) := by decide +kernel
theorem d_Md_step_235 : decode b_Md_step 235 = .ok (.aload_n 0, 1) := by decide +kernel
theorem d_Md_step_236 : decode b_Md_step 236 = .ok (.getfield 7, 3) := by decide +kernel
theorem d_Md_step_239 : decode b_Md_step 239 = .ok (.sipush 5603, 3) := by decide +kernel
theorem d_Md_step_242 : decode b_Md_step 242 = .ok (.iaload, 1) := by decide +kernel
theorem d_Md_step_243 : decode b_Md_step 243 = .ok (.i2l, 1) := by decide +kernel
theorem d_Md_step_244 : decode b_Md_step 244 = .ok (.aload_n 0, 1) := by decide +kernel
theorem d_Md_step_245 : decode b_Md_step 245 = .ok (.getfield 16, 3) := by decide +kernel
theorem d_Md_step_248 : decode b_Md_step 248 = .ok (.iconst 5, 1) := by decide +kernel
theorem d_Md_step_249 : decode b_Md_step 249 = .ok (.laload, 1) := by decide +kernel
theorem d_Md_step_250 : decode b_Md_step 250 = .ok (.lmul, 1) := by decide +kernel
theorem d_Md_step_251 : decode b_Md_step 251 = .ok (.aload_n 0, 1) := by decide +kernel
theorem d_Md_step_252 : decode b_Md_step 252 = .ok (.getfield 16, 3) := by decide +kernel
theorem d_Md_step_255 : decode b_Md_step 255 = .ok (.bipush 14, 2) := by decide +kernel
theorem d_Md_step_257 : decode b_Md_step 257 = .ok (.laload, 1) := by decide +kernel
theorem d_Md_step_258 : decode b_Md_step 258 = .ok (.ladd, 1) := by decide +kernel
theorem d_Md_step_259 : decode b_Md_step 259 = .ok (.ldc2_w 220, 3) := by decide +kernel
theorem d_Md_step_262 : decode b_Md_step 262 = .ok (.invokevirtual 216, 3) := by decide +kernel
theorem d_Md_step_265 : decode b_Md_step 265 = .ok (.lstore_n 1, 1) := by decide +kernel
theorem d_Md_step_266 : decode b_Md_step 266 = .ok (.aload_n 0, 1) := by decide +kernel
theorem d_Md_step_267 : decode b_Md_step 267 = .ok (.getfield 16, 3) := by decide +kernel
theorem d_Md_step_270 : decode b_Md_step 270 = .ok (.bipush 14, 2) := by decide +kernel
theorem d_Md_step_272 : decode b_Md_step 272 = .ok (.aload_n 0, 1) := by decide +kernel
theorem d_Md_step_273 : decode b_Md_step 273 = .ok (.getfield 210, 3) := by decide +kernel
theorem d_Md_step_276 : decode b_Md_step 276 = .ok (.lastore, 1) := by decide +kernel
theorem d_Md_step_277 : decode b_Md_step 277 = .ok (.aload_n 0, 1) := by decide +kernel
theorem d_Md_step_278 : decode b_Md_step 278 = .ok (.getfield 36, 3) := by decide +kernel
theorem d_Md_step_281 : decode b_Md_step 281 = .ok (.iconst 0, 1) := by decide +kernel
theorem d_Md_step_282 : decode b_Md_step 282 = .ok (.aload_n 0, 1) := by decide +kernel
theorem d_Md_step_283 : decode b_Md_step 283 = .ok (.getfield 7, 3) := by decide +kernel
theorem d_Md_step_286 : decode b_Md_step 286 = .ok (.iconst 4, 1) := by decide +kernel
theorem d_Md_step_287 : decode b_Md_step 287 = .ok (.iaload, 1) := by decide +kernel
theorem d_Md_step_288 : decode b_Md_step 288 = .ok (.aload_n 0, 1) := by decide +kernel
theorem d_Md_step_289 : decode b_Md_step 289 = .ok (.getfield 200, 3) := by decide +kernel
theorem d_Md_step_292 : decode b_Md_step 292 = .ok (.imul, 1) := by decide +kernel
theorem d_Md_step_293 : decode b_Md_step 293 = .ok (.bipush 10, 2) := by decide +kernel
theorem d_Md_step_295 : decode b_Md_step 295 = .ok (.idiv, 1) := by decide +kernel
theorem d_Md_step_296 : decode b_Md_step 296 = .ok (.i2l, 1) := by decide +kernel
theorem d_Md_step_297 : decode b_Md_step 297 = .ok (.lload_n 1, 1) := by decide +kernel
theorem d_Md_step_298 : decode b_Md_step 298 = .ok (.ladd, 1) := by decide +kernel
theorem d_Md_step_299 : decode b_Md_step 299 = .ok (.lastore, 1) := by decide +kernel
theorem d_Md_step_300 : decode b_Md_step 300 = .ok (.aload_n 0, 1) := by decide +kernel
theorem d_Md_step_301 : decode b_Md_step 301 = .ok (.getfield 16, 3) := by decide +kernel
theorem d_Md_step_304 : decode b_Md_step 304 = .ok (.iconst 0, 1) := by decide +kernel
theorem d_Md_step_305 : decode b_Md_step 305 = .ok (.aload_n 0, 1) := by decide +kernel
theorem d_Md_step_306 : decode b_Md_step 306 = .ok (.getfield 67, 3) := by decide +kernel
theorem d_Md_step_309 : decode b_Md_step 309 = .ok (.iadd, 1) := by decide +kernel
theorem d_Md_step_310 : decode b_Md_step 310 = .ok (.iconst 1, 1) := by decide +kernel
theorem d_Md_step_311 : decode b_Md_step 311 = .ok (.isub, 1) := by decide +kernel
theorem d_Md_step_312 : decode b_Md_step 312 = .ok (.laload, 1) := by decide +kernel
theorem d_Md_step_313 : decode b_Md_step 313 = .ok (.lstore_n 3, 1) := by decide +kernel
theorem d_Md_step_314 : decode b_Md_step 314 = .ok (.aload_n 0, 1) := by decide +kernel
theorem d_Md_step_315 : decode b_Md_step 315 = .ok (.aload_n 0, 1) := by decide +kernel
theorem d_Md_step_316 : decode b_Md_step 316 = .ok (.getfield 7, 3) := by decide +kernel
theorem d_Md_step_319 : decode b_Md_step 319 = .ok (.sipush 5602, 3) := by decide +kernel
theorem d_Md_step_322 : decode b_Md_step 322 = .ok (.iaload, 1) := by decide +kernel
theorem d_Md_step_323 : decode b_Md_step 323 = .ok (.i2l, 1) := by decide +kernel
theorem d_Md_step_324 : decode b_Md_step 324 = .ok (.lload_n 3, 1) := by decide +kernel
theorem d_Md_step_325 : decode b_Md_step 325 = .ok (.lmul, 1) := by decide +kernel
theorem d_Md_step_326 : decode b_Md_step 326 = .ok (.aload_n 0, 1) := by decide +kernel
theorem d_Md_step_327 : decode b_Md_step 327 = .ok (.getfield 16, 3) := by decide +kernel
theorem d_Md_step_330 : decode b_Md_step 330 = .ok (.bipush 15, 2) := by decide +kernel
theorem d_Md_step_332 : decode b_Md_step 332 = .ok (.laload, 1) := by decide +kernel
theorem d_Md_step_333 : decode b_Md_step 333 = .ok (.ladd, 1) := by decide +kernel
theorem d_Md_step_334 : decode b_Md_step 334 = .ok (.ldc2_w 220, 3) := by decide +kernel
theorem d_Md_step_337 : decode b_Md_step 337 = .ok (.invokevirtual 216, 3) := by decide +kernel
theorem d_Md_step_340 : decode b_Md_step 340 = .ok (.lstore 5, 2) := by decide +kernel
theorem d_Md_step_342 : decode b_Md_step 342 = .ok (.aload_n 0, 1) := by decide +kernel
theorem d_Md_step_343 : decode b_Md_step 343 = .ok (.getfield 16, 3) := by decide +kernel
theorem d_Md_step_346 : decode b_Md_step 346 = .ok (.bipush 15, 2) := by decide +kernel
theorem d_Md_step_348 : decode b_Md_step 348 = .ok (.aload_n 0, 1) := by decide +kernel
theorem d_Md_step_349 : decode b_Md_step 349 = .ok (.getfield 210, 3) := by decide +kernel
theorem d_Md_step_352 : decode b_Md_step 352 = .ok (.lastore, 1) := by decide +kernel
theorem d_Md_step_353 : decode b_Md_step 353 = .ok (.aload_n 0, 1) := by decide +kernel
theorem d_Md_step_354 : decode b_Md_step 354 = .ok (.getfield 36, 3) := by decide +kernel
theorem d_Md_step_357 : decode b_Md_step 357 = .ok (.iconst 5, 1) := by decide +kernel
theorem d_Md_step_358 : decode b_Md_step 358 = .ok (.aload_n 0, 1) := by decide +kernel
theorem d_Md_step_359 : decode b_Md_step 359 = .ok (.getfield 67, 3) := by decide +kernel
theorem d_Md_step_362 : decode b_Md_step 362 = .ok (.iadd, 1) := by decide +kernel
theorem d_Md_step_363 : decode b_Md_step 363 = .ok (.iconst 1, 1) := by decide +kernel
theorem d_Md_step_364 : decode b_Md_step 364 = .ok (.isub, 1) := by decide +kernel
theorem d_Md_step_365 : decode b_Md_step 365 = .ok (.lload 5, 2) := by decide +kernel
theorem d_Md_step_367 : decode b_Md_step 367 = .ok (.lneg, 1) := by decide +kernel
theorem d_Md_step_368 : decode b_Md_step 368 = .ok (.lastore, 1) := by decide +kernel
theorem d_Md_step_369 : decode b_Md_step 369 = .ok (.aload_n 0, 1) := by decide +kernel
theorem d_Md_step_370 : decode b_Md_step 370 = .ok (.getfield 16, 3) := by decide +kernel
theorem d_Md_step_373 : decode b_Md_step 373 = .ok (.bipush 16, 2) := by decide +kernel
theorem d_Md_step_375 : decode b_Md_step 375 = .ok (.aload_n 0, 1) := by decide +kernel
theorem d_Md_step_376 : decode b_Md_step 376 = .ok (.getfield 222, 3) := by decide +kernel
theorem d_Md_step_379 : decode b_Md_step 379 = .ok (.iadd, 1) := by decide +kernel
theorem d_Md_step_380 : decode b_Md_step 380 = .ok (.lload_n 3, 1) := by decide +kernel
theorem d_Md_step_381 : decode b_Md_step 381 = .ok (.lload 5, 2) := by decide +kernel
theorem d_Md_step_383 : decode b_Md_step 383 = .ok (.ladd, 1) := by decide +kernel
theorem d_Md_step_384 : decode b_Md_step 384 = .ok (.lastore, 1) := by decide +kernel
theorem d_Md_step_385 : decode b_Md_step 385 = .ok (.aload_n 0, 1) := by decide +kernel
theorem d_Md_step_386 : decode b_Md_step 386 = .ok (.dup, 1) := by decide +kernel
theorem d_Md_step_387 : decode b_Md_step 387 = .ok (.getfield 222, 3) := by decide +kernel
theorem d_Md_step_390 : decode b_Md_step 390 = .ok (.iconst 1, 1) := by decide +kernel
theorem d_Md_step_391 : decode b_Md_step 391 = .ok (.iadd, 1) := by decide +kernel
theorem d_Md_step_392 : decode b_Md_step 392 = .ok (.putfield 222, 3) := by decide +kernel
theorem d_Md_step_395 : decode b_Md_step 395 = .ok (.iconst 0, 1) := by decide +kernel
theorem d_Md_step_396 : decode b_Md_step 396 = .ok (.istore 7, 2) := by decide +kernel
theorem d_Md_step_398 : decode b_Md_step 398 = .ok (.iload 7, 2) := by decide +kernel
theorem d_Md_step_400 : decode b_Md_step 400 = .ok (.aload_n 0, 1) := by decide +kernel
theorem d_Md_step_401 : decode b_Md_step 401 = .ok (.getfield 67, 3) := by decide +kernel
theorem d_Md_step_404 : decode b_Md_step 404 = .ok (.if_icmp .ge 53, 3) := by decide +kernel
theorem d_Md_step_407 : decode b_Md_step 407 = .ok (.aload_n 0, 1) := by decide +kernel
theorem d_Md_step_408 : decode b_Md_step 408 = .ok (.getfield 16, 3) := by decide +kernel
theorem d_Md_step_411 : decode b_Md_step 411 = .ok (.iconst 0, 1) := by decide +kernel
theorem d_Md_step_412 : decode b_Md_step 412 = .ok (.iload 7, 2) := by decide +kernel
theorem d_Md_step_414 : decode b_Md_step 414 = .ok (.iadd, 1) := by decide +kernel
theorem d_Md_step_415 : decode b_Md_step 415 = .ok (.aload_n 0, 1) := by decide +kernel
theorem d_Md_step_416 : decode b_Md_step 416 = .ok (.aload_n 0, 1) := by decide +kernel
theorem d_Md_step_417 : decode b_Md_step 417 = .ok (.getfield 36, 3) := by decide +kernel
theorem d_Md_step_420 : decode b_Md_step 420 = .ok (.iconst 0, 1) := by decide +kernel
theorem d_Md_step_421 : decode b_Md_step 421 = .ok (.iload 7, 2) := by decide +kernel
theorem d_Md_step_423 : decode b_Md_step 423 = .ok (.iadd, 1) := by decide +kernel
theorem d_Md_step_424 : decode b_Md_step 424 = .ok (.laload, 1) := by decide +kernel
theorem d_Md_step_425 : decode b_Md_step 425 = .ok (.invokevirtual 225, 3) := by decide +kernel
theorem d_Md_step_428 : decode b_Md_step 428 = .ok (.lastore, 1) := by decide +kernel
theorem d_Md_step_429 : decode b_Md_step 429 = .ok (.aload_n 0, 1) := by decide +kernel
theorem d_Md_step_430 : decode b_Md_step 430 = .ok (.getfield 16, 3) := by decide +kernel
theorem d_Md_step_433 : decode b_Md_step 433 = .ok (.iconst 5, 1) := by decide +kernel
theorem d_Md_step_434 : decode b_Md_step 434 = .ok (.iload 7, 2) := by decide +kernel
theorem d_Md_step_436 : decode b_Md_step 436 = .ok (.iadd, 1) := by decide +kernel
theorem d_Md_step_437 : decode b_Md_step 437 = .ok (.aload_n 0, 1) := by decide +kernel
theorem d_Md_step_438 : decode b_Md_step 438 = .ok (.aload_n 0, 1) := by decide +kernel
theorem d_Md_step_439 : decode b_Md_step 439 = .ok (.getfield 36, 3) := by decide +kernel
theorem d_Md_step_442 : decode b_Md_step 442 = .ok (.iconst 5, 1) := by decide +kernel
theorem d_Md_step_443 : decode b_Md_step 443 = .ok (.iload 7, 2) := by decide +kernel
theorem d_Md_step_445 : decode b_Md_step 445 = .ok (.iadd, 1) := by decide +kernel
theorem d_Md_step_446 : decode b_Md_step 446 = .ok (.laload, 1) := by decide +kernel
theorem d_Md_step_447 : decode b_Md_step 447 = .ok (.invokevirtual 225, 3) := by decide +kernel
theorem d_Md_step_450 : decode b_Md_step 450 = .ok (.lastore, 1) := by decide +kernel
theorem d_Md_step_451 : decode b_Md_step 451 = .ok (.iinc 7 1, 3) := by decide +kernel
theorem d_Md_step_454 : decode b_Md_step 454 = .ok (.goto (-56), 3) := by decide +kernel
theorem d_Md_step_457 : decode b_Md_step 457 = .ok (.return_, 1) := by decide +kernel
theorem wv_Md_213 : wV R_Md 213 y_Md_foldStep b_Md_foldStep 2 none 1 := ⟨⟨gw_tb (List.mem_of_getElem? (i := 1225) (by decide +kernel)) rfl, gw_tb (List.mem_of_getElem? (i := 13) (by decide +kernel)) rfl, gw_tb (List.mem_of_getElem? (i := 1228) (by decide +kernel)) rfl, by decide, by decide, by decide +kernel⟩, gw_tb (List.mem_of_getElem? (i := 1227) (by decide +kernel)) rfl, gw_of (List.mem_append_left _ (List.mem_of_getElem? (i := 49) (by decide +kernel))) rfl⟩
theorem wc_Md_220 : Cond.constantLong R_Md 220 (100) ∈ gw_tbl := gw_tb (List.mem_of_getElem? (i := 1233) (by decide +kernel)) rfl
theorem wv_Md_216 : wV R_Md 216 y_Md_part b_Md_part 7 (some .long) 2 := ⟨⟨gw_tb (List.mem_of_getElem? (i := 1229) (by decide +kernel)) rfl, gw_tb (List.mem_of_getElem? (i := 13) (by decide +kernel)) rfl, gw_tb (List.mem_of_getElem? (i := 1232) (by decide +kernel)) rfl, by decide, by decide, by decide +kernel⟩, gw_tb (List.mem_of_getElem? (i := 1231) (by decide +kernel)) rfl, gw_of (List.mem_append_left _ (List.mem_of_getElem? (i := 50) (by decide +kernel))) rfl⟩
theorem wf_Md_36 : Cond.fieldLink R_Md 36 R_Md "then" "[J" ∈ gw_tbl := gw_tb (List.mem_of_getElem? (i := 999) (by decide +kernel)) rfl
theorem wf_Md_222 : Cond.fieldLink R_Md 222 R_Md "stepNow" "I" ∈ gw_tbl := gw_tb (List.mem_of_getElem? (i := 1001) (by decide +kernel)) rfl
theorem wv_Md_225 : wV R_Md 225 y_Md_less b_Md_less 5 (some .long) 1 := ⟨⟨gw_tb (List.mem_of_getElem? (i := 1234) (by decide +kernel)) rfl, gw_tb (List.mem_of_getElem? (i := 13) (by decide +kernel)) rfl, gw_tb (List.mem_of_getElem? (i := 1237) (by decide +kernel)) rfl, by decide, by decide, by decide +kernel⟩, gw_tb (List.mem_of_getElem? (i := 1236) (by decide +kernel)) rfl, gw_of (List.mem_append_left _ (List.mem_of_getElem? (i := 51) (by decide +kernel))) rfl⟩
def f_Md_step_398 (Q : Ob → Prop) : Nat → Int32 → Ob → Prop
  | 0, _, _ => False
  | n + 1, x7, o0 => ((gI o0 0) ≤ x7 → (Q o0)) ∧ (¬ (gI o0 0) ≤ x7 → ((vp_in ((0 : Int32) + x7) 10) ∧ (∀ y3 : Int64, y3 = ((gB o0 28) (((0 : Int32) + x7).toNatClampNeg)) → (f_Md_less y3 o0 (fun z4 => (vp_in ((0 : Int32) + x7) 2016) ∧ ((vp_in ((5 : Int32) + x7) 10) ∧ (∀ y7 : Int64, y7 = ((gB o0 28) (((5 : Int32) + x7).toNatClampNeg)) → (f_Md_less y7 (sB o0 3 (vp_updL (gB o0 3) (((0 : Int32) + x7).toNatClampNeg) z4)) (fun z8 => (vp_in ((5 : Int32) + x7) 2016) ∧ ((f_Md_step_398 Q n) (x7 + (1 : Int32)) (sB o0 3 (vp_updL (vp_updL (gB o0 3) (((0 : Int32) + x7).toNatClampNeg) z4) (((5 : Int32) + x7).toNatClampNeg) z8))))))))))))
def f_Md_step_92 (Q : Ob → Prop) : Nat → Int32 → Ob → Prop
  | 0, _, _ => False
  | n + 1, x1, o0 => (((gI o0 0) - (1 : Int32)) ≤ x1 → (∀ y11 : Int64, y11 = (((((gA o0 1) 5603).toInt64) * ((gB o0 3) 5)) + ((gB o0 3) 14)) → (f_Md_part y11 (100 : Int64) o0 (fun z12 u13 => ∀ y14 : Int32, y14 = ((((gA u13 1) 4) * (gI u13 24)) / (10 : Int32)) → ((vp_in (((0 : Int32) + (gI u13 0)) - (1 : Int32)) 2016) ∧ (∀ y16 : Int64, y16 = ((vp_updL (gB u13 3) 14 (gL u13 29)) ((((0 : Int32) + (gI u13 0)) - (1 : Int32)).toNatClampNeg)) → (∀ y17 : Int64, y17 = (((((gA u13 1) 5602).toInt64) * y16) + ((vp_updL (gB u13 3) 14 (gL u13 29)) 15)) → (f_Md_part y17 (100 : Int64) (sB (sB u13 3 (vp_updL (gB u13 3) 14 (gL u13 29))) 28 (vp_updL (gB u13 28) 0 ((y14.toInt64) + z12))) (fun z18 u19 => (vp_in (((5 : Int32) + (gI u19 0)) - (1 : Int32)) 10) ∧ ((vp_in ((16 : Int32) + (gI u19 30)) 2016) ∧ ((∃ w, f_Md_step_398 Q w (0 : Int32) (sB (sB (sI u19 30 ((gI u19 30) + (1 : Int32))) 3 (vp_updL (vp_updL (gB u19 3) 15 (gL u19 29)) (((16 : Int32) + (gI u19 30)).toNatClampNeg) (y16 + z18))) 28 (vp_updL (gB u19 28) ((((5 : Int32) + (gI u19 0)) - (1 : Int32)).toNatClampNeg) (-z18))))))))))))))) ∧ (¬ ((gI o0 0) - (1 : Int32)) ≤ x1 → ((vp_in ((0 : Int32) + x1) 2016) ∧ ((vp_in (((5 : Int32) + x1) + (1 : Int32)) 2016) ∧ (∀ y24 : Int64, y24 = ((gB o0 3) ((((5 : Int32) + x1) + (1 : Int32)).toNatClampNeg)) → ((vp_in (((20 : Int32) + x1) + (1 : Int32)) 6100) ∧ (∀ y26 : Int32, y26 = ((gA o0 1) ((((20 : Int32) + x1) + (1 : Int32)).toNatClampNeg)) → ((vp_in ((20 : Int32) + x1) 6100) ∧ (∀ y28 : Int32, y28 = ((gA o0 1) (((20 : Int32) + x1).toNatClampNeg)) → (∀ y29 : Int64, y29 = (((gB o0 3) (((0 : Int32) + x1).toNatClampNeg)) + y24) → ((vp_in ((10 : Int32) + x1) 2016) ∧ (∀ y31 : Int64, y31 = ((gB o0 3) (((10 : Int32) + x1).toNatClampNeg)) → ((vp_in ((20 : Int32) + x1) 6100) ∧ (∀ y33 : Int32, y33 = ((gA o0 1) (((20 : Int32) + x1).toNatClampNeg)) → ((vp_in (((20 : Int32) + x1) + (1 : Int32)) 6100) ∧ (∀ y35 : Int32, y35 = ((gA o0 1) ((((20 : Int32) + x1) + (1 : Int32)).toNatClampNeg)) → (f_Md_part ((((y26 - y28).toInt64) * y29) + y31) ((y33 + y35).toInt64) o0 (fun z36 u37 => (vp_in ((10 : Int32) + x1) 2016) ∧ (∀ y39 : Int64, y39 = (((gB o0 3) (((0 : Int32) + x1).toNatClampNeg)) + z36) → ((vp_in (((0 : Int32) + x1) + (1 : Int32)) 10) ∧ ((vp_in ((5 : Int32) + x1) 10) ∧ ((f_Md_step_92 Q n) (x1 + (1 : Int32)) (sB (sB u37 3 (vp_updL (gB u37 3) (((10 : Int32) + x1).toNatClampNeg) (gL u37 29))) 28 (vp_updL (vp_updL (gB u37 28) ((((0 : Int32) + x1) + (1 : Int32)).toNatClampNeg) y39) (((5 : Int32) + x1).toNatClampNeg) (y24 - z36))))))))))))))))))))))))
def f_Md_step (o0 : Ob) (Q : Ob → Prop) : Prop := f_Md_foldStep ((gA o0 1) 4) (sI (sI o0 24 ((gA o0 1) 7)) 25 ((gA o0 1) 8)) (fun u42 => ∀ y43 : Int32, y43 = ((upd (upd (gA u42 1) 7 (gI u42 24)) 8 (gI u42 25)) 9) → (∀ y44 : Int32, y44 = ((upd (upd (upd (gA u42 1) 7 (gI u42 24)) 8 (gI u42 25)) 9 (y43 + (gI u42 26))) 10) → (((gI u42 27) = 0 → ((∃ w, f_Md_step_92 Q w (0 : Int32) (sA u42 1 (upd (upd (upd (upd (gA u42 1) 7 (gI u42 24)) 8 (gI u42 25)) 9 (y43 + (gI u42 26))) 10 (y44 + (0 : Int32))))))) ∧ (¬ (gI u42 27) = 0 → ((∃ w, f_Md_step_92 Q w (0 : Int32) (sA u42 1 (upd (upd (upd (upd (gA u42 1) 7 (gI u42 24)) 8 (gI u42 25)) 9 (y43 + (gI u42 26))) 10 (y44 + (1 : Int32))))))))))
abbrev rm_Md_step : Room := { frames := 1, cells := 0, slots := 0, locals := 26 }
set_option maxHeartbeats 4000000 in
set_option maxRecDepth 100000 in
theorem t_Md_step_398 {p : Program} {l : Launch} {e : Env} {s : State} {m : MethodId} {args : Array Value} {below : List Frame} {meth : Method} {c : Code} {A : Nat → Prop} {G : Gl} {h0 : Nat} {q0 : Nat → Nat} (Q : Ob → Prop) (C : Cx p s m args meth c R_Md b_Md_step 8 none G A) :
    ∀ (n : Nat) (x7 : Int32) (o0 : Ob) (ls : Array Slot) (H : Heap) (locs : List Loc), lv_has ls 8 [(0, .ref h0), (7, .int x7)] → va_P G.1 CL (cw_Md G h0 q0 o0) H → va_D A (cw_Md G h0 q0 o0) → va_S A s.heap H locs → f_Md_step_398 Q n x7 o0 → W p l e rm_Md_step s m args below meth c H locs 0 0 (MQ below (va_Qv (fun (u : Ob) => Q u) (fun (u : Ob) t => BW G A (cw_Md G h0 q0 u) t) A) args s 0 0 A) (F0 m 398 ls []) := by
  obtain ⟨hx, hb, hml, hown, hr, hts, hK, hA, hlocks, hE⟩ := id C
  intro n
  induction n with
  | zero => intro x7 o0 ls H locs hl hP hD hS h; exact absurd h id
  | succ n ih =>
    intro x7 o0 ls H locs hl hP hD hS h
    have hP : va_P G.1 CL [(h0, .inr (11, [.int (gI o0 0), .ref (q0 1), .ref (q0 2), .ref (q0 3), .ref (q0 4), .ref (q0 5), .ref (q0 6), .int (gI o0 7), .int (gI o0 8), .int (gI o0 9), .int (gI o0 10), .int (gI o0 11), .int (gI o0 12), .int (gI o0 13), .int (gI o0 14), .long (gL o0 15), .int (gI o0 16), .int (gI o0 17), .int (gI o0 18), .int (gI o0 19), .int (gI o0 20), .int (gI o0 21), .int (gI o0 22), .int (gI o0 23), .int (gI o0 24), .int (gI o0 25), .int (gI o0 26), .int (gI o0 27), .ref (q0 28), .long (gL o0 29), .int (gI o0 30), .ref (q0 31), .ref (q0 32), .ref (q0 33), .int (gI o0 34), .int (gI o0 35), .int (gI o0 36), .int (gI o0 37), .ref (q0 38), .ref (q0 39), .int (gI o0 40), .ref (q0 41), .ref (q0 42), .ref (q0 43), .ref (q0 44)])), kI G (q0 1) 6100 (gA o0 1), kI G (q0 2) 6100 (gA o0 2), kJ G (q0 3) 2016 (gB o0 3), kJ G (q0 4) 2016 (gB o0 4), kI G (q0 5) 300 (gA o0 5), kI G (q0 6) 400 (gA o0 6), kJ G (q0 28) 10 (gB o0 28), kI G (q0 31) 969 (gA o0 31), kI G (q0 32) 969 (gA o0 32), kI G (q0 33) 969 (gA o0 33), kI G (q0 38) 5 (gA o0 38), kI G (q0 39) 5120 (gA o0 39), kI G (q0 41) 5 (gA o0 41), kZ G (q0 42) 1024 (gA o0 42), kI G (q0 43) 8192 (gA o0 43), kI G (q0 44) 8192 (gA o0 44)] H := hP
    have hD : va_D A [(h0, .inr (11, [.int (gI o0 0), .ref (q0 1), .ref (q0 2), .ref (q0 3), .ref (q0 4), .ref (q0 5), .ref (q0 6), .int (gI o0 7), .int (gI o0 8), .int (gI o0 9), .int (gI o0 10), .int (gI o0 11), .int (gI o0 12), .int (gI o0 13), .int (gI o0 14), .long (gL o0 15), .int (gI o0 16), .int (gI o0 17), .int (gI o0 18), .int (gI o0 19), .int (gI o0 20), .int (gI o0 21), .int (gI o0 22), .int (gI o0 23), .int (gI o0 24), .int (gI o0 25), .int (gI o0 26), .int (gI o0 27), .ref (q0 28), .long (gL o0 29), .int (gI o0 30), .ref (q0 31), .ref (q0 32), .ref (q0 33), .int (gI o0 34), .int (gI o0 35), .int (gI o0 36), .int (gI o0 37), .ref (q0 38), .ref (q0 39), .int (gI o0 40), .ref (q0 41), .ref (q0 42), .ref (q0 43), .ref (q0 44)])), kI G (q0 1) 6100 (gA o0 1), kI G (q0 2) 6100 (gA o0 2), kJ G (q0 3) 2016 (gB o0 3), kJ G (q0 4) 2016 (gB o0 4), kI G (q0 5) 300 (gA o0 5), kI G (q0 6) 400 (gA o0 6), kJ G (q0 28) 10 (gB o0 28), kI G (q0 31) 969 (gA o0 31), kI G (q0 32) 969 (gA o0 32), kI G (q0 33) 969 (gA o0 33), kI G (q0 38) 5 (gA o0 38), kI G (q0 39) 5120 (gA o0 39), kI G (q0 41) 5 (gA o0 41), kZ G (q0 42) 1024 (gA o0 42), kI G (q0 43) 8192 (gA o0 43), kI G (q0 44) 8192 (gA o0 44)] := hD
    unfold f_Md_step_398 at h
    refine lv_iload hx hb d_Md_step_398 (lv_at hl 1 rfl) ?_
    refine lv_aload_n hx hb d_Md_step_400 rfl (lv_at hl 0 rfl) ?_
    refine va_get (D := G.1) (ci := 11) (v := .int (gI o0 0)) (C := R_Md) (T := T_Md) (N := 45) hx hb hts i_Md hown hK hP 0 rfl rfl 0 (by decide) (hts _ wf_Md_67) (fun _ h9 => h9) rfl d_Md_step_401 ?_
    refine lv_icmp_ge (tgt := 457) hx hb d_Md_step_404 (by decide) (fun c1 => ?_) (fun c1 => ?_)
    · have h := h.1 c1
      have hP : va_P G.1 CL (cw_Md G h0 q0 o0) H := hP
      have hD : va_D A (cw_Md G h0 q0 o0) := hD
      exact W.vret hx hb hr (fun t ht hW => ⟨⟨o0, rfl, h, by rw [ht]; exact hP, va_K.moved hW.alike hK, hD⟩, hS.F ht⟩) hS.2.2 d_Md_step_457
    · have h := h.2 c1
      refine lv_aload_n hx hb d_Md_step_407 rfl (lv_at hl 0 rfl) ?_
      refine va_get (D := G.1) (ci := 11) (v := .ref (q0 3)) (C := R_Md) (T := T_Md) (N := 45) hx hb hts i_Md hown hK hP 0 rfl rfl 3 (by decide) (hts _ wf_Md_16) (fun _ h9 => h9) rfl d_Md_step_408 ?_
      refine lv_iconst (v := (0 : Int32)) hx hb d_Md_step_411 (by decide) ?_
      refine lv_iload hx hb d_Md_step_412 (lv_at hl 1 rfl) ?_
      refine lv_iadd hx hb d_Md_step_414 ?_
      refine lv_aload_n hx hb d_Md_step_415 rfl (lv_at hl 0 rfl) ?_
      refine lv_aload_n hx hb d_Md_step_416 rfl (lv_at hl 0 rfl) ?_
      refine va_get (D := G.1) (ci := 11) (v := .ref (q0 28)) (C := R_Md) (T := T_Md) (N := 45) hx hb hts i_Md hown hK hP 0 rfl rfl 28 (by decide) (hts _ wf_Md_36) (fun _ h9 => h9) rfl d_Md_step_417 ?_
      refine lv_iconst (v := (0 : Int32)) hx hb d_Md_step_420 (by decide) ?_
      refine lv_iload hx hb d_Md_step_421 (lv_at hl 1 rfl) ?_
      refine lv_iadd hx hb d_Md_step_423 ?_
      have g2 := h.1
      have h := h.2
      refine xa_lald hx hb hK hP 7 1 rfl rfl g2 (k := ((0 : Int32) + x7).toNatClampNeg) rfl d_Md_step_424 ?_
      refine lv_topl (fun y3 ey3 => ?_)
      have h := h y3 ey3
      refine cl_Vl (b := b_Md_step) (As := [.long y3]) (rest := [.int ((0 : Int32) + x7), .ref (q0 3)]) (ws := [(h0, .inr (11, [.int (gI o0 0), .ref (q0 1), .ref (q0 2), .ref (q0 3), .ref (q0 4), .ref (q0 5), .ref (q0 6), .int (gI o0 7), .int (gI o0 8), .int (gI o0 9), .int (gI o0 10), .int (gI o0 11), .int (gI o0 12), .int (gI o0 13), .int (gI o0 14), .long (gL o0 15), .int (gI o0 16), .int (gI o0 17), .int (gI o0 18), .int (gI o0 19), .int (gI o0 20), .int (gI o0 21), .int (gI o0 22), .int (gI o0 23), .int (gI o0 24), .int (gI o0 25), .int (gI o0 26), .int (gI o0 27), .ref (q0 28), .long (gL o0 29), .int (gI o0 30), .ref (q0 31), .ref (q0 32), .ref (q0 33), .int (gI o0 34), .int (gI o0 35), .int (gI o0 36), .int (gI o0 37), .ref (q0 38), .ref (q0 39), .int (gI o0 40), .ref (q0 41), .ref (q0 42), .ref (q0 43), .ref (q0 44)])), kI G (q0 1) 6100 (gA o0 1), kI G (q0 2) 6100 (gA o0 2), kJ G (q0 3) 2016 (gB o0 3), kJ G (q0 4) 2016 (gB o0 4), kI G (q0 5) 300 (gA o0 5), kI G (q0 6) 400 (gA o0 6), kJ G (q0 28) 10 (gB o0 28), kI G (q0 31) 969 (gA o0 31), kI G (q0 32) 969 (gA o0 32), kI G (q0 33) 969 (gA o0 33), kI G (q0 38) 5 (gA o0 38), kI G (q0 39) 5120 (gA o0 39), kI G (q0 41) 5 (gA o0 41), kZ G (q0 42) 1024 (gA o0 42), kI G (q0 43) 8192 (gA o0 43), kI G (q0 44) 8192 (gA o0 44)]) (wr := []) (w2 := fun (u : Unit) => [(h0, .inr (11, [.int (gI o0 0), .ref (q0 1), .ref (q0 2), .ref (q0 3), .ref (q0 4), .ref (q0 5), .ref (q0 6), .int (gI o0 7), .int (gI o0 8), .int (gI o0 9), .int (gI o0 10), .int (gI o0 11), .int (gI o0 12), .int (gI o0 13), .int (gI o0 14), .long (gL o0 15), .int (gI o0 16), .int (gI o0 17), .int (gI o0 18), .int (gI o0 19), .int (gI o0 20), .int (gI o0 21), .int (gI o0 22), .int (gI o0 23), .int (gI o0 24), .int (gI o0 25), .int (gI o0 26), .int (gI o0 27), .ref (q0 28), .long (gL o0 29), .int (gI o0 30), .ref (q0 31), .ref (q0 32), .ref (q0 33), .int (gI o0 34), .int (gI o0 35), .int (gI o0 36), .int (gI o0 37), .ref (q0 38), .ref (q0 39), .int (gI o0 40), .ref (q0 41), .ref (q0 42), .ref (q0 43), .ref (q0 44)])), kI G (q0 1) 6100 (gA o0 1), kI G (q0 2) 6100 (gA o0 2), kJ G (q0 3) 2016 (gB o0 3), kJ G (q0 4) 2016 (gB o0 4), kI G (q0 5) 300 (gA o0 5), kI G (q0 6) 400 (gA o0 6), kJ G (q0 28) 10 (gB o0 28), kI G (q0 31) 969 (gA o0 31), kI G (q0 32) 969 (gA o0 32), kI G (q0 33) 969 (gA o0 33), kI G (q0 38) 5 (gA o0 38), kI G (q0 39) 5120 (gA o0 39), kI G (q0 41) 5 (gA o0 41), kZ G (q0 42) 1024 (gA o0 42), kI G (q0 43) 8192 (gA o0 43), kI G (q0 44) 8192 (gA o0 44)]) C (c_Md_less (h0 := h0) (q0 := q0) H.size h) wv_Md_225 ⟨Nat.le_of_ble_eq_true rfl, Nat.le_of_ble_eq_true rfl⟩ hP hD hS 0 rfl rfl [0, 1, 2, 3, 4, 5, 6, 7, 8, 9, 10, 11, 12, 13, 14, 15, 16] [] rfl rfl (by decide) (by decide) (by decide) [0, 1, 2, 3, 4, 5, 6, 7, 8, 9, 10, 11, 12, 13, 14, 15, 16] (by decide) (fun u => rfl) rfl hl.1 rfl (lv_room (Nat.le_of_ble_eq_true rfl)) d_Md_step_425 ⟨Nat.le_of_ble_eq_true rfl, Nat.le_of_ble_eq_true rfl⟩ rfl rfl (fun z4 u H locs h hP hD hS => ?_)
      have hP : va_P G.1 CL [(h0, .inr (11, [.int (gI o0 0), .ref (q0 1), .ref (q0 2), .ref (q0 3), .ref (q0 4), .ref (q0 5), .ref (q0 6), .int (gI o0 7), .int (gI o0 8), .int (gI o0 9), .int (gI o0 10), .int (gI o0 11), .int (gI o0 12), .int (gI o0 13), .int (gI o0 14), .long (gL o0 15), .int (gI o0 16), .int (gI o0 17), .int (gI o0 18), .int (gI o0 19), .int (gI o0 20), .int (gI o0 21), .int (gI o0 22), .int (gI o0 23), .int (gI o0 24), .int (gI o0 25), .int (gI o0 26), .int (gI o0 27), .ref (q0 28), .long (gL o0 29), .int (gI o0 30), .ref (q0 31), .ref (q0 32), .ref (q0 33), .int (gI o0 34), .int (gI o0 35), .int (gI o0 36), .int (gI o0 37), .ref (q0 38), .ref (q0 39), .int (gI o0 40), .ref (q0 41), .ref (q0 42), .ref (q0 43), .ref (q0 44)])), kI G (q0 1) 6100 (gA o0 1), kI G (q0 2) 6100 (gA o0 2), kJ G (q0 3) 2016 (gB o0 3), kJ G (q0 4) 2016 (gB o0 4), kI G (q0 5) 300 (gA o0 5), kI G (q0 6) 400 (gA o0 6), kJ G (q0 28) 10 (gB o0 28), kI G (q0 31) 969 (gA o0 31), kI G (q0 32) 969 (gA o0 32), kI G (q0 33) 969 (gA o0 33), kI G (q0 38) 5 (gA o0 38), kI G (q0 39) 5120 (gA o0 39), kI G (q0 41) 5 (gA o0 41), kZ G (q0 42) 1024 (gA o0 42), kI G (q0 43) 8192 (gA o0 43), kI G (q0 44) 8192 (gA o0 44)] H := hP
      have hD : va_D A [(h0, .inr (11, [.int (gI o0 0), .ref (q0 1), .ref (q0 2), .ref (q0 3), .ref (q0 4), .ref (q0 5), .ref (q0 6), .int (gI o0 7), .int (gI o0 8), .int (gI o0 9), .int (gI o0 10), .int (gI o0 11), .int (gI o0 12), .int (gI o0 13), .int (gI o0 14), .long (gL o0 15), .int (gI o0 16), .int (gI o0 17), .int (gI o0 18), .int (gI o0 19), .int (gI o0 20), .int (gI o0 21), .int (gI o0 22), .int (gI o0 23), .int (gI o0 24), .int (gI o0 25), .int (gI o0 26), .int (gI o0 27), .ref (q0 28), .long (gL o0 29), .int (gI o0 30), .ref (q0 31), .ref (q0 32), .ref (q0 33), .int (gI o0 34), .int (gI o0 35), .int (gI o0 36), .int (gI o0 37), .ref (q0 38), .ref (q0 39), .int (gI o0 40), .ref (q0 41), .ref (q0 42), .ref (q0 43), .ref (q0 44)])), kI G (q0 1) 6100 (gA o0 1), kI G (q0 2) 6100 (gA o0 2), kJ G (q0 3) 2016 (gB o0 3), kJ G (q0 4) 2016 (gB o0 4), kI G (q0 5) 300 (gA o0 5), kI G (q0 6) 400 (gA o0 6), kJ G (q0 28) 10 (gB o0 28), kI G (q0 31) 969 (gA o0 31), kI G (q0 32) 969 (gA o0 32), kI G (q0 33) 969 (gA o0 33), kI G (q0 38) 5 (gA o0 38), kI G (q0 39) 5120 (gA o0 39), kI G (q0 41) 5 (gA o0 41), kZ G (q0 42) 1024 (gA o0 42), kI G (q0 43) 8192 (gA o0 43), kI G (q0 44) 8192 (gA o0 44)] := hD
      have g5 := h.1
      have h := h.2
      refine xa_last hx hb hK hP hD hS 3 1 rfl rfl g5 (k := ((0 : Int32) + x7).toNatClampNeg) rfl d_Md_step_428 (fun H locs hP hD hS => ?_)
      have hP : va_P G.1 CL [(h0, .inr (11, [.int (gI o0 0), .ref (q0 1), .ref (q0 2), .ref (q0 3), .ref (q0 4), .ref (q0 5), .ref (q0 6), .int (gI o0 7), .int (gI o0 8), .int (gI o0 9), .int (gI o0 10), .int (gI o0 11), .int (gI o0 12), .int (gI o0 13), .int (gI o0 14), .long (gL o0 15), .int (gI o0 16), .int (gI o0 17), .int (gI o0 18), .int (gI o0 19), .int (gI o0 20), .int (gI o0 21), .int (gI o0 22), .int (gI o0 23), .int (gI o0 24), .int (gI o0 25), .int (gI o0 26), .int (gI o0 27), .ref (q0 28), .long (gL o0 29), .int (gI o0 30), .ref (q0 31), .ref (q0 32), .ref (q0 33), .int (gI o0 34), .int (gI o0 35), .int (gI o0 36), .int (gI o0 37), .ref (q0 38), .ref (q0 39), .int (gI o0 40), .ref (q0 41), .ref (q0 42), .ref (q0 43), .ref (q0 44)])), kI G (q0 1) 6100 (gA o0 1), kI G (q0 2) 6100 (gA o0 2), kJ G (q0 3) 2016 (vp_updL (gB o0 3) (((0 : Int32) + x7).toNatClampNeg) z4), kJ G (q0 4) 2016 (gB o0 4), kI G (q0 5) 300 (gA o0 5), kI G (q0 6) 400 (gA o0 6), kJ G (q0 28) 10 (gB o0 28), kI G (q0 31) 969 (gA o0 31), kI G (q0 32) 969 (gA o0 32), kI G (q0 33) 969 (gA o0 33), kI G (q0 38) 5 (gA o0 38), kI G (q0 39) 5120 (gA o0 39), kI G (q0 41) 5 (gA o0 41), kZ G (q0 42) 1024 (gA o0 42), kI G (q0 43) 8192 (gA o0 43), kI G (q0 44) 8192 (gA o0 44)] H := hP
      have hD : va_D A [(h0, .inr (11, [.int (gI o0 0), .ref (q0 1), .ref (q0 2), .ref (q0 3), .ref (q0 4), .ref (q0 5), .ref (q0 6), .int (gI o0 7), .int (gI o0 8), .int (gI o0 9), .int (gI o0 10), .int (gI o0 11), .int (gI o0 12), .int (gI o0 13), .int (gI o0 14), .long (gL o0 15), .int (gI o0 16), .int (gI o0 17), .int (gI o0 18), .int (gI o0 19), .int (gI o0 20), .int (gI o0 21), .int (gI o0 22), .int (gI o0 23), .int (gI o0 24), .int (gI o0 25), .int (gI o0 26), .int (gI o0 27), .ref (q0 28), .long (gL o0 29), .int (gI o0 30), .ref (q0 31), .ref (q0 32), .ref (q0 33), .int (gI o0 34), .int (gI o0 35), .int (gI o0 36), .int (gI o0 37), .ref (q0 38), .ref (q0 39), .int (gI o0 40), .ref (q0 41), .ref (q0 42), .ref (q0 43), .ref (q0 44)])), kI G (q0 1) 6100 (gA o0 1), kI G (q0 2) 6100 (gA o0 2), kJ G (q0 3) 2016 (vp_updL (gB o0 3) (((0 : Int32) + x7).toNatClampNeg) z4), kJ G (q0 4) 2016 (gB o0 4), kI G (q0 5) 300 (gA o0 5), kI G (q0 6) 400 (gA o0 6), kJ G (q0 28) 10 (gB o0 28), kI G (q0 31) 969 (gA o0 31), kI G (q0 32) 969 (gA o0 32), kI G (q0 33) 969 (gA o0 33), kI G (q0 38) 5 (gA o0 38), kI G (q0 39) 5120 (gA o0 39), kI G (q0 41) 5 (gA o0 41), kZ G (q0 42) 1024 (gA o0 42), kI G (q0 43) 8192 (gA o0 43), kI G (q0 44) 8192 (gA o0 44)] := hD
      refine lv_aload_n hx hb d_Md_step_429 rfl (lv_at hl 0 rfl) ?_
      refine va_get (D := G.1) (ci := 11) (v := .ref (q0 3)) (C := R_Md) (T := T_Md) (N := 45) hx hb hts i_Md hown hK hP 0 rfl rfl 3 (by decide) (hts _ wf_Md_16) (fun _ h9 => h9) rfl d_Md_step_430 ?_
      refine lv_iconst (v := (5 : Int32)) hx hb d_Md_step_433 (by decide) ?_
      refine lv_iload hx hb d_Md_step_434 (lv_at hl 1 rfl) ?_
      refine lv_iadd hx hb d_Md_step_436 ?_
      refine lv_aload_n hx hb d_Md_step_437 rfl (lv_at hl 0 rfl) ?_
      refine lv_aload_n hx hb d_Md_step_438 rfl (lv_at hl 0 rfl) ?_
      refine va_get (D := G.1) (ci := 11) (v := .ref (q0 28)) (C := R_Md) (T := T_Md) (N := 45) hx hb hts i_Md hown hK hP 0 rfl rfl 28 (by decide) (hts _ wf_Md_36) (fun _ h9 => h9) rfl d_Md_step_439 ?_
      refine lv_iconst (v := (5 : Int32)) hx hb d_Md_step_442 (by decide) ?_
      refine lv_iload hx hb d_Md_step_443 (lv_at hl 1 rfl) ?_
      refine lv_iadd hx hb d_Md_step_445 ?_
      have g6 := h.1
      have h := h.2
      refine xa_lald hx hb hK hP 7 1 rfl rfl g6 (k := ((5 : Int32) + x7).toNatClampNeg) rfl d_Md_step_446 ?_
      refine lv_topl (fun y7 ey7 => ?_)
      have h := h y7 ey7
      refine cl_Vl (b := b_Md_step) (As := [.long y7]) (rest := [.int ((5 : Int32) + x7), .ref (q0 3)]) (ws := [(h0, .inr (11, [.int (gI o0 0), .ref (q0 1), .ref (q0 2), .ref (q0 3), .ref (q0 4), .ref (q0 5), .ref (q0 6), .int (gI o0 7), .int (gI o0 8), .int (gI o0 9), .int (gI o0 10), .int (gI o0 11), .int (gI o0 12), .int (gI o0 13), .int (gI o0 14), .long (gL o0 15), .int (gI o0 16), .int (gI o0 17), .int (gI o0 18), .int (gI o0 19), .int (gI o0 20), .int (gI o0 21), .int (gI o0 22), .int (gI o0 23), .int (gI o0 24), .int (gI o0 25), .int (gI o0 26), .int (gI o0 27), .ref (q0 28), .long (gL o0 29), .int (gI o0 30), .ref (q0 31), .ref (q0 32), .ref (q0 33), .int (gI o0 34), .int (gI o0 35), .int (gI o0 36), .int (gI o0 37), .ref (q0 38), .ref (q0 39), .int (gI o0 40), .ref (q0 41), .ref (q0 42), .ref (q0 43), .ref (q0 44)])), kI G (q0 1) 6100 (gA o0 1), kI G (q0 2) 6100 (gA o0 2), kJ G (q0 3) 2016 (vp_updL (gB o0 3) (((0 : Int32) + x7).toNatClampNeg) z4), kJ G (q0 4) 2016 (gB o0 4), kI G (q0 5) 300 (gA o0 5), kI G (q0 6) 400 (gA o0 6), kJ G (q0 28) 10 (gB o0 28), kI G (q0 31) 969 (gA o0 31), kI G (q0 32) 969 (gA o0 32), kI G (q0 33) 969 (gA o0 33), kI G (q0 38) 5 (gA o0 38), kI G (q0 39) 5120 (gA o0 39), kI G (q0 41) 5 (gA o0 41), kZ G (q0 42) 1024 (gA o0 42), kI G (q0 43) 8192 (gA o0 43), kI G (q0 44) 8192 (gA o0 44)]) (wr := []) (w2 := fun (u : Unit) => [(h0, .inr (11, [.int (gI o0 0), .ref (q0 1), .ref (q0 2), .ref (q0 3), .ref (q0 4), .ref (q0 5), .ref (q0 6), .int (gI o0 7), .int (gI o0 8), .int (gI o0 9), .int (gI o0 10), .int (gI o0 11), .int (gI o0 12), .int (gI o0 13), .int (gI o0 14), .long (gL o0 15), .int (gI o0 16), .int (gI o0 17), .int (gI o0 18), .int (gI o0 19), .int (gI o0 20), .int (gI o0 21), .int (gI o0 22), .int (gI o0 23), .int (gI o0 24), .int (gI o0 25), .int (gI o0 26), .int (gI o0 27), .ref (q0 28), .long (gL o0 29), .int (gI o0 30), .ref (q0 31), .ref (q0 32), .ref (q0 33), .int (gI o0 34), .int (gI o0 35), .int (gI o0 36), .int (gI o0 37), .ref (q0 38), .ref (q0 39), .int (gI o0 40), .ref (q0 41), .ref (q0 42), .ref (q0 43), .ref (q0 44)])), kI G (q0 1) 6100 (gA o0 1), kI G (q0 2) 6100 (gA o0 2), kJ G (q0 3) 2016 (vp_updL (gB o0 3) (((0 : Int32) + x7).toNatClampNeg) z4), kJ G (q0 4) 2016 (gB o0 4), kI G (q0 5) 300 (gA o0 5), kI G (q0 6) 400 (gA o0 6), kJ G (q0 28) 10 (gB o0 28), kI G (q0 31) 969 (gA o0 31), kI G (q0 32) 969 (gA o0 32), kI G (q0 33) 969 (gA o0 33), kI G (q0 38) 5 (gA o0 38), kI G (q0 39) 5120 (gA o0 39), kI G (q0 41) 5 (gA o0 41), kZ G (q0 42) 1024 (gA o0 42), kI G (q0 43) 8192 (gA o0 43), kI G (q0 44) 8192 (gA o0 44)]) C (c_Md_less (h0 := h0) (q0 := q0) H.size h) wv_Md_225 ⟨Nat.le_of_ble_eq_true rfl, Nat.le_of_ble_eq_true rfl⟩ hP hD hS 0 rfl rfl [0, 1, 2, 3, 4, 5, 6, 7, 8, 9, 10, 11, 12, 13, 14, 15, 16] [] rfl rfl (by decide) (by decide) (by decide) [0, 1, 2, 3, 4, 5, 6, 7, 8, 9, 10, 11, 12, 13, 14, 15, 16] (by decide) (fun u => rfl) rfl hl.1 rfl (lv_room (Nat.le_of_ble_eq_true rfl)) d_Md_step_447 ⟨Nat.le_of_ble_eq_true rfl, Nat.le_of_ble_eq_true rfl⟩ rfl rfl (fun z8 u H locs h hP hD hS => ?_)
      have hP : va_P G.1 CL [(h0, .inr (11, [.int (gI o0 0), .ref (q0 1), .ref (q0 2), .ref (q0 3), .ref (q0 4), .ref (q0 5), .ref (q0 6), .int (gI o0 7), .int (gI o0 8), .int (gI o0 9), .int (gI o0 10), .int (gI o0 11), .int (gI o0 12), .int (gI o0 13), .int (gI o0 14), .long (gL o0 15), .int (gI o0 16), .int (gI o0 17), .int (gI o0 18), .int (gI o0 19), .int (gI o0 20), .int (gI o0 21), .int (gI o0 22), .int (gI o0 23), .int (gI o0 24), .int (gI o0 25), .int (gI o0 26), .int (gI o0 27), .ref (q0 28), .long (gL o0 29), .int (gI o0 30), .ref (q0 31), .ref (q0 32), .ref (q0 33), .int (gI o0 34), .int (gI o0 35), .int (gI o0 36), .int (gI o0 37), .ref (q0 38), .ref (q0 39), .int (gI o0 40), .ref (q0 41), .ref (q0 42), .ref (q0 43), .ref (q0 44)])), kI G (q0 1) 6100 (gA o0 1), kI G (q0 2) 6100 (gA o0 2), kJ G (q0 3) 2016 (vp_updL (gB o0 3) (((0 : Int32) + x7).toNatClampNeg) z4), kJ G (q0 4) 2016 (gB o0 4), kI G (q0 5) 300 (gA o0 5), kI G (q0 6) 400 (gA o0 6), kJ G (q0 28) 10 (gB o0 28), kI G (q0 31) 969 (gA o0 31), kI G (q0 32) 969 (gA o0 32), kI G (q0 33) 969 (gA o0 33), kI G (q0 38) 5 (gA o0 38), kI G (q0 39) 5120 (gA o0 39), kI G (q0 41) 5 (gA o0 41), kZ G (q0 42) 1024 (gA o0 42), kI G (q0 43) 8192 (gA o0 43), kI G (q0 44) 8192 (gA o0 44)] H := hP
      have hD : va_D A [(h0, .inr (11, [.int (gI o0 0), .ref (q0 1), .ref (q0 2), .ref (q0 3), .ref (q0 4), .ref (q0 5), .ref (q0 6), .int (gI o0 7), .int (gI o0 8), .int (gI o0 9), .int (gI o0 10), .int (gI o0 11), .int (gI o0 12), .int (gI o0 13), .int (gI o0 14), .long (gL o0 15), .int (gI o0 16), .int (gI o0 17), .int (gI o0 18), .int (gI o0 19), .int (gI o0 20), .int (gI o0 21), .int (gI o0 22), .int (gI o0 23), .int (gI o0 24), .int (gI o0 25), .int (gI o0 26), .int (gI o0 27), .ref (q0 28), .long (gL o0 29), .int (gI o0 30), .ref (q0 31), .ref (q0 32), .ref (q0 33), .int (gI o0 34), .int (gI o0 35), .int (gI o0 36), .int (gI o0 37), .ref (q0 38), .ref (q0 39), .int (gI o0 40), .ref (q0 41), .ref (q0 42), .ref (q0 43), .ref (q0 44)])), kI G (q0 1) 6100 (gA o0 1), kI G (q0 2) 6100 (gA o0 2), kJ G (q0 3) 2016 (vp_updL (gB o0 3) (((0 : Int32) + x7).toNatClampNeg) z4), kJ G (q0 4) 2016 (gB o0 4), kI G (q0 5) 300 (gA o0 5), kI G (q0 6) 400 (gA o0 6), kJ G (q0 28) 10 (gB o0 28), kI G (q0 31) 969 (gA o0 31), kI G (q0 32) 969 (gA o0 32), kI G (q0 33) 969 (gA o0 33), kI G (q0 38) 5 (gA o0 38), kI G (q0 39) 5120 (gA o0 39), kI G (q0 41) 5 (gA o0 41), kZ G (q0 42) 1024 (gA o0 42), kI G (q0 43) 8192 (gA o0 43), kI G (q0 44) 8192 (gA o0 44)] := hD
      have g9 := h.1
      have h := h.2
      refine xa_last hx hb hK hP hD hS 3 1 rfl rfl g9 (k := ((5 : Int32) + x7).toNatClampNeg) rfl d_Md_step_450 (fun H locs hP hD hS => ?_)
      have hP : va_P G.1 CL [(h0, .inr (11, [.int (gI o0 0), .ref (q0 1), .ref (q0 2), .ref (q0 3), .ref (q0 4), .ref (q0 5), .ref (q0 6), .int (gI o0 7), .int (gI o0 8), .int (gI o0 9), .int (gI o0 10), .int (gI o0 11), .int (gI o0 12), .int (gI o0 13), .int (gI o0 14), .long (gL o0 15), .int (gI o0 16), .int (gI o0 17), .int (gI o0 18), .int (gI o0 19), .int (gI o0 20), .int (gI o0 21), .int (gI o0 22), .int (gI o0 23), .int (gI o0 24), .int (gI o0 25), .int (gI o0 26), .int (gI o0 27), .ref (q0 28), .long (gL o0 29), .int (gI o0 30), .ref (q0 31), .ref (q0 32), .ref (q0 33), .int (gI o0 34), .int (gI o0 35), .int (gI o0 36), .int (gI o0 37), .ref (q0 38), .ref (q0 39), .int (gI o0 40), .ref (q0 41), .ref (q0 42), .ref (q0 43), .ref (q0 44)])), kI G (q0 1) 6100 (gA o0 1), kI G (q0 2) 6100 (gA o0 2), kJ G (q0 3) 2016 (vp_updL (vp_updL (gB o0 3) (((0 : Int32) + x7).toNatClampNeg) z4) (((5 : Int32) + x7).toNatClampNeg) z8), kJ G (q0 4) 2016 (gB o0 4), kI G (q0 5) 300 (gA o0 5), kI G (q0 6) 400 (gA o0 6), kJ G (q0 28) 10 (gB o0 28), kI G (q0 31) 969 (gA o0 31), kI G (q0 32) 969 (gA o0 32), kI G (q0 33) 969 (gA o0 33), kI G (q0 38) 5 (gA o0 38), kI G (q0 39) 5120 (gA o0 39), kI G (q0 41) 5 (gA o0 41), kZ G (q0 42) 1024 (gA o0 42), kI G (q0 43) 8192 (gA o0 43), kI G (q0 44) 8192 (gA o0 44)] H := hP
      have hD : va_D A [(h0, .inr (11, [.int (gI o0 0), .ref (q0 1), .ref (q0 2), .ref (q0 3), .ref (q0 4), .ref (q0 5), .ref (q0 6), .int (gI o0 7), .int (gI o0 8), .int (gI o0 9), .int (gI o0 10), .int (gI o0 11), .int (gI o0 12), .int (gI o0 13), .int (gI o0 14), .long (gL o0 15), .int (gI o0 16), .int (gI o0 17), .int (gI o0 18), .int (gI o0 19), .int (gI o0 20), .int (gI o0 21), .int (gI o0 22), .int (gI o0 23), .int (gI o0 24), .int (gI o0 25), .int (gI o0 26), .int (gI o0 27), .ref (q0 28), .long (gL o0 29), .int (gI o0 30), .ref (q0 31), .ref (q0 32), .ref (q0 33), .int (gI o0 34), .int (gI o0 35), .int (gI o0 36), .int (gI o0 37), .ref (q0 38), .ref (q0 39), .int (gI o0 40), .ref (q0 41), .ref (q0 42), .ref (q0 43), .ref (q0 44)])), kI G (q0 1) 6100 (gA o0 1), kI G (q0 2) 6100 (gA o0 2), kJ G (q0 3) 2016 (vp_updL (vp_updL (gB o0 3) (((0 : Int32) + x7).toNatClampNeg) z4) (((5 : Int32) + x7).toNatClampNeg) z8), kJ G (q0 4) 2016 (gB o0 4), kI G (q0 5) 300 (gA o0 5), kI G (q0 6) 400 (gA o0 6), kJ G (q0 28) 10 (gB o0 28), kI G (q0 31) 969 (gA o0 31), kI G (q0 32) 969 (gA o0 32), kI G (q0 33) 969 (gA o0 33), kI G (q0 38) 5 (gA o0 38), kI G (q0 39) 5120 (gA o0 39), kI G (q0 41) 5 (gA o0 41), kZ G (q0 42) 1024 (gA o0 42), kI G (q0 43) 8192 (gA o0 43), kI G (q0 44) 8192 (gA o0 44)] := hD
      refine lv_iinc (v := (x7 + (1 : Int32))) (lv' := [(7, .int (x7 + (1 : Int32))), (0, .ref h0)]) hx hb d_Md_step_451 hl (k := 1) rfl rfl (by decide) rfl (fun ls hl => ?_)
      refine lv_goto (tgt := 398) hx hb d_Md_step_454 (by decide) ?_
      have hl := lv_sub (l' := [(0, .ref h0), (7, .int (x7 + (1 : Int32)))]) hl [1, 0] rfl
      have hP : va_P G.1 CL (cw_Md G h0 q0 (sB o0 3 (vp_updL (vp_updL (gB o0 3) (((0 : Int32) + x7).toNatClampNeg) z4) (((5 : Int32) + x7).toNatClampNeg) z8))) H := hP
      have hD : va_D A (cw_Md G h0 q0 (sB o0 3 (vp_updL (vp_updL (gB o0 3) (((0 : Int32) + x7).toNatClampNeg) z4) (((5 : Int32) + x7).toNatClampNeg) z8))) := hD
      exact ih (x7 + (1 : Int32)) (sB o0 3 (vp_updL (vp_updL (gB o0 3) (((0 : Int32) + x7).toNatClampNeg) z4) (((5 : Int32) + x7).toNatClampNeg) z8)) ls H locs hl hP hD hS h
set_option maxHeartbeats 4000000 in
set_option maxRecDepth 100000 in
theorem t_Md_step_92 {p : Program} {l : Launch} {e : Env} {s : State} {m : MethodId} {args : Array Value} {below : List Frame} {meth : Method} {c : Code} {A : Nat → Prop} {G : Gl} {h0 : Nat} {q0 : Nat → Nat} (Q : Ob → Prop) (C : Cx p s m args meth c R_Md b_Md_step 8 none G A) :
    ∀ (n : Nat) (x1 : Int32) (o0 : Ob) (ls : Array Slot) (H : Heap) (locs : List Loc), lv_has ls 8 [(0, .ref h0), (1, .int x1)] → va_P G.1 CL (cw_Md G h0 q0 o0) H → va_D A (cw_Md G h0 q0 o0) → va_S A s.heap H locs → f_Md_step_92 Q n x1 o0 → W p l e rm_Md_step s m args below meth c H locs 0 0 (MQ below (va_Qv (fun (u : Ob) => Q u) (fun (u : Ob) t => BW G A (cw_Md G h0 q0 u) t) A) args s 0 0 A) (F0 m 92 ls []) := by
  obtain ⟨hx, hb, hml, hown, hr, hts, hK, hA, hlocks, hE⟩ := id C
  intro n
  induction n with
  | zero => intro x1 o0 ls H locs hl hP hD hS h; exact absurd h id
  | succ n ih =>
    intro x1 o0 ls H locs hl hP hD hS h
    have hP : va_P G.1 CL [(h0, .inr (11, [.int (gI o0 0), .ref (q0 1), .ref (q0 2), .ref (q0 3), .ref (q0 4), .ref (q0 5), .ref (q0 6), .int (gI o0 7), .int (gI o0 8), .int (gI o0 9), .int (gI o0 10), .int (gI o0 11), .int (gI o0 12), .int (gI o0 13), .int (gI o0 14), .long (gL o0 15), .int (gI o0 16), .int (gI o0 17), .int (gI o0 18), .int (gI o0 19), .int (gI o0 20), .int (gI o0 21), .int (gI o0 22), .int (gI o0 23), .int (gI o0 24), .int (gI o0 25), .int (gI o0 26), .int (gI o0 27), .ref (q0 28), .long (gL o0 29), .int (gI o0 30), .ref (q0 31), .ref (q0 32), .ref (q0 33), .int (gI o0 34), .int (gI o0 35), .int (gI o0 36), .int (gI o0 37), .ref (q0 38), .ref (q0 39), .int (gI o0 40), .ref (q0 41), .ref (q0 42), .ref (q0 43), .ref (q0 44)])), kI G (q0 1) 6100 (gA o0 1), kI G (q0 2) 6100 (gA o0 2), kJ G (q0 3) 2016 (gB o0 3), kJ G (q0 4) 2016 (gB o0 4), kI G (q0 5) 300 (gA o0 5), kI G (q0 6) 400 (gA o0 6), kJ G (q0 28) 10 (gB o0 28), kI G (q0 31) 969 (gA o0 31), kI G (q0 32) 969 (gA o0 32), kI G (q0 33) 969 (gA o0 33), kI G (q0 38) 5 (gA o0 38), kI G (q0 39) 5120 (gA o0 39), kI G (q0 41) 5 (gA o0 41), kZ G (q0 42) 1024 (gA o0 42), kI G (q0 43) 8192 (gA o0 43), kI G (q0 44) 8192 (gA o0 44)] H := hP
    have hD : va_D A [(h0, .inr (11, [.int (gI o0 0), .ref (q0 1), .ref (q0 2), .ref (q0 3), .ref (q0 4), .ref (q0 5), .ref (q0 6), .int (gI o0 7), .int (gI o0 8), .int (gI o0 9), .int (gI o0 10), .int (gI o0 11), .int (gI o0 12), .int (gI o0 13), .int (gI o0 14), .long (gL o0 15), .int (gI o0 16), .int (gI o0 17), .int (gI o0 18), .int (gI o0 19), .int (gI o0 20), .int (gI o0 21), .int (gI o0 22), .int (gI o0 23), .int (gI o0 24), .int (gI o0 25), .int (gI o0 26), .int (gI o0 27), .ref (q0 28), .long (gL o0 29), .int (gI o0 30), .ref (q0 31), .ref (q0 32), .ref (q0 33), .int (gI o0 34), .int (gI o0 35), .int (gI o0 36), .int (gI o0 37), .ref (q0 38), .ref (q0 39), .int (gI o0 40), .ref (q0 41), .ref (q0 42), .ref (q0 43), .ref (q0 44)])), kI G (q0 1) 6100 (gA o0 1), kI G (q0 2) 6100 (gA o0 2), kJ G (q0 3) 2016 (gB o0 3), kJ G (q0 4) 2016 (gB o0 4), kI G (q0 5) 300 (gA o0 5), kI G (q0 6) 400 (gA o0 6), kJ G (q0 28) 10 (gB o0 28), kI G (q0 31) 969 (gA o0 31), kI G (q0 32) 969 (gA o0 32), kI G (q0 33) 969 (gA o0 33), kI G (q0 38) 5 (gA o0 38), kI G (q0 39) 5120 (gA o0 39), kI G (q0 41) 5 (gA o0 41), kZ G (q0 42) 1024 (gA o0 42), kI G (q0 43) 8192 (gA o0 43), kI G (q0 44) 8192 (gA o0 44)] := hD
    unfold f_Md_step_92 at h
    refine lv_iload_n hx hb d_Md_step_92 rfl (lv_at hl 1 rfl) ?_
    refine lv_aload_n hx hb d_Md_step_93 rfl (lv_at hl 0 rfl) ?_
    refine va_get (D := G.1) (ci := 11) (v := .int (gI o0 0)) (C := R_Md) (T := T_Md) (N := 45) hx hb hts i_Md hown hK hP 0 rfl rfl 0 (by decide) (hts _ wf_Md_67) (fun _ h9 => h9) rfl d_Md_step_94 ?_
    refine lv_iconst (v := (1 : Int32)) hx hb d_Md_step_97 (by decide) ?_
    refine lv_isub hx hb d_Md_step_98 ?_
    refine lv_icmp_ge (tgt := 234) hx hb d_Md_step_99 (by decide) (fun c10 => ?_) (fun c10 => ?_)
    · have h := h.1 c10
      refine lv_aload_n hx hb d_Md_step_234 rfl (lv_at hl 0 rfl) ?_
      refine lv_aload_n hx hb d_Md_step_235 rfl (lv_at hl 0 rfl) ?_
      refine va_get (D := G.1) (ci := 11) (v := .ref (q0 1)) (C := R_Md) (T := T_Md) (N := 45) hx hb hts i_Md hown hK hP 0 rfl rfl 1 (by decide) (hts _ wf_Md_7) (fun _ h9 => h9) rfl d_Md_step_236 ?_
      refine lv_sipush (v := (5603 : Int32)) hx hb d_Md_step_239 (by decide) ?_
      refine xa_iald hx hb hK hP 1 0 rfl rfl (vp_lit rfl) (k := 5603) rfl d_Md_step_242 ?_
      refine lv_i2l (v := (((gA o0 1) 5603).toInt64)) hx hb d_Md_step_243 rfl ?_
      refine lv_aload_n hx hb d_Md_step_244 rfl (lv_at hl 0 rfl) ?_
      refine va_get (D := G.1) (ci := 11) (v := .ref (q0 3)) (C := R_Md) (T := T_Md) (N := 45) hx hb hts i_Md hown hK hP 0 rfl rfl 3 (by decide) (hts _ wf_Md_16) (fun _ h9 => h9) rfl d_Md_step_245 ?_
      refine lv_iconst (v := (5 : Int32)) hx hb d_Md_step_248 (by decide) ?_
      refine xa_lald hx hb hK hP 3 1 rfl rfl (vp_lit rfl) (k := 5) rfl d_Md_step_249 ?_
      refine lv_lmul hx hb d_Md_step_250 ?_
      refine lv_aload_n hx hb d_Md_step_251 rfl (lv_at hl 0 rfl) ?_
      refine va_get (D := G.1) (ci := 11) (v := .ref (q0 3)) (C := R_Md) (T := T_Md) (N := 45) hx hb hts i_Md hown hK hP 0 rfl rfl 3 (by decide) (hts _ wf_Md_16) (fun _ h9 => h9) rfl d_Md_step_252 ?_
      refine lv_bipush (v := (14 : Int32)) hx hb d_Md_step_255 (by decide) ?_
      refine xa_lald hx hb hK hP 3 1 rfl rfl (vp_lit rfl) (k := 14) rfl d_Md_step_257 ?_
      refine lv_ladd hx hb d_Md_step_258 ?_
      refine lv_topl (fun y11 ey11 => ?_)
      have h := h y11 ey11
      refine lv_ldc2 hx hb hown (hts _ wc_Md_220) d_Md_step_259 ?_
      refine cl_Vl (b := b_Md_step) (As := [.long y11, .long (100 : Int64)]) (rest := []) (ws := [(h0, .inr (11, [.int (gI o0 0), .ref (q0 1), .ref (q0 2), .ref (q0 3), .ref (q0 4), .ref (q0 5), .ref (q0 6), .int (gI o0 7), .int (gI o0 8), .int (gI o0 9), .int (gI o0 10), .int (gI o0 11), .int (gI o0 12), .int (gI o0 13), .int (gI o0 14), .long (gL o0 15), .int (gI o0 16), .int (gI o0 17), .int (gI o0 18), .int (gI o0 19), .int (gI o0 20), .int (gI o0 21), .int (gI o0 22), .int (gI o0 23), .int (gI o0 24), .int (gI o0 25), .int (gI o0 26), .int (gI o0 27), .ref (q0 28), .long (gL o0 29), .int (gI o0 30), .ref (q0 31), .ref (q0 32), .ref (q0 33), .int (gI o0 34), .int (gI o0 35), .int (gI o0 36), .int (gI o0 37), .ref (q0 38), .ref (q0 39), .int (gI o0 40), .ref (q0 41), .ref (q0 42), .ref (q0 43), .ref (q0 44)])), kI G (q0 1) 6100 (gA o0 1), kI G (q0 2) 6100 (gA o0 2), kJ G (q0 3) 2016 (gB o0 3), kJ G (q0 4) 2016 (gB o0 4), kI G (q0 5) 300 (gA o0 5), kI G (q0 6) 400 (gA o0 6), kJ G (q0 28) 10 (gB o0 28), kI G (q0 31) 969 (gA o0 31), kI G (q0 32) 969 (gA o0 32), kI G (q0 33) 969 (gA o0 33), kI G (q0 38) 5 (gA o0 38), kI G (q0 39) 5120 (gA o0 39), kI G (q0 41) 5 (gA o0 41), kZ G (q0 42) 1024 (gA o0 42), kI G (q0 43) 8192 (gA o0 43), kI G (q0 44) 8192 (gA o0 44)]) (wr := []) (w2 := fun (u : Ob) => [(h0, .inr (11, [.int (gI u 0), .ref (q0 1), .ref (q0 2), .ref (q0 3), .ref (q0 4), .ref (q0 5), .ref (q0 6), .int (gI u 7), .int (gI u 8), .int (gI u 9), .int (gI u 10), .int (gI u 11), .int (gI u 12), .int (gI u 13), .int (gI u 14), .long (gL u 15), .int (gI u 16), .int (gI u 17), .int (gI u 18), .int (gI u 19), .int (gI u 20), .int (gI u 21), .int (gI u 22), .int (gI u 23), .int (gI u 24), .int (gI u 25), .int (gI u 26), .int (gI u 27), .ref (q0 28), .long (gL u 29), .int (gI u 30), .ref (q0 31), .ref (q0 32), .ref (q0 33), .int (gI u 34), .int (gI u 35), .int (gI u 36), .int (gI u 37), .ref (q0 38), .ref (q0 39), .int (gI u 40), .ref (q0 41), .ref (q0 42), .ref (q0 43), .ref (q0 44)])), kI G (q0 1) 6100 (gA u 1), kI G (q0 2) 6100 (gA u 2), kJ G (q0 3) 2016 (gB u 3), kJ G (q0 4) 2016 (gB u 4), kI G (q0 5) 300 (gA u 5), kI G (q0 6) 400 (gA u 6), kJ G (q0 28) 10 (gB u 28), kI G (q0 31) 969 (gA u 31), kI G (q0 32) 969 (gA u 32), kI G (q0 33) 969 (gA u 33), kI G (q0 38) 5 (gA u 38), kI G (q0 39) 5120 (gA u 39), kI G (q0 41) 5 (gA u 41), kZ G (q0 42) 1024 (gA u 42), kI G (q0 43) 8192 (gA u 43), kI G (q0 44) 8192 (gA u 44)]) C (c_Md_part (h0 := h0) (q0 := q0) H.size h) wv_Md_216 ⟨Nat.le_of_ble_eq_true rfl, Nat.le_of_ble_eq_true rfl⟩ hP hD hS 0 rfl rfl [0, 1, 2, 3, 4, 5, 6, 7, 8, 9, 10, 11, 12, 13, 14, 15, 16] [] rfl rfl (by decide) (by decide) (by decide) [0, 1, 2, 3, 4, 5, 6, 7, 8, 9, 10, 11, 12, 13, 14, 15, 16] (by decide) (fun u => rfl) rfl hl.1 rfl (lv_room (Nat.le_of_ble_eq_true rfl)) d_Md_step_262 ⟨Nat.le_of_ble_eq_true rfl, Nat.le_of_ble_eq_true rfl⟩ rfl rfl (fun z12 u H locs h hP hD hS => ?_)
      generalize u = u13 at h hP hD
      have hP : va_P G.1 CL [(h0, .inr (11, [.int (gI u13 0), .ref (q0 1), .ref (q0 2), .ref (q0 3), .ref (q0 4), .ref (q0 5), .ref (q0 6), .int (gI u13 7), .int (gI u13 8), .int (gI u13 9), .int (gI u13 10), .int (gI u13 11), .int (gI u13 12), .int (gI u13 13), .int (gI u13 14), .long (gL u13 15), .int (gI u13 16), .int (gI u13 17), .int (gI u13 18), .int (gI u13 19), .int (gI u13 20), .int (gI u13 21), .int (gI u13 22), .int (gI u13 23), .int (gI u13 24), .int (gI u13 25), .int (gI u13 26), .int (gI u13 27), .ref (q0 28), .long (gL u13 29), .int (gI u13 30), .ref (q0 31), .ref (q0 32), .ref (q0 33), .int (gI u13 34), .int (gI u13 35), .int (gI u13 36), .int (gI u13 37), .ref (q0 38), .ref (q0 39), .int (gI u13 40), .ref (q0 41), .ref (q0 42), .ref (q0 43), .ref (q0 44)])), kI G (q0 1) 6100 (gA u13 1), kI G (q0 2) 6100 (gA u13 2), kJ G (q0 3) 2016 (gB u13 3), kJ G (q0 4) 2016 (gB u13 4), kI G (q0 5) 300 (gA u13 5), kI G (q0 6) 400 (gA u13 6), kJ G (q0 28) 10 (gB u13 28), kI G (q0 31) 969 (gA u13 31), kI G (q0 32) 969 (gA u13 32), kI G (q0 33) 969 (gA u13 33), kI G (q0 38) 5 (gA u13 38), kI G (q0 39) 5120 (gA u13 39), kI G (q0 41) 5 (gA u13 41), kZ G (q0 42) 1024 (gA u13 42), kI G (q0 43) 8192 (gA u13 43), kI G (q0 44) 8192 (gA u13 44)] H := hP
      have hD : va_D A [(h0, .inr (11, [.int (gI u13 0), .ref (q0 1), .ref (q0 2), .ref (q0 3), .ref (q0 4), .ref (q0 5), .ref (q0 6), .int (gI u13 7), .int (gI u13 8), .int (gI u13 9), .int (gI u13 10), .int (gI u13 11), .int (gI u13 12), .int (gI u13 13), .int (gI u13 14), .long (gL u13 15), .int (gI u13 16), .int (gI u13 17), .int (gI u13 18), .int (gI u13 19), .int (gI u13 20), .int (gI u13 21), .int (gI u13 22), .int (gI u13 23), .int (gI u13 24), .int (gI u13 25), .int (gI u13 26), .int (gI u13 27), .ref (q0 28), .long (gL u13 29), .int (gI u13 30), .ref (q0 31), .ref (q0 32), .ref (q0 33), .int (gI u13 34), .int (gI u13 35), .int (gI u13 36), .int (gI u13 37), .ref (q0 38), .ref (q0 39), .int (gI u13 40), .ref (q0 41), .ref (q0 42), .ref (q0 43), .ref (q0 44)])), kI G (q0 1) 6100 (gA u13 1), kI G (q0 2) 6100 (gA u13 2), kJ G (q0 3) 2016 (gB u13 3), kJ G (q0 4) 2016 (gB u13 4), kI G (q0 5) 300 (gA u13 5), kI G (q0 6) 400 (gA u13 6), kJ G (q0 28) 10 (gB u13 28), kI G (q0 31) 969 (gA u13 31), kI G (q0 32) 969 (gA u13 32), kI G (q0 33) 969 (gA u13 33), kI G (q0 38) 5 (gA u13 38), kI G (q0 39) 5120 (gA u13 39), kI G (q0 41) 5 (gA u13 41), kZ G (q0 42) 1024 (gA u13 42), kI G (q0 43) 8192 (gA u13 43), kI G (q0 44) 8192 (gA u13 44)] := hD
      refine lv_lstore_n (lv' := [(1, .long z12), (0, .ref h0)]) hx hb d_Md_step_265 rfl hl (by decide) rfl (fun ls hl => ?_)
      refine lv_aload_n hx hb d_Md_step_266 rfl (lv_at hl 1 rfl) ?_
      refine va_get (D := G.1) (ci := 11) (v := .ref (q0 3)) (C := R_Md) (T := T_Md) (N := 45) hx hb hts i_Md hown hK hP 0 rfl rfl 3 (by decide) (hts _ wf_Md_16) (fun _ h9 => h9) rfl d_Md_step_267 ?_
      refine lv_bipush (v := (14 : Int32)) hx hb d_Md_step_270 (by decide) ?_
      refine lv_aload_n hx hb d_Md_step_272 rfl (lv_at hl 1 rfl) ?_
      refine va_get (D := G.1) (ci := 11) (v := .long (gL u13 29)) (C := R_Md) (T := T_Md) (N := 45) hx hb hts i_Md hown hK hP 0 rfl rfl 29 (by decide) (hts _ wf_Md_210) (fun _ h9 => h9) rfl d_Md_step_273 ?_
      refine xa_last hx hb hK hP hD hS 3 1 rfl rfl (vp_lit rfl) (k := 14) rfl d_Md_step_276 (fun H locs hP hD hS => ?_)
      have hP : va_P G.1 CL [(h0, .inr (11, [.int (gI u13 0), .ref (q0 1), .ref (q0 2), .ref (q0 3), .ref (q0 4), .ref (q0 5), .ref (q0 6), .int (gI u13 7), .int (gI u13 8), .int (gI u13 9), .int (gI u13 10), .int (gI u13 11), .int (gI u13 12), .int (gI u13 13), .int (gI u13 14), .long (gL u13 15), .int (gI u13 16), .int (gI u13 17), .int (gI u13 18), .int (gI u13 19), .int (gI u13 20), .int (gI u13 21), .int (gI u13 22), .int (gI u13 23), .int (gI u13 24), .int (gI u13 25), .int (gI u13 26), .int (gI u13 27), .ref (q0 28), .long (gL u13 29), .int (gI u13 30), .ref (q0 31), .ref (q0 32), .ref (q0 33), .int (gI u13 34), .int (gI u13 35), .int (gI u13 36), .int (gI u13 37), .ref (q0 38), .ref (q0 39), .int (gI u13 40), .ref (q0 41), .ref (q0 42), .ref (q0 43), .ref (q0 44)])), kI G (q0 1) 6100 (gA u13 1), kI G (q0 2) 6100 (gA u13 2), kJ G (q0 3) 2016 (vp_updL (gB u13 3) 14 (gL u13 29)), kJ G (q0 4) 2016 (gB u13 4), kI G (q0 5) 300 (gA u13 5), kI G (q0 6) 400 (gA u13 6), kJ G (q0 28) 10 (gB u13 28), kI G (q0 31) 969 (gA u13 31), kI G (q0 32) 969 (gA u13 32), kI G (q0 33) 969 (gA u13 33), kI G (q0 38) 5 (gA u13 38), kI G (q0 39) 5120 (gA u13 39), kI G (q0 41) 5 (gA u13 41), kZ G (q0 42) 1024 (gA u13 42), kI G (q0 43) 8192 (gA u13 43), kI G (q0 44) 8192 (gA u13 44)] H := hP
      have hD : va_D A [(h0, .inr (11, [.int (gI u13 0), .ref (q0 1), .ref (q0 2), .ref (q0 3), .ref (q0 4), .ref (q0 5), .ref (q0 6), .int (gI u13 7), .int (gI u13 8), .int (gI u13 9), .int (gI u13 10), .int (gI u13 11), .int (gI u13 12), .int (gI u13 13), .int (gI u13 14), .long (gL u13 15), .int (gI u13 16), .int (gI u13 17), .int (gI u13 18), .int (gI u13 19), .int (gI u13 20), .int (gI u13 21), .int (gI u13 22), .int (gI u13 23), .int (gI u13 24), .int (gI u13 25), .int (gI u13 26), .int (gI u13 27), .ref (q0 28), .long (gL u13 29), .int (gI u13 30), .ref (q0 31), .ref (q0 32), .ref (q0 33), .int (gI u13 34), .int (gI u13 35), .int (gI u13 36), .int (gI u13 37), .ref (q0 38), .ref (q0 39), .int (gI u13 40), .ref (q0 41), .ref (q0 42), .ref (q0 43), .ref (q0 44)])), kI G (q0 1) 6100 (gA u13 1), kI G (q0 2) 6100 (gA u13 2), kJ G (q0 3) 2016 (vp_updL (gB u13 3) 14 (gL u13 29)), kJ G (q0 4) 2016 (gB u13 4), kI G (q0 5) 300 (gA u13 5), kI G (q0 6) 400 (gA u13 6), kJ G (q0 28) 10 (gB u13 28), kI G (q0 31) 969 (gA u13 31), kI G (q0 32) 969 (gA u13 32), kI G (q0 33) 969 (gA u13 33), kI G (q0 38) 5 (gA u13 38), kI G (q0 39) 5120 (gA u13 39), kI G (q0 41) 5 (gA u13 41), kZ G (q0 42) 1024 (gA u13 42), kI G (q0 43) 8192 (gA u13 43), kI G (q0 44) 8192 (gA u13 44)] := hD
      refine lv_aload_n hx hb d_Md_step_277 rfl (lv_at hl 1 rfl) ?_
      refine va_get (D := G.1) (ci := 11) (v := .ref (q0 28)) (C := R_Md) (T := T_Md) (N := 45) hx hb hts i_Md hown hK hP 0 rfl rfl 28 (by decide) (hts _ wf_Md_36) (fun _ h9 => h9) rfl d_Md_step_278 ?_
      refine lv_iconst (v := (0 : Int32)) hx hb d_Md_step_281 (by decide) ?_
      refine lv_aload_n hx hb d_Md_step_282 rfl (lv_at hl 1 rfl) ?_
      refine va_get (D := G.1) (ci := 11) (v := .ref (q0 1)) (C := R_Md) (T := T_Md) (N := 45) hx hb hts i_Md hown hK hP 0 rfl rfl 1 (by decide) (hts _ wf_Md_7) (fun _ h9 => h9) rfl d_Md_step_283 ?_
      refine lv_iconst (v := (4 : Int32)) hx hb d_Md_step_286 (by decide) ?_
      refine xa_iald hx hb hK hP 1 0 rfl rfl (vp_lit rfl) (k := 4) rfl d_Md_step_287 ?_
      refine lv_aload_n hx hb d_Md_step_288 rfl (lv_at hl 1 rfl) ?_
      refine va_get (D := G.1) (ci := 11) (v := .int (gI u13 24)) (C := R_Md) (T := T_Md) (N := 45) hx hb hts i_Md hown hK hP 0 rfl rfl 24 (by decide) (hts _ wf_Md_200) (fun _ h9 => h9) rfl d_Md_step_289 ?_
      refine lv_imul hx hb d_Md_step_292 ?_
      refine lv_bipush (v := (10 : Int32)) hx hb d_Md_step_293 (by decide) ?_
      refine lv_idiv hx hb d_Md_step_295 (by decide) ?_
      refine lv_topi (fun y14 ey14 => ?_)
      have h := h y14 ey14
      refine lv_i2l (v := (y14.toInt64)) hx hb d_Md_step_296 rfl ?_
      refine lv_lload_n hx hb d_Md_step_297 rfl (lv_at hl 0 rfl) ?_
      refine lv_ladd hx hb d_Md_step_298 ?_
      refine xa_last hx hb hK hP hD hS 7 1 rfl rfl (vp_lit rfl) (k := 0) rfl d_Md_step_299 (fun H locs hP hD hS => ?_)
      have hP : va_P G.1 CL [(h0, .inr (11, [.int (gI u13 0), .ref (q0 1), .ref (q0 2), .ref (q0 3), .ref (q0 4), .ref (q0 5), .ref (q0 6), .int (gI u13 7), .int (gI u13 8), .int (gI u13 9), .int (gI u13 10), .int (gI u13 11), .int (gI u13 12), .int (gI u13 13), .int (gI u13 14), .long (gL u13 15), .int (gI u13 16), .int (gI u13 17), .int (gI u13 18), .int (gI u13 19), .int (gI u13 20), .int (gI u13 21), .int (gI u13 22), .int (gI u13 23), .int (gI u13 24), .int (gI u13 25), .int (gI u13 26), .int (gI u13 27), .ref (q0 28), .long (gL u13 29), .int (gI u13 30), .ref (q0 31), .ref (q0 32), .ref (q0 33), .int (gI u13 34), .int (gI u13 35), .int (gI u13 36), .int (gI u13 37), .ref (q0 38), .ref (q0 39), .int (gI u13 40), .ref (q0 41), .ref (q0 42), .ref (q0 43), .ref (q0 44)])), kI G (q0 1) 6100 (gA u13 1), kI G (q0 2) 6100 (gA u13 2), kJ G (q0 3) 2016 (vp_updL (gB u13 3) 14 (gL u13 29)), kJ G (q0 4) 2016 (gB u13 4), kI G (q0 5) 300 (gA u13 5), kI G (q0 6) 400 (gA u13 6), kJ G (q0 28) 10 (vp_updL (gB u13 28) 0 ((y14.toInt64) + z12)), kI G (q0 31) 969 (gA u13 31), kI G (q0 32) 969 (gA u13 32), kI G (q0 33) 969 (gA u13 33), kI G (q0 38) 5 (gA u13 38), kI G (q0 39) 5120 (gA u13 39), kI G (q0 41) 5 (gA u13 41), kZ G (q0 42) 1024 (gA u13 42), kI G (q0 43) 8192 (gA u13 43), kI G (q0 44) 8192 (gA u13 44)] H := hP
      have hD : va_D A [(h0, .inr (11, [.int (gI u13 0), .ref (q0 1), .ref (q0 2), .ref (q0 3), .ref (q0 4), .ref (q0 5), .ref (q0 6), .int (gI u13 7), .int (gI u13 8), .int (gI u13 9), .int (gI u13 10), .int (gI u13 11), .int (gI u13 12), .int (gI u13 13), .int (gI u13 14), .long (gL u13 15), .int (gI u13 16), .int (gI u13 17), .int (gI u13 18), .int (gI u13 19), .int (gI u13 20), .int (gI u13 21), .int (gI u13 22), .int (gI u13 23), .int (gI u13 24), .int (gI u13 25), .int (gI u13 26), .int (gI u13 27), .ref (q0 28), .long (gL u13 29), .int (gI u13 30), .ref (q0 31), .ref (q0 32), .ref (q0 33), .int (gI u13 34), .int (gI u13 35), .int (gI u13 36), .int (gI u13 37), .ref (q0 38), .ref (q0 39), .int (gI u13 40), .ref (q0 41), .ref (q0 42), .ref (q0 43), .ref (q0 44)])), kI G (q0 1) 6100 (gA u13 1), kI G (q0 2) 6100 (gA u13 2), kJ G (q0 3) 2016 (vp_updL (gB u13 3) 14 (gL u13 29)), kJ G (q0 4) 2016 (gB u13 4), kI G (q0 5) 300 (gA u13 5), kI G (q0 6) 400 (gA u13 6), kJ G (q0 28) 10 (vp_updL (gB u13 28) 0 ((y14.toInt64) + z12)), kI G (q0 31) 969 (gA u13 31), kI G (q0 32) 969 (gA u13 32), kI G (q0 33) 969 (gA u13 33), kI G (q0 38) 5 (gA u13 38), kI G (q0 39) 5120 (gA u13 39), kI G (q0 41) 5 (gA u13 41), kZ G (q0 42) 1024 (gA u13 42), kI G (q0 43) 8192 (gA u13 43), kI G (q0 44) 8192 (gA u13 44)] := hD
      refine lv_aload_n hx hb d_Md_step_300 rfl (lv_at hl 1 rfl) ?_
      refine va_get (D := G.1) (ci := 11) (v := .ref (q0 3)) (C := R_Md) (T := T_Md) (N := 45) hx hb hts i_Md hown hK hP 0 rfl rfl 3 (by decide) (hts _ wf_Md_16) (fun _ h9 => h9) rfl d_Md_step_301 ?_
      refine lv_iconst (v := (0 : Int32)) hx hb d_Md_step_304 (by decide) ?_
      refine lv_aload_n hx hb d_Md_step_305 rfl (lv_at hl 1 rfl) ?_
      refine va_get (D := G.1) (ci := 11) (v := .int (gI u13 0)) (C := R_Md) (T := T_Md) (N := 45) hx hb hts i_Md hown hK hP 0 rfl rfl 0 (by decide) (hts _ wf_Md_67) (fun _ h9 => h9) rfl d_Md_step_306 ?_
      refine lv_iadd hx hb d_Md_step_309 ?_
      refine lv_iconst (v := (1 : Int32)) hx hb d_Md_step_310 (by decide) ?_
      refine lv_isub hx hb d_Md_step_311 ?_
      have g15 := h.1
      have h := h.2
      refine xa_lald hx hb hK hP 3 1 rfl rfl g15 (k := (((0 : Int32) + (gI u13 0)) - (1 : Int32)).toNatClampNeg) rfl d_Md_step_312 ?_
      refine lv_topl (fun y16 ey16 => ?_)
      have h := h y16 ey16
      refine lv_lstore_n (lv' := [(3, .long y16), (1, .long z12), (0, .ref h0)]) hx hb d_Md_step_313 rfl hl (by decide) rfl (fun ls hl => ?_)
      refine lv_aload_n hx hb d_Md_step_314 rfl (lv_at hl 2 rfl) ?_
      refine lv_aload_n hx hb d_Md_step_315 rfl (lv_at hl 2 rfl) ?_
      refine va_get (D := G.1) (ci := 11) (v := .ref (q0 1)) (C := R_Md) (T := T_Md) (N := 45) hx hb hts i_Md hown hK hP 0 rfl rfl 1 (by decide) (hts _ wf_Md_7) (fun _ h9 => h9) rfl d_Md_step_316 ?_
      refine lv_sipush (v := (5602 : Int32)) hx hb d_Md_step_319 (by decide) ?_
      refine xa_iald hx hb hK hP 1 0 rfl rfl (vp_lit rfl) (k := 5602) rfl d_Md_step_322 ?_
      refine lv_i2l (v := (((gA u13 1) 5602).toInt64)) hx hb d_Md_step_323 rfl ?_
      refine lv_lload_n hx hb d_Md_step_324 rfl (lv_at hl 0 rfl) ?_
      refine lv_lmul hx hb d_Md_step_325 ?_
      refine lv_aload_n hx hb d_Md_step_326 rfl (lv_at hl 2 rfl) ?_
      refine va_get (D := G.1) (ci := 11) (v := .ref (q0 3)) (C := R_Md) (T := T_Md) (N := 45) hx hb hts i_Md hown hK hP 0 rfl rfl 3 (by decide) (hts _ wf_Md_16) (fun _ h9 => h9) rfl d_Md_step_327 ?_
      refine lv_bipush (v := (15 : Int32)) hx hb d_Md_step_330 (by decide) ?_
      refine xa_lald hx hb hK hP 3 1 rfl rfl (vp_lit rfl) (k := 15) rfl d_Md_step_332 ?_
      refine lv_ladd hx hb d_Md_step_333 ?_
      refine lv_topl (fun y17 ey17 => ?_)
      have h := h y17 ey17
      refine lv_ldc2 hx hb hown (hts _ wc_Md_220) d_Md_step_334 ?_
      refine cl_Vl (b := b_Md_step) (As := [.long y17, .long (100 : Int64)]) (rest := []) (ws := [(h0, .inr (11, [.int (gI u13 0), .ref (q0 1), .ref (q0 2), .ref (q0 3), .ref (q0 4), .ref (q0 5), .ref (q0 6), .int (gI u13 7), .int (gI u13 8), .int (gI u13 9), .int (gI u13 10), .int (gI u13 11), .int (gI u13 12), .int (gI u13 13), .int (gI u13 14), .long (gL u13 15), .int (gI u13 16), .int (gI u13 17), .int (gI u13 18), .int (gI u13 19), .int (gI u13 20), .int (gI u13 21), .int (gI u13 22), .int (gI u13 23), .int (gI u13 24), .int (gI u13 25), .int (gI u13 26), .int (gI u13 27), .ref (q0 28), .long (gL u13 29), .int (gI u13 30), .ref (q0 31), .ref (q0 32), .ref (q0 33), .int (gI u13 34), .int (gI u13 35), .int (gI u13 36), .int (gI u13 37), .ref (q0 38), .ref (q0 39), .int (gI u13 40), .ref (q0 41), .ref (q0 42), .ref (q0 43), .ref (q0 44)])), kI G (q0 1) 6100 (gA u13 1), kI G (q0 2) 6100 (gA u13 2), kJ G (q0 3) 2016 (vp_updL (gB u13 3) 14 (gL u13 29)), kJ G (q0 4) 2016 (gB u13 4), kI G (q0 5) 300 (gA u13 5), kI G (q0 6) 400 (gA u13 6), kJ G (q0 28) 10 (vp_updL (gB u13 28) 0 ((y14.toInt64) + z12)), kI G (q0 31) 969 (gA u13 31), kI G (q0 32) 969 (gA u13 32), kI G (q0 33) 969 (gA u13 33), kI G (q0 38) 5 (gA u13 38), kI G (q0 39) 5120 (gA u13 39), kI G (q0 41) 5 (gA u13 41), kZ G (q0 42) 1024 (gA u13 42), kI G (q0 43) 8192 (gA u13 43), kI G (q0 44) 8192 (gA u13 44)]) (wr := []) (w2 := fun (u : Ob) => [(h0, .inr (11, [.int (gI u 0), .ref (q0 1), .ref (q0 2), .ref (q0 3), .ref (q0 4), .ref (q0 5), .ref (q0 6), .int (gI u 7), .int (gI u 8), .int (gI u 9), .int (gI u 10), .int (gI u 11), .int (gI u 12), .int (gI u 13), .int (gI u 14), .long (gL u 15), .int (gI u 16), .int (gI u 17), .int (gI u 18), .int (gI u 19), .int (gI u 20), .int (gI u 21), .int (gI u 22), .int (gI u 23), .int (gI u 24), .int (gI u 25), .int (gI u 26), .int (gI u 27), .ref (q0 28), .long (gL u 29), .int (gI u 30), .ref (q0 31), .ref (q0 32), .ref (q0 33), .int (gI u 34), .int (gI u 35), .int (gI u 36), .int (gI u 37), .ref (q0 38), .ref (q0 39), .int (gI u 40), .ref (q0 41), .ref (q0 42), .ref (q0 43), .ref (q0 44)])), kI G (q0 1) 6100 (gA u 1), kI G (q0 2) 6100 (gA u 2), kJ G (q0 3) 2016 (gB u 3), kJ G (q0 4) 2016 (gB u 4), kI G (q0 5) 300 (gA u 5), kI G (q0 6) 400 (gA u 6), kJ G (q0 28) 10 (gB u 28), kI G (q0 31) 969 (gA u 31), kI G (q0 32) 969 (gA u 32), kI G (q0 33) 969 (gA u 33), kI G (q0 38) 5 (gA u 38), kI G (q0 39) 5120 (gA u 39), kI G (q0 41) 5 (gA u 41), kZ G (q0 42) 1024 (gA u 42), kI G (q0 43) 8192 (gA u 43), kI G (q0 44) 8192 (gA u 44)]) C (c_Md_part (h0 := h0) (q0 := q0) H.size h) wv_Md_216 ⟨Nat.le_of_ble_eq_true rfl, Nat.le_of_ble_eq_true rfl⟩ hP hD hS 0 rfl rfl [0, 1, 2, 3, 4, 5, 6, 7, 8, 9, 10, 11, 12, 13, 14, 15, 16] [] rfl rfl (by decide) (by decide) (by decide) [0, 1, 2, 3, 4, 5, 6, 7, 8, 9, 10, 11, 12, 13, 14, 15, 16] (by decide) (fun u => rfl) rfl hl.1 rfl (lv_room (Nat.le_of_ble_eq_true rfl)) d_Md_step_337 ⟨Nat.le_of_ble_eq_true rfl, Nat.le_of_ble_eq_true rfl⟩ rfl rfl (fun z18 u H locs h hP hD hS => ?_)
      generalize u = u19 at h hP hD
      have hP : va_P G.1 CL [(h0, .inr (11, [.int (gI u19 0), .ref (q0 1), .ref (q0 2), .ref (q0 3), .ref (q0 4), .ref (q0 5), .ref (q0 6), .int (gI u19 7), .int (gI u19 8), .int (gI u19 9), .int (gI u19 10), .int (gI u19 11), .int (gI u19 12), .int (gI u19 13), .int (gI u19 14), .long (gL u19 15), .int (gI u19 16), .int (gI u19 17), .int (gI u19 18), .int (gI u19 19), .int (gI u19 20), .int (gI u19 21), .int (gI u19 22), .int (gI u19 23), .int (gI u19 24), .int (gI u19 25), .int (gI u19 26), .int (gI u19 27), .ref (q0 28), .long (gL u19 29), .int (gI u19 30), .ref (q0 31), .ref (q0 32), .ref (q0 33), .int (gI u19 34), .int (gI u19 35), .int (gI u19 36), .int (gI u19 37), .ref (q0 38), .ref (q0 39), .int (gI u19 40), .ref (q0 41), .ref (q0 42), .ref (q0 43), .ref (q0 44)])), kI G (q0 1) 6100 (gA u19 1), kI G (q0 2) 6100 (gA u19 2), kJ G (q0 3) 2016 (gB u19 3), kJ G (q0 4) 2016 (gB u19 4), kI G (q0 5) 300 (gA u19 5), kI G (q0 6) 400 (gA u19 6), kJ G (q0 28) 10 (gB u19 28), kI G (q0 31) 969 (gA u19 31), kI G (q0 32) 969 (gA u19 32), kI G (q0 33) 969 (gA u19 33), kI G (q0 38) 5 (gA u19 38), kI G (q0 39) 5120 (gA u19 39), kI G (q0 41) 5 (gA u19 41), kZ G (q0 42) 1024 (gA u19 42), kI G (q0 43) 8192 (gA u19 43), kI G (q0 44) 8192 (gA u19 44)] H := hP
      have hD : va_D A [(h0, .inr (11, [.int (gI u19 0), .ref (q0 1), .ref (q0 2), .ref (q0 3), .ref (q0 4), .ref (q0 5), .ref (q0 6), .int (gI u19 7), .int (gI u19 8), .int (gI u19 9), .int (gI u19 10), .int (gI u19 11), .int (gI u19 12), .int (gI u19 13), .int (gI u19 14), .long (gL u19 15), .int (gI u19 16), .int (gI u19 17), .int (gI u19 18), .int (gI u19 19), .int (gI u19 20), .int (gI u19 21), .int (gI u19 22), .int (gI u19 23), .int (gI u19 24), .int (gI u19 25), .int (gI u19 26), .int (gI u19 27), .ref (q0 28), .long (gL u19 29), .int (gI u19 30), .ref (q0 31), .ref (q0 32), .ref (q0 33), .int (gI u19 34), .int (gI u19 35), .int (gI u19 36), .int (gI u19 37), .ref (q0 38), .ref (q0 39), .int (gI u19 40), .ref (q0 41), .ref (q0 42), .ref (q0 43), .ref (q0 44)])), kI G (q0 1) 6100 (gA u19 1), kI G (q0 2) 6100 (gA u19 2), kJ G (q0 3) 2016 (gB u19 3), kJ G (q0 4) 2016 (gB u19 4), kI G (q0 5) 300 (gA u19 5), kI G (q0 6) 400 (gA u19 6), kJ G (q0 28) 10 (gB u19 28), kI G (q0 31) 969 (gA u19 31), kI G (q0 32) 969 (gA u19 32), kI G (q0 33) 969 (gA u19 33), kI G (q0 38) 5 (gA u19 38), kI G (q0 39) 5120 (gA u19 39), kI G (q0 41) 5 (gA u19 41), kZ G (q0 42) 1024 (gA u19 42), kI G (q0 43) 8192 (gA u19 43), kI G (q0 44) 8192 (gA u19 44)] := hD
      refine lv_lstore (lv' := [(5, .long z18), (3, .long y16), (1, .long z12), (0, .ref h0)]) hx hb d_Md_step_340 hl (by decide) rfl (fun ls hl => ?_)
      refine lv_aload_n hx hb d_Md_step_342 rfl (lv_at hl 3 rfl) ?_
      refine va_get (D := G.1) (ci := 11) (v := .ref (q0 3)) (C := R_Md) (T := T_Md) (N := 45) hx hb hts i_Md hown hK hP 0 rfl rfl 3 (by decide) (hts _ wf_Md_16) (fun _ h9 => h9) rfl d_Md_step_343 ?_
      refine lv_bipush (v := (15 : Int32)) hx hb d_Md_step_346 (by decide) ?_
      refine lv_aload_n hx hb d_Md_step_348 rfl (lv_at hl 3 rfl) ?_
      refine va_get (D := G.1) (ci := 11) (v := .long (gL u19 29)) (C := R_Md) (T := T_Md) (N := 45) hx hb hts i_Md hown hK hP 0 rfl rfl 29 (by decide) (hts _ wf_Md_210) (fun _ h9 => h9) rfl d_Md_step_349 ?_
      refine xa_last hx hb hK hP hD hS 3 1 rfl rfl (vp_lit rfl) (k := 15) rfl d_Md_step_352 (fun H locs hP hD hS => ?_)
      have hP : va_P G.1 CL [(h0, .inr (11, [.int (gI u19 0), .ref (q0 1), .ref (q0 2), .ref (q0 3), .ref (q0 4), .ref (q0 5), .ref (q0 6), .int (gI u19 7), .int (gI u19 8), .int (gI u19 9), .int (gI u19 10), .int (gI u19 11), .int (gI u19 12), .int (gI u19 13), .int (gI u19 14), .long (gL u19 15), .int (gI u19 16), .int (gI u19 17), .int (gI u19 18), .int (gI u19 19), .int (gI u19 20), .int (gI u19 21), .int (gI u19 22), .int (gI u19 23), .int (gI u19 24), .int (gI u19 25), .int (gI u19 26), .int (gI u19 27), .ref (q0 28), .long (gL u19 29), .int (gI u19 30), .ref (q0 31), .ref (q0 32), .ref (q0 33), .int (gI u19 34), .int (gI u19 35), .int (gI u19 36), .int (gI u19 37), .ref (q0 38), .ref (q0 39), .int (gI u19 40), .ref (q0 41), .ref (q0 42), .ref (q0 43), .ref (q0 44)])), kI G (q0 1) 6100 (gA u19 1), kI G (q0 2) 6100 (gA u19 2), kJ G (q0 3) 2016 (vp_updL (gB u19 3) 15 (gL u19 29)), kJ G (q0 4) 2016 (gB u19 4), kI G (q0 5) 300 (gA u19 5), kI G (q0 6) 400 (gA u19 6), kJ G (q0 28) 10 (gB u19 28), kI G (q0 31) 969 (gA u19 31), kI G (q0 32) 969 (gA u19 32), kI G (q0 33) 969 (gA u19 33), kI G (q0 38) 5 (gA u19 38), kI G (q0 39) 5120 (gA u19 39), kI G (q0 41) 5 (gA u19 41), kZ G (q0 42) 1024 (gA u19 42), kI G (q0 43) 8192 (gA u19 43), kI G (q0 44) 8192 (gA u19 44)] H := hP
      have hD : va_D A [(h0, .inr (11, [.int (gI u19 0), .ref (q0 1), .ref (q0 2), .ref (q0 3), .ref (q0 4), .ref (q0 5), .ref (q0 6), .int (gI u19 7), .int (gI u19 8), .int (gI u19 9), .int (gI u19 10), .int (gI u19 11), .int (gI u19 12), .int (gI u19 13), .int (gI u19 14), .long (gL u19 15), .int (gI u19 16), .int (gI u19 17), .int (gI u19 18), .int (gI u19 19), .int (gI u19 20), .int (gI u19 21), .int (gI u19 22), .int (gI u19 23), .int (gI u19 24), .int (gI u19 25), .int (gI u19 26), .int (gI u19 27), .ref (q0 28), .long (gL u19 29), .int (gI u19 30), .ref (q0 31), .ref (q0 32), .ref (q0 33), .int (gI u19 34), .int (gI u19 35), .int (gI u19 36), .int (gI u19 37), .ref (q0 38), .ref (q0 39), .int (gI u19 40), .ref (q0 41), .ref (q0 42), .ref (q0 43), .ref (q0 44)])), kI G (q0 1) 6100 (gA u19 1), kI G (q0 2) 6100 (gA u19 2), kJ G (q0 3) 2016 (vp_updL (gB u19 3) 15 (gL u19 29)), kJ G (q0 4) 2016 (gB u19 4), kI G (q0 5) 300 (gA u19 5), kI G (q0 6) 400 (gA u19 6), kJ G (q0 28) 10 (gB u19 28), kI G (q0 31) 969 (gA u19 31), kI G (q0 32) 969 (gA u19 32), kI G (q0 33) 969 (gA u19 33), kI G (q0 38) 5 (gA u19 38), kI G (q0 39) 5120 (gA u19 39), kI G (q0 41) 5 (gA u19 41), kZ G (q0 42) 1024 (gA u19 42), kI G (q0 43) 8192 (gA u19 43), kI G (q0 44) 8192 (gA u19 44)] := hD
      refine lv_aload_n hx hb d_Md_step_353 rfl (lv_at hl 3 rfl) ?_
      refine va_get (D := G.1) (ci := 11) (v := .ref (q0 28)) (C := R_Md) (T := T_Md) (N := 45) hx hb hts i_Md hown hK hP 0 rfl rfl 28 (by decide) (hts _ wf_Md_36) (fun _ h9 => h9) rfl d_Md_step_354 ?_
      refine lv_iconst (v := (5 : Int32)) hx hb d_Md_step_357 (by decide) ?_
      refine lv_aload_n hx hb d_Md_step_358 rfl (lv_at hl 3 rfl) ?_
      refine va_get (D := G.1) (ci := 11) (v := .int (gI u19 0)) (C := R_Md) (T := T_Md) (N := 45) hx hb hts i_Md hown hK hP 0 rfl rfl 0 (by decide) (hts _ wf_Md_67) (fun _ h9 => h9) rfl d_Md_step_359 ?_
      refine lv_iadd hx hb d_Md_step_362 ?_
      refine lv_iconst (v := (1 : Int32)) hx hb d_Md_step_363 (by decide) ?_
      refine lv_isub hx hb d_Md_step_364 ?_
      refine lv_lload hx hb d_Md_step_365 (lv_at hl 0 rfl) ?_
      refine lv_lneg hx hb d_Md_step_367 ?_
      have g20 := h.1
      have h := h.2
      refine xa_last hx hb hK hP hD hS 7 1 rfl rfl g20 (k := (((5 : Int32) + (gI u19 0)) - (1 : Int32)).toNatClampNeg) rfl d_Md_step_368 (fun H locs hP hD hS => ?_)
      have hP : va_P G.1 CL [(h0, .inr (11, [.int (gI u19 0), .ref (q0 1), .ref (q0 2), .ref (q0 3), .ref (q0 4), .ref (q0 5), .ref (q0 6), .int (gI u19 7), .int (gI u19 8), .int (gI u19 9), .int (gI u19 10), .int (gI u19 11), .int (gI u19 12), .int (gI u19 13), .int (gI u19 14), .long (gL u19 15), .int (gI u19 16), .int (gI u19 17), .int (gI u19 18), .int (gI u19 19), .int (gI u19 20), .int (gI u19 21), .int (gI u19 22), .int (gI u19 23), .int (gI u19 24), .int (gI u19 25), .int (gI u19 26), .int (gI u19 27), .ref (q0 28), .long (gL u19 29), .int (gI u19 30), .ref (q0 31), .ref (q0 32), .ref (q0 33), .int (gI u19 34), .int (gI u19 35), .int (gI u19 36), .int (gI u19 37), .ref (q0 38), .ref (q0 39), .int (gI u19 40), .ref (q0 41), .ref (q0 42), .ref (q0 43), .ref (q0 44)])), kI G (q0 1) 6100 (gA u19 1), kI G (q0 2) 6100 (gA u19 2), kJ G (q0 3) 2016 (vp_updL (gB u19 3) 15 (gL u19 29)), kJ G (q0 4) 2016 (gB u19 4), kI G (q0 5) 300 (gA u19 5), kI G (q0 6) 400 (gA u19 6), kJ G (q0 28) 10 (vp_updL (gB u19 28) ((((5 : Int32) + (gI u19 0)) - (1 : Int32)).toNatClampNeg) (-z18)), kI G (q0 31) 969 (gA u19 31), kI G (q0 32) 969 (gA u19 32), kI G (q0 33) 969 (gA u19 33), kI G (q0 38) 5 (gA u19 38), kI G (q0 39) 5120 (gA u19 39), kI G (q0 41) 5 (gA u19 41), kZ G (q0 42) 1024 (gA u19 42), kI G (q0 43) 8192 (gA u19 43), kI G (q0 44) 8192 (gA u19 44)] H := hP
      have hD : va_D A [(h0, .inr (11, [.int (gI u19 0), .ref (q0 1), .ref (q0 2), .ref (q0 3), .ref (q0 4), .ref (q0 5), .ref (q0 6), .int (gI u19 7), .int (gI u19 8), .int (gI u19 9), .int (gI u19 10), .int (gI u19 11), .int (gI u19 12), .int (gI u19 13), .int (gI u19 14), .long (gL u19 15), .int (gI u19 16), .int (gI u19 17), .int (gI u19 18), .int (gI u19 19), .int (gI u19 20), .int (gI u19 21), .int (gI u19 22), .int (gI u19 23), .int (gI u19 24), .int (gI u19 25), .int (gI u19 26), .int (gI u19 27), .ref (q0 28), .long (gL u19 29), .int (gI u19 30), .ref (q0 31), .ref (q0 32), .ref (q0 33), .int (gI u19 34), .int (gI u19 35), .int (gI u19 36), .int (gI u19 37), .ref (q0 38), .ref (q0 39), .int (gI u19 40), .ref (q0 41), .ref (q0 42), .ref (q0 43), .ref (q0 44)])), kI G (q0 1) 6100 (gA u19 1), kI G (q0 2) 6100 (gA u19 2), kJ G (q0 3) 2016 (vp_updL (gB u19 3) 15 (gL u19 29)), kJ G (q0 4) 2016 (gB u19 4), kI G (q0 5) 300 (gA u19 5), kI G (q0 6) 400 (gA u19 6), kJ G (q0 28) 10 (vp_updL (gB u19 28) ((((5 : Int32) + (gI u19 0)) - (1 : Int32)).toNatClampNeg) (-z18)), kI G (q0 31) 969 (gA u19 31), kI G (q0 32) 969 (gA u19 32), kI G (q0 33) 969 (gA u19 33), kI G (q0 38) 5 (gA u19 38), kI G (q0 39) 5120 (gA u19 39), kI G (q0 41) 5 (gA u19 41), kZ G (q0 42) 1024 (gA u19 42), kI G (q0 43) 8192 (gA u19 43), kI G (q0 44) 8192 (gA u19 44)] := hD
      refine lv_aload_n hx hb d_Md_step_369 rfl (lv_at hl 3 rfl) ?_
      refine va_get (D := G.1) (ci := 11) (v := .ref (q0 3)) (C := R_Md) (T := T_Md) (N := 45) hx hb hts i_Md hown hK hP 0 rfl rfl 3 (by decide) (hts _ wf_Md_16) (fun _ h9 => h9) rfl d_Md_step_370 ?_
      refine lv_bipush (v := (16 : Int32)) hx hb d_Md_step_373 (by decide) ?_
      refine lv_aload_n hx hb d_Md_step_375 rfl (lv_at hl 3 rfl) ?_
      refine va_get (D := G.1) (ci := 11) (v := .int (gI u19 30)) (C := R_Md) (T := T_Md) (N := 45) hx hb hts i_Md hown hK hP 0 rfl rfl 30 (by decide) (hts _ wf_Md_222) (fun _ h9 => h9) rfl d_Md_step_376 ?_
      refine lv_iadd hx hb d_Md_step_379 ?_
      refine lv_lload_n hx hb d_Md_step_380 rfl (lv_at hl 1 rfl) ?_
      refine lv_lload hx hb d_Md_step_381 (lv_at hl 0 rfl) ?_
      refine lv_ladd hx hb d_Md_step_383 ?_
      have g21 := h.1
      have h := h.2
      refine xa_last hx hb hK hP hD hS 3 1 rfl rfl g21 (k := ((16 : Int32) + (gI u19 30)).toNatClampNeg) rfl d_Md_step_384 (fun H locs hP hD hS => ?_)
      have hP : va_P G.1 CL [(h0, .inr (11, [.int (gI u19 0), .ref (q0 1), .ref (q0 2), .ref (q0 3), .ref (q0 4), .ref (q0 5), .ref (q0 6), .int (gI u19 7), .int (gI u19 8), .int (gI u19 9), .int (gI u19 10), .int (gI u19 11), .int (gI u19 12), .int (gI u19 13), .int (gI u19 14), .long (gL u19 15), .int (gI u19 16), .int (gI u19 17), .int (gI u19 18), .int (gI u19 19), .int (gI u19 20), .int (gI u19 21), .int (gI u19 22), .int (gI u19 23), .int (gI u19 24), .int (gI u19 25), .int (gI u19 26), .int (gI u19 27), .ref (q0 28), .long (gL u19 29), .int (gI u19 30), .ref (q0 31), .ref (q0 32), .ref (q0 33), .int (gI u19 34), .int (gI u19 35), .int (gI u19 36), .int (gI u19 37), .ref (q0 38), .ref (q0 39), .int (gI u19 40), .ref (q0 41), .ref (q0 42), .ref (q0 43), .ref (q0 44)])), kI G (q0 1) 6100 (gA u19 1), kI G (q0 2) 6100 (gA u19 2), kJ G (q0 3) 2016 (vp_updL (vp_updL (gB u19 3) 15 (gL u19 29)) (((16 : Int32) + (gI u19 30)).toNatClampNeg) (y16 + z18)), kJ G (q0 4) 2016 (gB u19 4), kI G (q0 5) 300 (gA u19 5), kI G (q0 6) 400 (gA u19 6), kJ G (q0 28) 10 (vp_updL (gB u19 28) ((((5 : Int32) + (gI u19 0)) - (1 : Int32)).toNatClampNeg) (-z18)), kI G (q0 31) 969 (gA u19 31), kI G (q0 32) 969 (gA u19 32), kI G (q0 33) 969 (gA u19 33), kI G (q0 38) 5 (gA u19 38), kI G (q0 39) 5120 (gA u19 39), kI G (q0 41) 5 (gA u19 41), kZ G (q0 42) 1024 (gA u19 42), kI G (q0 43) 8192 (gA u19 43), kI G (q0 44) 8192 (gA u19 44)] H := hP
      have hD : va_D A [(h0, .inr (11, [.int (gI u19 0), .ref (q0 1), .ref (q0 2), .ref (q0 3), .ref (q0 4), .ref (q0 5), .ref (q0 6), .int (gI u19 7), .int (gI u19 8), .int (gI u19 9), .int (gI u19 10), .int (gI u19 11), .int (gI u19 12), .int (gI u19 13), .int (gI u19 14), .long (gL u19 15), .int (gI u19 16), .int (gI u19 17), .int (gI u19 18), .int (gI u19 19), .int (gI u19 20), .int (gI u19 21), .int (gI u19 22), .int (gI u19 23), .int (gI u19 24), .int (gI u19 25), .int (gI u19 26), .int (gI u19 27), .ref (q0 28), .long (gL u19 29), .int (gI u19 30), .ref (q0 31), .ref (q0 32), .ref (q0 33), .int (gI u19 34), .int (gI u19 35), .int (gI u19 36), .int (gI u19 37), .ref (q0 38), .ref (q0 39), .int (gI u19 40), .ref (q0 41), .ref (q0 42), .ref (q0 43), .ref (q0 44)])), kI G (q0 1) 6100 (gA u19 1), kI G (q0 2) 6100 (gA u19 2), kJ G (q0 3) 2016 (vp_updL (vp_updL (gB u19 3) 15 (gL u19 29)) (((16 : Int32) + (gI u19 30)).toNatClampNeg) (y16 + z18)), kJ G (q0 4) 2016 (gB u19 4), kI G (q0 5) 300 (gA u19 5), kI G (q0 6) 400 (gA u19 6), kJ G (q0 28) 10 (vp_updL (gB u19 28) ((((5 : Int32) + (gI u19 0)) - (1 : Int32)).toNatClampNeg) (-z18)), kI G (q0 31) 969 (gA u19 31), kI G (q0 32) 969 (gA u19 32), kI G (q0 33) 969 (gA u19 33), kI G (q0 38) 5 (gA u19 38), kI G (q0 39) 5120 (gA u19 39), kI G (q0 41) 5 (gA u19 41), kZ G (q0 42) 1024 (gA u19 42), kI G (q0 43) 8192 (gA u19 43), kI G (q0 44) 8192 (gA u19 44)] := hD
      refine lv_aload_n hx hb d_Md_step_385 rfl (lv_at hl 3 rfl) ?_
      refine lv_dup hx hb d_Md_step_386 rfl ?_
      refine va_get (D := G.1) (ci := 11) (v := .int (gI u19 30)) (C := R_Md) (T := T_Md) (N := 45) hx hb hts i_Md hown hK hP 0 rfl rfl 30 (by decide) (hts _ wf_Md_222) (fun _ h9 => h9) rfl d_Md_step_387 ?_
      refine lv_iconst (v := (1 : Int32)) hx hb d_Md_step_390 (by decide) ?_
      refine lv_iadd hx hb d_Md_step_391 ?_
      refine va_put (D := G.1) (ci := 11) (v := .int ((gI u19 30) + (1 : Int32))) (ty := .int) (C := R_Md) (T := T_Md) (N := 45) hx hb hts i_Md ty_Md ty_Md_ok nm_Md hown hK hP hD hS 0 rfl rfl 30 (by decide) (hts _ wf_Md_222) (fun _ h9 => h9) rfl (ty_Md_ok 30 (by decide)) rfl rfl (Nat.le_of_ble_eq_true rfl) d_Md_step_392 (fun H locs hP hD hS => ?_)
      have hP : va_P G.1 CL [(h0, .inr (11, [.int (gI u19 0), .ref (q0 1), .ref (q0 2), .ref (q0 3), .ref (q0 4), .ref (q0 5), .ref (q0 6), .int (gI u19 7), .int (gI u19 8), .int (gI u19 9), .int (gI u19 10), .int (gI u19 11), .int (gI u19 12), .int (gI u19 13), .int (gI u19 14), .long (gL u19 15), .int (gI u19 16), .int (gI u19 17), .int (gI u19 18), .int (gI u19 19), .int (gI u19 20), .int (gI u19 21), .int (gI u19 22), .int (gI u19 23), .int (gI u19 24), .int (gI u19 25), .int (gI u19 26), .int (gI u19 27), .ref (q0 28), .long (gL u19 29), .int ((gI u19 30) + (1 : Int32)), .ref (q0 31), .ref (q0 32), .ref (q0 33), .int (gI u19 34), .int (gI u19 35), .int (gI u19 36), .int (gI u19 37), .ref (q0 38), .ref (q0 39), .int (gI u19 40), .ref (q0 41), .ref (q0 42), .ref (q0 43), .ref (q0 44)])), kI G (q0 1) 6100 (gA u19 1), kI G (q0 2) 6100 (gA u19 2), kJ G (q0 3) 2016 (vp_updL (vp_updL (gB u19 3) 15 (gL u19 29)) (((16 : Int32) + (gI u19 30)).toNatClampNeg) (y16 + z18)), kJ G (q0 4) 2016 (gB u19 4), kI G (q0 5) 300 (gA u19 5), kI G (q0 6) 400 (gA u19 6), kJ G (q0 28) 10 (vp_updL (gB u19 28) ((((5 : Int32) + (gI u19 0)) - (1 : Int32)).toNatClampNeg) (-z18)), kI G (q0 31) 969 (gA u19 31), kI G (q0 32) 969 (gA u19 32), kI G (q0 33) 969 (gA u19 33), kI G (q0 38) 5 (gA u19 38), kI G (q0 39) 5120 (gA u19 39), kI G (q0 41) 5 (gA u19 41), kZ G (q0 42) 1024 (gA u19 42), kI G (q0 43) 8192 (gA u19 43), kI G (q0 44) 8192 (gA u19 44)] H := hP
      have hD : va_D A [(h0, .inr (11, [.int (gI u19 0), .ref (q0 1), .ref (q0 2), .ref (q0 3), .ref (q0 4), .ref (q0 5), .ref (q0 6), .int (gI u19 7), .int (gI u19 8), .int (gI u19 9), .int (gI u19 10), .int (gI u19 11), .int (gI u19 12), .int (gI u19 13), .int (gI u19 14), .long (gL u19 15), .int (gI u19 16), .int (gI u19 17), .int (gI u19 18), .int (gI u19 19), .int (gI u19 20), .int (gI u19 21), .int (gI u19 22), .int (gI u19 23), .int (gI u19 24), .int (gI u19 25), .int (gI u19 26), .int (gI u19 27), .ref (q0 28), .long (gL u19 29), .int ((gI u19 30) + (1 : Int32)), .ref (q0 31), .ref (q0 32), .ref (q0 33), .int (gI u19 34), .int (gI u19 35), .int (gI u19 36), .int (gI u19 37), .ref (q0 38), .ref (q0 39), .int (gI u19 40), .ref (q0 41), .ref (q0 42), .ref (q0 43), .ref (q0 44)])), kI G (q0 1) 6100 (gA u19 1), kI G (q0 2) 6100 (gA u19 2), kJ G (q0 3) 2016 (vp_updL (vp_updL (gB u19 3) 15 (gL u19 29)) (((16 : Int32) + (gI u19 30)).toNatClampNeg) (y16 + z18)), kJ G (q0 4) 2016 (gB u19 4), kI G (q0 5) 300 (gA u19 5), kI G (q0 6) 400 (gA u19 6), kJ G (q0 28) 10 (vp_updL (gB u19 28) ((((5 : Int32) + (gI u19 0)) - (1 : Int32)).toNatClampNeg) (-z18)), kI G (q0 31) 969 (gA u19 31), kI G (q0 32) 969 (gA u19 32), kI G (q0 33) 969 (gA u19 33), kI G (q0 38) 5 (gA u19 38), kI G (q0 39) 5120 (gA u19 39), kI G (q0 41) 5 (gA u19 41), kZ G (q0 42) 1024 (gA u19 42), kI G (q0 43) 8192 (gA u19 43), kI G (q0 44) 8192 (gA u19 44)] := hD
      refine lv_iconst (v := (0 : Int32)) hx hb d_Md_step_395 (by decide) ?_
      refine lv_istore (lv' := [(7, .int (0 : Int32)), (5, .long z18), (3, .long y16), (1, .long z12), (0, .ref h0)]) hx hb d_Md_step_396 hl (by decide) rfl (fun ls hl => ?_)
      have hl := lv_sub (l' := [(0, .ref h0), (7, .int (0 : Int32))]) hl [4, 0] rfl
      have hP : va_P G.1 CL (cw_Md G h0 q0 (sB (sB (sI u19 30 ((gI u19 30) + (1 : Int32))) 3 (vp_updL (vp_updL (gB u19 3) 15 (gL u19 29)) (((16 : Int32) + (gI u19 30)).toNatClampNeg) (y16 + z18))) 28 (vp_updL (gB u19 28) ((((5 : Int32) + (gI u19 0)) - (1 : Int32)).toNatClampNeg) (-z18)))) H := hP
      have hD : va_D A (cw_Md G h0 q0 (sB (sB (sI u19 30 ((gI u19 30) + (1 : Int32))) 3 (vp_updL (vp_updL (gB u19 3) 15 (gL u19 29)) (((16 : Int32) + (gI u19 30)).toNatClampNeg) (y16 + z18))) 28 (vp_updL (gB u19 28) ((((5 : Int32) + (gI u19 0)) - (1 : Int32)).toNatClampNeg) (-z18)))) := hD
      obtain ⟨w, h⟩ := h
      exact t_Md_step_398 Q C w (0 : Int32) (sB (sB (sI u19 30 ((gI u19 30) + (1 : Int32))) 3 (vp_updL (vp_updL (gB u19 3) 15 (gL u19 29)) (((16 : Int32) + (gI u19 30)).toNatClampNeg) (y16 + z18))) 28 (vp_updL (gB u19 28) ((((5 : Int32) + (gI u19 0)) - (1 : Int32)).toNatClampNeg) (-z18))) ls _ locs hl hP hD hS h
    · have h := h.2 c10
      refine lv_aload_n hx hb d_Md_step_102 rfl (lv_at hl 0 rfl) ?_
      refine va_get (D := G.1) (ci := 11) (v := .ref (q0 3)) (C := R_Md) (T := T_Md) (N := 45) hx hb hts i_Md hown hK hP 0 rfl rfl 3 (by decide) (hts _ wf_Md_16) (fun _ h9 => h9) rfl d_Md_step_103 ?_
      refine lv_iconst (v := (0 : Int32)) hx hb d_Md_step_106 (by decide) ?_
      refine lv_iload_n hx hb d_Md_step_107 rfl (lv_at hl 1 rfl) ?_
      refine lv_iadd hx hb d_Md_step_108 ?_
      have g22 := h.1
      have h := h.2
      refine xa_lald hx hb hK hP 3 1 rfl rfl g22 (k := ((0 : Int32) + x1).toNatClampNeg) rfl d_Md_step_109 ?_
      refine lv_lstore_n (lv' := [(2, .long ((gB o0 3) (((0 : Int32) + x1).toNatClampNeg))), (0, .ref h0), (1, .int x1)]) hx hb d_Md_step_110 rfl hl (by decide) rfl (fun ls hl => ?_)
      refine lv_aload_n hx hb d_Md_step_111 rfl (lv_at hl 1 rfl) ?_
      refine va_get (D := G.1) (ci := 11) (v := .ref (q0 3)) (C := R_Md) (T := T_Md) (N := 45) hx hb hts i_Md hown hK hP 0 rfl rfl 3 (by decide) (hts _ wf_Md_16) (fun _ h9 => h9) rfl d_Md_step_112 ?_
      refine lv_iconst (v := (5 : Int32)) hx hb d_Md_step_115 (by decide) ?_
      refine lv_iload_n hx hb d_Md_step_116 rfl (lv_at hl 2 rfl) ?_
      refine lv_iadd hx hb d_Md_step_117 ?_
      refine lv_iconst (v := (1 : Int32)) hx hb d_Md_step_118 (by decide) ?_
      refine lv_iadd hx hb d_Md_step_119 ?_
      have g23 := h.1
      have h := h.2
      refine xa_lald hx hb hK hP 3 1 rfl rfl g23 (k := (((5 : Int32) + x1) + (1 : Int32)).toNatClampNeg) rfl d_Md_step_120 ?_
      refine lv_topl (fun y24 ey24 => ?_)
      have h := h y24 ey24
      refine lv_lstore (lv' := [(4, .long y24), (2, .long ((gB o0 3) (((0 : Int32) + x1).toNatClampNeg))), (0, .ref h0), (1, .int x1)]) hx hb d_Md_step_121 hl (by decide) rfl (fun ls hl => ?_)
      refine lv_aload_n hx hb d_Md_step_123 rfl (lv_at hl 2 rfl) ?_
      refine lv_aload_n hx hb d_Md_step_124 rfl (lv_at hl 2 rfl) ?_
      refine va_get (D := G.1) (ci := 11) (v := .ref (q0 1)) (C := R_Md) (T := T_Md) (N := 45) hx hb hts i_Md hown hK hP 0 rfl rfl 1 (by decide) (hts _ wf_Md_7) (fun _ h9 => h9) rfl d_Md_step_125 ?_
      refine lv_bipush (v := (20 : Int32)) hx hb d_Md_step_128 (by decide) ?_
      refine lv_iload_n hx hb d_Md_step_130 rfl (lv_at hl 3 rfl) ?_
      refine lv_iadd hx hb d_Md_step_131 ?_
      refine lv_iconst (v := (1 : Int32)) hx hb d_Md_step_132 (by decide) ?_
      refine lv_iadd hx hb d_Md_step_133 ?_
      have g25 := h.1
      have h := h.2
      refine xa_iald hx hb hK hP 1 0 rfl rfl g25 (k := (((20 : Int32) + x1) + (1 : Int32)).toNatClampNeg) rfl d_Md_step_134 ?_
      refine lv_topi (fun y26 ey26 => ?_)
      have h := h y26 ey26
      refine lv_aload_n hx hb d_Md_step_135 rfl (lv_at hl 2 rfl) ?_
      refine va_get (D := G.1) (ci := 11) (v := .ref (q0 1)) (C := R_Md) (T := T_Md) (N := 45) hx hb hts i_Md hown hK hP 0 rfl rfl 1 (by decide) (hts _ wf_Md_7) (fun _ h9 => h9) rfl d_Md_step_136 ?_
      refine lv_bipush (v := (20 : Int32)) hx hb d_Md_step_139 (by decide) ?_
      refine lv_iload_n hx hb d_Md_step_141 rfl (lv_at hl 3 rfl) ?_
      refine lv_iadd hx hb d_Md_step_142 ?_
      have g27 := h.1
      have h := h.2
      refine xa_iald hx hb hK hP 1 0 rfl rfl g27 (k := ((20 : Int32) + x1).toNatClampNeg) rfl d_Md_step_143 ?_
      refine lv_topi (fun y28 ey28 => ?_)
      have h := h y28 ey28
      refine lv_isub hx hb d_Md_step_144 ?_
      refine lv_i2l (v := ((y26 - y28).toInt64)) hx hb d_Md_step_145 rfl ?_
      refine lv_lload_n hx hb d_Md_step_146 rfl (lv_at hl 1 rfl) ?_
      refine lv_lload hx hb d_Md_step_147 (lv_at hl 0 rfl) ?_
      refine lv_ladd hx hb d_Md_step_149 ?_
      refine lv_topl (fun y29 ey29 => ?_)
      have h := h y29 ey29
      refine lv_lmul hx hb d_Md_step_150 ?_
      refine lv_aload_n hx hb d_Md_step_151 rfl (lv_at hl 2 rfl) ?_
      refine va_get (D := G.1) (ci := 11) (v := .ref (q0 3)) (C := R_Md) (T := T_Md) (N := 45) hx hb hts i_Md hown hK hP 0 rfl rfl 3 (by decide) (hts _ wf_Md_16) (fun _ h9 => h9) rfl d_Md_step_152 ?_
      refine lv_bipush (v := (10 : Int32)) hx hb d_Md_step_155 (by decide) ?_
      refine lv_iload_n hx hb d_Md_step_157 rfl (lv_at hl 3 rfl) ?_
      refine lv_iadd hx hb d_Md_step_158 ?_
      have g30 := h.1
      have h := h.2
      refine xa_lald hx hb hK hP 3 1 rfl rfl g30 (k := ((10 : Int32) + x1).toNatClampNeg) rfl d_Md_step_159 ?_
      refine lv_topl (fun y31 ey31 => ?_)
      have h := h y31 ey31
      refine lv_ladd hx hb d_Md_step_160 ?_
      refine lv_aload_n hx hb d_Md_step_161 rfl (lv_at hl 2 rfl) ?_
      refine va_get (D := G.1) (ci := 11) (v := .ref (q0 1)) (C := R_Md) (T := T_Md) (N := 45) hx hb hts i_Md hown hK hP 0 rfl rfl 1 (by decide) (hts _ wf_Md_7) (fun _ h9 => h9) rfl d_Md_step_162 ?_
      refine lv_bipush (v := (20 : Int32)) hx hb d_Md_step_165 (by decide) ?_
      refine lv_iload_n hx hb d_Md_step_167 rfl (lv_at hl 3 rfl) ?_
      refine lv_iadd hx hb d_Md_step_168 ?_
      have g32 := h.1
      have h := h.2
      refine xa_iald hx hb hK hP 1 0 rfl rfl g32 (k := ((20 : Int32) + x1).toNatClampNeg) rfl d_Md_step_169 ?_
      refine lv_topi (fun y33 ey33 => ?_)
      have h := h y33 ey33
      refine lv_aload_n hx hb d_Md_step_170 rfl (lv_at hl 2 rfl) ?_
      refine va_get (D := G.1) (ci := 11) (v := .ref (q0 1)) (C := R_Md) (T := T_Md) (N := 45) hx hb hts i_Md hown hK hP 0 rfl rfl 1 (by decide) (hts _ wf_Md_7) (fun _ h9 => h9) rfl d_Md_step_171 ?_
      refine lv_bipush (v := (20 : Int32)) hx hb d_Md_step_174 (by decide) ?_
      refine lv_iload_n hx hb d_Md_step_176 rfl (lv_at hl 3 rfl) ?_
      refine lv_iadd hx hb d_Md_step_177 ?_
      refine lv_iconst (v := (1 : Int32)) hx hb d_Md_step_178 (by decide) ?_
      refine lv_iadd hx hb d_Md_step_179 ?_
      have g34 := h.1
      have h := h.2
      refine xa_iald hx hb hK hP 1 0 rfl rfl g34 (k := (((20 : Int32) + x1) + (1 : Int32)).toNatClampNeg) rfl d_Md_step_180 ?_
      refine lv_topi (fun y35 ey35 => ?_)
      have h := h y35 ey35
      refine lv_iadd hx hb d_Md_step_181 ?_
      refine lv_i2l (v := ((y33 + y35).toInt64)) hx hb d_Md_step_182 rfl ?_
      refine cl_Vl (b := b_Md_step) (As := [.long ((((y26 - y28).toInt64) * y29) + y31), .long ((y33 + y35).toInt64)]) (rest := []) (ws := [(h0, .inr (11, [.int (gI o0 0), .ref (q0 1), .ref (q0 2), .ref (q0 3), .ref (q0 4), .ref (q0 5), .ref (q0 6), .int (gI o0 7), .int (gI o0 8), .int (gI o0 9), .int (gI o0 10), .int (gI o0 11), .int (gI o0 12), .int (gI o0 13), .int (gI o0 14), .long (gL o0 15), .int (gI o0 16), .int (gI o0 17), .int (gI o0 18), .int (gI o0 19), .int (gI o0 20), .int (gI o0 21), .int (gI o0 22), .int (gI o0 23), .int (gI o0 24), .int (gI o0 25), .int (gI o0 26), .int (gI o0 27), .ref (q0 28), .long (gL o0 29), .int (gI o0 30), .ref (q0 31), .ref (q0 32), .ref (q0 33), .int (gI o0 34), .int (gI o0 35), .int (gI o0 36), .int (gI o0 37), .ref (q0 38), .ref (q0 39), .int (gI o0 40), .ref (q0 41), .ref (q0 42), .ref (q0 43), .ref (q0 44)])), kI G (q0 1) 6100 (gA o0 1), kI G (q0 2) 6100 (gA o0 2), kJ G (q0 3) 2016 (gB o0 3), kJ G (q0 4) 2016 (gB o0 4), kI G (q0 5) 300 (gA o0 5), kI G (q0 6) 400 (gA o0 6), kJ G (q0 28) 10 (gB o0 28), kI G (q0 31) 969 (gA o0 31), kI G (q0 32) 969 (gA o0 32), kI G (q0 33) 969 (gA o0 33), kI G (q0 38) 5 (gA o0 38), kI G (q0 39) 5120 (gA o0 39), kI G (q0 41) 5 (gA o0 41), kZ G (q0 42) 1024 (gA o0 42), kI G (q0 43) 8192 (gA o0 43), kI G (q0 44) 8192 (gA o0 44)]) (wr := []) (w2 := fun (u : Ob) => [(h0, .inr (11, [.int (gI u 0), .ref (q0 1), .ref (q0 2), .ref (q0 3), .ref (q0 4), .ref (q0 5), .ref (q0 6), .int (gI u 7), .int (gI u 8), .int (gI u 9), .int (gI u 10), .int (gI u 11), .int (gI u 12), .int (gI u 13), .int (gI u 14), .long (gL u 15), .int (gI u 16), .int (gI u 17), .int (gI u 18), .int (gI u 19), .int (gI u 20), .int (gI u 21), .int (gI u 22), .int (gI u 23), .int (gI u 24), .int (gI u 25), .int (gI u 26), .int (gI u 27), .ref (q0 28), .long (gL u 29), .int (gI u 30), .ref (q0 31), .ref (q0 32), .ref (q0 33), .int (gI u 34), .int (gI u 35), .int (gI u 36), .int (gI u 37), .ref (q0 38), .ref (q0 39), .int (gI u 40), .ref (q0 41), .ref (q0 42), .ref (q0 43), .ref (q0 44)])), kI G (q0 1) 6100 (gA u 1), kI G (q0 2) 6100 (gA u 2), kJ G (q0 3) 2016 (gB u 3), kJ G (q0 4) 2016 (gB u 4), kI G (q0 5) 300 (gA u 5), kI G (q0 6) 400 (gA u 6), kJ G (q0 28) 10 (gB u 28), kI G (q0 31) 969 (gA u 31), kI G (q0 32) 969 (gA u 32), kI G (q0 33) 969 (gA u 33), kI G (q0 38) 5 (gA u 38), kI G (q0 39) 5120 (gA u 39), kI G (q0 41) 5 (gA u 41), kZ G (q0 42) 1024 (gA u 42), kI G (q0 43) 8192 (gA u 43), kI G (q0 44) 8192 (gA u 44)]) C (c_Md_part (h0 := h0) (q0 := q0) H.size h) wv_Md_216 ⟨Nat.le_of_ble_eq_true rfl, Nat.le_of_ble_eq_true rfl⟩ hP hD hS 0 rfl rfl [0, 1, 2, 3, 4, 5, 6, 7, 8, 9, 10, 11, 12, 13, 14, 15, 16] [] rfl rfl (by decide) (by decide) (by decide) [0, 1, 2, 3, 4, 5, 6, 7, 8, 9, 10, 11, 12, 13, 14, 15, 16] (by decide) (fun u => rfl) rfl hl.1 rfl (lv_room (Nat.le_of_ble_eq_true rfl)) d_Md_step_183 ⟨Nat.le_of_ble_eq_true rfl, Nat.le_of_ble_eq_true rfl⟩ rfl rfl (fun z36 u H locs h hP hD hS => ?_)
      generalize u = u37 at h hP hD
      have hP : va_P G.1 CL [(h0, .inr (11, [.int (gI u37 0), .ref (q0 1), .ref (q0 2), .ref (q0 3), .ref (q0 4), .ref (q0 5), .ref (q0 6), .int (gI u37 7), .int (gI u37 8), .int (gI u37 9), .int (gI u37 10), .int (gI u37 11), .int (gI u37 12), .int (gI u37 13), .int (gI u37 14), .long (gL u37 15), .int (gI u37 16), .int (gI u37 17), .int (gI u37 18), .int (gI u37 19), .int (gI u37 20), .int (gI u37 21), .int (gI u37 22), .int (gI u37 23), .int (gI u37 24), .int (gI u37 25), .int (gI u37 26), .int (gI u37 27), .ref (q0 28), .long (gL u37 29), .int (gI u37 30), .ref (q0 31), .ref (q0 32), .ref (q0 33), .int (gI u37 34), .int (gI u37 35), .int (gI u37 36), .int (gI u37 37), .ref (q0 38), .ref (q0 39), .int (gI u37 40), .ref (q0 41), .ref (q0 42), .ref (q0 43), .ref (q0 44)])), kI G (q0 1) 6100 (gA u37 1), kI G (q0 2) 6100 (gA u37 2), kJ G (q0 3) 2016 (gB u37 3), kJ G (q0 4) 2016 (gB u37 4), kI G (q0 5) 300 (gA u37 5), kI G (q0 6) 400 (gA u37 6), kJ G (q0 28) 10 (gB u37 28), kI G (q0 31) 969 (gA u37 31), kI G (q0 32) 969 (gA u37 32), kI G (q0 33) 969 (gA u37 33), kI G (q0 38) 5 (gA u37 38), kI G (q0 39) 5120 (gA u37 39), kI G (q0 41) 5 (gA u37 41), kZ G (q0 42) 1024 (gA u37 42), kI G (q0 43) 8192 (gA u37 43), kI G (q0 44) 8192 (gA u37 44)] H := hP
      have hD : va_D A [(h0, .inr (11, [.int (gI u37 0), .ref (q0 1), .ref (q0 2), .ref (q0 3), .ref (q0 4), .ref (q0 5), .ref (q0 6), .int (gI u37 7), .int (gI u37 8), .int (gI u37 9), .int (gI u37 10), .int (gI u37 11), .int (gI u37 12), .int (gI u37 13), .int (gI u37 14), .long (gL u37 15), .int (gI u37 16), .int (gI u37 17), .int (gI u37 18), .int (gI u37 19), .int (gI u37 20), .int (gI u37 21), .int (gI u37 22), .int (gI u37 23), .int (gI u37 24), .int (gI u37 25), .int (gI u37 26), .int (gI u37 27), .ref (q0 28), .long (gL u37 29), .int (gI u37 30), .ref (q0 31), .ref (q0 32), .ref (q0 33), .int (gI u37 34), .int (gI u37 35), .int (gI u37 36), .int (gI u37 37), .ref (q0 38), .ref (q0 39), .int (gI u37 40), .ref (q0 41), .ref (q0 42), .ref (q0 43), .ref (q0 44)])), kI G (q0 1) 6100 (gA u37 1), kI G (q0 2) 6100 (gA u37 2), kJ G (q0 3) 2016 (gB u37 3), kJ G (q0 4) 2016 (gB u37 4), kI G (q0 5) 300 (gA u37 5), kI G (q0 6) 400 (gA u37 6), kJ G (q0 28) 10 (gB u37 28), kI G (q0 31) 969 (gA u37 31), kI G (q0 32) 969 (gA u37 32), kI G (q0 33) 969 (gA u37 33), kI G (q0 38) 5 (gA u37 38), kI G (q0 39) 5120 (gA u37 39), kI G (q0 41) 5 (gA u37 41), kZ G (q0 42) 1024 (gA u37 42), kI G (q0 43) 8192 (gA u37 43), kI G (q0 44) 8192 (gA u37 44)] := hD
      refine lv_lstore (lv' := [(6, .long z36), (4, .long y24), (2, .long ((gB o0 3) (((0 : Int32) + x1).toNatClampNeg))), (0, .ref h0), (1, .int x1)]) hx hb d_Md_step_186 hl (by decide) rfl (fun ls hl => ?_)
      refine lv_aload_n hx hb d_Md_step_188 rfl (lv_at hl 3 rfl) ?_
      refine va_get (D := G.1) (ci := 11) (v := .ref (q0 3)) (C := R_Md) (T := T_Md) (N := 45) hx hb hts i_Md hown hK hP 0 rfl rfl 3 (by decide) (hts _ wf_Md_16) (fun _ h9 => h9) rfl d_Md_step_189 ?_
      refine lv_bipush (v := (10 : Int32)) hx hb d_Md_step_192 (by decide) ?_
      refine lv_iload_n hx hb d_Md_step_194 rfl (lv_at hl 4 rfl) ?_
      refine lv_iadd hx hb d_Md_step_195 ?_
      refine lv_aload_n hx hb d_Md_step_196 rfl (lv_at hl 3 rfl) ?_
      refine va_get (D := G.1) (ci := 11) (v := .long (gL u37 29)) (C := R_Md) (T := T_Md) (N := 45) hx hb hts i_Md hown hK hP 0 rfl rfl 29 (by decide) (hts _ wf_Md_210) (fun _ h9 => h9) rfl d_Md_step_197 ?_
      have g38 := h.1
      have h := h.2
      refine xa_last hx hb hK hP hD hS 3 1 rfl rfl g38 (k := ((10 : Int32) + x1).toNatClampNeg) rfl d_Md_step_200 (fun H locs hP hD hS => ?_)
      have hP : va_P G.1 CL [(h0, .inr (11, [.int (gI u37 0), .ref (q0 1), .ref (q0 2), .ref (q0 3), .ref (q0 4), .ref (q0 5), .ref (q0 6), .int (gI u37 7), .int (gI u37 8), .int (gI u37 9), .int (gI u37 10), .int (gI u37 11), .int (gI u37 12), .int (gI u37 13), .int (gI u37 14), .long (gL u37 15), .int (gI u37 16), .int (gI u37 17), .int (gI u37 18), .int (gI u37 19), .int (gI u37 20), .int (gI u37 21), .int (gI u37 22), .int (gI u37 23), .int (gI u37 24), .int (gI u37 25), .int (gI u37 26), .int (gI u37 27), .ref (q0 28), .long (gL u37 29), .int (gI u37 30), .ref (q0 31), .ref (q0 32), .ref (q0 33), .int (gI u37 34), .int (gI u37 35), .int (gI u37 36), .int (gI u37 37), .ref (q0 38), .ref (q0 39), .int (gI u37 40), .ref (q0 41), .ref (q0 42), .ref (q0 43), .ref (q0 44)])), kI G (q0 1) 6100 (gA u37 1), kI G (q0 2) 6100 (gA u37 2), kJ G (q0 3) 2016 (vp_updL (gB u37 3) (((10 : Int32) + x1).toNatClampNeg) (gL u37 29)), kJ G (q0 4) 2016 (gB u37 4), kI G (q0 5) 300 (gA u37 5), kI G (q0 6) 400 (gA u37 6), kJ G (q0 28) 10 (gB u37 28), kI G (q0 31) 969 (gA u37 31), kI G (q0 32) 969 (gA u37 32), kI G (q0 33) 969 (gA u37 33), kI G (q0 38) 5 (gA u37 38), kI G (q0 39) 5120 (gA u37 39), kI G (q0 41) 5 (gA u37 41), kZ G (q0 42) 1024 (gA u37 42), kI G (q0 43) 8192 (gA u37 43), kI G (q0 44) 8192 (gA u37 44)] H := hP
      have hD : va_D A [(h0, .inr (11, [.int (gI u37 0), .ref (q0 1), .ref (q0 2), .ref (q0 3), .ref (q0 4), .ref (q0 5), .ref (q0 6), .int (gI u37 7), .int (gI u37 8), .int (gI u37 9), .int (gI u37 10), .int (gI u37 11), .int (gI u37 12), .int (gI u37 13), .int (gI u37 14), .long (gL u37 15), .int (gI u37 16), .int (gI u37 17), .int (gI u37 18), .int (gI u37 19), .int (gI u37 20), .int (gI u37 21), .int (gI u37 22), .int (gI u37 23), .int (gI u37 24), .int (gI u37 25), .int (gI u37 26), .int (gI u37 27), .ref (q0 28), .long (gL u37 29), .int (gI u37 30), .ref (q0 31), .ref (q0 32), .ref (q0 33), .int (gI u37 34), .int (gI u37 35), .int (gI u37 36), .int (gI u37 37), .ref (q0 38), .ref (q0 39), .int (gI u37 40), .ref (q0 41), .ref (q0 42), .ref (q0 43), .ref (q0 44)])), kI G (q0 1) 6100 (gA u37 1), kI G (q0 2) 6100 (gA u37 2), kJ G (q0 3) 2016 (vp_updL (gB u37 3) (((10 : Int32) + x1).toNatClampNeg) (gL u37 29)), kJ G (q0 4) 2016 (gB u37 4), kI G (q0 5) 300 (gA u37 5), kI G (q0 6) 400 (gA u37 6), kJ G (q0 28) 10 (gB u37 28), kI G (q0 31) 969 (gA u37 31), kI G (q0 32) 969 (gA u37 32), kI G (q0 33) 969 (gA u37 33), kI G (q0 38) 5 (gA u37 38), kI G (q0 39) 5120 (gA u37 39), kI G (q0 41) 5 (gA u37 41), kZ G (q0 42) 1024 (gA u37 42), kI G (q0 43) 8192 (gA u37 43), kI G (q0 44) 8192 (gA u37 44)] := hD
      refine lv_aload_n hx hb d_Md_step_201 rfl (lv_at hl 3 rfl) ?_
      refine va_get (D := G.1) (ci := 11) (v := .ref (q0 28)) (C := R_Md) (T := T_Md) (N := 45) hx hb hts i_Md hown hK hP 0 rfl rfl 28 (by decide) (hts _ wf_Md_36) (fun _ h9 => h9) rfl d_Md_step_202 ?_
      refine lv_iconst (v := (0 : Int32)) hx hb d_Md_step_205 (by decide) ?_
      refine lv_iload_n hx hb d_Md_step_206 rfl (lv_at hl 4 rfl) ?_
      refine lv_iadd hx hb d_Md_step_207 ?_
      refine lv_iconst (v := (1 : Int32)) hx hb d_Md_step_208 (by decide) ?_
      refine lv_iadd hx hb d_Md_step_209 ?_
      refine lv_lload_n hx hb d_Md_step_210 rfl (lv_at hl 2 rfl) ?_
      refine lv_lload hx hb d_Md_step_211 (lv_at hl 0 rfl) ?_
      refine lv_ladd hx hb d_Md_step_213 ?_
      refine lv_topl (fun y39 ey39 => ?_)
      have h := h y39 ey39
      have g40 := h.1
      have h := h.2
      refine xa_last hx hb hK hP hD hS 7 1 rfl rfl g40 (k := (((0 : Int32) + x1) + (1 : Int32)).toNatClampNeg) rfl d_Md_step_214 (fun H locs hP hD hS => ?_)
      have hP : va_P G.1 CL [(h0, .inr (11, [.int (gI u37 0), .ref (q0 1), .ref (q0 2), .ref (q0 3), .ref (q0 4), .ref (q0 5), .ref (q0 6), .int (gI u37 7), .int (gI u37 8), .int (gI u37 9), .int (gI u37 10), .int (gI u37 11), .int (gI u37 12), .int (gI u37 13), .int (gI u37 14), .long (gL u37 15), .int (gI u37 16), .int (gI u37 17), .int (gI u37 18), .int (gI u37 19), .int (gI u37 20), .int (gI u37 21), .int (gI u37 22), .int (gI u37 23), .int (gI u37 24), .int (gI u37 25), .int (gI u37 26), .int (gI u37 27), .ref (q0 28), .long (gL u37 29), .int (gI u37 30), .ref (q0 31), .ref (q0 32), .ref (q0 33), .int (gI u37 34), .int (gI u37 35), .int (gI u37 36), .int (gI u37 37), .ref (q0 38), .ref (q0 39), .int (gI u37 40), .ref (q0 41), .ref (q0 42), .ref (q0 43), .ref (q0 44)])), kI G (q0 1) 6100 (gA u37 1), kI G (q0 2) 6100 (gA u37 2), kJ G (q0 3) 2016 (vp_updL (gB u37 3) (((10 : Int32) + x1).toNatClampNeg) (gL u37 29)), kJ G (q0 4) 2016 (gB u37 4), kI G (q0 5) 300 (gA u37 5), kI G (q0 6) 400 (gA u37 6), kJ G (q0 28) 10 (vp_updL (gB u37 28) ((((0 : Int32) + x1) + (1 : Int32)).toNatClampNeg) y39), kI G (q0 31) 969 (gA u37 31), kI G (q0 32) 969 (gA u37 32), kI G (q0 33) 969 (gA u37 33), kI G (q0 38) 5 (gA u37 38), kI G (q0 39) 5120 (gA u37 39), kI G (q0 41) 5 (gA u37 41), kZ G (q0 42) 1024 (gA u37 42), kI G (q0 43) 8192 (gA u37 43), kI G (q0 44) 8192 (gA u37 44)] H := hP
      have hD : va_D A [(h0, .inr (11, [.int (gI u37 0), .ref (q0 1), .ref (q0 2), .ref (q0 3), .ref (q0 4), .ref (q0 5), .ref (q0 6), .int (gI u37 7), .int (gI u37 8), .int (gI u37 9), .int (gI u37 10), .int (gI u37 11), .int (gI u37 12), .int (gI u37 13), .int (gI u37 14), .long (gL u37 15), .int (gI u37 16), .int (gI u37 17), .int (gI u37 18), .int (gI u37 19), .int (gI u37 20), .int (gI u37 21), .int (gI u37 22), .int (gI u37 23), .int (gI u37 24), .int (gI u37 25), .int (gI u37 26), .int (gI u37 27), .ref (q0 28), .long (gL u37 29), .int (gI u37 30), .ref (q0 31), .ref (q0 32), .ref (q0 33), .int (gI u37 34), .int (gI u37 35), .int (gI u37 36), .int (gI u37 37), .ref (q0 38), .ref (q0 39), .int (gI u37 40), .ref (q0 41), .ref (q0 42), .ref (q0 43), .ref (q0 44)])), kI G (q0 1) 6100 (gA u37 1), kI G (q0 2) 6100 (gA u37 2), kJ G (q0 3) 2016 (vp_updL (gB u37 3) (((10 : Int32) + x1).toNatClampNeg) (gL u37 29)), kJ G (q0 4) 2016 (gB u37 4), kI G (q0 5) 300 (gA u37 5), kI G (q0 6) 400 (gA u37 6), kJ G (q0 28) 10 (vp_updL (gB u37 28) ((((0 : Int32) + x1) + (1 : Int32)).toNatClampNeg) y39), kI G (q0 31) 969 (gA u37 31), kI G (q0 32) 969 (gA u37 32), kI G (q0 33) 969 (gA u37 33), kI G (q0 38) 5 (gA u37 38), kI G (q0 39) 5120 (gA u37 39), kI G (q0 41) 5 (gA u37 41), kZ G (q0 42) 1024 (gA u37 42), kI G (q0 43) 8192 (gA u37 43), kI G (q0 44) 8192 (gA u37 44)] := hD
      refine lv_aload_n hx hb d_Md_step_215 rfl (lv_at hl 3 rfl) ?_
      refine va_get (D := G.1) (ci := 11) (v := .ref (q0 28)) (C := R_Md) (T := T_Md) (N := 45) hx hb hts i_Md hown hK hP 0 rfl rfl 28 (by decide) (hts _ wf_Md_36) (fun _ h9 => h9) rfl d_Md_step_216 ?_
      refine lv_iconst (v := (5 : Int32)) hx hb d_Md_step_219 (by decide) ?_
      refine lv_iload_n hx hb d_Md_step_220 rfl (lv_at hl 4 rfl) ?_
      refine lv_iadd hx hb d_Md_step_221 ?_
      refine lv_lload hx hb d_Md_step_222 (lv_at hl 1 rfl) ?_
      refine lv_lload hx hb d_Md_step_224 (lv_at hl 0 rfl) ?_
      refine lv_lsub hx hb d_Md_step_226 ?_
      have g41 := h.1
      have h := h.2
      refine xa_last hx hb hK hP hD hS 7 1 rfl rfl g41 (k := ((5 : Int32) + x1).toNatClampNeg) rfl d_Md_step_227 (fun H locs hP hD hS => ?_)
      have hP : va_P G.1 CL [(h0, .inr (11, [.int (gI u37 0), .ref (q0 1), .ref (q0 2), .ref (q0 3), .ref (q0 4), .ref (q0 5), .ref (q0 6), .int (gI u37 7), .int (gI u37 8), .int (gI u37 9), .int (gI u37 10), .int (gI u37 11), .int (gI u37 12), .int (gI u37 13), .int (gI u37 14), .long (gL u37 15), .int (gI u37 16), .int (gI u37 17), .int (gI u37 18), .int (gI u37 19), .int (gI u37 20), .int (gI u37 21), .int (gI u37 22), .int (gI u37 23), .int (gI u37 24), .int (gI u37 25), .int (gI u37 26), .int (gI u37 27), .ref (q0 28), .long (gL u37 29), .int (gI u37 30), .ref (q0 31), .ref (q0 32), .ref (q0 33), .int (gI u37 34), .int (gI u37 35), .int (gI u37 36), .int (gI u37 37), .ref (q0 38), .ref (q0 39), .int (gI u37 40), .ref (q0 41), .ref (q0 42), .ref (q0 43), .ref (q0 44)])), kI G (q0 1) 6100 (gA u37 1), kI G (q0 2) 6100 (gA u37 2), kJ G (q0 3) 2016 (vp_updL (gB u37 3) (((10 : Int32) + x1).toNatClampNeg) (gL u37 29)), kJ G (q0 4) 2016 (gB u37 4), kI G (q0 5) 300 (gA u37 5), kI G (q0 6) 400 (gA u37 6), kJ G (q0 28) 10 (vp_updL (vp_updL (gB u37 28) ((((0 : Int32) + x1) + (1 : Int32)).toNatClampNeg) y39) (((5 : Int32) + x1).toNatClampNeg) (y24 - z36)), kI G (q0 31) 969 (gA u37 31), kI G (q0 32) 969 (gA u37 32), kI G (q0 33) 969 (gA u37 33), kI G (q0 38) 5 (gA u37 38), kI G (q0 39) 5120 (gA u37 39), kI G (q0 41) 5 (gA u37 41), kZ G (q0 42) 1024 (gA u37 42), kI G (q0 43) 8192 (gA u37 43), kI G (q0 44) 8192 (gA u37 44)] H := hP
      have hD : va_D A [(h0, .inr (11, [.int (gI u37 0), .ref (q0 1), .ref (q0 2), .ref (q0 3), .ref (q0 4), .ref (q0 5), .ref (q0 6), .int (gI u37 7), .int (gI u37 8), .int (gI u37 9), .int (gI u37 10), .int (gI u37 11), .int (gI u37 12), .int (gI u37 13), .int (gI u37 14), .long (gL u37 15), .int (gI u37 16), .int (gI u37 17), .int (gI u37 18), .int (gI u37 19), .int (gI u37 20), .int (gI u37 21), .int (gI u37 22), .int (gI u37 23), .int (gI u37 24), .int (gI u37 25), .int (gI u37 26), .int (gI u37 27), .ref (q0 28), .long (gL u37 29), .int (gI u37 30), .ref (q0 31), .ref (q0 32), .ref (q0 33), .int (gI u37 34), .int (gI u37 35), .int (gI u37 36), .int (gI u37 37), .ref (q0 38), .ref (q0 39), .int (gI u37 40), .ref (q0 41), .ref (q0 42), .ref (q0 43), .ref (q0 44)])), kI G (q0 1) 6100 (gA u37 1), kI G (q0 2) 6100 (gA u37 2), kJ G (q0 3) 2016 (vp_updL (gB u37 3) (((10 : Int32) + x1).toNatClampNeg) (gL u37 29)), kJ G (q0 4) 2016 (gB u37 4), kI G (q0 5) 300 (gA u37 5), kI G (q0 6) 400 (gA u37 6), kJ G (q0 28) 10 (vp_updL (vp_updL (gB u37 28) ((((0 : Int32) + x1) + (1 : Int32)).toNatClampNeg) y39) (((5 : Int32) + x1).toNatClampNeg) (y24 - z36)), kI G (q0 31) 969 (gA u37 31), kI G (q0 32) 969 (gA u37 32), kI G (q0 33) 969 (gA u37 33), kI G (q0 38) 5 (gA u37 38), kI G (q0 39) 5120 (gA u37 39), kI G (q0 41) 5 (gA u37 41), kZ G (q0 42) 1024 (gA u37 42), kI G (q0 43) 8192 (gA u37 43), kI G (q0 44) 8192 (gA u37 44)] := hD
      refine lv_iinc (v := (x1 + (1 : Int32))) (lv' := [(1, .int (x1 + (1 : Int32))), (6, .long z36), (4, .long y24), (2, .long ((gB o0 3) (((0 : Int32) + x1).toNatClampNeg))), (0, .ref h0)]) hx hb d_Md_step_228 hl (k := 4) rfl rfl (by decide) rfl (fun ls hl => ?_)
      refine lv_goto (tgt := 92) hx hb d_Md_step_231 (by decide) ?_
      have hl := lv_sub (l' := [(0, .ref h0), (1, .int (x1 + (1 : Int32)))]) hl [4, 0] rfl
      have hP : va_P G.1 CL (cw_Md G h0 q0 (sB (sB u37 3 (vp_updL (gB u37 3) (((10 : Int32) + x1).toNatClampNeg) (gL u37 29))) 28 (vp_updL (vp_updL (gB u37 28) ((((0 : Int32) + x1) + (1 : Int32)).toNatClampNeg) y39) (((5 : Int32) + x1).toNatClampNeg) (y24 - z36)))) H := hP
      have hD : va_D A (cw_Md G h0 q0 (sB (sB u37 3 (vp_updL (gB u37 3) (((10 : Int32) + x1).toNatClampNeg) (gL u37 29))) 28 (vp_updL (vp_updL (gB u37 28) ((((0 : Int32) + x1) + (1 : Int32)).toNatClampNeg) y39) (((5 : Int32) + x1).toNatClampNeg) (y24 - z36)))) := hD
      exact ih (x1 + (1 : Int32)) (sB (sB u37 3 (vp_updL (gB u37 3) (((10 : Int32) + x1).toNatClampNeg) (gL u37 29))) 28 (vp_updL (vp_updL (gB u37 28) ((((0 : Int32) + x1) + (1 : Int32)).toNatClampNeg) y39) (((5 : Int32) + x1).toNatClampNeg) (y24 - z36))) ls H locs hl hP hD hS h
set_option maxHeartbeats 4000000 in
set_option maxRecDepth 100000 in
theorem c_Md_step {l : Launch} {G : Gl} {h0 : Nat} {q0 : Nat → Nat} {o0 : Ob} {Q : Ob → Prop} (sz : Nat) (h : f_Md_step o0 Q) : Met l y_Md_step w_Md_step rm_Md_step (PcW G [.ref h0] sz (cw_Md G h0 q0 o0)) (va_Qv (fun (u : Ob) => Q u) (fun (u : Ob) t => BW G (va_A (cw_Md G h0 q0 o0) sz) (cw_Md G h0 q0 u) t) (va_A (cw_Md G h0 q0 o0) sz)) 0 0 (va_A (cw_Md G h0 q0 o0) sz) := by
  refine Met.ofW (cc := b_Md_step) (maxL := 8) (ret := none) (by decide +kernel) rfl ?_
  intro p e s m args below meth c s₁ B hml hv
  obtain ⟨rfl, hsz, hP, hK, hD0, hE⟩ := hv
  have hx := B.exec
  have hb := B.bytes
  have hr := B.returns
  have hts0 := atoms_spec (ws := w_Md_step) B.pre
  have hts : ∀ w ∈ gw_tbl, w.before ([.ref h0]).toArray s = true := fun w hw => hts0 w (List.mem_cons_of_mem _ hw)
  have hown : s.vm.findClass R_Md = some m.cls := findClass_of_methodNamed B.named
  have hlocks := B.notSynchronized
  subst hsz
  have hD := hD0.self (sz := s.heap.size)
  generalize hAe : va_A (cw_Md G h0 q0 o0) s.heap.size = A at hD hE ⊢
  have hA : ∀ q : Nat, s.heap.size ≤ q → A q := fun q h => by rw [← hAe]; exact Or.inr h
  have hS : va_S A s.heap s.heap [] := va_S.rf
  have C : Cx p s m ([.ref h0]).toArray meth c R_Md b_Md_step 8 none G A := ⟨hx, hb, hml, hown, hr, hts, hK, hA, hlocks, hE⟩
  have hl := lv_entry ([.ref h0]) (n := 8) (Nat.le_of_ble_eq_true rfl)
  rw [lg_entry_eq]
  generalize (lg_sl ([.ref h0]) ++ List.replicate (8 - (lg_sl ([.ref h0])).length) Slot.unset).toArray = ls at hl ⊢
  have hl : lv_has ls 8 [(0, .ref h0)] := hl
  have hD : va_D A [(h0, .inr (11, [.int (gI o0 0), .ref (q0 1), .ref (q0 2), .ref (q0 3), .ref (q0 4), .ref (q0 5), .ref (q0 6), .int (gI o0 7), .int (gI o0 8), .int (gI o0 9), .int (gI o0 10), .int (gI o0 11), .int (gI o0 12), .int (gI o0 13), .int (gI o0 14), .long (gL o0 15), .int (gI o0 16), .int (gI o0 17), .int (gI o0 18), .int (gI o0 19), .int (gI o0 20), .int (gI o0 21), .int (gI o0 22), .int (gI o0 23), .int (gI o0 24), .int (gI o0 25), .int (gI o0 26), .int (gI o0 27), .ref (q0 28), .long (gL o0 29), .int (gI o0 30), .ref (q0 31), .ref (q0 32), .ref (q0 33), .int (gI o0 34), .int (gI o0 35), .int (gI o0 36), .int (gI o0 37), .ref (q0 38), .ref (q0 39), .int (gI o0 40), .ref (q0 41), .ref (q0 42), .ref (q0 43), .ref (q0 44)])), kI G (q0 1) 6100 (gA o0 1), kI G (q0 2) 6100 (gA o0 2), kJ G (q0 3) 2016 (gB o0 3), kJ G (q0 4) 2016 (gB o0 4), kI G (q0 5) 300 (gA o0 5), kI G (q0 6) 400 (gA o0 6), kJ G (q0 28) 10 (gB o0 28), kI G (q0 31) 969 (gA o0 31), kI G (q0 32) 969 (gA o0 32), kI G (q0 33) 969 (gA o0 33), kI G (q0 38) 5 (gA o0 38), kI G (q0 39) 5120 (gA o0 39), kI G (q0 41) 5 (gA o0 41), kZ G (q0 42) 1024 (gA o0 42), kI G (q0 43) 8192 (gA o0 43), kI G (q0 44) 8192 (gA o0 44)] := hD
  unfold f_Md_step at h
  suffices key : ∀ (H : Heap) (locs : List Loc), va_P G.1 CL [(h0, .inr (11, [.int (gI o0 0), .ref (q0 1), .ref (q0 2), .ref (q0 3), .ref (q0 4), .ref (q0 5), .ref (q0 6), .int (gI o0 7), .int (gI o0 8), .int (gI o0 9), .int (gI o0 10), .int (gI o0 11), .int (gI o0 12), .int (gI o0 13), .int (gI o0 14), .long (gL o0 15), .int (gI o0 16), .int (gI o0 17), .int (gI o0 18), .int (gI o0 19), .int (gI o0 20), .int (gI o0 21), .int (gI o0 22), .int (gI o0 23), .int (gI o0 24), .int (gI o0 25), .int (gI o0 26), .int (gI o0 27), .ref (q0 28), .long (gL o0 29), .int (gI o0 30), .ref (q0 31), .ref (q0 32), .ref (q0 33), .int (gI o0 34), .int (gI o0 35), .int (gI o0 36), .int (gI o0 37), .ref (q0 38), .ref (q0 39), .int (gI o0 40), .ref (q0 41), .ref (q0 42), .ref (q0 43), .ref (q0 44)])), kI G (q0 1) 6100 (gA o0 1), kI G (q0 2) 6100 (gA o0 2), kJ G (q0 3) 2016 (gB o0 3), kJ G (q0 4) 2016 (gB o0 4), kI G (q0 5) 300 (gA o0 5), kI G (q0 6) 400 (gA o0 6), kJ G (q0 28) 10 (gB o0 28), kI G (q0 31) 969 (gA o0 31), kI G (q0 32) 969 (gA o0 32), kI G (q0 33) 969 (gA o0 33), kI G (q0 38) 5 (gA o0 38), kI G (q0 39) 5120 (gA o0 39), kI G (q0 41) 5 (gA o0 41), kZ G (q0 42) 1024 (gA o0 42), kI G (q0 43) 8192 (gA o0 43), kI G (q0 44) 8192 (gA o0 44)] H → va_S A s.heap H locs → W p l e rm_Md_step s m ([.ref h0]).toArray below meth c H locs 0 0 (MQ below (va_Qv (fun (u : Ob) => Q u) (fun (u : Ob) t => BW G A (cw_Md G h0 q0 u) t) A) ([.ref h0]).toArray s 0 0 A) (F0 m 0 ls []) from key s.heap [] hP hS
  intro H locs hP hS
  refine lv_aload_n hx hb d_Md_step_0 rfl (lv_at hl 0 rfl) ?_
  refine lv_aload_n hx hb d_Md_step_1 rfl (lv_at hl 0 rfl) ?_
  refine va_get (D := G.1) (ci := 11) (v := .ref (q0 1)) (C := R_Md) (T := T_Md) (N := 45) hx hb hts i_Md hown hK hP 0 rfl rfl 1 (by decide) (hts _ wf_Md_7) (fun _ h9 => h9) rfl d_Md_step_2 ?_
  refine lv_bipush (v := (7 : Int32)) hx hb d_Md_step_5 (by decide) ?_
  refine xa_iald hx hb hK hP 1 0 rfl rfl (vp_lit rfl) (k := 7) rfl d_Md_step_7 ?_
  refine va_put (D := G.1) (ci := 11) (v := .int ((gA o0 1) 7)) (ty := .int) (C := R_Md) (T := T_Md) (N := 45) hx hb hts i_Md ty_Md ty_Md_ok nm_Md hown hK hP hD hS 0 rfl rfl 24 (by decide) (hts _ wf_Md_200) (fun _ h9 => h9) rfl (ty_Md_ok 24 (by decide)) rfl rfl (Nat.le_of_ble_eq_true rfl) d_Md_step_8 (fun H locs hP hD hS => ?_)
  have hP : va_P G.1 CL [(h0, .inr (11, [.int (gI o0 0), .ref (q0 1), .ref (q0 2), .ref (q0 3), .ref (q0 4), .ref (q0 5), .ref (q0 6), .int (gI o0 7), .int (gI o0 8), .int (gI o0 9), .int (gI o0 10), .int (gI o0 11), .int (gI o0 12), .int (gI o0 13), .int (gI o0 14), .long (gL o0 15), .int (gI o0 16), .int (gI o0 17), .int (gI o0 18), .int (gI o0 19), .int (gI o0 20), .int (gI o0 21), .int (gI o0 22), .int (gI o0 23), .int ((gA o0 1) 7), .int (gI o0 25), .int (gI o0 26), .int (gI o0 27), .ref (q0 28), .long (gL o0 29), .int (gI o0 30), .ref (q0 31), .ref (q0 32), .ref (q0 33), .int (gI o0 34), .int (gI o0 35), .int (gI o0 36), .int (gI o0 37), .ref (q0 38), .ref (q0 39), .int (gI o0 40), .ref (q0 41), .ref (q0 42), .ref (q0 43), .ref (q0 44)])), kI G (q0 1) 6100 (gA o0 1), kI G (q0 2) 6100 (gA o0 2), kJ G (q0 3) 2016 (gB o0 3), kJ G (q0 4) 2016 (gB o0 4), kI G (q0 5) 300 (gA o0 5), kI G (q0 6) 400 (gA o0 6), kJ G (q0 28) 10 (gB o0 28), kI G (q0 31) 969 (gA o0 31), kI G (q0 32) 969 (gA o0 32), kI G (q0 33) 969 (gA o0 33), kI G (q0 38) 5 (gA o0 38), kI G (q0 39) 5120 (gA o0 39), kI G (q0 41) 5 (gA o0 41), kZ G (q0 42) 1024 (gA o0 42), kI G (q0 43) 8192 (gA o0 43), kI G (q0 44) 8192 (gA o0 44)] H := hP
  have hD : va_D A [(h0, .inr (11, [.int (gI o0 0), .ref (q0 1), .ref (q0 2), .ref (q0 3), .ref (q0 4), .ref (q0 5), .ref (q0 6), .int (gI o0 7), .int (gI o0 8), .int (gI o0 9), .int (gI o0 10), .int (gI o0 11), .int (gI o0 12), .int (gI o0 13), .int (gI o0 14), .long (gL o0 15), .int (gI o0 16), .int (gI o0 17), .int (gI o0 18), .int (gI o0 19), .int (gI o0 20), .int (gI o0 21), .int (gI o0 22), .int (gI o0 23), .int ((gA o0 1) 7), .int (gI o0 25), .int (gI o0 26), .int (gI o0 27), .ref (q0 28), .long (gL o0 29), .int (gI o0 30), .ref (q0 31), .ref (q0 32), .ref (q0 33), .int (gI o0 34), .int (gI o0 35), .int (gI o0 36), .int (gI o0 37), .ref (q0 38), .ref (q0 39), .int (gI o0 40), .ref (q0 41), .ref (q0 42), .ref (q0 43), .ref (q0 44)])), kI G (q0 1) 6100 (gA o0 1), kI G (q0 2) 6100 (gA o0 2), kJ G (q0 3) 2016 (gB o0 3), kJ G (q0 4) 2016 (gB o0 4), kI G (q0 5) 300 (gA o0 5), kI G (q0 6) 400 (gA o0 6), kJ G (q0 28) 10 (gB o0 28), kI G (q0 31) 969 (gA o0 31), kI G (q0 32) 969 (gA o0 32), kI G (q0 33) 969 (gA o0 33), kI G (q0 38) 5 (gA o0 38), kI G (q0 39) 5120 (gA o0 39), kI G (q0 41) 5 (gA o0 41), kZ G (q0 42) 1024 (gA o0 42), kI G (q0 43) 8192 (gA o0 43), kI G (q0 44) 8192 (gA o0 44)] := hD
  refine lv_aload_n hx hb d_Md_step_11 rfl (lv_at hl 0 rfl) ?_
  refine lv_aload_n hx hb d_Md_step_12 rfl (lv_at hl 0 rfl) ?_
  refine va_get (D := G.1) (ci := 11) (v := .ref (q0 1)) (C := R_Md) (T := T_Md) (N := 45) hx hb hts i_Md hown hK hP 0 rfl rfl 1 (by decide) (hts _ wf_Md_7) (fun _ h9 => h9) rfl d_Md_step_13 ?_
  refine lv_bipush (v := (8 : Int32)) hx hb d_Md_step_16 (by decide) ?_
  refine xa_iald hx hb hK hP 1 0 rfl rfl (vp_lit rfl) (k := 8) rfl d_Md_step_18 ?_
  refine va_put (D := G.1) (ci := 11) (v := .int ((gA o0 1) 8)) (ty := .int) (C := R_Md) (T := T_Md) (N := 45) hx hb hts i_Md ty_Md ty_Md_ok nm_Md hown hK hP hD hS 0 rfl rfl 25 (by decide) (hts _ wf_Md_197) (fun _ h9 => h9) rfl (ty_Md_ok 25 (by decide)) rfl rfl (Nat.le_of_ble_eq_true rfl) d_Md_step_19 (fun H locs hP hD hS => ?_)
  have hP : va_P G.1 CL [(h0, .inr (11, [.int (gI o0 0), .ref (q0 1), .ref (q0 2), .ref (q0 3), .ref (q0 4), .ref (q0 5), .ref (q0 6), .int (gI o0 7), .int (gI o0 8), .int (gI o0 9), .int (gI o0 10), .int (gI o0 11), .int (gI o0 12), .int (gI o0 13), .int (gI o0 14), .long (gL o0 15), .int (gI o0 16), .int (gI o0 17), .int (gI o0 18), .int (gI o0 19), .int (gI o0 20), .int (gI o0 21), .int (gI o0 22), .int (gI o0 23), .int ((gA o0 1) 7), .int ((gA o0 1) 8), .int (gI o0 26), .int (gI o0 27), .ref (q0 28), .long (gL o0 29), .int (gI o0 30), .ref (q0 31), .ref (q0 32), .ref (q0 33), .int (gI o0 34), .int (gI o0 35), .int (gI o0 36), .int (gI o0 37), .ref (q0 38), .ref (q0 39), .int (gI o0 40), .ref (q0 41), .ref (q0 42), .ref (q0 43), .ref (q0 44)])), kI G (q0 1) 6100 (gA o0 1), kI G (q0 2) 6100 (gA o0 2), kJ G (q0 3) 2016 (gB o0 3), kJ G (q0 4) 2016 (gB o0 4), kI G (q0 5) 300 (gA o0 5), kI G (q0 6) 400 (gA o0 6), kJ G (q0 28) 10 (gB o0 28), kI G (q0 31) 969 (gA o0 31), kI G (q0 32) 969 (gA o0 32), kI G (q0 33) 969 (gA o0 33), kI G (q0 38) 5 (gA o0 38), kI G (q0 39) 5120 (gA o0 39), kI G (q0 41) 5 (gA o0 41), kZ G (q0 42) 1024 (gA o0 42), kI G (q0 43) 8192 (gA o0 43), kI G (q0 44) 8192 (gA o0 44)] H := hP
  have hD : va_D A [(h0, .inr (11, [.int (gI o0 0), .ref (q0 1), .ref (q0 2), .ref (q0 3), .ref (q0 4), .ref (q0 5), .ref (q0 6), .int (gI o0 7), .int (gI o0 8), .int (gI o0 9), .int (gI o0 10), .int (gI o0 11), .int (gI o0 12), .int (gI o0 13), .int (gI o0 14), .long (gL o0 15), .int (gI o0 16), .int (gI o0 17), .int (gI o0 18), .int (gI o0 19), .int (gI o0 20), .int (gI o0 21), .int (gI o0 22), .int (gI o0 23), .int ((gA o0 1) 7), .int ((gA o0 1) 8), .int (gI o0 26), .int (gI o0 27), .ref (q0 28), .long (gL o0 29), .int (gI o0 30), .ref (q0 31), .ref (q0 32), .ref (q0 33), .int (gI o0 34), .int (gI o0 35), .int (gI o0 36), .int (gI o0 37), .ref (q0 38), .ref (q0 39), .int (gI o0 40), .ref (q0 41), .ref (q0 42), .ref (q0 43), .ref (q0 44)])), kI G (q0 1) 6100 (gA o0 1), kI G (q0 2) 6100 (gA o0 2), kJ G (q0 3) 2016 (gB o0 3), kJ G (q0 4) 2016 (gB o0 4), kI G (q0 5) 300 (gA o0 5), kI G (q0 6) 400 (gA o0 6), kJ G (q0 28) 10 (gB o0 28), kI G (q0 31) 969 (gA o0 31), kI G (q0 32) 969 (gA o0 32), kI G (q0 33) 969 (gA o0 33), kI G (q0 38) 5 (gA o0 38), kI G (q0 39) 5120 (gA o0 39), kI G (q0 41) 5 (gA o0 41), kZ G (q0 42) 1024 (gA o0 42), kI G (q0 43) 8192 (gA o0 43), kI G (q0 44) 8192 (gA o0 44)] := hD
  refine lv_aload_n hx hb d_Md_step_22 rfl (lv_at hl 0 rfl) ?_
  refine lv_aload_n hx hb d_Md_step_23 rfl (lv_at hl 0 rfl) ?_
  refine va_get (D := G.1) (ci := 11) (v := .ref (q0 1)) (C := R_Md) (T := T_Md) (N := 45) hx hb hts i_Md hown hK hP 0 rfl rfl 1 (by decide) (hts _ wf_Md_7) (fun _ h9 => h9) rfl d_Md_step_24 ?_
  refine lv_iconst (v := (4 : Int32)) hx hb d_Md_step_27 (by decide) ?_
  refine xa_iald hx hb hK hP 1 0 rfl rfl (vp_lit rfl) (k := 4) rfl d_Md_step_28 ?_
  refine cl_Vv (b := b_Md_step) (As := [.int ((gA o0 1) 4)]) (rest := []) (ws := [(h0, .inr (11, [.int (gI o0 0), .ref (q0 1), .ref (q0 2), .ref (q0 3), .ref (q0 4), .ref (q0 5), .ref (q0 6), .int (gI o0 7), .int (gI o0 8), .int (gI o0 9), .int (gI o0 10), .int (gI o0 11), .int (gI o0 12), .int (gI o0 13), .int (gI o0 14), .long (gL o0 15), .int (gI o0 16), .int (gI o0 17), .int (gI o0 18), .int (gI o0 19), .int (gI o0 20), .int (gI o0 21), .int (gI o0 22), .int (gI o0 23), .int ((gA o0 1) 7), .int ((gA o0 1) 8), .int (gI o0 26), .int (gI o0 27), .ref (q0 28), .long (gL o0 29), .int (gI o0 30), .ref (q0 31), .ref (q0 32), .ref (q0 33), .int (gI o0 34), .int (gI o0 35), .int (gI o0 36), .int (gI o0 37), .ref (q0 38), .ref (q0 39), .int (gI o0 40), .ref (q0 41), .ref (q0 42), .ref (q0 43), .ref (q0 44)])), kI G (q0 1) 6100 (gA o0 1), kI G (q0 2) 6100 (gA o0 2), kJ G (q0 3) 2016 (gB o0 3), kJ G (q0 4) 2016 (gB o0 4), kI G (q0 5) 300 (gA o0 5), kI G (q0 6) 400 (gA o0 6), kJ G (q0 28) 10 (gB o0 28), kI G (q0 31) 969 (gA o0 31), kI G (q0 32) 969 (gA o0 32), kI G (q0 33) 969 (gA o0 33), kI G (q0 38) 5 (gA o0 38), kI G (q0 39) 5120 (gA o0 39), kI G (q0 41) 5 (gA o0 41), kZ G (q0 42) 1024 (gA o0 42), kI G (q0 43) 8192 (gA o0 43), kI G (q0 44) 8192 (gA o0 44)]) (wr := []) (w2 := fun (u : Ob) => [(h0, .inr (11, [.int (gI u 0), .ref (q0 1), .ref (q0 2), .ref (q0 3), .ref (q0 4), .ref (q0 5), .ref (q0 6), .int (gI u 7), .int (gI u 8), .int (gI u 9), .int (gI u 10), .int (gI u 11), .int (gI u 12), .int (gI u 13), .int (gI u 14), .long (gL u 15), .int (gI u 16), .int (gI u 17), .int (gI u 18), .int (gI u 19), .int (gI u 20), .int (gI u 21), .int (gI u 22), .int (gI u 23), .int (gI u 24), .int (gI u 25), .int (gI u 26), .int (gI u 27), .ref (q0 28), .long (gL u 29), .int (gI u 30), .ref (q0 31), .ref (q0 32), .ref (q0 33), .int (gI u 34), .int (gI u 35), .int (gI u 36), .int (gI u 37), .ref (q0 38), .ref (q0 39), .int (gI u 40), .ref (q0 41), .ref (q0 42), .ref (q0 43), .ref (q0 44)])), kI G (q0 1) 6100 (gA u 1), kI G (q0 2) 6100 (gA u 2), kJ G (q0 3) 2016 (gB u 3), kJ G (q0 4) 2016 (gB u 4), kI G (q0 5) 300 (gA u 5), kI G (q0 6) 400 (gA u 6), kJ G (q0 28) 10 (gB u 28), kI G (q0 31) 969 (gA u 31), kI G (q0 32) 969 (gA u 32), kI G (q0 33) 969 (gA u 33), kI G (q0 38) 5 (gA u 38), kI G (q0 39) 5120 (gA u 39), kI G (q0 41) 5 (gA u 41), kZ G (q0 42) 1024 (gA u 42), kI G (q0 43) 8192 (gA u 43), kI G (q0 44) 8192 (gA u 44)]) C (c_Md_foldStep (h0 := h0) (q0 := q0) H.size h) wv_Md_213 ⟨Nat.le_of_ble_eq_true rfl, Nat.le_of_ble_eq_true rfl⟩ hP hD hS 0 rfl rfl [0, 1, 2, 3, 4, 5, 6, 7, 8, 9, 10, 11, 12, 13, 14, 15, 16] [] rfl rfl (by decide) (by decide) (by decide) [0, 1, 2, 3, 4, 5, 6, 7, 8, 9, 10, 11, 12, 13, 14, 15, 16] (by decide) (fun u => rfl) rfl hl.1 rfl (lv_room (Nat.le_of_ble_eq_true rfl)) d_Md_step_29 ⟨Nat.le_of_ble_eq_true rfl, Nat.le_of_ble_eq_true rfl⟩ rfl rfl (fun u H locs h hP hD hS => ?_)
  generalize u = u42 at h hP hD
  have hP : va_P G.1 CL [(h0, .inr (11, [.int (gI u42 0), .ref (q0 1), .ref (q0 2), .ref (q0 3), .ref (q0 4), .ref (q0 5), .ref (q0 6), .int (gI u42 7), .int (gI u42 8), .int (gI u42 9), .int (gI u42 10), .int (gI u42 11), .int (gI u42 12), .int (gI u42 13), .int (gI u42 14), .long (gL u42 15), .int (gI u42 16), .int (gI u42 17), .int (gI u42 18), .int (gI u42 19), .int (gI u42 20), .int (gI u42 21), .int (gI u42 22), .int (gI u42 23), .int (gI u42 24), .int (gI u42 25), .int (gI u42 26), .int (gI u42 27), .ref (q0 28), .long (gL u42 29), .int (gI u42 30), .ref (q0 31), .ref (q0 32), .ref (q0 33), .int (gI u42 34), .int (gI u42 35), .int (gI u42 36), .int (gI u42 37), .ref (q0 38), .ref (q0 39), .int (gI u42 40), .ref (q0 41), .ref (q0 42), .ref (q0 43), .ref (q0 44)])), kI G (q0 1) 6100 (gA u42 1), kI G (q0 2) 6100 (gA u42 2), kJ G (q0 3) 2016 (gB u42 3), kJ G (q0 4) 2016 (gB u42 4), kI G (q0 5) 300 (gA u42 5), kI G (q0 6) 400 (gA u42 6), kJ G (q0 28) 10 (gB u42 28), kI G (q0 31) 969 (gA u42 31), kI G (q0 32) 969 (gA u42 32), kI G (q0 33) 969 (gA u42 33), kI G (q0 38) 5 (gA u42 38), kI G (q0 39) 5120 (gA u42 39), kI G (q0 41) 5 (gA u42 41), kZ G (q0 42) 1024 (gA u42 42), kI G (q0 43) 8192 (gA u42 43), kI G (q0 44) 8192 (gA u42 44)] H := hP
  have hD : va_D A [(h0, .inr (11, [.int (gI u42 0), .ref (q0 1), .ref (q0 2), .ref (q0 3), .ref (q0 4), .ref (q0 5), .ref (q0 6), .int (gI u42 7), .int (gI u42 8), .int (gI u42 9), .int (gI u42 10), .int (gI u42 11), .int (gI u42 12), .int (gI u42 13), .int (gI u42 14), .long (gL u42 15), .int (gI u42 16), .int (gI u42 17), .int (gI u42 18), .int (gI u42 19), .int (gI u42 20), .int (gI u42 21), .int (gI u42 22), .int (gI u42 23), .int (gI u42 24), .int (gI u42 25), .int (gI u42 26), .int (gI u42 27), .ref (q0 28), .long (gL u42 29), .int (gI u42 30), .ref (q0 31), .ref (q0 32), .ref (q0 33), .int (gI u42 34), .int (gI u42 35), .int (gI u42 36), .int (gI u42 37), .ref (q0 38), .ref (q0 39), .int (gI u42 40), .ref (q0 41), .ref (q0 42), .ref (q0 43), .ref (q0 44)])), kI G (q0 1) 6100 (gA u42 1), kI G (q0 2) 6100 (gA u42 2), kJ G (q0 3) 2016 (gB u42 3), kJ G (q0 4) 2016 (gB u42 4), kI G (q0 5) 300 (gA u42 5), kI G (q0 6) 400 (gA u42 6), kJ G (q0 28) 10 (gB u42 28), kI G (q0 31) 969 (gA u42 31), kI G (q0 32) 969 (gA u42 32), kI G (q0 33) 969 (gA u42 33), kI G (q0 38) 5 (gA u42 38), kI G (q0 39) 5120 (gA u42 39), kI G (q0 41) 5 (gA u42 41), kZ G (q0 42) 1024 (gA u42 42), kI G (q0 43) 8192 (gA u42 43), kI G (q0 44) 8192 (gA u42 44)] := hD
  refine lv_aload_n hx hb d_Md_step_32 rfl (lv_at hl 0 rfl) ?_
  refine va_get (D := G.1) (ci := 11) (v := .ref (q0 1)) (C := R_Md) (T := T_Md) (N := 45) hx hb hts i_Md hown hK hP 0 rfl rfl 1 (by decide) (hts _ wf_Md_7) (fun _ h9 => h9) rfl d_Md_step_33 ?_
  refine lv_bipush (v := (7 : Int32)) hx hb d_Md_step_36 (by decide) ?_
  refine lv_aload_n hx hb d_Md_step_38 rfl (lv_at hl 0 rfl) ?_
  refine va_get (D := G.1) (ci := 11) (v := .int (gI u42 24)) (C := R_Md) (T := T_Md) (N := 45) hx hb hts i_Md hown hK hP 0 rfl rfl 24 (by decide) (hts _ wf_Md_200) (fun _ h9 => h9) rfl d_Md_step_39 ?_
  refine xa_iast hx hb hK hP hD hS 1 0 rfl rfl (vp_lit rfl) (k := 7) rfl d_Md_step_42 (fun H locs hP hD hS => ?_)
  have hP : va_P G.1 CL [(h0, .inr (11, [.int (gI u42 0), .ref (q0 1), .ref (q0 2), .ref (q0 3), .ref (q0 4), .ref (q0 5), .ref (q0 6), .int (gI u42 7), .int (gI u42 8), .int (gI u42 9), .int (gI u42 10), .int (gI u42 11), .int (gI u42 12), .int (gI u42 13), .int (gI u42 14), .long (gL u42 15), .int (gI u42 16), .int (gI u42 17), .int (gI u42 18), .int (gI u42 19), .int (gI u42 20), .int (gI u42 21), .int (gI u42 22), .int (gI u42 23), .int (gI u42 24), .int (gI u42 25), .int (gI u42 26), .int (gI u42 27), .ref (q0 28), .long (gL u42 29), .int (gI u42 30), .ref (q0 31), .ref (q0 32), .ref (q0 33), .int (gI u42 34), .int (gI u42 35), .int (gI u42 36), .int (gI u42 37), .ref (q0 38), .ref (q0 39), .int (gI u42 40), .ref (q0 41), .ref (q0 42), .ref (q0 43), .ref (q0 44)])), kI G (q0 1) 6100 (upd (gA u42 1) 7 (gI u42 24)), kI G (q0 2) 6100 (gA u42 2), kJ G (q0 3) 2016 (gB u42 3), kJ G (q0 4) 2016 (gB u42 4), kI G (q0 5) 300 (gA u42 5), kI G (q0 6) 400 (gA u42 6), kJ G (q0 28) 10 (gB u42 28), kI G (q0 31) 969 (gA u42 31), kI G (q0 32) 969 (gA u42 32), kI G (q0 33) 969 (gA u42 33), kI G (q0 38) 5 (gA u42 38), kI G (q0 39) 5120 (gA u42 39), kI G (q0 41) 5 (gA u42 41), kZ G (q0 42) 1024 (gA u42 42), kI G (q0 43) 8192 (gA u42 43), kI G (q0 44) 8192 (gA u42 44)] H := hP
  have hD : va_D A [(h0, .inr (11, [.int (gI u42 0), .ref (q0 1), .ref (q0 2), .ref (q0 3), .ref (q0 4), .ref (q0 5), .ref (q0 6), .int (gI u42 7), .int (gI u42 8), .int (gI u42 9), .int (gI u42 10), .int (gI u42 11), .int (gI u42 12), .int (gI u42 13), .int (gI u42 14), .long (gL u42 15), .int (gI u42 16), .int (gI u42 17), .int (gI u42 18), .int (gI u42 19), .int (gI u42 20), .int (gI u42 21), .int (gI u42 22), .int (gI u42 23), .int (gI u42 24), .int (gI u42 25), .int (gI u42 26), .int (gI u42 27), .ref (q0 28), .long (gL u42 29), .int (gI u42 30), .ref (q0 31), .ref (q0 32), .ref (q0 33), .int (gI u42 34), .int (gI u42 35), .int (gI u42 36), .int (gI u42 37), .ref (q0 38), .ref (q0 39), .int (gI u42 40), .ref (q0 41), .ref (q0 42), .ref (q0 43), .ref (q0 44)])), kI G (q0 1) 6100 (upd (gA u42 1) 7 (gI u42 24)), kI G (q0 2) 6100 (gA u42 2), kJ G (q0 3) 2016 (gB u42 3), kJ G (q0 4) 2016 (gB u42 4), kI G (q0 5) 300 (gA u42 5), kI G (q0 6) 400 (gA u42 6), kJ G (q0 28) 10 (gB u42 28), kI G (q0 31) 969 (gA u42 31), kI G (q0 32) 969 (gA u42 32), kI G (q0 33) 969 (gA u42 33), kI G (q0 38) 5 (gA u42 38), kI G (q0 39) 5120 (gA u42 39), kI G (q0 41) 5 (gA u42 41), kZ G (q0 42) 1024 (gA u42 42), kI G (q0 43) 8192 (gA u42 43), kI G (q0 44) 8192 (gA u42 44)] := hD
  refine lv_aload_n hx hb d_Md_step_43 rfl (lv_at hl 0 rfl) ?_
  refine va_get (D := G.1) (ci := 11) (v := .ref (q0 1)) (C := R_Md) (T := T_Md) (N := 45) hx hb hts i_Md hown hK hP 0 rfl rfl 1 (by decide) (hts _ wf_Md_7) (fun _ h9 => h9) rfl d_Md_step_44 ?_
  refine lv_bipush (v := (8 : Int32)) hx hb d_Md_step_47 (by decide) ?_
  refine lv_aload_n hx hb d_Md_step_49 rfl (lv_at hl 0 rfl) ?_
  refine va_get (D := G.1) (ci := 11) (v := .int (gI u42 25)) (C := R_Md) (T := T_Md) (N := 45) hx hb hts i_Md hown hK hP 0 rfl rfl 25 (by decide) (hts _ wf_Md_197) (fun _ h9 => h9) rfl d_Md_step_50 ?_
  refine xa_iast hx hb hK hP hD hS 1 0 rfl rfl (vp_lit rfl) (k := 8) rfl d_Md_step_53 (fun H locs hP hD hS => ?_)
  have hP : va_P G.1 CL [(h0, .inr (11, [.int (gI u42 0), .ref (q0 1), .ref (q0 2), .ref (q0 3), .ref (q0 4), .ref (q0 5), .ref (q0 6), .int (gI u42 7), .int (gI u42 8), .int (gI u42 9), .int (gI u42 10), .int (gI u42 11), .int (gI u42 12), .int (gI u42 13), .int (gI u42 14), .long (gL u42 15), .int (gI u42 16), .int (gI u42 17), .int (gI u42 18), .int (gI u42 19), .int (gI u42 20), .int (gI u42 21), .int (gI u42 22), .int (gI u42 23), .int (gI u42 24), .int (gI u42 25), .int (gI u42 26), .int (gI u42 27), .ref (q0 28), .long (gL u42 29), .int (gI u42 30), .ref (q0 31), .ref (q0 32), .ref (q0 33), .int (gI u42 34), .int (gI u42 35), .int (gI u42 36), .int (gI u42 37), .ref (q0 38), .ref (q0 39), .int (gI u42 40), .ref (q0 41), .ref (q0 42), .ref (q0 43), .ref (q0 44)])), kI G (q0 1) 6100 (upd (upd (gA u42 1) 7 (gI u42 24)) 8 (gI u42 25)), kI G (q0 2) 6100 (gA u42 2), kJ G (q0 3) 2016 (gB u42 3), kJ G (q0 4) 2016 (gB u42 4), kI G (q0 5) 300 (gA u42 5), kI G (q0 6) 400 (gA u42 6), kJ G (q0 28) 10 (gB u42 28), kI G (q0 31) 969 (gA u42 31), kI G (q0 32) 969 (gA u42 32), kI G (q0 33) 969 (gA u42 33), kI G (q0 38) 5 (gA u42 38), kI G (q0 39) 5120 (gA u42 39), kI G (q0 41) 5 (gA u42 41), kZ G (q0 42) 1024 (gA u42 42), kI G (q0 43) 8192 (gA u42 43), kI G (q0 44) 8192 (gA u42 44)] H := hP
  have hD : va_D A [(h0, .inr (11, [.int (gI u42 0), .ref (q0 1), .ref (q0 2), .ref (q0 3), .ref (q0 4), .ref (q0 5), .ref (q0 6), .int (gI u42 7), .int (gI u42 8), .int (gI u42 9), .int (gI u42 10), .int (gI u42 11), .int (gI u42 12), .int (gI u42 13), .int (gI u42 14), .long (gL u42 15), .int (gI u42 16), .int (gI u42 17), .int (gI u42 18), .int (gI u42 19), .int (gI u42 20), .int (gI u42 21), .int (gI u42 22), .int (gI u42 23), .int (gI u42 24), .int (gI u42 25), .int (gI u42 26), .int (gI u42 27), .ref (q0 28), .long (gL u42 29), .int (gI u42 30), .ref (q0 31), .ref (q0 32), .ref (q0 33), .int (gI u42 34), .int (gI u42 35), .int (gI u42 36), .int (gI u42 37), .ref (q0 38), .ref (q0 39), .int (gI u42 40), .ref (q0 41), .ref (q0 42), .ref (q0 43), .ref (q0 44)])), kI G (q0 1) 6100 (upd (upd (gA u42 1) 7 (gI u42 24)) 8 (gI u42 25)), kI G (q0 2) 6100 (gA u42 2), kJ G (q0 3) 2016 (gB u42 3), kJ G (q0 4) 2016 (gB u42 4), kI G (q0 5) 300 (gA u42 5), kI G (q0 6) 400 (gA u42 6), kJ G (q0 28) 10 (gB u42 28), kI G (q0 31) 969 (gA u42 31), kI G (q0 32) 969 (gA u42 32), kI G (q0 33) 969 (gA u42 33), kI G (q0 38) 5 (gA u42 38), kI G (q0 39) 5120 (gA u42 39), kI G (q0 41) 5 (gA u42 41), kZ G (q0 42) 1024 (gA u42 42), kI G (q0 43) 8192 (gA u42 43), kI G (q0 44) 8192 (gA u42 44)] := hD
  refine lv_aload_n hx hb d_Md_step_54 rfl (lv_at hl 0 rfl) ?_
  refine va_get (D := G.1) (ci := 11) (v := .ref (q0 1)) (C := R_Md) (T := T_Md) (N := 45) hx hb hts i_Md hown hK hP 0 rfl rfl 1 (by decide) (hts _ wf_Md_7) (fun _ h9 => h9) rfl d_Md_step_55 ?_
  refine lv_bipush (v := (9 : Int32)) hx hb d_Md_step_58 (by decide) ?_
  refine lv_dup2_11 hx hb d_Md_step_60 rfl rfl ?_
  refine xa_iald hx hb hK hP 1 0 rfl rfl (vp_lit rfl) (k := 9) rfl d_Md_step_61 ?_
  refine lv_topi (fun y43 ey43 => ?_)
  have h := h y43 ey43
  refine lv_aload_n hx hb d_Md_step_62 rfl (lv_at hl 0 rfl) ?_
  refine va_get (D := G.1) (ci := 11) (v := .int (gI u42 26)) (C := R_Md) (T := T_Md) (N := 45) hx hb hts i_Md hown hK hP 0 rfl rfl 26 (by decide) (hts _ wf_Md_207) (fun _ h9 => h9) rfl d_Md_step_63 ?_
  refine lv_iadd hx hb d_Md_step_66 ?_
  refine xa_iast hx hb hK hP hD hS 1 0 rfl rfl (vp_lit rfl) (k := 9) rfl d_Md_step_67 (fun H locs hP hD hS => ?_)
  have hP : va_P G.1 CL [(h0, .inr (11, [.int (gI u42 0), .ref (q0 1), .ref (q0 2), .ref (q0 3), .ref (q0 4), .ref (q0 5), .ref (q0 6), .int (gI u42 7), .int (gI u42 8), .int (gI u42 9), .int (gI u42 10), .int (gI u42 11), .int (gI u42 12), .int (gI u42 13), .int (gI u42 14), .long (gL u42 15), .int (gI u42 16), .int (gI u42 17), .int (gI u42 18), .int (gI u42 19), .int (gI u42 20), .int (gI u42 21), .int (gI u42 22), .int (gI u42 23), .int (gI u42 24), .int (gI u42 25), .int (gI u42 26), .int (gI u42 27), .ref (q0 28), .long (gL u42 29), .int (gI u42 30), .ref (q0 31), .ref (q0 32), .ref (q0 33), .int (gI u42 34), .int (gI u42 35), .int (gI u42 36), .int (gI u42 37), .ref (q0 38), .ref (q0 39), .int (gI u42 40), .ref (q0 41), .ref (q0 42), .ref (q0 43), .ref (q0 44)])), kI G (q0 1) 6100 (upd (upd (upd (gA u42 1) 7 (gI u42 24)) 8 (gI u42 25)) 9 (y43 + (gI u42 26))), kI G (q0 2) 6100 (gA u42 2), kJ G (q0 3) 2016 (gB u42 3), kJ G (q0 4) 2016 (gB u42 4), kI G (q0 5) 300 (gA u42 5), kI G (q0 6) 400 (gA u42 6), kJ G (q0 28) 10 (gB u42 28), kI G (q0 31) 969 (gA u42 31), kI G (q0 32) 969 (gA u42 32), kI G (q0 33) 969 (gA u42 33), kI G (q0 38) 5 (gA u42 38), kI G (q0 39) 5120 (gA u42 39), kI G (q0 41) 5 (gA u42 41), kZ G (q0 42) 1024 (gA u42 42), kI G (q0 43) 8192 (gA u42 43), kI G (q0 44) 8192 (gA u42 44)] H := hP
  have hD : va_D A [(h0, .inr (11, [.int (gI u42 0), .ref (q0 1), .ref (q0 2), .ref (q0 3), .ref (q0 4), .ref (q0 5), .ref (q0 6), .int (gI u42 7), .int (gI u42 8), .int (gI u42 9), .int (gI u42 10), .int (gI u42 11), .int (gI u42 12), .int (gI u42 13), .int (gI u42 14), .long (gL u42 15), .int (gI u42 16), .int (gI u42 17), .int (gI u42 18), .int (gI u42 19), .int (gI u42 20), .int (gI u42 21), .int (gI u42 22), .int (gI u42 23), .int (gI u42 24), .int (gI u42 25), .int (gI u42 26), .int (gI u42 27), .ref (q0 28), .long (gL u42 29), .int (gI u42 30), .ref (q0 31), .ref (q0 32), .ref (q0 33), .int (gI u42 34), .int (gI u42 35), .int (gI u42 36), .int (gI u42 37), .ref (q0 38), .ref (q0 39), .int (gI u42 40), .ref (q0 41), .ref (q0 42), .ref (q0 43), .ref (q0 44)])), kI G (q0 1) 6100 (upd (upd (upd (gA u42 1) 7 (gI u42 24)) 8 (gI u42 25)) 9 (y43 + (gI u42 26))), kI G (q0 2) 6100 (gA u42 2), kJ G (q0 3) 2016 (gB u42 3), kJ G (q0 4) 2016 (gB u42 4), kI G (q0 5) 300 (gA u42 5), kI G (q0 6) 400 (gA u42 6), kJ G (q0 28) 10 (gB u42 28), kI G (q0 31) 969 (gA u42 31), kI G (q0 32) 969 (gA u42 32), kI G (q0 33) 969 (gA u42 33), kI G (q0 38) 5 (gA u42 38), kI G (q0 39) 5120 (gA u42 39), kI G (q0 41) 5 (gA u42 41), kZ G (q0 42) 1024 (gA u42 42), kI G (q0 43) 8192 (gA u42 43), kI G (q0 44) 8192 (gA u42 44)] := hD
  refine lv_aload_n hx hb d_Md_step_68 rfl (lv_at hl 0 rfl) ?_
  refine va_get (D := G.1) (ci := 11) (v := .ref (q0 1)) (C := R_Md) (T := T_Md) (N := 45) hx hb hts i_Md hown hK hP 0 rfl rfl 1 (by decide) (hts _ wf_Md_7) (fun _ h9 => h9) rfl d_Md_step_69 ?_
  refine lv_bipush (v := (10 : Int32)) hx hb d_Md_step_72 (by decide) ?_
  refine lv_dup2_11 hx hb d_Md_step_74 rfl rfl ?_
  refine xa_iald hx hb hK hP 1 0 rfl rfl (vp_lit rfl) (k := 10) rfl d_Md_step_75 ?_
  refine lv_topi (fun y44 ey44 => ?_)
  have h := h y44 ey44
  refine lv_aload_n hx hb d_Md_step_76 rfl (lv_at hl 0 rfl) ?_
  refine va_get (D := G.1) (ci := 11) (v := .int (gI u42 27)) (C := R_Md) (T := T_Md) (N := 45) hx hb hts i_Md hown hK hP 0 rfl rfl 27 (by decide) (hts _ wf_Md_203) (fun _ h9 => h9) rfl d_Md_step_77 ?_
  refine lv_if_eq (tgt := 87) hx hb d_Md_step_80 (by decide) (fun c45 => ?_) (fun c45 => ?_)
  · have h := h.1 c45
    refine lv_iconst (v := (0 : Int32)) hx hb d_Md_step_87 (by decide) ?_
    refine lv_iadd hx hb d_Md_step_88 ?_
    refine xa_iast hx hb hK hP hD hS 1 0 rfl rfl (vp_lit rfl) (k := 10) rfl d_Md_step_89 (fun H locs hP hD hS => ?_)
    have hP : va_P G.1 CL [(h0, .inr (11, [.int (gI u42 0), .ref (q0 1), .ref (q0 2), .ref (q0 3), .ref (q0 4), .ref (q0 5), .ref (q0 6), .int (gI u42 7), .int (gI u42 8), .int (gI u42 9), .int (gI u42 10), .int (gI u42 11), .int (gI u42 12), .int (gI u42 13), .int (gI u42 14), .long (gL u42 15), .int (gI u42 16), .int (gI u42 17), .int (gI u42 18), .int (gI u42 19), .int (gI u42 20), .int (gI u42 21), .int (gI u42 22), .int (gI u42 23), .int (gI u42 24), .int (gI u42 25), .int (gI u42 26), .int (gI u42 27), .ref (q0 28), .long (gL u42 29), .int (gI u42 30), .ref (q0 31), .ref (q0 32), .ref (q0 33), .int (gI u42 34), .int (gI u42 35), .int (gI u42 36), .int (gI u42 37), .ref (q0 38), .ref (q0 39), .int (gI u42 40), .ref (q0 41), .ref (q0 42), .ref (q0 43), .ref (q0 44)])), kI G (q0 1) 6100 (upd (upd (upd (upd (gA u42 1) 7 (gI u42 24)) 8 (gI u42 25)) 9 (y43 + (gI u42 26))) 10 (y44 + (0 : Int32))), kI G (q0 2) 6100 (gA u42 2), kJ G (q0 3) 2016 (gB u42 3), kJ G (q0 4) 2016 (gB u42 4), kI G (q0 5) 300 (gA u42 5), kI G (q0 6) 400 (gA u42 6), kJ G (q0 28) 10 (gB u42 28), kI G (q0 31) 969 (gA u42 31), kI G (q0 32) 969 (gA u42 32), kI G (q0 33) 969 (gA u42 33), kI G (q0 38) 5 (gA u42 38), kI G (q0 39) 5120 (gA u42 39), kI G (q0 41) 5 (gA u42 41), kZ G (q0 42) 1024 (gA u42 42), kI G (q0 43) 8192 (gA u42 43), kI G (q0 44) 8192 (gA u42 44)] H := hP
    have hD : va_D A [(h0, .inr (11, [.int (gI u42 0), .ref (q0 1), .ref (q0 2), .ref (q0 3), .ref (q0 4), .ref (q0 5), .ref (q0 6), .int (gI u42 7), .int (gI u42 8), .int (gI u42 9), .int (gI u42 10), .int (gI u42 11), .int (gI u42 12), .int (gI u42 13), .int (gI u42 14), .long (gL u42 15), .int (gI u42 16), .int (gI u42 17), .int (gI u42 18), .int (gI u42 19), .int (gI u42 20), .int (gI u42 21), .int (gI u42 22), .int (gI u42 23), .int (gI u42 24), .int (gI u42 25), .int (gI u42 26), .int (gI u42 27), .ref (q0 28), .long (gL u42 29), .int (gI u42 30), .ref (q0 31), .ref (q0 32), .ref (q0 33), .int (gI u42 34), .int (gI u42 35), .int (gI u42 36), .int (gI u42 37), .ref (q0 38), .ref (q0 39), .int (gI u42 40), .ref (q0 41), .ref (q0 42), .ref (q0 43), .ref (q0 44)])), kI G (q0 1) 6100 (upd (upd (upd (upd (gA u42 1) 7 (gI u42 24)) 8 (gI u42 25)) 9 (y43 + (gI u42 26))) 10 (y44 + (0 : Int32))), kI G (q0 2) 6100 (gA u42 2), kJ G (q0 3) 2016 (gB u42 3), kJ G (q0 4) 2016 (gB u42 4), kI G (q0 5) 300 (gA u42 5), kI G (q0 6) 400 (gA u42 6), kJ G (q0 28) 10 (gB u42 28), kI G (q0 31) 969 (gA u42 31), kI G (q0 32) 969 (gA u42 32), kI G (q0 33) 969 (gA u42 33), kI G (q0 38) 5 (gA u42 38), kI G (q0 39) 5120 (gA u42 39), kI G (q0 41) 5 (gA u42 41), kZ G (q0 42) 1024 (gA u42 42), kI G (q0 43) 8192 (gA u42 43), kI G (q0 44) 8192 (gA u42 44)] := hD
    refine lv_iconst (v := (0 : Int32)) hx hb d_Md_step_90 (by decide) ?_
    refine lv_istore_n (lv' := [(1, .int (0 : Int32)), (0, .ref h0)]) hx hb d_Md_step_91 rfl hl (by decide) rfl (fun ls hl => ?_)
    have hl := lv_sub (l' := [(0, .ref h0), (1, .int (0 : Int32))]) hl [1, 0] rfl
    have hP : va_P G.1 CL (cw_Md G h0 q0 (sA u42 1 (upd (upd (upd (upd (gA u42 1) 7 (gI u42 24)) 8 (gI u42 25)) 9 (y43 + (gI u42 26))) 10 (y44 + (0 : Int32))))) H := hP
    have hD : va_D A (cw_Md G h0 q0 (sA u42 1 (upd (upd (upd (upd (gA u42 1) 7 (gI u42 24)) 8 (gI u42 25)) 9 (y43 + (gI u42 26))) 10 (y44 + (0 : Int32))))) := hD
    obtain ⟨w, h⟩ := h
    exact t_Md_step_92 Q C w (0 : Int32) (sA u42 1 (upd (upd (upd (upd (gA u42 1) 7 (gI u42 24)) 8 (gI u42 25)) 9 (y43 + (gI u42 26))) 10 (y44 + (0 : Int32)))) ls _ locs hl hP hD hS h
  · have h := h.2 c45
    refine lv_iconst (v := (1 : Int32)) hx hb d_Md_step_83 (by decide) ?_
    refine lv_goto (tgt := 88) hx hb d_Md_step_84 (by decide) ?_
    refine lv_iadd hx hb d_Md_step_88 ?_
    refine xa_iast hx hb hK hP hD hS 1 0 rfl rfl (vp_lit rfl) (k := 10) rfl d_Md_step_89 (fun H locs hP hD hS => ?_)
    have hP : va_P G.1 CL [(h0, .inr (11, [.int (gI u42 0), .ref (q0 1), .ref (q0 2), .ref (q0 3), .ref (q0 4), .ref (q0 5), .ref (q0 6), .int (gI u42 7), .int (gI u42 8), .int (gI u42 9), .int (gI u42 10), .int (gI u42 11), .int (gI u42 12), .int (gI u42 13), .int (gI u42 14), .long (gL u42 15), .int (gI u42 16), .int (gI u42 17), .int (gI u42 18), .int (gI u42 19), .int (gI u42 20), .int (gI u42 21), .int (gI u42 22), .int (gI u42 23), .int (gI u42 24), .int (gI u42 25), .int (gI u42 26), .int (gI u42 27), .ref (q0 28), .long (gL u42 29), .int (gI u42 30), .ref (q0 31), .ref (q0 32), .ref (q0 33), .int (gI u42 34), .int (gI u42 35), .int (gI u42 36), .int (gI u42 37), .ref (q0 38), .ref (q0 39), .int (gI u42 40), .ref (q0 41), .ref (q0 42), .ref (q0 43), .ref (q0 44)])), kI G (q0 1) 6100 (upd (upd (upd (upd (gA u42 1) 7 (gI u42 24)) 8 (gI u42 25)) 9 (y43 + (gI u42 26))) 10 (y44 + (1 : Int32))), kI G (q0 2) 6100 (gA u42 2), kJ G (q0 3) 2016 (gB u42 3), kJ G (q0 4) 2016 (gB u42 4), kI G (q0 5) 300 (gA u42 5), kI G (q0 6) 400 (gA u42 6), kJ G (q0 28) 10 (gB u42 28), kI G (q0 31) 969 (gA u42 31), kI G (q0 32) 969 (gA u42 32), kI G (q0 33) 969 (gA u42 33), kI G (q0 38) 5 (gA u42 38), kI G (q0 39) 5120 (gA u42 39), kI G (q0 41) 5 (gA u42 41), kZ G (q0 42) 1024 (gA u42 42), kI G (q0 43) 8192 (gA u42 43), kI G (q0 44) 8192 (gA u42 44)] H := hP
    have hD : va_D A [(h0, .inr (11, [.int (gI u42 0), .ref (q0 1), .ref (q0 2), .ref (q0 3), .ref (q0 4), .ref (q0 5), .ref (q0 6), .int (gI u42 7), .int (gI u42 8), .int (gI u42 9), .int (gI u42 10), .int (gI u42 11), .int (gI u42 12), .int (gI u42 13), .int (gI u42 14), .long (gL u42 15), .int (gI u42 16), .int (gI u42 17), .int (gI u42 18), .int (gI u42 19), .int (gI u42 20), .int (gI u42 21), .int (gI u42 22), .int (gI u42 23), .int (gI u42 24), .int (gI u42 25), .int (gI u42 26), .int (gI u42 27), .ref (q0 28), .long (gL u42 29), .int (gI u42 30), .ref (q0 31), .ref (q0 32), .ref (q0 33), .int (gI u42 34), .int (gI u42 35), .int (gI u42 36), .int (gI u42 37), .ref (q0 38), .ref (q0 39), .int (gI u42 40), .ref (q0 41), .ref (q0 42), .ref (q0 43), .ref (q0 44)])), kI G (q0 1) 6100 (upd (upd (upd (upd (gA u42 1) 7 (gI u42 24)) 8 (gI u42 25)) 9 (y43 + (gI u42 26))) 10 (y44 + (1 : Int32))), kI G (q0 2) 6100 (gA u42 2), kJ G (q0 3) 2016 (gB u42 3), kJ G (q0 4) 2016 (gB u42 4), kI G (q0 5) 300 (gA u42 5), kI G (q0 6) 400 (gA u42 6), kJ G (q0 28) 10 (gB u42 28), kI G (q0 31) 969 (gA u42 31), kI G (q0 32) 969 (gA u42 32), kI G (q0 33) 969 (gA u42 33), kI G (q0 38) 5 (gA u42 38), kI G (q0 39) 5120 (gA u42 39), kI G (q0 41) 5 (gA u42 41), kZ G (q0 42) 1024 (gA u42 42), kI G (q0 43) 8192 (gA u42 43), kI G (q0 44) 8192 (gA u42 44)] := hD
    refine lv_iconst (v := (0 : Int32)) hx hb d_Md_step_90 (by decide) ?_
    refine lv_istore_n (lv' := [(1, .int (0 : Int32)), (0, .ref h0)]) hx hb d_Md_step_91 rfl hl (by decide) rfl (fun ls hl => ?_)
    have hl := lv_sub (l' := [(0, .ref h0), (1, .int (0 : Int32))]) hl [1, 0] rfl
    have hP : va_P G.1 CL (cw_Md G h0 q0 (sA u42 1 (upd (upd (upd (upd (gA u42 1) 7 (gI u42 24)) 8 (gI u42 25)) 9 (y43 + (gI u42 26))) 10 (y44 + (1 : Int32))))) H := hP
    have hD : va_D A (cw_Md G h0 q0 (sA u42 1 (upd (upd (upd (upd (gA u42 1) 7 (gI u42 24)) 8 (gI u42 25)) 9 (y43 + (gI u42 26))) 10 (y44 + (1 : Int32))))) := hD
    obtain ⟨w, h⟩ := h
    exact t_Md_step_92 Q C w (0 : Int32) (sA u42 1 (upd (upd (upd (upd (gA u42 1) 7 (gI u42 24)) 8 (gI u42 25)) 9 (y43 + (gI u42 26))) 10 (y44 + (1 : Int32)))) ls _ locs hl hP hD hS h
abbrev b_Md_ticks : ByteArray := prog_14_method_36_code
def y_Md_ticks : MethodName := ⟨R_Md, "ticks", "(I)I"⟩
abbrev w_Md_ticks : List Cond := Cond.code y_Md_ticks b_Md_ticks 4 (some .int) :: gw_tbl
theorem d_Md_ticks_0 : decode b_Md_ticks 0 = .ok (.iload_n 1, 1) := by decide +kernel
theorem d_Md_ticks_1 : decode b_Md_ticks 1 = .ok (.iconst 1, 1) := by decide +kernel
theorem d_Md_ticks_2 : decode b_Md_ticks 2 = .ok (.bipush 50, 2) := by decide +kernel
theorem d_Md_ticks_4 : decode b_Md_ticks 4 = .ok (.invokestatic 76, 3) := by decide +kernel
theorem d_Md_ticks_7 : decode b_Md_ticks 7 = .ok (.ifCond .eq 17, 3) := by decide +kernel
theorem d_Md_ticks_10 : decode b_Md_ticks 10 = .ok (.aload_n 0, 1) := by decide +kernel
theorem d_Md_ticks_11 : decode b_Md_ticks 11 = .ok (.getfield 7, 3) := by decide +kernel
theorem d_Md_ticks_14 : decode b_Md_ticks 14 = .ok (.iconst 0, 1) := by decide +kernel
theorem d_Md_ticks_15 : decode b_Md_ticks 15 = .ok (.iaload, 1) := by decide +kernel
theorem d_Md_ticks_16 : decode b_Md_ticks 16 = .ok (.iload_n 1, 1) := by decide +kernel
theorem d_Md_ticks_17 : decode b_Md_ticks 17 = .ok (.iadd, 1) := by decide +kernel
theorem d_Md_ticks_18 : decode b_Md_ticks 18 = .ok (.sipush 200, 3) := by decide +kernel
theorem d_Md_ticks_21 : decode b_Md_ticks 21 = .ok (.if_icmp .le 5, 3) := by decide +kernel
theorem d_Md_ticks_24 : decode b_Md_ticks 24 = .ok (.iconst (-1), 1) := by decide +kernel
theorem d_Md_ticks_25 : decode b_Md_ticks 25 = .ok (.ireturn, 1) := by decide +kernel
theorem d_Md_ticks_26 : decode b_Md_ticks 26 = .ok (.iconst 0, 1) := by decide +kernel
theorem d_Md_ticks_27 : decode b_Md_ticks 27 = .ok (.istore_n 2, 1) := by decide +kernel
theorem d_Md_ticks_28 : decode b_Md_ticks 28 = .ok (.iload_n 2, 1) := by decide +kernel
theorem d_Md_ticks_29 : decode b_Md_ticks 29 = .ok (.iload_n 1, 1) := by decide +kernel
theorem d_Md_ticks_30 : decode b_Md_ticks 30 = .ok (.if_icmp .ge 77, 3) := by decide +kernel
theorem d_Md_ticks_33 : decode b_Md_ticks 33 = .ok (.iconst 0, 1) := by decide +kernel
theorem d_Md_ticks_34 : decode b_Md_ticks 34 = .ok (.istore_n 3, 1) := by decide +kernel
theorem d_Md_ticks_35 : decode b_Md_ticks 35 = .ok (.iload_n 3, 1) := by decide +kernel
theorem d_Md_ticks_36 : decode b_Md_ticks 36 = .ok (.aload_n 0, 1) := by decide +kernel
theorem d_Md_ticks_37 : decode b_Md_ticks 37 = .ok (.getfield 67, 3) := by decide +kernel
theorem d_Md_ticks_40 : decode b_Md_ticks 40 = .ok (.if_icmp .ge 20, 3) := by decide +kernel
theorem d_Md_ticks_43 : decode b_Md_ticks 43 = .ok (.aload_n 0, 1) := by decide +kernel
theorem d_Md_ticks_44 : decode b_Md_ticks 44 = .ok (.iload_n 3, 1) := by decide +kernel
theorem d_Md_ticks_45 : decode b_Md_ticks 45 = .ok (.aload_n 0, 1) := by decide +kernel
theorem d_Md_ticks_46 : decode b_Md_ticks 46 = .ok (.getfield 7, 3) := by decide +kernel
theorem d_Md_ticks_49 : decode b_Md_ticks 49 = .ok (.iconst 0, 1) := by decide +kernel
theorem d_Md_ticks_50 : decode b_Md_ticks 50 = .ok (.iaload, 1) := by decide +kernel
theorem d_Md_ticks_51 : decode b_Md_ticks 51 = .ok (.invokevirtual 235, 3) := by decide +kernel
theorem d_Md_ticks_54 : decode b_Md_ticks 54 = .ok (.iinc 3 1, 3) := by decide +kernel
theorem d_Md_ticks_57 : decode b_Md_ticks 57 = .ok (.goto (-22), 3) := by decide +kernel
theorem d_Md_ticks_60 : decode b_Md_ticks 60 = .ok (.aload_n 0, 1) := by decide +kernel
theorem d_Md_ticks_61 : decode b_Md_ticks 61 = .ok (.bipush 10, 2) := by decide +kernel
theorem d_Md_ticks_63 : decode b_Md_ticks 63 = .ok (.aload_n 0, 1) := by decide +kernel
theorem d_Md_ticks_64 : decode b_Md_ticks 64 = .ok (.getfield 7, 3) := by decide +kernel
theorem d_Md_ticks_67 : decode b_Md_ticks 67 = .ok (.iconst 0, 1) := by decide +kernel
theorem d_Md_ticks_68 : decode b_Md_ticks 68 = .ok (.iaload, 1) := by decide +kernel
theorem d_Md_ticks_69 : decode b_Md_ticks 69 = .ok (.imul, 1) := by decide +kernel
theorem d_Md_ticks_70 : decode b_Md_ticks 70 = .ok (.putfield 222, 3) := by decide +kernel
theorem d_Md_ticks_73 : decode b_Md_ticks 73 = .ok (.iconst 0, 1) := by decide +kernel
theorem d_Md_ticks_74 : decode b_Md_ticks 74 = .ok (.istore_n 3, 1) := by decide +kernel
theorem d_Md_ticks_75 : decode b_Md_ticks 75 = .ok (.iload_n 3, 1) := by decide +kernel
theorem d_Md_ticks_76 : decode b_Md_ticks 76 = .ok (.bipush 10, 2) := by decide +kernel
theorem d_Md_ticks_78 : decode b_Md_ticks 78 = .ok (.if_icmp .ge 13, 3) := by decide +kernel
theorem d_Md_ticks_81 : decode b_Md_ticks 81 = .ok (.aload_n 0, 1) := by decide +kernel
theorem d_Md_ticks_82 : decode b_Md_ticks 82 = .ok (.invokevirtual 239, 3) := by decide +kernel
theorem d_Md_ticks_85 : decode b_Md_ticks 85 = .ok (.iinc 3 1, 3) := by decide +kernel
theorem d_Md_ticks_88 : decode b_Md_ticks 88 = .ok (.goto (-13), 3) := by decide +kernel
theorem d_Md_ticks_91 : decode b_Md_ticks 91 = .ok (.aload_n 0, 1) := by decide +kernel
theorem d_Md_ticks_92 : decode b_Md_ticks 92 = .ok (.getfield 7, 3) := by decide +kernel
theorem d_Md_ticks_95 : decode b_Md_ticks 95 = .ok (.iconst 0, 1) := by decide +kernel
theorem d_Md_ticks_96 : decode b_Md_ticks 96 = .ok (.dup2, 1) := by decide +kernel
theorem d_Md_ticks_97 : decode b_Md_ticks 97 = .ok (.iaload, 1) := by decide +kernel
theorem d_Md_ticks_98 : decode b_Md_ticks 98 = .ok (.iconst 1, 1) := by decide +kernel
theorem d_Md_ticks_99 : decode b_Md_ticks 99 = .ok (.iadd, 1) := by decide +kernel
theorem d_Md_ticks_100 : decode b_Md_ticks 100 = .ok (.iastore, 1) := by decide +kernel
theorem d_Md_ticks_101 : decode b_Md_ticks 101 = .ok (.iinc 2 1, 3) := by decide +kernel
theorem d_Md_ticks_104 : decode b_Md_ticks 104 = .ok (.goto (-76), 3) := by decide +kernel
theorem d_Md_ticks_107 : decode b_Md_ticks 107 = .ok (.aload_n 0, 1) := by decide +kernel
theorem d_Md_ticks_108 : decode b_Md_ticks 108 = .ok (.getfield 7, 3) := by decide +kernel
theorem d_Md_ticks_111 : decode b_Md_ticks 111 = .ok (.iconst 0, 1) := by decide +kernel
theorem d_Md_ticks_112 : decode b_Md_ticks 112 = .ok (.iaload, 1) := by decide +kernel
theorem d_Md_ticks_113 : decode b_Md_ticks 113 = .ok (.ireturn, 1) := by decide +kernel
theorem wv_Md_235 : wV R_Md 235 y_Md_lead b_Md_lead 9 none 2 := ⟨⟨gw_tb (List.mem_of_getElem? (i := 1213) (by decide +kernel)) rfl, gw_tb (List.mem_of_getElem? (i := 13) (by decide +kernel)) rfl, gw_tb (List.mem_of_getElem? (i := 1216) (by decide +kernel)) rfl, by decide, by decide, by decide +kernel⟩, gw_tb (List.mem_of_getElem? (i := 1215) (by decide +kernel)) rfl, gw_of (List.mem_append_left _ (List.mem_of_getElem? (i := 46) (by decide +kernel))) rfl⟩
theorem wv_Md_239 : wV R_Md 239 y_Md_step b_Md_step 8 none 0 := ⟨⟨gw_tb (List.mem_of_getElem? (i := 1221) (by decide +kernel)) rfl, gw_tb (List.mem_of_getElem? (i := 13) (by decide +kernel)) rfl, gw_tb (List.mem_of_getElem? (i := 1224) (by decide +kernel)) rfl, by decide, by decide, by decide +kernel⟩, gw_tb (List.mem_of_getElem? (i := 1223) (by decide +kernel)) rfl, gw_of (List.mem_append_left _ (List.mem_of_getElem? (i := 48) (by decide +kernel))) rfl⟩
def f_Md_ticks_75 (k28 : Int32 → Int32 → Ob → Prop) (Q : Int32 → Ob → Prop) : Nat → Int32 → Int32 → Int32 → Ob → Prop
  | 0, _, _, _, _ => False
  | n + 1, x1, x2, x3, o0 => ((10 : Int32) ≤ x3 → (k28 x1 (x2 + (1 : Int32)) (sA o0 1 (upd (gA o0 1) 0 (((gA o0 1) 0) + (1 : Int32)))))) ∧ (¬ (10 : Int32) ≤ x3 → (f_Md_step o0 (fun u2 => (f_Md_ticks_75 k28 Q n) x1 x2 (x3 + (1 : Int32)) u2)))
def f_Md_ticks_35 (k28 : Int32 → Int32 → Ob → Prop) (Q : Int32 → Ob → Prop) : Nat → Int32 → Int32 → Int32 → Ob → Prop
  | 0, _, _, _, _ => False
  | n + 1, x1, x2, x3, o0 => ((gI o0 0) ≤ x3 → ((∃ w, f_Md_ticks_75 k28 Q w x1 x2 (0 : Int32) (sI o0 30 ((10 : Int32) * ((gA o0 1) 0)))))) ∧ (¬ (gI o0 0) ≤ x3 → (f_Md_lead x3 ((gA o0 1) 0) o0 (fun u4 => (f_Md_ticks_35 k28 Q n) x1 x2 (x3 + (1 : Int32)) u4)))
def f_Md_ticks_28 (Q : Int32 → Ob → Prop) : Nat → Int32 → Int32 → Ob → Prop
  | 0, _, _, _ => False
  | n + 1, x1, x2, o0 => (x1 ≤ x2 → (Q ((gA o0 1) 0) o0)) ∧ (¬ x1 ≤ x2 → ((∃ w, f_Md_ticks_35 (f_Md_ticks_28 Q n) Q w x1 x2 (0 : Int32) o0)))
def f_Md_ticks (a0 : Int32) (o0 : Ob) (Q : Int32 → Ob → Prop) : Prop := f_Md_isIn a0 (1 : Int32) (50 : Int32) (fun z6 => (z6 = 0 → (Q (-1 : Int32) o0)) ∧ (¬ z6 = 0 → (((((gA o0 1) 0) + a0) ≤ (200 : Int32) → ((∃ w, f_Md_ticks_28 Q w a0 (0 : Int32) o0))) ∧ (¬ (((gA o0 1) 0) + a0) ≤ (200 : Int32) → (Q (-1 : Int32) o0)))))
abbrev rm_Md_ticks : Room := { frames := 2, cells := 0, slots := 0, locals := 53 }
set_option maxHeartbeats 4000000 in
set_option maxRecDepth 100000 in
theorem t_Md_ticks_75 {p : Program} {l : Launch} {e : Env} {s : State} {m : MethodId} {args : Array Value} {below : List Frame} {meth : Method} {c : Code} {A : Nat → Prop} {G : Gl} {h0 : Nat} {q0 : Nat → Nat} (k28 : Int32 → Int32 → Ob → Prop) (Q : Int32 → Ob → Prop) (C : Cx p s m args meth c R_Md b_Md_ticks 4 (some .int) G A)
    (hk28 : ∀ (x1 : Int32) (x2 : Int32) (o0 : Ob) (ls : Array Slot) (H : Heap) (locs : List Loc), lv_has ls 4 [(0, .ref h0), (1, .int x1), (2, .int x2)] → va_P G.1 CL (cw_Md G h0 q0 o0) H → va_D A (cw_Md G h0 q0 o0) → va_S A s.heap H locs → k28 x1 x2 o0 → W p l e rm_Md_ticks s m args below meth c H locs 0 0 (MQ below (va_Qi (fun (r : Int32) (u : Ob) => Q r u) (fun (u : Ob) t => BW G A (cw_Md G h0 q0 u) t) A) args s 0 0 A) (F0 m 28 ls [])) :
    ∀ (n : Nat) (x1 : Int32) (x2 : Int32) (x3 : Int32) (o0 : Ob) (ls : Array Slot) (H : Heap) (locs : List Loc), lv_has ls 4 [(0, .ref h0), (1, .int x1), (2, .int x2), (3, .int x3)] → va_P G.1 CL (cw_Md G h0 q0 o0) H → va_D A (cw_Md G h0 q0 o0) → va_S A s.heap H locs → f_Md_ticks_75 k28 Q n x1 x2 x3 o0 → W p l e rm_Md_ticks s m args below meth c H locs 0 0 (MQ below (va_Qi (fun (r : Int32) (u : Ob) => Q r u) (fun (u : Ob) t => BW G A (cw_Md G h0 q0 u) t) A) args s 0 0 A) (F0 m 75 ls []) := by
  obtain ⟨hx, hb, hml, hown, hr, hts, hK, hA, hlocks, hE⟩ := id C
  intro n
  induction n with
  | zero => intro x1 x2 x3 o0 ls H locs hl hP hD hS h; exact absurd h id
  | succ n ih =>
    intro x1 x2 x3 o0 ls H locs hl hP hD hS h
    have hP : va_P G.1 CL [(h0, .inr (11, [.int (gI o0 0), .ref (q0 1), .ref (q0 2), .ref (q0 3), .ref (q0 4), .ref (q0 5), .ref (q0 6), .int (gI o0 7), .int (gI o0 8), .int (gI o0 9), .int (gI o0 10), .int (gI o0 11), .int (gI o0 12), .int (gI o0 13), .int (gI o0 14), .long (gL o0 15), .int (gI o0 16), .int (gI o0 17), .int (gI o0 18), .int (gI o0 19), .int (gI o0 20), .int (gI o0 21), .int (gI o0 22), .int (gI o0 23), .int (gI o0 24), .int (gI o0 25), .int (gI o0 26), .int (gI o0 27), .ref (q0 28), .long (gL o0 29), .int (gI o0 30), .ref (q0 31), .ref (q0 32), .ref (q0 33), .int (gI o0 34), .int (gI o0 35), .int (gI o0 36), .int (gI o0 37), .ref (q0 38), .ref (q0 39), .int (gI o0 40), .ref (q0 41), .ref (q0 42), .ref (q0 43), .ref (q0 44)])), kI G (q0 1) 6100 (gA o0 1), kI G (q0 2) 6100 (gA o0 2), kJ G (q0 3) 2016 (gB o0 3), kJ G (q0 4) 2016 (gB o0 4), kI G (q0 5) 300 (gA o0 5), kI G (q0 6) 400 (gA o0 6), kJ G (q0 28) 10 (gB o0 28), kI G (q0 31) 969 (gA o0 31), kI G (q0 32) 969 (gA o0 32), kI G (q0 33) 969 (gA o0 33), kI G (q0 38) 5 (gA o0 38), kI G (q0 39) 5120 (gA o0 39), kI G (q0 41) 5 (gA o0 41), kZ G (q0 42) 1024 (gA o0 42), kI G (q0 43) 8192 (gA o0 43), kI G (q0 44) 8192 (gA o0 44)] H := hP
    have hD : va_D A [(h0, .inr (11, [.int (gI o0 0), .ref (q0 1), .ref (q0 2), .ref (q0 3), .ref (q0 4), .ref (q0 5), .ref (q0 6), .int (gI o0 7), .int (gI o0 8), .int (gI o0 9), .int (gI o0 10), .int (gI o0 11), .int (gI o0 12), .int (gI o0 13), .int (gI o0 14), .long (gL o0 15), .int (gI o0 16), .int (gI o0 17), .int (gI o0 18), .int (gI o0 19), .int (gI o0 20), .int (gI o0 21), .int (gI o0 22), .int (gI o0 23), .int (gI o0 24), .int (gI o0 25), .int (gI o0 26), .int (gI o0 27), .ref (q0 28), .long (gL o0 29), .int (gI o0 30), .ref (q0 31), .ref (q0 32), .ref (q0 33), .int (gI o0 34), .int (gI o0 35), .int (gI o0 36), .int (gI o0 37), .ref (q0 38), .ref (q0 39), .int (gI o0 40), .ref (q0 41), .ref (q0 42), .ref (q0 43), .ref (q0 44)])), kI G (q0 1) 6100 (gA o0 1), kI G (q0 2) 6100 (gA o0 2), kJ G (q0 3) 2016 (gB o0 3), kJ G (q0 4) 2016 (gB o0 4), kI G (q0 5) 300 (gA o0 5), kI G (q0 6) 400 (gA o0 6), kJ G (q0 28) 10 (gB o0 28), kI G (q0 31) 969 (gA o0 31), kI G (q0 32) 969 (gA o0 32), kI G (q0 33) 969 (gA o0 33), kI G (q0 38) 5 (gA o0 38), kI G (q0 39) 5120 (gA o0 39), kI G (q0 41) 5 (gA o0 41), kZ G (q0 42) 1024 (gA o0 42), kI G (q0 43) 8192 (gA o0 43), kI G (q0 44) 8192 (gA o0 44)] := hD
    unfold f_Md_ticks_75 at h
    refine lv_iload_n hx hb d_Md_ticks_75 rfl (lv_at hl 3 rfl) ?_
    refine lv_bipush (v := (10 : Int32)) hx hb d_Md_ticks_76 (by decide) ?_
    refine lv_icmp_ge (tgt := 91) hx hb d_Md_ticks_78 (by decide) (fun c1 => ?_) (fun c1 => ?_)
    · have h := h.1 c1
      refine lv_aload_n hx hb d_Md_ticks_91 rfl (lv_at hl 0 rfl) ?_
      refine va_get (D := G.1) (ci := 11) (v := .ref (q0 1)) (C := R_Md) (T := T_Md) (N := 45) hx hb hts i_Md hown hK hP 0 rfl rfl 1 (by decide) (hts _ wf_Md_7) (fun _ h9 => h9) rfl d_Md_ticks_92 ?_
      refine lv_iconst (v := (0 : Int32)) hx hb d_Md_ticks_95 (by decide) ?_
      refine lv_dup2_11 hx hb d_Md_ticks_96 rfl rfl ?_
      refine xa_iald hx hb hK hP 1 0 rfl rfl (vp_lit rfl) (k := 0) rfl d_Md_ticks_97 ?_
      refine lv_iconst (v := (1 : Int32)) hx hb d_Md_ticks_98 (by decide) ?_
      refine lv_iadd hx hb d_Md_ticks_99 ?_
      refine xa_iast hx hb hK hP hD hS 1 0 rfl rfl (vp_lit rfl) (k := 0) rfl d_Md_ticks_100 (fun H locs hP hD hS => ?_)
      have hP : va_P G.1 CL [(h0, .inr (11, [.int (gI o0 0), .ref (q0 1), .ref (q0 2), .ref (q0 3), .ref (q0 4), .ref (q0 5), .ref (q0 6), .int (gI o0 7), .int (gI o0 8), .int (gI o0 9), .int (gI o0 10), .int (gI o0 11), .int (gI o0 12), .int (gI o0 13), .int (gI o0 14), .long (gL o0 15), .int (gI o0 16), .int (gI o0 17), .int (gI o0 18), .int (gI o0 19), .int (gI o0 20), .int (gI o0 21), .int (gI o0 22), .int (gI o0 23), .int (gI o0 24), .int (gI o0 25), .int (gI o0 26), .int (gI o0 27), .ref (q0 28), .long (gL o0 29), .int (gI o0 30), .ref (q0 31), .ref (q0 32), .ref (q0 33), .int (gI o0 34), .int (gI o0 35), .int (gI o0 36), .int (gI o0 37), .ref (q0 38), .ref (q0 39), .int (gI o0 40), .ref (q0 41), .ref (q0 42), .ref (q0 43), .ref (q0 44)])), kI G (q0 1) 6100 (upd (gA o0 1) 0 (((gA o0 1) 0) + (1 : Int32))), kI G (q0 2) 6100 (gA o0 2), kJ G (q0 3) 2016 (gB o0 3), kJ G (q0 4) 2016 (gB o0 4), kI G (q0 5) 300 (gA o0 5), kI G (q0 6) 400 (gA o0 6), kJ G (q0 28) 10 (gB o0 28), kI G (q0 31) 969 (gA o0 31), kI G (q0 32) 969 (gA o0 32), kI G (q0 33) 969 (gA o0 33), kI G (q0 38) 5 (gA o0 38), kI G (q0 39) 5120 (gA o0 39), kI G (q0 41) 5 (gA o0 41), kZ G (q0 42) 1024 (gA o0 42), kI G (q0 43) 8192 (gA o0 43), kI G (q0 44) 8192 (gA o0 44)] H := hP
      have hD : va_D A [(h0, .inr (11, [.int (gI o0 0), .ref (q0 1), .ref (q0 2), .ref (q0 3), .ref (q0 4), .ref (q0 5), .ref (q0 6), .int (gI o0 7), .int (gI o0 8), .int (gI o0 9), .int (gI o0 10), .int (gI o0 11), .int (gI o0 12), .int (gI o0 13), .int (gI o0 14), .long (gL o0 15), .int (gI o0 16), .int (gI o0 17), .int (gI o0 18), .int (gI o0 19), .int (gI o0 20), .int (gI o0 21), .int (gI o0 22), .int (gI o0 23), .int (gI o0 24), .int (gI o0 25), .int (gI o0 26), .int (gI o0 27), .ref (q0 28), .long (gL o0 29), .int (gI o0 30), .ref (q0 31), .ref (q0 32), .ref (q0 33), .int (gI o0 34), .int (gI o0 35), .int (gI o0 36), .int (gI o0 37), .ref (q0 38), .ref (q0 39), .int (gI o0 40), .ref (q0 41), .ref (q0 42), .ref (q0 43), .ref (q0 44)])), kI G (q0 1) 6100 (upd (gA o0 1) 0 (((gA o0 1) 0) + (1 : Int32))), kI G (q0 2) 6100 (gA o0 2), kJ G (q0 3) 2016 (gB o0 3), kJ G (q0 4) 2016 (gB o0 4), kI G (q0 5) 300 (gA o0 5), kI G (q0 6) 400 (gA o0 6), kJ G (q0 28) 10 (gB o0 28), kI G (q0 31) 969 (gA o0 31), kI G (q0 32) 969 (gA o0 32), kI G (q0 33) 969 (gA o0 33), kI G (q0 38) 5 (gA o0 38), kI G (q0 39) 5120 (gA o0 39), kI G (q0 41) 5 (gA o0 41), kZ G (q0 42) 1024 (gA o0 42), kI G (q0 43) 8192 (gA o0 43), kI G (q0 44) 8192 (gA o0 44)] := hD
      refine lv_iinc (v := (x2 + (1 : Int32))) (lv' := [(2, .int (x2 + (1 : Int32))), (0, .ref h0), (1, .int x1), (3, .int x3)]) hx hb d_Md_ticks_101 hl (k := 2) rfl rfl (by decide) rfl (fun ls hl => ?_)
      refine lv_goto (tgt := 28) hx hb d_Md_ticks_104 (by decide) ?_
      have hl := lv_sub (l' := [(0, .ref h0), (1, .int x1), (2, .int (x2 + (1 : Int32)))]) hl [1, 2, 0] rfl
      have hP : va_P G.1 CL (cw_Md G h0 q0 (sA o0 1 (upd (gA o0 1) 0 (((gA o0 1) 0) + (1 : Int32))))) H := hP
      have hD : va_D A (cw_Md G h0 q0 (sA o0 1 (upd (gA o0 1) 0 (((gA o0 1) 0) + (1 : Int32))))) := hD
      exact hk28 x1 (x2 + (1 : Int32)) (sA o0 1 (upd (gA o0 1) 0 (((gA o0 1) 0) + (1 : Int32)))) ls H locs hl hP hD hS h
    · have h := h.2 c1
      refine lv_aload_n hx hb d_Md_ticks_81 rfl (lv_at hl 0 rfl) ?_
      refine cl_Vv (b := b_Md_ticks) (As := []) (rest := []) (ws := [(h0, .inr (11, [.int (gI o0 0), .ref (q0 1), .ref (q0 2), .ref (q0 3), .ref (q0 4), .ref (q0 5), .ref (q0 6), .int (gI o0 7), .int (gI o0 8), .int (gI o0 9), .int (gI o0 10), .int (gI o0 11), .int (gI o0 12), .int (gI o0 13), .int (gI o0 14), .long (gL o0 15), .int (gI o0 16), .int (gI o0 17), .int (gI o0 18), .int (gI o0 19), .int (gI o0 20), .int (gI o0 21), .int (gI o0 22), .int (gI o0 23), .int (gI o0 24), .int (gI o0 25), .int (gI o0 26), .int (gI o0 27), .ref (q0 28), .long (gL o0 29), .int (gI o0 30), .ref (q0 31), .ref (q0 32), .ref (q0 33), .int (gI o0 34), .int (gI o0 35), .int (gI o0 36), .int (gI o0 37), .ref (q0 38), .ref (q0 39), .int (gI o0 40), .ref (q0 41), .ref (q0 42), .ref (q0 43), .ref (q0 44)])), kI G (q0 1) 6100 (gA o0 1), kI G (q0 2) 6100 (gA o0 2), kJ G (q0 3) 2016 (gB o0 3), kJ G (q0 4) 2016 (gB o0 4), kI G (q0 5) 300 (gA o0 5), kI G (q0 6) 400 (gA o0 6), kJ G (q0 28) 10 (gB o0 28), kI G (q0 31) 969 (gA o0 31), kI G (q0 32) 969 (gA o0 32), kI G (q0 33) 969 (gA o0 33), kI G (q0 38) 5 (gA o0 38), kI G (q0 39) 5120 (gA o0 39), kI G (q0 41) 5 (gA o0 41), kZ G (q0 42) 1024 (gA o0 42), kI G (q0 43) 8192 (gA o0 43), kI G (q0 44) 8192 (gA o0 44)]) (wr := []) (w2 := fun (u : Ob) => [(h0, .inr (11, [.int (gI u 0), .ref (q0 1), .ref (q0 2), .ref (q0 3), .ref (q0 4), .ref (q0 5), .ref (q0 6), .int (gI u 7), .int (gI u 8), .int (gI u 9), .int (gI u 10), .int (gI u 11), .int (gI u 12), .int (gI u 13), .int (gI u 14), .long (gL u 15), .int (gI u 16), .int (gI u 17), .int (gI u 18), .int (gI u 19), .int (gI u 20), .int (gI u 21), .int (gI u 22), .int (gI u 23), .int (gI u 24), .int (gI u 25), .int (gI u 26), .int (gI u 27), .ref (q0 28), .long (gL u 29), .int (gI u 30), .ref (q0 31), .ref (q0 32), .ref (q0 33), .int (gI u 34), .int (gI u 35), .int (gI u 36), .int (gI u 37), .ref (q0 38), .ref (q0 39), .int (gI u 40), .ref (q0 41), .ref (q0 42), .ref (q0 43), .ref (q0 44)])), kI G (q0 1) 6100 (gA u 1), kI G (q0 2) 6100 (gA u 2), kJ G (q0 3) 2016 (gB u 3), kJ G (q0 4) 2016 (gB u 4), kI G (q0 5) 300 (gA u 5), kI G (q0 6) 400 (gA u 6), kJ G (q0 28) 10 (gB u 28), kI G (q0 31) 969 (gA u 31), kI G (q0 32) 969 (gA u 32), kI G (q0 33) 969 (gA u 33), kI G (q0 38) 5 (gA u 38), kI G (q0 39) 5120 (gA u 39), kI G (q0 41) 5 (gA u 41), kZ G (q0 42) 1024 (gA u 42), kI G (q0 43) 8192 (gA u 43), kI G (q0 44) 8192 (gA u 44)]) C (c_Md_step (h0 := h0) (q0 := q0) H.size h) wv_Md_239 ⟨Nat.le_of_ble_eq_true rfl, Nat.le_of_ble_eq_true rfl⟩ hP hD hS 0 rfl rfl [0, 1, 2, 3, 4, 5, 6, 7, 8, 9, 10, 11, 12, 13, 14, 15, 16] [] rfl rfl (by decide) (by decide) (by decide) [0, 1, 2, 3, 4, 5, 6, 7, 8, 9, 10, 11, 12, 13, 14, 15, 16] (by decide) (fun u => rfl) rfl hl.1 rfl (lv_room (Nat.le_of_ble_eq_true rfl)) d_Md_ticks_82 ⟨Nat.le_of_ble_eq_true rfl, Nat.le_of_ble_eq_true rfl⟩ rfl rfl (fun u H locs h hP hD hS => ?_)
      generalize u = u2 at h hP hD
      have hP : va_P G.1 CL [(h0, .inr (11, [.int (gI u2 0), .ref (q0 1), .ref (q0 2), .ref (q0 3), .ref (q0 4), .ref (q0 5), .ref (q0 6), .int (gI u2 7), .int (gI u2 8), .int (gI u2 9), .int (gI u2 10), .int (gI u2 11), .int (gI u2 12), .int (gI u2 13), .int (gI u2 14), .long (gL u2 15), .int (gI u2 16), .int (gI u2 17), .int (gI u2 18), .int (gI u2 19), .int (gI u2 20), .int (gI u2 21), .int (gI u2 22), .int (gI u2 23), .int (gI u2 24), .int (gI u2 25), .int (gI u2 26), .int (gI u2 27), .ref (q0 28), .long (gL u2 29), .int (gI u2 30), .ref (q0 31), .ref (q0 32), .ref (q0 33), .int (gI u2 34), .int (gI u2 35), .int (gI u2 36), .int (gI u2 37), .ref (q0 38), .ref (q0 39), .int (gI u2 40), .ref (q0 41), .ref (q0 42), .ref (q0 43), .ref (q0 44)])), kI G (q0 1) 6100 (gA u2 1), kI G (q0 2) 6100 (gA u2 2), kJ G (q0 3) 2016 (gB u2 3), kJ G (q0 4) 2016 (gB u2 4), kI G (q0 5) 300 (gA u2 5), kI G (q0 6) 400 (gA u2 6), kJ G (q0 28) 10 (gB u2 28), kI G (q0 31) 969 (gA u2 31), kI G (q0 32) 969 (gA u2 32), kI G (q0 33) 969 (gA u2 33), kI G (q0 38) 5 (gA u2 38), kI G (q0 39) 5120 (gA u2 39), kI G (q0 41) 5 (gA u2 41), kZ G (q0 42) 1024 (gA u2 42), kI G (q0 43) 8192 (gA u2 43), kI G (q0 44) 8192 (gA u2 44)] H := hP
      have hD : va_D A [(h0, .inr (11, [.int (gI u2 0), .ref (q0 1), .ref (q0 2), .ref (q0 3), .ref (q0 4), .ref (q0 5), .ref (q0 6), .int (gI u2 7), .int (gI u2 8), .int (gI u2 9), .int (gI u2 10), .int (gI u2 11), .int (gI u2 12), .int (gI u2 13), .int (gI u2 14), .long (gL u2 15), .int (gI u2 16), .int (gI u2 17), .int (gI u2 18), .int (gI u2 19), .int (gI u2 20), .int (gI u2 21), .int (gI u2 22), .int (gI u2 23), .int (gI u2 24), .int (gI u2 25), .int (gI u2 26), .int (gI u2 27), .ref (q0 28), .long (gL u2 29), .int (gI u2 30), .ref (q0 31), .ref (q0 32), .ref (q0 33), .int (gI u2 34), .int (gI u2 35), .int (gI u2 36), .int (gI u2 37), .ref (q0 38), .ref (q0 39), .int (gI u2 40), .ref (q0 41), .ref (q0 42), .ref (q0 43), .ref (q0 44)])), kI G (q0 1) 6100 (gA u2 1), kI G (q0 2) 6100 (gA u2 2), kJ G (q0 3) 2016 (gB u2 3), kJ G (q0 4) 2016 (gB u2 4), kI G (q0 5) 300 (gA u2 5), kI G (q0 6) 400 (gA u2 6), kJ G (q0 28) 10 (gB u2 28), kI G (q0 31) 969 (gA u2 31), kI G (q0 32) 969 (gA u2 32), kI G (q0 33) 969 (gA u2 33), kI G (q0 38) 5 (gA u2 38), kI G (q0 39) 5120 (gA u2 39), kI G (q0 41) 5 (gA u2 41), kZ G (q0 42) 1024 (gA u2 42), kI G (q0 43) 8192 (gA u2 43), kI G (q0 44) 8192 (gA u2 44)] := hD
      refine lv_iinc (v := (x3 + (1 : Int32))) (lv' := [(3, .int (x3 + (1 : Int32))), (0, .ref h0), (1, .int x1), (2, .int x2)]) hx hb d_Md_ticks_85 hl (k := 3) rfl rfl (by decide) rfl (fun ls hl => ?_)
      refine lv_goto (tgt := 75) hx hb d_Md_ticks_88 (by decide) ?_
      have hl := lv_sub (l' := [(0, .ref h0), (1, .int x1), (2, .int x2), (3, .int (x3 + (1 : Int32)))]) hl [1, 2, 3, 0] rfl
      have hP : va_P G.1 CL (cw_Md G h0 q0 u2) H := hP
      have hD : va_D A (cw_Md G h0 q0 u2) := hD
      exact ih x1 x2 (x3 + (1 : Int32)) u2 ls H locs hl hP hD hS h
set_option maxHeartbeats 4000000 in
set_option maxRecDepth 100000 in
theorem t_Md_ticks_35 {p : Program} {l : Launch} {e : Env} {s : State} {m : MethodId} {args : Array Value} {below : List Frame} {meth : Method} {c : Code} {A : Nat → Prop} {G : Gl} {h0 : Nat} {q0 : Nat → Nat} (k28 : Int32 → Int32 → Ob → Prop) (Q : Int32 → Ob → Prop) (C : Cx p s m args meth c R_Md b_Md_ticks 4 (some .int) G A)
    (hk28 : ∀ (x1 : Int32) (x2 : Int32) (o0 : Ob) (ls : Array Slot) (H : Heap) (locs : List Loc), lv_has ls 4 [(0, .ref h0), (1, .int x1), (2, .int x2)] → va_P G.1 CL (cw_Md G h0 q0 o0) H → va_D A (cw_Md G h0 q0 o0) → va_S A s.heap H locs → k28 x1 x2 o0 → W p l e rm_Md_ticks s m args below meth c H locs 0 0 (MQ below (va_Qi (fun (r : Int32) (u : Ob) => Q r u) (fun (u : Ob) t => BW G A (cw_Md G h0 q0 u) t) A) args s 0 0 A) (F0 m 28 ls [])) :
    ∀ (n : Nat) (x1 : Int32) (x2 : Int32) (x3 : Int32) (o0 : Ob) (ls : Array Slot) (H : Heap) (locs : List Loc), lv_has ls 4 [(0, .ref h0), (1, .int x1), (2, .int x2), (3, .int x3)] → va_P G.1 CL (cw_Md G h0 q0 o0) H → va_D A (cw_Md G h0 q0 o0) → va_S A s.heap H locs → f_Md_ticks_35 k28 Q n x1 x2 x3 o0 → W p l e rm_Md_ticks s m args below meth c H locs 0 0 (MQ below (va_Qi (fun (r : Int32) (u : Ob) => Q r u) (fun (u : Ob) t => BW G A (cw_Md G h0 q0 u) t) A) args s 0 0 A) (F0 m 35 ls []) := by
  obtain ⟨hx, hb, hml, hown, hr, hts, hK, hA, hlocks, hE⟩ := id C
  intro n
  induction n with
  | zero => intro x1 x2 x3 o0 ls H locs hl hP hD hS h; exact absurd h id
  | succ n ih =>
    intro x1 x2 x3 o0 ls H locs hl hP hD hS h
    have hP : va_P G.1 CL [(h0, .inr (11, [.int (gI o0 0), .ref (q0 1), .ref (q0 2), .ref (q0 3), .ref (q0 4), .ref (q0 5), .ref (q0 6), .int (gI o0 7), .int (gI o0 8), .int (gI o0 9), .int (gI o0 10), .int (gI o0 11), .int (gI o0 12), .int (gI o0 13), .int (gI o0 14), .long (gL o0 15), .int (gI o0 16), .int (gI o0 17), .int (gI o0 18), .int (gI o0 19), .int (gI o0 20), .int (gI o0 21), .int (gI o0 22), .int (gI o0 23), .int (gI o0 24), .int (gI o0 25), .int (gI o0 26), .int (gI o0 27), .ref (q0 28), .long (gL o0 29), .int (gI o0 30), .ref (q0 31), .ref (q0 32), .ref (q0 33), .int (gI o0 34), .int (gI o0 35), .int (gI o0 36), .int (gI o0 37), .ref (q0 38), .ref (q0 39), .int (gI o0 40), .ref (q0 41), .ref (q0 42), .ref (q0 43), .ref (q0 44)])), kI G (q0 1) 6100 (gA o0 1), kI G (q0 2) 6100 (gA o0 2), kJ G (q0 3) 2016 (gB o0 3), kJ G (q0 4) 2016 (gB o0 4), kI G (q0 5) 300 (gA o0 5), kI G (q0 6) 400 (gA o0 6), kJ G (q0 28) 10 (gB o0 28), kI G (q0 31) 969 (gA o0 31), kI G (q0 32) 969 (gA o0 32), kI G (q0 33) 969 (gA o0 33), kI G (q0 38) 5 (gA o0 38), kI G (q0 39) 5120 (gA o0 39), kI G (q0 41) 5 (gA o0 41), kZ G (q0 42) 1024 (gA o0 42), kI G (q0 43) 8192 (gA o0 43), kI G (q0 44) 8192 (gA o0 44)] H := hP
    have hD : va_D A [(h0, .inr (11, [.int (gI o0 0), .ref (q0 1), .ref (q0 2), .ref (q0 3), .ref (q0 4), .ref (q0 5), .ref (q0 6), .int (gI o0 7), .int (gI o0 8), .int (gI o0 9), .int (gI o0 10), .int (gI o0 11), .int (gI o0 12), .int (gI o0 13), .int (gI o0 14), .long (gL o0 15), .int (gI o0 16), .int (gI o0 17), .int (gI o0 18), .int (gI o0 19), .int (gI o0 20), .int (gI o0 21), .int (gI o0 22), .int (gI o0 23), .int (gI o0 24), .int (gI o0 25), .int (gI o0 26), .int (gI o0 27), .ref (q0 28), .long (gL o0 29), .int (gI o0 30), .ref (q0 31), .ref (q0 32), .ref (q0 33), .int (gI o0 34), .int (gI o0 35), .int (gI o0 36), .int (gI o0 37), .ref (q0 38), .ref (q0 39), .int (gI o0 40), .ref (q0 41), .ref (q0 42), .ref (q0 43), .ref (q0 44)])), kI G (q0 1) 6100 (gA o0 1), kI G (q0 2) 6100 (gA o0 2), kJ G (q0 3) 2016 (gB o0 3), kJ G (q0 4) 2016 (gB o0 4), kI G (q0 5) 300 (gA o0 5), kI G (q0 6) 400 (gA o0 6), kJ G (q0 28) 10 (gB o0 28), kI G (q0 31) 969 (gA o0 31), kI G (q0 32) 969 (gA o0 32), kI G (q0 33) 969 (gA o0 33), kI G (q0 38) 5 (gA o0 38), kI G (q0 39) 5120 (gA o0 39), kI G (q0 41) 5 (gA o0 41), kZ G (q0 42) 1024 (gA o0 42), kI G (q0 43) 8192 (gA o0 43), kI G (q0 44) 8192 (gA o0 44)] := hD
    unfold f_Md_ticks_35 at h
    refine lv_iload_n hx hb d_Md_ticks_35 rfl (lv_at hl 3 rfl) ?_
    refine lv_aload_n hx hb d_Md_ticks_36 rfl (lv_at hl 0 rfl) ?_
    refine va_get (D := G.1) (ci := 11) (v := .int (gI o0 0)) (C := R_Md) (T := T_Md) (N := 45) hx hb hts i_Md hown hK hP 0 rfl rfl 0 (by decide) (hts _ wf_Md_67) (fun _ h9 => h9) rfl d_Md_ticks_37 ?_
    refine lv_icmp_ge (tgt := 60) hx hb d_Md_ticks_40 (by decide) (fun c3 => ?_) (fun c3 => ?_)
    · have h := h.1 c3
      refine lv_aload_n hx hb d_Md_ticks_60 rfl (lv_at hl 0 rfl) ?_
      refine lv_bipush (v := (10 : Int32)) hx hb d_Md_ticks_61 (by decide) ?_
      refine lv_aload_n hx hb d_Md_ticks_63 rfl (lv_at hl 0 rfl) ?_
      refine va_get (D := G.1) (ci := 11) (v := .ref (q0 1)) (C := R_Md) (T := T_Md) (N := 45) hx hb hts i_Md hown hK hP 0 rfl rfl 1 (by decide) (hts _ wf_Md_7) (fun _ h9 => h9) rfl d_Md_ticks_64 ?_
      refine lv_iconst (v := (0 : Int32)) hx hb d_Md_ticks_67 (by decide) ?_
      refine xa_iald hx hb hK hP 1 0 rfl rfl (vp_lit rfl) (k := 0) rfl d_Md_ticks_68 ?_
      refine lv_imul hx hb d_Md_ticks_69 ?_
      refine va_put (D := G.1) (ci := 11) (v := .int ((10 : Int32) * ((gA o0 1) 0))) (ty := .int) (C := R_Md) (T := T_Md) (N := 45) hx hb hts i_Md ty_Md ty_Md_ok nm_Md hown hK hP hD hS 0 rfl rfl 30 (by decide) (hts _ wf_Md_222) (fun _ h9 => h9) rfl (ty_Md_ok 30 (by decide)) rfl rfl (Nat.le_of_ble_eq_true rfl) d_Md_ticks_70 (fun H locs hP hD hS => ?_)
      have hP : va_P G.1 CL [(h0, .inr (11, [.int (gI o0 0), .ref (q0 1), .ref (q0 2), .ref (q0 3), .ref (q0 4), .ref (q0 5), .ref (q0 6), .int (gI o0 7), .int (gI o0 8), .int (gI o0 9), .int (gI o0 10), .int (gI o0 11), .int (gI o0 12), .int (gI o0 13), .int (gI o0 14), .long (gL o0 15), .int (gI o0 16), .int (gI o0 17), .int (gI o0 18), .int (gI o0 19), .int (gI o0 20), .int (gI o0 21), .int (gI o0 22), .int (gI o0 23), .int (gI o0 24), .int (gI o0 25), .int (gI o0 26), .int (gI o0 27), .ref (q0 28), .long (gL o0 29), .int ((10 : Int32) * ((gA o0 1) 0)), .ref (q0 31), .ref (q0 32), .ref (q0 33), .int (gI o0 34), .int (gI o0 35), .int (gI o0 36), .int (gI o0 37), .ref (q0 38), .ref (q0 39), .int (gI o0 40), .ref (q0 41), .ref (q0 42), .ref (q0 43), .ref (q0 44)])), kI G (q0 1) 6100 (gA o0 1), kI G (q0 2) 6100 (gA o0 2), kJ G (q0 3) 2016 (gB o0 3), kJ G (q0 4) 2016 (gB o0 4), kI G (q0 5) 300 (gA o0 5), kI G (q0 6) 400 (gA o0 6), kJ G (q0 28) 10 (gB o0 28), kI G (q0 31) 969 (gA o0 31), kI G (q0 32) 969 (gA o0 32), kI G (q0 33) 969 (gA o0 33), kI G (q0 38) 5 (gA o0 38), kI G (q0 39) 5120 (gA o0 39), kI G (q0 41) 5 (gA o0 41), kZ G (q0 42) 1024 (gA o0 42), kI G (q0 43) 8192 (gA o0 43), kI G (q0 44) 8192 (gA o0 44)] H := hP
      have hD : va_D A [(h0, .inr (11, [.int (gI o0 0), .ref (q0 1), .ref (q0 2), .ref (q0 3), .ref (q0 4), .ref (q0 5), .ref (q0 6), .int (gI o0 7), .int (gI o0 8), .int (gI o0 9), .int (gI o0 10), .int (gI o0 11), .int (gI o0 12), .int (gI o0 13), .int (gI o0 14), .long (gL o0 15), .int (gI o0 16), .int (gI o0 17), .int (gI o0 18), .int (gI o0 19), .int (gI o0 20), .int (gI o0 21), .int (gI o0 22), .int (gI o0 23), .int (gI o0 24), .int (gI o0 25), .int (gI o0 26), .int (gI o0 27), .ref (q0 28), .long (gL o0 29), .int ((10 : Int32) * ((gA o0 1) 0)), .ref (q0 31), .ref (q0 32), .ref (q0 33), .int (gI o0 34), .int (gI o0 35), .int (gI o0 36), .int (gI o0 37), .ref (q0 38), .ref (q0 39), .int (gI o0 40), .ref (q0 41), .ref (q0 42), .ref (q0 43), .ref (q0 44)])), kI G (q0 1) 6100 (gA o0 1), kI G (q0 2) 6100 (gA o0 2), kJ G (q0 3) 2016 (gB o0 3), kJ G (q0 4) 2016 (gB o0 4), kI G (q0 5) 300 (gA o0 5), kI G (q0 6) 400 (gA o0 6), kJ G (q0 28) 10 (gB o0 28), kI G (q0 31) 969 (gA o0 31), kI G (q0 32) 969 (gA o0 32), kI G (q0 33) 969 (gA o0 33), kI G (q0 38) 5 (gA o0 38), kI G (q0 39) 5120 (gA o0 39), kI G (q0 41) 5 (gA o0 41), kZ G (q0 42) 1024 (gA o0 42), kI G (q0 43) 8192 (gA o0 43), kI G (q0 44) 8192 (gA o0 44)] := hD
      refine lv_iconst (v := (0 : Int32)) hx hb d_Md_ticks_73 (by decide) ?_
      refine lv_istore_n (lv' := [(3, .int (0 : Int32)), (0, .ref h0), (1, .int x1), (2, .int x2)]) hx hb d_Md_ticks_74 rfl hl (by decide) rfl (fun ls hl => ?_)
      have hl := lv_sub (l' := [(0, .ref h0), (1, .int x1), (2, .int x2), (3, .int (0 : Int32))]) hl [1, 2, 3, 0] rfl
      have hP : va_P G.1 CL (cw_Md G h0 q0 (sI o0 30 ((10 : Int32) * ((gA o0 1) 0)))) H := hP
      have hD : va_D A (cw_Md G h0 q0 (sI o0 30 ((10 : Int32) * ((gA o0 1) 0)))) := hD
      obtain ⟨w, h⟩ := h
      exact t_Md_ticks_75 k28 Q C hk28 w x1 x2 (0 : Int32) (sI o0 30 ((10 : Int32) * ((gA o0 1) 0))) ls _ locs hl hP hD hS h
    · have h := h.2 c3
      refine lv_aload_n hx hb d_Md_ticks_43 rfl (lv_at hl 0 rfl) ?_
      refine lv_iload_n hx hb d_Md_ticks_44 rfl (lv_at hl 3 rfl) ?_
      refine lv_aload_n hx hb d_Md_ticks_45 rfl (lv_at hl 0 rfl) ?_
      refine va_get (D := G.1) (ci := 11) (v := .ref (q0 1)) (C := R_Md) (T := T_Md) (N := 45) hx hb hts i_Md hown hK hP 0 rfl rfl 1 (by decide) (hts _ wf_Md_7) (fun _ h9 => h9) rfl d_Md_ticks_46 ?_
      refine lv_iconst (v := (0 : Int32)) hx hb d_Md_ticks_49 (by decide) ?_
      refine xa_iald hx hb hK hP 1 0 rfl rfl (vp_lit rfl) (k := 0) rfl d_Md_ticks_50 ?_
      refine cl_Vv (b := b_Md_ticks) (As := [.int x3, .int ((gA o0 1) 0)]) (rest := []) (ws := [(h0, .inr (11, [.int (gI o0 0), .ref (q0 1), .ref (q0 2), .ref (q0 3), .ref (q0 4), .ref (q0 5), .ref (q0 6), .int (gI o0 7), .int (gI o0 8), .int (gI o0 9), .int (gI o0 10), .int (gI o0 11), .int (gI o0 12), .int (gI o0 13), .int (gI o0 14), .long (gL o0 15), .int (gI o0 16), .int (gI o0 17), .int (gI o0 18), .int (gI o0 19), .int (gI o0 20), .int (gI o0 21), .int (gI o0 22), .int (gI o0 23), .int (gI o0 24), .int (gI o0 25), .int (gI o0 26), .int (gI o0 27), .ref (q0 28), .long (gL o0 29), .int (gI o0 30), .ref (q0 31), .ref (q0 32), .ref (q0 33), .int (gI o0 34), .int (gI o0 35), .int (gI o0 36), .int (gI o0 37), .ref (q0 38), .ref (q0 39), .int (gI o0 40), .ref (q0 41), .ref (q0 42), .ref (q0 43), .ref (q0 44)])), kI G (q0 1) 6100 (gA o0 1), kI G (q0 2) 6100 (gA o0 2), kJ G (q0 3) 2016 (gB o0 3), kJ G (q0 4) 2016 (gB o0 4), kI G (q0 5) 300 (gA o0 5), kI G (q0 6) 400 (gA o0 6), kJ G (q0 28) 10 (gB o0 28), kI G (q0 31) 969 (gA o0 31), kI G (q0 32) 969 (gA o0 32), kI G (q0 33) 969 (gA o0 33), kI G (q0 38) 5 (gA o0 38), kI G (q0 39) 5120 (gA o0 39), kI G (q0 41) 5 (gA o0 41), kZ G (q0 42) 1024 (gA o0 42), kI G (q0 43) 8192 (gA o0 43), kI G (q0 44) 8192 (gA o0 44)]) (wr := []) (w2 := fun (u : Ob) => [(h0, .inr (11, [.int (gI u 0), .ref (q0 1), .ref (q0 2), .ref (q0 3), .ref (q0 4), .ref (q0 5), .ref (q0 6), .int (gI u 7), .int (gI u 8), .int (gI u 9), .int (gI u 10), .int (gI u 11), .int (gI u 12), .int (gI u 13), .int (gI u 14), .long (gL u 15), .int (gI u 16), .int (gI u 17), .int (gI u 18), .int (gI u 19), .int (gI u 20), .int (gI u 21), .int (gI u 22), .int (gI u 23), .int (gI u 24), .int (gI u 25), .int (gI u 26), .int (gI u 27), .ref (q0 28), .long (gL u 29), .int (gI u 30), .ref (q0 31), .ref (q0 32), .ref (q0 33), .int (gI u 34), .int (gI u 35), .int (gI u 36), .int (gI u 37), .ref (q0 38), .ref (q0 39), .int (gI u 40), .ref (q0 41), .ref (q0 42), .ref (q0 43), .ref (q0 44)])), kI G (q0 1) 6100 (gA u 1), kI G (q0 2) 6100 (gA u 2), kJ G (q0 3) 2016 (gB u 3), kJ G (q0 4) 2016 (gB u 4), kI G (q0 5) 300 (gA u 5), kI G (q0 6) 400 (gA u 6), kJ G (q0 28) 10 (gB u 28), kI G (q0 31) 969 (gA u 31), kI G (q0 32) 969 (gA u 32), kI G (q0 33) 969 (gA u 33), kI G (q0 38) 5 (gA u 38), kI G (q0 39) 5120 (gA u 39), kI G (q0 41) 5 (gA u 41), kZ G (q0 42) 1024 (gA u 42), kI G (q0 43) 8192 (gA u 43), kI G (q0 44) 8192 (gA u 44)]) C (c_Md_lead (h0 := h0) (q0 := q0) H.size h) wv_Md_235 ⟨Nat.le_of_ble_eq_true rfl, Nat.le_of_ble_eq_true rfl⟩ hP hD hS 0 rfl rfl [0, 1, 2, 3, 4, 5, 6, 7, 8, 9, 10, 11, 12, 13, 14, 15, 16] [] rfl rfl (by decide) (by decide) (by decide) [0, 1, 2, 3, 4, 5, 6, 7, 8, 9, 10, 11, 12, 13, 14, 15, 16] (by decide) (fun u => rfl) rfl hl.1 rfl (lv_room (Nat.le_of_ble_eq_true rfl)) d_Md_ticks_51 ⟨Nat.le_of_ble_eq_true rfl, Nat.le_of_ble_eq_true rfl⟩ rfl rfl (fun u H locs h hP hD hS => ?_)
      generalize u = u4 at h hP hD
      have hP : va_P G.1 CL [(h0, .inr (11, [.int (gI u4 0), .ref (q0 1), .ref (q0 2), .ref (q0 3), .ref (q0 4), .ref (q0 5), .ref (q0 6), .int (gI u4 7), .int (gI u4 8), .int (gI u4 9), .int (gI u4 10), .int (gI u4 11), .int (gI u4 12), .int (gI u4 13), .int (gI u4 14), .long (gL u4 15), .int (gI u4 16), .int (gI u4 17), .int (gI u4 18), .int (gI u4 19), .int (gI u4 20), .int (gI u4 21), .int (gI u4 22), .int (gI u4 23), .int (gI u4 24), .int (gI u4 25), .int (gI u4 26), .int (gI u4 27), .ref (q0 28), .long (gL u4 29), .int (gI u4 30), .ref (q0 31), .ref (q0 32), .ref (q0 33), .int (gI u4 34), .int (gI u4 35), .int (gI u4 36), .int (gI u4 37), .ref (q0 38), .ref (q0 39), .int (gI u4 40), .ref (q0 41), .ref (q0 42), .ref (q0 43), .ref (q0 44)])), kI G (q0 1) 6100 (gA u4 1), kI G (q0 2) 6100 (gA u4 2), kJ G (q0 3) 2016 (gB u4 3), kJ G (q0 4) 2016 (gB u4 4), kI G (q0 5) 300 (gA u4 5), kI G (q0 6) 400 (gA u4 6), kJ G (q0 28) 10 (gB u4 28), kI G (q0 31) 969 (gA u4 31), kI G (q0 32) 969 (gA u4 32), kI G (q0 33) 969 (gA u4 33), kI G (q0 38) 5 (gA u4 38), kI G (q0 39) 5120 (gA u4 39), kI G (q0 41) 5 (gA u4 41), kZ G (q0 42) 1024 (gA u4 42), kI G (q0 43) 8192 (gA u4 43), kI G (q0 44) 8192 (gA u4 44)] H := hP
      have hD : va_D A [(h0, .inr (11, [.int (gI u4 0), .ref (q0 1), .ref (q0 2), .ref (q0 3), .ref (q0 4), .ref (q0 5), .ref (q0 6), .int (gI u4 7), .int (gI u4 8), .int (gI u4 9), .int (gI u4 10), .int (gI u4 11), .int (gI u4 12), .int (gI u4 13), .int (gI u4 14), .long (gL u4 15), .int (gI u4 16), .int (gI u4 17), .int (gI u4 18), .int (gI u4 19), .int (gI u4 20), .int (gI u4 21), .int (gI u4 22), .int (gI u4 23), .int (gI u4 24), .int (gI u4 25), .int (gI u4 26), .int (gI u4 27), .ref (q0 28), .long (gL u4 29), .int (gI u4 30), .ref (q0 31), .ref (q0 32), .ref (q0 33), .int (gI u4 34), .int (gI u4 35), .int (gI u4 36), .int (gI u4 37), .ref (q0 38), .ref (q0 39), .int (gI u4 40), .ref (q0 41), .ref (q0 42), .ref (q0 43), .ref (q0 44)])), kI G (q0 1) 6100 (gA u4 1), kI G (q0 2) 6100 (gA u4 2), kJ G (q0 3) 2016 (gB u4 3), kJ G (q0 4) 2016 (gB u4 4), kI G (q0 5) 300 (gA u4 5), kI G (q0 6) 400 (gA u4 6), kJ G (q0 28) 10 (gB u4 28), kI G (q0 31) 969 (gA u4 31), kI G (q0 32) 969 (gA u4 32), kI G (q0 33) 969 (gA u4 33), kI G (q0 38) 5 (gA u4 38), kI G (q0 39) 5120 (gA u4 39), kI G (q0 41) 5 (gA u4 41), kZ G (q0 42) 1024 (gA u4 42), kI G (q0 43) 8192 (gA u4 43), kI G (q0 44) 8192 (gA u4 44)] := hD
      refine lv_iinc (v := (x3 + (1 : Int32))) (lv' := [(3, .int (x3 + (1 : Int32))), (0, .ref h0), (1, .int x1), (2, .int x2)]) hx hb d_Md_ticks_54 hl (k := 3) rfl rfl (by decide) rfl (fun ls hl => ?_)
      refine lv_goto (tgt := 35) hx hb d_Md_ticks_57 (by decide) ?_
      have hl := lv_sub (l' := [(0, .ref h0), (1, .int x1), (2, .int x2), (3, .int (x3 + (1 : Int32)))]) hl [1, 2, 3, 0] rfl
      have hP : va_P G.1 CL (cw_Md G h0 q0 u4) H := hP
      have hD : va_D A (cw_Md G h0 q0 u4) := hD
      exact ih x1 x2 (x3 + (1 : Int32)) u4 ls H locs hl hP hD hS h
set_option maxHeartbeats 4000000 in
set_option maxRecDepth 100000 in
theorem t_Md_ticks_28 {p : Program} {l : Launch} {e : Env} {s : State} {m : MethodId} {args : Array Value} {below : List Frame} {meth : Method} {c : Code} {A : Nat → Prop} {G : Gl} {h0 : Nat} {q0 : Nat → Nat} (Q : Int32 → Ob → Prop) (C : Cx p s m args meth c R_Md b_Md_ticks 4 (some .int) G A) :
    ∀ (n : Nat) (x1 : Int32) (x2 : Int32) (o0 : Ob) (ls : Array Slot) (H : Heap) (locs : List Loc), lv_has ls 4 [(0, .ref h0), (1, .int x1), (2, .int x2)] → va_P G.1 CL (cw_Md G h0 q0 o0) H → va_D A (cw_Md G h0 q0 o0) → va_S A s.heap H locs → f_Md_ticks_28 Q n x1 x2 o0 → W p l e rm_Md_ticks s m args below meth c H locs 0 0 (MQ below (va_Qi (fun (r : Int32) (u : Ob) => Q r u) (fun (u : Ob) t => BW G A (cw_Md G h0 q0 u) t) A) args s 0 0 A) (F0 m 28 ls []) := by
  obtain ⟨hx, hb, hml, hown, hr, hts, hK, hA, hlocks, hE⟩ := id C
  intro n
  induction n with
  | zero => intro x1 x2 o0 ls H locs hl hP hD hS h; exact absurd h id
  | succ n ih =>
    intro x1 x2 o0 ls H locs hl hP hD hS h
    have hP : va_P G.1 CL [(h0, .inr (11, [.int (gI o0 0), .ref (q0 1), .ref (q0 2), .ref (q0 3), .ref (q0 4), .ref (q0 5), .ref (q0 6), .int (gI o0 7), .int (gI o0 8), .int (gI o0 9), .int (gI o0 10), .int (gI o0 11), .int (gI o0 12), .int (gI o0 13), .int (gI o0 14), .long (gL o0 15), .int (gI o0 16), .int (gI o0 17), .int (gI o0 18), .int (gI o0 19), .int (gI o0 20), .int (gI o0 21), .int (gI o0 22), .int (gI o0 23), .int (gI o0 24), .int (gI o0 25), .int (gI o0 26), .int (gI o0 27), .ref (q0 28), .long (gL o0 29), .int (gI o0 30), .ref (q0 31), .ref (q0 32), .ref (q0 33), .int (gI o0 34), .int (gI o0 35), .int (gI o0 36), .int (gI o0 37), .ref (q0 38), .ref (q0 39), .int (gI o0 40), .ref (q0 41), .ref (q0 42), .ref (q0 43), .ref (q0 44)])), kI G (q0 1) 6100 (gA o0 1), kI G (q0 2) 6100 (gA o0 2), kJ G (q0 3) 2016 (gB o0 3), kJ G (q0 4) 2016 (gB o0 4), kI G (q0 5) 300 (gA o0 5), kI G (q0 6) 400 (gA o0 6), kJ G (q0 28) 10 (gB o0 28), kI G (q0 31) 969 (gA o0 31), kI G (q0 32) 969 (gA o0 32), kI G (q0 33) 969 (gA o0 33), kI G (q0 38) 5 (gA o0 38), kI G (q0 39) 5120 (gA o0 39), kI G (q0 41) 5 (gA o0 41), kZ G (q0 42) 1024 (gA o0 42), kI G (q0 43) 8192 (gA o0 43), kI G (q0 44) 8192 (gA o0 44)] H := hP
    have hD : va_D A [(h0, .inr (11, [.int (gI o0 0), .ref (q0 1), .ref (q0 2), .ref (q0 3), .ref (q0 4), .ref (q0 5), .ref (q0 6), .int (gI o0 7), .int (gI o0 8), .int (gI o0 9), .int (gI o0 10), .int (gI o0 11), .int (gI o0 12), .int (gI o0 13), .int (gI o0 14), .long (gL o0 15), .int (gI o0 16), .int (gI o0 17), .int (gI o0 18), .int (gI o0 19), .int (gI o0 20), .int (gI o0 21), .int (gI o0 22), .int (gI o0 23), .int (gI o0 24), .int (gI o0 25), .int (gI o0 26), .int (gI o0 27), .ref (q0 28), .long (gL o0 29), .int (gI o0 30), .ref (q0 31), .ref (q0 32), .ref (q0 33), .int (gI o0 34), .int (gI o0 35), .int (gI o0 36), .int (gI o0 37), .ref (q0 38), .ref (q0 39), .int (gI o0 40), .ref (q0 41), .ref (q0 42), .ref (q0 43), .ref (q0 44)])), kI G (q0 1) 6100 (gA o0 1), kI G (q0 2) 6100 (gA o0 2), kJ G (q0 3) 2016 (gB o0 3), kJ G (q0 4) 2016 (gB o0 4), kI G (q0 5) 300 (gA o0 5), kI G (q0 6) 400 (gA o0 6), kJ G (q0 28) 10 (gB o0 28), kI G (q0 31) 969 (gA o0 31), kI G (q0 32) 969 (gA o0 32), kI G (q0 33) 969 (gA o0 33), kI G (q0 38) 5 (gA o0 38), kI G (q0 39) 5120 (gA o0 39), kI G (q0 41) 5 (gA o0 41), kZ G (q0 42) 1024 (gA o0 42), kI G (q0 43) 8192 (gA o0 43), kI G (q0 44) 8192 (gA o0 44)] := hD
    unfold f_Md_ticks_28 at h
    refine lv_iload_n hx hb d_Md_ticks_28 rfl (lv_at hl 2 rfl) ?_
    refine lv_iload_n hx hb d_Md_ticks_29 rfl (lv_at hl 1 rfl) ?_
    refine lv_icmp_ge (tgt := 107) hx hb d_Md_ticks_30 (by decide) (fun c5 => ?_) (fun c5 => ?_)
    · have h := h.1 c5
      refine lv_aload_n hx hb d_Md_ticks_107 rfl (lv_at hl 0 rfl) ?_
      refine va_get (D := G.1) (ci := 11) (v := .ref (q0 1)) (C := R_Md) (T := T_Md) (N := 45) hx hb hts i_Md hown hK hP 0 rfl rfl 1 (by decide) (hts _ wf_Md_7) (fun _ h9 => h9) rfl d_Md_ticks_108 ?_
      refine lv_iconst (v := (0 : Int32)) hx hb d_Md_ticks_111 (by decide) ?_
      refine xa_iald hx hb hK hP 1 0 rfl rfl (vp_lit rfl) (k := 0) rfl d_Md_ticks_112 ?_
      have hP : va_P G.1 CL (cw_Md G h0 q0 o0) H := hP
      have hD : va_D A (cw_Md G h0 q0 o0) := hD
      exact W.iret (v := ((gA o0 1) 0)) hx hb hr (fun t ht hW => ⟨⟨((gA o0 1) 0), o0, rfl, h, by rw [ht]; exact hP, va_K.moved hW.alike hK, hD⟩, hS.F ht⟩) hS.2.2 d_Md_ticks_113
    · have h := h.2 c5
      refine lv_iconst (v := (0 : Int32)) hx hb d_Md_ticks_33 (by decide) ?_
      refine lv_istore_n (lv' := [(3, .int (0 : Int32)), (0, .ref h0), (1, .int x1), (2, .int x2)]) hx hb d_Md_ticks_34 rfl hl (by decide) rfl (fun ls hl => ?_)
      have hl := lv_sub (l' := [(0, .ref h0), (1, .int x1), (2, .int x2), (3, .int (0 : Int32))]) hl [1, 2, 3, 0] rfl
      have hP : va_P G.1 CL (cw_Md G h0 q0 o0) H := hP
      have hD : va_D A (cw_Md G h0 q0 o0) := hD
      obtain ⟨w, h⟩ := h
      exact t_Md_ticks_35 (f_Md_ticks_28 Q n) Q C ih w x1 x2 (0 : Int32) o0 ls _ locs hl hP hD hS h
set_option maxHeartbeats 4000000 in
set_option maxRecDepth 100000 in
theorem c_Md_ticks {l : Launch} {G : Gl} {h0 : Nat} {q0 : Nat → Nat} {a0 : Int32} {o0 : Ob} {Q : Int32 → Ob → Prop} (sz : Nat) (h : f_Md_ticks a0 o0 Q) : Met l y_Md_ticks w_Md_ticks rm_Md_ticks (PcW G [.ref h0, .int a0] sz (cw_Md G h0 q0 o0)) (va_Qi (fun (r : Int32) (u : Ob) => Q r u) (fun (u : Ob) t => BW G (va_A (cw_Md G h0 q0 o0) sz) (cw_Md G h0 q0 u) t) (va_A (cw_Md G h0 q0 o0) sz)) 0 0 (va_A (cw_Md G h0 q0 o0) sz) := by
  refine Met.ofW (cc := b_Md_ticks) (maxL := 4) (ret := (some .int)) (by decide +kernel) rfl ?_
  intro p e s m args below meth c s₁ B hml hv
  obtain ⟨rfl, hsz, hP, hK, hD0, hE⟩ := hv
  have hx := B.exec
  have hb := B.bytes
  have hr := B.returns
  have hts0 := atoms_spec (ws := w_Md_ticks) B.pre
  have hts : ∀ w ∈ gw_tbl, w.before ([.ref h0, .int a0]).toArray s = true := fun w hw => hts0 w (List.mem_cons_of_mem _ hw)
  have hown : s.vm.findClass R_Md = some m.cls := findClass_of_methodNamed B.named
  have hlocks := B.notSynchronized
  subst hsz
  have hD := hD0.self (sz := s.heap.size)
  generalize hAe : va_A (cw_Md G h0 q0 o0) s.heap.size = A at hD hE ⊢
  have hA : ∀ q : Nat, s.heap.size ≤ q → A q := fun q h => by rw [← hAe]; exact Or.inr h
  have hS : va_S A s.heap s.heap [] := va_S.rf
  have C : Cx p s m ([.ref h0, .int a0]).toArray meth c R_Md b_Md_ticks 4 (some .int) G A := ⟨hx, hb, hml, hown, hr, hts, hK, hA, hlocks, hE⟩
  have hl := lv_entry ([.ref h0, .int a0]) (n := 4) (Nat.le_of_ble_eq_true rfl)
  rw [lg_entry_eq]
  generalize (lg_sl ([.ref h0, .int a0]) ++ List.replicate (4 - (lg_sl ([.ref h0, .int a0])).length) Slot.unset).toArray = ls at hl ⊢
  have hl : lv_has ls 4 [(0, .ref h0), (1, .int a0)] := hl
  have hD : va_D A [(h0, .inr (11, [.int (gI o0 0), .ref (q0 1), .ref (q0 2), .ref (q0 3), .ref (q0 4), .ref (q0 5), .ref (q0 6), .int (gI o0 7), .int (gI o0 8), .int (gI o0 9), .int (gI o0 10), .int (gI o0 11), .int (gI o0 12), .int (gI o0 13), .int (gI o0 14), .long (gL o0 15), .int (gI o0 16), .int (gI o0 17), .int (gI o0 18), .int (gI o0 19), .int (gI o0 20), .int (gI o0 21), .int (gI o0 22), .int (gI o0 23), .int (gI o0 24), .int (gI o0 25), .int (gI o0 26), .int (gI o0 27), .ref (q0 28), .long (gL o0 29), .int (gI o0 30), .ref (q0 31), .ref (q0 32), .ref (q0 33), .int (gI o0 34), .int (gI o0 35), .int (gI o0 36), .int (gI o0 37), .ref (q0 38), .ref (q0 39), .int (gI o0 40), .ref (q0 41), .ref (q0 42), .ref (q0 43), .ref (q0 44)])), kI G (q0 1) 6100 (gA o0 1), kI G (q0 2) 6100 (gA o0 2), kJ G (q0 3) 2016 (gB o0 3), kJ G (q0 4) 2016 (gB o0 4), kI G (q0 5) 300 (gA o0 5), kI G (q0 6) 400 (gA o0 6), kJ G (q0 28) 10 (gB o0 28), kI G (q0 31) 969 (gA o0 31), kI G (q0 32) 969 (gA o0 32), kI G (q0 33) 969 (gA o0 33), kI G (q0 38) 5 (gA o0 38), kI G (q0 39) 5120 (gA o0 39), kI G (q0 41) 5 (gA o0 41), kZ G (q0 42) 1024 (gA o0 42), kI G (q0 43) 8192 (gA o0 43), kI G (q0 44) 8192 (gA o0 44)] := hD
  unfold f_Md_ticks at h
  suffices key : ∀ (H : Heap) (locs : List Loc), va_P G.1 CL [(h0, .inr (11, [.int (gI o0 0), .ref (q0 1), .ref (q0 2), .ref (q0 3), .ref (q0 4), .ref (q0 5), .ref (q0 6), .int (gI o0 7), .int (gI o0 8), .int (gI o0 9), .int (gI o0 10), .int (gI o0 11), .int (gI o0 12), .int (gI o0 13), .int (gI o0 14), .long (gL o0 15), .int (gI o0 16), .int (gI o0 17), .int (gI o0 18), .int (gI o0 19), .int (gI o0 20), .int (gI o0 21), .int (gI o0 22), .int (gI o0 23), .int (gI o0 24), .int (gI o0 25), .int (gI o0 26), .int (gI o0 27), .ref (q0 28), .long (gL o0 29), .int (gI o0 30), .ref (q0 31), .ref (q0 32), .ref (q0 33), .int (gI o0 34), .int (gI o0 35), .int (gI o0 36), .int (gI o0 37), .ref (q0 38), .ref (q0 39), .int (gI o0 40), .ref (q0 41), .ref (q0 42), .ref (q0 43), .ref (q0 44)])), kI G (q0 1) 6100 (gA o0 1), kI G (q0 2) 6100 (gA o0 2), kJ G (q0 3) 2016 (gB o0 3), kJ G (q0 4) 2016 (gB o0 4), kI G (q0 5) 300 (gA o0 5), kI G (q0 6) 400 (gA o0 6), kJ G (q0 28) 10 (gB o0 28), kI G (q0 31) 969 (gA o0 31), kI G (q0 32) 969 (gA o0 32), kI G (q0 33) 969 (gA o0 33), kI G (q0 38) 5 (gA o0 38), kI G (q0 39) 5120 (gA o0 39), kI G (q0 41) 5 (gA o0 41), kZ G (q0 42) 1024 (gA o0 42), kI G (q0 43) 8192 (gA o0 43), kI G (q0 44) 8192 (gA o0 44)] H → va_S A s.heap H locs → W p l e rm_Md_ticks s m ([.ref h0, .int a0]).toArray below meth c H locs 0 0 (MQ below (va_Qi (fun (r : Int32) (u : Ob) => Q r u) (fun (u : Ob) t => BW G A (cw_Md G h0 q0 u) t) A) ([.ref h0, .int a0]).toArray s 0 0 A) (F0 m 0 ls []) from key s.heap [] hP hS
  intro H locs hP hS
  refine lv_iload_n hx hb d_Md_ticks_0 rfl (lv_at hl 1 rfl) ?_
  refine lv_iconst (v := (1 : Int32)) hx hb d_Md_ticks_1 (by decide) ?_
  refine lv_bipush (v := (50 : Int32)) hx hb d_Md_ticks_2 (by decide) ?_
  refine cl_Si (b := b_Md_ticks) (As := [.int a0, .int (1 : Int32), .int (50 : Int32)]) (rest := []) (ws := [(h0, .inr (11, [.int (gI o0 0), .ref (q0 1), .ref (q0 2), .ref (q0 3), .ref (q0 4), .ref (q0 5), .ref (q0 6), .int (gI o0 7), .int (gI o0 8), .int (gI o0 9), .int (gI o0 10), .int (gI o0 11), .int (gI o0 12), .int (gI o0 13), .int (gI o0 14), .long (gL o0 15), .int (gI o0 16), .int (gI o0 17), .int (gI o0 18), .int (gI o0 19), .int (gI o0 20), .int (gI o0 21), .int (gI o0 22), .int (gI o0 23), .int (gI o0 24), .int (gI o0 25), .int (gI o0 26), .int (gI o0 27), .ref (q0 28), .long (gL o0 29), .int (gI o0 30), .ref (q0 31), .ref (q0 32), .ref (q0 33), .int (gI o0 34), .int (gI o0 35), .int (gI o0 36), .int (gI o0 37), .ref (q0 38), .ref (q0 39), .int (gI o0 40), .ref (q0 41), .ref (q0 42), .ref (q0 43), .ref (q0 44)])), kI G (q0 1) 6100 (gA o0 1), kI G (q0 2) 6100 (gA o0 2), kJ G (q0 3) 2016 (gB o0 3), kJ G (q0 4) 2016 (gB o0 4), kI G (q0 5) 300 (gA o0 5), kI G (q0 6) 400 (gA o0 6), kJ G (q0 28) 10 (gB o0 28), kI G (q0 31) 969 (gA o0 31), kI G (q0 32) 969 (gA o0 32), kI G (q0 33) 969 (gA o0 33), kI G (q0 38) 5 (gA o0 38), kI G (q0 39) 5120 (gA o0 39), kI G (q0 41) 5 (gA o0 41), kZ G (q0 42) 1024 (gA o0 42), kI G (q0 43) 8192 (gA o0 43), kI G (q0 44) 8192 (gA o0 44)]) (wr := [(h0, .inr (11, [.int (gI o0 0), .ref (q0 1), .ref (q0 2), .ref (q0 3), .ref (q0 4), .ref (q0 5), .ref (q0 6), .int (gI o0 7), .int (gI o0 8), .int (gI o0 9), .int (gI o0 10), .int (gI o0 11), .int (gI o0 12), .int (gI o0 13), .int (gI o0 14), .long (gL o0 15), .int (gI o0 16), .int (gI o0 17), .int (gI o0 18), .int (gI o0 19), .int (gI o0 20), .int (gI o0 21), .int (gI o0 22), .int (gI o0 23), .int (gI o0 24), .int (gI o0 25), .int (gI o0 26), .int (gI o0 27), .ref (q0 28), .long (gL o0 29), .int (gI o0 30), .ref (q0 31), .ref (q0 32), .ref (q0 33), .int (gI o0 34), .int (gI o0 35), .int (gI o0 36), .int (gI o0 37), .ref (q0 38), .ref (q0 39), .int (gI o0 40), .ref (q0 41), .ref (q0 42), .ref (q0 43), .ref (q0 44)])), kI G (q0 1) 6100 (gA o0 1), kI G (q0 2) 6100 (gA o0 2), kJ G (q0 3) 2016 (gB o0 3), kJ G (q0 4) 2016 (gB o0 4), kI G (q0 5) 300 (gA o0 5), kI G (q0 6) 400 (gA o0 6), kJ G (q0 28) 10 (gB o0 28), kI G (q0 31) 969 (gA o0 31), kI G (q0 32) 969 (gA o0 32), kI G (q0 33) 969 (gA o0 33), kI G (q0 38) 5 (gA o0 38), kI G (q0 39) 5120 (gA o0 39), kI G (q0 41) 5 (gA o0 41), kZ G (q0 42) 1024 (gA o0 42), kI G (q0 43) 8192 (gA o0 43), kI G (q0 44) 8192 (gA o0 44)]) (w2 := fun (u : Unit) => [(h0, .inr (11, [.int (gI o0 0), .ref (q0 1), .ref (q0 2), .ref (q0 3), .ref (q0 4), .ref (q0 5), .ref (q0 6), .int (gI o0 7), .int (gI o0 8), .int (gI o0 9), .int (gI o0 10), .int (gI o0 11), .int (gI o0 12), .int (gI o0 13), .int (gI o0 14), .long (gL o0 15), .int (gI o0 16), .int (gI o0 17), .int (gI o0 18), .int (gI o0 19), .int (gI o0 20), .int (gI o0 21), .int (gI o0 22), .int (gI o0 23), .int (gI o0 24), .int (gI o0 25), .int (gI o0 26), .int (gI o0 27), .ref (q0 28), .long (gL o0 29), .int (gI o0 30), .ref (q0 31), .ref (q0 32), .ref (q0 33), .int (gI o0 34), .int (gI o0 35), .int (gI o0 36), .int (gI o0 37), .ref (q0 38), .ref (q0 39), .int (gI o0 40), .ref (q0 41), .ref (q0 42), .ref (q0 43), .ref (q0 44)])), kI G (q0 1) 6100 (gA o0 1), kI G (q0 2) 6100 (gA o0 2), kJ G (q0 3) 2016 (gB o0 3), kJ G (q0 4) 2016 (gB o0 4), kI G (q0 5) 300 (gA o0 5), kI G (q0 6) 400 (gA o0 6), kJ G (q0 28) 10 (gB o0 28), kI G (q0 31) 969 (gA o0 31), kI G (q0 32) 969 (gA o0 32), kI G (q0 33) 969 (gA o0 33), kI G (q0 38) 5 (gA o0 38), kI G (q0 39) 5120 (gA o0 39), kI G (q0 41) 5 (gA o0 41), kZ G (q0 42) 1024 (gA o0 42), kI G (q0 43) 8192 (gA o0 43), kI G (q0 44) 8192 (gA o0 44)]) C (c_Md_isIn H.size h) ws_Md_76 ⟨Nat.le_of_ble_eq_true rfl, Nat.le_of_ble_eq_true rfl⟩ hP hD hS [] [0, 1, 2, 3, 4, 5, 6, 7, 8, 9, 10, 11, 12, 13, 14, 15, 16] rfl rfl (by decide) (by decide) (by decide) [0, 1, 2, 3, 4, 5, 6, 7, 8, 9, 10, 11, 12, 13, 14, 15, 16] (by decide) (fun u => rfl) rfl hl.1 rfl (lv_room (Nat.le_of_ble_eq_true rfl)) d_Md_ticks_4 ⟨Nat.le_of_ble_eq_true rfl, Nat.le_of_ble_eq_true rfl⟩ rfl rfl (fun z6 u H locs h hP hD hS => ?_)
  have hP : va_P G.1 CL [(h0, .inr (11, [.int (gI o0 0), .ref (q0 1), .ref (q0 2), .ref (q0 3), .ref (q0 4), .ref (q0 5), .ref (q0 6), .int (gI o0 7), .int (gI o0 8), .int (gI o0 9), .int (gI o0 10), .int (gI o0 11), .int (gI o0 12), .int (gI o0 13), .int (gI o0 14), .long (gL o0 15), .int (gI o0 16), .int (gI o0 17), .int (gI o0 18), .int (gI o0 19), .int (gI o0 20), .int (gI o0 21), .int (gI o0 22), .int (gI o0 23), .int (gI o0 24), .int (gI o0 25), .int (gI o0 26), .int (gI o0 27), .ref (q0 28), .long (gL o0 29), .int (gI o0 30), .ref (q0 31), .ref (q0 32), .ref (q0 33), .int (gI o0 34), .int (gI o0 35), .int (gI o0 36), .int (gI o0 37), .ref (q0 38), .ref (q0 39), .int (gI o0 40), .ref (q0 41), .ref (q0 42), .ref (q0 43), .ref (q0 44)])), kI G (q0 1) 6100 (gA o0 1), kI G (q0 2) 6100 (gA o0 2), kJ G (q0 3) 2016 (gB o0 3), kJ G (q0 4) 2016 (gB o0 4), kI G (q0 5) 300 (gA o0 5), kI G (q0 6) 400 (gA o0 6), kJ G (q0 28) 10 (gB o0 28), kI G (q0 31) 969 (gA o0 31), kI G (q0 32) 969 (gA o0 32), kI G (q0 33) 969 (gA o0 33), kI G (q0 38) 5 (gA o0 38), kI G (q0 39) 5120 (gA o0 39), kI G (q0 41) 5 (gA o0 41), kZ G (q0 42) 1024 (gA o0 42), kI G (q0 43) 8192 (gA o0 43), kI G (q0 44) 8192 (gA o0 44)] H := hP
  have hD : va_D A [(h0, .inr (11, [.int (gI o0 0), .ref (q0 1), .ref (q0 2), .ref (q0 3), .ref (q0 4), .ref (q0 5), .ref (q0 6), .int (gI o0 7), .int (gI o0 8), .int (gI o0 9), .int (gI o0 10), .int (gI o0 11), .int (gI o0 12), .int (gI o0 13), .int (gI o0 14), .long (gL o0 15), .int (gI o0 16), .int (gI o0 17), .int (gI o0 18), .int (gI o0 19), .int (gI o0 20), .int (gI o0 21), .int (gI o0 22), .int (gI o0 23), .int (gI o0 24), .int (gI o0 25), .int (gI o0 26), .int (gI o0 27), .ref (q0 28), .long (gL o0 29), .int (gI o0 30), .ref (q0 31), .ref (q0 32), .ref (q0 33), .int (gI o0 34), .int (gI o0 35), .int (gI o0 36), .int (gI o0 37), .ref (q0 38), .ref (q0 39), .int (gI o0 40), .ref (q0 41), .ref (q0 42), .ref (q0 43), .ref (q0 44)])), kI G (q0 1) 6100 (gA o0 1), kI G (q0 2) 6100 (gA o0 2), kJ G (q0 3) 2016 (gB o0 3), kJ G (q0 4) 2016 (gB o0 4), kI G (q0 5) 300 (gA o0 5), kI G (q0 6) 400 (gA o0 6), kJ G (q0 28) 10 (gB o0 28), kI G (q0 31) 969 (gA o0 31), kI G (q0 32) 969 (gA o0 32), kI G (q0 33) 969 (gA o0 33), kI G (q0 38) 5 (gA o0 38), kI G (q0 39) 5120 (gA o0 39), kI G (q0 41) 5 (gA o0 41), kZ G (q0 42) 1024 (gA o0 42), kI G (q0 43) 8192 (gA o0 43), kI G (q0 44) 8192 (gA o0 44)] := hD
  refine lv_if_eq (tgt := 24) hx hb d_Md_ticks_7 (by decide) (fun c7 => ?_) (fun c7 => ?_)
  · have h := h.1 c7
    refine lv_iconst (v := (-1 : Int32)) hx hb d_Md_ticks_24 (by decide) ?_
    have hP : va_P G.1 CL (cw_Md G h0 q0 o0) H := hP
    have hD : va_D A (cw_Md G h0 q0 o0) := hD
    exact W.iret (v := (-1 : Int32)) hx hb hr (fun t ht hW => ⟨⟨(-1 : Int32), o0, rfl, h, by rw [ht]; exact hP, va_K.moved hW.alike hK, hD⟩, hS.F ht⟩) hS.2.2 d_Md_ticks_25
  · have h := h.2 c7
    refine lv_aload_n hx hb d_Md_ticks_10 rfl (lv_at hl 0 rfl) ?_
    refine va_get (D := G.1) (ci := 11) (v := .ref (q0 1)) (C := R_Md) (T := T_Md) (N := 45) hx hb hts i_Md hown hK hP 0 rfl rfl 1 (by decide) (hts _ wf_Md_7) (fun _ h9 => h9) rfl d_Md_ticks_11 ?_
    refine lv_iconst (v := (0 : Int32)) hx hb d_Md_ticks_14 (by decide) ?_
    refine xa_iald hx hb hK hP 1 0 rfl rfl (vp_lit rfl) (k := 0) rfl d_Md_ticks_15 ?_
    refine lv_iload_n hx hb d_Md_ticks_16 rfl (lv_at hl 1 rfl) ?_
    refine lv_iadd hx hb d_Md_ticks_17 ?_
    refine lv_sipush (v := (200 : Int32)) hx hb d_Md_ticks_18 (by decide) ?_
    refine lv_icmp_le (tgt := 26) hx hb d_Md_ticks_21 (by decide) (fun c8 => ?_) (fun c8 => ?_)
    · have h := h.1 c8
      refine lv_iconst (v := (0 : Int32)) hx hb d_Md_ticks_26 (by decide) ?_
      refine lv_istore_n (lv' := [(2, .int (0 : Int32)), (0, .ref h0), (1, .int a0)]) hx hb d_Md_ticks_27 rfl hl (by decide) rfl (fun ls hl => ?_)
      have hl := lv_sub (l' := [(0, .ref h0), (1, .int a0), (2, .int (0 : Int32))]) hl [1, 2, 0] rfl
      have hP : va_P G.1 CL (cw_Md G h0 q0 o0) H := hP
      have hD : va_D A (cw_Md G h0 q0 o0) := hD
      obtain ⟨w, h⟩ := h
      exact t_Md_ticks_28 Q C w a0 (0 : Int32) o0 ls _ locs hl hP hD hS h
    · have h := h.2 c8
      refine lv_iconst (v := (-1 : Int32)) hx hb d_Md_ticks_24 (by decide) ?_
      have hP : va_P G.1 CL (cw_Md G h0 q0 o0) H := hP
      have hD : va_D A (cw_Md G h0 q0 o0) := hD
      exact W.iret (v := (-1 : Int32)) hx hb hr (fun t ht hW => ⟨⟨(-1 : Int32), o0, rfl, h, by rw [ht]; exact hP, va_K.moved hW.alike hK, hD⟩, hS.F ht⟩) hS.2.2 d_Md_ticks_25
abbrev b_Md_width : ByteArray := prog_14_method_37_code
def y_Md_width : MethodName := ⟨R_Md, "width", "(I)I"⟩
abbrev w_Md_width : List Cond := Cond.code y_Md_width b_Md_width 2 (some .int) :: gw_tbl
theorem d_Md_width_0 : decode b_Md_width 0 = .ok (.aload_n 0, 1) := by decide +kernel
theorem d_Md_width_1 : decode b_Md_width 1 = .ok (.iload_n 1, 1) := by decide +kernel
theorem d_Md_width_2 : decode b_Md_width 2 = .ok (.invokevirtual 169, 3) := by decide +kernel
theorem d_Md_width_5 : decode b_Md_width 5 = .ok (.ifCond .eq 15, 3) := by decide +kernel
theorem d_Md_width_8 : decode b_Md_width 8 = .ok (.aload_n 0, 1) := by decide +kernel
theorem d_Md_width_9 : decode b_Md_width 9 = .ok (.getfield 7, 3) := by decide +kernel
theorem d_Md_width_12 : decode b_Md_width 12 = .ok (.bipush 20, 2) := by decide +kernel
theorem d_Md_width_14 : decode b_Md_width 14 = .ok (.iload_n 1, 1) := by decide +kernel
theorem d_Md_width_15 : decode b_Md_width 15 = .ok (.iadd, 1) := by decide +kernel
theorem d_Md_width_16 : decode b_Md_width 16 = .ok (.iaload, 1) := by decide +kernel
theorem d_Md_width_17 : decode b_Md_width 17 = .ok (.goto 4, 3) := by decide +kernel
theorem d_Md_width_20 : decode b_Md_width 20 = .ok (.iconst (-1), 1) := by decide +kernel
theorem d_Md_width_21 : decode b_Md_width 21 = .ok (.ireturn, 1) := by decide +kernel
def f_Md_width (a0 : Int32) (o0 : Ob) (Q : Int32 → Prop) : Prop := f_Md_isPiece a0 o0 (fun z1 => (z1 = 0 → (Q (-1 : Int32))) ∧ (¬ z1 = 0 → ((vp_in ((20 : Int32) + a0) 6100) ∧ (∀ y4 : Int32, y4 = ((gA o0 1) (((20 : Int32) + a0).toNatClampNeg)) → (Q y4)))))
abbrev rm_Md_width : Room := { frames := 2, cells := 0, slots := 0, locals := 43 }
set_option maxHeartbeats 4000000 in
set_option maxRecDepth 100000 in
theorem c_Md_width {l : Launch} {G : Gl} {h0 : Nat} {q0 : Nat → Nat} {a0 : Int32} {o0 : Ob} {Q : Int32 → Prop} (sz : Nat) (h : f_Md_width a0 o0 Q) : Met l y_Md_width w_Md_width rm_Md_width (PcW G [.ref h0, .int a0] sz (cw_Md G h0 q0 o0)) (va_Qi (fun (r : Int32) (u : Unit) => Q r) (fun (u : Unit) t => BW G (va_A (cw_Md G h0 q0 o0) sz) (cw_Md G h0 q0 o0) t) (va_A (cw_Md G h0 q0 o0) sz)) 0 0 (va_A (cw_Md G h0 q0 o0) sz) := by
  refine Met.ofW (cc := b_Md_width) (maxL := 2) (ret := (some .int)) (by decide +kernel) rfl ?_
  intro p e s m args below meth c s₁ B hml hv
  obtain ⟨rfl, hsz, hP, hK, hD0, hE⟩ := hv
  have hx := B.exec
  have hb := B.bytes
  have hr := B.returns
  have hts0 := atoms_spec (ws := w_Md_width) B.pre
  have hts : ∀ w ∈ gw_tbl, w.before ([.ref h0, .int a0]).toArray s = true := fun w hw => hts0 w (List.mem_cons_of_mem _ hw)
  have hown : s.vm.findClass R_Md = some m.cls := findClass_of_methodNamed B.named
  have hlocks := B.notSynchronized
  subst hsz
  have hD := hD0.self (sz := s.heap.size)
  generalize hAe : va_A (cw_Md G h0 q0 o0) s.heap.size = A at hD hE ⊢
  have hA : ∀ q : Nat, s.heap.size ≤ q → A q := fun q h => by rw [← hAe]; exact Or.inr h
  have hS : va_S A s.heap s.heap [] := va_S.rf
  have C : Cx p s m ([.ref h0, .int a0]).toArray meth c R_Md b_Md_width 2 (some .int) G A := ⟨hx, hb, hml, hown, hr, hts, hK, hA, hlocks, hE⟩
  have hl := lv_entry ([.ref h0, .int a0]) (n := 2) (Nat.le_of_ble_eq_true rfl)
  rw [lg_entry_eq]
  generalize (lg_sl ([.ref h0, .int a0]) ++ List.replicate (2 - (lg_sl ([.ref h0, .int a0])).length) Slot.unset).toArray = ls at hl ⊢
  have hl : lv_has ls 2 [(0, .ref h0), (1, .int a0)] := hl
  have hD : va_D A [(h0, .inr (11, [.int (gI o0 0), .ref (q0 1), .ref (q0 2), .ref (q0 3), .ref (q0 4), .ref (q0 5), .ref (q0 6), .int (gI o0 7), .int (gI o0 8), .int (gI o0 9), .int (gI o0 10), .int (gI o0 11), .int (gI o0 12), .int (gI o0 13), .int (gI o0 14), .long (gL o0 15), .int (gI o0 16), .int (gI o0 17), .int (gI o0 18), .int (gI o0 19), .int (gI o0 20), .int (gI o0 21), .int (gI o0 22), .int (gI o0 23), .int (gI o0 24), .int (gI o0 25), .int (gI o0 26), .int (gI o0 27), .ref (q0 28), .long (gL o0 29), .int (gI o0 30), .ref (q0 31), .ref (q0 32), .ref (q0 33), .int (gI o0 34), .int (gI o0 35), .int (gI o0 36), .int (gI o0 37), .ref (q0 38), .ref (q0 39), .int (gI o0 40), .ref (q0 41), .ref (q0 42), .ref (q0 43), .ref (q0 44)])), kI G (q0 1) 6100 (gA o0 1), kI G (q0 2) 6100 (gA o0 2), kJ G (q0 3) 2016 (gB o0 3), kJ G (q0 4) 2016 (gB o0 4), kI G (q0 5) 300 (gA o0 5), kI G (q0 6) 400 (gA o0 6), kJ G (q0 28) 10 (gB o0 28), kI G (q0 31) 969 (gA o0 31), kI G (q0 32) 969 (gA o0 32), kI G (q0 33) 969 (gA o0 33), kI G (q0 38) 5 (gA o0 38), kI G (q0 39) 5120 (gA o0 39), kI G (q0 41) 5 (gA o0 41), kZ G (q0 42) 1024 (gA o0 42), kI G (q0 43) 8192 (gA o0 43), kI G (q0 44) 8192 (gA o0 44)] := hD
  unfold f_Md_width at h
  suffices key : ∀ (H : Heap) (locs : List Loc), va_P G.1 CL [(h0, .inr (11, [.int (gI o0 0), .ref (q0 1), .ref (q0 2), .ref (q0 3), .ref (q0 4), .ref (q0 5), .ref (q0 6), .int (gI o0 7), .int (gI o0 8), .int (gI o0 9), .int (gI o0 10), .int (gI o0 11), .int (gI o0 12), .int (gI o0 13), .int (gI o0 14), .long (gL o0 15), .int (gI o0 16), .int (gI o0 17), .int (gI o0 18), .int (gI o0 19), .int (gI o0 20), .int (gI o0 21), .int (gI o0 22), .int (gI o0 23), .int (gI o0 24), .int (gI o0 25), .int (gI o0 26), .int (gI o0 27), .ref (q0 28), .long (gL o0 29), .int (gI o0 30), .ref (q0 31), .ref (q0 32), .ref (q0 33), .int (gI o0 34), .int (gI o0 35), .int (gI o0 36), .int (gI o0 37), .ref (q0 38), .ref (q0 39), .int (gI o0 40), .ref (q0 41), .ref (q0 42), .ref (q0 43), .ref (q0 44)])), kI G (q0 1) 6100 (gA o0 1), kI G (q0 2) 6100 (gA o0 2), kJ G (q0 3) 2016 (gB o0 3), kJ G (q0 4) 2016 (gB o0 4), kI G (q0 5) 300 (gA o0 5), kI G (q0 6) 400 (gA o0 6), kJ G (q0 28) 10 (gB o0 28), kI G (q0 31) 969 (gA o0 31), kI G (q0 32) 969 (gA o0 32), kI G (q0 33) 969 (gA o0 33), kI G (q0 38) 5 (gA o0 38), kI G (q0 39) 5120 (gA o0 39), kI G (q0 41) 5 (gA o0 41), kZ G (q0 42) 1024 (gA o0 42), kI G (q0 43) 8192 (gA o0 43), kI G (q0 44) 8192 (gA o0 44)] H → va_S A s.heap H locs → W p l e rm_Md_width s m ([.ref h0, .int a0]).toArray below meth c H locs 0 0 (MQ below (va_Qi (fun (r : Int32) (u : Unit) => Q r) (fun (u : Unit) t => BW G A (cw_Md G h0 q0 o0) t) A) ([.ref h0, .int a0]).toArray s 0 0 A) (F0 m 0 ls []) from key s.heap [] hP hS
  intro H locs hP hS
  refine lv_aload_n hx hb d_Md_width_0 rfl (lv_at hl 0 rfl) ?_
  refine lv_iload_n hx hb d_Md_width_1 rfl (lv_at hl 1 rfl) ?_
  refine cl_Vi (b := b_Md_width) (As := [.int a0]) (rest := []) (ws := [(h0, .inr (11, [.int (gI o0 0), .ref (q0 1), .ref (q0 2), .ref (q0 3), .ref (q0 4), .ref (q0 5), .ref (q0 6), .int (gI o0 7), .int (gI o0 8), .int (gI o0 9), .int (gI o0 10), .int (gI o0 11), .int (gI o0 12), .int (gI o0 13), .int (gI o0 14), .long (gL o0 15), .int (gI o0 16), .int (gI o0 17), .int (gI o0 18), .int (gI o0 19), .int (gI o0 20), .int (gI o0 21), .int (gI o0 22), .int (gI o0 23), .int (gI o0 24), .int (gI o0 25), .int (gI o0 26), .int (gI o0 27), .ref (q0 28), .long (gL o0 29), .int (gI o0 30), .ref (q0 31), .ref (q0 32), .ref (q0 33), .int (gI o0 34), .int (gI o0 35), .int (gI o0 36), .int (gI o0 37), .ref (q0 38), .ref (q0 39), .int (gI o0 40), .ref (q0 41), .ref (q0 42), .ref (q0 43), .ref (q0 44)])), kI G (q0 1) 6100 (gA o0 1), kI G (q0 2) 6100 (gA o0 2), kJ G (q0 3) 2016 (gB o0 3), kJ G (q0 4) 2016 (gB o0 4), kI G (q0 5) 300 (gA o0 5), kI G (q0 6) 400 (gA o0 6), kJ G (q0 28) 10 (gB o0 28), kI G (q0 31) 969 (gA o0 31), kI G (q0 32) 969 (gA o0 32), kI G (q0 33) 969 (gA o0 33), kI G (q0 38) 5 (gA o0 38), kI G (q0 39) 5120 (gA o0 39), kI G (q0 41) 5 (gA o0 41), kZ G (q0 42) 1024 (gA o0 42), kI G (q0 43) 8192 (gA o0 43), kI G (q0 44) 8192 (gA o0 44)]) (wr := []) (w2 := fun (u : Unit) => [(h0, .inr (11, [.int (gI o0 0), .ref (q0 1), .ref (q0 2), .ref (q0 3), .ref (q0 4), .ref (q0 5), .ref (q0 6), .int (gI o0 7), .int (gI o0 8), .int (gI o0 9), .int (gI o0 10), .int (gI o0 11), .int (gI o0 12), .int (gI o0 13), .int (gI o0 14), .long (gL o0 15), .int (gI o0 16), .int (gI o0 17), .int (gI o0 18), .int (gI o0 19), .int (gI o0 20), .int (gI o0 21), .int (gI o0 22), .int (gI o0 23), .int (gI o0 24), .int (gI o0 25), .int (gI o0 26), .int (gI o0 27), .ref (q0 28), .long (gL o0 29), .int (gI o0 30), .ref (q0 31), .ref (q0 32), .ref (q0 33), .int (gI o0 34), .int (gI o0 35), .int (gI o0 36), .int (gI o0 37), .ref (q0 38), .ref (q0 39), .int (gI o0 40), .ref (q0 41), .ref (q0 42), .ref (q0 43), .ref (q0 44)])), kI G (q0 1) 6100 (gA o0 1), kI G (q0 2) 6100 (gA o0 2), kJ G (q0 3) 2016 (gB o0 3), kJ G (q0 4) 2016 (gB o0 4), kI G (q0 5) 300 (gA o0 5), kI G (q0 6) 400 (gA o0 6), kJ G (q0 28) 10 (gB o0 28), kI G (q0 31) 969 (gA o0 31), kI G (q0 32) 969 (gA o0 32), kI G (q0 33) 969 (gA o0 33), kI G (q0 38) 5 (gA o0 38), kI G (q0 39) 5120 (gA o0 39), kI G (q0 41) 5 (gA o0 41), kZ G (q0 42) 1024 (gA o0 42), kI G (q0 43) 8192 (gA o0 43), kI G (q0 44) 8192 (gA o0 44)]) C (c_Md_isPiece (h0 := h0) (q0 := q0) H.size h) wv_Md_169 ⟨Nat.le_of_ble_eq_true rfl, Nat.le_of_ble_eq_true rfl⟩ hP hD hS 0 rfl rfl [0, 1, 2, 3, 4, 5, 6, 7, 8, 9, 10, 11, 12, 13, 14, 15, 16] [] rfl rfl (by decide) (by decide) (by decide) [0, 1, 2, 3, 4, 5, 6, 7, 8, 9, 10, 11, 12, 13, 14, 15, 16] (by decide) (fun u => rfl) rfl hl.1 rfl (lv_room (Nat.le_of_ble_eq_true rfl)) d_Md_width_2 ⟨Nat.le_of_ble_eq_true rfl, Nat.le_of_ble_eq_true rfl⟩ rfl rfl (fun z1 u H locs h hP hD hS => ?_)
  have hP : va_P G.1 CL [(h0, .inr (11, [.int (gI o0 0), .ref (q0 1), .ref (q0 2), .ref (q0 3), .ref (q0 4), .ref (q0 5), .ref (q0 6), .int (gI o0 7), .int (gI o0 8), .int (gI o0 9), .int (gI o0 10), .int (gI o0 11), .int (gI o0 12), .int (gI o0 13), .int (gI o0 14), .long (gL o0 15), .int (gI o0 16), .int (gI o0 17), .int (gI o0 18), .int (gI o0 19), .int (gI o0 20), .int (gI o0 21), .int (gI o0 22), .int (gI o0 23), .int (gI o0 24), .int (gI o0 25), .int (gI o0 26), .int (gI o0 27), .ref (q0 28), .long (gL o0 29), .int (gI o0 30), .ref (q0 31), .ref (q0 32), .ref (q0 33), .int (gI o0 34), .int (gI o0 35), .int (gI o0 36), .int (gI o0 37), .ref (q0 38), .ref (q0 39), .int (gI o0 40), .ref (q0 41), .ref (q0 42), .ref (q0 43), .ref (q0 44)])), kI G (q0 1) 6100 (gA o0 1), kI G (q0 2) 6100 (gA o0 2), kJ G (q0 3) 2016 (gB o0 3), kJ G (q0 4) 2016 (gB o0 4), kI G (q0 5) 300 (gA o0 5), kI G (q0 6) 400 (gA o0 6), kJ G (q0 28) 10 (gB o0 28), kI G (q0 31) 969 (gA o0 31), kI G (q0 32) 969 (gA o0 32), kI G (q0 33) 969 (gA o0 33), kI G (q0 38) 5 (gA o0 38), kI G (q0 39) 5120 (gA o0 39), kI G (q0 41) 5 (gA o0 41), kZ G (q0 42) 1024 (gA o0 42), kI G (q0 43) 8192 (gA o0 43), kI G (q0 44) 8192 (gA o0 44)] H := hP
  have hD : va_D A [(h0, .inr (11, [.int (gI o0 0), .ref (q0 1), .ref (q0 2), .ref (q0 3), .ref (q0 4), .ref (q0 5), .ref (q0 6), .int (gI o0 7), .int (gI o0 8), .int (gI o0 9), .int (gI o0 10), .int (gI o0 11), .int (gI o0 12), .int (gI o0 13), .int (gI o0 14), .long (gL o0 15), .int (gI o0 16), .int (gI o0 17), .int (gI o0 18), .int (gI o0 19), .int (gI o0 20), .int (gI o0 21), .int (gI o0 22), .int (gI o0 23), .int (gI o0 24), .int (gI o0 25), .int (gI o0 26), .int (gI o0 27), .ref (q0 28), .long (gL o0 29), .int (gI o0 30), .ref (q0 31), .ref (q0 32), .ref (q0 33), .int (gI o0 34), .int (gI o0 35), .int (gI o0 36), .int (gI o0 37), .ref (q0 38), .ref (q0 39), .int (gI o0 40), .ref (q0 41), .ref (q0 42), .ref (q0 43), .ref (q0 44)])), kI G (q0 1) 6100 (gA o0 1), kI G (q0 2) 6100 (gA o0 2), kJ G (q0 3) 2016 (gB o0 3), kJ G (q0 4) 2016 (gB o0 4), kI G (q0 5) 300 (gA o0 5), kI G (q0 6) 400 (gA o0 6), kJ G (q0 28) 10 (gB o0 28), kI G (q0 31) 969 (gA o0 31), kI G (q0 32) 969 (gA o0 32), kI G (q0 33) 969 (gA o0 33), kI G (q0 38) 5 (gA o0 38), kI G (q0 39) 5120 (gA o0 39), kI G (q0 41) 5 (gA o0 41), kZ G (q0 42) 1024 (gA o0 42), kI G (q0 43) 8192 (gA o0 43), kI G (q0 44) 8192 (gA o0 44)] := hD
  refine lv_if_eq (tgt := 20) hx hb d_Md_width_5 (by decide) (fun c2 => ?_) (fun c2 => ?_)
  · have h := h.1 c2
    refine lv_iconst (v := (-1 : Int32)) hx hb d_Md_width_20 (by decide) ?_
    have hP : va_P G.1 CL (cw_Md G h0 q0 o0) H := hP
    have hD : va_D A (cw_Md G h0 q0 o0) := hD
    exact W.iret (v := (-1 : Int32)) hx hb hr (fun t ht hW => ⟨⟨(-1 : Int32), (), rfl, h, by rw [ht]; exact hP, va_K.moved hW.alike hK, hD⟩, hS.F ht⟩) hS.2.2 d_Md_width_21
  · have h := h.2 c2
    refine lv_aload_n hx hb d_Md_width_8 rfl (lv_at hl 0 rfl) ?_
    refine va_get (D := G.1) (ci := 11) (v := .ref (q0 1)) (C := R_Md) (T := T_Md) (N := 45) hx hb hts i_Md hown hK hP 0 rfl rfl 1 (by decide) (hts _ wf_Md_7) (fun _ h9 => h9) rfl d_Md_width_9 ?_
    refine lv_bipush (v := (20 : Int32)) hx hb d_Md_width_12 (by decide) ?_
    refine lv_iload_n hx hb d_Md_width_14 rfl (lv_at hl 1 rfl) ?_
    refine lv_iadd hx hb d_Md_width_15 ?_
    have g3 := h.1
    have h := h.2
    refine xa_iald hx hb hK hP 1 0 rfl rfl g3 (k := ((20 : Int32) + a0).toNatClampNeg) rfl d_Md_width_16 ?_
    refine lv_topi (fun y4 ey4 => ?_)
    have h := h y4 ey4
    refine lv_goto (tgt := 21) hx hb d_Md_width_17 (by decide) ?_
    have hP : va_P G.1 CL (cw_Md G h0 q0 o0) H := hP
    have hD : va_D A (cw_Md G h0 q0 o0) := hD
    exact W.iret (v := y4) hx hb hr (fun t ht hW => ⟨⟨y4, (), rfl, h, by rw [ht]; exact hP, va_K.moved hW.alike hK, hD⟩, hS.F ht⟩) hS.2.2 d_Md_width_21
abbrev b_Md_led : ByteArray := prog_14_method_38_code
def y_Md_led : MethodName := ⟨R_Md, "led", "(III)I"⟩
abbrev w_Md_led : List Cond := Cond.code y_Md_led b_Md_led 4 (some .int) :: gw_tbl
theorem d_Md_led_0 : decode b_Md_led 0 = .ok (.iload_n 1, 1) := by decide +kernel
theorem d_Md_led_1 : decode b_Md_led 1 = .ok (.iconst 0, 1) := by decide +kernel
theorem d_Md_led_2 : decode b_Md_led 2 = .ok (.aload_n 0, 1) := by decide +kernel
theorem d_Md_led_3 : decode b_Md_led 3 = .ok (.getfield 7, 3) := by decide +kernel
theorem d_Md_led_6 : decode b_Md_led 6 = .ok (.iconst 0, 1) := by decide +kernel
theorem d_Md_led_7 : decode b_Md_led 7 = .ok (.iaload, 1) := by decide +kernel
theorem d_Md_led_8 : decode b_Md_led 8 = .ok (.iconst 1, 1) := by decide +kernel
theorem d_Md_led_9 : decode b_Md_led 9 = .ok (.isub, 1) := by decide +kernel
theorem d_Md_led_10 : decode b_Md_led 10 = .ok (.invokestatic 76, 3) := by decide +kernel
theorem d_Md_led_13 : decode b_Md_led 13 = .ok (.ifCond .eq 42, 3) := by decide +kernel
theorem d_Md_led_16 : decode b_Md_led 16 = .ok (.aload_n 0, 1) := by decide +kernel
theorem d_Md_led_17 : decode b_Md_led 17 = .ok (.iload_n 2, 1) := by decide +kernel
theorem d_Md_led_18 : decode b_Md_led 18 = .ok (.invokevirtual 169, 3) := by decide +kernel
theorem d_Md_led_21 : decode b_Md_led 21 = .ok (.ifCond .eq 34, 3) := by decide +kernel
theorem d_Md_led_24 : decode b_Md_led 24 = .ok (.iload_n 3, 1) := by decide +kernel
theorem d_Md_led_25 : decode b_Md_led 25 = .ok (.iconst 0, 1) := by decide +kernel
theorem d_Md_led_26 : decode b_Md_led 26 = .ok (.iconst 4, 1) := by decide +kernel
theorem d_Md_led_27 : decode b_Md_led 27 = .ok (.invokestatic 76, 3) := by decide +kernel
theorem d_Md_led_30 : decode b_Md_led 30 = .ok (.ifCond .eq 25, 3) := by decide +kernel
theorem d_Md_led_33 : decode b_Md_led 33 = .ok (.aload_n 0, 1) := by decide +kernel
theorem d_Md_led_34 : decode b_Md_led 34 = .ok (.getfield 7, 3) := by decide +kernel
theorem d_Md_led_37 : decode b_Md_led 37 = .ok (.sipush 520, 3) := by decide +kernel
theorem d_Md_led_40 : decode b_Md_led 40 = .ok (.bipush 25, 2) := by decide +kernel
theorem d_Md_led_42 : decode b_Md_led 42 = .ok (.iload_n 1, 1) := by decide +kernel
theorem d_Md_led_43 : decode b_Md_led 43 = .ok (.imul, 1) := by decide +kernel
theorem d_Md_led_44 : decode b_Md_led 44 = .ok (.iadd, 1) := by decide +kernel
theorem d_Md_led_45 : decode b_Md_led 45 = .ok (.iconst 5, 1) := by decide +kernel
theorem d_Md_led_46 : decode b_Md_led 46 = .ok (.iload_n 2, 1) := by decide +kernel
theorem d_Md_led_47 : decode b_Md_led 47 = .ok (.imul, 1) := by decide +kernel
theorem d_Md_led_48 : decode b_Md_led 48 = .ok (.iadd, 1) := by decide +kernel
theorem d_Md_led_49 : decode b_Md_led 49 = .ok (.iload_n 3, 1) := by decide +kernel
theorem d_Md_led_50 : decode b_Md_led 50 = .ok (.iadd, 1) := by decide +kernel
theorem d_Md_led_51 : decode b_Md_led 51 = .ok (.iaload, 1) := by decide +kernel
theorem d_Md_led_52 : decode b_Md_led 52 = .ok (.goto 4, 3) := by decide +kernel
theorem d_Md_led_55 : decode b_Md_led 55 = .ok (.iconst (-1), 1) := by decide +kernel
theorem d_Md_led_56 : decode b_Md_led 56 = .ok (.ireturn, 1) := by decide +kernel
def f_Md_led (a0 : Int32) (a1 : Int32) (a2 : Int32) (o0 : Ob) (Q : Int32 → Prop) : Prop := f_Md_isIn a0 (0 : Int32) (((gA o0 1) 0) - (1 : Int32)) (fun z1 => (z1 = 0 → (Q (-1 : Int32))) ∧ (¬ z1 = 0 → (f_Md_isPiece a1 o0 (fun z3 => (z3 = 0 → (Q (-1 : Int32))) ∧ (¬ z3 = 0 → (f_Md_isIn a2 (0 : Int32) (4 : Int32) (fun z5 => (z5 = 0 → (Q (-1 : Int32))) ∧ (¬ z5 = 0 → (∀ y7 : Int32, y7 = (((520 : Int32) + ((25 : Int32) * a0)) + ((5 : Int32) * a1)) → ((vp_in (y7 + a2) 6100) ∧ (Q ((gA o0 1) ((y7 + a2).toNatClampNeg)))))))))))))
abbrev rm_Md_led : Room := { frames := 2, cells := 0, slots := 0, locals := 43 }
set_option maxHeartbeats 4000000 in
set_option maxRecDepth 100000 in
theorem c_Md_led {l : Launch} {G : Gl} {h0 : Nat} {q0 : Nat → Nat} {a0 : Int32} {a1 : Int32} {a2 : Int32} {o0 : Ob} {Q : Int32 → Prop} (sz : Nat) (h : f_Md_led a0 a1 a2 o0 Q) : Met l y_Md_led w_Md_led rm_Md_led (PcW G [.ref h0, .int a0, .int a1, .int a2] sz (cw_Md G h0 q0 o0)) (va_Qi (fun (r : Int32) (u : Unit) => Q r) (fun (u : Unit) t => BW G (va_A (cw_Md G h0 q0 o0) sz) (cw_Md G h0 q0 o0) t) (va_A (cw_Md G h0 q0 o0) sz)) 0 0 (va_A (cw_Md G h0 q0 o0) sz) := by
  refine Met.ofW (cc := b_Md_led) (maxL := 4) (ret := (some .int)) (by decide +kernel) rfl ?_
  intro p e s m args below meth c s₁ B hml hv
  obtain ⟨rfl, hsz, hP, hK, hD0, hE⟩ := hv
  have hx := B.exec
  have hb := B.bytes
  have hr := B.returns
  have hts0 := atoms_spec (ws := w_Md_led) B.pre
  have hts : ∀ w ∈ gw_tbl, w.before ([.ref h0, .int a0, .int a1, .int a2]).toArray s = true := fun w hw => hts0 w (List.mem_cons_of_mem _ hw)
  have hown : s.vm.findClass R_Md = some m.cls := findClass_of_methodNamed B.named
  have hlocks := B.notSynchronized
  subst hsz
  have hD := hD0.self (sz := s.heap.size)
  generalize hAe : va_A (cw_Md G h0 q0 o0) s.heap.size = A at hD hE ⊢
  have hA : ∀ q : Nat, s.heap.size ≤ q → A q := fun q h => by rw [← hAe]; exact Or.inr h
  have hS : va_S A s.heap s.heap [] := va_S.rf
  have C : Cx p s m ([.ref h0, .int a0, .int a1, .int a2]).toArray meth c R_Md b_Md_led 4 (some .int) G A := ⟨hx, hb, hml, hown, hr, hts, hK, hA, hlocks, hE⟩
  have hl := lv_entry ([.ref h0, .int a0, .int a1, .int a2]) (n := 4) (Nat.le_of_ble_eq_true rfl)
  rw [lg_entry_eq]
  generalize (lg_sl ([.ref h0, .int a0, .int a1, .int a2]) ++ List.replicate (4 - (lg_sl ([.ref h0, .int a0, .int a1, .int a2])).length) Slot.unset).toArray = ls at hl ⊢
  have hl : lv_has ls 4 [(0, .ref h0), (1, .int a0), (2, .int a1), (3, .int a2)] := hl
  have hD : va_D A [(h0, .inr (11, [.int (gI o0 0), .ref (q0 1), .ref (q0 2), .ref (q0 3), .ref (q0 4), .ref (q0 5), .ref (q0 6), .int (gI o0 7), .int (gI o0 8), .int (gI o0 9), .int (gI o0 10), .int (gI o0 11), .int (gI o0 12), .int (gI o0 13), .int (gI o0 14), .long (gL o0 15), .int (gI o0 16), .int (gI o0 17), .int (gI o0 18), .int (gI o0 19), .int (gI o0 20), .int (gI o0 21), .int (gI o0 22), .int (gI o0 23), .int (gI o0 24), .int (gI o0 25), .int (gI o0 26), .int (gI o0 27), .ref (q0 28), .long (gL o0 29), .int (gI o0 30), .ref (q0 31), .ref (q0 32), .ref (q0 33), .int (gI o0 34), .int (gI o0 35), .int (gI o0 36), .int (gI o0 37), .ref (q0 38), .ref (q0 39), .int (gI o0 40), .ref (q0 41), .ref (q0 42), .ref (q0 43), .ref (q0 44)])), kI G (q0 1) 6100 (gA o0 1), kI G (q0 2) 6100 (gA o0 2), kJ G (q0 3) 2016 (gB o0 3), kJ G (q0 4) 2016 (gB o0 4), kI G (q0 5) 300 (gA o0 5), kI G (q0 6) 400 (gA o0 6), kJ G (q0 28) 10 (gB o0 28), kI G (q0 31) 969 (gA o0 31), kI G (q0 32) 969 (gA o0 32), kI G (q0 33) 969 (gA o0 33), kI G (q0 38) 5 (gA o0 38), kI G (q0 39) 5120 (gA o0 39), kI G (q0 41) 5 (gA o0 41), kZ G (q0 42) 1024 (gA o0 42), kI G (q0 43) 8192 (gA o0 43), kI G (q0 44) 8192 (gA o0 44)] := hD
  unfold f_Md_led at h
  suffices key : ∀ (H : Heap) (locs : List Loc), va_P G.1 CL [(h0, .inr (11, [.int (gI o0 0), .ref (q0 1), .ref (q0 2), .ref (q0 3), .ref (q0 4), .ref (q0 5), .ref (q0 6), .int (gI o0 7), .int (gI o0 8), .int (gI o0 9), .int (gI o0 10), .int (gI o0 11), .int (gI o0 12), .int (gI o0 13), .int (gI o0 14), .long (gL o0 15), .int (gI o0 16), .int (gI o0 17), .int (gI o0 18), .int (gI o0 19), .int (gI o0 20), .int (gI o0 21), .int (gI o0 22), .int (gI o0 23), .int (gI o0 24), .int (gI o0 25), .int (gI o0 26), .int (gI o0 27), .ref (q0 28), .long (gL o0 29), .int (gI o0 30), .ref (q0 31), .ref (q0 32), .ref (q0 33), .int (gI o0 34), .int (gI o0 35), .int (gI o0 36), .int (gI o0 37), .ref (q0 38), .ref (q0 39), .int (gI o0 40), .ref (q0 41), .ref (q0 42), .ref (q0 43), .ref (q0 44)])), kI G (q0 1) 6100 (gA o0 1), kI G (q0 2) 6100 (gA o0 2), kJ G (q0 3) 2016 (gB o0 3), kJ G (q0 4) 2016 (gB o0 4), kI G (q0 5) 300 (gA o0 5), kI G (q0 6) 400 (gA o0 6), kJ G (q0 28) 10 (gB o0 28), kI G (q0 31) 969 (gA o0 31), kI G (q0 32) 969 (gA o0 32), kI G (q0 33) 969 (gA o0 33), kI G (q0 38) 5 (gA o0 38), kI G (q0 39) 5120 (gA o0 39), kI G (q0 41) 5 (gA o0 41), kZ G (q0 42) 1024 (gA o0 42), kI G (q0 43) 8192 (gA o0 43), kI G (q0 44) 8192 (gA o0 44)] H → va_S A s.heap H locs → W p l e rm_Md_led s m ([.ref h0, .int a0, .int a1, .int a2]).toArray below meth c H locs 0 0 (MQ below (va_Qi (fun (r : Int32) (u : Unit) => Q r) (fun (u : Unit) t => BW G A (cw_Md G h0 q0 o0) t) A) ([.ref h0, .int a0, .int a1, .int a2]).toArray s 0 0 A) (F0 m 0 ls []) from key s.heap [] hP hS
  intro H locs hP hS
  refine lv_iload_n hx hb d_Md_led_0 rfl (lv_at hl 1 rfl) ?_
  refine lv_iconst (v := (0 : Int32)) hx hb d_Md_led_1 (by decide) ?_
  refine lv_aload_n hx hb d_Md_led_2 rfl (lv_at hl 0 rfl) ?_
  refine va_get (D := G.1) (ci := 11) (v := .ref (q0 1)) (C := R_Md) (T := T_Md) (N := 45) hx hb hts i_Md hown hK hP 0 rfl rfl 1 (by decide) (hts _ wf_Md_7) (fun _ h9 => h9) rfl d_Md_led_3 ?_
  refine lv_iconst (v := (0 : Int32)) hx hb d_Md_led_6 (by decide) ?_
  refine xa_iald hx hb hK hP 1 0 rfl rfl (vp_lit rfl) (k := 0) rfl d_Md_led_7 ?_
  refine lv_iconst (v := (1 : Int32)) hx hb d_Md_led_8 (by decide) ?_
  refine lv_isub hx hb d_Md_led_9 ?_
  refine cl_Si (b := b_Md_led) (As := [.int a0, .int (0 : Int32), .int (((gA o0 1) 0) - (1 : Int32))]) (rest := []) (ws := [(h0, .inr (11, [.int (gI o0 0), .ref (q0 1), .ref (q0 2), .ref (q0 3), .ref (q0 4), .ref (q0 5), .ref (q0 6), .int (gI o0 7), .int (gI o0 8), .int (gI o0 9), .int (gI o0 10), .int (gI o0 11), .int (gI o0 12), .int (gI o0 13), .int (gI o0 14), .long (gL o0 15), .int (gI o0 16), .int (gI o0 17), .int (gI o0 18), .int (gI o0 19), .int (gI o0 20), .int (gI o0 21), .int (gI o0 22), .int (gI o0 23), .int (gI o0 24), .int (gI o0 25), .int (gI o0 26), .int (gI o0 27), .ref (q0 28), .long (gL o0 29), .int (gI o0 30), .ref (q0 31), .ref (q0 32), .ref (q0 33), .int (gI o0 34), .int (gI o0 35), .int (gI o0 36), .int (gI o0 37), .ref (q0 38), .ref (q0 39), .int (gI o0 40), .ref (q0 41), .ref (q0 42), .ref (q0 43), .ref (q0 44)])), kI G (q0 1) 6100 (gA o0 1), kI G (q0 2) 6100 (gA o0 2), kJ G (q0 3) 2016 (gB o0 3), kJ G (q0 4) 2016 (gB o0 4), kI G (q0 5) 300 (gA o0 5), kI G (q0 6) 400 (gA o0 6), kJ G (q0 28) 10 (gB o0 28), kI G (q0 31) 969 (gA o0 31), kI G (q0 32) 969 (gA o0 32), kI G (q0 33) 969 (gA o0 33), kI G (q0 38) 5 (gA o0 38), kI G (q0 39) 5120 (gA o0 39), kI G (q0 41) 5 (gA o0 41), kZ G (q0 42) 1024 (gA o0 42), kI G (q0 43) 8192 (gA o0 43), kI G (q0 44) 8192 (gA o0 44)]) (wr := [(h0, .inr (11, [.int (gI o0 0), .ref (q0 1), .ref (q0 2), .ref (q0 3), .ref (q0 4), .ref (q0 5), .ref (q0 6), .int (gI o0 7), .int (gI o0 8), .int (gI o0 9), .int (gI o0 10), .int (gI o0 11), .int (gI o0 12), .int (gI o0 13), .int (gI o0 14), .long (gL o0 15), .int (gI o0 16), .int (gI o0 17), .int (gI o0 18), .int (gI o0 19), .int (gI o0 20), .int (gI o0 21), .int (gI o0 22), .int (gI o0 23), .int (gI o0 24), .int (gI o0 25), .int (gI o0 26), .int (gI o0 27), .ref (q0 28), .long (gL o0 29), .int (gI o0 30), .ref (q0 31), .ref (q0 32), .ref (q0 33), .int (gI o0 34), .int (gI o0 35), .int (gI o0 36), .int (gI o0 37), .ref (q0 38), .ref (q0 39), .int (gI o0 40), .ref (q0 41), .ref (q0 42), .ref (q0 43), .ref (q0 44)])), kI G (q0 1) 6100 (gA o0 1), kI G (q0 2) 6100 (gA o0 2), kJ G (q0 3) 2016 (gB o0 3), kJ G (q0 4) 2016 (gB o0 4), kI G (q0 5) 300 (gA o0 5), kI G (q0 6) 400 (gA o0 6), kJ G (q0 28) 10 (gB o0 28), kI G (q0 31) 969 (gA o0 31), kI G (q0 32) 969 (gA o0 32), kI G (q0 33) 969 (gA o0 33), kI G (q0 38) 5 (gA o0 38), kI G (q0 39) 5120 (gA o0 39), kI G (q0 41) 5 (gA o0 41), kZ G (q0 42) 1024 (gA o0 42), kI G (q0 43) 8192 (gA o0 43), kI G (q0 44) 8192 (gA o0 44)]) (w2 := fun (u : Unit) => [(h0, .inr (11, [.int (gI o0 0), .ref (q0 1), .ref (q0 2), .ref (q0 3), .ref (q0 4), .ref (q0 5), .ref (q0 6), .int (gI o0 7), .int (gI o0 8), .int (gI o0 9), .int (gI o0 10), .int (gI o0 11), .int (gI o0 12), .int (gI o0 13), .int (gI o0 14), .long (gL o0 15), .int (gI o0 16), .int (gI o0 17), .int (gI o0 18), .int (gI o0 19), .int (gI o0 20), .int (gI o0 21), .int (gI o0 22), .int (gI o0 23), .int (gI o0 24), .int (gI o0 25), .int (gI o0 26), .int (gI o0 27), .ref (q0 28), .long (gL o0 29), .int (gI o0 30), .ref (q0 31), .ref (q0 32), .ref (q0 33), .int (gI o0 34), .int (gI o0 35), .int (gI o0 36), .int (gI o0 37), .ref (q0 38), .ref (q0 39), .int (gI o0 40), .ref (q0 41), .ref (q0 42), .ref (q0 43), .ref (q0 44)])), kI G (q0 1) 6100 (gA o0 1), kI G (q0 2) 6100 (gA o0 2), kJ G (q0 3) 2016 (gB o0 3), kJ G (q0 4) 2016 (gB o0 4), kI G (q0 5) 300 (gA o0 5), kI G (q0 6) 400 (gA o0 6), kJ G (q0 28) 10 (gB o0 28), kI G (q0 31) 969 (gA o0 31), kI G (q0 32) 969 (gA o0 32), kI G (q0 33) 969 (gA o0 33), kI G (q0 38) 5 (gA o0 38), kI G (q0 39) 5120 (gA o0 39), kI G (q0 41) 5 (gA o0 41), kZ G (q0 42) 1024 (gA o0 42), kI G (q0 43) 8192 (gA o0 43), kI G (q0 44) 8192 (gA o0 44)]) C (c_Md_isIn H.size h) ws_Md_76 ⟨Nat.le_of_ble_eq_true rfl, Nat.le_of_ble_eq_true rfl⟩ hP hD hS [] [0, 1, 2, 3, 4, 5, 6, 7, 8, 9, 10, 11, 12, 13, 14, 15, 16] rfl rfl (by decide) (by decide) (by decide) [0, 1, 2, 3, 4, 5, 6, 7, 8, 9, 10, 11, 12, 13, 14, 15, 16] (by decide) (fun u => rfl) rfl hl.1 rfl (lv_room (Nat.le_of_ble_eq_true rfl)) d_Md_led_10 ⟨Nat.le_of_ble_eq_true rfl, Nat.le_of_ble_eq_true rfl⟩ rfl rfl (fun z1 u H locs h hP hD hS => ?_)
  have hP : va_P G.1 CL [(h0, .inr (11, [.int (gI o0 0), .ref (q0 1), .ref (q0 2), .ref (q0 3), .ref (q0 4), .ref (q0 5), .ref (q0 6), .int (gI o0 7), .int (gI o0 8), .int (gI o0 9), .int (gI o0 10), .int (gI o0 11), .int (gI o0 12), .int (gI o0 13), .int (gI o0 14), .long (gL o0 15), .int (gI o0 16), .int (gI o0 17), .int (gI o0 18), .int (gI o0 19), .int (gI o0 20), .int (gI o0 21), .int (gI o0 22), .int (gI o0 23), .int (gI o0 24), .int (gI o0 25), .int (gI o0 26), .int (gI o0 27), .ref (q0 28), .long (gL o0 29), .int (gI o0 30), .ref (q0 31), .ref (q0 32), .ref (q0 33), .int (gI o0 34), .int (gI o0 35), .int (gI o0 36), .int (gI o0 37), .ref (q0 38), .ref (q0 39), .int (gI o0 40), .ref (q0 41), .ref (q0 42), .ref (q0 43), .ref (q0 44)])), kI G (q0 1) 6100 (gA o0 1), kI G (q0 2) 6100 (gA o0 2), kJ G (q0 3) 2016 (gB o0 3), kJ G (q0 4) 2016 (gB o0 4), kI G (q0 5) 300 (gA o0 5), kI G (q0 6) 400 (gA o0 6), kJ G (q0 28) 10 (gB o0 28), kI G (q0 31) 969 (gA o0 31), kI G (q0 32) 969 (gA o0 32), kI G (q0 33) 969 (gA o0 33), kI G (q0 38) 5 (gA o0 38), kI G (q0 39) 5120 (gA o0 39), kI G (q0 41) 5 (gA o0 41), kZ G (q0 42) 1024 (gA o0 42), kI G (q0 43) 8192 (gA o0 43), kI G (q0 44) 8192 (gA o0 44)] H := hP
  have hD : va_D A [(h0, .inr (11, [.int (gI o0 0), .ref (q0 1), .ref (q0 2), .ref (q0 3), .ref (q0 4), .ref (q0 5), .ref (q0 6), .int (gI o0 7), .int (gI o0 8), .int (gI o0 9), .int (gI o0 10), .int (gI o0 11), .int (gI o0 12), .int (gI o0 13), .int (gI o0 14), .long (gL o0 15), .int (gI o0 16), .int (gI o0 17), .int (gI o0 18), .int (gI o0 19), .int (gI o0 20), .int (gI o0 21), .int (gI o0 22), .int (gI o0 23), .int (gI o0 24), .int (gI o0 25), .int (gI o0 26), .int (gI o0 27), .ref (q0 28), .long (gL o0 29), .int (gI o0 30), .ref (q0 31), .ref (q0 32), .ref (q0 33), .int (gI o0 34), .int (gI o0 35), .int (gI o0 36), .int (gI o0 37), .ref (q0 38), .ref (q0 39), .int (gI o0 40), .ref (q0 41), .ref (q0 42), .ref (q0 43), .ref (q0 44)])), kI G (q0 1) 6100 (gA o0 1), kI G (q0 2) 6100 (gA o0 2), kJ G (q0 3) 2016 (gB o0 3), kJ G (q0 4) 2016 (gB o0 4), kI G (q0 5) 300 (gA o0 5), kI G (q0 6) 400 (gA o0 6), kJ G (q0 28) 10 (gB o0 28), kI G (q0 31) 969 (gA o0 31), kI G (q0 32) 969 (gA o0 32), kI G (q0 33) 969 (gA o0 33), kI G (q0 38) 5 (gA o0 38), kI G (q0 39) 5120 (gA o0 39), kI G (q0 41) 5 (gA o0 41), kZ G (q0 42) 1024 (gA o0 42), kI G (q0 43) 8192 (gA o0 43), kI G (q0 44) 8192 (gA o0 44)] := hD
  refine lv_if_eq (tgt := 55) hx hb d_Md_led_13 (by decide) (fun c2 => ?_) (fun c2 => ?_)
  · have h := h.1 c2
    refine lv_iconst (v := (-1 : Int32)) hx hb d_Md_led_55 (by decide) ?_
    have hP : va_P G.1 CL (cw_Md G h0 q0 o0) H := hP
    have hD : va_D A (cw_Md G h0 q0 o0) := hD
    exact W.iret (v := (-1 : Int32)) hx hb hr (fun t ht hW => ⟨⟨(-1 : Int32), (), rfl, h, by rw [ht]; exact hP, va_K.moved hW.alike hK, hD⟩, hS.F ht⟩) hS.2.2 d_Md_led_56
  · have h := h.2 c2
    refine lv_aload_n hx hb d_Md_led_16 rfl (lv_at hl 0 rfl) ?_
    refine lv_iload_n hx hb d_Md_led_17 rfl (lv_at hl 2 rfl) ?_
    refine cl_Vi (b := b_Md_led) (As := [.int a1]) (rest := []) (ws := [(h0, .inr (11, [.int (gI o0 0), .ref (q0 1), .ref (q0 2), .ref (q0 3), .ref (q0 4), .ref (q0 5), .ref (q0 6), .int (gI o0 7), .int (gI o0 8), .int (gI o0 9), .int (gI o0 10), .int (gI o0 11), .int (gI o0 12), .int (gI o0 13), .int (gI o0 14), .long (gL o0 15), .int (gI o0 16), .int (gI o0 17), .int (gI o0 18), .int (gI o0 19), .int (gI o0 20), .int (gI o0 21), .int (gI o0 22), .int (gI o0 23), .int (gI o0 24), .int (gI o0 25), .int (gI o0 26), .int (gI o0 27), .ref (q0 28), .long (gL o0 29), .int (gI o0 30), .ref (q0 31), .ref (q0 32), .ref (q0 33), .int (gI o0 34), .int (gI o0 35), .int (gI o0 36), .int (gI o0 37), .ref (q0 38), .ref (q0 39), .int (gI o0 40), .ref (q0 41), .ref (q0 42), .ref (q0 43), .ref (q0 44)])), kI G (q0 1) 6100 (gA o0 1), kI G (q0 2) 6100 (gA o0 2), kJ G (q0 3) 2016 (gB o0 3), kJ G (q0 4) 2016 (gB o0 4), kI G (q0 5) 300 (gA o0 5), kI G (q0 6) 400 (gA o0 6), kJ G (q0 28) 10 (gB o0 28), kI G (q0 31) 969 (gA o0 31), kI G (q0 32) 969 (gA o0 32), kI G (q0 33) 969 (gA o0 33), kI G (q0 38) 5 (gA o0 38), kI G (q0 39) 5120 (gA o0 39), kI G (q0 41) 5 (gA o0 41), kZ G (q0 42) 1024 (gA o0 42), kI G (q0 43) 8192 (gA o0 43), kI G (q0 44) 8192 (gA o0 44)]) (wr := []) (w2 := fun (u : Unit) => [(h0, .inr (11, [.int (gI o0 0), .ref (q0 1), .ref (q0 2), .ref (q0 3), .ref (q0 4), .ref (q0 5), .ref (q0 6), .int (gI o0 7), .int (gI o0 8), .int (gI o0 9), .int (gI o0 10), .int (gI o0 11), .int (gI o0 12), .int (gI o0 13), .int (gI o0 14), .long (gL o0 15), .int (gI o0 16), .int (gI o0 17), .int (gI o0 18), .int (gI o0 19), .int (gI o0 20), .int (gI o0 21), .int (gI o0 22), .int (gI o0 23), .int (gI o0 24), .int (gI o0 25), .int (gI o0 26), .int (gI o0 27), .ref (q0 28), .long (gL o0 29), .int (gI o0 30), .ref (q0 31), .ref (q0 32), .ref (q0 33), .int (gI o0 34), .int (gI o0 35), .int (gI o0 36), .int (gI o0 37), .ref (q0 38), .ref (q0 39), .int (gI o0 40), .ref (q0 41), .ref (q0 42), .ref (q0 43), .ref (q0 44)])), kI G (q0 1) 6100 (gA o0 1), kI G (q0 2) 6100 (gA o0 2), kJ G (q0 3) 2016 (gB o0 3), kJ G (q0 4) 2016 (gB o0 4), kI G (q0 5) 300 (gA o0 5), kI G (q0 6) 400 (gA o0 6), kJ G (q0 28) 10 (gB o0 28), kI G (q0 31) 969 (gA o0 31), kI G (q0 32) 969 (gA o0 32), kI G (q0 33) 969 (gA o0 33), kI G (q0 38) 5 (gA o0 38), kI G (q0 39) 5120 (gA o0 39), kI G (q0 41) 5 (gA o0 41), kZ G (q0 42) 1024 (gA o0 42), kI G (q0 43) 8192 (gA o0 43), kI G (q0 44) 8192 (gA o0 44)]) C (c_Md_isPiece (h0 := h0) (q0 := q0) H.size h) wv_Md_169 ⟨Nat.le_of_ble_eq_true rfl, Nat.le_of_ble_eq_true rfl⟩ hP hD hS 0 rfl rfl [0, 1, 2, 3, 4, 5, 6, 7, 8, 9, 10, 11, 12, 13, 14, 15, 16] [] rfl rfl (by decide) (by decide) (by decide) [0, 1, 2, 3, 4, 5, 6, 7, 8, 9, 10, 11, 12, 13, 14, 15, 16] (by decide) (fun u => rfl) rfl hl.1 rfl (lv_room (Nat.le_of_ble_eq_true rfl)) d_Md_led_18 ⟨Nat.le_of_ble_eq_true rfl, Nat.le_of_ble_eq_true rfl⟩ rfl rfl (fun z3 u H locs h hP hD hS => ?_)
    have hP : va_P G.1 CL [(h0, .inr (11, [.int (gI o0 0), .ref (q0 1), .ref (q0 2), .ref (q0 3), .ref (q0 4), .ref (q0 5), .ref (q0 6), .int (gI o0 7), .int (gI o0 8), .int (gI o0 9), .int (gI o0 10), .int (gI o0 11), .int (gI o0 12), .int (gI o0 13), .int (gI o0 14), .long (gL o0 15), .int (gI o0 16), .int (gI o0 17), .int (gI o0 18), .int (gI o0 19), .int (gI o0 20), .int (gI o0 21), .int (gI o0 22), .int (gI o0 23), .int (gI o0 24), .int (gI o0 25), .int (gI o0 26), .int (gI o0 27), .ref (q0 28), .long (gL o0 29), .int (gI o0 30), .ref (q0 31), .ref (q0 32), .ref (q0 33), .int (gI o0 34), .int (gI o0 35), .int (gI o0 36), .int (gI o0 37), .ref (q0 38), .ref (q0 39), .int (gI o0 40), .ref (q0 41), .ref (q0 42), .ref (q0 43), .ref (q0 44)])), kI G (q0 1) 6100 (gA o0 1), kI G (q0 2) 6100 (gA o0 2), kJ G (q0 3) 2016 (gB o0 3), kJ G (q0 4) 2016 (gB o0 4), kI G (q0 5) 300 (gA o0 5), kI G (q0 6) 400 (gA o0 6), kJ G (q0 28) 10 (gB o0 28), kI G (q0 31) 969 (gA o0 31), kI G (q0 32) 969 (gA o0 32), kI G (q0 33) 969 (gA o0 33), kI G (q0 38) 5 (gA o0 38), kI G (q0 39) 5120 (gA o0 39), kI G (q0 41) 5 (gA o0 41), kZ G (q0 42) 1024 (gA o0 42), kI G (q0 43) 8192 (gA o0 43), kI G (q0 44) 8192 (gA o0 44)] H := hP
    have hD : va_D A [(h0, .inr (11, [.int (gI o0 0), .ref (q0 1), .ref (q0 2), .ref (q0 3), .ref (q0 4), .ref (q0 5), .ref (q0 6), .int (gI o0 7), .int (gI o0 8), .int (gI o0 9), .int (gI o0 10), .int (gI o0 11), .int (gI o0 12), .int (gI o0 13), .int (gI o0 14), .long (gL o0 15), .int (gI o0 16), .int (gI o0 17), .int (gI o0 18), .int (gI o0 19), .int (gI o0 20), .int (gI o0 21), .int (gI o0 22), .int (gI o0 23), .int (gI o0 24), .int (gI o0 25), .int (gI o0 26), .int (gI o0 27), .ref (q0 28), .long (gL o0 29), .int (gI o0 30), .ref (q0 31), .ref (q0 32), .ref (q0 33), .int (gI o0 34), .int (gI o0 35), .int (gI o0 36), .int (gI o0 37), .ref (q0 38), .ref (q0 39), .int (gI o0 40), .ref (q0 41), .ref (q0 42), .ref (q0 43), .ref (q0 44)])), kI G (q0 1) 6100 (gA o0 1), kI G (q0 2) 6100 (gA o0 2), kJ G (q0 3) 2016 (gB o0 3), kJ G (q0 4) 2016 (gB o0 4), kI G (q0 5) 300 (gA o0 5), kI G (q0 6) 400 (gA o0 6), kJ G (q0 28) 10 (gB o0 28), kI G (q0 31) 969 (gA o0 31), kI G (q0 32) 969 (gA o0 32), kI G (q0 33) 969 (gA o0 33), kI G (q0 38) 5 (gA o0 38), kI G (q0 39) 5120 (gA o0 39), kI G (q0 41) 5 (gA o0 41), kZ G (q0 42) 1024 (gA o0 42), kI G (q0 43) 8192 (gA o0 43), kI G (q0 44) 8192 (gA o0 44)] := hD
    refine lv_if_eq (tgt := 55) hx hb d_Md_led_21 (by decide) (fun c4 => ?_) (fun c4 => ?_)
    · have h := h.1 c4
      refine lv_iconst (v := (-1 : Int32)) hx hb d_Md_led_55 (by decide) ?_
      have hP : va_P G.1 CL (cw_Md G h0 q0 o0) H := hP
      have hD : va_D A (cw_Md G h0 q0 o0) := hD
      exact W.iret (v := (-1 : Int32)) hx hb hr (fun t ht hW => ⟨⟨(-1 : Int32), (), rfl, h, by rw [ht]; exact hP, va_K.moved hW.alike hK, hD⟩, hS.F ht⟩) hS.2.2 d_Md_led_56
    · have h := h.2 c4
      refine lv_iload_n hx hb d_Md_led_24 rfl (lv_at hl 3 rfl) ?_
      refine lv_iconst (v := (0 : Int32)) hx hb d_Md_led_25 (by decide) ?_
      refine lv_iconst (v := (4 : Int32)) hx hb d_Md_led_26 (by decide) ?_
      refine cl_Si (b := b_Md_led) (As := [.int a2, .int (0 : Int32), .int (4 : Int32)]) (rest := []) (ws := [(h0, .inr (11, [.int (gI o0 0), .ref (q0 1), .ref (q0 2), .ref (q0 3), .ref (q0 4), .ref (q0 5), .ref (q0 6), .int (gI o0 7), .int (gI o0 8), .int (gI o0 9), .int (gI o0 10), .int (gI o0 11), .int (gI o0 12), .int (gI o0 13), .int (gI o0 14), .long (gL o0 15), .int (gI o0 16), .int (gI o0 17), .int (gI o0 18), .int (gI o0 19), .int (gI o0 20), .int (gI o0 21), .int (gI o0 22), .int (gI o0 23), .int (gI o0 24), .int (gI o0 25), .int (gI o0 26), .int (gI o0 27), .ref (q0 28), .long (gL o0 29), .int (gI o0 30), .ref (q0 31), .ref (q0 32), .ref (q0 33), .int (gI o0 34), .int (gI o0 35), .int (gI o0 36), .int (gI o0 37), .ref (q0 38), .ref (q0 39), .int (gI o0 40), .ref (q0 41), .ref (q0 42), .ref (q0 43), .ref (q0 44)])), kI G (q0 1) 6100 (gA o0 1), kI G (q0 2) 6100 (gA o0 2), kJ G (q0 3) 2016 (gB o0 3), kJ G (q0 4) 2016 (gB o0 4), kI G (q0 5) 300 (gA o0 5), kI G (q0 6) 400 (gA o0 6), kJ G (q0 28) 10 (gB o0 28), kI G (q0 31) 969 (gA o0 31), kI G (q0 32) 969 (gA o0 32), kI G (q0 33) 969 (gA o0 33), kI G (q0 38) 5 (gA o0 38), kI G (q0 39) 5120 (gA o0 39), kI G (q0 41) 5 (gA o0 41), kZ G (q0 42) 1024 (gA o0 42), kI G (q0 43) 8192 (gA o0 43), kI G (q0 44) 8192 (gA o0 44)]) (wr := [(h0, .inr (11, [.int (gI o0 0), .ref (q0 1), .ref (q0 2), .ref (q0 3), .ref (q0 4), .ref (q0 5), .ref (q0 6), .int (gI o0 7), .int (gI o0 8), .int (gI o0 9), .int (gI o0 10), .int (gI o0 11), .int (gI o0 12), .int (gI o0 13), .int (gI o0 14), .long (gL o0 15), .int (gI o0 16), .int (gI o0 17), .int (gI o0 18), .int (gI o0 19), .int (gI o0 20), .int (gI o0 21), .int (gI o0 22), .int (gI o0 23), .int (gI o0 24), .int (gI o0 25), .int (gI o0 26), .int (gI o0 27), .ref (q0 28), .long (gL o0 29), .int (gI o0 30), .ref (q0 31), .ref (q0 32), .ref (q0 33), .int (gI o0 34), .int (gI o0 35), .int (gI o0 36), .int (gI o0 37), .ref (q0 38), .ref (q0 39), .int (gI o0 40), .ref (q0 41), .ref (q0 42), .ref (q0 43), .ref (q0 44)])), kI G (q0 1) 6100 (gA o0 1), kI G (q0 2) 6100 (gA o0 2), kJ G (q0 3) 2016 (gB o0 3), kJ G (q0 4) 2016 (gB o0 4), kI G (q0 5) 300 (gA o0 5), kI G (q0 6) 400 (gA o0 6), kJ G (q0 28) 10 (gB o0 28), kI G (q0 31) 969 (gA o0 31), kI G (q0 32) 969 (gA o0 32), kI G (q0 33) 969 (gA o0 33), kI G (q0 38) 5 (gA o0 38), kI G (q0 39) 5120 (gA o0 39), kI G (q0 41) 5 (gA o0 41), kZ G (q0 42) 1024 (gA o0 42), kI G (q0 43) 8192 (gA o0 43), kI G (q0 44) 8192 (gA o0 44)]) (w2 := fun (u : Unit) => [(h0, .inr (11, [.int (gI o0 0), .ref (q0 1), .ref (q0 2), .ref (q0 3), .ref (q0 4), .ref (q0 5), .ref (q0 6), .int (gI o0 7), .int (gI o0 8), .int (gI o0 9), .int (gI o0 10), .int (gI o0 11), .int (gI o0 12), .int (gI o0 13), .int (gI o0 14), .long (gL o0 15), .int (gI o0 16), .int (gI o0 17), .int (gI o0 18), .int (gI o0 19), .int (gI o0 20), .int (gI o0 21), .int (gI o0 22), .int (gI o0 23), .int (gI o0 24), .int (gI o0 25), .int (gI o0 26), .int (gI o0 27), .ref (q0 28), .long (gL o0 29), .int (gI o0 30), .ref (q0 31), .ref (q0 32), .ref (q0 33), .int (gI o0 34), .int (gI o0 35), .int (gI o0 36), .int (gI o0 37), .ref (q0 38), .ref (q0 39), .int (gI o0 40), .ref (q0 41), .ref (q0 42), .ref (q0 43), .ref (q0 44)])), kI G (q0 1) 6100 (gA o0 1), kI G (q0 2) 6100 (gA o0 2), kJ G (q0 3) 2016 (gB o0 3), kJ G (q0 4) 2016 (gB o0 4), kI G (q0 5) 300 (gA o0 5), kI G (q0 6) 400 (gA o0 6), kJ G (q0 28) 10 (gB o0 28), kI G (q0 31) 969 (gA o0 31), kI G (q0 32) 969 (gA o0 32), kI G (q0 33) 969 (gA o0 33), kI G (q0 38) 5 (gA o0 38), kI G (q0 39) 5120 (gA o0 39), kI G (q0 41) 5 (gA o0 41), kZ G (q0 42) 1024 (gA o0 42), kI G (q0 43) 8192 (gA o0 43), kI G (q0 44) 8192 (gA o0 44)]) C (c_Md_isIn H.size h) ws_Md_76 ⟨Nat.le_of_ble_eq_true rfl, Nat.le_of_ble_eq_true rfl⟩ hP hD hS [] [0, 1, 2, 3, 4, 5, 6, 7, 8, 9, 10, 11, 12, 13, 14, 15, 16] rfl rfl (by decide) (by decide) (by decide) [0, 1, 2, 3, 4, 5, 6, 7, 8, 9, 10, 11, 12, 13, 14, 15, 16] (by decide) (fun u => rfl) rfl hl.1 rfl (lv_room (Nat.le_of_ble_eq_true rfl)) d_Md_led_27 ⟨Nat.le_of_ble_eq_true rfl, Nat.le_of_ble_eq_true rfl⟩ rfl rfl (fun z5 u H locs h hP hD hS => ?_)
      have hP : va_P G.1 CL [(h0, .inr (11, [.int (gI o0 0), .ref (q0 1), .ref (q0 2), .ref (q0 3), .ref (q0 4), .ref (q0 5), .ref (q0 6), .int (gI o0 7), .int (gI o0 8), .int (gI o0 9), .int (gI o0 10), .int (gI o0 11), .int (gI o0 12), .int (gI o0 13), .int (gI o0 14), .long (gL o0 15), .int (gI o0 16), .int (gI o0 17), .int (gI o0 18), .int (gI o0 19), .int (gI o0 20), .int (gI o0 21), .int (gI o0 22), .int (gI o0 23), .int (gI o0 24), .int (gI o0 25), .int (gI o0 26), .int (gI o0 27), .ref (q0 28), .long (gL o0 29), .int (gI o0 30), .ref (q0 31), .ref (q0 32), .ref (q0 33), .int (gI o0 34), .int (gI o0 35), .int (gI o0 36), .int (gI o0 37), .ref (q0 38), .ref (q0 39), .int (gI o0 40), .ref (q0 41), .ref (q0 42), .ref (q0 43), .ref (q0 44)])), kI G (q0 1) 6100 (gA o0 1), kI G (q0 2) 6100 (gA o0 2), kJ G (q0 3) 2016 (gB o0 3), kJ G (q0 4) 2016 (gB o0 4), kI G (q0 5) 300 (gA o0 5), kI G (q0 6) 400 (gA o0 6), kJ G (q0 28) 10 (gB o0 28), kI G (q0 31) 969 (gA o0 31), kI G (q0 32) 969 (gA o0 32), kI G (q0 33) 969 (gA o0 33), kI G (q0 38) 5 (gA o0 38), kI G (q0 39) 5120 (gA o0 39), kI G (q0 41) 5 (gA o0 41), kZ G (q0 42) 1024 (gA o0 42), kI G (q0 43) 8192 (gA o0 43), kI G (q0 44) 8192 (gA o0 44)] H := hP
      have hD : va_D A [(h0, .inr (11, [.int (gI o0 0), .ref (q0 1), .ref (q0 2), .ref (q0 3), .ref (q0 4), .ref (q0 5), .ref (q0 6), .int (gI o0 7), .int (gI o0 8), .int (gI o0 9), .int (gI o0 10), .int (gI o0 11), .int (gI o0 12), .int (gI o0 13), .int (gI o0 14), .long (gL o0 15), .int (gI o0 16), .int (gI o0 17), .int (gI o0 18), .int (gI o0 19), .int (gI o0 20), .int (gI o0 21), .int (gI o0 22), .int (gI o0 23), .int (gI o0 24), .int (gI o0 25), .int (gI o0 26), .int (gI o0 27), .ref (q0 28), .long (gL o0 29), .int (gI o0 30), .ref (q0 31), .ref (q0 32), .ref (q0 33), .int (gI o0 34), .int (gI o0 35), .int (gI o0 36), .int (gI o0 37), .ref (q0 38), .ref (q0 39), .int (gI o0 40), .ref (q0 41), .ref (q0 42), .ref (q0 43), .ref (q0 44)])), kI G (q0 1) 6100 (gA o0 1), kI G (q0 2) 6100 (gA o0 2), kJ G (q0 3) 2016 (gB o0 3), kJ G (q0 4) 2016 (gB o0 4), kI G (q0 5) 300 (gA o0 5), kI G (q0 6) 400 (gA o0 6), kJ G (q0 28) 10 (gB o0 28), kI G (q0 31) 969 (gA o0 31), kI G (q0 32) 969 (gA o0 32), kI G (q0 33) 969 (gA o0 33), kI G (q0 38) 5 (gA o0 38), kI G (q0 39) 5120 (gA o0 39), kI G (q0 41) 5 (gA o0 41), kZ G (q0 42) 1024 (gA o0 42), kI G (q0 43) 8192 (gA o0 43), kI G (q0 44) 8192 (gA o0 44)] := hD
      refine lv_if_eq (tgt := 55) hx hb d_Md_led_30 (by decide) (fun c6 => ?_) (fun c6 => ?_)
      · have h := h.1 c6
        refine lv_iconst (v := (-1 : Int32)) hx hb d_Md_led_55 (by decide) ?_
        have hP : va_P G.1 CL (cw_Md G h0 q0 o0) H := hP
        have hD : va_D A (cw_Md G h0 q0 o0) := hD
        exact W.iret (v := (-1 : Int32)) hx hb hr (fun t ht hW => ⟨⟨(-1 : Int32), (), rfl, h, by rw [ht]; exact hP, va_K.moved hW.alike hK, hD⟩, hS.F ht⟩) hS.2.2 d_Md_led_56
      · have h := h.2 c6
        refine lv_aload_n hx hb d_Md_led_33 rfl (lv_at hl 0 rfl) ?_
        refine va_get (D := G.1) (ci := 11) (v := .ref (q0 1)) (C := R_Md) (T := T_Md) (N := 45) hx hb hts i_Md hown hK hP 0 rfl rfl 1 (by decide) (hts _ wf_Md_7) (fun _ h9 => h9) rfl d_Md_led_34 ?_
        refine lv_sipush (v := (520 : Int32)) hx hb d_Md_led_37 (by decide) ?_
        refine lv_bipush (v := (25 : Int32)) hx hb d_Md_led_40 (by decide) ?_
        refine lv_iload_n hx hb d_Md_led_42 rfl (lv_at hl 1 rfl) ?_
        refine lv_imul hx hb d_Md_led_43 ?_
        refine lv_iadd hx hb d_Md_led_44 ?_
        refine lv_iconst (v := (5 : Int32)) hx hb d_Md_led_45 (by decide) ?_
        refine lv_iload_n hx hb d_Md_led_46 rfl (lv_at hl 2 rfl) ?_
        refine lv_imul hx hb d_Md_led_47 ?_
        refine lv_iadd hx hb d_Md_led_48 ?_
        refine lv_topi (fun y7 ey7 => ?_)
        have h := h y7 ey7
        refine lv_iload_n hx hb d_Md_led_49 rfl (lv_at hl 3 rfl) ?_
        refine lv_iadd hx hb d_Md_led_50 ?_
        have g8 := h.1
        have h := h.2
        refine xa_iald hx hb hK hP 1 0 rfl rfl g8 (k := (y7 + a2).toNatClampNeg) rfl d_Md_led_51 ?_
        refine lv_goto (tgt := 56) hx hb d_Md_led_52 (by decide) ?_
        have hP : va_P G.1 CL (cw_Md G h0 q0 o0) H := hP
        have hD : va_D A (cw_Md G h0 q0 o0) := hD
        exact W.iret (v := ((gA o0 1) ((y7 + a2).toNatClampNeg))) hx hb hr (fun t ht hW => ⟨⟨((gA o0 1) ((y7 + a2).toNatClampNeg)), (), rfl, h, by rw [ht]; exact hP, va_K.moved hW.alike hK, hD⟩, hS.F ht⟩) hS.2.2 d_Md_led_56
abbrev b_Md_sound : ByteArray := prog_14_method_39_code
def y_Md_sound : MethodName := ⟨R_Md, "sound", "(I)J"⟩
abbrev w_Md_sound : List Cond := Cond.code y_Md_sound b_Md_sound 2 (some .long) :: gw_tbl
theorem d_Md_sound_0 : decode b_Md_sound 0 = .ok (.iload_n 1, 1) := by decide +kernel
theorem d_Md_sound_1 : decode b_Md_sound 1 = .ok (.iconst 0, 1) := by decide +kernel
theorem d_Md_sound_2 : decode b_Md_sound 2 = .ok (.bipush 10, 2) := by decide +kernel
theorem d_Md_sound_4 : decode b_Md_sound 4 = .ok (.aload_n 0, 1) := by decide +kernel
theorem d_Md_sound_5 : decode b_Md_sound 5 = .ok (.getfield 7, 3) := by decide +kernel
theorem d_Md_sound_8 : decode b_Md_sound 8 = .ok (.iconst 0, 1) := by decide +kernel
theorem d_Md_sound_9 : decode b_Md_sound 9 = .ok (.iaload, 1) := by decide +kernel
theorem d_Md_sound_10 : decode b_Md_sound 10 = .ok (.imul, 1) := by decide +kernel
theorem d_Md_sound_11 : decode b_Md_sound 11 = .ok (.iconst 1, 1) := by decide +kernel
theorem d_Md_sound_12 : decode b_Md_sound 12 = .ok (.isub, 1) := by decide +kernel
theorem d_Md_sound_13 : decode b_Md_sound 13 = .ok (.invokestatic 76, 3) := by decide +kernel
theorem d_Md_sound_16 : decode b_Md_sound 16 = .ok (.ifCond .eq 15, 3) := by decide +kernel
theorem d_Md_sound_19 : decode b_Md_sound 19 = .ok (.aload_n 0, 1) := by decide +kernel
theorem d_Md_sound_20 : decode b_Md_sound 20 = .ok (.getfield 16, 3) := by decide +kernel
theorem d_Md_sound_23 : decode b_Md_sound 23 = .ok (.bipush 16, 2) := by decide +kernel
theorem d_Md_sound_25 : decode b_Md_sound 25 = .ok (.iload_n 1, 1) := by decide +kernel
theorem d_Md_sound_26 : decode b_Md_sound 26 = .ok (.iadd, 1) := by decide +kernel
theorem d_Md_sound_27 : decode b_Md_sound 27 = .ok (.laload, 1) := by decide +kernel
theorem d_Md_sound_28 : decode b_Md_sound 28 = .ok (.goto 4, 3) := by decide +kernel
theorem d_Md_sound_31 : decode b_Md_sound 31 = .ok (.lconst 0, 1) := by decide +kernel
theorem d_Md_sound_32 : decode b_Md_sound 32 = .ok (.lreturn, 1) := by decide +kernel
def f_Md_sound (a0 : Int32) (o0 : Ob) (Q : Int64 → Prop) : Prop := f_Md_isIn a0 (0 : Int32) (((10 : Int32) * ((gA o0 1) 0)) - (1 : Int32)) (fun z1 => (z1 = 0 → (Q (0 : Int64))) ∧ (¬ z1 = 0 → ((vp_in ((16 : Int32) + a0) 2016) ∧ (∀ y4 : Int64, y4 = ((gB o0 3) (((16 : Int32) + a0).toNatClampNeg)) → (Q y4)))))
abbrev rm_Md_sound : Room := { frames := 1, cells := 0, slots := 0, locals := 22 }
set_option maxHeartbeats 4000000 in
set_option maxRecDepth 100000 in
theorem c_Md_sound {l : Launch} {G : Gl} {h0 : Nat} {q0 : Nat → Nat} {a0 : Int32} {o0 : Ob} {Q : Int64 → Prop} (sz : Nat) (h : f_Md_sound a0 o0 Q) : Met l y_Md_sound w_Md_sound rm_Md_sound (PcW G [.ref h0, .int a0] sz (cw_Md G h0 q0 o0)) (va_Ql (fun (r : Int64) (u : Unit) => Q r) (fun (u : Unit) t => BW G (va_A (cw_Md G h0 q0 o0) sz) (cw_Md G h0 q0 o0) t) (va_A (cw_Md G h0 q0 o0) sz)) 0 0 (va_A (cw_Md G h0 q0 o0) sz) := by
  refine Met.ofW (cc := b_Md_sound) (maxL := 2) (ret := (some .long)) (by decide +kernel) rfl ?_
  intro p e s m args below meth c s₁ B hml hv
  obtain ⟨rfl, hsz, hP, hK, hD0, hE⟩ := hv
  have hx := B.exec
  have hb := B.bytes
  have hr := B.returns
  have hts0 := atoms_spec (ws := w_Md_sound) B.pre
  have hts : ∀ w ∈ gw_tbl, w.before ([.ref h0, .int a0]).toArray s = true := fun w hw => hts0 w (List.mem_cons_of_mem _ hw)
  have hown : s.vm.findClass R_Md = some m.cls := findClass_of_methodNamed B.named
  have hlocks := B.notSynchronized
  subst hsz
  have hD := hD0.self (sz := s.heap.size)
  generalize hAe : va_A (cw_Md G h0 q0 o0) s.heap.size = A at hD hE ⊢
  have hA : ∀ q : Nat, s.heap.size ≤ q → A q := fun q h => by rw [← hAe]; exact Or.inr h
  have hS : va_S A s.heap s.heap [] := va_S.rf
  have C : Cx p s m ([.ref h0, .int a0]).toArray meth c R_Md b_Md_sound 2 (some .long) G A := ⟨hx, hb, hml, hown, hr, hts, hK, hA, hlocks, hE⟩
  have hl := lv_entry ([.ref h0, .int a0]) (n := 2) (Nat.le_of_ble_eq_true rfl)
  rw [lg_entry_eq]
  generalize (lg_sl ([.ref h0, .int a0]) ++ List.replicate (2 - (lg_sl ([.ref h0, .int a0])).length) Slot.unset).toArray = ls at hl ⊢
  have hl : lv_has ls 2 [(0, .ref h0), (1, .int a0)] := hl
  have hD : va_D A [(h0, .inr (11, [.int (gI o0 0), .ref (q0 1), .ref (q0 2), .ref (q0 3), .ref (q0 4), .ref (q0 5), .ref (q0 6), .int (gI o0 7), .int (gI o0 8), .int (gI o0 9), .int (gI o0 10), .int (gI o0 11), .int (gI o0 12), .int (gI o0 13), .int (gI o0 14), .long (gL o0 15), .int (gI o0 16), .int (gI o0 17), .int (gI o0 18), .int (gI o0 19), .int (gI o0 20), .int (gI o0 21), .int (gI o0 22), .int (gI o0 23), .int (gI o0 24), .int (gI o0 25), .int (gI o0 26), .int (gI o0 27), .ref (q0 28), .long (gL o0 29), .int (gI o0 30), .ref (q0 31), .ref (q0 32), .ref (q0 33), .int (gI o0 34), .int (gI o0 35), .int (gI o0 36), .int (gI o0 37), .ref (q0 38), .ref (q0 39), .int (gI o0 40), .ref (q0 41), .ref (q0 42), .ref (q0 43), .ref (q0 44)])), kI G (q0 1) 6100 (gA o0 1), kI G (q0 2) 6100 (gA o0 2), kJ G (q0 3) 2016 (gB o0 3), kJ G (q0 4) 2016 (gB o0 4), kI G (q0 5) 300 (gA o0 5), kI G (q0 6) 400 (gA o0 6), kJ G (q0 28) 10 (gB o0 28), kI G (q0 31) 969 (gA o0 31), kI G (q0 32) 969 (gA o0 32), kI G (q0 33) 969 (gA o0 33), kI G (q0 38) 5 (gA o0 38), kI G (q0 39) 5120 (gA o0 39), kI G (q0 41) 5 (gA o0 41), kZ G (q0 42) 1024 (gA o0 42), kI G (q0 43) 8192 (gA o0 43), kI G (q0 44) 8192 (gA o0 44)] := hD
  unfold f_Md_sound at h
  suffices key : ∀ (H : Heap) (locs : List Loc), va_P G.1 CL [(h0, .inr (11, [.int (gI o0 0), .ref (q0 1), .ref (q0 2), .ref (q0 3), .ref (q0 4), .ref (q0 5), .ref (q0 6), .int (gI o0 7), .int (gI o0 8), .int (gI o0 9), .int (gI o0 10), .int (gI o0 11), .int (gI o0 12), .int (gI o0 13), .int (gI o0 14), .long (gL o0 15), .int (gI o0 16), .int (gI o0 17), .int (gI o0 18), .int (gI o0 19), .int (gI o0 20), .int (gI o0 21), .int (gI o0 22), .int (gI o0 23), .int (gI o0 24), .int (gI o0 25), .int (gI o0 26), .int (gI o0 27), .ref (q0 28), .long (gL o0 29), .int (gI o0 30), .ref (q0 31), .ref (q0 32), .ref (q0 33), .int (gI o0 34), .int (gI o0 35), .int (gI o0 36), .int (gI o0 37), .ref (q0 38), .ref (q0 39), .int (gI o0 40), .ref (q0 41), .ref (q0 42), .ref (q0 43), .ref (q0 44)])), kI G (q0 1) 6100 (gA o0 1), kI G (q0 2) 6100 (gA o0 2), kJ G (q0 3) 2016 (gB o0 3), kJ G (q0 4) 2016 (gB o0 4), kI G (q0 5) 300 (gA o0 5), kI G (q0 6) 400 (gA o0 6), kJ G (q0 28) 10 (gB o0 28), kI G (q0 31) 969 (gA o0 31), kI G (q0 32) 969 (gA o0 32), kI G (q0 33) 969 (gA o0 33), kI G (q0 38) 5 (gA o0 38), kI G (q0 39) 5120 (gA o0 39), kI G (q0 41) 5 (gA o0 41), kZ G (q0 42) 1024 (gA o0 42), kI G (q0 43) 8192 (gA o0 43), kI G (q0 44) 8192 (gA o0 44)] H → va_S A s.heap H locs → W p l e rm_Md_sound s m ([.ref h0, .int a0]).toArray below meth c H locs 0 0 (MQ below (va_Ql (fun (r : Int64) (u : Unit) => Q r) (fun (u : Unit) t => BW G A (cw_Md G h0 q0 o0) t) A) ([.ref h0, .int a0]).toArray s 0 0 A) (F0 m 0 ls []) from key s.heap [] hP hS
  intro H locs hP hS
  refine lv_iload_n hx hb d_Md_sound_0 rfl (lv_at hl 1 rfl) ?_
  refine lv_iconst (v := (0 : Int32)) hx hb d_Md_sound_1 (by decide) ?_
  refine lv_bipush (v := (10 : Int32)) hx hb d_Md_sound_2 (by decide) ?_
  refine lv_aload_n hx hb d_Md_sound_4 rfl (lv_at hl 0 rfl) ?_
  refine va_get (D := G.1) (ci := 11) (v := .ref (q0 1)) (C := R_Md) (T := T_Md) (N := 45) hx hb hts i_Md hown hK hP 0 rfl rfl 1 (by decide) (hts _ wf_Md_7) (fun _ h9 => h9) rfl d_Md_sound_5 ?_
  refine lv_iconst (v := (0 : Int32)) hx hb d_Md_sound_8 (by decide) ?_
  refine xa_iald hx hb hK hP 1 0 rfl rfl (vp_lit rfl) (k := 0) rfl d_Md_sound_9 ?_
  refine lv_imul hx hb d_Md_sound_10 ?_
  refine lv_iconst (v := (1 : Int32)) hx hb d_Md_sound_11 (by decide) ?_
  refine lv_isub hx hb d_Md_sound_12 ?_
  refine cl_Si (b := b_Md_sound) (As := [.int a0, .int (0 : Int32), .int (((10 : Int32) * ((gA o0 1) 0)) - (1 : Int32))]) (rest := []) (ws := [(h0, .inr (11, [.int (gI o0 0), .ref (q0 1), .ref (q0 2), .ref (q0 3), .ref (q0 4), .ref (q0 5), .ref (q0 6), .int (gI o0 7), .int (gI o0 8), .int (gI o0 9), .int (gI o0 10), .int (gI o0 11), .int (gI o0 12), .int (gI o0 13), .int (gI o0 14), .long (gL o0 15), .int (gI o0 16), .int (gI o0 17), .int (gI o0 18), .int (gI o0 19), .int (gI o0 20), .int (gI o0 21), .int (gI o0 22), .int (gI o0 23), .int (gI o0 24), .int (gI o0 25), .int (gI o0 26), .int (gI o0 27), .ref (q0 28), .long (gL o0 29), .int (gI o0 30), .ref (q0 31), .ref (q0 32), .ref (q0 33), .int (gI o0 34), .int (gI o0 35), .int (gI o0 36), .int (gI o0 37), .ref (q0 38), .ref (q0 39), .int (gI o0 40), .ref (q0 41), .ref (q0 42), .ref (q0 43), .ref (q0 44)])), kI G (q0 1) 6100 (gA o0 1), kI G (q0 2) 6100 (gA o0 2), kJ G (q0 3) 2016 (gB o0 3), kJ G (q0 4) 2016 (gB o0 4), kI G (q0 5) 300 (gA o0 5), kI G (q0 6) 400 (gA o0 6), kJ G (q0 28) 10 (gB o0 28), kI G (q0 31) 969 (gA o0 31), kI G (q0 32) 969 (gA o0 32), kI G (q0 33) 969 (gA o0 33), kI G (q0 38) 5 (gA o0 38), kI G (q0 39) 5120 (gA o0 39), kI G (q0 41) 5 (gA o0 41), kZ G (q0 42) 1024 (gA o0 42), kI G (q0 43) 8192 (gA o0 43), kI G (q0 44) 8192 (gA o0 44)]) (wr := [(h0, .inr (11, [.int (gI o0 0), .ref (q0 1), .ref (q0 2), .ref (q0 3), .ref (q0 4), .ref (q0 5), .ref (q0 6), .int (gI o0 7), .int (gI o0 8), .int (gI o0 9), .int (gI o0 10), .int (gI o0 11), .int (gI o0 12), .int (gI o0 13), .int (gI o0 14), .long (gL o0 15), .int (gI o0 16), .int (gI o0 17), .int (gI o0 18), .int (gI o0 19), .int (gI o0 20), .int (gI o0 21), .int (gI o0 22), .int (gI o0 23), .int (gI o0 24), .int (gI o0 25), .int (gI o0 26), .int (gI o0 27), .ref (q0 28), .long (gL o0 29), .int (gI o0 30), .ref (q0 31), .ref (q0 32), .ref (q0 33), .int (gI o0 34), .int (gI o0 35), .int (gI o0 36), .int (gI o0 37), .ref (q0 38), .ref (q0 39), .int (gI o0 40), .ref (q0 41), .ref (q0 42), .ref (q0 43), .ref (q0 44)])), kI G (q0 1) 6100 (gA o0 1), kI G (q0 2) 6100 (gA o0 2), kJ G (q0 3) 2016 (gB o0 3), kJ G (q0 4) 2016 (gB o0 4), kI G (q0 5) 300 (gA o0 5), kI G (q0 6) 400 (gA o0 6), kJ G (q0 28) 10 (gB o0 28), kI G (q0 31) 969 (gA o0 31), kI G (q0 32) 969 (gA o0 32), kI G (q0 33) 969 (gA o0 33), kI G (q0 38) 5 (gA o0 38), kI G (q0 39) 5120 (gA o0 39), kI G (q0 41) 5 (gA o0 41), kZ G (q0 42) 1024 (gA o0 42), kI G (q0 43) 8192 (gA o0 43), kI G (q0 44) 8192 (gA o0 44)]) (w2 := fun (u : Unit) => [(h0, .inr (11, [.int (gI o0 0), .ref (q0 1), .ref (q0 2), .ref (q0 3), .ref (q0 4), .ref (q0 5), .ref (q0 6), .int (gI o0 7), .int (gI o0 8), .int (gI o0 9), .int (gI o0 10), .int (gI o0 11), .int (gI o0 12), .int (gI o0 13), .int (gI o0 14), .long (gL o0 15), .int (gI o0 16), .int (gI o0 17), .int (gI o0 18), .int (gI o0 19), .int (gI o0 20), .int (gI o0 21), .int (gI o0 22), .int (gI o0 23), .int (gI o0 24), .int (gI o0 25), .int (gI o0 26), .int (gI o0 27), .ref (q0 28), .long (gL o0 29), .int (gI o0 30), .ref (q0 31), .ref (q0 32), .ref (q0 33), .int (gI o0 34), .int (gI o0 35), .int (gI o0 36), .int (gI o0 37), .ref (q0 38), .ref (q0 39), .int (gI o0 40), .ref (q0 41), .ref (q0 42), .ref (q0 43), .ref (q0 44)])), kI G (q0 1) 6100 (gA o0 1), kI G (q0 2) 6100 (gA o0 2), kJ G (q0 3) 2016 (gB o0 3), kJ G (q0 4) 2016 (gB o0 4), kI G (q0 5) 300 (gA o0 5), kI G (q0 6) 400 (gA o0 6), kJ G (q0 28) 10 (gB o0 28), kI G (q0 31) 969 (gA o0 31), kI G (q0 32) 969 (gA o0 32), kI G (q0 33) 969 (gA o0 33), kI G (q0 38) 5 (gA o0 38), kI G (q0 39) 5120 (gA o0 39), kI G (q0 41) 5 (gA o0 41), kZ G (q0 42) 1024 (gA o0 42), kI G (q0 43) 8192 (gA o0 43), kI G (q0 44) 8192 (gA o0 44)]) C (c_Md_isIn H.size h) ws_Md_76 ⟨Nat.le_of_ble_eq_true rfl, Nat.le_of_ble_eq_true rfl⟩ hP hD hS [] [0, 1, 2, 3, 4, 5, 6, 7, 8, 9, 10, 11, 12, 13, 14, 15, 16] rfl rfl (by decide) (by decide) (by decide) [0, 1, 2, 3, 4, 5, 6, 7, 8, 9, 10, 11, 12, 13, 14, 15, 16] (by decide) (fun u => rfl) rfl hl.1 rfl (lv_room (Nat.le_of_ble_eq_true rfl)) d_Md_sound_13 ⟨Nat.le_of_ble_eq_true rfl, Nat.le_of_ble_eq_true rfl⟩ rfl rfl (fun z1 u H locs h hP hD hS => ?_)
  have hP : va_P G.1 CL [(h0, .inr (11, [.int (gI o0 0), .ref (q0 1), .ref (q0 2), .ref (q0 3), .ref (q0 4), .ref (q0 5), .ref (q0 6), .int (gI o0 7), .int (gI o0 8), .int (gI o0 9), .int (gI o0 10), .int (gI o0 11), .int (gI o0 12), .int (gI o0 13), .int (gI o0 14), .long (gL o0 15), .int (gI o0 16), .int (gI o0 17), .int (gI o0 18), .int (gI o0 19), .int (gI o0 20), .int (gI o0 21), .int (gI o0 22), .int (gI o0 23), .int (gI o0 24), .int (gI o0 25), .int (gI o0 26), .int (gI o0 27), .ref (q0 28), .long (gL o0 29), .int (gI o0 30), .ref (q0 31), .ref (q0 32), .ref (q0 33), .int (gI o0 34), .int (gI o0 35), .int (gI o0 36), .int (gI o0 37), .ref (q0 38), .ref (q0 39), .int (gI o0 40), .ref (q0 41), .ref (q0 42), .ref (q0 43), .ref (q0 44)])), kI G (q0 1) 6100 (gA o0 1), kI G (q0 2) 6100 (gA o0 2), kJ G (q0 3) 2016 (gB o0 3), kJ G (q0 4) 2016 (gB o0 4), kI G (q0 5) 300 (gA o0 5), kI G (q0 6) 400 (gA o0 6), kJ G (q0 28) 10 (gB o0 28), kI G (q0 31) 969 (gA o0 31), kI G (q0 32) 969 (gA o0 32), kI G (q0 33) 969 (gA o0 33), kI G (q0 38) 5 (gA o0 38), kI G (q0 39) 5120 (gA o0 39), kI G (q0 41) 5 (gA o0 41), kZ G (q0 42) 1024 (gA o0 42), kI G (q0 43) 8192 (gA o0 43), kI G (q0 44) 8192 (gA o0 44)] H := hP
  have hD : va_D A [(h0, .inr (11, [.int (gI o0 0), .ref (q0 1), .ref (q0 2), .ref (q0 3), .ref (q0 4), .ref (q0 5), .ref (q0 6), .int (gI o0 7), .int (gI o0 8), .int (gI o0 9), .int (gI o0 10), .int (gI o0 11), .int (gI o0 12), .int (gI o0 13), .int (gI o0 14), .long (gL o0 15), .int (gI o0 16), .int (gI o0 17), .int (gI o0 18), .int (gI o0 19), .int (gI o0 20), .int (gI o0 21), .int (gI o0 22), .int (gI o0 23), .int (gI o0 24), .int (gI o0 25), .int (gI o0 26), .int (gI o0 27), .ref (q0 28), .long (gL o0 29), .int (gI o0 30), .ref (q0 31), .ref (q0 32), .ref (q0 33), .int (gI o0 34), .int (gI o0 35), .int (gI o0 36), .int (gI o0 37), .ref (q0 38), .ref (q0 39), .int (gI o0 40), .ref (q0 41), .ref (q0 42), .ref (q0 43), .ref (q0 44)])), kI G (q0 1) 6100 (gA o0 1), kI G (q0 2) 6100 (gA o0 2), kJ G (q0 3) 2016 (gB o0 3), kJ G (q0 4) 2016 (gB o0 4), kI G (q0 5) 300 (gA o0 5), kI G (q0 6) 400 (gA o0 6), kJ G (q0 28) 10 (gB o0 28), kI G (q0 31) 969 (gA o0 31), kI G (q0 32) 969 (gA o0 32), kI G (q0 33) 969 (gA o0 33), kI G (q0 38) 5 (gA o0 38), kI G (q0 39) 5120 (gA o0 39), kI G (q0 41) 5 (gA o0 41), kZ G (q0 42) 1024 (gA o0 42), kI G (q0 43) 8192 (gA o0 43), kI G (q0 44) 8192 (gA o0 44)] := hD
  refine lv_if_eq (tgt := 31) hx hb d_Md_sound_16 (by decide) (fun c2 => ?_) (fun c2 => ?_)
  · have h := h.1 c2
    refine lv_lconst (v := (0 : Int64)) hx hb d_Md_sound_31 (by decide) ?_
    have hP : va_P G.1 CL (cw_Md G h0 q0 o0) H := hP
    have hD : va_D A (cw_Md G h0 q0 o0) := hD
    exact W.lret (v := (0 : Int64)) hx hb hr (fun t ht hW => ⟨⟨(0 : Int64), (), rfl, h, by rw [ht]; exact hP, va_K.moved hW.alike hK, hD⟩, hS.F ht⟩) hS.2.2 d_Md_sound_32
  · have h := h.2 c2
    refine lv_aload_n hx hb d_Md_sound_19 rfl (lv_at hl 0 rfl) ?_
    refine va_get (D := G.1) (ci := 11) (v := .ref (q0 3)) (C := R_Md) (T := T_Md) (N := 45) hx hb hts i_Md hown hK hP 0 rfl rfl 3 (by decide) (hts _ wf_Md_16) (fun _ h9 => h9) rfl d_Md_sound_20 ?_
    refine lv_bipush (v := (16 : Int32)) hx hb d_Md_sound_23 (by decide) ?_
    refine lv_iload_n hx hb d_Md_sound_25 rfl (lv_at hl 1 rfl) ?_
    refine lv_iadd hx hb d_Md_sound_26 ?_
    have g3 := h.1
    have h := h.2
    refine xa_lald hx hb hK hP 3 1 rfl rfl g3 (k := ((16 : Int32) + a0).toNatClampNeg) rfl d_Md_sound_27 ?_
    refine lv_topl (fun y4 ey4 => ?_)
    have h := h y4 ey4
    refine lv_goto (tgt := 32) hx hb d_Md_sound_28 (by decide) ?_
    have hP : va_P G.1 CL (cw_Md G h0 q0 o0) H := hP
    have hD : va_D A (cw_Md G h0 q0 o0) := hD
    exact W.lret (v := y4) hx hb hr (fun t ht hW => ⟨⟨y4, (), rfl, h, by rw [ht]; exact hP, va_K.moved hW.alike hK, hD⟩, hS.F ht⟩) hS.2.2 d_Md_sound_32
abbrev b_Md_wave : ByteArray := prog_14_method_40_code
def y_Md_wave : MethodName := ⟨R_Md, "wave", "(IZ)J"⟩
abbrev w_Md_wave : List Cond := Cond.code y_Md_wave b_Md_wave 3 (some .long) :: gw_tbl
theorem d_Md_wave_0 : decode b_Md_wave 0 = .ok (.aload_n 0, 1) := by decide +kernel
theorem d_Md_wave_1 : decode b_Md_wave 1 = .ok (.iload_n 1, 1) := by decide +kernel
theorem d_Md_wave_2 : decode b_Md_wave 2 = .ok (.invokevirtual 169, 3) := by decide +kernel
theorem d_Md_wave_5 : decode b_Md_wave 5 = .ok (.ifCond .eq 22, 3) := by decide +kernel
theorem d_Md_wave_8 : decode b_Md_wave 8 = .ok (.aload_n 0, 1) := by decide +kernel
theorem d_Md_wave_9 : decode b_Md_wave 9 = .ok (.getfield 16, 3) := by decide +kernel
theorem d_Md_wave_12 : decode b_Md_wave 12 = .ok (.iload_n 2, 1) := by decide +kernel
theorem d_Md_wave_13 : decode b_Md_wave 13 = .ok (.ifCond .eq 7, 3) := by decide +kernel
theorem d_Md_wave_16 : decode b_Md_wave 16 = .ok (.iconst 0, 1) := by decide +kernel
theorem d_Md_wave_17 : decode b_Md_wave 17 = .ok (.goto 4, 3) := by decide +kernel
theorem d_Md_wave_20 : decode b_Md_wave 20 = .ok (.iconst 5, 1) := by decide +kernel
theorem d_Md_wave_21 : decode b_Md_wave 21 = .ok (.iload_n 1, 1) := by decide +kernel
theorem d_Md_wave_22 : decode b_Md_wave 22 = .ok (.iadd, 1) := by decide +kernel
theorem d_Md_wave_23 : decode b_Md_wave 23 = .ok (.laload, 1) := by decide +kernel
theorem d_Md_wave_24 : decode b_Md_wave 24 = .ok (.goto 4, 3) := by decide +kernel
theorem d_Md_wave_27 : decode b_Md_wave 27 = .ok (.lconst 0, 1) := by decide +kernel
theorem d_Md_wave_28 : decode b_Md_wave 28 = .ok (.lreturn, 1) := by decide +kernel
def f_Md_wave (a0 : Int32) (a1 : Int32) (o0 : Ob) (Q : Int64 → Prop) : Prop := f_Md_isPiece a0 o0 (fun z1 => (z1 = 0 → (Q (0 : Int64))) ∧ (¬ z1 = 0 → ((a1 = 0 → ((vp_in ((5 : Int32) + a0) 2016) ∧ (Q ((gB o0 3) (((5 : Int32) + a0).toNatClampNeg))))) ∧ (¬ a1 = 0 → ((vp_in ((0 : Int32) + a0) 2016) ∧ (Q ((gB o0 3) (((0 : Int32) + a0).toNatClampNeg))))))))
abbrev rm_Md_wave : Room := { frames := 2, cells := 0, slots := 0, locals := 43 }
set_option maxHeartbeats 4000000 in
set_option maxRecDepth 100000 in
theorem c_Md_wave {l : Launch} {G : Gl} {h0 : Nat} {q0 : Nat → Nat} {a0 : Int32} {a1 : Int32} {o0 : Ob} {Q : Int64 → Prop} (sz : Nat) (h : f_Md_wave a0 a1 o0 Q) : Met l y_Md_wave w_Md_wave rm_Md_wave (PcW G [.ref h0, .int a0, .int a1] sz (cw_Md G h0 q0 o0)) (va_Ql (fun (r : Int64) (u : Unit) => Q r) (fun (u : Unit) t => BW G (va_A (cw_Md G h0 q0 o0) sz) (cw_Md G h0 q0 o0) t) (va_A (cw_Md G h0 q0 o0) sz)) 0 0 (va_A (cw_Md G h0 q0 o0) sz) := by
  refine Met.ofW (cc := b_Md_wave) (maxL := 3) (ret := (some .long)) (by decide +kernel) rfl ?_
  intro p e s m args below meth c s₁ B hml hv
  obtain ⟨rfl, hsz, hP, hK, hD0, hE⟩ := hv
  have hx := B.exec
  have hb := B.bytes
  have hr := B.returns
  have hts0 := atoms_spec (ws := w_Md_wave) B.pre
  have hts : ∀ w ∈ gw_tbl, w.before ([.ref h0, .int a0, .int a1]).toArray s = true := fun w hw => hts0 w (List.mem_cons_of_mem _ hw)
  have hown : s.vm.findClass R_Md = some m.cls := findClass_of_methodNamed B.named
  have hlocks := B.notSynchronized
  subst hsz
  have hD := hD0.self (sz := s.heap.size)
  generalize hAe : va_A (cw_Md G h0 q0 o0) s.heap.size = A at hD hE ⊢
  have hA : ∀ q : Nat, s.heap.size ≤ q → A q := fun q h => by rw [← hAe]; exact Or.inr h
  have hS : va_S A s.heap s.heap [] := va_S.rf
  have C : Cx p s m ([.ref h0, .int a0, .int a1]).toArray meth c R_Md b_Md_wave 3 (some .long) G A := ⟨hx, hb, hml, hown, hr, hts, hK, hA, hlocks, hE⟩
  have hl := lv_entry ([.ref h0, .int a0, .int a1]) (n := 3) (Nat.le_of_ble_eq_true rfl)
  rw [lg_entry_eq]
  generalize (lg_sl ([.ref h0, .int a0, .int a1]) ++ List.replicate (3 - (lg_sl ([.ref h0, .int a0, .int a1])).length) Slot.unset).toArray = ls at hl ⊢
  have hl : lv_has ls 3 [(0, .ref h0), (1, .int a0), (2, .int a1)] := hl
  have hD : va_D A [(h0, .inr (11, [.int (gI o0 0), .ref (q0 1), .ref (q0 2), .ref (q0 3), .ref (q0 4), .ref (q0 5), .ref (q0 6), .int (gI o0 7), .int (gI o0 8), .int (gI o0 9), .int (gI o0 10), .int (gI o0 11), .int (gI o0 12), .int (gI o0 13), .int (gI o0 14), .long (gL o0 15), .int (gI o0 16), .int (gI o0 17), .int (gI o0 18), .int (gI o0 19), .int (gI o0 20), .int (gI o0 21), .int (gI o0 22), .int (gI o0 23), .int (gI o0 24), .int (gI o0 25), .int (gI o0 26), .int (gI o0 27), .ref (q0 28), .long (gL o0 29), .int (gI o0 30), .ref (q0 31), .ref (q0 32), .ref (q0 33), .int (gI o0 34), .int (gI o0 35), .int (gI o0 36), .int (gI o0 37), .ref (q0 38), .ref (q0 39), .int (gI o0 40), .ref (q0 41), .ref (q0 42), .ref (q0 43), .ref (q0 44)])), kI G (q0 1) 6100 (gA o0 1), kI G (q0 2) 6100 (gA o0 2), kJ G (q0 3) 2016 (gB o0 3), kJ G (q0 4) 2016 (gB o0 4), kI G (q0 5) 300 (gA o0 5), kI G (q0 6) 400 (gA o0 6), kJ G (q0 28) 10 (gB o0 28), kI G (q0 31) 969 (gA o0 31), kI G (q0 32) 969 (gA o0 32), kI G (q0 33) 969 (gA o0 33), kI G (q0 38) 5 (gA o0 38), kI G (q0 39) 5120 (gA o0 39), kI G (q0 41) 5 (gA o0 41), kZ G (q0 42) 1024 (gA o0 42), kI G (q0 43) 8192 (gA o0 43), kI G (q0 44) 8192 (gA o0 44)] := hD
  unfold f_Md_wave at h
  suffices key : ∀ (H : Heap) (locs : List Loc), va_P G.1 CL [(h0, .inr (11, [.int (gI o0 0), .ref (q0 1), .ref (q0 2), .ref (q0 3), .ref (q0 4), .ref (q0 5), .ref (q0 6), .int (gI o0 7), .int (gI o0 8), .int (gI o0 9), .int (gI o0 10), .int (gI o0 11), .int (gI o0 12), .int (gI o0 13), .int (gI o0 14), .long (gL o0 15), .int (gI o0 16), .int (gI o0 17), .int (gI o0 18), .int (gI o0 19), .int (gI o0 20), .int (gI o0 21), .int (gI o0 22), .int (gI o0 23), .int (gI o0 24), .int (gI o0 25), .int (gI o0 26), .int (gI o0 27), .ref (q0 28), .long (gL o0 29), .int (gI o0 30), .ref (q0 31), .ref (q0 32), .ref (q0 33), .int (gI o0 34), .int (gI o0 35), .int (gI o0 36), .int (gI o0 37), .ref (q0 38), .ref (q0 39), .int (gI o0 40), .ref (q0 41), .ref (q0 42), .ref (q0 43), .ref (q0 44)])), kI G (q0 1) 6100 (gA o0 1), kI G (q0 2) 6100 (gA o0 2), kJ G (q0 3) 2016 (gB o0 3), kJ G (q0 4) 2016 (gB o0 4), kI G (q0 5) 300 (gA o0 5), kI G (q0 6) 400 (gA o0 6), kJ G (q0 28) 10 (gB o0 28), kI G (q0 31) 969 (gA o0 31), kI G (q0 32) 969 (gA o0 32), kI G (q0 33) 969 (gA o0 33), kI G (q0 38) 5 (gA o0 38), kI G (q0 39) 5120 (gA o0 39), kI G (q0 41) 5 (gA o0 41), kZ G (q0 42) 1024 (gA o0 42), kI G (q0 43) 8192 (gA o0 43), kI G (q0 44) 8192 (gA o0 44)] H → va_S A s.heap H locs → W p l e rm_Md_wave s m ([.ref h0, .int a0, .int a1]).toArray below meth c H locs 0 0 (MQ below (va_Ql (fun (r : Int64) (u : Unit) => Q r) (fun (u : Unit) t => BW G A (cw_Md G h0 q0 o0) t) A) ([.ref h0, .int a0, .int a1]).toArray s 0 0 A) (F0 m 0 ls []) from key s.heap [] hP hS
  intro H locs hP hS
  refine lv_aload_n hx hb d_Md_wave_0 rfl (lv_at hl 0 rfl) ?_
  refine lv_iload_n hx hb d_Md_wave_1 rfl (lv_at hl 1 rfl) ?_
  refine cl_Vi (b := b_Md_wave) (As := [.int a0]) (rest := []) (ws := [(h0, .inr (11, [.int (gI o0 0), .ref (q0 1), .ref (q0 2), .ref (q0 3), .ref (q0 4), .ref (q0 5), .ref (q0 6), .int (gI o0 7), .int (gI o0 8), .int (gI o0 9), .int (gI o0 10), .int (gI o0 11), .int (gI o0 12), .int (gI o0 13), .int (gI o0 14), .long (gL o0 15), .int (gI o0 16), .int (gI o0 17), .int (gI o0 18), .int (gI o0 19), .int (gI o0 20), .int (gI o0 21), .int (gI o0 22), .int (gI o0 23), .int (gI o0 24), .int (gI o0 25), .int (gI o0 26), .int (gI o0 27), .ref (q0 28), .long (gL o0 29), .int (gI o0 30), .ref (q0 31), .ref (q0 32), .ref (q0 33), .int (gI o0 34), .int (gI o0 35), .int (gI o0 36), .int (gI o0 37), .ref (q0 38), .ref (q0 39), .int (gI o0 40), .ref (q0 41), .ref (q0 42), .ref (q0 43), .ref (q0 44)])), kI G (q0 1) 6100 (gA o0 1), kI G (q0 2) 6100 (gA o0 2), kJ G (q0 3) 2016 (gB o0 3), kJ G (q0 4) 2016 (gB o0 4), kI G (q0 5) 300 (gA o0 5), kI G (q0 6) 400 (gA o0 6), kJ G (q0 28) 10 (gB o0 28), kI G (q0 31) 969 (gA o0 31), kI G (q0 32) 969 (gA o0 32), kI G (q0 33) 969 (gA o0 33), kI G (q0 38) 5 (gA o0 38), kI G (q0 39) 5120 (gA o0 39), kI G (q0 41) 5 (gA o0 41), kZ G (q0 42) 1024 (gA o0 42), kI G (q0 43) 8192 (gA o0 43), kI G (q0 44) 8192 (gA o0 44)]) (wr := []) (w2 := fun (u : Unit) => [(h0, .inr (11, [.int (gI o0 0), .ref (q0 1), .ref (q0 2), .ref (q0 3), .ref (q0 4), .ref (q0 5), .ref (q0 6), .int (gI o0 7), .int (gI o0 8), .int (gI o0 9), .int (gI o0 10), .int (gI o0 11), .int (gI o0 12), .int (gI o0 13), .int (gI o0 14), .long (gL o0 15), .int (gI o0 16), .int (gI o0 17), .int (gI o0 18), .int (gI o0 19), .int (gI o0 20), .int (gI o0 21), .int (gI o0 22), .int (gI o0 23), .int (gI o0 24), .int (gI o0 25), .int (gI o0 26), .int (gI o0 27), .ref (q0 28), .long (gL o0 29), .int (gI o0 30), .ref (q0 31), .ref (q0 32), .ref (q0 33), .int (gI o0 34), .int (gI o0 35), .int (gI o0 36), .int (gI o0 37), .ref (q0 38), .ref (q0 39), .int (gI o0 40), .ref (q0 41), .ref (q0 42), .ref (q0 43), .ref (q0 44)])), kI G (q0 1) 6100 (gA o0 1), kI G (q0 2) 6100 (gA o0 2), kJ G (q0 3) 2016 (gB o0 3), kJ G (q0 4) 2016 (gB o0 4), kI G (q0 5) 300 (gA o0 5), kI G (q0 6) 400 (gA o0 6), kJ G (q0 28) 10 (gB o0 28), kI G (q0 31) 969 (gA o0 31), kI G (q0 32) 969 (gA o0 32), kI G (q0 33) 969 (gA o0 33), kI G (q0 38) 5 (gA o0 38), kI G (q0 39) 5120 (gA o0 39), kI G (q0 41) 5 (gA o0 41), kZ G (q0 42) 1024 (gA o0 42), kI G (q0 43) 8192 (gA o0 43), kI G (q0 44) 8192 (gA o0 44)]) C (c_Md_isPiece (h0 := h0) (q0 := q0) H.size h) wv_Md_169 ⟨Nat.le_of_ble_eq_true rfl, Nat.le_of_ble_eq_true rfl⟩ hP hD hS 0 rfl rfl [0, 1, 2, 3, 4, 5, 6, 7, 8, 9, 10, 11, 12, 13, 14, 15, 16] [] rfl rfl (by decide) (by decide) (by decide) [0, 1, 2, 3, 4, 5, 6, 7, 8, 9, 10, 11, 12, 13, 14, 15, 16] (by decide) (fun u => rfl) rfl hl.1 rfl (lv_room (Nat.le_of_ble_eq_true rfl)) d_Md_wave_2 ⟨Nat.le_of_ble_eq_true rfl, Nat.le_of_ble_eq_true rfl⟩ rfl rfl (fun z1 u H locs h hP hD hS => ?_)
  have hP : va_P G.1 CL [(h0, .inr (11, [.int (gI o0 0), .ref (q0 1), .ref (q0 2), .ref (q0 3), .ref (q0 4), .ref (q0 5), .ref (q0 6), .int (gI o0 7), .int (gI o0 8), .int (gI o0 9), .int (gI o0 10), .int (gI o0 11), .int (gI o0 12), .int (gI o0 13), .int (gI o0 14), .long (gL o0 15), .int (gI o0 16), .int (gI o0 17), .int (gI o0 18), .int (gI o0 19), .int (gI o0 20), .int (gI o0 21), .int (gI o0 22), .int (gI o0 23), .int (gI o0 24), .int (gI o0 25), .int (gI o0 26), .int (gI o0 27), .ref (q0 28), .long (gL o0 29), .int (gI o0 30), .ref (q0 31), .ref (q0 32), .ref (q0 33), .int (gI o0 34), .int (gI o0 35), .int (gI o0 36), .int (gI o0 37), .ref (q0 38), .ref (q0 39), .int (gI o0 40), .ref (q0 41), .ref (q0 42), .ref (q0 43), .ref (q0 44)])), kI G (q0 1) 6100 (gA o0 1), kI G (q0 2) 6100 (gA o0 2), kJ G (q0 3) 2016 (gB o0 3), kJ G (q0 4) 2016 (gB o0 4), kI G (q0 5) 300 (gA o0 5), kI G (q0 6) 400 (gA o0 6), kJ G (q0 28) 10 (gB o0 28), kI G (q0 31) 969 (gA o0 31), kI G (q0 32) 969 (gA o0 32), kI G (q0 33) 969 (gA o0 33), kI G (q0 38) 5 (gA o0 38), kI G (q0 39) 5120 (gA o0 39), kI G (q0 41) 5 (gA o0 41), kZ G (q0 42) 1024 (gA o0 42), kI G (q0 43) 8192 (gA o0 43), kI G (q0 44) 8192 (gA o0 44)] H := hP
  have hD : va_D A [(h0, .inr (11, [.int (gI o0 0), .ref (q0 1), .ref (q0 2), .ref (q0 3), .ref (q0 4), .ref (q0 5), .ref (q0 6), .int (gI o0 7), .int (gI o0 8), .int (gI o0 9), .int (gI o0 10), .int (gI o0 11), .int (gI o0 12), .int (gI o0 13), .int (gI o0 14), .long (gL o0 15), .int (gI o0 16), .int (gI o0 17), .int (gI o0 18), .int (gI o0 19), .int (gI o0 20), .int (gI o0 21), .int (gI o0 22), .int (gI o0 23), .int (gI o0 24), .int (gI o0 25), .int (gI o0 26), .int (gI o0 27), .ref (q0 28), .long (gL o0 29), .int (gI o0 30), .ref (q0 31), .ref (q0 32), .ref (q0 33), .int (gI o0 34), .int (gI o0 35), .int (gI o0 36), .int (gI o0 37), .ref (q0 38), .ref (q0 39), .int (gI o0 40), .ref (q0 41), .ref (q0 42), .ref (q0 43), .ref (q0 44)])), kI G (q0 1) 6100 (gA o0 1), kI G (q0 2) 6100 (gA o0 2), kJ G (q0 3) 2016 (gB o0 3), kJ G (q0 4) 2016 (gB o0 4), kI G (q0 5) 300 (gA o0 5), kI G (q0 6) 400 (gA o0 6), kJ G (q0 28) 10 (gB o0 28), kI G (q0 31) 969 (gA o0 31), kI G (q0 32) 969 (gA o0 32), kI G (q0 33) 969 (gA o0 33), kI G (q0 38) 5 (gA o0 38), kI G (q0 39) 5120 (gA o0 39), kI G (q0 41) 5 (gA o0 41), kZ G (q0 42) 1024 (gA o0 42), kI G (q0 43) 8192 (gA o0 43), kI G (q0 44) 8192 (gA o0 44)] := hD
  refine lv_if_eq (tgt := 27) hx hb d_Md_wave_5 (by decide) (fun c2 => ?_) (fun c2 => ?_)
  · have h := h.1 c2
    refine lv_lconst (v := (0 : Int64)) hx hb d_Md_wave_27 (by decide) ?_
    have hP : va_P G.1 CL (cw_Md G h0 q0 o0) H := hP
    have hD : va_D A (cw_Md G h0 q0 o0) := hD
    exact W.lret (v := (0 : Int64)) hx hb hr (fun t ht hW => ⟨⟨(0 : Int64), (), rfl, h, by rw [ht]; exact hP, va_K.moved hW.alike hK, hD⟩, hS.F ht⟩) hS.2.2 d_Md_wave_28
  · have h := h.2 c2
    refine lv_aload_n hx hb d_Md_wave_8 rfl (lv_at hl 0 rfl) ?_
    refine va_get (D := G.1) (ci := 11) (v := .ref (q0 3)) (C := R_Md) (T := T_Md) (N := 45) hx hb hts i_Md hown hK hP 0 rfl rfl 3 (by decide) (hts _ wf_Md_16) (fun _ h9 => h9) rfl d_Md_wave_9 ?_
    refine lv_iload_n hx hb d_Md_wave_12 rfl (lv_at hl 2 rfl) ?_
    refine lv_if_eq (tgt := 20) hx hb d_Md_wave_13 (by decide) (fun c3 => ?_) (fun c3 => ?_)
    · have h := h.1 c3
      refine lv_iconst (v := (5 : Int32)) hx hb d_Md_wave_20 (by decide) ?_
      refine lv_iload_n hx hb d_Md_wave_21 rfl (lv_at hl 1 rfl) ?_
      refine lv_iadd hx hb d_Md_wave_22 ?_
      have g4 := h.1
      have h := h.2
      refine xa_lald hx hb hK hP 3 1 rfl rfl g4 (k := ((5 : Int32) + a0).toNatClampNeg) rfl d_Md_wave_23 ?_
      refine lv_goto (tgt := 28) hx hb d_Md_wave_24 (by decide) ?_
      have hP : va_P G.1 CL (cw_Md G h0 q0 o0) H := hP
      have hD : va_D A (cw_Md G h0 q0 o0) := hD
      exact W.lret (v := ((gB o0 3) (((5 : Int32) + a0).toNatClampNeg))) hx hb hr (fun t ht hW => ⟨⟨((gB o0 3) (((5 : Int32) + a0).toNatClampNeg)), (), rfl, h, by rw [ht]; exact hP, va_K.moved hW.alike hK, hD⟩, hS.F ht⟩) hS.2.2 d_Md_wave_28
    · have h := h.2 c3
      refine lv_iconst (v := (0 : Int32)) hx hb d_Md_wave_16 (by decide) ?_
      refine lv_goto (tgt := 21) hx hb d_Md_wave_17 (by decide) ?_
      refine lv_iload_n hx hb d_Md_wave_21 rfl (lv_at hl 1 rfl) ?_
      refine lv_iadd hx hb d_Md_wave_22 ?_
      have g5 := h.1
      have h := h.2
      refine xa_lald hx hb hK hP 3 1 rfl rfl g5 (k := ((0 : Int32) + a0).toNatClampNeg) rfl d_Md_wave_23 ?_
      refine lv_goto (tgt := 28) hx hb d_Md_wave_24 (by decide) ?_
      have hP : va_P G.1 CL (cw_Md G h0 q0 o0) H := hP
      have hD : va_D A (cw_Md G h0 q0 o0) := hD
      exact W.lret (v := ((gB o0 3) (((0 : Int32) + a0).toNatClampNeg))) hx hb hr (fun t ht hW => ⟨⟨((gB o0 3) (((0 : Int32) + a0).toNatClampNeg)), (), rfl, h, by rw [ht]; exact hP, va_K.moved hW.alike hK, hD⟩, hS.F ht⟩) hS.2.2 d_Md_wave_28
abbrev b_Md_left : ByteArray := prog_14_method_41_code
def y_Md_left : MethodName := ⟨R_Md, "left", "(I)J"⟩
abbrev w_Md_left : List Cond := Cond.code y_Md_left b_Md_left 2 (some .long) :: gw_tbl
theorem d_Md_left_0 : decode b_Md_left 0 = .ok (.iload_n 1, 1) := by decide +kernel
theorem d_Md_left_1 : decode b_Md_left 1 = .ok (.iconst 0, 1) := by decide +kernel
theorem d_Md_left_2 : decode b_Md_left 2 = .ok (.aload_n 0, 1) := by decide +kernel
theorem d_Md_left_3 : decode b_Md_left 3 = .ok (.getfield 67, 3) := by decide +kernel
theorem d_Md_left_6 : decode b_Md_left 6 = .ok (.iconst 2, 1) := by decide +kernel
theorem d_Md_left_7 : decode b_Md_left 7 = .ok (.isub, 1) := by decide +kernel
theorem d_Md_left_8 : decode b_Md_left 8 = .ok (.invokestatic 76, 3) := by decide +kernel
theorem d_Md_left_11 : decode b_Md_left 11 = .ok (.ifCond .eq 15, 3) := by decide +kernel
theorem d_Md_left_14 : decode b_Md_left 14 = .ok (.aload_n 0, 1) := by decide +kernel
theorem d_Md_left_15 : decode b_Md_left 15 = .ok (.getfield 16, 3) := by decide +kernel
theorem d_Md_left_18 : decode b_Md_left 18 = .ok (.bipush 10, 2) := by decide +kernel
theorem d_Md_left_20 : decode b_Md_left 20 = .ok (.iload_n 1, 1) := by decide +kernel
theorem d_Md_left_21 : decode b_Md_left 21 = .ok (.iadd, 1) := by decide +kernel
theorem d_Md_left_22 : decode b_Md_left 22 = .ok (.laload, 1) := by decide +kernel
theorem d_Md_left_23 : decode b_Md_left 23 = .ok (.goto 38, 3) := by decide +kernel
theorem d_Md_left_26 : decode b_Md_left 26 = .ok (.iload_n 1, 1) := by decide +kernel
theorem d_Md_left_27 : decode b_Md_left 27 = .ok (.bipush 10, 2) := by decide +kernel
theorem d_Md_left_29 : decode b_Md_left 29 = .ok (.if_icmp .ne 13, 3) := by decide +kernel
theorem d_Md_left_32 : decode b_Md_left 32 = .ok (.aload_n 0, 1) := by decide +kernel
theorem d_Md_left_33 : decode b_Md_left 33 = .ok (.getfield 16, 3) := by decide +kernel
theorem d_Md_left_36 : decode b_Md_left 36 = .ok (.bipush 14, 2) := by decide +kernel
theorem d_Md_left_38 : decode b_Md_left 38 = .ok (.laload, 1) := by decide +kernel
theorem d_Md_left_39 : decode b_Md_left 39 = .ok (.goto 22, 3) := by decide +kernel
theorem d_Md_left_42 : decode b_Md_left 42 = .ok (.iload_n 1, 1) := by decide +kernel
theorem d_Md_left_43 : decode b_Md_left 43 = .ok (.bipush 11, 2) := by decide +kernel
theorem d_Md_left_45 : decode b_Md_left 45 = .ok (.if_icmp .ne 13, 3) := by decide +kernel
theorem d_Md_left_48 : decode b_Md_left 48 = .ok (.aload_n 0, 1) := by decide +kernel
theorem d_Md_left_49 : decode b_Md_left 49 = .ok (.getfield 16, 3) := by decide +kernel
theorem d_Md_left_52 : decode b_Md_left 52 = .ok (.bipush 15, 2) := by decide +kernel
theorem d_Md_left_54 : decode b_Md_left 54 = .ok (.laload, 1) := by decide +kernel
theorem d_Md_left_55 : decode b_Md_left 55 = .ok (.goto 6, 3) := by decide +kernel
theorem d_Md_left_58 : decode b_Md_left 58 = .ok (.ldc2_w 242, 3) := by decide +kernel
theorem d_Md_left_61 : decode b_Md_left 61 = .ok (.lreturn, 1) := by decide +kernel
theorem wc_Md_242 : Cond.constantLong R_Md 242 (-1) ∈ gw_tbl := gw_tb (List.mem_of_getElem? (i := 1261) (by decide +kernel)) rfl
def f_Md_left (a0 : Int32) (o0 : Ob) (Q : Int64 → Prop) : Prop := f_Md_isIn a0 (0 : Int32) ((gI o0 0) - (2 : Int32)) (fun z1 => (z1 = 0 → ((a0 = (10 : Int32) → (Q ((gB o0 3) 14))) ∧ (¬ a0 = (10 : Int32) → ((a0 = (11 : Int32) → (Q ((gB o0 3) 15))) ∧ (¬ a0 = (11 : Int32) → (Q (-1 : Int64))))))) ∧ (¬ z1 = 0 → ((vp_in ((10 : Int32) + a0) 2016) ∧ (∀ y6 : Int64, y6 = ((gB o0 3) (((10 : Int32) + a0).toNatClampNeg)) → (Q y6)))))
abbrev rm_Md_left : Room := { frames := 1, cells := 0, slots := 0, locals := 22 }
set_option maxHeartbeats 4000000 in
set_option maxRecDepth 100000 in
theorem c_Md_left {l : Launch} {G : Gl} {h0 : Nat} {q0 : Nat → Nat} {a0 : Int32} {o0 : Ob} {Q : Int64 → Prop} (sz : Nat) (h : f_Md_left a0 o0 Q) : Met l y_Md_left w_Md_left rm_Md_left (PcW G [.ref h0, .int a0] sz (cw_Md G h0 q0 o0)) (va_Ql (fun (r : Int64) (u : Unit) => Q r) (fun (u : Unit) t => BW G (va_A (cw_Md G h0 q0 o0) sz) (cw_Md G h0 q0 o0) t) (va_A (cw_Md G h0 q0 o0) sz)) 0 0 (va_A (cw_Md G h0 q0 o0) sz) := by
  refine Met.ofW (cc := b_Md_left) (maxL := 2) (ret := (some .long)) (by decide +kernel) rfl ?_
  intro p e s m args below meth c s₁ B hml hv
  obtain ⟨rfl, hsz, hP, hK, hD0, hE⟩ := hv
  have hx := B.exec
  have hb := B.bytes
  have hr := B.returns
  have hts0 := atoms_spec (ws := w_Md_left) B.pre
  have hts : ∀ w ∈ gw_tbl, w.before ([.ref h0, .int a0]).toArray s = true := fun w hw => hts0 w (List.mem_cons_of_mem _ hw)
  have hown : s.vm.findClass R_Md = some m.cls := findClass_of_methodNamed B.named
  have hlocks := B.notSynchronized
  subst hsz
  have hD := hD0.self (sz := s.heap.size)
  generalize hAe : va_A (cw_Md G h0 q0 o0) s.heap.size = A at hD hE ⊢
  have hA : ∀ q : Nat, s.heap.size ≤ q → A q := fun q h => by rw [← hAe]; exact Or.inr h
  have hS : va_S A s.heap s.heap [] := va_S.rf
  have C : Cx p s m ([.ref h0, .int a0]).toArray meth c R_Md b_Md_left 2 (some .long) G A := ⟨hx, hb, hml, hown, hr, hts, hK, hA, hlocks, hE⟩
  have hl := lv_entry ([.ref h0, .int a0]) (n := 2) (Nat.le_of_ble_eq_true rfl)
  rw [lg_entry_eq]
  generalize (lg_sl ([.ref h0, .int a0]) ++ List.replicate (2 - (lg_sl ([.ref h0, .int a0])).length) Slot.unset).toArray = ls at hl ⊢
  have hl : lv_has ls 2 [(0, .ref h0), (1, .int a0)] := hl
  have hD : va_D A [(h0, .inr (11, [.int (gI o0 0), .ref (q0 1), .ref (q0 2), .ref (q0 3), .ref (q0 4), .ref (q0 5), .ref (q0 6), .int (gI o0 7), .int (gI o0 8), .int (gI o0 9), .int (gI o0 10), .int (gI o0 11), .int (gI o0 12), .int (gI o0 13), .int (gI o0 14), .long (gL o0 15), .int (gI o0 16), .int (gI o0 17), .int (gI o0 18), .int (gI o0 19), .int (gI o0 20), .int (gI o0 21), .int (gI o0 22), .int (gI o0 23), .int (gI o0 24), .int (gI o0 25), .int (gI o0 26), .int (gI o0 27), .ref (q0 28), .long (gL o0 29), .int (gI o0 30), .ref (q0 31), .ref (q0 32), .ref (q0 33), .int (gI o0 34), .int (gI o0 35), .int (gI o0 36), .int (gI o0 37), .ref (q0 38), .ref (q0 39), .int (gI o0 40), .ref (q0 41), .ref (q0 42), .ref (q0 43), .ref (q0 44)])), kI G (q0 1) 6100 (gA o0 1), kI G (q0 2) 6100 (gA o0 2), kJ G (q0 3) 2016 (gB o0 3), kJ G (q0 4) 2016 (gB o0 4), kI G (q0 5) 300 (gA o0 5), kI G (q0 6) 400 (gA o0 6), kJ G (q0 28) 10 (gB o0 28), kI G (q0 31) 969 (gA o0 31), kI G (q0 32) 969 (gA o0 32), kI G (q0 33) 969 (gA o0 33), kI G (q0 38) 5 (gA o0 38), kI G (q0 39) 5120 (gA o0 39), kI G (q0 41) 5 (gA o0 41), kZ G (q0 42) 1024 (gA o0 42), kI G (q0 43) 8192 (gA o0 43), kI G (q0 44) 8192 (gA o0 44)] := hD
  unfold f_Md_left at h
  suffices key : ∀ (H : Heap) (locs : List Loc), va_P G.1 CL [(h0, .inr (11, [.int (gI o0 0), .ref (q0 1), .ref (q0 2), .ref (q0 3), .ref (q0 4), .ref (q0 5), .ref (q0 6), .int (gI o0 7), .int (gI o0 8), .int (gI o0 9), .int (gI o0 10), .int (gI o0 11), .int (gI o0 12), .int (gI o0 13), .int (gI o0 14), .long (gL o0 15), .int (gI o0 16), .int (gI o0 17), .int (gI o0 18), .int (gI o0 19), .int (gI o0 20), .int (gI o0 21), .int (gI o0 22), .int (gI o0 23), .int (gI o0 24), .int (gI o0 25), .int (gI o0 26), .int (gI o0 27), .ref (q0 28), .long (gL o0 29), .int (gI o0 30), .ref (q0 31), .ref (q0 32), .ref (q0 33), .int (gI o0 34), .int (gI o0 35), .int (gI o0 36), .int (gI o0 37), .ref (q0 38), .ref (q0 39), .int (gI o0 40), .ref (q0 41), .ref (q0 42), .ref (q0 43), .ref (q0 44)])), kI G (q0 1) 6100 (gA o0 1), kI G (q0 2) 6100 (gA o0 2), kJ G (q0 3) 2016 (gB o0 3), kJ G (q0 4) 2016 (gB o0 4), kI G (q0 5) 300 (gA o0 5), kI G (q0 6) 400 (gA o0 6), kJ G (q0 28) 10 (gB o0 28), kI G (q0 31) 969 (gA o0 31), kI G (q0 32) 969 (gA o0 32), kI G (q0 33) 969 (gA o0 33), kI G (q0 38) 5 (gA o0 38), kI G (q0 39) 5120 (gA o0 39), kI G (q0 41) 5 (gA o0 41), kZ G (q0 42) 1024 (gA o0 42), kI G (q0 43) 8192 (gA o0 43), kI G (q0 44) 8192 (gA o0 44)] H → va_S A s.heap H locs → W p l e rm_Md_left s m ([.ref h0, .int a0]).toArray below meth c H locs 0 0 (MQ below (va_Ql (fun (r : Int64) (u : Unit) => Q r) (fun (u : Unit) t => BW G A (cw_Md G h0 q0 o0) t) A) ([.ref h0, .int a0]).toArray s 0 0 A) (F0 m 0 ls []) from key s.heap [] hP hS
  intro H locs hP hS
  refine lv_iload_n hx hb d_Md_left_0 rfl (lv_at hl 1 rfl) ?_
  refine lv_iconst (v := (0 : Int32)) hx hb d_Md_left_1 (by decide) ?_
  refine lv_aload_n hx hb d_Md_left_2 rfl (lv_at hl 0 rfl) ?_
  refine va_get (D := G.1) (ci := 11) (v := .int (gI o0 0)) (C := R_Md) (T := T_Md) (N := 45) hx hb hts i_Md hown hK hP 0 rfl rfl 0 (by decide) (hts _ wf_Md_67) (fun _ h9 => h9) rfl d_Md_left_3 ?_
  refine lv_iconst (v := (2 : Int32)) hx hb d_Md_left_6 (by decide) ?_
  refine lv_isub hx hb d_Md_left_7 ?_
  refine cl_Si (b := b_Md_left) (As := [.int a0, .int (0 : Int32), .int ((gI o0 0) - (2 : Int32))]) (rest := []) (ws := [(h0, .inr (11, [.int (gI o0 0), .ref (q0 1), .ref (q0 2), .ref (q0 3), .ref (q0 4), .ref (q0 5), .ref (q0 6), .int (gI o0 7), .int (gI o0 8), .int (gI o0 9), .int (gI o0 10), .int (gI o0 11), .int (gI o0 12), .int (gI o0 13), .int (gI o0 14), .long (gL o0 15), .int (gI o0 16), .int (gI o0 17), .int (gI o0 18), .int (gI o0 19), .int (gI o0 20), .int (gI o0 21), .int (gI o0 22), .int (gI o0 23), .int (gI o0 24), .int (gI o0 25), .int (gI o0 26), .int (gI o0 27), .ref (q0 28), .long (gL o0 29), .int (gI o0 30), .ref (q0 31), .ref (q0 32), .ref (q0 33), .int (gI o0 34), .int (gI o0 35), .int (gI o0 36), .int (gI o0 37), .ref (q0 38), .ref (q0 39), .int (gI o0 40), .ref (q0 41), .ref (q0 42), .ref (q0 43), .ref (q0 44)])), kI G (q0 1) 6100 (gA o0 1), kI G (q0 2) 6100 (gA o0 2), kJ G (q0 3) 2016 (gB o0 3), kJ G (q0 4) 2016 (gB o0 4), kI G (q0 5) 300 (gA o0 5), kI G (q0 6) 400 (gA o0 6), kJ G (q0 28) 10 (gB o0 28), kI G (q0 31) 969 (gA o0 31), kI G (q0 32) 969 (gA o0 32), kI G (q0 33) 969 (gA o0 33), kI G (q0 38) 5 (gA o0 38), kI G (q0 39) 5120 (gA o0 39), kI G (q0 41) 5 (gA o0 41), kZ G (q0 42) 1024 (gA o0 42), kI G (q0 43) 8192 (gA o0 43), kI G (q0 44) 8192 (gA o0 44)]) (wr := [(h0, .inr (11, [.int (gI o0 0), .ref (q0 1), .ref (q0 2), .ref (q0 3), .ref (q0 4), .ref (q0 5), .ref (q0 6), .int (gI o0 7), .int (gI o0 8), .int (gI o0 9), .int (gI o0 10), .int (gI o0 11), .int (gI o0 12), .int (gI o0 13), .int (gI o0 14), .long (gL o0 15), .int (gI o0 16), .int (gI o0 17), .int (gI o0 18), .int (gI o0 19), .int (gI o0 20), .int (gI o0 21), .int (gI o0 22), .int (gI o0 23), .int (gI o0 24), .int (gI o0 25), .int (gI o0 26), .int (gI o0 27), .ref (q0 28), .long (gL o0 29), .int (gI o0 30), .ref (q0 31), .ref (q0 32), .ref (q0 33), .int (gI o0 34), .int (gI o0 35), .int (gI o0 36), .int (gI o0 37), .ref (q0 38), .ref (q0 39), .int (gI o0 40), .ref (q0 41), .ref (q0 42), .ref (q0 43), .ref (q0 44)])), kI G (q0 1) 6100 (gA o0 1), kI G (q0 2) 6100 (gA o0 2), kJ G (q0 3) 2016 (gB o0 3), kJ G (q0 4) 2016 (gB o0 4), kI G (q0 5) 300 (gA o0 5), kI G (q0 6) 400 (gA o0 6), kJ G (q0 28) 10 (gB o0 28), kI G (q0 31) 969 (gA o0 31), kI G (q0 32) 969 (gA o0 32), kI G (q0 33) 969 (gA o0 33), kI G (q0 38) 5 (gA o0 38), kI G (q0 39) 5120 (gA o0 39), kI G (q0 41) 5 (gA o0 41), kZ G (q0 42) 1024 (gA o0 42), kI G (q0 43) 8192 (gA o0 43), kI G (q0 44) 8192 (gA o0 44)]) (w2 := fun (u : Unit) => [(h0, .inr (11, [.int (gI o0 0), .ref (q0 1), .ref (q0 2), .ref (q0 3), .ref (q0 4), .ref (q0 5), .ref (q0 6), .int (gI o0 7), .int (gI o0 8), .int (gI o0 9), .int (gI o0 10), .int (gI o0 11), .int (gI o0 12), .int (gI o0 13), .int (gI o0 14), .long (gL o0 15), .int (gI o0 16), .int (gI o0 17), .int (gI o0 18), .int (gI o0 19), .int (gI o0 20), .int (gI o0 21), .int (gI o0 22), .int (gI o0 23), .int (gI o0 24), .int (gI o0 25), .int (gI o0 26), .int (gI o0 27), .ref (q0 28), .long (gL o0 29), .int (gI o0 30), .ref (q0 31), .ref (q0 32), .ref (q0 33), .int (gI o0 34), .int (gI o0 35), .int (gI o0 36), .int (gI o0 37), .ref (q0 38), .ref (q0 39), .int (gI o0 40), .ref (q0 41), .ref (q0 42), .ref (q0 43), .ref (q0 44)])), kI G (q0 1) 6100 (gA o0 1), kI G (q0 2) 6100 (gA o0 2), kJ G (q0 3) 2016 (gB o0 3), kJ G (q0 4) 2016 (gB o0 4), kI G (q0 5) 300 (gA o0 5), kI G (q0 6) 400 (gA o0 6), kJ G (q0 28) 10 (gB o0 28), kI G (q0 31) 969 (gA o0 31), kI G (q0 32) 969 (gA o0 32), kI G (q0 33) 969 (gA o0 33), kI G (q0 38) 5 (gA o0 38), kI G (q0 39) 5120 (gA o0 39), kI G (q0 41) 5 (gA o0 41), kZ G (q0 42) 1024 (gA o0 42), kI G (q0 43) 8192 (gA o0 43), kI G (q0 44) 8192 (gA o0 44)]) C (c_Md_isIn H.size h) ws_Md_76 ⟨Nat.le_of_ble_eq_true rfl, Nat.le_of_ble_eq_true rfl⟩ hP hD hS [] [0, 1, 2, 3, 4, 5, 6, 7, 8, 9, 10, 11, 12, 13, 14, 15, 16] rfl rfl (by decide) (by decide) (by decide) [0, 1, 2, 3, 4, 5, 6, 7, 8, 9, 10, 11, 12, 13, 14, 15, 16] (by decide) (fun u => rfl) rfl hl.1 rfl (lv_room (Nat.le_of_ble_eq_true rfl)) d_Md_left_8 ⟨Nat.le_of_ble_eq_true rfl, Nat.le_of_ble_eq_true rfl⟩ rfl rfl (fun z1 u H locs h hP hD hS => ?_)
  have hP : va_P G.1 CL [(h0, .inr (11, [.int (gI o0 0), .ref (q0 1), .ref (q0 2), .ref (q0 3), .ref (q0 4), .ref (q0 5), .ref (q0 6), .int (gI o0 7), .int (gI o0 8), .int (gI o0 9), .int (gI o0 10), .int (gI o0 11), .int (gI o0 12), .int (gI o0 13), .int (gI o0 14), .long (gL o0 15), .int (gI o0 16), .int (gI o0 17), .int (gI o0 18), .int (gI o0 19), .int (gI o0 20), .int (gI o0 21), .int (gI o0 22), .int (gI o0 23), .int (gI o0 24), .int (gI o0 25), .int (gI o0 26), .int (gI o0 27), .ref (q0 28), .long (gL o0 29), .int (gI o0 30), .ref (q0 31), .ref (q0 32), .ref (q0 33), .int (gI o0 34), .int (gI o0 35), .int (gI o0 36), .int (gI o0 37), .ref (q0 38), .ref (q0 39), .int (gI o0 40), .ref (q0 41), .ref (q0 42), .ref (q0 43), .ref (q0 44)])), kI G (q0 1) 6100 (gA o0 1), kI G (q0 2) 6100 (gA o0 2), kJ G (q0 3) 2016 (gB o0 3), kJ G (q0 4) 2016 (gB o0 4), kI G (q0 5) 300 (gA o0 5), kI G (q0 6) 400 (gA o0 6), kJ G (q0 28) 10 (gB o0 28), kI G (q0 31) 969 (gA o0 31), kI G (q0 32) 969 (gA o0 32), kI G (q0 33) 969 (gA o0 33), kI G (q0 38) 5 (gA o0 38), kI G (q0 39) 5120 (gA o0 39), kI G (q0 41) 5 (gA o0 41), kZ G (q0 42) 1024 (gA o0 42), kI G (q0 43) 8192 (gA o0 43), kI G (q0 44) 8192 (gA o0 44)] H := hP
  have hD : va_D A [(h0, .inr (11, [.int (gI o0 0), .ref (q0 1), .ref (q0 2), .ref (q0 3), .ref (q0 4), .ref (q0 5), .ref (q0 6), .int (gI o0 7), .int (gI o0 8), .int (gI o0 9), .int (gI o0 10), .int (gI o0 11), .int (gI o0 12), .int (gI o0 13), .int (gI o0 14), .long (gL o0 15), .int (gI o0 16), .int (gI o0 17), .int (gI o0 18), .int (gI o0 19), .int (gI o0 20), .int (gI o0 21), .int (gI o0 22), .int (gI o0 23), .int (gI o0 24), .int (gI o0 25), .int (gI o0 26), .int (gI o0 27), .ref (q0 28), .long (gL o0 29), .int (gI o0 30), .ref (q0 31), .ref (q0 32), .ref (q0 33), .int (gI o0 34), .int (gI o0 35), .int (gI o0 36), .int (gI o0 37), .ref (q0 38), .ref (q0 39), .int (gI o0 40), .ref (q0 41), .ref (q0 42), .ref (q0 43), .ref (q0 44)])), kI G (q0 1) 6100 (gA o0 1), kI G (q0 2) 6100 (gA o0 2), kJ G (q0 3) 2016 (gB o0 3), kJ G (q0 4) 2016 (gB o0 4), kI G (q0 5) 300 (gA o0 5), kI G (q0 6) 400 (gA o0 6), kJ G (q0 28) 10 (gB o0 28), kI G (q0 31) 969 (gA o0 31), kI G (q0 32) 969 (gA o0 32), kI G (q0 33) 969 (gA o0 33), kI G (q0 38) 5 (gA o0 38), kI G (q0 39) 5120 (gA o0 39), kI G (q0 41) 5 (gA o0 41), kZ G (q0 42) 1024 (gA o0 42), kI G (q0 43) 8192 (gA o0 43), kI G (q0 44) 8192 (gA o0 44)] := hD
  refine lv_if_eq (tgt := 26) hx hb d_Md_left_11 (by decide) (fun c2 => ?_) (fun c2 => ?_)
  · have h := h.1 c2
    refine lv_iload_n hx hb d_Md_left_26 rfl (lv_at hl 1 rfl) ?_
    refine lv_bipush (v := (10 : Int32)) hx hb d_Md_left_27 (by decide) ?_
    refine lv_icmp_ne (tgt := 42) hx hb d_Md_left_29 (by decide) (fun c3 => ?_) (fun c3 => ?_)
    · have h := h.2 c3
      refine lv_iload_n hx hb d_Md_left_42 rfl (lv_at hl 1 rfl) ?_
      refine lv_bipush (v := (11 : Int32)) hx hb d_Md_left_43 (by decide) ?_
      refine lv_icmp_ne (tgt := 58) hx hb d_Md_left_45 (by decide) (fun c4 => ?_) (fun c4 => ?_)
      · have h := h.2 c4
        refine lv_ldc2 hx hb hown (hts _ wc_Md_242) d_Md_left_58 ?_
        have hP : va_P G.1 CL (cw_Md G h0 q0 o0) H := hP
        have hD : va_D A (cw_Md G h0 q0 o0) := hD
        exact W.lret (v := (-1 : Int64)) hx hb hr (fun t ht hW => ⟨⟨(-1 : Int64), (), rfl, h, by rw [ht]; exact hP, va_K.moved hW.alike hK, hD⟩, hS.F ht⟩) hS.2.2 d_Md_left_61
      · have h := h.1 c4
        refine lv_aload_n hx hb d_Md_left_48 rfl (lv_at hl 0 rfl) ?_
        refine va_get (D := G.1) (ci := 11) (v := .ref (q0 3)) (C := R_Md) (T := T_Md) (N := 45) hx hb hts i_Md hown hK hP 0 rfl rfl 3 (by decide) (hts _ wf_Md_16) (fun _ h9 => h9) rfl d_Md_left_49 ?_
        refine lv_bipush (v := (15 : Int32)) hx hb d_Md_left_52 (by decide) ?_
        refine xa_lald hx hb hK hP 3 1 rfl rfl (vp_lit rfl) (k := 15) rfl d_Md_left_54 ?_
        refine lv_goto (tgt := 61) hx hb d_Md_left_55 (by decide) ?_
        have hP : va_P G.1 CL (cw_Md G h0 q0 o0) H := hP
        have hD : va_D A (cw_Md G h0 q0 o0) := hD
        exact W.lret (v := ((gB o0 3) 15)) hx hb hr (fun t ht hW => ⟨⟨((gB o0 3) 15), (), rfl, h, by rw [ht]; exact hP, va_K.moved hW.alike hK, hD⟩, hS.F ht⟩) hS.2.2 d_Md_left_61
    · have h := h.1 c3
      refine lv_aload_n hx hb d_Md_left_32 rfl (lv_at hl 0 rfl) ?_
      refine va_get (D := G.1) (ci := 11) (v := .ref (q0 3)) (C := R_Md) (T := T_Md) (N := 45) hx hb hts i_Md hown hK hP 0 rfl rfl 3 (by decide) (hts _ wf_Md_16) (fun _ h9 => h9) rfl d_Md_left_33 ?_
      refine lv_bipush (v := (14 : Int32)) hx hb d_Md_left_36 (by decide) ?_
      refine xa_lald hx hb hK hP 3 1 rfl rfl (vp_lit rfl) (k := 14) rfl d_Md_left_38 ?_
      refine lv_goto (tgt := 61) hx hb d_Md_left_39 (by decide) ?_
      have hP : va_P G.1 CL (cw_Md G h0 q0 o0) H := hP
      have hD : va_D A (cw_Md G h0 q0 o0) := hD
      exact W.lret (v := ((gB o0 3) 14)) hx hb hr (fun t ht hW => ⟨⟨((gB o0 3) 14), (), rfl, h, by rw [ht]; exact hP, va_K.moved hW.alike hK, hD⟩, hS.F ht⟩) hS.2.2 d_Md_left_61
  · have h := h.2 c2
    refine lv_aload_n hx hb d_Md_left_14 rfl (lv_at hl 0 rfl) ?_
    refine va_get (D := G.1) (ci := 11) (v := .ref (q0 3)) (C := R_Md) (T := T_Md) (N := 45) hx hb hts i_Md hown hK hP 0 rfl rfl 3 (by decide) (hts _ wf_Md_16) (fun _ h9 => h9) rfl d_Md_left_15 ?_
    refine lv_bipush (v := (10 : Int32)) hx hb d_Md_left_18 (by decide) ?_
    refine lv_iload_n hx hb d_Md_left_20 rfl (lv_at hl 1 rfl) ?_
    refine lv_iadd hx hb d_Md_left_21 ?_
    have g5 := h.1
    have h := h.2
    refine xa_lald hx hb hK hP 3 1 rfl rfl g5 (k := ((10 : Int32) + a0).toNatClampNeg) rfl d_Md_left_22 ?_
    refine lv_topl (fun y6 ey6 => ?_)
    have h := h y6 ey6
    refine lv_goto (tgt := 61) hx hb d_Md_left_23 (by decide) ?_
    have hP : va_P G.1 CL (cw_Md G h0 q0 o0) H := hP
    have hD : va_D A (cw_Md G h0 q0 o0) := hD
    exact W.lret (v := y6) hx hb hr (fun t ht hW => ⟨⟨y6, (), rfl, h, by rw [ht]; exact hP, va_K.moved hW.alike hK, hD⟩, hS.F ht⟩) hS.2.2 d_Md_left_61
abbrev b_Md_foldsOf : ByteArray := prog_14_method_42_code
def y_Md_foldsOf : MethodName := ⟨R_Md, "foldsOf", "(I)I"⟩
abbrev w_Md_foldsOf : List Cond := Cond.code y_Md_foldsOf b_Md_foldsOf 2 (some .int) :: gw_tbl
theorem d_Md_foldsOf_0 : decode b_Md_foldsOf 0 = .ok (.iload_n 1, 1) := by decide +kernel
theorem d_Md_foldsOf_1 : decode b_Md_foldsOf 1 = .ok (.iconst 0, 1) := by decide +kernel
theorem d_Md_foldsOf_2 : decode b_Md_foldsOf 2 = .ok (.iconst 3, 1) := by decide +kernel
theorem d_Md_foldsOf_3 : decode b_Md_foldsOf 3 = .ok (.invokestatic 76, 3) := by decide +kernel
theorem d_Md_foldsOf_6 : decode b_Md_foldsOf 6 = .ok (.ifCond .eq 15, 3) := by decide +kernel
theorem d_Md_foldsOf_9 : decode b_Md_foldsOf 9 = .ok (.aload_n 0, 1) := by decide +kernel
theorem d_Md_foldsOf_10 : decode b_Md_foldsOf 10 = .ok (.getfield 7, 3) := by decide +kernel
theorem d_Md_foldsOf_13 : decode b_Md_foldsOf 13 = .ok (.bipush 7, 2) := by decide +kernel
theorem d_Md_foldsOf_15 : decode b_Md_foldsOf 15 = .ok (.iload_n 1, 1) := by decide +kernel
theorem d_Md_foldsOf_16 : decode b_Md_foldsOf 16 = .ok (.iadd, 1) := by decide +kernel
theorem d_Md_foldsOf_17 : decode b_Md_foldsOf 17 = .ok (.iaload, 1) := by decide +kernel
theorem d_Md_foldsOf_18 : decode b_Md_foldsOf 18 = .ok (.goto 5, 3) := by decide +kernel
theorem d_Md_foldsOf_21 : decode b_Md_foldsOf 21 = .ok (.bipush (-100), 2) := by decide +kernel
theorem d_Md_foldsOf_23 : decode b_Md_foldsOf 23 = .ok (.ireturn, 1) := by decide +kernel
def f_Md_foldsOf (a0 : Int32) (o0 : Ob) (Q : Int32 → Prop) : Prop := f_Md_isIn a0 (0 : Int32) (3 : Int32) (fun z1 => (z1 = 0 → (Q (-100 : Int32))) ∧ (¬ z1 = 0 → ((vp_in ((7 : Int32) + a0) 6100) ∧ (Q ((gA o0 1) (((7 : Int32) + a0).toNatClampNeg))))))
abbrev rm_Md_foldsOf : Room := { frames := 1, cells := 0, slots := 0, locals := 22 }
set_option maxHeartbeats 4000000 in
set_option maxRecDepth 100000 in
theorem c_Md_foldsOf {l : Launch} {G : Gl} {h0 : Nat} {q0 : Nat → Nat} {a0 : Int32} {o0 : Ob} {Q : Int32 → Prop} (sz : Nat) (h : f_Md_foldsOf a0 o0 Q) : Met l y_Md_foldsOf w_Md_foldsOf rm_Md_foldsOf (PcW G [.ref h0, .int a0] sz (cw_Md G h0 q0 o0)) (va_Qi (fun (r : Int32) (u : Unit) => Q r) (fun (u : Unit) t => BW G (va_A (cw_Md G h0 q0 o0) sz) (cw_Md G h0 q0 o0) t) (va_A (cw_Md G h0 q0 o0) sz)) 0 0 (va_A (cw_Md G h0 q0 o0) sz) := by
  refine Met.ofW (cc := b_Md_foldsOf) (maxL := 2) (ret := (some .int)) (by decide +kernel) rfl ?_
  intro p e s m args below meth c s₁ B hml hv
  obtain ⟨rfl, hsz, hP, hK, hD0, hE⟩ := hv
  have hx := B.exec
  have hb := B.bytes
  have hr := B.returns
  have hts0 := atoms_spec (ws := w_Md_foldsOf) B.pre
  have hts : ∀ w ∈ gw_tbl, w.before ([.ref h0, .int a0]).toArray s = true := fun w hw => hts0 w (List.mem_cons_of_mem _ hw)
  have hown : s.vm.findClass R_Md = some m.cls := findClass_of_methodNamed B.named
  have hlocks := B.notSynchronized
  subst hsz
  have hD := hD0.self (sz := s.heap.size)
  generalize hAe : va_A (cw_Md G h0 q0 o0) s.heap.size = A at hD hE ⊢
  have hA : ∀ q : Nat, s.heap.size ≤ q → A q := fun q h => by rw [← hAe]; exact Or.inr h
  have hS : va_S A s.heap s.heap [] := va_S.rf
  have C : Cx p s m ([.ref h0, .int a0]).toArray meth c R_Md b_Md_foldsOf 2 (some .int) G A := ⟨hx, hb, hml, hown, hr, hts, hK, hA, hlocks, hE⟩
  have hl := lv_entry ([.ref h0, .int a0]) (n := 2) (Nat.le_of_ble_eq_true rfl)
  rw [lg_entry_eq]
  generalize (lg_sl ([.ref h0, .int a0]) ++ List.replicate (2 - (lg_sl ([.ref h0, .int a0])).length) Slot.unset).toArray = ls at hl ⊢
  have hl : lv_has ls 2 [(0, .ref h0), (1, .int a0)] := hl
  have hD : va_D A [(h0, .inr (11, [.int (gI o0 0), .ref (q0 1), .ref (q0 2), .ref (q0 3), .ref (q0 4), .ref (q0 5), .ref (q0 6), .int (gI o0 7), .int (gI o0 8), .int (gI o0 9), .int (gI o0 10), .int (gI o0 11), .int (gI o0 12), .int (gI o0 13), .int (gI o0 14), .long (gL o0 15), .int (gI o0 16), .int (gI o0 17), .int (gI o0 18), .int (gI o0 19), .int (gI o0 20), .int (gI o0 21), .int (gI o0 22), .int (gI o0 23), .int (gI o0 24), .int (gI o0 25), .int (gI o0 26), .int (gI o0 27), .ref (q0 28), .long (gL o0 29), .int (gI o0 30), .ref (q0 31), .ref (q0 32), .ref (q0 33), .int (gI o0 34), .int (gI o0 35), .int (gI o0 36), .int (gI o0 37), .ref (q0 38), .ref (q0 39), .int (gI o0 40), .ref (q0 41), .ref (q0 42), .ref (q0 43), .ref (q0 44)])), kI G (q0 1) 6100 (gA o0 1), kI G (q0 2) 6100 (gA o0 2), kJ G (q0 3) 2016 (gB o0 3), kJ G (q0 4) 2016 (gB o0 4), kI G (q0 5) 300 (gA o0 5), kI G (q0 6) 400 (gA o0 6), kJ G (q0 28) 10 (gB o0 28), kI G (q0 31) 969 (gA o0 31), kI G (q0 32) 969 (gA o0 32), kI G (q0 33) 969 (gA o0 33), kI G (q0 38) 5 (gA o0 38), kI G (q0 39) 5120 (gA o0 39), kI G (q0 41) 5 (gA o0 41), kZ G (q0 42) 1024 (gA o0 42), kI G (q0 43) 8192 (gA o0 43), kI G (q0 44) 8192 (gA o0 44)] := hD
  unfold f_Md_foldsOf at h
  suffices key : ∀ (H : Heap) (locs : List Loc), va_P G.1 CL [(h0, .inr (11, [.int (gI o0 0), .ref (q0 1), .ref (q0 2), .ref (q0 3), .ref (q0 4), .ref (q0 5), .ref (q0 6), .int (gI o0 7), .int (gI o0 8), .int (gI o0 9), .int (gI o0 10), .int (gI o0 11), .int (gI o0 12), .int (gI o0 13), .int (gI o0 14), .long (gL o0 15), .int (gI o0 16), .int (gI o0 17), .int (gI o0 18), .int (gI o0 19), .int (gI o0 20), .int (gI o0 21), .int (gI o0 22), .int (gI o0 23), .int (gI o0 24), .int (gI o0 25), .int (gI o0 26), .int (gI o0 27), .ref (q0 28), .long (gL o0 29), .int (gI o0 30), .ref (q0 31), .ref (q0 32), .ref (q0 33), .int (gI o0 34), .int (gI o0 35), .int (gI o0 36), .int (gI o0 37), .ref (q0 38), .ref (q0 39), .int (gI o0 40), .ref (q0 41), .ref (q0 42), .ref (q0 43), .ref (q0 44)])), kI G (q0 1) 6100 (gA o0 1), kI G (q0 2) 6100 (gA o0 2), kJ G (q0 3) 2016 (gB o0 3), kJ G (q0 4) 2016 (gB o0 4), kI G (q0 5) 300 (gA o0 5), kI G (q0 6) 400 (gA o0 6), kJ G (q0 28) 10 (gB o0 28), kI G (q0 31) 969 (gA o0 31), kI G (q0 32) 969 (gA o0 32), kI G (q0 33) 969 (gA o0 33), kI G (q0 38) 5 (gA o0 38), kI G (q0 39) 5120 (gA o0 39), kI G (q0 41) 5 (gA o0 41), kZ G (q0 42) 1024 (gA o0 42), kI G (q0 43) 8192 (gA o0 43), kI G (q0 44) 8192 (gA o0 44)] H → va_S A s.heap H locs → W p l e rm_Md_foldsOf s m ([.ref h0, .int a0]).toArray below meth c H locs 0 0 (MQ below (va_Qi (fun (r : Int32) (u : Unit) => Q r) (fun (u : Unit) t => BW G A (cw_Md G h0 q0 o0) t) A) ([.ref h0, .int a0]).toArray s 0 0 A) (F0 m 0 ls []) from key s.heap [] hP hS
  intro H locs hP hS
  refine lv_iload_n hx hb d_Md_foldsOf_0 rfl (lv_at hl 1 rfl) ?_
  refine lv_iconst (v := (0 : Int32)) hx hb d_Md_foldsOf_1 (by decide) ?_
  refine lv_iconst (v := (3 : Int32)) hx hb d_Md_foldsOf_2 (by decide) ?_
  refine cl_Si (b := b_Md_foldsOf) (As := [.int a0, .int (0 : Int32), .int (3 : Int32)]) (rest := []) (ws := [(h0, .inr (11, [.int (gI o0 0), .ref (q0 1), .ref (q0 2), .ref (q0 3), .ref (q0 4), .ref (q0 5), .ref (q0 6), .int (gI o0 7), .int (gI o0 8), .int (gI o0 9), .int (gI o0 10), .int (gI o0 11), .int (gI o0 12), .int (gI o0 13), .int (gI o0 14), .long (gL o0 15), .int (gI o0 16), .int (gI o0 17), .int (gI o0 18), .int (gI o0 19), .int (gI o0 20), .int (gI o0 21), .int (gI o0 22), .int (gI o0 23), .int (gI o0 24), .int (gI o0 25), .int (gI o0 26), .int (gI o0 27), .ref (q0 28), .long (gL o0 29), .int (gI o0 30), .ref (q0 31), .ref (q0 32), .ref (q0 33), .int (gI o0 34), .int (gI o0 35), .int (gI o0 36), .int (gI o0 37), .ref (q0 38), .ref (q0 39), .int (gI o0 40), .ref (q0 41), .ref (q0 42), .ref (q0 43), .ref (q0 44)])), kI G (q0 1) 6100 (gA o0 1), kI G (q0 2) 6100 (gA o0 2), kJ G (q0 3) 2016 (gB o0 3), kJ G (q0 4) 2016 (gB o0 4), kI G (q0 5) 300 (gA o0 5), kI G (q0 6) 400 (gA o0 6), kJ G (q0 28) 10 (gB o0 28), kI G (q0 31) 969 (gA o0 31), kI G (q0 32) 969 (gA o0 32), kI G (q0 33) 969 (gA o0 33), kI G (q0 38) 5 (gA o0 38), kI G (q0 39) 5120 (gA o0 39), kI G (q0 41) 5 (gA o0 41), kZ G (q0 42) 1024 (gA o0 42), kI G (q0 43) 8192 (gA o0 43), kI G (q0 44) 8192 (gA o0 44)]) (wr := [(h0, .inr (11, [.int (gI o0 0), .ref (q0 1), .ref (q0 2), .ref (q0 3), .ref (q0 4), .ref (q0 5), .ref (q0 6), .int (gI o0 7), .int (gI o0 8), .int (gI o0 9), .int (gI o0 10), .int (gI o0 11), .int (gI o0 12), .int (gI o0 13), .int (gI o0 14), .long (gL o0 15), .int (gI o0 16), .int (gI o0 17), .int (gI o0 18), .int (gI o0 19), .int (gI o0 20), .int (gI o0 21), .int (gI o0 22), .int (gI o0 23), .int (gI o0 24), .int (gI o0 25), .int (gI o0 26), .int (gI o0 27), .ref (q0 28), .long (gL o0 29), .int (gI o0 30), .ref (q0 31), .ref (q0 32), .ref (q0 33), .int (gI o0 34), .int (gI o0 35), .int (gI o0 36), .int (gI o0 37), .ref (q0 38), .ref (q0 39), .int (gI o0 40), .ref (q0 41), .ref (q0 42), .ref (q0 43), .ref (q0 44)])), kI G (q0 1) 6100 (gA o0 1), kI G (q0 2) 6100 (gA o0 2), kJ G (q0 3) 2016 (gB o0 3), kJ G (q0 4) 2016 (gB o0 4), kI G (q0 5) 300 (gA o0 5), kI G (q0 6) 400 (gA o0 6), kJ G (q0 28) 10 (gB o0 28), kI G (q0 31) 969 (gA o0 31), kI G (q0 32) 969 (gA o0 32), kI G (q0 33) 969 (gA o0 33), kI G (q0 38) 5 (gA o0 38), kI G (q0 39) 5120 (gA o0 39), kI G (q0 41) 5 (gA o0 41), kZ G (q0 42) 1024 (gA o0 42), kI G (q0 43) 8192 (gA o0 43), kI G (q0 44) 8192 (gA o0 44)]) (w2 := fun (u : Unit) => [(h0, .inr (11, [.int (gI o0 0), .ref (q0 1), .ref (q0 2), .ref (q0 3), .ref (q0 4), .ref (q0 5), .ref (q0 6), .int (gI o0 7), .int (gI o0 8), .int (gI o0 9), .int (gI o0 10), .int (gI o0 11), .int (gI o0 12), .int (gI o0 13), .int (gI o0 14), .long (gL o0 15), .int (gI o0 16), .int (gI o0 17), .int (gI o0 18), .int (gI o0 19), .int (gI o0 20), .int (gI o0 21), .int (gI o0 22), .int (gI o0 23), .int (gI o0 24), .int (gI o0 25), .int (gI o0 26), .int (gI o0 27), .ref (q0 28), .long (gL o0 29), .int (gI o0 30), .ref (q0 31), .ref (q0 32), .ref (q0 33), .int (gI o0 34), .int (gI o0 35), .int (gI o0 36), .int (gI o0 37), .ref (q0 38), .ref (q0 39), .int (gI o0 40), .ref (q0 41), .ref (q0 42), .ref (q0 43), .ref (q0 44)])), kI G (q0 1) 6100 (gA o0 1), kI G (q0 2) 6100 (gA o0 2), kJ G (q0 3) 2016 (gB o0 3), kJ G (q0 4) 2016 (gB o0 4), kI G (q0 5) 300 (gA o0 5), kI G (q0 6) 400 (gA o0 6), kJ G (q0 28) 10 (gB o0 28), kI G (q0 31) 969 (gA o0 31), kI G (q0 32) 969 (gA o0 32), kI G (q0 33) 969 (gA o0 33), kI G (q0 38) 5 (gA o0 38), kI G (q0 39) 5120 (gA o0 39), kI G (q0 41) 5 (gA o0 41), kZ G (q0 42) 1024 (gA o0 42), kI G (q0 43) 8192 (gA o0 43), kI G (q0 44) 8192 (gA o0 44)]) C (c_Md_isIn H.size h) ws_Md_76 ⟨Nat.le_of_ble_eq_true rfl, Nat.le_of_ble_eq_true rfl⟩ hP hD hS [] [0, 1, 2, 3, 4, 5, 6, 7, 8, 9, 10, 11, 12, 13, 14, 15, 16] rfl rfl (by decide) (by decide) (by decide) [0, 1, 2, 3, 4, 5, 6, 7, 8, 9, 10, 11, 12, 13, 14, 15, 16] (by decide) (fun u => rfl) rfl hl.1 rfl (lv_room (Nat.le_of_ble_eq_true rfl)) d_Md_foldsOf_3 ⟨Nat.le_of_ble_eq_true rfl, Nat.le_of_ble_eq_true rfl⟩ rfl rfl (fun z1 u H locs h hP hD hS => ?_)
  have hP : va_P G.1 CL [(h0, .inr (11, [.int (gI o0 0), .ref (q0 1), .ref (q0 2), .ref (q0 3), .ref (q0 4), .ref (q0 5), .ref (q0 6), .int (gI o0 7), .int (gI o0 8), .int (gI o0 9), .int (gI o0 10), .int (gI o0 11), .int (gI o0 12), .int (gI o0 13), .int (gI o0 14), .long (gL o0 15), .int (gI o0 16), .int (gI o0 17), .int (gI o0 18), .int (gI o0 19), .int (gI o0 20), .int (gI o0 21), .int (gI o0 22), .int (gI o0 23), .int (gI o0 24), .int (gI o0 25), .int (gI o0 26), .int (gI o0 27), .ref (q0 28), .long (gL o0 29), .int (gI o0 30), .ref (q0 31), .ref (q0 32), .ref (q0 33), .int (gI o0 34), .int (gI o0 35), .int (gI o0 36), .int (gI o0 37), .ref (q0 38), .ref (q0 39), .int (gI o0 40), .ref (q0 41), .ref (q0 42), .ref (q0 43), .ref (q0 44)])), kI G (q0 1) 6100 (gA o0 1), kI G (q0 2) 6100 (gA o0 2), kJ G (q0 3) 2016 (gB o0 3), kJ G (q0 4) 2016 (gB o0 4), kI G (q0 5) 300 (gA o0 5), kI G (q0 6) 400 (gA o0 6), kJ G (q0 28) 10 (gB o0 28), kI G (q0 31) 969 (gA o0 31), kI G (q0 32) 969 (gA o0 32), kI G (q0 33) 969 (gA o0 33), kI G (q0 38) 5 (gA o0 38), kI G (q0 39) 5120 (gA o0 39), kI G (q0 41) 5 (gA o0 41), kZ G (q0 42) 1024 (gA o0 42), kI G (q0 43) 8192 (gA o0 43), kI G (q0 44) 8192 (gA o0 44)] H := hP
  have hD : va_D A [(h0, .inr (11, [.int (gI o0 0), .ref (q0 1), .ref (q0 2), .ref (q0 3), .ref (q0 4), .ref (q0 5), .ref (q0 6), .int (gI o0 7), .int (gI o0 8), .int (gI o0 9), .int (gI o0 10), .int (gI o0 11), .int (gI o0 12), .int (gI o0 13), .int (gI o0 14), .long (gL o0 15), .int (gI o0 16), .int (gI o0 17), .int (gI o0 18), .int (gI o0 19), .int (gI o0 20), .int (gI o0 21), .int (gI o0 22), .int (gI o0 23), .int (gI o0 24), .int (gI o0 25), .int (gI o0 26), .int (gI o0 27), .ref (q0 28), .long (gL o0 29), .int (gI o0 30), .ref (q0 31), .ref (q0 32), .ref (q0 33), .int (gI o0 34), .int (gI o0 35), .int (gI o0 36), .int (gI o0 37), .ref (q0 38), .ref (q0 39), .int (gI o0 40), .ref (q0 41), .ref (q0 42), .ref (q0 43), .ref (q0 44)])), kI G (q0 1) 6100 (gA o0 1), kI G (q0 2) 6100 (gA o0 2), kJ G (q0 3) 2016 (gB o0 3), kJ G (q0 4) 2016 (gB o0 4), kI G (q0 5) 300 (gA o0 5), kI G (q0 6) 400 (gA o0 6), kJ G (q0 28) 10 (gB o0 28), kI G (q0 31) 969 (gA o0 31), kI G (q0 32) 969 (gA o0 32), kI G (q0 33) 969 (gA o0 33), kI G (q0 38) 5 (gA o0 38), kI G (q0 39) 5120 (gA o0 39), kI G (q0 41) 5 (gA o0 41), kZ G (q0 42) 1024 (gA o0 42), kI G (q0 43) 8192 (gA o0 43), kI G (q0 44) 8192 (gA o0 44)] := hD
  refine lv_if_eq (tgt := 21) hx hb d_Md_foldsOf_6 (by decide) (fun c2 => ?_) (fun c2 => ?_)
  · have h := h.1 c2
    refine lv_bipush (v := (-100 : Int32)) hx hb d_Md_foldsOf_21 (by decide) ?_
    have hP : va_P G.1 CL (cw_Md G h0 q0 o0) H := hP
    have hD : va_D A (cw_Md G h0 q0 o0) := hD
    exact W.iret (v := (-100 : Int32)) hx hb hr (fun t ht hW => ⟨⟨(-100 : Int32), (), rfl, h, by rw [ht]; exact hP, va_K.moved hW.alike hK, hD⟩, hS.F ht⟩) hS.2.2 d_Md_foldsOf_23
  · have h := h.2 c2
    refine lv_aload_n hx hb d_Md_foldsOf_9 rfl (lv_at hl 0 rfl) ?_
    refine va_get (D := G.1) (ci := 11) (v := .ref (q0 1)) (C := R_Md) (T := T_Md) (N := 45) hx hb hts i_Md hown hK hP 0 rfl rfl 1 (by decide) (hts _ wf_Md_7) (fun _ h9 => h9) rfl d_Md_foldsOf_10 ?_
    refine lv_bipush (v := (7 : Int32)) hx hb d_Md_foldsOf_13 (by decide) ?_
    refine lv_iload_n hx hb d_Md_foldsOf_15 rfl (lv_at hl 1 rfl) ?_
    refine lv_iadd hx hb d_Md_foldsOf_16 ?_
    have g3 := h.1
    have h := h.2
    refine xa_iald hx hb hK hP 1 0 rfl rfl g3 (k := ((7 : Int32) + a0).toNatClampNeg) rfl d_Md_foldsOf_17 ?_
    refine lv_goto (tgt := 23) hx hb d_Md_foldsOf_18 (by decide) ?_
    have hP : va_P G.1 CL (cw_Md G h0 q0 o0) H := hP
    have hD : va_D A (cw_Md G h0 q0 o0) := hD
    exact W.iret (v := ((gA o0 1) (((7 : Int32) + a0).toNatClampNeg))) hx hb hr (fun t ht hW => ⟨⟨((gA o0 1) (((7 : Int32) + a0).toNatClampNeg)), (), rfl, h, by rw [ht]; exact hP, va_K.moved hW.alike hK, hD⟩, hS.F ht⟩) hS.2.2 d_Md_foldsOf_23
