def R_St : String := "java/lang/String"
def R_Sl : String := "java/lang/StringLatin1"
def R_Pc : String := "jdk/internal/util/Preconditions"
abbrev b_St_length : ByteArray := prog_17_method_54_code
def y_St_length : MethodName := ⟨R_St, "length", "()I"⟩
abbrev w_St_length : List Cond := Cond.code y_St_length b_St_length 1 (some .int) :: gw_tbl
theorem d_St_length_0 : decode b_St_length 0 = .ok (.aload_n 0, 1) := by decide +kernel
theorem d_St_length_1 : decode b_St_length 1 = .ok (.getfield 9, 3) := by decide +kernel
theorem d_St_length_4 : decode b_St_length 4 = .ok (.arraylength, 1) := by decide +kernel
theorem d_St_length_5 : decode b_St_length 5 = .ok (.aload_n 0, 1) := by decide +kernel
theorem d_St_length_6 : decode b_St_length 6 = .ok (.invokevirtual 335, 3) := by decide +kernel
theorem d_St_length_9 : decode b_St_length 9 = .ok (.ishr, 1) := by decide +kernel
theorem d_St_length_10 : decode b_St_length 10 = .ok (.ireturn, 1) := by decide +kernel
abbrev b_St_charAt : ByteArray := prog_17_method_56_code
def y_St_charAt : MethodName := ⟨R_St, "charAt", "(I)C"⟩
abbrev w_St_charAt : List Cond := Cond.code y_St_charAt b_St_charAt 2 (some .char) :: gw_tbl
theorem d_St_charAt_0 : decode b_St_charAt 0 = .ok (.aload_n 0, 1) := by decide +kernel
theorem d_St_charAt_1 : decode b_St_charAt 1 = .ok (.invokevirtual 492, 3) := by decide +kernel
theorem d_St_charAt_4 : decode b_St_charAt 4 = .ok (.ifCond .eq 12, 3) := by decide +kernel
theorem d_St_charAt_7 : decode b_St_charAt 7 = .ok (.aload_n 0, 1) := by decide +kernel
theorem d_St_charAt_8 : decode b_St_charAt 8 = .ok (.getfield 9, 3) := by decide +kernel
theorem d_St_charAt_11 : decode b_St_charAt 11 = .ok (.iload_n 1, 1) := by decide +kernel
theorem d_St_charAt_12 : decode b_St_charAt 12 = .ok (.invokestatic 495, 3) := by decide +kernel
theorem d_St_charAt_15 : decode b_St_charAt 15 = .ok (.ireturn, 1) := by decide +kernel
theorem d_St_charAt_16 : decode b_St_charAt 16 = .ok (.aload_n 0, 1) := by decide +kernel
theorem d_St_charAt_17 : decode b_St_charAt 17 = .ok (.getfield 9, 3) := by decide +kernel
theorem d_St_charAt_20 : decode b_St_charAt 20 = .ok (.iload_n 1, 1) := by decide +kernel
theorem d_St_charAt_21 : decode b_St_charAt 21 = .ok (.invokestatic 498, 3) := by decide +kernel
theorem d_St_charAt_24 : decode b_St_charAt 24 = .ok (.ireturn, 1) := by decide +kernel
abbrev b_St_coder : ByteArray := prog_17_method_152_code
def y_St_coder : MethodName := ⟨R_St, "coder", "()B"⟩
abbrev w_St_coder : List Cond := Cond.code y_St_coder b_St_coder 1 (some .byte) :: gw_tbl
theorem d_St_coder_0 : decode b_St_coder 0 = .ok (.getstatic 38, 3) := by decide +kernel
theorem d_St_coder_3 : decode b_St_coder 3 = .ok (.ifCond .eq 10, 3) := by decide +kernel
theorem d_St_coder_6 : decode b_St_coder 6 = .ok (.aload_n 0, 1) := by decide +kernel
theorem d_St_coder_7 : decode b_St_coder 7 = .ok (.getfield 15, 3) := by decide +kernel
theorem d_St_coder_10 : decode b_St_coder 10 = .ok (.goto 4, 3) := by decide +kernel
theorem d_St_coder_13 : decode b_St_coder 13 = .ok (.iconst 1, 1) := by decide +kernel
theorem d_St_coder_14 : decode b_St_coder 14 = .ok (.ireturn, 1) := by decide +kernel
abbrev b_St_isLatin1 : ByteArray := prog_17_method_154_code
def y_St_isLatin1 : MethodName := ⟨R_St, "isLatin1", "()Z"⟩
abbrev w_St_isLatin1 : List Cond := Cond.code y_St_isLatin1 b_St_isLatin1 1 (some .boolean) :: gw_tbl
theorem d_St_isLatin1_0 : decode b_St_isLatin1 0 = .ok (.getstatic 38, 3) := by decide +kernel
theorem d_St_isLatin1_3 : decode b_St_isLatin1 3 = .ok (.ifCond .eq 14, 3) := by decide +kernel
theorem d_St_isLatin1_6 : decode b_St_isLatin1 6 = .ok (.aload_n 0, 1) := by decide +kernel
theorem d_St_isLatin1_7 : decode b_St_isLatin1 7 = .ok (.getfield 15, 3) := by decide +kernel
theorem d_St_isLatin1_10 : decode b_St_isLatin1 10 = .ok (.ifCond .ne 7, 3) := by decide +kernel
theorem d_St_isLatin1_13 : decode b_St_isLatin1 13 = .ok (.iconst 1, 1) := by decide +kernel
theorem d_St_isLatin1_14 : decode b_St_isLatin1 14 = .ok (.goto 4, 3) := by decide +kernel
theorem d_St_isLatin1_17 : decode b_St_isLatin1 17 = .ok (.iconst 0, 1) := by decide +kernel
theorem d_St_isLatin1_18 : decode b_St_isLatin1 18 = .ok (.ireturn, 1) := by decide +kernel
abbrev b_St_checkIndex : ByteArray := prog_17_method_155_code
def y_St_checkIndex : MethodName := ⟨R_St, "checkIndex", "(II)V"⟩
abbrev w_St_checkIndex : List Cond := Cond.code y_St_checkIndex b_St_checkIndex 2 none :: gw_tbl
theorem d_St_checkIndex_0 : decode b_St_checkIndex 0 = .ok (.iload_n 0, 1) := by decide +kernel
theorem d_St_checkIndex_1 : decode b_St_checkIndex 1 = .ok (.iload_n 1, 1) := by decide +kernel
theorem d_St_checkIndex_2 : decode b_St_checkIndex 2 = .ok (.getstatic 1053, 3) := by decide +kernel
theorem d_St_checkIndex_5 : decode b_St_checkIndex 5 = .ok (.invokestatic 1059, 3) := by decide +kernel
theorem d_St_checkIndex_8 : decode b_St_checkIndex 8 = .ok (.pop, 1) := by decide +kernel
theorem d_St_checkIndex_9 : decode b_St_checkIndex 9 = .ok (.return_, 1) := by decide +kernel
abbrev b_Sl_charAt : ByteArray := prog_18_method_2_code
def y_Sl_charAt : MethodName := ⟨R_Sl, "charAt", "([BI)C"⟩
abbrev w_Sl_charAt : List Cond := Cond.code y_Sl_charAt b_Sl_charAt 2 (some .char) :: gw_tbl
theorem d_Sl_charAt_0 : decode b_Sl_charAt 0 = .ok (.iload_n 1, 1) := by decide +kernel
theorem d_Sl_charAt_1 : decode b_Sl_charAt 1 = .ok (.aload_n 0, 1) := by decide +kernel
theorem d_Sl_charAt_2 : decode b_Sl_charAt 2 = .ok (.arraylength, 1) := by decide +kernel
theorem d_Sl_charAt_3 : decode b_Sl_charAt 3 = .ok (.invokestatic 9, 3) := by decide +kernel
theorem d_Sl_charAt_6 : decode b_Sl_charAt 6 = .ok (.aload_n 0, 1) := by decide +kernel
theorem d_Sl_charAt_7 : decode b_Sl_charAt 7 = .ok (.iload_n 1, 1) := by decide +kernel
theorem d_Sl_charAt_8 : decode b_Sl_charAt 8 = .ok (.baload, 1) := by decide +kernel
theorem d_Sl_charAt_9 : decode b_Sl_charAt 9 = .ok (.sipush 255, 3) := by decide +kernel
theorem d_Sl_charAt_12 : decode b_Sl_charAt 12 = .ok (.iand, 1) := by decide +kernel
theorem d_Sl_charAt_13 : decode b_Sl_charAt 13 = .ok (.i2c, 1) := by decide +kernel
theorem d_Sl_charAt_14 : decode b_Sl_charAt 14 = .ok (.ireturn, 1) := by decide +kernel
abbrev b_Pc_checkIndex : ByteArray := prog_21_method_11_code
def y_Pc_checkIndex : MethodName := ⟨R_Pc, "checkIndex", "(IILjava/util/function/BiFunction;)I"⟩
abbrev w_Pc_checkIndex : List Cond := Cond.code y_Pc_checkIndex b_Pc_checkIndex 3 (some .int) :: gw_tbl
theorem d_Pc_checkIndex_0 : decode b_Pc_checkIndex 0 = .ok (.iload_n 0, 1) := by decide +kernel
theorem d_Pc_checkIndex_1 : decode b_Pc_checkIndex 1 = .ok (.ifCond .lt 8, 3) := by decide +kernel
theorem d_Pc_checkIndex_4 : decode b_Pc_checkIndex 4 = .ok (.iload_n 0, 1) := by decide +kernel
theorem d_Pc_checkIndex_5 : decode b_Pc_checkIndex 5 = .ok (.iload_n 1, 1) := by decide +kernel
theorem d_Pc_checkIndex_6 : decode b_Pc_checkIndex 6 = .ok (.if_icmp .lt 10, 3) := by decide +kernel
theorem d_Pc_checkIndex_9 : decode b_Pc_checkIndex 9 = .ok (.aload_n 2, 1) := by decide +kernel
theorem d_Pc_checkIndex_10 : decode b_Pc_checkIndex 10 = .ok (.iload_n 0, 1) := by decide +kernel
theorem d_Pc_checkIndex_11 : decode b_Pc_checkIndex 11 = .ok (.iload_n 1, 1) := by decide +kernel
theorem d_Pc_checkIndex_12 : decode b_Pc_checkIndex 12 = .ok (.invokestatic 95, 3) := by decide +kernel
theorem d_Pc_checkIndex_15 : decode b_Pc_checkIndex 15 = .ok (.athrow, 1) := by decide +kernel
theorem d_Pc_checkIndex_16 : decode b_Pc_checkIndex 16 = .ok (.iload_n 0, 1) := by decide +kernel
theorem d_Pc_checkIndex_17 : decode b_Pc_checkIndex 17 = .ok (.ireturn, 1) := by decide +kernel
theorem wf_St_38 : Cond.fieldLink R_St 38 "java/lang/String" "COMPACT_STRINGS" "Z" ∈ gw_tbl := gw_tb (List.mem_of_getElem? (i := 539) (by decide +kernel)) rfl
theorem wf_St_15 : Cond.fieldLink R_St 15 "java/lang/String" "coder" "B" ∈ gw_tbl := gw_tb (List.mem_of_getElem? (i := 1369) (by decide +kernel)) rfl
theorem wf_St_9 : Cond.fieldLink R_St 9 "java/lang/String" "value" "[B" ∈ gw_tbl := gw_tb (List.mem_of_getElem? (i := 1368) (by decide +kernel)) rfl
theorem wf_St_1053 : Cond.fieldLink R_St 1053 "jdk/internal/util/Preconditions" "SIOOBE_FORMATTER" "Ljava/util/function/BiFunction;" ∈ gw_tbl := gw_tb (List.mem_of_getElem? (i := 555) (by decide +kernel)) rfl
theorem wv_St_335 : wV R_St 335 y_St_coder b_St_coder 1 (some .byte) 0 := ⟨⟨gw_tb (List.mem_of_getElem? (i := 535) (by decide +kernel)) rfl, gw_tb (List.mem_of_getElem? (i := 14) (by decide +kernel)) rfl, gw_tb (List.mem_of_getElem? (i := 538) (by decide +kernel)) rfl, by decide, by decide, by decide +kernel⟩, gw_tb (List.mem_of_getElem? (i := 536) (by decide +kernel)) rfl, gw_tb (List.mem_of_getElem? (i := 537) (by decide +kernel)) rfl⟩
theorem wv_St_492 : wV R_St 492 y_St_isLatin1 b_St_isLatin1 1 (some .boolean) 0 := ⟨⟨gw_tb (List.mem_of_getElem? (i := 545) (by decide +kernel)) rfl, gw_tb (List.mem_of_getElem? (i := 14) (by decide +kernel)) rfl, gw_tb (List.mem_of_getElem? (i := 548) (by decide +kernel)) rfl, by decide, by decide, by decide +kernel⟩, gw_tb (List.mem_of_getElem? (i := 546) (by decide +kernel)) rfl, gw_tb (List.mem_of_getElem? (i := 547) (by decide +kernel)) rfl⟩
theorem ws_St_495 : wS R_St 495 y_Sl_charAt b_Sl_charAt 2 (some .char) 2 := ⟨⟨gw_tb (List.mem_of_getElem? (i := 549) (by decide +kernel)) rfl, gw_tb (List.mem_of_getElem? (i := 15) (by decide +kernel)) rfl, gw_tb (List.mem_of_getElem? (i := 551) (by decide +kernel)) rfl, by decide, by decide, by decide +kernel⟩, gw_tb (List.mem_of_getElem? (i := 550) (by decide +kernel)) rfl⟩
theorem ws_Sl_9 : wS R_Sl 9 y_St_checkIndex b_St_checkIndex 2 none 2 := ⟨⟨gw_tb (List.mem_of_getElem? (i := 552) (by decide +kernel)) rfl, gw_tb (List.mem_of_getElem? (i := 14) (by decide +kernel)) rfl, gw_tb (List.mem_of_getElem? (i := 554) (by decide +kernel)) rfl, by decide, by decide, by decide +kernel⟩, gw_tb (List.mem_of_getElem? (i := 553) (by decide +kernel)) rfl⟩
theorem ws_St_1059 : wS R_St 1059 y_Pc_checkIndex b_Pc_checkIndex 3 (some .int) 3 := ⟨⟨gw_tb (List.mem_of_getElem? (i := 557) (by decide +kernel)) rfl, gw_tb (List.mem_of_getElem? (i := 16) (by decide +kernel)) rfl, gw_tb (List.mem_of_getElem? (i := 559) (by decide +kernel)) rfl, by decide, by decide, by decide +kernel⟩, gw_tb (List.mem_of_getElem? (i := 558) (by decide +kernel)) rfl⟩
theorem wv_Re_193 : wV R_Re 193 y_St_length b_St_length 1 (some .int) 0 := ⟨⟨gw_tb (List.mem_of_getElem? (i := 531) (by decide +kernel)) rfl, gw_tb (List.mem_of_getElem? (i := 14) (by decide +kernel)) rfl, gw_tb (List.mem_of_getElem? (i := 534) (by decide +kernel)) rfl, by decide, by decide, by decide +kernel⟩, gw_tb (List.mem_of_getElem? (i := 532) (by decide +kernel)) rfl, gw_tb (List.mem_of_getElem? (i := 533) (by decide +kernel)) rfl⟩
theorem wv_Re_198 : wV R_Re 198 y_St_charAt b_St_charAt 2 (some .char) 1 := ⟨⟨gw_tb (List.mem_of_getElem? (i := 541) (by decide +kernel)) rfl, gw_tb (List.mem_of_getElem? (i := 14) (by decide +kernel)) rfl, gw_tb (List.mem_of_getElem? (i := 544) (by decide +kernel)) rfl, by decide, by decide, by decide +kernel⟩, gw_tb (List.mem_of_getElem? (i := 542) (by decide +kernel)) rfl, gw_tb (List.mem_of_getElem? (i := 543) (by decide +kernel)) rfl⟩
def PcX (K : Ks) (av : List Value) : Array Value → State → Prop := va_Pc av (fun U => SX K (fun _ => False) U U.heap)
theorem PcX.blind {K : Ks} {av : List Value} : FrameBlind (PcX K av) := by
  intro a U g mk h
  exact ⟨h.1, SX.moved (u := U) (U := U.calling g mk a) (Vm.Alike.refl U.vm) h.2⟩
section SXC
variable {p : Program} {l : Launch} {e : Env} {R : Room} {s : State} {m : MethodId} {args : Array Value} {below : List Frame} {meth : Method} {c : Code} {H : Heap} {locs : List Loc} {cells slots : Nat} {Q : State → Prop}
variable {own : String} {b : ByteArray} {nL : Nat} {A : Nat → Prop} {K : Ks}
variable {y : MethodName} {bytes : ByteArray} {maxL n index : Nat} {rty : Option FieldType} {rm : Room} {pc : Nat} {ls : Array Slot} {rest st0 : List Value}
theorem wB.of' (hts : ∀ w ∈ gw_tbl, w.before args s = true) (h : wB own index y bytes maxL rty n) (hrc : rm.cells = 0) (hrs : rm.slots = 0) (hR : rm.frames + 1 ≤ R.frames ∧ 8 + (maxL + 11) + rm.locals ≤ R.locals) : CallB R s args own index y bytes maxL rty (Cond.code y bytes maxL rty :: gw_tbl) rm 0 0 n := by
  obtain ⟨h1, h2, h3, hd⟩ := h
  exact callB_of n hts (gw_cons h3) rfl hrc hrs (hts _ h2) (hts _ h1) hd hR
theorem preX_of {av : List Value} (hE : SX K A s s.heap) (hS : va_S A s.heap H locs) : PreS s H (PcX K av) av :=
  ⟨PcX.blind, fun U hU hW => ⟨rfl, by show SX K (fun _ => False) U U.heap; rw [hU]; exact SX.moved hW.alike (SX.narrow (hE.kept hS.2.1) (fun _ h => False.elim h))⟩⟩
theorem cs_Vi {post : Int32 → Prop} {i : Nat} {As : List Value} (S : CallFix p m c b nL s args gw_tbl own) (hM : Met l y (Cond.code y bytes maxL rty :: gw_tbl) rm (PcX K (.ref (K.1 i) :: As)) (vp_Si post) 0 0 (fun _ => False))
    (hw : wV own index y bytes maxL rty n) (hcls : y.cls = "java/lang/String") (hR : rm.frames + 1 ≤ R.frames ∧ 8 + (maxL + 11) + rm.locals ≤ R.locals) (hE : SX K A s s.heap) (hi : i < 11) (hS : va_S A s.heap H locs)
    (hn : As.length = n) (hsz : ls.size = nL) (hst : st0 = As.reverse ++ .ref (K.1 i) :: rest) (hW : 2 * (F0 m pc ls st0).monitorRoom + (rest.map fun v => v.category).sum ≤ 8) (hdg : decode b pc = .ok (.invokevirtual index, 3)) (hf : cells ≤ R.cells ∧ slots ≤ R.slots) (hrc : rm.cells = 0) (hrs : rm.slots = 0)
    (kk : ∀ r : Int32, post r → W p l e R s m args below meth c H locs cells slots Q (F0 m (pc + 3) ls (.int r :: rest))) : W p l e R s m args below meth c H locs cells slots Q (F0 m pc ls st0) := by
  obtain ⟨hw1, hw2, hw3⟩ := hw
  have S' := S
  obtain ⟨hx, hb, hml, hown, hts⟩ := S'
  obtain ⟨hp1, hp2⟩ := preX_of (av := .ref (K.1 i) :: As) hE hS
  exact vp_callSi (W.runV (As := As) (rest := rest) (g := F0 m pc ls st0) S hM ⟨wB.of' hts hw1 hrc hrs hR, hts _ hw2, hts _ hw3⟩ ⟨hp1, by rw [hcls]; exact vk_recv hE.1 hi hS, hp2⟩ rfl hn hsz hst hW hdg hf) kk
theorem cs_Si {post : Int32 → Prop} {As : List Value} (S : CallFix p m c b nL s args gw_tbl own) (hM : Met l y (Cond.code y bytes maxL rty :: gw_tbl) rm (PcX K As) (vp_Si post) 0 0 (fun _ => False))
    (hw : wS own index y bytes maxL rty n) (hR : rm.frames + 1 ≤ R.frames ∧ 8 + (maxL + 11) + rm.locals ≤ R.locals) (hE : SX K A s s.heap) (hS : va_S A s.heap H locs)
    (hn : As.length = n) (hsz : ls.size = nL) (hst : st0 = As.reverse ++ rest) (hW : 2 * (F0 m pc ls st0).monitorRoom + (rest.map fun v => v.category).sum ≤ 8) (hdg : decode b pc = .ok (.invokestatic index, 3)) (hf : cells ≤ R.cells ∧ slots ≤ R.slots) (hrc : rm.cells = 0) (hrs : rm.slots = 0)
    (kk : ∀ r : Int32, post r → W p l e R s m args below meth c H locs cells slots Q (F0 m (pc + 3) ls (.int r :: rest))) : W p l e R s m args below meth c H locs cells slots Q (F0 m pc ls st0) := by
  obtain ⟨hw1, hw2⟩ := hw
  have S' := S
  obtain ⟨hx, hb, hml, hown, hts⟩ := S'
  exact vp_callSi (W.runS (As := As) (rest := rest) (g := F0 m pc ls st0) S hM ⟨wB.of' hts hw1 hrc hrs hR, hts _ hw2⟩ (preX_of hE hS) rfl hn hsz hst hW hdg hf) kk
theorem cs_Sv {post : Unit → Prop} {As : List Value} (S : CallFix p m c b nL s args gw_tbl own) (hM : Met l y (Cond.code y bytes maxL rty :: gw_tbl) rm (PcX K As) (va_Sv post) 0 0 (fun _ => False))
    (hw : wS own index y bytes maxL rty n) (hR : rm.frames + 1 ≤ R.frames ∧ 8 + (maxL + 11) + rm.locals ≤ R.locals) (hE : SX K A s s.heap) (hS : va_S A s.heap H locs)
    (hn : As.length = n) (hsz : ls.size = nL) (hst : st0 = As.reverse ++ rest) (hW : 2 * (F0 m pc ls st0).monitorRoom + (rest.map fun v => v.category).sum ≤ 8) (hdg : decode b pc = .ok (.invokestatic index, 3)) (hf : cells ≤ R.cells ∧ slots ≤ R.slots) (hrc : rm.cells = 0) (hrs : rm.slots = 0)
    (kk : post () → W p l e R s m args below meth c H locs cells slots Q (F0 m (pc + 3) ls rest)) : W p l e R s m args below meth c H locs cells slots Q (F0 m pc ls st0) := by
  obtain ⟨hw1, hw2⟩ := hw
  have S' := S
  obtain ⟨hx, hb, hml, hown, hts⟩ := S'
  exact va_csv (W.runS (As := As) (rest := rest) (g := F0 m pc ls st0) S hM ⟨wB.of' hts hw1 hrc hrs hR, hts _ hw2⟩ (preX_of hE hS) rfl hn hsz hst hW hdg hf) kk
end SXC
abbrev rm_0 : Room := { frames := 0, cells := 0, slots := 0, locals := 0 }
abbrev rm_St_length : Room := { frames := 1, cells := 0, slots := 0, locals := 20 }
abbrev rm_St_checkIndex : Room := { frames := 1, cells := 0, slots := 0, locals := 22 }
abbrev rm_Sl_charAt : Room := { frames := 2, cells := 0, slots := 0, locals := 43 }
abbrev rm_St_charAt : Room := { frames := 3, cells := 0, slots := 0, locals := 64 }
set_option maxHeartbeats 4000000 in
theorem c_St_coder {l : Launch} {K : Ks} {i : Nat} (hi : i < 11) : Met l y_St_coder w_St_coder rm_0 (PcX K [.ref (K.1 i)]) (vp_Si (fun r => r = 0)) 0 0 (fun _ => False) := by
  refine Met.ofW (cc := b_St_coder) (maxL := 1) (ret := (some .byte)) (by decide) rfl ?_
  intro p e s m args below meth c s₁ B hml hv
  obtain ⟨rfl, hE⟩ := hv
  have hx := B.exec
  have hb := B.bytes
  have hr := B.returns
  have hts0 := atoms_spec (ws := w_St_coder) B.pre
  have hts : ∀ w ∈ gw_tbl, w.before [Value.ref (K.1 i)].toArray s = true := fun w hw => hts0 w (List.mem_cons_of_mem _ hw)
  have hown : s.vm.findClass R_St = some m.cls := findClass_of_methodNamed B.named
  have hlocks := B.notSynchronized
  have hS : va_S (fun _ => False) s.heap s.heap [] := va_S.rf
  have hl := lv_entry ([.ref (K.1 i)]) (n := 1) (Nat.le_of_ble_eq_true rfl)
  rw [lg_entry_eq]
  generalize (lg_sl ([.ref (K.1 i)]) ++ List.replicate (1 - (lg_sl ([.ref (K.1 i)])).length) Slot.unset).toArray = ls at hl ⊢
  have hl : lv_has ls 1 [(0, .ref (K.1 i))] := hl
  refine va_gets hx hb hE.2.1 hS hown (hts _ wf_St_38) (fun _ h9 => h9) d_St_coder_0 ?_
  refine lv_if_eq (tgt := 13) hx hb d_St_coder_3 (by decide) (fun c1 => absurd c1 (by decide)) (fun c1 => ?_)
  refine lv_aload_n hx hb d_St_coder_6 rfl (lv_at hl 0 rfl) ?_
  refine vk_getf hx hb (hE.1.1 i hi).2.1 hS hown (hts _ wf_St_15) (fun _ h9 => h9) d_St_coder_7 ?_
  refine lv_goto (tgt := 14) hx hb d_St_coder_10 (by decide) ?_
  exact W.zret (v := 0) hx hb hr rfl (fun t ht hW => ⟨0, rfl, rfl, ht⟩) (fun _ h => by cases h) d_St_coder_14
set_option maxHeartbeats 4000000 in
theorem c_St_isLatin1 {l : Launch} {K : Ks} {i : Nat} (hi : i < 11) : Met l y_St_isLatin1 w_St_isLatin1 rm_0 (PcX K [.ref (K.1 i)]) (vp_Si (fun r => r = 1)) 0 0 (fun _ => False) := by
  refine Met.ofW (cc := b_St_isLatin1) (maxL := 1) (ret := (some .boolean)) (by decide) rfl ?_
  intro p e s m args below meth c s₁ B hml hv
  obtain ⟨rfl, hE⟩ := hv
  have hx := B.exec
  have hb := B.bytes
  have hr := B.returns
  have hts0 := atoms_spec (ws := w_St_isLatin1) B.pre
  have hts : ∀ w ∈ gw_tbl, w.before [Value.ref (K.1 i)].toArray s = true := fun w hw => hts0 w (List.mem_cons_of_mem _ hw)
  have hown : s.vm.findClass R_St = some m.cls := findClass_of_methodNamed B.named
  have hlocks := B.notSynchronized
  have hS : va_S (fun _ => False) s.heap s.heap [] := va_S.rf
  have hl := lv_entry ([.ref (K.1 i)]) (n := 1) (Nat.le_of_ble_eq_true rfl)
  rw [lg_entry_eq]
  generalize (lg_sl ([.ref (K.1 i)]) ++ List.replicate (1 - (lg_sl ([.ref (K.1 i)])).length) Slot.unset).toArray = ls at hl ⊢
  have hl : lv_has ls 1 [(0, .ref (K.1 i))] := hl
  refine va_gets hx hb hE.2.1 hS hown (hts _ wf_St_38) (fun _ h9 => h9) d_St_isLatin1_0 ?_
  refine lv_if_eq (tgt := 17) hx hb d_St_isLatin1_3 (by decide) (fun c1 => absurd c1 (by decide)) (fun c1 => ?_)
  refine lv_aload_n hx hb d_St_isLatin1_6 rfl (lv_at hl 0 rfl) ?_
  refine vk_getf hx hb (hE.1.1 i hi).2.1 hS hown (hts _ wf_St_15) (fun _ h9 => h9) d_St_isLatin1_7 ?_
  refine lv_if_ne (tgt := 17) hx hb d_St_isLatin1_10 (by decide) (fun c1 => absurd rfl c1) (fun c1 => ?_)
  refine lv_iconst (v := 1) hx hb d_St_isLatin1_13 (by decide) ?_
  refine lv_goto (tgt := 18) hx hb d_St_isLatin1_14 (by decide) ?_
  exact W.zret (v := 1) hx hb hr rfl (fun t ht hW => ⟨1, rfl, rfl, ht⟩) (fun _ h => by cases h) d_St_isLatin1_18
theorem sc_sh {n : Nat} (h : n < 2 ^ 31) : nI n >>> ((0 : Int32) &&& 31) = nI n := by
  have := pk_shrN (n := n) h ((0 : Int32) &&& 31) 0 (by decide)
  simpa using this
theorem slen_lt (i : Nat) (hi : i < 11) : slen i < 8 := by
  have : ∀ i, i < 11 → slen i < 8 := by decide +kernel
  exact this i hi
set_option maxHeartbeats 4000000 in
theorem c_St_length {l : Launch} {K : Ks} {i : Nat} (hi : i < 11) : Met l y_St_length w_St_length rm_St_length (PcX K [.ref (K.1 i)]) (vp_Si (fun r => r = nI (slen i))) 0 0 (fun _ => False) := by
  refine Met.ofW (cc := b_St_length) (maxL := 1) (ret := (some .int)) (by decide) rfl ?_
  intro p e s m args below meth c s₁ B hml hv
  obtain ⟨rfl, hE⟩ := hv
  have hx := B.exec
  have hb := B.bytes
  have hr := B.returns
  have hts0 := atoms_spec (ws := w_St_length) B.pre
  have hts : ∀ w ∈ gw_tbl, w.before [Value.ref (K.1 i)].toArray s = true := fun w hw => hts0 w (List.mem_cons_of_mem _ hw)
  have hown : s.vm.findClass R_St = some m.cls := findClass_of_methodNamed B.named
  have hlocks := B.notSynchronized
  have hS : va_S (fun _ => False) s.heap s.heap [] := va_S.rf
  have hl := lv_entry ([.ref (K.1 i)]) (n := 1) (Nat.le_of_ble_eq_true rfl)
  rw [lg_entry_eq]
  generalize (lg_sl ([.ref (K.1 i)]) ++ List.replicate (1 - (lg_sl ([.ref (K.1 i)])).length) Slot.unset).toArray = ls at hl ⊢
  have hl : lv_has ls 1 [(0, .ref (K.1 i))] := hl
  refine lv_aload_n hx hb d_St_length_0 rfl (lv_at hl 0 rfl) ?_
  refine vk_getf hx hb (hE.1.1 i hi).2.2.1 hS hown (hts _ wf_St_9) (fun _ h9 => h9) d_St_length_1 ?_
  refine va_tlen hx hb (hE.1.1 i hi).2.2.2 hS (v := nI (slen i)) rfl d_St_length_4 ?_
  refine lv_aload_n hx hb d_St_length_5 rfl (lv_at hl 0 rfl) ?_
  refine cs_Vi (As := []) (rest := [.int (nI (slen i))]) ⟨hx, hb, hml, hown, hts⟩ (c_St_coder hi) wv_St_335 rfl ⟨Nat.le_of_ble_eq_true rfl, Nat.le_of_ble_eq_true rfl⟩ hE hi hS rfl hl.1 rfl (lv_room (Nat.le_of_ble_eq_true rfl)) d_St_length_6 ⟨Nat.le_of_ble_eq_true rfl, Nat.le_of_ble_eq_true rfl⟩ rfl rfl (fun r hq => ?_)
  subst hq
  refine lv_ishr hx hb d_St_length_9 ?_
  rw [sc_sh (by have := slen_lt i hi; omega)]
  exact W.iret (v := nI (slen i)) hx hb hr (fun t ht hW => ⟨_, rfl, rfl, ht⟩) (fun _ h => by cases h) d_St_length_10
set_option maxHeartbeats 4000000 in
theorem c_Pc_checkIndex {l : Launch} {K : Ks} {a n : Int32} {f : Option Nat} (h1 : ¬ a < 0) (h2 : a < n) : Met l y_Pc_checkIndex w_Pc_checkIndex rm_0 (PcX K [.int a, .int n, va_rf f]) (vp_Si (fun r => r = a)) 0 0 (fun _ => False) := by
  refine Met.ofW (cc := b_Pc_checkIndex) (maxL := 3) (ret := (some .int)) (by decide) rfl ?_
  intro p e s m args below meth c s₁ B hml hv
  obtain ⟨rfl, hE⟩ := hv
  have hx := B.exec
  have hb := B.bytes
  have hr := B.returns
  have hlocks := B.notSynchronized
  have hS : va_S (fun _ => False) s.heap s.heap [] := va_S.rf
  have hlen : (lg_sl ([.int a, .int n, va_rf f])).length ≤ 3 := by cases f <;> exact Nat.le_of_ble_eq_true rfl
  have hl := lv_entry ([.int a, .int n, va_rf f]) (n := 3) hlen
  rw [lg_entry_eq]
  generalize (lg_sl ([.int a, .int n, va_rf f]) ++ List.replicate (3 - (lg_sl ([.int a, .int n, va_rf f])).length) Slot.unset).toArray = ls at hl ⊢
  have hl : lv_has ls 3 [(0, .int a), (1, .int n)] := by cases f <;> exact lv_sub hl [0, 1] rfl
  refine lv_iload_n hx hb d_Pc_checkIndex_0 rfl (lv_at hl 0 rfl) ?_
  refine lv_if_lt (tgt := 9) hx hb d_Pc_checkIndex_1 (by decide) (fun c1 => absurd c1 h1) (fun c1 => ?_)
  refine lv_iload_n hx hb d_Pc_checkIndex_4 rfl (lv_at hl 0 rfl) ?_
  refine lv_iload_n hx hb d_Pc_checkIndex_5 rfl (lv_at hl 1 rfl) ?_
  refine lv_icmp_lt (tgt := 16) hx hb d_Pc_checkIndex_6 (by decide) (fun c2 => ?_) (fun c2 => absurd h2 c2)
  refine lv_iload_n hx hb d_Pc_checkIndex_16 rfl (lv_at hl 0 rfl) ?_
  exact W.iret (v := a) hx hb hr (fun t ht hW => ⟨_, rfl, rfl, ht⟩) (fun _ h => by cases h) d_Pc_checkIndex_17
set_option maxHeartbeats 4000000 in
theorem c_St_checkIndex {l : Launch} {K : Ks} {a n : Int32} (h1 : ¬ a < 0) (h2 : a < n) : Met l y_St_checkIndex w_St_checkIndex rm_St_checkIndex (PcX K [.int a, .int n]) (va_Sv (fun _ => True)) 0 0 (fun _ => False) := by
  refine Met.ofW (cc := b_St_checkIndex) (maxL := 2) (ret := none) (by decide) rfl ?_
  intro p e s m args below meth c s₁ B hml hv
  obtain ⟨rfl, hE⟩ := hv
  have hx := B.exec
  have hb := B.bytes
  have hr := B.returns
  have hts0 := atoms_spec (ws := w_St_checkIndex) B.pre
  have hts : ∀ w ∈ gw_tbl, w.before [Value.int a, Value.int n].toArray s = true := fun w hw => hts0 w (List.mem_cons_of_mem _ hw)
  have hown : s.vm.findClass R_St = some m.cls := findClass_of_methodNamed B.named
  have hlocks := B.notSynchronized
  have hS : va_S (fun _ => False) s.heap s.heap [] := va_S.rf
  have hl := lv_entry ([.int a, .int n]) (n := 2) (Nat.le_of_ble_eq_true rfl)
  rw [lg_entry_eq]
  generalize (lg_sl ([.int a, .int n]) ++ List.replicate (2 - (lg_sl ([.int a, .int n])).length) Slot.unset).toArray = ls at hl ⊢
  have hl : lv_has ls 2 [(0, .int a), (1, .int n)] := hl
  refine lv_iload_n hx hb d_St_checkIndex_0 rfl (lv_at hl 0 rfl) ?_
  refine lv_iload_n hx hb d_St_checkIndex_1 rfl (lv_at hl 1 rfl) ?_
  have key : ∀ f : Option Nat, va_Z "jdk/internal/util/Preconditions" "SIOOBE_FORMATTER" "Ljava/util/function/BiFunction;" (va_rf f) (fun _ => False) s s.heap → W p l e rm_St_checkIndex s m [Value.int a, Value.int n].toArray below meth c s.heap [] 0 0 (MQ below (va_Sv (fun _ => True)) [Value.int a, Value.int n].toArray s 0 0 (fun _ => False)) (F0 m 2 ls [.int n, .int a]) := by
    intro f hZ
    refine va_gets hx hb hZ hS hown (hts _ wf_St_1053) (fun _ h9 => h9) d_St_checkIndex_2 ?_
    refine cs_Si (As := [.int a, .int n, va_rf f]) (rest := []) ⟨hx, hb, hml, hown, hts⟩ (c_Pc_checkIndex h1 h2) ws_St_1059 ⟨Nat.le_of_ble_eq_true rfl, Nat.le_of_ble_eq_true rfl⟩ hE hS rfl hl.1 rfl (lv_room (Nat.le_of_ble_eq_true rfl)) d_St_checkIndex_5 ⟨Nat.le_of_ble_eq_true rfl, Nat.le_of_ble_eq_true rfl⟩ rfl rfl (fun r hq => ?_)
    refine lv_pop hx hb d_St_checkIndex_8 rfl ?_
    exact W.vret hx hb hr (fun t ht hW => ⟨rfl, trivial, ht⟩) (fun _ h => by cases h) d_St_checkIndex_9
  rcases hE.2.2 with h | ⟨t, h⟩
  · exact key none h
  · exact key (some t) h
set_option maxHeartbeats 4000000 in
theorem c_Sl_charAt {l : Launch} {K : Ks} {i : Nat} {a : Int32} (hi : i < 11) (ha : vp_in a (slen i)) : Met l y_Sl_charAt w_Sl_charAt rm_Sl_charAt (PcX K [.ref (K.2 i), .int a]) (vp_Si (fun r => r = sch i a.toNatClampNeg)) 0 0 (fun _ => False) := by
  refine Met.ofW (cc := b_Sl_charAt) (maxL := 2) (ret := (some .char)) (by decide) rfl ?_
  intro p e s m args below meth c s₁ B hml hv
  obtain ⟨rfl, hE⟩ := hv
  have hx := B.exec
  have hb := B.bytes
  have hr := B.returns
  have hts0 := atoms_spec (ws := w_Sl_charAt) B.pre
  have hts : ∀ w ∈ gw_tbl, w.before [Value.ref (K.2 i), Value.int a].toArray s = true := fun w hw => hts0 w (List.mem_cons_of_mem _ hw)
  have hown : s.vm.findClass R_Sl = some m.cls := findClass_of_methodNamed B.named
  have hlocks := B.notSynchronized
  have hS : va_S (fun _ => False) s.heap s.heap [] := va_S.rf
  have hl := lv_entry ([.ref (K.2 i), .int a]) (n := 2) (Nat.le_of_ble_eq_true rfl)
  rw [lg_entry_eq]
  generalize (lg_sl ([.ref (K.2 i), .int a]) ++ List.replicate (2 - (lg_sl ([.ref (K.2 i), .int a])).length) Slot.unset).toArray = ls at hl ⊢
  have hl : lv_has ls 2 [(0, .ref (K.2 i)), (1, .int a)] := hl
  have hlt := slen_lt i hi
  obtain ⟨j, hj, rfl⟩ := vp_in_of ha (by omega)
  refine lv_iload_n hx hb d_Sl_charAt_0 rfl (lv_at hl 1 rfl) ?_
  refine lv_aload_n hx hb d_Sl_charAt_1 rfl (lv_at hl 0 rfl) ?_
  refine va_tlen hx hb (hE.1.1 i hi).2.2.2 hS (v := nI (slen i)) rfl d_Sl_charAt_2 ?_
  refine cs_Sv (As := [.int (nI j), .int (nI (slen i))]) (rest := []) ⟨hx, hb, hml, hown, hts⟩ (c_St_checkIndex (nI_pos (by omega)) (nI_lt hj (by omega))) ws_Sl_9 ⟨Nat.le_of_ble_eq_true rfl, Nat.le_of_ble_eq_true rfl⟩ hE hS rfl hl.1 rfl (lv_room (Nat.le_of_ble_eq_true rfl)) d_Sl_charAt_3 ⟨Nat.le_of_ble_eq_true rfl, Nat.le_of_ble_eq_true rfl⟩ rfl rfl (fun _ => ?_)
  refine lv_aload_n hx hb d_Sl_charAt_6 rfl (lv_at hl 0 rfl) ?_
  refine lv_iload_n hx hb d_Sl_charAt_7 rfl (lv_at hl 1 rfl) ?_
  refine va_tb hx hb (hE.1.1 i hi).2.2.2 hS ha rfl d_Sl_charAt_8 ?_
  have e1 : (nI j).toNatClampNeg = j := nI_clamp (by omega)
  have hall : ∀ i, i < 11 → ∀ j, j < slen i → ((((sByt.getD i []).getD j 0) &&& 255).toUInt32 % 65536).toInt32 = sch i j ∧ narrow .char (.int (sch i j)) = .int (sch i j) := by decide +kernel
  obtain ⟨q1, q2⟩ := hall i hi j hj
  refine lv_sipush (v := 255) hx hb d_Sl_charAt_9 (by decide) ?_
  refine lv_iand hx hb d_Sl_charAt_12 ?_
  refine lv_i2c (v := sch i j) hx hb d_Sl_charAt_13 (by rw [e1]; exact q1) ?_
  exact W.zret (v := sch i j) hx hb hr q2 (fun t ht hW => ⟨_, rfl, by rw [e1], ht⟩) (fun _ h => by cases h) d_Sl_charAt_14
theorem sch_ok : ∀ i, i < 11 → ∀ j, j < slen i → narrow .char (.int (sch i j)) = .int (sch i j) := by decide +kernel
set_option maxHeartbeats 4000000 in
theorem c_St_charAt {l : Launch} {K : Ks} {i : Nat} {a : Int32} (hi : i < 11) (ha : vp_in a (slen i)) : Met l y_St_charAt w_St_charAt rm_St_charAt (PcX K [.ref (K.1 i), .int a]) (vp_Si (fun r => r = sch i a.toNatClampNeg)) 0 0 (fun _ => False) := by
  refine Met.ofW (cc := b_St_charAt) (maxL := 2) (ret := (some .char)) (by decide) rfl ?_
  intro p e s m args below meth c s₁ B hml hv
  obtain ⟨rfl, hE⟩ := hv
  have hx := B.exec
  have hb := B.bytes
  have hr := B.returns
  have hts0 := atoms_spec (ws := w_St_charAt) B.pre
  have hts : ∀ w ∈ gw_tbl, w.before [Value.ref (K.1 i), Value.int a].toArray s = true := fun w hw => hts0 w (List.mem_cons_of_mem _ hw)
  have hown : s.vm.findClass R_St = some m.cls := findClass_of_methodNamed B.named
  have hlocks := B.notSynchronized
  have hS : va_S (fun _ => False) s.heap s.heap [] := va_S.rf
  have hl := lv_entry ([.ref (K.1 i), .int a]) (n := 2) (Nat.le_of_ble_eq_true rfl)
  rw [lg_entry_eq]
  generalize (lg_sl ([.ref (K.1 i), .int a]) ++ List.replicate (2 - (lg_sl ([.ref (K.1 i), .int a])).length) Slot.unset).toArray = ls at hl ⊢
  have hl : lv_has ls 2 [(0, .ref (K.1 i)), (1, .int a)] := hl
  have hlt := slen_lt i hi
  have hq : narrow .char (.int (sch i a.toNatClampNeg)) = .int (sch i a.toNatClampNeg) := sch_ok i hi _ (Nat.not_le.mp fun q => ha (Or.inr q))
  refine lv_aload_n hx hb d_St_charAt_0 rfl (lv_at hl 0 rfl) ?_
  refine cs_Vi (As := []) (rest := []) ⟨hx, hb, hml, hown, hts⟩ (c_St_isLatin1 hi) wv_St_492 rfl ⟨Nat.le_of_ble_eq_true rfl, Nat.le_of_ble_eq_true rfl⟩ hE hi hS rfl hl.1 rfl (lv_room (Nat.le_of_ble_eq_true rfl)) d_St_charAt_1 ⟨Nat.le_of_ble_eq_true rfl, Nat.le_of_ble_eq_true rfl⟩ rfl rfl (fun r hr1 => ?_)
  subst hr1
  refine lv_if_eq (tgt := 16) hx hb d_St_charAt_4 (by decide) (fun c1 => absurd c1 (by decide)) (fun c1 => ?_)
  refine lv_aload_n hx hb d_St_charAt_7 rfl (lv_at hl 0 rfl) ?_
  refine vk_getf hx hb (hE.1.1 i hi).2.2.1 hS hown (hts _ wf_St_9) (fun _ h9 => h9) d_St_charAt_8 ?_
  refine lv_iload_n hx hb d_St_charAt_11 rfl (lv_at hl 1 rfl) ?_
  refine cs_Si (As := [.ref (K.2 i), .int a]) (rest := []) ⟨hx, hb, hml, hown, hts⟩ (c_Sl_charAt hi ha) ws_St_495 ⟨Nat.le_of_ble_eq_true rfl, Nat.le_of_ble_eq_true rfl⟩ hE hS rfl hl.1 rfl (lv_room (Nat.le_of_ble_eq_true rfl)) d_St_charAt_12 ⟨Nat.le_of_ble_eq_true rfl, Nat.le_of_ble_eq_true rfl⟩ rfl rfl (fun r hr1 => ?_)
  subst hr1
  exact W.zret (v := sch i a.toNatClampNeg) hx hb hr hq (fun t ht hW => ⟨_, rfl, rfl, ht⟩) (fun _ h => by cases h) d_St_charAt_15

