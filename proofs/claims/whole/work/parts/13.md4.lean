abbrev b_Md_findRing : ByteArray := prog_14_method_43_code
def y_Md_findRing : MethodName := ⟨R_Md, "findRing", "(I)V"⟩
abbrev w_Md_findRing : List Cond := Cond.code y_Md_findRing b_Md_findRing 6 none :: gw_tbl
theorem d_Md_findRing_0 : decode b_Md_findRing 0 = .ok (.iconst 0, 1) := by decide +kernel
theorem d_Md_findRing_1 : decode b_Md_findRing 1 = .ok (.istore_n 2, 1) := by decide +kernel
theorem d_Md_findRing_2 : decode b_Md_findRing 2 = .ok (.iload_n 2, 1) := by decide +kernel
theorem d_Md_findRing_3 : decode b_Md_findRing 3 = .ok (.sipush 969, 3) := by decide +kernel
theorem d_Md_findRing_6 : decode b_Md_findRing 6 = .ok (.if_icmp .ge 16, 3) := by decide +kernel
theorem d_Md_findRing_9 : decode b_Md_findRing 9 = .ok (.aload_n 0, 1) := by decide +kernel
theorem d_Md_findRing_10 : decode b_Md_findRing 10 = .ok (.getfield 39, 3) := by decide +kernel
theorem d_Md_findRing_13 : decode b_Md_findRing 13 = .ok (.iload_n 2, 1) := by decide +kernel
theorem d_Md_findRing_14 : decode b_Md_findRing 14 = .ok (.iconst 0, 1) := by decide +kernel
theorem d_Md_findRing_15 : decode b_Md_findRing 15 = .ok (.iastore, 1) := by decide +kernel
theorem d_Md_findRing_16 : decode b_Md_findRing 16 = .ok (.iinc 2 1, 3) := by decide +kernel
theorem d_Md_findRing_19 : decode b_Md_findRing 19 = .ok (.goto (-17), 3) := by decide +kernel
theorem d_Md_findRing_22 : decode b_Md_findRing 22 = .ok (.aload_n 0, 1) := by decide +kernel
theorem d_Md_findRing_23 : decode b_Md_findRing 23 = .ok (.bipush 10, 2) := by decide +kernel
theorem d_Md_findRing_25 : decode b_Md_findRing 25 = .ok (.putfield 200, 3) := by decide +kernel
theorem d_Md_findRing_28 : decode b_Md_findRing 28 = .ok (.aload_n 0, 1) := by decide +kernel
theorem d_Md_findRing_29 : decode b_Md_findRing 29 = .ok (.iconst 0, 1) := by decide +kernel
theorem d_Md_findRing_30 : decode b_Md_findRing 30 = .ok (.putfield 197, 3) := by decide +kernel
theorem d_Md_findRing_33 : decode b_Md_findRing 33 = .ok (.iconst 0, 1) := by decide +kernel
theorem d_Md_findRing_34 : decode b_Md_findRing 34 = .ok (.istore_n 2, 1) := by decide +kernel
theorem d_Md_findRing_35 : decode b_Md_findRing 35 = .ok (.iconst 0, 1) := by decide +kernel
theorem d_Md_findRing_36 : decode b_Md_findRing 36 = .ok (.istore_n 3, 1) := by decide +kernel
theorem d_Md_findRing_37 : decode b_Md_findRing 37 = .ok (.iconst 0, 1) := by decide +kernel
theorem d_Md_findRing_38 : decode b_Md_findRing 38 = .ok (.istore 4, 2) := by decide +kernel
theorem d_Md_findRing_40 : decode b_Md_findRing 40 = .ok (.bipush 19, 2) := by decide +kernel
theorem d_Md_findRing_42 : decode b_Md_findRing 42 = .ok (.aload_n 0, 1) := by decide +kernel
theorem d_Md_findRing_43 : decode b_Md_findRing 43 = .ok (.getfield 200, 3) := by decide +kernel
theorem d_Md_findRing_46 : decode b_Md_findRing 46 = .ok (.imul, 1) := by decide +kernel
theorem d_Md_findRing_47 : decode b_Md_findRing 47 = .ok (.aload_n 0, 1) := by decide +kernel
theorem d_Md_findRing_48 : decode b_Md_findRing 48 = .ok (.getfield 197, 3) := by decide +kernel
theorem d_Md_findRing_51 : decode b_Md_findRing 51 = .ok (.iadd, 1) := by decide +kernel
theorem d_Md_findRing_52 : decode b_Md_findRing 52 = .ok (.bipush 9, 2) := by decide +kernel
theorem d_Md_findRing_54 : decode b_Md_findRing 54 = .ok (.iadd, 1) := by decide +kernel
theorem d_Md_findRing_55 : decode b_Md_findRing 55 = .ok (.istore 5, 2) := by decide +kernel
theorem d_Md_findRing_57 : decode b_Md_findRing 57 = .ok (.aload_n 0, 1) := by decide +kernel
theorem d_Md_findRing_58 : decode b_Md_findRing 58 = .ok (.getfield 39, 3) := by decide +kernel
theorem d_Md_findRing_61 : decode b_Md_findRing 61 = .ok (.iload 5, 2) := by decide +kernel
theorem d_Md_findRing_63 : decode b_Md_findRing 63 = .ok (.iaload, 1) := by decide +kernel
theorem d_Md_findRing_64 : decode b_Md_findRing 64 = .ok (.ifCond .ne 82, 3) := by decide +kernel
theorem d_Md_findRing_67 : decode b_Md_findRing 67 = .ok (.aload_n 0, 1) := by decide +kernel
theorem d_Md_findRing_68 : decode b_Md_findRing 68 = .ok (.getfield 39, 3) := by decide +kernel
theorem d_Md_findRing_71 : decode b_Md_findRing 71 = .ok (.iload 5, 2) := by decide +kernel
theorem d_Md_findRing_73 : decode b_Md_findRing 73 = .ok (.iload_n 2, 1) := by decide +kernel
theorem d_Md_findRing_74 : decode b_Md_findRing 74 = .ok (.iconst 1, 1) := by decide +kernel
theorem d_Md_findRing_75 : decode b_Md_findRing 75 = .ok (.iadd, 1) := by decide +kernel
theorem d_Md_findRing_76 : decode b_Md_findRing 76 = .ok (.iastore, 1) := by decide +kernel
theorem d_Md_findRing_77 : decode b_Md_findRing 77 = .ok (.aload_n 0, 1) := by decide +kernel
theorem d_Md_findRing_78 : decode b_Md_findRing 78 = .ok (.getfield 42, 3) := by decide +kernel
theorem d_Md_findRing_81 : decode b_Md_findRing 81 = .ok (.iload 5, 2) := by decide +kernel
theorem d_Md_findRing_83 : decode b_Md_findRing 83 = .ok (.iload_n 3, 1) := by decide +kernel
theorem d_Md_findRing_84 : decode b_Md_findRing 84 = .ok (.iastore, 1) := by decide +kernel
theorem d_Md_findRing_85 : decode b_Md_findRing 85 = .ok (.aload_n 0, 1) := by decide +kernel
theorem d_Md_findRing_86 : decode b_Md_findRing 86 = .ok (.getfield 45, 3) := by decide +kernel
theorem d_Md_findRing_89 : decode b_Md_findRing 89 = .ok (.iload 5, 2) := by decide +kernel
theorem d_Md_findRing_91 : decode b_Md_findRing 91 = .ok (.iload 4, 2) := by decide +kernel
theorem d_Md_findRing_93 : decode b_Md_findRing 93 = .ok (.iastore, 1) := by decide +kernel
theorem d_Md_findRing_94 : decode b_Md_findRing 94 = .ok (.aload_n 0, 1) := by decide +kernel
theorem d_Md_findRing_95 : decode b_Md_findRing 95 = .ok (.iload_n 1, 1) := by decide +kernel
theorem d_Md_findRing_96 : decode b_Md_findRing 96 = .ok (.invokevirtual 213, 3) := by decide +kernel
theorem d_Md_findRing_99 : decode b_Md_findRing 99 = .ok (.iload_n 3, 1) := by decide +kernel
theorem d_Md_findRing_100 : decode b_Md_findRing 100 = .ok (.aload_n 0, 1) := by decide +kernel
theorem d_Md_findRing_101 : decode b_Md_findRing 101 = .ok (.getfield 207, 3) := by decide +kernel
theorem d_Md_findRing_104 : decode b_Md_findRing 104 = .ok (.iadd, 1) := by decide +kernel
theorem d_Md_findRing_105 : decode b_Md_findRing 105 = .ok (.istore_n 3, 1) := by decide +kernel
theorem d_Md_findRing_106 : decode b_Md_findRing 106 = .ok (.iload 4, 2) := by decide +kernel
theorem d_Md_findRing_108 : decode b_Md_findRing 108 = .ok (.aload_n 0, 1) := by decide +kernel
theorem d_Md_findRing_109 : decode b_Md_findRing 109 = .ok (.getfield 203, 3) := by decide +kernel
theorem d_Md_findRing_112 : decode b_Md_findRing 112 = .ok (.ifCond .eq 7, 3) := by decide +kernel
theorem d_Md_findRing_115 : decode b_Md_findRing 115 = .ok (.iconst 1, 1) := by decide +kernel
theorem d_Md_findRing_116 : decode b_Md_findRing 116 = .ok (.goto 4, 3) := by decide +kernel
theorem d_Md_findRing_119 : decode b_Md_findRing 119 = .ok (.iconst 0, 1) := by decide +kernel
theorem d_Md_findRing_120 : decode b_Md_findRing 120 = .ok (.iadd, 1) := by decide +kernel
theorem d_Md_findRing_121 : decode b_Md_findRing 121 = .ok (.istore 4, 2) := by decide +kernel
theorem d_Md_findRing_123 : decode b_Md_findRing 123 = .ok (.iinc 2 1, 3) := by decide +kernel
theorem d_Md_findRing_126 : decode b_Md_findRing 126 = .ok (.bipush 19, 2) := by decide +kernel
theorem d_Md_findRing_128 : decode b_Md_findRing 128 = .ok (.aload_n 0, 1) := by decide +kernel
theorem d_Md_findRing_129 : decode b_Md_findRing 129 = .ok (.getfield 200, 3) := by decide +kernel
theorem d_Md_findRing_132 : decode b_Md_findRing 132 = .ok (.imul, 1) := by decide +kernel
theorem d_Md_findRing_133 : decode b_Md_findRing 133 = .ok (.aload_n 0, 1) := by decide +kernel
theorem d_Md_findRing_134 : decode b_Md_findRing 134 = .ok (.getfield 197, 3) := by decide +kernel
theorem d_Md_findRing_137 : decode b_Md_findRing 137 = .ok (.iadd, 1) := by decide +kernel
theorem d_Md_findRing_138 : decode b_Md_findRing 138 = .ok (.bipush 9, 2) := by decide +kernel
theorem d_Md_findRing_140 : decode b_Md_findRing 140 = .ok (.iadd, 1) := by decide +kernel
theorem d_Md_findRing_141 : decode b_Md_findRing 141 = .ok (.istore 5, 2) := by decide +kernel
theorem d_Md_findRing_143 : decode b_Md_findRing 143 = .ok (.goto (-86), 3) := by decide +kernel
theorem d_Md_findRing_146 : decode b_Md_findRing 146 = .ok (.aload_n 0, 1) := by decide +kernel
theorem d_Md_findRing_147 : decode b_Md_findRing 147 = .ok (.aload_n 0, 1) := by decide +kernel
theorem d_Md_findRing_148 : decode b_Md_findRing 148 = .ok (.getfield 39, 3) := by decide +kernel
theorem d_Md_findRing_151 : decode b_Md_findRing 151 = .ok (.iload 5, 2) := by decide +kernel
theorem d_Md_findRing_153 : decode b_Md_findRing 153 = .ok (.iaload, 1) := by decide +kernel
theorem d_Md_findRing_154 : decode b_Md_findRing 154 = .ok (.iconst 1, 1) := by decide +kernel
theorem d_Md_findRing_155 : decode b_Md_findRing 155 = .ok (.isub, 1) := by decide +kernel
theorem d_Md_findRing_156 : decode b_Md_findRing 156 = .ok (.putfield 244, 3) := by decide +kernel
theorem d_Md_findRing_159 : decode b_Md_findRing 159 = .ok (.aload_n 0, 1) := by decide +kernel
theorem d_Md_findRing_160 : decode b_Md_findRing 160 = .ok (.iload_n 2, 1) := by decide +kernel
theorem d_Md_findRing_161 : decode b_Md_findRing 161 = .ok (.aload_n 0, 1) := by decide +kernel
theorem d_Md_findRing_162 : decode b_Md_findRing 162 = .ok (.getfield 244, 3) := by decide +kernel
theorem d_Md_findRing_165 : decode b_Md_findRing 165 = .ok (.isub, 1) := by decide +kernel
theorem d_Md_findRing_166 : decode b_Md_findRing 166 = .ok (.putfield 247, 3) := by decide +kernel
theorem d_Md_findRing_169 : decode b_Md_findRing 169 = .ok (.aload_n 0, 1) := by decide +kernel
theorem d_Md_findRing_170 : decode b_Md_findRing 170 = .ok (.iload 4, 2) := by decide +kernel
theorem d_Md_findRing_172 : decode b_Md_findRing 172 = .ok (.aload_n 0, 1) := by decide +kernel
theorem d_Md_findRing_173 : decode b_Md_findRing 173 = .ok (.getfield 45, 3) := by decide +kernel
theorem d_Md_findRing_176 : decode b_Md_findRing 176 = .ok (.iload 5, 2) := by decide +kernel
theorem d_Md_findRing_178 : decode b_Md_findRing 178 = .ok (.iaload, 1) := by decide +kernel
theorem d_Md_findRing_179 : decode b_Md_findRing 179 = .ok (.isub, 1) := by decide +kernel
theorem d_Md_findRing_180 : decode b_Md_findRing 180 = .ok (.putfield 250, 3) := by decide +kernel
theorem d_Md_findRing_183 : decode b_Md_findRing 183 = .ok (.aload_n 0, 1) := by decide +kernel
theorem d_Md_findRing_184 : decode b_Md_findRing 184 = .ok (.iload_n 3, 1) := by decide +kernel
theorem d_Md_findRing_185 : decode b_Md_findRing 185 = .ok (.aload_n 0, 1) := by decide +kernel
theorem d_Md_findRing_186 : decode b_Md_findRing 186 = .ok (.getfield 42, 3) := by decide +kernel
theorem d_Md_findRing_189 : decode b_Md_findRing 189 = .ok (.iload 5, 2) := by decide +kernel
theorem d_Md_findRing_191 : decode b_Md_findRing 191 = .ok (.iaload, 1) := by decide +kernel
theorem d_Md_findRing_192 : decode b_Md_findRing 192 = .ok (.isub, 1) := by decide +kernel
theorem d_Md_findRing_193 : decode b_Md_findRing 193 = .ok (.putfield 253, 3) := by decide +kernel
theorem d_Md_findRing_196 : decode b_Md_findRing 196 = .ok (.return_, 1) := by decide +kernel
theorem wf_Md_39 : Cond.fieldLink R_Md 39 R_Md "when" "[I" ∈ gw_tbl := gw_tb (List.mem_of_getElem? (i := 1002) (by decide +kernel)) rfl
theorem wf_Md_244 : Cond.fieldLink R_Md 244 R_Md "ringLead" "I" ∈ gw_tbl := gw_tb (List.mem_of_getElem? (i := 1005) (by decide +kernel)) rfl
theorem wf_Md_247 : Cond.fieldLink R_Md 247 R_Md "ring" "I" ∈ gw_tbl := gw_tb (List.mem_of_getElem? (i := 1006) (by decide +kernel)) rfl
theorem wf_Md_45 : Cond.fieldLink R_Md 45 R_Md "metBy" "[I" ∈ gw_tbl := gw_tb (List.mem_of_getElem? (i := 1004) (by decide +kernel)) rfl
theorem wf_Md_250 : Cond.fieldLink R_Md 250 R_Md "ringMet" "I" ∈ gw_tbl := gw_tb (List.mem_of_getElem? (i := 1007) (by decide +kernel)) rfl
theorem wf_Md_42 : Cond.fieldLink R_Md 42 R_Md "hardBy" "[I" ∈ gw_tbl := gw_tb (List.mem_of_getElem? (i := 1003) (by decide +kernel)) rfl
theorem wf_Md_253 : Cond.fieldLink R_Md 253 R_Md "ringStrain" "I" ∈ gw_tbl := gw_tb (List.mem_of_getElem? (i := 1008) (by decide +kernel)) rfl
def f_Md_findRing_123 (k57 : Int32 → Int32 → Int32 → Int32 → Int32 → Ob → Prop) (Q : Ob → Prop) (x1 : Int32) (x2 : Int32) (x3 : Int32) (x4 : Int32) (o0 : Ob) : Prop := ∀ y1 : Int32, y1 = ((((19 : Int32) * (gI o0 24)) + (gI o0 25)) + (9 : Int32)) → (k57 x1 (x2 + (1 : Int32)) x3 x4 y1 o0)
def f_Md_findRing_57 (Q : Ob → Prop) : Nat → Int32 → Int32 → Int32 → Int32 → Int32 → Ob → Prop
  | 0, _, _, _, _, _, _ => False
  | n + 1, x1, x2, x3, x4, x5, o0 => (vp_in x5 969) ∧ ((((gA o0 31) x5.toNatClampNeg) = 0 → ((vp_in x5 969) ∧ ((vp_in x5 969) ∧ ((vp_in x5 969) ∧ (f_Md_foldStep x1 (sA (sA (sA o0 31 (upd (gA o0 31) x5.toNatClampNeg (x2 + (1 : Int32)))) 32 (upd (gA o0 32) x5.toNatClampNeg x3)) 33 (upd (gA o0 33) x5.toNatClampNeg x4)) (fun u11 => ((gI u11 27) = 0 → (f_Md_findRing_123 (f_Md_findRing_57 Q n) Q x1 x2 (x3 + (gI u11 26)) (x4 + (0 : Int32)) u11)) ∧ (¬ (gI u11 27) = 0 → (f_Md_findRing_123 (f_Md_findRing_57 Q n) Q x1 x2 (x3 + (gI u11 26)) (x4 + (1 : Int32)) u11)))))))) ∧ (¬ ((gA o0 31) x5.toNatClampNeg) = 0 → ((vp_in x5 969) ∧ (∀ y5 : Int32, y5 = (x2 - (((gA o0 31) x5.toNatClampNeg) - (1 : Int32))) → ((vp_in x5 969) ∧ ((vp_in x5 969) ∧ (Q (sI (sI (sI (sI o0 34 (((gA o0 31) x5.toNatClampNeg) - (1 : Int32))) 35 y5) 36 (x4 - ((gA o0 33) x5.toNatClampNeg))) 37 (x3 - ((gA o0 32) x5.toNatClampNeg))))))))))
def f_Md_findRing_2 (Q : Ob → Prop) : Nat → Int32 → Int32 → Ob → Prop
  | 0, _, _, _ => False
  | n + 1, x1, x2, o0 => ((969 : Int32) ≤ x2 → (∀ y14 : Int32, y14 = ((((19 : Int32) * (10 : Int32)) + (0 : Int32)) + (9 : Int32)) → ((∃ w, f_Md_findRing_57 Q w x1 (0 : Int32) (0 : Int32) (0 : Int32) y14 (sI (sI o0 24 (10 : Int32)) 25 (0 : Int32)))))) ∧ (¬ (969 : Int32) ≤ x2 → ((vp_in x2 969) ∧ ((f_Md_findRing_2 Q n) x1 (x2 + (1 : Int32)) (sA o0 31 (upd (gA o0 31) x2.toNatClampNeg (0 : Int32))))))
def f_Md_findRing (a0 : Int32) (o0 : Ob) (Q : Ob → Prop) : Prop := (∃ w, f_Md_findRing_2 Q w a0 (0 : Int32) o0)
abbrev rm_Md_findRing : Room := { frames := 1, cells := 0, slots := 0, locals := 21 }
set_option maxHeartbeats 4000000 in
set_option maxRecDepth 100000 in
theorem t_Md_findRing_123 {p : Program} {l : Launch} {e : Env} {s : State} {m : MethodId} {args : Array Value} {below : List Frame} {meth : Method} {c : Code} {A : Nat → Prop} {G : Gl} {h0 : Nat} {q0 : Nat → Nat} (k57 : Int32 → Int32 → Int32 → Int32 → Int32 → Ob → Prop) (Q : Ob → Prop) (C : Cx p s m args meth c R_Md b_Md_findRing 6 none G A)
    (hk57 : ∀ (x1 : Int32) (x2 : Int32) (x3 : Int32) (x4 : Int32) (x5 : Int32) (o0 : Ob) (ls : Array Slot) (H : Heap) (locs : List Loc), lv_has ls 6 [(0, .ref h0), (1, .int x1), (2, .int x2), (3, .int x3), (4, .int x4), (5, .int x5)] → va_P G.1 CL (cw_Md G h0 q0 o0) H → va_D A (cw_Md G h0 q0 o0) → va_S A s.heap H locs → k57 x1 x2 x3 x4 x5 o0 → W p l e rm_Md_findRing s m args below meth c H locs 0 0 (MQ below (va_Qv (fun (u : Ob) => Q u) (fun (u : Ob) t => BW G A (cw_Md G h0 q0 u) t) A) args s 0 0 A) (F0 m 57 ls [])) :
    ∀ (x1 : Int32) (x2 : Int32) (x3 : Int32) (x4 : Int32) (o0 : Ob) (ls : Array Slot) (H : Heap) (locs : List Loc), lv_has ls 6 [(0, .ref h0), (1, .int x1), (2, .int x2), (3, .int x3), (4, .int x4)] → va_P G.1 CL (cw_Md G h0 q0 o0) H → va_D A (cw_Md G h0 q0 o0) → va_S A s.heap H locs → f_Md_findRing_123 k57 Q x1 x2 x3 x4 o0 → W p l e rm_Md_findRing s m args below meth c H locs 0 0 (MQ below (va_Qv (fun (u : Ob) => Q u) (fun (u : Ob) t => BW G A (cw_Md G h0 q0 u) t) A) args s 0 0 A) (F0 m 123 ls []) := by
  obtain ⟨hx, hb, hml, hown, hr, hts, hK, hA, hlocks, hE⟩ := id C
  intro x1 x2 x3 x4 o0 ls H locs hl hP hD hS h
  have hP : va_P G.1 CL [(h0, .inr (11, [.int (gI o0 0), .ref (q0 1), .ref (q0 2), .ref (q0 3), .ref (q0 4), .ref (q0 5), .ref (q0 6), .int (gI o0 7), .int (gI o0 8), .int (gI o0 9), .int (gI o0 10), .int (gI o0 11), .int (gI o0 12), .int (gI o0 13), .int (gI o0 14), .long (gL o0 15), .int (gI o0 16), .int (gI o0 17), .int (gI o0 18), .int (gI o0 19), .int (gI o0 20), .int (gI o0 21), .int (gI o0 22), .int (gI o0 23), .int (gI o0 24), .int (gI o0 25), .int (gI o0 26), .int (gI o0 27), .ref (q0 28), .long (gL o0 29), .int (gI o0 30), .ref (q0 31), .ref (q0 32), .ref (q0 33), .int (gI o0 34), .int (gI o0 35), .int (gI o0 36), .int (gI o0 37), .ref (q0 38), .ref (q0 39), .int (gI o0 40), .ref (q0 41), .ref (q0 42), .ref (q0 43), .ref (q0 44)])), kI G (q0 1) 6100 (gA o0 1), kI G (q0 2) 6100 (gA o0 2), kJ G (q0 3) 2016 (gB o0 3), kJ G (q0 4) 2016 (gB o0 4), kI G (q0 5) 300 (gA o0 5), kI G (q0 6) 400 (gA o0 6), kJ G (q0 28) 10 (gB o0 28), kI G (q0 31) 969 (gA o0 31), kI G (q0 32) 969 (gA o0 32), kI G (q0 33) 969 (gA o0 33), kI G (q0 38) 5 (gA o0 38), kI G (q0 39) 5120 (gA o0 39), kI G (q0 41) 5 (gA o0 41), kZ G (q0 42) 1024 (gA o0 42), kI G (q0 43) 8192 (gA o0 43), kI G (q0 44) 8192 (gA o0 44)] H := hP
  have hD : va_D A [(h0, .inr (11, [.int (gI o0 0), .ref (q0 1), .ref (q0 2), .ref (q0 3), .ref (q0 4), .ref (q0 5), .ref (q0 6), .int (gI o0 7), .int (gI o0 8), .int (gI o0 9), .int (gI o0 10), .int (gI o0 11), .int (gI o0 12), .int (gI o0 13), .int (gI o0 14), .long (gL o0 15), .int (gI o0 16), .int (gI o0 17), .int (gI o0 18), .int (gI o0 19), .int (gI o0 20), .int (gI o0 21), .int (gI o0 22), .int (gI o0 23), .int (gI o0 24), .int (gI o0 25), .int (gI o0 26), .int (gI o0 27), .ref (q0 28), .long (gL o0 29), .int (gI o0 30), .ref (q0 31), .ref (q0 32), .ref (q0 33), .int (gI o0 34), .int (gI o0 35), .int (gI o0 36), .int (gI o0 37), .ref (q0 38), .ref (q0 39), .int (gI o0 40), .ref (q0 41), .ref (q0 42), .ref (q0 43), .ref (q0 44)])), kI G (q0 1) 6100 (gA o0 1), kI G (q0 2) 6100 (gA o0 2), kJ G (q0 3) 2016 (gB o0 3), kJ G (q0 4) 2016 (gB o0 4), kI G (q0 5) 300 (gA o0 5), kI G (q0 6) 400 (gA o0 6), kJ G (q0 28) 10 (gB o0 28), kI G (q0 31) 969 (gA o0 31), kI G (q0 32) 969 (gA o0 32), kI G (q0 33) 969 (gA o0 33), kI G (q0 38) 5 (gA o0 38), kI G (q0 39) 5120 (gA o0 39), kI G (q0 41) 5 (gA o0 41), kZ G (q0 42) 1024 (gA o0 42), kI G (q0 43) 8192 (gA o0 43), kI G (q0 44) 8192 (gA o0 44)] := hD
  unfold f_Md_findRing_123 at h
  refine lv_iinc (v := (x2 + (1 : Int32))) (lv' := [(2, .int (x2 + (1 : Int32))), (0, .ref h0), (1, .int x1), (3, .int x3), (4, .int x4)]) hx hb d_Md_findRing_123 hl (k := 2) rfl rfl (by decide) rfl (fun ls hl => ?_)
  refine lv_bipush (v := (19 : Int32)) hx hb d_Md_findRing_126 (by decide) ?_
  refine lv_aload_n hx hb d_Md_findRing_128 rfl (lv_at hl 1 rfl) ?_
  refine va_get (D := G.1) (ci := 11) (v := .int (gI o0 24)) (C := R_Md) (T := T_Md) (N := 45) hx hb hts i_Md hown hK hP 0 rfl rfl 24 (by decide) (hts _ wf_Md_200) (fun _ h9 => h9) rfl d_Md_findRing_129 ?_
  refine lv_imul hx hb d_Md_findRing_132 ?_
  refine lv_aload_n hx hb d_Md_findRing_133 rfl (lv_at hl 1 rfl) ?_
  refine va_get (D := G.1) (ci := 11) (v := .int (gI o0 25)) (C := R_Md) (T := T_Md) (N := 45) hx hb hts i_Md hown hK hP 0 rfl rfl 25 (by decide) (hts _ wf_Md_197) (fun _ h9 => h9) rfl d_Md_findRing_134 ?_
  refine lv_iadd hx hb d_Md_findRing_137 ?_
  refine lv_bipush (v := (9 : Int32)) hx hb d_Md_findRing_138 (by decide) ?_
  refine lv_iadd hx hb d_Md_findRing_140 ?_
  refine lv_topi (fun y1 ey1 => ?_)
  have h := h y1 ey1
  refine lv_istore (lv' := [(5, .int y1), (2, .int (x2 + (1 : Int32))), (0, .ref h0), (1, .int x1), (3, .int x3), (4, .int x4)]) hx hb d_Md_findRing_141 hl (by decide) rfl (fun ls hl => ?_)
  refine lv_goto (tgt := 57) hx hb d_Md_findRing_143 (by decide) ?_
  have hl := lv_sub (l' := [(0, .ref h0), (1, .int x1), (2, .int (x2 + (1 : Int32))), (3, .int x3), (4, .int x4), (5, .int y1)]) hl [2, 3, 1, 4, 5, 0] rfl
  have hP : va_P G.1 CL (cw_Md G h0 q0 o0) H := hP
  have hD : va_D A (cw_Md G h0 q0 o0) := hD
  exact hk57 x1 (x2 + (1 : Int32)) x3 x4 y1 o0 ls H locs hl hP hD hS h
set_option maxHeartbeats 4000000 in
set_option maxRecDepth 100000 in
theorem t_Md_findRing_57 {p : Program} {l : Launch} {e : Env} {s : State} {m : MethodId} {args : Array Value} {below : List Frame} {meth : Method} {c : Code} {A : Nat → Prop} {G : Gl} {h0 : Nat} {q0 : Nat → Nat} (Q : Ob → Prop) (C : Cx p s m args meth c R_Md b_Md_findRing 6 none G A) :
    ∀ (n : Nat) (x1 : Int32) (x2 : Int32) (x3 : Int32) (x4 : Int32) (x5 : Int32) (o0 : Ob) (ls : Array Slot) (H : Heap) (locs : List Loc), lv_has ls 6 [(0, .ref h0), (1, .int x1), (2, .int x2), (3, .int x3), (4, .int x4), (5, .int x5)] → va_P G.1 CL (cw_Md G h0 q0 o0) H → va_D A (cw_Md G h0 q0 o0) → va_S A s.heap H locs → f_Md_findRing_57 Q n x1 x2 x3 x4 x5 o0 → W p l e rm_Md_findRing s m args below meth c H locs 0 0 (MQ below (va_Qv (fun (u : Ob) => Q u) (fun (u : Ob) t => BW G A (cw_Md G h0 q0 u) t) A) args s 0 0 A) (F0 m 57 ls []) := by
  obtain ⟨hx, hb, hml, hown, hr, hts, hK, hA, hlocks, hE⟩ := id C
  intro n
  induction n with
  | zero => intro x1 x2 x3 x4 x5 o0 ls H locs hl hP hD hS h; exact absurd h id
  | succ n ih =>
    intro x1 x2 x3 x4 x5 o0 ls H locs hl hP hD hS h
    have hP : va_P G.1 CL [(h0, .inr (11, [.int (gI o0 0), .ref (q0 1), .ref (q0 2), .ref (q0 3), .ref (q0 4), .ref (q0 5), .ref (q0 6), .int (gI o0 7), .int (gI o0 8), .int (gI o0 9), .int (gI o0 10), .int (gI o0 11), .int (gI o0 12), .int (gI o0 13), .int (gI o0 14), .long (gL o0 15), .int (gI o0 16), .int (gI o0 17), .int (gI o0 18), .int (gI o0 19), .int (gI o0 20), .int (gI o0 21), .int (gI o0 22), .int (gI o0 23), .int (gI o0 24), .int (gI o0 25), .int (gI o0 26), .int (gI o0 27), .ref (q0 28), .long (gL o0 29), .int (gI o0 30), .ref (q0 31), .ref (q0 32), .ref (q0 33), .int (gI o0 34), .int (gI o0 35), .int (gI o0 36), .int (gI o0 37), .ref (q0 38), .ref (q0 39), .int (gI o0 40), .ref (q0 41), .ref (q0 42), .ref (q0 43), .ref (q0 44)])), kI G (q0 1) 6100 (gA o0 1), kI G (q0 2) 6100 (gA o0 2), kJ G (q0 3) 2016 (gB o0 3), kJ G (q0 4) 2016 (gB o0 4), kI G (q0 5) 300 (gA o0 5), kI G (q0 6) 400 (gA o0 6), kJ G (q0 28) 10 (gB o0 28), kI G (q0 31) 969 (gA o0 31), kI G (q0 32) 969 (gA o0 32), kI G (q0 33) 969 (gA o0 33), kI G (q0 38) 5 (gA o0 38), kI G (q0 39) 5120 (gA o0 39), kI G (q0 41) 5 (gA o0 41), kZ G (q0 42) 1024 (gA o0 42), kI G (q0 43) 8192 (gA o0 43), kI G (q0 44) 8192 (gA o0 44)] H := hP
    have hD : va_D A [(h0, .inr (11, [.int (gI o0 0), .ref (q0 1), .ref (q0 2), .ref (q0 3), .ref (q0 4), .ref (q0 5), .ref (q0 6), .int (gI o0 7), .int (gI o0 8), .int (gI o0 9), .int (gI o0 10), .int (gI o0 11), .int (gI o0 12), .int (gI o0 13), .int (gI o0 14), .long (gL o0 15), .int (gI o0 16), .int (gI o0 17), .int (gI o0 18), .int (gI o0 19), .int (gI o0 20), .int (gI o0 21), .int (gI o0 22), .int (gI o0 23), .int (gI o0 24), .int (gI o0 25), .int (gI o0 26), .int (gI o0 27), .ref (q0 28), .long (gL o0 29), .int (gI o0 30), .ref (q0 31), .ref (q0 32), .ref (q0 33), .int (gI o0 34), .int (gI o0 35), .int (gI o0 36), .int (gI o0 37), .ref (q0 38), .ref (q0 39), .int (gI o0 40), .ref (q0 41), .ref (q0 42), .ref (q0 43), .ref (q0 44)])), kI G (q0 1) 6100 (gA o0 1), kI G (q0 2) 6100 (gA o0 2), kJ G (q0 3) 2016 (gB o0 3), kJ G (q0 4) 2016 (gB o0 4), kI G (q0 5) 300 (gA o0 5), kI G (q0 6) 400 (gA o0 6), kJ G (q0 28) 10 (gB o0 28), kI G (q0 31) 969 (gA o0 31), kI G (q0 32) 969 (gA o0 32), kI G (q0 33) 969 (gA o0 33), kI G (q0 38) 5 (gA o0 38), kI G (q0 39) 5120 (gA o0 39), kI G (q0 41) 5 (gA o0 41), kZ G (q0 42) 1024 (gA o0 42), kI G (q0 43) 8192 (gA o0 43), kI G (q0 44) 8192 (gA o0 44)] := hD
    unfold f_Md_findRing_57 at h
    refine lv_aload_n hx hb d_Md_findRing_57 rfl (lv_at hl 0 rfl) ?_
    refine va_get (D := G.1) (ci := 11) (v := .ref (q0 31)) (C := R_Md) (T := T_Md) (N := 45) hx hb hts i_Md hown hK hP 0 rfl rfl 31 (by decide) (hts _ wf_Md_39) (fun _ h9 => h9) rfl d_Md_findRing_58 ?_
    refine lv_iload hx hb d_Md_findRing_61 (lv_at hl 5 rfl) ?_
    have g2 := h.1
    have h := h.2
    refine xa_iald hx hb hK hP 8 0 rfl rfl g2 (k := x5.toNatClampNeg) rfl d_Md_findRing_63 ?_
    refine lv_if_ne (tgt := 146) hx hb d_Md_findRing_64 (by decide) (fun c3 => ?_) (fun c3 => ?_)
    · have h := h.2 c3
      refine lv_aload_n hx hb d_Md_findRing_146 rfl (lv_at hl 0 rfl) ?_
      refine lv_aload_n hx hb d_Md_findRing_147 rfl (lv_at hl 0 rfl) ?_
      refine va_get (D := G.1) (ci := 11) (v := .ref (q0 31)) (C := R_Md) (T := T_Md) (N := 45) hx hb hts i_Md hown hK hP 0 rfl rfl 31 (by decide) (hts _ wf_Md_39) (fun _ h9 => h9) rfl d_Md_findRing_148 ?_
      refine lv_iload hx hb d_Md_findRing_151 (lv_at hl 5 rfl) ?_
      have g4 := h.1
      have h := h.2
      refine xa_iald hx hb hK hP 8 0 rfl rfl g4 (k := x5.toNatClampNeg) rfl d_Md_findRing_153 ?_
      refine lv_iconst (v := (1 : Int32)) hx hb d_Md_findRing_154 (by decide) ?_
      refine lv_isub hx hb d_Md_findRing_155 ?_
      refine va_put (D := G.1) (ci := 11) (v := .int (((gA o0 31) x5.toNatClampNeg) - (1 : Int32))) (ty := .int) (C := R_Md) (T := T_Md) (N := 45) hx hb hts i_Md ty_Md ty_Md_ok nm_Md hown hK hP hD hS 0 rfl rfl 34 (by decide) (hts _ wf_Md_244) (fun _ h9 => h9) rfl (ty_Md_ok 34 (by decide)) rfl rfl (Nat.le_of_ble_eq_true rfl) d_Md_findRing_156 (fun H locs hP hD hS => ?_)
      have hP : va_P G.1 CL [(h0, .inr (11, [.int (gI o0 0), .ref (q0 1), .ref (q0 2), .ref (q0 3), .ref (q0 4), .ref (q0 5), .ref (q0 6), .int (gI o0 7), .int (gI o0 8), .int (gI o0 9), .int (gI o0 10), .int (gI o0 11), .int (gI o0 12), .int (gI o0 13), .int (gI o0 14), .long (gL o0 15), .int (gI o0 16), .int (gI o0 17), .int (gI o0 18), .int (gI o0 19), .int (gI o0 20), .int (gI o0 21), .int (gI o0 22), .int (gI o0 23), .int (gI o0 24), .int (gI o0 25), .int (gI o0 26), .int (gI o0 27), .ref (q0 28), .long (gL o0 29), .int (gI o0 30), .ref (q0 31), .ref (q0 32), .ref (q0 33), .int (((gA o0 31) x5.toNatClampNeg) - (1 : Int32)), .int (gI o0 35), .int (gI o0 36), .int (gI o0 37), .ref (q0 38), .ref (q0 39), .int (gI o0 40), .ref (q0 41), .ref (q0 42), .ref (q0 43), .ref (q0 44)])), kI G (q0 1) 6100 (gA o0 1), kI G (q0 2) 6100 (gA o0 2), kJ G (q0 3) 2016 (gB o0 3), kJ G (q0 4) 2016 (gB o0 4), kI G (q0 5) 300 (gA o0 5), kI G (q0 6) 400 (gA o0 6), kJ G (q0 28) 10 (gB o0 28), kI G (q0 31) 969 (gA o0 31), kI G (q0 32) 969 (gA o0 32), kI G (q0 33) 969 (gA o0 33), kI G (q0 38) 5 (gA o0 38), kI G (q0 39) 5120 (gA o0 39), kI G (q0 41) 5 (gA o0 41), kZ G (q0 42) 1024 (gA o0 42), kI G (q0 43) 8192 (gA o0 43), kI G (q0 44) 8192 (gA o0 44)] H := hP
      have hD : va_D A [(h0, .inr (11, [.int (gI o0 0), .ref (q0 1), .ref (q0 2), .ref (q0 3), .ref (q0 4), .ref (q0 5), .ref (q0 6), .int (gI o0 7), .int (gI o0 8), .int (gI o0 9), .int (gI o0 10), .int (gI o0 11), .int (gI o0 12), .int (gI o0 13), .int (gI o0 14), .long (gL o0 15), .int (gI o0 16), .int (gI o0 17), .int (gI o0 18), .int (gI o0 19), .int (gI o0 20), .int (gI o0 21), .int (gI o0 22), .int (gI o0 23), .int (gI o0 24), .int (gI o0 25), .int (gI o0 26), .int (gI o0 27), .ref (q0 28), .long (gL o0 29), .int (gI o0 30), .ref (q0 31), .ref (q0 32), .ref (q0 33), .int (((gA o0 31) x5.toNatClampNeg) - (1 : Int32)), .int (gI o0 35), .int (gI o0 36), .int (gI o0 37), .ref (q0 38), .ref (q0 39), .int (gI o0 40), .ref (q0 41), .ref (q0 42), .ref (q0 43), .ref (q0 44)])), kI G (q0 1) 6100 (gA o0 1), kI G (q0 2) 6100 (gA o0 2), kJ G (q0 3) 2016 (gB o0 3), kJ G (q0 4) 2016 (gB o0 4), kI G (q0 5) 300 (gA o0 5), kI G (q0 6) 400 (gA o0 6), kJ G (q0 28) 10 (gB o0 28), kI G (q0 31) 969 (gA o0 31), kI G (q0 32) 969 (gA o0 32), kI G (q0 33) 969 (gA o0 33), kI G (q0 38) 5 (gA o0 38), kI G (q0 39) 5120 (gA o0 39), kI G (q0 41) 5 (gA o0 41), kZ G (q0 42) 1024 (gA o0 42), kI G (q0 43) 8192 (gA o0 43), kI G (q0 44) 8192 (gA o0 44)] := hD
      refine lv_aload_n hx hb d_Md_findRing_159 rfl (lv_at hl 0 rfl) ?_
      refine lv_iload_n hx hb d_Md_findRing_160 rfl (lv_at hl 2 rfl) ?_
      refine lv_aload_n hx hb d_Md_findRing_161 rfl (lv_at hl 0 rfl) ?_
      refine va_get (D := G.1) (ci := 11) (v := .int (((gA o0 31) x5.toNatClampNeg) - (1 : Int32))) (C := R_Md) (T := T_Md) (N := 45) hx hb hts i_Md hown hK hP 0 rfl rfl 34 (by decide) (hts _ wf_Md_244) (fun _ h9 => h9) rfl d_Md_findRing_162 ?_
      refine lv_isub hx hb d_Md_findRing_165 ?_
      refine lv_topi (fun y5 ey5 => ?_)
      have h := h y5 ey5
      refine va_put (D := G.1) (ci := 11) (v := .int y5) (ty := .int) (C := R_Md) (T := T_Md) (N := 45) hx hb hts i_Md ty_Md ty_Md_ok nm_Md hown hK hP hD hS 0 rfl rfl 35 (by decide) (hts _ wf_Md_247) (fun _ h9 => h9) rfl (ty_Md_ok 35 (by decide)) rfl rfl (Nat.le_of_ble_eq_true rfl) d_Md_findRing_166 (fun H locs hP hD hS => ?_)
      have hP : va_P G.1 CL [(h0, .inr (11, [.int (gI o0 0), .ref (q0 1), .ref (q0 2), .ref (q0 3), .ref (q0 4), .ref (q0 5), .ref (q0 6), .int (gI o0 7), .int (gI o0 8), .int (gI o0 9), .int (gI o0 10), .int (gI o0 11), .int (gI o0 12), .int (gI o0 13), .int (gI o0 14), .long (gL o0 15), .int (gI o0 16), .int (gI o0 17), .int (gI o0 18), .int (gI o0 19), .int (gI o0 20), .int (gI o0 21), .int (gI o0 22), .int (gI o0 23), .int (gI o0 24), .int (gI o0 25), .int (gI o0 26), .int (gI o0 27), .ref (q0 28), .long (gL o0 29), .int (gI o0 30), .ref (q0 31), .ref (q0 32), .ref (q0 33), .int (((gA o0 31) x5.toNatClampNeg) - (1 : Int32)), .int y5, .int (gI o0 36), .int (gI o0 37), .ref (q0 38), .ref (q0 39), .int (gI o0 40), .ref (q0 41), .ref (q0 42), .ref (q0 43), .ref (q0 44)])), kI G (q0 1) 6100 (gA o0 1), kI G (q0 2) 6100 (gA o0 2), kJ G (q0 3) 2016 (gB o0 3), kJ G (q0 4) 2016 (gB o0 4), kI G (q0 5) 300 (gA o0 5), kI G (q0 6) 400 (gA o0 6), kJ G (q0 28) 10 (gB o0 28), kI G (q0 31) 969 (gA o0 31), kI G (q0 32) 969 (gA o0 32), kI G (q0 33) 969 (gA o0 33), kI G (q0 38) 5 (gA o0 38), kI G (q0 39) 5120 (gA o0 39), kI G (q0 41) 5 (gA o0 41), kZ G (q0 42) 1024 (gA o0 42), kI G (q0 43) 8192 (gA o0 43), kI G (q0 44) 8192 (gA o0 44)] H := hP
      have hD : va_D A [(h0, .inr (11, [.int (gI o0 0), .ref (q0 1), .ref (q0 2), .ref (q0 3), .ref (q0 4), .ref (q0 5), .ref (q0 6), .int (gI o0 7), .int (gI o0 8), .int (gI o0 9), .int (gI o0 10), .int (gI o0 11), .int (gI o0 12), .int (gI o0 13), .int (gI o0 14), .long (gL o0 15), .int (gI o0 16), .int (gI o0 17), .int (gI o0 18), .int (gI o0 19), .int (gI o0 20), .int (gI o0 21), .int (gI o0 22), .int (gI o0 23), .int (gI o0 24), .int (gI o0 25), .int (gI o0 26), .int (gI o0 27), .ref (q0 28), .long (gL o0 29), .int (gI o0 30), .ref (q0 31), .ref (q0 32), .ref (q0 33), .int (((gA o0 31) x5.toNatClampNeg) - (1 : Int32)), .int y5, .int (gI o0 36), .int (gI o0 37), .ref (q0 38), .ref (q0 39), .int (gI o0 40), .ref (q0 41), .ref (q0 42), .ref (q0 43), .ref (q0 44)])), kI G (q0 1) 6100 (gA o0 1), kI G (q0 2) 6100 (gA o0 2), kJ G (q0 3) 2016 (gB o0 3), kJ G (q0 4) 2016 (gB o0 4), kI G (q0 5) 300 (gA o0 5), kI G (q0 6) 400 (gA o0 6), kJ G (q0 28) 10 (gB o0 28), kI G (q0 31) 969 (gA o0 31), kI G (q0 32) 969 (gA o0 32), kI G (q0 33) 969 (gA o0 33), kI G (q0 38) 5 (gA o0 38), kI G (q0 39) 5120 (gA o0 39), kI G (q0 41) 5 (gA o0 41), kZ G (q0 42) 1024 (gA o0 42), kI G (q0 43) 8192 (gA o0 43), kI G (q0 44) 8192 (gA o0 44)] := hD
      refine lv_aload_n hx hb d_Md_findRing_169 rfl (lv_at hl 0 rfl) ?_
      refine lv_iload hx hb d_Md_findRing_170 (lv_at hl 4 rfl) ?_
      refine lv_aload_n hx hb d_Md_findRing_172 rfl (lv_at hl 0 rfl) ?_
      refine va_get (D := G.1) (ci := 11) (v := .ref (q0 33)) (C := R_Md) (T := T_Md) (N := 45) hx hb hts i_Md hown hK hP 0 rfl rfl 33 (by decide) (hts _ wf_Md_45) (fun _ h9 => h9) rfl d_Md_findRing_173 ?_
      refine lv_iload hx hb d_Md_findRing_176 (lv_at hl 5 rfl) ?_
      have g6 := h.1
      have h := h.2
      refine xa_iald hx hb hK hP 10 0 rfl rfl g6 (k := x5.toNatClampNeg) rfl d_Md_findRing_178 ?_
      refine lv_isub hx hb d_Md_findRing_179 ?_
      refine va_put (D := G.1) (ci := 11) (v := .int (x4 - ((gA o0 33) x5.toNatClampNeg))) (ty := .int) (C := R_Md) (T := T_Md) (N := 45) hx hb hts i_Md ty_Md ty_Md_ok nm_Md hown hK hP hD hS 0 rfl rfl 36 (by decide) (hts _ wf_Md_250) (fun _ h9 => h9) rfl (ty_Md_ok 36 (by decide)) rfl rfl (Nat.le_of_ble_eq_true rfl) d_Md_findRing_180 (fun H locs hP hD hS => ?_)
      have hP : va_P G.1 CL [(h0, .inr (11, [.int (gI o0 0), .ref (q0 1), .ref (q0 2), .ref (q0 3), .ref (q0 4), .ref (q0 5), .ref (q0 6), .int (gI o0 7), .int (gI o0 8), .int (gI o0 9), .int (gI o0 10), .int (gI o0 11), .int (gI o0 12), .int (gI o0 13), .int (gI o0 14), .long (gL o0 15), .int (gI o0 16), .int (gI o0 17), .int (gI o0 18), .int (gI o0 19), .int (gI o0 20), .int (gI o0 21), .int (gI o0 22), .int (gI o0 23), .int (gI o0 24), .int (gI o0 25), .int (gI o0 26), .int (gI o0 27), .ref (q0 28), .long (gL o0 29), .int (gI o0 30), .ref (q0 31), .ref (q0 32), .ref (q0 33), .int (((gA o0 31) x5.toNatClampNeg) - (1 : Int32)), .int y5, .int (x4 - ((gA o0 33) x5.toNatClampNeg)), .int (gI o0 37), .ref (q0 38), .ref (q0 39), .int (gI o0 40), .ref (q0 41), .ref (q0 42), .ref (q0 43), .ref (q0 44)])), kI G (q0 1) 6100 (gA o0 1), kI G (q0 2) 6100 (gA o0 2), kJ G (q0 3) 2016 (gB o0 3), kJ G (q0 4) 2016 (gB o0 4), kI G (q0 5) 300 (gA o0 5), kI G (q0 6) 400 (gA o0 6), kJ G (q0 28) 10 (gB o0 28), kI G (q0 31) 969 (gA o0 31), kI G (q0 32) 969 (gA o0 32), kI G (q0 33) 969 (gA o0 33), kI G (q0 38) 5 (gA o0 38), kI G (q0 39) 5120 (gA o0 39), kI G (q0 41) 5 (gA o0 41), kZ G (q0 42) 1024 (gA o0 42), kI G (q0 43) 8192 (gA o0 43), kI G (q0 44) 8192 (gA o0 44)] H := hP
      have hD : va_D A [(h0, .inr (11, [.int (gI o0 0), .ref (q0 1), .ref (q0 2), .ref (q0 3), .ref (q0 4), .ref (q0 5), .ref (q0 6), .int (gI o0 7), .int (gI o0 8), .int (gI o0 9), .int (gI o0 10), .int (gI o0 11), .int (gI o0 12), .int (gI o0 13), .int (gI o0 14), .long (gL o0 15), .int (gI o0 16), .int (gI o0 17), .int (gI o0 18), .int (gI o0 19), .int (gI o0 20), .int (gI o0 21), .int (gI o0 22), .int (gI o0 23), .int (gI o0 24), .int (gI o0 25), .int (gI o0 26), .int (gI o0 27), .ref (q0 28), .long (gL o0 29), .int (gI o0 30), .ref (q0 31), .ref (q0 32), .ref (q0 33), .int (((gA o0 31) x5.toNatClampNeg) - (1 : Int32)), .int y5, .int (x4 - ((gA o0 33) x5.toNatClampNeg)), .int (gI o0 37), .ref (q0 38), .ref (q0 39), .int (gI o0 40), .ref (q0 41), .ref (q0 42), .ref (q0 43), .ref (q0 44)])), kI G (q0 1) 6100 (gA o0 1), kI G (q0 2) 6100 (gA o0 2), kJ G (q0 3) 2016 (gB o0 3), kJ G (q0 4) 2016 (gB o0 4), kI G (q0 5) 300 (gA o0 5), kI G (q0 6) 400 (gA o0 6), kJ G (q0 28) 10 (gB o0 28), kI G (q0 31) 969 (gA o0 31), kI G (q0 32) 969 (gA o0 32), kI G (q0 33) 969 (gA o0 33), kI G (q0 38) 5 (gA o0 38), kI G (q0 39) 5120 (gA o0 39), kI G (q0 41) 5 (gA o0 41), kZ G (q0 42) 1024 (gA o0 42), kI G (q0 43) 8192 (gA o0 43), kI G (q0 44) 8192 (gA o0 44)] := hD
      refine lv_aload_n hx hb d_Md_findRing_183 rfl (lv_at hl 0 rfl) ?_
      refine lv_iload_n hx hb d_Md_findRing_184 rfl (lv_at hl 3 rfl) ?_
      refine lv_aload_n hx hb d_Md_findRing_185 rfl (lv_at hl 0 rfl) ?_
      refine va_get (D := G.1) (ci := 11) (v := .ref (q0 32)) (C := R_Md) (T := T_Md) (N := 45) hx hb hts i_Md hown hK hP 0 rfl rfl 32 (by decide) (hts _ wf_Md_42) (fun _ h9 => h9) rfl d_Md_findRing_186 ?_
      refine lv_iload hx hb d_Md_findRing_189 (lv_at hl 5 rfl) ?_
      have g7 := h.1
      have h := h.2
      refine xa_iald hx hb hK hP 9 0 rfl rfl g7 (k := x5.toNatClampNeg) rfl d_Md_findRing_191 ?_
      refine lv_isub hx hb d_Md_findRing_192 ?_
      refine va_put (D := G.1) (ci := 11) (v := .int (x3 - ((gA o0 32) x5.toNatClampNeg))) (ty := .int) (C := R_Md) (T := T_Md) (N := 45) hx hb hts i_Md ty_Md ty_Md_ok nm_Md hown hK hP hD hS 0 rfl rfl 37 (by decide) (hts _ wf_Md_253) (fun _ h9 => h9) rfl (ty_Md_ok 37 (by decide)) rfl rfl (Nat.le_of_ble_eq_true rfl) d_Md_findRing_193 (fun H locs hP hD hS => ?_)
      have hP : va_P G.1 CL [(h0, .inr (11, [.int (gI o0 0), .ref (q0 1), .ref (q0 2), .ref (q0 3), .ref (q0 4), .ref (q0 5), .ref (q0 6), .int (gI o0 7), .int (gI o0 8), .int (gI o0 9), .int (gI o0 10), .int (gI o0 11), .int (gI o0 12), .int (gI o0 13), .int (gI o0 14), .long (gL o0 15), .int (gI o0 16), .int (gI o0 17), .int (gI o0 18), .int (gI o0 19), .int (gI o0 20), .int (gI o0 21), .int (gI o0 22), .int (gI o0 23), .int (gI o0 24), .int (gI o0 25), .int (gI o0 26), .int (gI o0 27), .ref (q0 28), .long (gL o0 29), .int (gI o0 30), .ref (q0 31), .ref (q0 32), .ref (q0 33), .int (((gA o0 31) x5.toNatClampNeg) - (1 : Int32)), .int y5, .int (x4 - ((gA o0 33) x5.toNatClampNeg)), .int (x3 - ((gA o0 32) x5.toNatClampNeg)), .ref (q0 38), .ref (q0 39), .int (gI o0 40), .ref (q0 41), .ref (q0 42), .ref (q0 43), .ref (q0 44)])), kI G (q0 1) 6100 (gA o0 1), kI G (q0 2) 6100 (gA o0 2), kJ G (q0 3) 2016 (gB o0 3), kJ G (q0 4) 2016 (gB o0 4), kI G (q0 5) 300 (gA o0 5), kI G (q0 6) 400 (gA o0 6), kJ G (q0 28) 10 (gB o0 28), kI G (q0 31) 969 (gA o0 31), kI G (q0 32) 969 (gA o0 32), kI G (q0 33) 969 (gA o0 33), kI G (q0 38) 5 (gA o0 38), kI G (q0 39) 5120 (gA o0 39), kI G (q0 41) 5 (gA o0 41), kZ G (q0 42) 1024 (gA o0 42), kI G (q0 43) 8192 (gA o0 43), kI G (q0 44) 8192 (gA o0 44)] H := hP
      have hD : va_D A [(h0, .inr (11, [.int (gI o0 0), .ref (q0 1), .ref (q0 2), .ref (q0 3), .ref (q0 4), .ref (q0 5), .ref (q0 6), .int (gI o0 7), .int (gI o0 8), .int (gI o0 9), .int (gI o0 10), .int (gI o0 11), .int (gI o0 12), .int (gI o0 13), .int (gI o0 14), .long (gL o0 15), .int (gI o0 16), .int (gI o0 17), .int (gI o0 18), .int (gI o0 19), .int (gI o0 20), .int (gI o0 21), .int (gI o0 22), .int (gI o0 23), .int (gI o0 24), .int (gI o0 25), .int (gI o0 26), .int (gI o0 27), .ref (q0 28), .long (gL o0 29), .int (gI o0 30), .ref (q0 31), .ref (q0 32), .ref (q0 33), .int (((gA o0 31) x5.toNatClampNeg) - (1 : Int32)), .int y5, .int (x4 - ((gA o0 33) x5.toNatClampNeg)), .int (x3 - ((gA o0 32) x5.toNatClampNeg)), .ref (q0 38), .ref (q0 39), .int (gI o0 40), .ref (q0 41), .ref (q0 42), .ref (q0 43), .ref (q0 44)])), kI G (q0 1) 6100 (gA o0 1), kI G (q0 2) 6100 (gA o0 2), kJ G (q0 3) 2016 (gB o0 3), kJ G (q0 4) 2016 (gB o0 4), kI G (q0 5) 300 (gA o0 5), kI G (q0 6) 400 (gA o0 6), kJ G (q0 28) 10 (gB o0 28), kI G (q0 31) 969 (gA o0 31), kI G (q0 32) 969 (gA o0 32), kI G (q0 33) 969 (gA o0 33), kI G (q0 38) 5 (gA o0 38), kI G (q0 39) 5120 (gA o0 39), kI G (q0 41) 5 (gA o0 41), kZ G (q0 42) 1024 (gA o0 42), kI G (q0 43) 8192 (gA o0 43), kI G (q0 44) 8192 (gA o0 44)] := hD
      have hP : va_P G.1 CL (cw_Md G h0 q0 (sI (sI (sI (sI o0 34 (((gA o0 31) x5.toNatClampNeg) - (1 : Int32))) 35 y5) 36 (x4 - ((gA o0 33) x5.toNatClampNeg))) 37 (x3 - ((gA o0 32) x5.toNatClampNeg)))) H := hP
      have hD : va_D A (cw_Md G h0 q0 (sI (sI (sI (sI o0 34 (((gA o0 31) x5.toNatClampNeg) - (1 : Int32))) 35 y5) 36 (x4 - ((gA o0 33) x5.toNatClampNeg))) 37 (x3 - ((gA o0 32) x5.toNatClampNeg)))) := hD
      exact W.vret hx hb hr (fun t ht hW => ⟨⟨(sI (sI (sI (sI o0 34 (((gA o0 31) x5.toNatClampNeg) - (1 : Int32))) 35 y5) 36 (x4 - ((gA o0 33) x5.toNatClampNeg))) 37 (x3 - ((gA o0 32) x5.toNatClampNeg))), rfl, h, by rw [ht]; exact hP, va_K.moved hW.alike hK, hD⟩, hS.F ht⟩) hS.2.2 d_Md_findRing_196
    · have h := h.1 c3
      refine lv_aload_n hx hb d_Md_findRing_67 rfl (lv_at hl 0 rfl) ?_
      refine va_get (D := G.1) (ci := 11) (v := .ref (q0 31)) (C := R_Md) (T := T_Md) (N := 45) hx hb hts i_Md hown hK hP 0 rfl rfl 31 (by decide) (hts _ wf_Md_39) (fun _ h9 => h9) rfl d_Md_findRing_68 ?_
      refine lv_iload hx hb d_Md_findRing_71 (lv_at hl 5 rfl) ?_
      refine lv_iload_n hx hb d_Md_findRing_73 rfl (lv_at hl 2 rfl) ?_
      refine lv_iconst (v := (1 : Int32)) hx hb d_Md_findRing_74 (by decide) ?_
      refine lv_iadd hx hb d_Md_findRing_75 ?_
      have g8 := h.1
      have h := h.2
      refine xa_iast hx hb hK hP hD hS 8 0 rfl rfl g8 (k := x5.toNatClampNeg) rfl d_Md_findRing_76 (fun H locs hP hD hS => ?_)
      have hP : va_P G.1 CL [(h0, .inr (11, [.int (gI o0 0), .ref (q0 1), .ref (q0 2), .ref (q0 3), .ref (q0 4), .ref (q0 5), .ref (q0 6), .int (gI o0 7), .int (gI o0 8), .int (gI o0 9), .int (gI o0 10), .int (gI o0 11), .int (gI o0 12), .int (gI o0 13), .int (gI o0 14), .long (gL o0 15), .int (gI o0 16), .int (gI o0 17), .int (gI o0 18), .int (gI o0 19), .int (gI o0 20), .int (gI o0 21), .int (gI o0 22), .int (gI o0 23), .int (gI o0 24), .int (gI o0 25), .int (gI o0 26), .int (gI o0 27), .ref (q0 28), .long (gL o0 29), .int (gI o0 30), .ref (q0 31), .ref (q0 32), .ref (q0 33), .int (gI o0 34), .int (gI o0 35), .int (gI o0 36), .int (gI o0 37), .ref (q0 38), .ref (q0 39), .int (gI o0 40), .ref (q0 41), .ref (q0 42), .ref (q0 43), .ref (q0 44)])), kI G (q0 1) 6100 (gA o0 1), kI G (q0 2) 6100 (gA o0 2), kJ G (q0 3) 2016 (gB o0 3), kJ G (q0 4) 2016 (gB o0 4), kI G (q0 5) 300 (gA o0 5), kI G (q0 6) 400 (gA o0 6), kJ G (q0 28) 10 (gB o0 28), kI G (q0 31) 969 (upd (gA o0 31) x5.toNatClampNeg (x2 + (1 : Int32))), kI G (q0 32) 969 (gA o0 32), kI G (q0 33) 969 (gA o0 33), kI G (q0 38) 5 (gA o0 38), kI G (q0 39) 5120 (gA o0 39), kI G (q0 41) 5 (gA o0 41), kZ G (q0 42) 1024 (gA o0 42), kI G (q0 43) 8192 (gA o0 43), kI G (q0 44) 8192 (gA o0 44)] H := hP
      have hD : va_D A [(h0, .inr (11, [.int (gI o0 0), .ref (q0 1), .ref (q0 2), .ref (q0 3), .ref (q0 4), .ref (q0 5), .ref (q0 6), .int (gI o0 7), .int (gI o0 8), .int (gI o0 9), .int (gI o0 10), .int (gI o0 11), .int (gI o0 12), .int (gI o0 13), .int (gI o0 14), .long (gL o0 15), .int (gI o0 16), .int (gI o0 17), .int (gI o0 18), .int (gI o0 19), .int (gI o0 20), .int (gI o0 21), .int (gI o0 22), .int (gI o0 23), .int (gI o0 24), .int (gI o0 25), .int (gI o0 26), .int (gI o0 27), .ref (q0 28), .long (gL o0 29), .int (gI o0 30), .ref (q0 31), .ref (q0 32), .ref (q0 33), .int (gI o0 34), .int (gI o0 35), .int (gI o0 36), .int (gI o0 37), .ref (q0 38), .ref (q0 39), .int (gI o0 40), .ref (q0 41), .ref (q0 42), .ref (q0 43), .ref (q0 44)])), kI G (q0 1) 6100 (gA o0 1), kI G (q0 2) 6100 (gA o0 2), kJ G (q0 3) 2016 (gB o0 3), kJ G (q0 4) 2016 (gB o0 4), kI G (q0 5) 300 (gA o0 5), kI G (q0 6) 400 (gA o0 6), kJ G (q0 28) 10 (gB o0 28), kI G (q0 31) 969 (upd (gA o0 31) x5.toNatClampNeg (x2 + (1 : Int32))), kI G (q0 32) 969 (gA o0 32), kI G (q0 33) 969 (gA o0 33), kI G (q0 38) 5 (gA o0 38), kI G (q0 39) 5120 (gA o0 39), kI G (q0 41) 5 (gA o0 41), kZ G (q0 42) 1024 (gA o0 42), kI G (q0 43) 8192 (gA o0 43), kI G (q0 44) 8192 (gA o0 44)] := hD
      refine lv_aload_n hx hb d_Md_findRing_77 rfl (lv_at hl 0 rfl) ?_
      refine va_get (D := G.1) (ci := 11) (v := .ref (q0 32)) (C := R_Md) (T := T_Md) (N := 45) hx hb hts i_Md hown hK hP 0 rfl rfl 32 (by decide) (hts _ wf_Md_42) (fun _ h9 => h9) rfl d_Md_findRing_78 ?_
      refine lv_iload hx hb d_Md_findRing_81 (lv_at hl 5 rfl) ?_
      refine lv_iload_n hx hb d_Md_findRing_83 rfl (lv_at hl 3 rfl) ?_
      have g9 := h.1
      have h := h.2
      refine xa_iast hx hb hK hP hD hS 9 0 rfl rfl g9 (k := x5.toNatClampNeg) rfl d_Md_findRing_84 (fun H locs hP hD hS => ?_)
      have hP : va_P G.1 CL [(h0, .inr (11, [.int (gI o0 0), .ref (q0 1), .ref (q0 2), .ref (q0 3), .ref (q0 4), .ref (q0 5), .ref (q0 6), .int (gI o0 7), .int (gI o0 8), .int (gI o0 9), .int (gI o0 10), .int (gI o0 11), .int (gI o0 12), .int (gI o0 13), .int (gI o0 14), .long (gL o0 15), .int (gI o0 16), .int (gI o0 17), .int (gI o0 18), .int (gI o0 19), .int (gI o0 20), .int (gI o0 21), .int (gI o0 22), .int (gI o0 23), .int (gI o0 24), .int (gI o0 25), .int (gI o0 26), .int (gI o0 27), .ref (q0 28), .long (gL o0 29), .int (gI o0 30), .ref (q0 31), .ref (q0 32), .ref (q0 33), .int (gI o0 34), .int (gI o0 35), .int (gI o0 36), .int (gI o0 37), .ref (q0 38), .ref (q0 39), .int (gI o0 40), .ref (q0 41), .ref (q0 42), .ref (q0 43), .ref (q0 44)])), kI G (q0 1) 6100 (gA o0 1), kI G (q0 2) 6100 (gA o0 2), kJ G (q0 3) 2016 (gB o0 3), kJ G (q0 4) 2016 (gB o0 4), kI G (q0 5) 300 (gA o0 5), kI G (q0 6) 400 (gA o0 6), kJ G (q0 28) 10 (gB o0 28), kI G (q0 31) 969 (upd (gA o0 31) x5.toNatClampNeg (x2 + (1 : Int32))), kI G (q0 32) 969 (upd (gA o0 32) x5.toNatClampNeg x3), kI G (q0 33) 969 (gA o0 33), kI G (q0 38) 5 (gA o0 38), kI G (q0 39) 5120 (gA o0 39), kI G (q0 41) 5 (gA o0 41), kZ G (q0 42) 1024 (gA o0 42), kI G (q0 43) 8192 (gA o0 43), kI G (q0 44) 8192 (gA o0 44)] H := hP
      have hD : va_D A [(h0, .inr (11, [.int (gI o0 0), .ref (q0 1), .ref (q0 2), .ref (q0 3), .ref (q0 4), .ref (q0 5), .ref (q0 6), .int (gI o0 7), .int (gI o0 8), .int (gI o0 9), .int (gI o0 10), .int (gI o0 11), .int (gI o0 12), .int (gI o0 13), .int (gI o0 14), .long (gL o0 15), .int (gI o0 16), .int (gI o0 17), .int (gI o0 18), .int (gI o0 19), .int (gI o0 20), .int (gI o0 21), .int (gI o0 22), .int (gI o0 23), .int (gI o0 24), .int (gI o0 25), .int (gI o0 26), .int (gI o0 27), .ref (q0 28), .long (gL o0 29), .int (gI o0 30), .ref (q0 31), .ref (q0 32), .ref (q0 33), .int (gI o0 34), .int (gI o0 35), .int (gI o0 36), .int (gI o0 37), .ref (q0 38), .ref (q0 39), .int (gI o0 40), .ref (q0 41), .ref (q0 42), .ref (q0 43), .ref (q0 44)])), kI G (q0 1) 6100 (gA o0 1), kI G (q0 2) 6100 (gA o0 2), kJ G (q0 3) 2016 (gB o0 3), kJ G (q0 4) 2016 (gB o0 4), kI G (q0 5) 300 (gA o0 5), kI G (q0 6) 400 (gA o0 6), kJ G (q0 28) 10 (gB o0 28), kI G (q0 31) 969 (upd (gA o0 31) x5.toNatClampNeg (x2 + (1 : Int32))), kI G (q0 32) 969 (upd (gA o0 32) x5.toNatClampNeg x3), kI G (q0 33) 969 (gA o0 33), kI G (q0 38) 5 (gA o0 38), kI G (q0 39) 5120 (gA o0 39), kI G (q0 41) 5 (gA o0 41), kZ G (q0 42) 1024 (gA o0 42), kI G (q0 43) 8192 (gA o0 43), kI G (q0 44) 8192 (gA o0 44)] := hD
      refine lv_aload_n hx hb d_Md_findRing_85 rfl (lv_at hl 0 rfl) ?_
      refine va_get (D := G.1) (ci := 11) (v := .ref (q0 33)) (C := R_Md) (T := T_Md) (N := 45) hx hb hts i_Md hown hK hP 0 rfl rfl 33 (by decide) (hts _ wf_Md_45) (fun _ h9 => h9) rfl d_Md_findRing_86 ?_
      refine lv_iload hx hb d_Md_findRing_89 (lv_at hl 5 rfl) ?_
      refine lv_iload hx hb d_Md_findRing_91 (lv_at hl 4 rfl) ?_
      have g10 := h.1
      have h := h.2
      refine xa_iast hx hb hK hP hD hS 10 0 rfl rfl g10 (k := x5.toNatClampNeg) rfl d_Md_findRing_93 (fun H locs hP hD hS => ?_)
      have hP : va_P G.1 CL [(h0, .inr (11, [.int (gI o0 0), .ref (q0 1), .ref (q0 2), .ref (q0 3), .ref (q0 4), .ref (q0 5), .ref (q0 6), .int (gI o0 7), .int (gI o0 8), .int (gI o0 9), .int (gI o0 10), .int (gI o0 11), .int (gI o0 12), .int (gI o0 13), .int (gI o0 14), .long (gL o0 15), .int (gI o0 16), .int (gI o0 17), .int (gI o0 18), .int (gI o0 19), .int (gI o0 20), .int (gI o0 21), .int (gI o0 22), .int (gI o0 23), .int (gI o0 24), .int (gI o0 25), .int (gI o0 26), .int (gI o0 27), .ref (q0 28), .long (gL o0 29), .int (gI o0 30), .ref (q0 31), .ref (q0 32), .ref (q0 33), .int (gI o0 34), .int (gI o0 35), .int (gI o0 36), .int (gI o0 37), .ref (q0 38), .ref (q0 39), .int (gI o0 40), .ref (q0 41), .ref (q0 42), .ref (q0 43), .ref (q0 44)])), kI G (q0 1) 6100 (gA o0 1), kI G (q0 2) 6100 (gA o0 2), kJ G (q0 3) 2016 (gB o0 3), kJ G (q0 4) 2016 (gB o0 4), kI G (q0 5) 300 (gA o0 5), kI G (q0 6) 400 (gA o0 6), kJ G (q0 28) 10 (gB o0 28), kI G (q0 31) 969 (upd (gA o0 31) x5.toNatClampNeg (x2 + (1 : Int32))), kI G (q0 32) 969 (upd (gA o0 32) x5.toNatClampNeg x3), kI G (q0 33) 969 (upd (gA o0 33) x5.toNatClampNeg x4), kI G (q0 38) 5 (gA o0 38), kI G (q0 39) 5120 (gA o0 39), kI G (q0 41) 5 (gA o0 41), kZ G (q0 42) 1024 (gA o0 42), kI G (q0 43) 8192 (gA o0 43), kI G (q0 44) 8192 (gA o0 44)] H := hP
      have hD : va_D A [(h0, .inr (11, [.int (gI o0 0), .ref (q0 1), .ref (q0 2), .ref (q0 3), .ref (q0 4), .ref (q0 5), .ref (q0 6), .int (gI o0 7), .int (gI o0 8), .int (gI o0 9), .int (gI o0 10), .int (gI o0 11), .int (gI o0 12), .int (gI o0 13), .int (gI o0 14), .long (gL o0 15), .int (gI o0 16), .int (gI o0 17), .int (gI o0 18), .int (gI o0 19), .int (gI o0 20), .int (gI o0 21), .int (gI o0 22), .int (gI o0 23), .int (gI o0 24), .int (gI o0 25), .int (gI o0 26), .int (gI o0 27), .ref (q0 28), .long (gL o0 29), .int (gI o0 30), .ref (q0 31), .ref (q0 32), .ref (q0 33), .int (gI o0 34), .int (gI o0 35), .int (gI o0 36), .int (gI o0 37), .ref (q0 38), .ref (q0 39), .int (gI o0 40), .ref (q0 41), .ref (q0 42), .ref (q0 43), .ref (q0 44)])), kI G (q0 1) 6100 (gA o0 1), kI G (q0 2) 6100 (gA o0 2), kJ G (q0 3) 2016 (gB o0 3), kJ G (q0 4) 2016 (gB o0 4), kI G (q0 5) 300 (gA o0 5), kI G (q0 6) 400 (gA o0 6), kJ G (q0 28) 10 (gB o0 28), kI G (q0 31) 969 (upd (gA o0 31) x5.toNatClampNeg (x2 + (1 : Int32))), kI G (q0 32) 969 (upd (gA o0 32) x5.toNatClampNeg x3), kI G (q0 33) 969 (upd (gA o0 33) x5.toNatClampNeg x4), kI G (q0 38) 5 (gA o0 38), kI G (q0 39) 5120 (gA o0 39), kI G (q0 41) 5 (gA o0 41), kZ G (q0 42) 1024 (gA o0 42), kI G (q0 43) 8192 (gA o0 43), kI G (q0 44) 8192 (gA o0 44)] := hD
      refine lv_aload_n hx hb d_Md_findRing_94 rfl (lv_at hl 0 rfl) ?_
      refine lv_iload_n hx hb d_Md_findRing_95 rfl (lv_at hl 1 rfl) ?_
      refine cl_Vv (b := b_Md_findRing) (As := [.int x1]) (rest := []) (ws := [(h0, .inr (11, [.int (gI o0 0), .ref (q0 1), .ref (q0 2), .ref (q0 3), .ref (q0 4), .ref (q0 5), .ref (q0 6), .int (gI o0 7), .int (gI o0 8), .int (gI o0 9), .int (gI o0 10), .int (gI o0 11), .int (gI o0 12), .int (gI o0 13), .int (gI o0 14), .long (gL o0 15), .int (gI o0 16), .int (gI o0 17), .int (gI o0 18), .int (gI o0 19), .int (gI o0 20), .int (gI o0 21), .int (gI o0 22), .int (gI o0 23), .int (gI o0 24), .int (gI o0 25), .int (gI o0 26), .int (gI o0 27), .ref (q0 28), .long (gL o0 29), .int (gI o0 30), .ref (q0 31), .ref (q0 32), .ref (q0 33), .int (gI o0 34), .int (gI o0 35), .int (gI o0 36), .int (gI o0 37), .ref (q0 38), .ref (q0 39), .int (gI o0 40), .ref (q0 41), .ref (q0 42), .ref (q0 43), .ref (q0 44)])), kI G (q0 1) 6100 (gA o0 1), kI G (q0 2) 6100 (gA o0 2), kJ G (q0 3) 2016 (gB o0 3), kJ G (q0 4) 2016 (gB o0 4), kI G (q0 5) 300 (gA o0 5), kI G (q0 6) 400 (gA o0 6), kJ G (q0 28) 10 (gB o0 28), kI G (q0 31) 969 (upd (gA o0 31) x5.toNatClampNeg (x2 + (1 : Int32))), kI G (q0 32) 969 (upd (gA o0 32) x5.toNatClampNeg x3), kI G (q0 33) 969 (upd (gA o0 33) x5.toNatClampNeg x4), kI G (q0 38) 5 (gA o0 38), kI G (q0 39) 5120 (gA o0 39), kI G (q0 41) 5 (gA o0 41), kZ G (q0 42) 1024 (gA o0 42), kI G (q0 43) 8192 (gA o0 43), kI G (q0 44) 8192 (gA o0 44)]) (wr := []) (w2 := fun (u : Ob) => [(h0, .inr (11, [.int (gI u 0), .ref (q0 1), .ref (q0 2), .ref (q0 3), .ref (q0 4), .ref (q0 5), .ref (q0 6), .int (gI u 7), .int (gI u 8), .int (gI u 9), .int (gI u 10), .int (gI u 11), .int (gI u 12), .int (gI u 13), .int (gI u 14), .long (gL u 15), .int (gI u 16), .int (gI u 17), .int (gI u 18), .int (gI u 19), .int (gI u 20), .int (gI u 21), .int (gI u 22), .int (gI u 23), .int (gI u 24), .int (gI u 25), .int (gI u 26), .int (gI u 27), .ref (q0 28), .long (gL u 29), .int (gI u 30), .ref (q0 31), .ref (q0 32), .ref (q0 33), .int (gI u 34), .int (gI u 35), .int (gI u 36), .int (gI u 37), .ref (q0 38), .ref (q0 39), .int (gI u 40), .ref (q0 41), .ref (q0 42), .ref (q0 43), .ref (q0 44)])), kI G (q0 1) 6100 (gA u 1), kI G (q0 2) 6100 (gA u 2), kJ G (q0 3) 2016 (gB u 3), kJ G (q0 4) 2016 (gB u 4), kI G (q0 5) 300 (gA u 5), kI G (q0 6) 400 (gA u 6), kJ G (q0 28) 10 (gB u 28), kI G (q0 31) 969 (gA u 31), kI G (q0 32) 969 (gA u 32), kI G (q0 33) 969 (gA u 33), kI G (q0 38) 5 (gA u 38), kI G (q0 39) 5120 (gA u 39), kI G (q0 41) 5 (gA u 41), kZ G (q0 42) 1024 (gA u 42), kI G (q0 43) 8192 (gA u 43), kI G (q0 44) 8192 (gA u 44)]) C (c_Md_foldStep (h0 := h0) (q0 := q0) H.size h) wv_Md_213 ⟨Nat.le_of_ble_eq_true rfl, Nat.le_of_ble_eq_true rfl⟩ hP hD hS 0 rfl rfl [0, 1, 2, 3, 4, 5, 6, 7, 8, 9, 10, 11, 12, 13, 14, 15, 16] [] rfl rfl (by decide) (by decide) (by decide) [0, 1, 2, 3, 4, 5, 6, 7, 8, 9, 10, 11, 12, 13, 14, 15, 16] (by decide) (fun u => rfl) rfl hl.1 rfl (lv_room (Nat.le_of_ble_eq_true rfl)) d_Md_findRing_96 ⟨Nat.le_of_ble_eq_true rfl, Nat.le_of_ble_eq_true rfl⟩ rfl rfl (fun u H locs h hP hD hS => ?_)
      generalize u = u11 at h hP hD
      have hP : va_P G.1 CL [(h0, .inr (11, [.int (gI u11 0), .ref (q0 1), .ref (q0 2), .ref (q0 3), .ref (q0 4), .ref (q0 5), .ref (q0 6), .int (gI u11 7), .int (gI u11 8), .int (gI u11 9), .int (gI u11 10), .int (gI u11 11), .int (gI u11 12), .int (gI u11 13), .int (gI u11 14), .long (gL u11 15), .int (gI u11 16), .int (gI u11 17), .int (gI u11 18), .int (gI u11 19), .int (gI u11 20), .int (gI u11 21), .int (gI u11 22), .int (gI u11 23), .int (gI u11 24), .int (gI u11 25), .int (gI u11 26), .int (gI u11 27), .ref (q0 28), .long (gL u11 29), .int (gI u11 30), .ref (q0 31), .ref (q0 32), .ref (q0 33), .int (gI u11 34), .int (gI u11 35), .int (gI u11 36), .int (gI u11 37), .ref (q0 38), .ref (q0 39), .int (gI u11 40), .ref (q0 41), .ref (q0 42), .ref (q0 43), .ref (q0 44)])), kI G (q0 1) 6100 (gA u11 1), kI G (q0 2) 6100 (gA u11 2), kJ G (q0 3) 2016 (gB u11 3), kJ G (q0 4) 2016 (gB u11 4), kI G (q0 5) 300 (gA u11 5), kI G (q0 6) 400 (gA u11 6), kJ G (q0 28) 10 (gB u11 28), kI G (q0 31) 969 (gA u11 31), kI G (q0 32) 969 (gA u11 32), kI G (q0 33) 969 (gA u11 33), kI G (q0 38) 5 (gA u11 38), kI G (q0 39) 5120 (gA u11 39), kI G (q0 41) 5 (gA u11 41), kZ G (q0 42) 1024 (gA u11 42), kI G (q0 43) 8192 (gA u11 43), kI G (q0 44) 8192 (gA u11 44)] H := hP
      have hD : va_D A [(h0, .inr (11, [.int (gI u11 0), .ref (q0 1), .ref (q0 2), .ref (q0 3), .ref (q0 4), .ref (q0 5), .ref (q0 6), .int (gI u11 7), .int (gI u11 8), .int (gI u11 9), .int (gI u11 10), .int (gI u11 11), .int (gI u11 12), .int (gI u11 13), .int (gI u11 14), .long (gL u11 15), .int (gI u11 16), .int (gI u11 17), .int (gI u11 18), .int (gI u11 19), .int (gI u11 20), .int (gI u11 21), .int (gI u11 22), .int (gI u11 23), .int (gI u11 24), .int (gI u11 25), .int (gI u11 26), .int (gI u11 27), .ref (q0 28), .long (gL u11 29), .int (gI u11 30), .ref (q0 31), .ref (q0 32), .ref (q0 33), .int (gI u11 34), .int (gI u11 35), .int (gI u11 36), .int (gI u11 37), .ref (q0 38), .ref (q0 39), .int (gI u11 40), .ref (q0 41), .ref (q0 42), .ref (q0 43), .ref (q0 44)])), kI G (q0 1) 6100 (gA u11 1), kI G (q0 2) 6100 (gA u11 2), kJ G (q0 3) 2016 (gB u11 3), kJ G (q0 4) 2016 (gB u11 4), kI G (q0 5) 300 (gA u11 5), kI G (q0 6) 400 (gA u11 6), kJ G (q0 28) 10 (gB u11 28), kI G (q0 31) 969 (gA u11 31), kI G (q0 32) 969 (gA u11 32), kI G (q0 33) 969 (gA u11 33), kI G (q0 38) 5 (gA u11 38), kI G (q0 39) 5120 (gA u11 39), kI G (q0 41) 5 (gA u11 41), kZ G (q0 42) 1024 (gA u11 42), kI G (q0 43) 8192 (gA u11 43), kI G (q0 44) 8192 (gA u11 44)] := hD
      refine lv_iload_n hx hb d_Md_findRing_99 rfl (lv_at hl 3 rfl) ?_
      refine lv_aload_n hx hb d_Md_findRing_100 rfl (lv_at hl 0 rfl) ?_
      refine va_get (D := G.1) (ci := 11) (v := .int (gI u11 26)) (C := R_Md) (T := T_Md) (N := 45) hx hb hts i_Md hown hK hP 0 rfl rfl 26 (by decide) (hts _ wf_Md_207) (fun _ h9 => h9) rfl d_Md_findRing_101 ?_
      refine lv_iadd hx hb d_Md_findRing_104 ?_
      refine lv_istore_n (lv' := [(3, .int (x3 + (gI u11 26))), (0, .ref h0), (1, .int x1), (2, .int x2), (4, .int x4), (5, .int x5)]) hx hb d_Md_findRing_105 rfl hl (by decide) rfl (fun ls hl => ?_)
      refine lv_iload hx hb d_Md_findRing_106 (lv_at hl 4 rfl) ?_
      refine lv_aload_n hx hb d_Md_findRing_108 rfl (lv_at hl 1 rfl) ?_
      refine va_get (D := G.1) (ci := 11) (v := .int (gI u11 27)) (C := R_Md) (T := T_Md) (N := 45) hx hb hts i_Md hown hK hP 0 rfl rfl 27 (by decide) (hts _ wf_Md_203) (fun _ h9 => h9) rfl d_Md_findRing_109 ?_
      refine lv_if_eq (tgt := 119) hx hb d_Md_findRing_112 (by decide) (fun c12 => ?_) (fun c12 => ?_)
      · have h := h.1 c12
        refine lv_iconst (v := (0 : Int32)) hx hb d_Md_findRing_119 (by decide) ?_
        refine lv_iadd hx hb d_Md_findRing_120 ?_
        refine lv_istore (lv' := [(4, .int (x4 + (0 : Int32))), (3, .int (x3 + (gI u11 26))), (0, .ref h0), (1, .int x1), (2, .int x2), (5, .int x5)]) hx hb d_Md_findRing_121 hl (by decide) rfl (fun ls hl => ?_)
        have hl := lv_sub (l' := [(0, .ref h0), (1, .int x1), (2, .int x2), (3, .int (x3 + (gI u11 26))), (4, .int (x4 + (0 : Int32)))]) hl [2, 3, 4, 1, 0] rfl
        have hP : va_P G.1 CL (cw_Md G h0 q0 u11) H := hP
        have hD : va_D A (cw_Md G h0 q0 u11) := hD
        exact t_Md_findRing_123 (f_Md_findRing_57 Q n) Q C ih x1 x2 (x3 + (gI u11 26)) (x4 + (0 : Int32)) u11 ls _ locs hl hP hD hS h
      · have h := h.2 c12
        refine lv_iconst (v := (1 : Int32)) hx hb d_Md_findRing_115 (by decide) ?_
        refine lv_goto (tgt := 120) hx hb d_Md_findRing_116 (by decide) ?_
        refine lv_iadd hx hb d_Md_findRing_120 ?_
        refine lv_istore (lv' := [(4, .int (x4 + (1 : Int32))), (3, .int (x3 + (gI u11 26))), (0, .ref h0), (1, .int x1), (2, .int x2), (5, .int x5)]) hx hb d_Md_findRing_121 hl (by decide) rfl (fun ls hl => ?_)
        have hl := lv_sub (l' := [(0, .ref h0), (1, .int x1), (2, .int x2), (3, .int (x3 + (gI u11 26))), (4, .int (x4 + (1 : Int32)))]) hl [2, 3, 4, 1, 0] rfl
        have hP : va_P G.1 CL (cw_Md G h0 q0 u11) H := hP
        have hD : va_D A (cw_Md G h0 q0 u11) := hD
        exact t_Md_findRing_123 (f_Md_findRing_57 Q n) Q C ih x1 x2 (x3 + (gI u11 26)) (x4 + (1 : Int32)) u11 ls _ locs hl hP hD hS h
set_option maxHeartbeats 4000000 in
set_option maxRecDepth 100000 in
theorem t_Md_findRing_2 {p : Program} {l : Launch} {e : Env} {s : State} {m : MethodId} {args : Array Value} {below : List Frame} {meth : Method} {c : Code} {A : Nat → Prop} {G : Gl} {h0 : Nat} {q0 : Nat → Nat} (Q : Ob → Prop) (C : Cx p s m args meth c R_Md b_Md_findRing 6 none G A) :
    ∀ (n : Nat) (x1 : Int32) (x2 : Int32) (o0 : Ob) (ls : Array Slot) (H : Heap) (locs : List Loc), lv_has ls 6 [(0, .ref h0), (1, .int x1), (2, .int x2)] → va_P G.1 CL (cw_Md G h0 q0 o0) H → va_D A (cw_Md G h0 q0 o0) → va_S A s.heap H locs → f_Md_findRing_2 Q n x1 x2 o0 → W p l e rm_Md_findRing s m args below meth c H locs 0 0 (MQ below (va_Qv (fun (u : Ob) => Q u) (fun (u : Ob) t => BW G A (cw_Md G h0 q0 u) t) A) args s 0 0 A) (F0 m 2 ls []) := by
  obtain ⟨hx, hb, hml, hown, hr, hts, hK, hA, hlocks, hE⟩ := id C
  intro n
  induction n with
  | zero => intro x1 x2 o0 ls H locs hl hP hD hS h; exact absurd h id
  | succ n ih =>
    intro x1 x2 o0 ls H locs hl hP hD hS h
    have hP : va_P G.1 CL [(h0, .inr (11, [.int (gI o0 0), .ref (q0 1), .ref (q0 2), .ref (q0 3), .ref (q0 4), .ref (q0 5), .ref (q0 6), .int (gI o0 7), .int (gI o0 8), .int (gI o0 9), .int (gI o0 10), .int (gI o0 11), .int (gI o0 12), .int (gI o0 13), .int (gI o0 14), .long (gL o0 15), .int (gI o0 16), .int (gI o0 17), .int (gI o0 18), .int (gI o0 19), .int (gI o0 20), .int (gI o0 21), .int (gI o0 22), .int (gI o0 23), .int (gI o0 24), .int (gI o0 25), .int (gI o0 26), .int (gI o0 27), .ref (q0 28), .long (gL o0 29), .int (gI o0 30), .ref (q0 31), .ref (q0 32), .ref (q0 33), .int (gI o0 34), .int (gI o0 35), .int (gI o0 36), .int (gI o0 37), .ref (q0 38), .ref (q0 39), .int (gI o0 40), .ref (q0 41), .ref (q0 42), .ref (q0 43), .ref (q0 44)])), kI G (q0 1) 6100 (gA o0 1), kI G (q0 2) 6100 (gA o0 2), kJ G (q0 3) 2016 (gB o0 3), kJ G (q0 4) 2016 (gB o0 4), kI G (q0 5) 300 (gA o0 5), kI G (q0 6) 400 (gA o0 6), kJ G (q0 28) 10 (gB o0 28), kI G (q0 31) 969 (gA o0 31), kI G (q0 32) 969 (gA o0 32), kI G (q0 33) 969 (gA o0 33), kI G (q0 38) 5 (gA o0 38), kI G (q0 39) 5120 (gA o0 39), kI G (q0 41) 5 (gA o0 41), kZ G (q0 42) 1024 (gA o0 42), kI G (q0 43) 8192 (gA o0 43), kI G (q0 44) 8192 (gA o0 44)] H := hP
    have hD : va_D A [(h0, .inr (11, [.int (gI o0 0), .ref (q0 1), .ref (q0 2), .ref (q0 3), .ref (q0 4), .ref (q0 5), .ref (q0 6), .int (gI o0 7), .int (gI o0 8), .int (gI o0 9), .int (gI o0 10), .int (gI o0 11), .int (gI o0 12), .int (gI o0 13), .int (gI o0 14), .long (gL o0 15), .int (gI o0 16), .int (gI o0 17), .int (gI o0 18), .int (gI o0 19), .int (gI o0 20), .int (gI o0 21), .int (gI o0 22), .int (gI o0 23), .int (gI o0 24), .int (gI o0 25), .int (gI o0 26), .int (gI o0 27), .ref (q0 28), .long (gL o0 29), .int (gI o0 30), .ref (q0 31), .ref (q0 32), .ref (q0 33), .int (gI o0 34), .int (gI o0 35), .int (gI o0 36), .int (gI o0 37), .ref (q0 38), .ref (q0 39), .int (gI o0 40), .ref (q0 41), .ref (q0 42), .ref (q0 43), .ref (q0 44)])), kI G (q0 1) 6100 (gA o0 1), kI G (q0 2) 6100 (gA o0 2), kJ G (q0 3) 2016 (gB o0 3), kJ G (q0 4) 2016 (gB o0 4), kI G (q0 5) 300 (gA o0 5), kI G (q0 6) 400 (gA o0 6), kJ G (q0 28) 10 (gB o0 28), kI G (q0 31) 969 (gA o0 31), kI G (q0 32) 969 (gA o0 32), kI G (q0 33) 969 (gA o0 33), kI G (q0 38) 5 (gA o0 38), kI G (q0 39) 5120 (gA o0 39), kI G (q0 41) 5 (gA o0 41), kZ G (q0 42) 1024 (gA o0 42), kI G (q0 43) 8192 (gA o0 43), kI G (q0 44) 8192 (gA o0 44)] := hD
    unfold f_Md_findRing_2 at h
    refine lv_iload_n hx hb d_Md_findRing_2 rfl (lv_at hl 2 rfl) ?_
    refine lv_sipush (v := (969 : Int32)) hx hb d_Md_findRing_3 (by decide) ?_
    refine lv_icmp_ge (tgt := 22) hx hb d_Md_findRing_6 (by decide) (fun c13 => ?_) (fun c13 => ?_)
    · have h := h.1 c13
      refine lv_aload_n hx hb d_Md_findRing_22 rfl (lv_at hl 0 rfl) ?_
      refine lv_bipush (v := (10 : Int32)) hx hb d_Md_findRing_23 (by decide) ?_
      refine va_put (D := G.1) (ci := 11) (v := .int (10 : Int32)) (ty := .int) (C := R_Md) (T := T_Md) (N := 45) hx hb hts i_Md ty_Md ty_Md_ok nm_Md hown hK hP hD hS 0 rfl rfl 24 (by decide) (hts _ wf_Md_200) (fun _ h9 => h9) rfl (ty_Md_ok 24 (by decide)) rfl rfl (Nat.le_of_ble_eq_true rfl) d_Md_findRing_25 (fun H locs hP hD hS => ?_)
      have hP : va_P G.1 CL [(h0, .inr (11, [.int (gI o0 0), .ref (q0 1), .ref (q0 2), .ref (q0 3), .ref (q0 4), .ref (q0 5), .ref (q0 6), .int (gI o0 7), .int (gI o0 8), .int (gI o0 9), .int (gI o0 10), .int (gI o0 11), .int (gI o0 12), .int (gI o0 13), .int (gI o0 14), .long (gL o0 15), .int (gI o0 16), .int (gI o0 17), .int (gI o0 18), .int (gI o0 19), .int (gI o0 20), .int (gI o0 21), .int (gI o0 22), .int (gI o0 23), .int (10 : Int32), .int (gI o0 25), .int (gI o0 26), .int (gI o0 27), .ref (q0 28), .long (gL o0 29), .int (gI o0 30), .ref (q0 31), .ref (q0 32), .ref (q0 33), .int (gI o0 34), .int (gI o0 35), .int (gI o0 36), .int (gI o0 37), .ref (q0 38), .ref (q0 39), .int (gI o0 40), .ref (q0 41), .ref (q0 42), .ref (q0 43), .ref (q0 44)])), kI G (q0 1) 6100 (gA o0 1), kI G (q0 2) 6100 (gA o0 2), kJ G (q0 3) 2016 (gB o0 3), kJ G (q0 4) 2016 (gB o0 4), kI G (q0 5) 300 (gA o0 5), kI G (q0 6) 400 (gA o0 6), kJ G (q0 28) 10 (gB o0 28), kI G (q0 31) 969 (gA o0 31), kI G (q0 32) 969 (gA o0 32), kI G (q0 33) 969 (gA o0 33), kI G (q0 38) 5 (gA o0 38), kI G (q0 39) 5120 (gA o0 39), kI G (q0 41) 5 (gA o0 41), kZ G (q0 42) 1024 (gA o0 42), kI G (q0 43) 8192 (gA o0 43), kI G (q0 44) 8192 (gA o0 44)] H := hP
      have hD : va_D A [(h0, .inr (11, [.int (gI o0 0), .ref (q0 1), .ref (q0 2), .ref (q0 3), .ref (q0 4), .ref (q0 5), .ref (q0 6), .int (gI o0 7), .int (gI o0 8), .int (gI o0 9), .int (gI o0 10), .int (gI o0 11), .int (gI o0 12), .int (gI o0 13), .int (gI o0 14), .long (gL o0 15), .int (gI o0 16), .int (gI o0 17), .int (gI o0 18), .int (gI o0 19), .int (gI o0 20), .int (gI o0 21), .int (gI o0 22), .int (gI o0 23), .int (10 : Int32), .int (gI o0 25), .int (gI o0 26), .int (gI o0 27), .ref (q0 28), .long (gL o0 29), .int (gI o0 30), .ref (q0 31), .ref (q0 32), .ref (q0 33), .int (gI o0 34), .int (gI o0 35), .int (gI o0 36), .int (gI o0 37), .ref (q0 38), .ref (q0 39), .int (gI o0 40), .ref (q0 41), .ref (q0 42), .ref (q0 43), .ref (q0 44)])), kI G (q0 1) 6100 (gA o0 1), kI G (q0 2) 6100 (gA o0 2), kJ G (q0 3) 2016 (gB o0 3), kJ G (q0 4) 2016 (gB o0 4), kI G (q0 5) 300 (gA o0 5), kI G (q0 6) 400 (gA o0 6), kJ G (q0 28) 10 (gB o0 28), kI G (q0 31) 969 (gA o0 31), kI G (q0 32) 969 (gA o0 32), kI G (q0 33) 969 (gA o0 33), kI G (q0 38) 5 (gA o0 38), kI G (q0 39) 5120 (gA o0 39), kI G (q0 41) 5 (gA o0 41), kZ G (q0 42) 1024 (gA o0 42), kI G (q0 43) 8192 (gA o0 43), kI G (q0 44) 8192 (gA o0 44)] := hD
      refine lv_aload_n hx hb d_Md_findRing_28 rfl (lv_at hl 0 rfl) ?_
      refine lv_iconst (v := (0 : Int32)) hx hb d_Md_findRing_29 (by decide) ?_
      refine va_put (D := G.1) (ci := 11) (v := .int (0 : Int32)) (ty := .int) (C := R_Md) (T := T_Md) (N := 45) hx hb hts i_Md ty_Md ty_Md_ok nm_Md hown hK hP hD hS 0 rfl rfl 25 (by decide) (hts _ wf_Md_197) (fun _ h9 => h9) rfl (ty_Md_ok 25 (by decide)) rfl rfl (Nat.le_of_ble_eq_true rfl) d_Md_findRing_30 (fun H locs hP hD hS => ?_)
      have hP : va_P G.1 CL [(h0, .inr (11, [.int (gI o0 0), .ref (q0 1), .ref (q0 2), .ref (q0 3), .ref (q0 4), .ref (q0 5), .ref (q0 6), .int (gI o0 7), .int (gI o0 8), .int (gI o0 9), .int (gI o0 10), .int (gI o0 11), .int (gI o0 12), .int (gI o0 13), .int (gI o0 14), .long (gL o0 15), .int (gI o0 16), .int (gI o0 17), .int (gI o0 18), .int (gI o0 19), .int (gI o0 20), .int (gI o0 21), .int (gI o0 22), .int (gI o0 23), .int (10 : Int32), .int (0 : Int32), .int (gI o0 26), .int (gI o0 27), .ref (q0 28), .long (gL o0 29), .int (gI o0 30), .ref (q0 31), .ref (q0 32), .ref (q0 33), .int (gI o0 34), .int (gI o0 35), .int (gI o0 36), .int (gI o0 37), .ref (q0 38), .ref (q0 39), .int (gI o0 40), .ref (q0 41), .ref (q0 42), .ref (q0 43), .ref (q0 44)])), kI G (q0 1) 6100 (gA o0 1), kI G (q0 2) 6100 (gA o0 2), kJ G (q0 3) 2016 (gB o0 3), kJ G (q0 4) 2016 (gB o0 4), kI G (q0 5) 300 (gA o0 5), kI G (q0 6) 400 (gA o0 6), kJ G (q0 28) 10 (gB o0 28), kI G (q0 31) 969 (gA o0 31), kI G (q0 32) 969 (gA o0 32), kI G (q0 33) 969 (gA o0 33), kI G (q0 38) 5 (gA o0 38), kI G (q0 39) 5120 (gA o0 39), kI G (q0 41) 5 (gA o0 41), kZ G (q0 42) 1024 (gA o0 42), kI G (q0 43) 8192 (gA o0 43), kI G (q0 44) 8192 (gA o0 44)] H := hP
      have hD : va_D A [(h0, .inr (11, [.int (gI o0 0), .ref (q0 1), .ref (q0 2), .ref (q0 3), .ref (q0 4), .ref (q0 5), .ref (q0 6), .int (gI o0 7), .int (gI o0 8), .int (gI o0 9), .int (gI o0 10), .int (gI o0 11), .int (gI o0 12), .int (gI o0 13), .int (gI o0 14), .long (gL o0 15), .int (gI o0 16), .int (gI o0 17), .int (gI o0 18), .int (gI o0 19), .int (gI o0 20), .int (gI o0 21), .int (gI o0 22), .int (gI o0 23), .int (10 : Int32), .int (0 : Int32), .int (gI o0 26), .int (gI o0 27), .ref (q0 28), .long (gL o0 29), .int (gI o0 30), .ref (q0 31), .ref (q0 32), .ref (q0 33), .int (gI o0 34), .int (gI o0 35), .int (gI o0 36), .int (gI o0 37), .ref (q0 38), .ref (q0 39), .int (gI o0 40), .ref (q0 41), .ref (q0 42), .ref (q0 43), .ref (q0 44)])), kI G (q0 1) 6100 (gA o0 1), kI G (q0 2) 6100 (gA o0 2), kJ G (q0 3) 2016 (gB o0 3), kJ G (q0 4) 2016 (gB o0 4), kI G (q0 5) 300 (gA o0 5), kI G (q0 6) 400 (gA o0 6), kJ G (q0 28) 10 (gB o0 28), kI G (q0 31) 969 (gA o0 31), kI G (q0 32) 969 (gA o0 32), kI G (q0 33) 969 (gA o0 33), kI G (q0 38) 5 (gA o0 38), kI G (q0 39) 5120 (gA o0 39), kI G (q0 41) 5 (gA o0 41), kZ G (q0 42) 1024 (gA o0 42), kI G (q0 43) 8192 (gA o0 43), kI G (q0 44) 8192 (gA o0 44)] := hD
      refine lv_iconst (v := (0 : Int32)) hx hb d_Md_findRing_33 (by decide) ?_
      refine lv_istore_n (lv' := [(2, .int (0 : Int32)), (0, .ref h0), (1, .int x1)]) hx hb d_Md_findRing_34 rfl hl (by decide) rfl (fun ls hl => ?_)
      refine lv_iconst (v := (0 : Int32)) hx hb d_Md_findRing_35 (by decide) ?_
      refine lv_istore_n (lv' := [(3, .int (0 : Int32)), (2, .int (0 : Int32)), (0, .ref h0), (1, .int x1)]) hx hb d_Md_findRing_36 rfl hl (by decide) rfl (fun ls hl => ?_)
      refine lv_iconst (v := (0 : Int32)) hx hb d_Md_findRing_37 (by decide) ?_
      refine lv_istore (lv' := [(4, .int (0 : Int32)), (3, .int (0 : Int32)), (2, .int (0 : Int32)), (0, .ref h0), (1, .int x1)]) hx hb d_Md_findRing_38 hl (by decide) rfl (fun ls hl => ?_)
      refine lv_bipush (v := (19 : Int32)) hx hb d_Md_findRing_40 (by decide) ?_
      refine lv_aload_n hx hb d_Md_findRing_42 rfl (lv_at hl 3 rfl) ?_
      refine va_get (D := G.1) (ci := 11) (v := .int (10 : Int32)) (C := R_Md) (T := T_Md) (N := 45) hx hb hts i_Md hown hK hP 0 rfl rfl 24 (by decide) (hts _ wf_Md_200) (fun _ h9 => h9) rfl d_Md_findRing_43 ?_
      refine lv_imul hx hb d_Md_findRing_46 ?_
      refine lv_aload_n hx hb d_Md_findRing_47 rfl (lv_at hl 3 rfl) ?_
      refine va_get (D := G.1) (ci := 11) (v := .int (0 : Int32)) (C := R_Md) (T := T_Md) (N := 45) hx hb hts i_Md hown hK hP 0 rfl rfl 25 (by decide) (hts _ wf_Md_197) (fun _ h9 => h9) rfl d_Md_findRing_48 ?_
      refine lv_iadd hx hb d_Md_findRing_51 ?_
      refine lv_bipush (v := (9 : Int32)) hx hb d_Md_findRing_52 (by decide) ?_
      refine lv_iadd hx hb d_Md_findRing_54 ?_
      refine lv_topi (fun y14 ey14 => ?_)
      have h := h y14 ey14
      refine lv_istore (lv' := [(5, .int y14), (4, .int (0 : Int32)), (3, .int (0 : Int32)), (2, .int (0 : Int32)), (0, .ref h0), (1, .int x1)]) hx hb d_Md_findRing_55 hl (by decide) rfl (fun ls hl => ?_)
      have hl := lv_sub (l' := [(0, .ref h0), (1, .int x1), (2, .int (0 : Int32)), (3, .int (0 : Int32)), (4, .int (0 : Int32)), (5, .int y14)]) hl [4, 5, 3, 2, 1, 0] rfl
      have hP : va_P G.1 CL (cw_Md G h0 q0 (sI (sI o0 24 (10 : Int32)) 25 (0 : Int32))) H := hP
      have hD : va_D A (cw_Md G h0 q0 (sI (sI o0 24 (10 : Int32)) 25 (0 : Int32))) := hD
      obtain ⟨w, h⟩ := h
      exact t_Md_findRing_57 Q C w x1 (0 : Int32) (0 : Int32) (0 : Int32) y14 (sI (sI o0 24 (10 : Int32)) 25 (0 : Int32)) ls _ locs hl hP hD hS h
    · have h := h.2 c13
      refine lv_aload_n hx hb d_Md_findRing_9 rfl (lv_at hl 0 rfl) ?_
      refine va_get (D := G.1) (ci := 11) (v := .ref (q0 31)) (C := R_Md) (T := T_Md) (N := 45) hx hb hts i_Md hown hK hP 0 rfl rfl 31 (by decide) (hts _ wf_Md_39) (fun _ h9 => h9) rfl d_Md_findRing_10 ?_
      refine lv_iload_n hx hb d_Md_findRing_13 rfl (lv_at hl 2 rfl) ?_
      refine lv_iconst (v := (0 : Int32)) hx hb d_Md_findRing_14 (by decide) ?_
      have g15 := h.1
      have h := h.2
      refine xa_iast hx hb hK hP hD hS 8 0 rfl rfl g15 (k := x2.toNatClampNeg) rfl d_Md_findRing_15 (fun H locs hP hD hS => ?_)
      have hP : va_P G.1 CL [(h0, .inr (11, [.int (gI o0 0), .ref (q0 1), .ref (q0 2), .ref (q0 3), .ref (q0 4), .ref (q0 5), .ref (q0 6), .int (gI o0 7), .int (gI o0 8), .int (gI o0 9), .int (gI o0 10), .int (gI o0 11), .int (gI o0 12), .int (gI o0 13), .int (gI o0 14), .long (gL o0 15), .int (gI o0 16), .int (gI o0 17), .int (gI o0 18), .int (gI o0 19), .int (gI o0 20), .int (gI o0 21), .int (gI o0 22), .int (gI o0 23), .int (gI o0 24), .int (gI o0 25), .int (gI o0 26), .int (gI o0 27), .ref (q0 28), .long (gL o0 29), .int (gI o0 30), .ref (q0 31), .ref (q0 32), .ref (q0 33), .int (gI o0 34), .int (gI o0 35), .int (gI o0 36), .int (gI o0 37), .ref (q0 38), .ref (q0 39), .int (gI o0 40), .ref (q0 41), .ref (q0 42), .ref (q0 43), .ref (q0 44)])), kI G (q0 1) 6100 (gA o0 1), kI G (q0 2) 6100 (gA o0 2), kJ G (q0 3) 2016 (gB o0 3), kJ G (q0 4) 2016 (gB o0 4), kI G (q0 5) 300 (gA o0 5), kI G (q0 6) 400 (gA o0 6), kJ G (q0 28) 10 (gB o0 28), kI G (q0 31) 969 (upd (gA o0 31) x2.toNatClampNeg (0 : Int32)), kI G (q0 32) 969 (gA o0 32), kI G (q0 33) 969 (gA o0 33), kI G (q0 38) 5 (gA o0 38), kI G (q0 39) 5120 (gA o0 39), kI G (q0 41) 5 (gA o0 41), kZ G (q0 42) 1024 (gA o0 42), kI G (q0 43) 8192 (gA o0 43), kI G (q0 44) 8192 (gA o0 44)] H := hP
      have hD : va_D A [(h0, .inr (11, [.int (gI o0 0), .ref (q0 1), .ref (q0 2), .ref (q0 3), .ref (q0 4), .ref (q0 5), .ref (q0 6), .int (gI o0 7), .int (gI o0 8), .int (gI o0 9), .int (gI o0 10), .int (gI o0 11), .int (gI o0 12), .int (gI o0 13), .int (gI o0 14), .long (gL o0 15), .int (gI o0 16), .int (gI o0 17), .int (gI o0 18), .int (gI o0 19), .int (gI o0 20), .int (gI o0 21), .int (gI o0 22), .int (gI o0 23), .int (gI o0 24), .int (gI o0 25), .int (gI o0 26), .int (gI o0 27), .ref (q0 28), .long (gL o0 29), .int (gI o0 30), .ref (q0 31), .ref (q0 32), .ref (q0 33), .int (gI o0 34), .int (gI o0 35), .int (gI o0 36), .int (gI o0 37), .ref (q0 38), .ref (q0 39), .int (gI o0 40), .ref (q0 41), .ref (q0 42), .ref (q0 43), .ref (q0 44)])), kI G (q0 1) 6100 (gA o0 1), kI G (q0 2) 6100 (gA o0 2), kJ G (q0 3) 2016 (gB o0 3), kJ G (q0 4) 2016 (gB o0 4), kI G (q0 5) 300 (gA o0 5), kI G (q0 6) 400 (gA o0 6), kJ G (q0 28) 10 (gB o0 28), kI G (q0 31) 969 (upd (gA o0 31) x2.toNatClampNeg (0 : Int32)), kI G (q0 32) 969 (gA o0 32), kI G (q0 33) 969 (gA o0 33), kI G (q0 38) 5 (gA o0 38), kI G (q0 39) 5120 (gA o0 39), kI G (q0 41) 5 (gA o0 41), kZ G (q0 42) 1024 (gA o0 42), kI G (q0 43) 8192 (gA o0 43), kI G (q0 44) 8192 (gA o0 44)] := hD
      refine lv_iinc (v := (x2 + (1 : Int32))) (lv' := [(2, .int (x2 + (1 : Int32))), (0, .ref h0), (1, .int x1)]) hx hb d_Md_findRing_16 hl (k := 2) rfl rfl (by decide) rfl (fun ls hl => ?_)
      refine lv_goto (tgt := 2) hx hb d_Md_findRing_19 (by decide) ?_
      have hl := lv_sub (l' := [(0, .ref h0), (1, .int x1), (2, .int (x2 + (1 : Int32)))]) hl [1, 2, 0] rfl
      have hP : va_P G.1 CL (cw_Md G h0 q0 (sA o0 31 (upd (gA o0 31) x2.toNatClampNeg (0 : Int32)))) H := hP
      have hD : va_D A (cw_Md G h0 q0 (sA o0 31 (upd (gA o0 31) x2.toNatClampNeg (0 : Int32)))) := hD
      exact ih x1 (x2 + (1 : Int32)) (sA o0 31 (upd (gA o0 31) x2.toNatClampNeg (0 : Int32))) ls H locs hl hP hD hS h
set_option maxHeartbeats 4000000 in
set_option maxRecDepth 100000 in
theorem c_Md_findRing {l : Launch} {G : Gl} {h0 : Nat} {q0 : Nat → Nat} {a0 : Int32} {o0 : Ob} {Q : Ob → Prop} (sz : Nat) (h : f_Md_findRing a0 o0 Q) : Met l y_Md_findRing w_Md_findRing rm_Md_findRing (PcW G [.ref h0, .int a0] sz (cw_Md G h0 q0 o0)) (va_Qv (fun (u : Ob) => Q u) (fun (u : Ob) t => BW G (va_A (cw_Md G h0 q0 o0) sz) (cw_Md G h0 q0 u) t) (va_A (cw_Md G h0 q0 o0) sz)) 0 0 (va_A (cw_Md G h0 q0 o0) sz) := by
  refine Met.ofW (cc := b_Md_findRing) (maxL := 6) (ret := none) (by decide +kernel) rfl ?_
  intro p e s m args below meth c s₁ B hml hv
  obtain ⟨rfl, hsz, hP, hK, hD0, hE⟩ := hv
  have hx := B.exec
  have hb := B.bytes
  have hr := B.returns
  have hts0 := atoms_spec (ws := w_Md_findRing) B.pre
  have hts : ∀ w ∈ gw_tbl, w.before ([.ref h0, .int a0]).toArray s = true := fun w hw => hts0 w (List.mem_cons_of_mem _ hw)
  have hown : s.vm.findClass R_Md = some m.cls := findClass_of_methodNamed B.named
  have hlocks := B.notSynchronized
  subst hsz
  have hD := hD0.self (sz := s.heap.size)
  generalize hAe : va_A (cw_Md G h0 q0 o0) s.heap.size = A at hD hE ⊢
  have hA : ∀ q : Nat, s.heap.size ≤ q → A q := fun q h => by rw [← hAe]; exact Or.inr h
  have hS : va_S A s.heap s.heap [] := va_S.rf
  have C : Cx p s m ([.ref h0, .int a0]).toArray meth c R_Md b_Md_findRing 6 none G A := ⟨hx, hb, hml, hown, hr, hts, hK, hA, hlocks, hE⟩
  have hl := lv_entry ([.ref h0, .int a0]) (n := 6) (Nat.le_of_ble_eq_true rfl)
  rw [lg_entry_eq]
  generalize (lg_sl ([.ref h0, .int a0]) ++ List.replicate (6 - (lg_sl ([.ref h0, .int a0])).length) Slot.unset).toArray = ls at hl ⊢
  have hl : lv_has ls 6 [(0, .ref h0), (1, .int a0)] := hl
  have hD : va_D A [(h0, .inr (11, [.int (gI o0 0), .ref (q0 1), .ref (q0 2), .ref (q0 3), .ref (q0 4), .ref (q0 5), .ref (q0 6), .int (gI o0 7), .int (gI o0 8), .int (gI o0 9), .int (gI o0 10), .int (gI o0 11), .int (gI o0 12), .int (gI o0 13), .int (gI o0 14), .long (gL o0 15), .int (gI o0 16), .int (gI o0 17), .int (gI o0 18), .int (gI o0 19), .int (gI o0 20), .int (gI o0 21), .int (gI o0 22), .int (gI o0 23), .int (gI o0 24), .int (gI o0 25), .int (gI o0 26), .int (gI o0 27), .ref (q0 28), .long (gL o0 29), .int (gI o0 30), .ref (q0 31), .ref (q0 32), .ref (q0 33), .int (gI o0 34), .int (gI o0 35), .int (gI o0 36), .int (gI o0 37), .ref (q0 38), .ref (q0 39), .int (gI o0 40), .ref (q0 41), .ref (q0 42), .ref (q0 43), .ref (q0 44)])), kI G (q0 1) 6100 (gA o0 1), kI G (q0 2) 6100 (gA o0 2), kJ G (q0 3) 2016 (gB o0 3), kJ G (q0 4) 2016 (gB o0 4), kI G (q0 5) 300 (gA o0 5), kI G (q0 6) 400 (gA o0 6), kJ G (q0 28) 10 (gB o0 28), kI G (q0 31) 969 (gA o0 31), kI G (q0 32) 969 (gA o0 32), kI G (q0 33) 969 (gA o0 33), kI G (q0 38) 5 (gA o0 38), kI G (q0 39) 5120 (gA o0 39), kI G (q0 41) 5 (gA o0 41), kZ G (q0 42) 1024 (gA o0 42), kI G (q0 43) 8192 (gA o0 43), kI G (q0 44) 8192 (gA o0 44)] := hD
  unfold f_Md_findRing at h
  suffices key : ∀ (H : Heap) (locs : List Loc), va_P G.1 CL [(h0, .inr (11, [.int (gI o0 0), .ref (q0 1), .ref (q0 2), .ref (q0 3), .ref (q0 4), .ref (q0 5), .ref (q0 6), .int (gI o0 7), .int (gI o0 8), .int (gI o0 9), .int (gI o0 10), .int (gI o0 11), .int (gI o0 12), .int (gI o0 13), .int (gI o0 14), .long (gL o0 15), .int (gI o0 16), .int (gI o0 17), .int (gI o0 18), .int (gI o0 19), .int (gI o0 20), .int (gI o0 21), .int (gI o0 22), .int (gI o0 23), .int (gI o0 24), .int (gI o0 25), .int (gI o0 26), .int (gI o0 27), .ref (q0 28), .long (gL o0 29), .int (gI o0 30), .ref (q0 31), .ref (q0 32), .ref (q0 33), .int (gI o0 34), .int (gI o0 35), .int (gI o0 36), .int (gI o0 37), .ref (q0 38), .ref (q0 39), .int (gI o0 40), .ref (q0 41), .ref (q0 42), .ref (q0 43), .ref (q0 44)])), kI G (q0 1) 6100 (gA o0 1), kI G (q0 2) 6100 (gA o0 2), kJ G (q0 3) 2016 (gB o0 3), kJ G (q0 4) 2016 (gB o0 4), kI G (q0 5) 300 (gA o0 5), kI G (q0 6) 400 (gA o0 6), kJ G (q0 28) 10 (gB o0 28), kI G (q0 31) 969 (gA o0 31), kI G (q0 32) 969 (gA o0 32), kI G (q0 33) 969 (gA o0 33), kI G (q0 38) 5 (gA o0 38), kI G (q0 39) 5120 (gA o0 39), kI G (q0 41) 5 (gA o0 41), kZ G (q0 42) 1024 (gA o0 42), kI G (q0 43) 8192 (gA o0 43), kI G (q0 44) 8192 (gA o0 44)] H → va_S A s.heap H locs → W p l e rm_Md_findRing s m ([.ref h0, .int a0]).toArray below meth c H locs 0 0 (MQ below (va_Qv (fun (u : Ob) => Q u) (fun (u : Ob) t => BW G A (cw_Md G h0 q0 u) t) A) ([.ref h0, .int a0]).toArray s 0 0 A) (F0 m 0 ls []) from key s.heap [] hP hS
  intro H locs hP hS
  refine lv_iconst (v := (0 : Int32)) hx hb d_Md_findRing_0 (by decide) ?_
  refine lv_istore_n (lv' := [(2, .int (0 : Int32)), (0, .ref h0), (1, .int a0)]) hx hb d_Md_findRing_1 rfl hl (by decide) rfl (fun ls hl => ?_)
  have hl := lv_sub (l' := [(0, .ref h0), (1, .int a0), (2, .int (0 : Int32))]) hl [1, 2, 0] rfl
  have hP : va_P G.1 CL (cw_Md G h0 q0 o0) H := hP
  have hD : va_D A (cw_Md G h0 q0 o0) := hD
  obtain ⟨w, h⟩ := h
  exact t_Md_findRing_2 Q C w a0 (0 : Int32) o0 ls _ locs hl hP hD hS h
abbrev b_Md_rhythm : ByteArray := prog_14_method_44_code
def y_Md_rhythm : MethodName := ⟨R_Md, "rhythm", "(II)I"⟩
abbrev w_Md_rhythm : List Cond := Cond.code y_Md_rhythm b_Md_rhythm 3 (some .int) :: gw_tbl
theorem d_Md_rhythm_0 : decode b_Md_rhythm 0 = .ok (.iload_n 1, 1) := by decide +kernel
theorem d_Md_rhythm_1 : decode b_Md_rhythm 1 = .ok (.iconst 0, 1) := by decide +kernel
theorem d_Md_rhythm_2 : decode b_Md_rhythm 2 = .ok (.bipush 40, 2) := by decide +kernel
theorem d_Md_rhythm_4 : decode b_Md_rhythm 4 = .ok (.invokestatic 76, 3) := by decide +kernel
theorem d_Md_rhythm_7 : decode b_Md_rhythm 7 = .ok (.ifCond .eq 12, 3) := by decide +kernel
theorem d_Md_rhythm_10 : decode b_Md_rhythm 10 = .ok (.iload_n 2, 1) := by decide +kernel
theorem d_Md_rhythm_11 : decode b_Md_rhythm 11 = .ok (.iconst 0, 1) := by decide +kernel
theorem d_Md_rhythm_12 : decode b_Md_rhythm 12 = .ok (.iconst 3, 1) := by decide +kernel
theorem d_Md_rhythm_13 : decode b_Md_rhythm 13 = .ok (.invokestatic 76, 3) := by decide +kernel
theorem d_Md_rhythm_16 : decode b_Md_rhythm 16 = .ok (.ifCond .ne 5, 3) := by decide +kernel
theorem d_Md_rhythm_19 : decode b_Md_rhythm 19 = .ok (.iconst (-1), 1) := by decide +kernel
theorem d_Md_rhythm_20 : decode b_Md_rhythm 20 = .ok (.ireturn, 1) := by decide +kernel
theorem d_Md_rhythm_21 : decode b_Md_rhythm 21 = .ok (.aload_n 0, 1) := by decide +kernel
theorem d_Md_rhythm_22 : decode b_Md_rhythm 22 = .ok (.iload_n 1, 1) := by decide +kernel
theorem d_Md_rhythm_23 : decode b_Md_rhythm 23 = .ok (.invokevirtual 256, 3) := by decide +kernel
theorem d_Md_rhythm_26 : decode b_Md_rhythm 26 = .ok (.iload_n 2, 1) := by decide +kernel
theorem d_Md_rhythm_27 : decode b_Md_rhythm 27 = .ok (.ifCond .ne 10, 3) := by decide +kernel
theorem d_Md_rhythm_30 : decode b_Md_rhythm 30 = .ok (.aload_n 0, 1) := by decide +kernel
theorem d_Md_rhythm_31 : decode b_Md_rhythm 31 = .ok (.getfield 244, 3) := by decide +kernel
theorem d_Md_rhythm_34 : decode b_Md_rhythm 34 = .ok (.goto 31, 3) := by decide +kernel
theorem d_Md_rhythm_37 : decode b_Md_rhythm 37 = .ok (.iload_n 2, 1) := by decide +kernel
theorem d_Md_rhythm_38 : decode b_Md_rhythm 38 = .ok (.iconst 1, 1) := by decide +kernel
theorem d_Md_rhythm_39 : decode b_Md_rhythm 39 = .ok (.if_icmp .ne 10, 3) := by decide +kernel
theorem d_Md_rhythm_42 : decode b_Md_rhythm 42 = .ok (.aload_n 0, 1) := by decide +kernel
theorem d_Md_rhythm_43 : decode b_Md_rhythm 43 = .ok (.getfield 247, 3) := by decide +kernel
theorem d_Md_rhythm_46 : decode b_Md_rhythm 46 = .ok (.goto 19, 3) := by decide +kernel
theorem d_Md_rhythm_49 : decode b_Md_rhythm 49 = .ok (.iload_n 2, 1) := by decide +kernel
theorem d_Md_rhythm_50 : decode b_Md_rhythm 50 = .ok (.iconst 2, 1) := by decide +kernel
theorem d_Md_rhythm_51 : decode b_Md_rhythm 51 = .ok (.if_icmp .ne 10, 3) := by decide +kernel
theorem d_Md_rhythm_54 : decode b_Md_rhythm 54 = .ok (.aload_n 0, 1) := by decide +kernel
theorem d_Md_rhythm_55 : decode b_Md_rhythm 55 = .ok (.getfield 250, 3) := by decide +kernel
theorem d_Md_rhythm_58 : decode b_Md_rhythm 58 = .ok (.goto 7, 3) := by decide +kernel
theorem d_Md_rhythm_61 : decode b_Md_rhythm 61 = .ok (.aload_n 0, 1) := by decide +kernel
theorem d_Md_rhythm_62 : decode b_Md_rhythm 62 = .ok (.getfield 253, 3) := by decide +kernel
theorem d_Md_rhythm_65 : decode b_Md_rhythm 65 = .ok (.ireturn, 1) := by decide +kernel
theorem wv_Md_256 : wV R_Md 256 y_Md_findRing b_Md_findRing 6 none 1 := ⟨⟨gw_tb (List.mem_of_getElem? (i := 1270) (by decide +kernel)) rfl, gw_tb (List.mem_of_getElem? (i := 13) (by decide +kernel)) rfl, gw_tb (List.mem_of_getElem? (i := 1273) (by decide +kernel)) rfl, by decide, by decide, by decide +kernel⟩, gw_tb (List.mem_of_getElem? (i := 1272) (by decide +kernel)) rfl, gw_of (List.mem_append_left _ (List.mem_of_getElem? (i := 52) (by decide +kernel))) rfl⟩
def f_Md_rhythm (a0 : Int32) (a1 : Int32) (o0 : Ob) (Q : Int32 → Ob → Prop) : Prop := f_Md_isIn a0 (0 : Int32) (40 : Int32) (fun z1 => (z1 = 0 → (Q (-1 : Int32) o0)) ∧ (¬ z1 = 0 → (f_Md_isIn a1 (0 : Int32) (3 : Int32) (fun z3 => (z3 = 0 → (Q (-1 : Int32) o0)) ∧ (¬ z3 = 0 → (f_Md_findRing a0 o0 (fun u5 => (a1 = 0 → (Q (gI u5 34) u5)) ∧ (¬ a1 = 0 → ((a1 = (1 : Int32) → (Q (gI u5 35) u5)) ∧ (¬ a1 = (1 : Int32) → ((a1 = (2 : Int32) → (Q (gI u5 36) u5)) ∧ (¬ a1 = (2 : Int32) → (Q (gI u5 37) u5)))))))))))))
abbrev rm_Md_rhythm : Room := { frames := 2, cells := 0, slots := 0, locals := 46 }
set_option maxHeartbeats 4000000 in
set_option maxRecDepth 100000 in
theorem c_Md_rhythm {l : Launch} {G : Gl} {h0 : Nat} {q0 : Nat → Nat} {a0 : Int32} {a1 : Int32} {o0 : Ob} {Q : Int32 → Ob → Prop} (sz : Nat) (h : f_Md_rhythm a0 a1 o0 Q) : Met l y_Md_rhythm w_Md_rhythm rm_Md_rhythm (PcW G [.ref h0, .int a0, .int a1] sz (cw_Md G h0 q0 o0)) (va_Qi (fun (r : Int32) (u : Ob) => Q r u) (fun (u : Ob) t => BW G (va_A (cw_Md G h0 q0 o0) sz) (cw_Md G h0 q0 u) t) (va_A (cw_Md G h0 q0 o0) sz)) 0 0 (va_A (cw_Md G h0 q0 o0) sz) := by
  refine Met.ofW (cc := b_Md_rhythm) (maxL := 3) (ret := (some .int)) (by decide +kernel) rfl ?_
  intro p e s m args below meth c s₁ B hml hv
  obtain ⟨rfl, hsz, hP, hK, hD0, hE⟩ := hv
  have hx := B.exec
  have hb := B.bytes
  have hr := B.returns
  have hts0 := atoms_spec (ws := w_Md_rhythm) B.pre
  have hts : ∀ w ∈ gw_tbl, w.before ([.ref h0, .int a0, .int a1]).toArray s = true := fun w hw => hts0 w (List.mem_cons_of_mem _ hw)
  have hown : s.vm.findClass R_Md = some m.cls := findClass_of_methodNamed B.named
  have hlocks := B.notSynchronized
  subst hsz
  have hD := hD0.self (sz := s.heap.size)
  generalize hAe : va_A (cw_Md G h0 q0 o0) s.heap.size = A at hD hE ⊢
  have hA : ∀ q : Nat, s.heap.size ≤ q → A q := fun q h => by rw [← hAe]; exact Or.inr h
  have hS : va_S A s.heap s.heap [] := va_S.rf
  have C : Cx p s m ([.ref h0, .int a0, .int a1]).toArray meth c R_Md b_Md_rhythm 3 (some .int) G A := ⟨hx, hb, hml, hown, hr, hts, hK, hA, hlocks, hE⟩
  have hl := lv_entry ([.ref h0, .int a0, .int a1]) (n := 3) (Nat.le_of_ble_eq_true rfl)
  rw [lg_entry_eq]
  generalize (lg_sl ([.ref h0, .int a0, .int a1]) ++ List.replicate (3 - (lg_sl ([.ref h0, .int a0, .int a1])).length) Slot.unset).toArray = ls at hl ⊢
  have hl : lv_has ls 3 [(0, .ref h0), (1, .int a0), (2, .int a1)] := hl
  have hD : va_D A [(h0, .inr (11, [.int (gI o0 0), .ref (q0 1), .ref (q0 2), .ref (q0 3), .ref (q0 4), .ref (q0 5), .ref (q0 6), .int (gI o0 7), .int (gI o0 8), .int (gI o0 9), .int (gI o0 10), .int (gI o0 11), .int (gI o0 12), .int (gI o0 13), .int (gI o0 14), .long (gL o0 15), .int (gI o0 16), .int (gI o0 17), .int (gI o0 18), .int (gI o0 19), .int (gI o0 20), .int (gI o0 21), .int (gI o0 22), .int (gI o0 23), .int (gI o0 24), .int (gI o0 25), .int (gI o0 26), .int (gI o0 27), .ref (q0 28), .long (gL o0 29), .int (gI o0 30), .ref (q0 31), .ref (q0 32), .ref (q0 33), .int (gI o0 34), .int (gI o0 35), .int (gI o0 36), .int (gI o0 37), .ref (q0 38), .ref (q0 39), .int (gI o0 40), .ref (q0 41), .ref (q0 42), .ref (q0 43), .ref (q0 44)])), kI G (q0 1) 6100 (gA o0 1), kI G (q0 2) 6100 (gA o0 2), kJ G (q0 3) 2016 (gB o0 3), kJ G (q0 4) 2016 (gB o0 4), kI G (q0 5) 300 (gA o0 5), kI G (q0 6) 400 (gA o0 6), kJ G (q0 28) 10 (gB o0 28), kI G (q0 31) 969 (gA o0 31), kI G (q0 32) 969 (gA o0 32), kI G (q0 33) 969 (gA o0 33), kI G (q0 38) 5 (gA o0 38), kI G (q0 39) 5120 (gA o0 39), kI G (q0 41) 5 (gA o0 41), kZ G (q0 42) 1024 (gA o0 42), kI G (q0 43) 8192 (gA o0 43), kI G (q0 44) 8192 (gA o0 44)] := hD
  unfold f_Md_rhythm at h
  suffices key : ∀ (H : Heap) (locs : List Loc), va_P G.1 CL [(h0, .inr (11, [.int (gI o0 0), .ref (q0 1), .ref (q0 2), .ref (q0 3), .ref (q0 4), .ref (q0 5), .ref (q0 6), .int (gI o0 7), .int (gI o0 8), .int (gI o0 9), .int (gI o0 10), .int (gI o0 11), .int (gI o0 12), .int (gI o0 13), .int (gI o0 14), .long (gL o0 15), .int (gI o0 16), .int (gI o0 17), .int (gI o0 18), .int (gI o0 19), .int (gI o0 20), .int (gI o0 21), .int (gI o0 22), .int (gI o0 23), .int (gI o0 24), .int (gI o0 25), .int (gI o0 26), .int (gI o0 27), .ref (q0 28), .long (gL o0 29), .int (gI o0 30), .ref (q0 31), .ref (q0 32), .ref (q0 33), .int (gI o0 34), .int (gI o0 35), .int (gI o0 36), .int (gI o0 37), .ref (q0 38), .ref (q0 39), .int (gI o0 40), .ref (q0 41), .ref (q0 42), .ref (q0 43), .ref (q0 44)])), kI G (q0 1) 6100 (gA o0 1), kI G (q0 2) 6100 (gA o0 2), kJ G (q0 3) 2016 (gB o0 3), kJ G (q0 4) 2016 (gB o0 4), kI G (q0 5) 300 (gA o0 5), kI G (q0 6) 400 (gA o0 6), kJ G (q0 28) 10 (gB o0 28), kI G (q0 31) 969 (gA o0 31), kI G (q0 32) 969 (gA o0 32), kI G (q0 33) 969 (gA o0 33), kI G (q0 38) 5 (gA o0 38), kI G (q0 39) 5120 (gA o0 39), kI G (q0 41) 5 (gA o0 41), kZ G (q0 42) 1024 (gA o0 42), kI G (q0 43) 8192 (gA o0 43), kI G (q0 44) 8192 (gA o0 44)] H → va_S A s.heap H locs → W p l e rm_Md_rhythm s m ([.ref h0, .int a0, .int a1]).toArray below meth c H locs 0 0 (MQ below (va_Qi (fun (r : Int32) (u : Ob) => Q r u) (fun (u : Ob) t => BW G A (cw_Md G h0 q0 u) t) A) ([.ref h0, .int a0, .int a1]).toArray s 0 0 A) (F0 m 0 ls []) from key s.heap [] hP hS
  intro H locs hP hS
  refine lv_iload_n hx hb d_Md_rhythm_0 rfl (lv_at hl 1 rfl) ?_
  refine lv_iconst (v := (0 : Int32)) hx hb d_Md_rhythm_1 (by decide) ?_
  refine lv_bipush (v := (40 : Int32)) hx hb d_Md_rhythm_2 (by decide) ?_
  refine cl_Si (b := b_Md_rhythm) (As := [.int a0, .int (0 : Int32), .int (40 : Int32)]) (rest := []) (ws := [(h0, .inr (11, [.int (gI o0 0), .ref (q0 1), .ref (q0 2), .ref (q0 3), .ref (q0 4), .ref (q0 5), .ref (q0 6), .int (gI o0 7), .int (gI o0 8), .int (gI o0 9), .int (gI o0 10), .int (gI o0 11), .int (gI o0 12), .int (gI o0 13), .int (gI o0 14), .long (gL o0 15), .int (gI o0 16), .int (gI o0 17), .int (gI o0 18), .int (gI o0 19), .int (gI o0 20), .int (gI o0 21), .int (gI o0 22), .int (gI o0 23), .int (gI o0 24), .int (gI o0 25), .int (gI o0 26), .int (gI o0 27), .ref (q0 28), .long (gL o0 29), .int (gI o0 30), .ref (q0 31), .ref (q0 32), .ref (q0 33), .int (gI o0 34), .int (gI o0 35), .int (gI o0 36), .int (gI o0 37), .ref (q0 38), .ref (q0 39), .int (gI o0 40), .ref (q0 41), .ref (q0 42), .ref (q0 43), .ref (q0 44)])), kI G (q0 1) 6100 (gA o0 1), kI G (q0 2) 6100 (gA o0 2), kJ G (q0 3) 2016 (gB o0 3), kJ G (q0 4) 2016 (gB o0 4), kI G (q0 5) 300 (gA o0 5), kI G (q0 6) 400 (gA o0 6), kJ G (q0 28) 10 (gB o0 28), kI G (q0 31) 969 (gA o0 31), kI G (q0 32) 969 (gA o0 32), kI G (q0 33) 969 (gA o0 33), kI G (q0 38) 5 (gA o0 38), kI G (q0 39) 5120 (gA o0 39), kI G (q0 41) 5 (gA o0 41), kZ G (q0 42) 1024 (gA o0 42), kI G (q0 43) 8192 (gA o0 43), kI G (q0 44) 8192 (gA o0 44)]) (wr := [(h0, .inr (11, [.int (gI o0 0), .ref (q0 1), .ref (q0 2), .ref (q0 3), .ref (q0 4), .ref (q0 5), .ref (q0 6), .int (gI o0 7), .int (gI o0 8), .int (gI o0 9), .int (gI o0 10), .int (gI o0 11), .int (gI o0 12), .int (gI o0 13), .int (gI o0 14), .long (gL o0 15), .int (gI o0 16), .int (gI o0 17), .int (gI o0 18), .int (gI o0 19), .int (gI o0 20), .int (gI o0 21), .int (gI o0 22), .int (gI o0 23), .int (gI o0 24), .int (gI o0 25), .int (gI o0 26), .int (gI o0 27), .ref (q0 28), .long (gL o0 29), .int (gI o0 30), .ref (q0 31), .ref (q0 32), .ref (q0 33), .int (gI o0 34), .int (gI o0 35), .int (gI o0 36), .int (gI o0 37), .ref (q0 38), .ref (q0 39), .int (gI o0 40), .ref (q0 41), .ref (q0 42), .ref (q0 43), .ref (q0 44)])), kI G (q0 1) 6100 (gA o0 1), kI G (q0 2) 6100 (gA o0 2), kJ G (q0 3) 2016 (gB o0 3), kJ G (q0 4) 2016 (gB o0 4), kI G (q0 5) 300 (gA o0 5), kI G (q0 6) 400 (gA o0 6), kJ G (q0 28) 10 (gB o0 28), kI G (q0 31) 969 (gA o0 31), kI G (q0 32) 969 (gA o0 32), kI G (q0 33) 969 (gA o0 33), kI G (q0 38) 5 (gA o0 38), kI G (q0 39) 5120 (gA o0 39), kI G (q0 41) 5 (gA o0 41), kZ G (q0 42) 1024 (gA o0 42), kI G (q0 43) 8192 (gA o0 43), kI G (q0 44) 8192 (gA o0 44)]) (w2 := fun (u : Unit) => [(h0, .inr (11, [.int (gI o0 0), .ref (q0 1), .ref (q0 2), .ref (q0 3), .ref (q0 4), .ref (q0 5), .ref (q0 6), .int (gI o0 7), .int (gI o0 8), .int (gI o0 9), .int (gI o0 10), .int (gI o0 11), .int (gI o0 12), .int (gI o0 13), .int (gI o0 14), .long (gL o0 15), .int (gI o0 16), .int (gI o0 17), .int (gI o0 18), .int (gI o0 19), .int (gI o0 20), .int (gI o0 21), .int (gI o0 22), .int (gI o0 23), .int (gI o0 24), .int (gI o0 25), .int (gI o0 26), .int (gI o0 27), .ref (q0 28), .long (gL o0 29), .int (gI o0 30), .ref (q0 31), .ref (q0 32), .ref (q0 33), .int (gI o0 34), .int (gI o0 35), .int (gI o0 36), .int (gI o0 37), .ref (q0 38), .ref (q0 39), .int (gI o0 40), .ref (q0 41), .ref (q0 42), .ref (q0 43), .ref (q0 44)])), kI G (q0 1) 6100 (gA o0 1), kI G (q0 2) 6100 (gA o0 2), kJ G (q0 3) 2016 (gB o0 3), kJ G (q0 4) 2016 (gB o0 4), kI G (q0 5) 300 (gA o0 5), kI G (q0 6) 400 (gA o0 6), kJ G (q0 28) 10 (gB o0 28), kI G (q0 31) 969 (gA o0 31), kI G (q0 32) 969 (gA o0 32), kI G (q0 33) 969 (gA o0 33), kI G (q0 38) 5 (gA o0 38), kI G (q0 39) 5120 (gA o0 39), kI G (q0 41) 5 (gA o0 41), kZ G (q0 42) 1024 (gA o0 42), kI G (q0 43) 8192 (gA o0 43), kI G (q0 44) 8192 (gA o0 44)]) C (c_Md_isIn H.size h) ws_Md_76 ⟨Nat.le_of_ble_eq_true rfl, Nat.le_of_ble_eq_true rfl⟩ hP hD hS [] [0, 1, 2, 3, 4, 5, 6, 7, 8, 9, 10, 11, 12, 13, 14, 15, 16] rfl rfl (by decide) (by decide) (by decide) [0, 1, 2, 3, 4, 5, 6, 7, 8, 9, 10, 11, 12, 13, 14, 15, 16] (by decide) (fun u => rfl) rfl hl.1 rfl (lv_room (Nat.le_of_ble_eq_true rfl)) d_Md_rhythm_4 ⟨Nat.le_of_ble_eq_true rfl, Nat.le_of_ble_eq_true rfl⟩ rfl rfl (fun z1 u H locs h hP hD hS => ?_)
  have hP : va_P G.1 CL [(h0, .inr (11, [.int (gI o0 0), .ref (q0 1), .ref (q0 2), .ref (q0 3), .ref (q0 4), .ref (q0 5), .ref (q0 6), .int (gI o0 7), .int (gI o0 8), .int (gI o0 9), .int (gI o0 10), .int (gI o0 11), .int (gI o0 12), .int (gI o0 13), .int (gI o0 14), .long (gL o0 15), .int (gI o0 16), .int (gI o0 17), .int (gI o0 18), .int (gI o0 19), .int (gI o0 20), .int (gI o0 21), .int (gI o0 22), .int (gI o0 23), .int (gI o0 24), .int (gI o0 25), .int (gI o0 26), .int (gI o0 27), .ref (q0 28), .long (gL o0 29), .int (gI o0 30), .ref (q0 31), .ref (q0 32), .ref (q0 33), .int (gI o0 34), .int (gI o0 35), .int (gI o0 36), .int (gI o0 37), .ref (q0 38), .ref (q0 39), .int (gI o0 40), .ref (q0 41), .ref (q0 42), .ref (q0 43), .ref (q0 44)])), kI G (q0 1) 6100 (gA o0 1), kI G (q0 2) 6100 (gA o0 2), kJ G (q0 3) 2016 (gB o0 3), kJ G (q0 4) 2016 (gB o0 4), kI G (q0 5) 300 (gA o0 5), kI G (q0 6) 400 (gA o0 6), kJ G (q0 28) 10 (gB o0 28), kI G (q0 31) 969 (gA o0 31), kI G (q0 32) 969 (gA o0 32), kI G (q0 33) 969 (gA o0 33), kI G (q0 38) 5 (gA o0 38), kI G (q0 39) 5120 (gA o0 39), kI G (q0 41) 5 (gA o0 41), kZ G (q0 42) 1024 (gA o0 42), kI G (q0 43) 8192 (gA o0 43), kI G (q0 44) 8192 (gA o0 44)] H := hP
  have hD : va_D A [(h0, .inr (11, [.int (gI o0 0), .ref (q0 1), .ref (q0 2), .ref (q0 3), .ref (q0 4), .ref (q0 5), .ref (q0 6), .int (gI o0 7), .int (gI o0 8), .int (gI o0 9), .int (gI o0 10), .int (gI o0 11), .int (gI o0 12), .int (gI o0 13), .int (gI o0 14), .long (gL o0 15), .int (gI o0 16), .int (gI o0 17), .int (gI o0 18), .int (gI o0 19), .int (gI o0 20), .int (gI o0 21), .int (gI o0 22), .int (gI o0 23), .int (gI o0 24), .int (gI o0 25), .int (gI o0 26), .int (gI o0 27), .ref (q0 28), .long (gL o0 29), .int (gI o0 30), .ref (q0 31), .ref (q0 32), .ref (q0 33), .int (gI o0 34), .int (gI o0 35), .int (gI o0 36), .int (gI o0 37), .ref (q0 38), .ref (q0 39), .int (gI o0 40), .ref (q0 41), .ref (q0 42), .ref (q0 43), .ref (q0 44)])), kI G (q0 1) 6100 (gA o0 1), kI G (q0 2) 6100 (gA o0 2), kJ G (q0 3) 2016 (gB o0 3), kJ G (q0 4) 2016 (gB o0 4), kI G (q0 5) 300 (gA o0 5), kI G (q0 6) 400 (gA o0 6), kJ G (q0 28) 10 (gB o0 28), kI G (q0 31) 969 (gA o0 31), kI G (q0 32) 969 (gA o0 32), kI G (q0 33) 969 (gA o0 33), kI G (q0 38) 5 (gA o0 38), kI G (q0 39) 5120 (gA o0 39), kI G (q0 41) 5 (gA o0 41), kZ G (q0 42) 1024 (gA o0 42), kI G (q0 43) 8192 (gA o0 43), kI G (q0 44) 8192 (gA o0 44)] := hD
  refine lv_if_eq (tgt := 19) hx hb d_Md_rhythm_7 (by decide) (fun c2 => ?_) (fun c2 => ?_)
  · have h := h.1 c2
    refine lv_iconst (v := (-1 : Int32)) hx hb d_Md_rhythm_19 (by decide) ?_
    have hP : va_P G.1 CL (cw_Md G h0 q0 o0) H := hP
    have hD : va_D A (cw_Md G h0 q0 o0) := hD
    exact W.iret (v := (-1 : Int32)) hx hb hr (fun t ht hW => ⟨⟨(-1 : Int32), o0, rfl, h, by rw [ht]; exact hP, va_K.moved hW.alike hK, hD⟩, hS.F ht⟩) hS.2.2 d_Md_rhythm_20
  · have h := h.2 c2
    refine lv_iload_n hx hb d_Md_rhythm_10 rfl (lv_at hl 2 rfl) ?_
    refine lv_iconst (v := (0 : Int32)) hx hb d_Md_rhythm_11 (by decide) ?_
    refine lv_iconst (v := (3 : Int32)) hx hb d_Md_rhythm_12 (by decide) ?_
    refine cl_Si (b := b_Md_rhythm) (As := [.int a1, .int (0 : Int32), .int (3 : Int32)]) (rest := []) (ws := [(h0, .inr (11, [.int (gI o0 0), .ref (q0 1), .ref (q0 2), .ref (q0 3), .ref (q0 4), .ref (q0 5), .ref (q0 6), .int (gI o0 7), .int (gI o0 8), .int (gI o0 9), .int (gI o0 10), .int (gI o0 11), .int (gI o0 12), .int (gI o0 13), .int (gI o0 14), .long (gL o0 15), .int (gI o0 16), .int (gI o0 17), .int (gI o0 18), .int (gI o0 19), .int (gI o0 20), .int (gI o0 21), .int (gI o0 22), .int (gI o0 23), .int (gI o0 24), .int (gI o0 25), .int (gI o0 26), .int (gI o0 27), .ref (q0 28), .long (gL o0 29), .int (gI o0 30), .ref (q0 31), .ref (q0 32), .ref (q0 33), .int (gI o0 34), .int (gI o0 35), .int (gI o0 36), .int (gI o0 37), .ref (q0 38), .ref (q0 39), .int (gI o0 40), .ref (q0 41), .ref (q0 42), .ref (q0 43), .ref (q0 44)])), kI G (q0 1) 6100 (gA o0 1), kI G (q0 2) 6100 (gA o0 2), kJ G (q0 3) 2016 (gB o0 3), kJ G (q0 4) 2016 (gB o0 4), kI G (q0 5) 300 (gA o0 5), kI G (q0 6) 400 (gA o0 6), kJ G (q0 28) 10 (gB o0 28), kI G (q0 31) 969 (gA o0 31), kI G (q0 32) 969 (gA o0 32), kI G (q0 33) 969 (gA o0 33), kI G (q0 38) 5 (gA o0 38), kI G (q0 39) 5120 (gA o0 39), kI G (q0 41) 5 (gA o0 41), kZ G (q0 42) 1024 (gA o0 42), kI G (q0 43) 8192 (gA o0 43), kI G (q0 44) 8192 (gA o0 44)]) (wr := [(h0, .inr (11, [.int (gI o0 0), .ref (q0 1), .ref (q0 2), .ref (q0 3), .ref (q0 4), .ref (q0 5), .ref (q0 6), .int (gI o0 7), .int (gI o0 8), .int (gI o0 9), .int (gI o0 10), .int (gI o0 11), .int (gI o0 12), .int (gI o0 13), .int (gI o0 14), .long (gL o0 15), .int (gI o0 16), .int (gI o0 17), .int (gI o0 18), .int (gI o0 19), .int (gI o0 20), .int (gI o0 21), .int (gI o0 22), .int (gI o0 23), .int (gI o0 24), .int (gI o0 25), .int (gI o0 26), .int (gI o0 27), .ref (q0 28), .long (gL o0 29), .int (gI o0 30), .ref (q0 31), .ref (q0 32), .ref (q0 33), .int (gI o0 34), .int (gI o0 35), .int (gI o0 36), .int (gI o0 37), .ref (q0 38), .ref (q0 39), .int (gI o0 40), .ref (q0 41), .ref (q0 42), .ref (q0 43), .ref (q0 44)])), kI G (q0 1) 6100 (gA o0 1), kI G (q0 2) 6100 (gA o0 2), kJ G (q0 3) 2016 (gB o0 3), kJ G (q0 4) 2016 (gB o0 4), kI G (q0 5) 300 (gA o0 5), kI G (q0 6) 400 (gA o0 6), kJ G (q0 28) 10 (gB o0 28), kI G (q0 31) 969 (gA o0 31), kI G (q0 32) 969 (gA o0 32), kI G (q0 33) 969 (gA o0 33), kI G (q0 38) 5 (gA o0 38), kI G (q0 39) 5120 (gA o0 39), kI G (q0 41) 5 (gA o0 41), kZ G (q0 42) 1024 (gA o0 42), kI G (q0 43) 8192 (gA o0 43), kI G (q0 44) 8192 (gA o0 44)]) (w2 := fun (u : Unit) => [(h0, .inr (11, [.int (gI o0 0), .ref (q0 1), .ref (q0 2), .ref (q0 3), .ref (q0 4), .ref (q0 5), .ref (q0 6), .int (gI o0 7), .int (gI o0 8), .int (gI o0 9), .int (gI o0 10), .int (gI o0 11), .int (gI o0 12), .int (gI o0 13), .int (gI o0 14), .long (gL o0 15), .int (gI o0 16), .int (gI o0 17), .int (gI o0 18), .int (gI o0 19), .int (gI o0 20), .int (gI o0 21), .int (gI o0 22), .int (gI o0 23), .int (gI o0 24), .int (gI o0 25), .int (gI o0 26), .int (gI o0 27), .ref (q0 28), .long (gL o0 29), .int (gI o0 30), .ref (q0 31), .ref (q0 32), .ref (q0 33), .int (gI o0 34), .int (gI o0 35), .int (gI o0 36), .int (gI o0 37), .ref (q0 38), .ref (q0 39), .int (gI o0 40), .ref (q0 41), .ref (q0 42), .ref (q0 43), .ref (q0 44)])), kI G (q0 1) 6100 (gA o0 1), kI G (q0 2) 6100 (gA o0 2), kJ G (q0 3) 2016 (gB o0 3), kJ G (q0 4) 2016 (gB o0 4), kI G (q0 5) 300 (gA o0 5), kI G (q0 6) 400 (gA o0 6), kJ G (q0 28) 10 (gB o0 28), kI G (q0 31) 969 (gA o0 31), kI G (q0 32) 969 (gA o0 32), kI G (q0 33) 969 (gA o0 33), kI G (q0 38) 5 (gA o0 38), kI G (q0 39) 5120 (gA o0 39), kI G (q0 41) 5 (gA o0 41), kZ G (q0 42) 1024 (gA o0 42), kI G (q0 43) 8192 (gA o0 43), kI G (q0 44) 8192 (gA o0 44)]) C (c_Md_isIn H.size h) ws_Md_76 ⟨Nat.le_of_ble_eq_true rfl, Nat.le_of_ble_eq_true rfl⟩ hP hD hS [] [0, 1, 2, 3, 4, 5, 6, 7, 8, 9, 10, 11, 12, 13, 14, 15, 16] rfl rfl (by decide) (by decide) (by decide) [0, 1, 2, 3, 4, 5, 6, 7, 8, 9, 10, 11, 12, 13, 14, 15, 16] (by decide) (fun u => rfl) rfl hl.1 rfl (lv_room (Nat.le_of_ble_eq_true rfl)) d_Md_rhythm_13 ⟨Nat.le_of_ble_eq_true rfl, Nat.le_of_ble_eq_true rfl⟩ rfl rfl (fun z3 u H locs h hP hD hS => ?_)
    have hP : va_P G.1 CL [(h0, .inr (11, [.int (gI o0 0), .ref (q0 1), .ref (q0 2), .ref (q0 3), .ref (q0 4), .ref (q0 5), .ref (q0 6), .int (gI o0 7), .int (gI o0 8), .int (gI o0 9), .int (gI o0 10), .int (gI o0 11), .int (gI o0 12), .int (gI o0 13), .int (gI o0 14), .long (gL o0 15), .int (gI o0 16), .int (gI o0 17), .int (gI o0 18), .int (gI o0 19), .int (gI o0 20), .int (gI o0 21), .int (gI o0 22), .int (gI o0 23), .int (gI o0 24), .int (gI o0 25), .int (gI o0 26), .int (gI o0 27), .ref (q0 28), .long (gL o0 29), .int (gI o0 30), .ref (q0 31), .ref (q0 32), .ref (q0 33), .int (gI o0 34), .int (gI o0 35), .int (gI o0 36), .int (gI o0 37), .ref (q0 38), .ref (q0 39), .int (gI o0 40), .ref (q0 41), .ref (q0 42), .ref (q0 43), .ref (q0 44)])), kI G (q0 1) 6100 (gA o0 1), kI G (q0 2) 6100 (gA o0 2), kJ G (q0 3) 2016 (gB o0 3), kJ G (q0 4) 2016 (gB o0 4), kI G (q0 5) 300 (gA o0 5), kI G (q0 6) 400 (gA o0 6), kJ G (q0 28) 10 (gB o0 28), kI G (q0 31) 969 (gA o0 31), kI G (q0 32) 969 (gA o0 32), kI G (q0 33) 969 (gA o0 33), kI G (q0 38) 5 (gA o0 38), kI G (q0 39) 5120 (gA o0 39), kI G (q0 41) 5 (gA o0 41), kZ G (q0 42) 1024 (gA o0 42), kI G (q0 43) 8192 (gA o0 43), kI G (q0 44) 8192 (gA o0 44)] H := hP
    have hD : va_D A [(h0, .inr (11, [.int (gI o0 0), .ref (q0 1), .ref (q0 2), .ref (q0 3), .ref (q0 4), .ref (q0 5), .ref (q0 6), .int (gI o0 7), .int (gI o0 8), .int (gI o0 9), .int (gI o0 10), .int (gI o0 11), .int (gI o0 12), .int (gI o0 13), .int (gI o0 14), .long (gL o0 15), .int (gI o0 16), .int (gI o0 17), .int (gI o0 18), .int (gI o0 19), .int (gI o0 20), .int (gI o0 21), .int (gI o0 22), .int (gI o0 23), .int (gI o0 24), .int (gI o0 25), .int (gI o0 26), .int (gI o0 27), .ref (q0 28), .long (gL o0 29), .int (gI o0 30), .ref (q0 31), .ref (q0 32), .ref (q0 33), .int (gI o0 34), .int (gI o0 35), .int (gI o0 36), .int (gI o0 37), .ref (q0 38), .ref (q0 39), .int (gI o0 40), .ref (q0 41), .ref (q0 42), .ref (q0 43), .ref (q0 44)])), kI G (q0 1) 6100 (gA o0 1), kI G (q0 2) 6100 (gA o0 2), kJ G (q0 3) 2016 (gB o0 3), kJ G (q0 4) 2016 (gB o0 4), kI G (q0 5) 300 (gA o0 5), kI G (q0 6) 400 (gA o0 6), kJ G (q0 28) 10 (gB o0 28), kI G (q0 31) 969 (gA o0 31), kI G (q0 32) 969 (gA o0 32), kI G (q0 33) 969 (gA o0 33), kI G (q0 38) 5 (gA o0 38), kI G (q0 39) 5120 (gA o0 39), kI G (q0 41) 5 (gA o0 41), kZ G (q0 42) 1024 (gA o0 42), kI G (q0 43) 8192 (gA o0 43), kI G (q0 44) 8192 (gA o0 44)] := hD
    refine lv_if_ne (tgt := 21) hx hb d_Md_rhythm_16 (by decide) (fun c4 => ?_) (fun c4 => ?_)
    · have h := h.2 c4
      refine lv_aload_n hx hb d_Md_rhythm_21 rfl (lv_at hl 0 rfl) ?_
      refine lv_iload_n hx hb d_Md_rhythm_22 rfl (lv_at hl 1 rfl) ?_
      refine cl_Vv (b := b_Md_rhythm) (As := [.int a0]) (rest := []) (ws := [(h0, .inr (11, [.int (gI o0 0), .ref (q0 1), .ref (q0 2), .ref (q0 3), .ref (q0 4), .ref (q0 5), .ref (q0 6), .int (gI o0 7), .int (gI o0 8), .int (gI o0 9), .int (gI o0 10), .int (gI o0 11), .int (gI o0 12), .int (gI o0 13), .int (gI o0 14), .long (gL o0 15), .int (gI o0 16), .int (gI o0 17), .int (gI o0 18), .int (gI o0 19), .int (gI o0 20), .int (gI o0 21), .int (gI o0 22), .int (gI o0 23), .int (gI o0 24), .int (gI o0 25), .int (gI o0 26), .int (gI o0 27), .ref (q0 28), .long (gL o0 29), .int (gI o0 30), .ref (q0 31), .ref (q0 32), .ref (q0 33), .int (gI o0 34), .int (gI o0 35), .int (gI o0 36), .int (gI o0 37), .ref (q0 38), .ref (q0 39), .int (gI o0 40), .ref (q0 41), .ref (q0 42), .ref (q0 43), .ref (q0 44)])), kI G (q0 1) 6100 (gA o0 1), kI G (q0 2) 6100 (gA o0 2), kJ G (q0 3) 2016 (gB o0 3), kJ G (q0 4) 2016 (gB o0 4), kI G (q0 5) 300 (gA o0 5), kI G (q0 6) 400 (gA o0 6), kJ G (q0 28) 10 (gB o0 28), kI G (q0 31) 969 (gA o0 31), kI G (q0 32) 969 (gA o0 32), kI G (q0 33) 969 (gA o0 33), kI G (q0 38) 5 (gA o0 38), kI G (q0 39) 5120 (gA o0 39), kI G (q0 41) 5 (gA o0 41), kZ G (q0 42) 1024 (gA o0 42), kI G (q0 43) 8192 (gA o0 43), kI G (q0 44) 8192 (gA o0 44)]) (wr := []) (w2 := fun (u : Ob) => [(h0, .inr (11, [.int (gI u 0), .ref (q0 1), .ref (q0 2), .ref (q0 3), .ref (q0 4), .ref (q0 5), .ref (q0 6), .int (gI u 7), .int (gI u 8), .int (gI u 9), .int (gI u 10), .int (gI u 11), .int (gI u 12), .int (gI u 13), .int (gI u 14), .long (gL u 15), .int (gI u 16), .int (gI u 17), .int (gI u 18), .int (gI u 19), .int (gI u 20), .int (gI u 21), .int (gI u 22), .int (gI u 23), .int (gI u 24), .int (gI u 25), .int (gI u 26), .int (gI u 27), .ref (q0 28), .long (gL u 29), .int (gI u 30), .ref (q0 31), .ref (q0 32), .ref (q0 33), .int (gI u 34), .int (gI u 35), .int (gI u 36), .int (gI u 37), .ref (q0 38), .ref (q0 39), .int (gI u 40), .ref (q0 41), .ref (q0 42), .ref (q0 43), .ref (q0 44)])), kI G (q0 1) 6100 (gA u 1), kI G (q0 2) 6100 (gA u 2), kJ G (q0 3) 2016 (gB u 3), kJ G (q0 4) 2016 (gB u 4), kI G (q0 5) 300 (gA u 5), kI G (q0 6) 400 (gA u 6), kJ G (q0 28) 10 (gB u 28), kI G (q0 31) 969 (gA u 31), kI G (q0 32) 969 (gA u 32), kI G (q0 33) 969 (gA u 33), kI G (q0 38) 5 (gA u 38), kI G (q0 39) 5120 (gA u 39), kI G (q0 41) 5 (gA u 41), kZ G (q0 42) 1024 (gA u 42), kI G (q0 43) 8192 (gA u 43), kI G (q0 44) 8192 (gA u 44)]) C (c_Md_findRing (h0 := h0) (q0 := q0) H.size h) wv_Md_256 ⟨Nat.le_of_ble_eq_true rfl, Nat.le_of_ble_eq_true rfl⟩ hP hD hS 0 rfl rfl [0, 1, 2, 3, 4, 5, 6, 7, 8, 9, 10, 11, 12, 13, 14, 15, 16] [] rfl rfl (by decide) (by decide) (by decide) [0, 1, 2, 3, 4, 5, 6, 7, 8, 9, 10, 11, 12, 13, 14, 15, 16] (by decide) (fun u => rfl) rfl hl.1 rfl (lv_room (Nat.le_of_ble_eq_true rfl)) d_Md_rhythm_23 ⟨Nat.le_of_ble_eq_true rfl, Nat.le_of_ble_eq_true rfl⟩ rfl rfl (fun u H locs h hP hD hS => ?_)
      generalize u = u5 at h hP hD
      have hP : va_P G.1 CL [(h0, .inr (11, [.int (gI u5 0), .ref (q0 1), .ref (q0 2), .ref (q0 3), .ref (q0 4), .ref (q0 5), .ref (q0 6), .int (gI u5 7), .int (gI u5 8), .int (gI u5 9), .int (gI u5 10), .int (gI u5 11), .int (gI u5 12), .int (gI u5 13), .int (gI u5 14), .long (gL u5 15), .int (gI u5 16), .int (gI u5 17), .int (gI u5 18), .int (gI u5 19), .int (gI u5 20), .int (gI u5 21), .int (gI u5 22), .int (gI u5 23), .int (gI u5 24), .int (gI u5 25), .int (gI u5 26), .int (gI u5 27), .ref (q0 28), .long (gL u5 29), .int (gI u5 30), .ref (q0 31), .ref (q0 32), .ref (q0 33), .int (gI u5 34), .int (gI u5 35), .int (gI u5 36), .int (gI u5 37), .ref (q0 38), .ref (q0 39), .int (gI u5 40), .ref (q0 41), .ref (q0 42), .ref (q0 43), .ref (q0 44)])), kI G (q0 1) 6100 (gA u5 1), kI G (q0 2) 6100 (gA u5 2), kJ G (q0 3) 2016 (gB u5 3), kJ G (q0 4) 2016 (gB u5 4), kI G (q0 5) 300 (gA u5 5), kI G (q0 6) 400 (gA u5 6), kJ G (q0 28) 10 (gB u5 28), kI G (q0 31) 969 (gA u5 31), kI G (q0 32) 969 (gA u5 32), kI G (q0 33) 969 (gA u5 33), kI G (q0 38) 5 (gA u5 38), kI G (q0 39) 5120 (gA u5 39), kI G (q0 41) 5 (gA u5 41), kZ G (q0 42) 1024 (gA u5 42), kI G (q0 43) 8192 (gA u5 43), kI G (q0 44) 8192 (gA u5 44)] H := hP
      have hD : va_D A [(h0, .inr (11, [.int (gI u5 0), .ref (q0 1), .ref (q0 2), .ref (q0 3), .ref (q0 4), .ref (q0 5), .ref (q0 6), .int (gI u5 7), .int (gI u5 8), .int (gI u5 9), .int (gI u5 10), .int (gI u5 11), .int (gI u5 12), .int (gI u5 13), .int (gI u5 14), .long (gL u5 15), .int (gI u5 16), .int (gI u5 17), .int (gI u5 18), .int (gI u5 19), .int (gI u5 20), .int (gI u5 21), .int (gI u5 22), .int (gI u5 23), .int (gI u5 24), .int (gI u5 25), .int (gI u5 26), .int (gI u5 27), .ref (q0 28), .long (gL u5 29), .int (gI u5 30), .ref (q0 31), .ref (q0 32), .ref (q0 33), .int (gI u5 34), .int (gI u5 35), .int (gI u5 36), .int (gI u5 37), .ref (q0 38), .ref (q0 39), .int (gI u5 40), .ref (q0 41), .ref (q0 42), .ref (q0 43), .ref (q0 44)])), kI G (q0 1) 6100 (gA u5 1), kI G (q0 2) 6100 (gA u5 2), kJ G (q0 3) 2016 (gB u5 3), kJ G (q0 4) 2016 (gB u5 4), kI G (q0 5) 300 (gA u5 5), kI G (q0 6) 400 (gA u5 6), kJ G (q0 28) 10 (gB u5 28), kI G (q0 31) 969 (gA u5 31), kI G (q0 32) 969 (gA u5 32), kI G (q0 33) 969 (gA u5 33), kI G (q0 38) 5 (gA u5 38), kI G (q0 39) 5120 (gA u5 39), kI G (q0 41) 5 (gA u5 41), kZ G (q0 42) 1024 (gA u5 42), kI G (q0 43) 8192 (gA u5 43), kI G (q0 44) 8192 (gA u5 44)] := hD
      refine lv_iload_n hx hb d_Md_rhythm_26 rfl (lv_at hl 2 rfl) ?_
      refine lv_if_ne (tgt := 37) hx hb d_Md_rhythm_27 (by decide) (fun c6 => ?_) (fun c6 => ?_)
      · have h := h.2 c6
        refine lv_iload_n hx hb d_Md_rhythm_37 rfl (lv_at hl 2 rfl) ?_
        refine lv_iconst (v := (1 : Int32)) hx hb d_Md_rhythm_38 (by decide) ?_
        refine lv_icmp_ne (tgt := 49) hx hb d_Md_rhythm_39 (by decide) (fun c7 => ?_) (fun c7 => ?_)
        · have h := h.2 c7
          refine lv_iload_n hx hb d_Md_rhythm_49 rfl (lv_at hl 2 rfl) ?_
          refine lv_iconst (v := (2 : Int32)) hx hb d_Md_rhythm_50 (by decide) ?_
          refine lv_icmp_ne (tgt := 61) hx hb d_Md_rhythm_51 (by decide) (fun c8 => ?_) (fun c8 => ?_)
          · have h := h.2 c8
            refine lv_aload_n hx hb d_Md_rhythm_61 rfl (lv_at hl 0 rfl) ?_
            refine va_get (D := G.1) (ci := 11) (v := .int (gI u5 37)) (C := R_Md) (T := T_Md) (N := 45) hx hb hts i_Md hown hK hP 0 rfl rfl 37 (by decide) (hts _ wf_Md_253) (fun _ h9 => h9) rfl d_Md_rhythm_62 ?_
            have hP : va_P G.1 CL (cw_Md G h0 q0 u5) H := hP
            have hD : va_D A (cw_Md G h0 q0 u5) := hD
            exact W.iret (v := (gI u5 37)) hx hb hr (fun t ht hW => ⟨⟨(gI u5 37), u5, rfl, h, by rw [ht]; exact hP, va_K.moved hW.alike hK, hD⟩, hS.F ht⟩) hS.2.2 d_Md_rhythm_65
          · have h := h.1 c8
            refine lv_aload_n hx hb d_Md_rhythm_54 rfl (lv_at hl 0 rfl) ?_
            refine va_get (D := G.1) (ci := 11) (v := .int (gI u5 36)) (C := R_Md) (T := T_Md) (N := 45) hx hb hts i_Md hown hK hP 0 rfl rfl 36 (by decide) (hts _ wf_Md_250) (fun _ h9 => h9) rfl d_Md_rhythm_55 ?_
            refine lv_goto (tgt := 65) hx hb d_Md_rhythm_58 (by decide) ?_
            have hP : va_P G.1 CL (cw_Md G h0 q0 u5) H := hP
            have hD : va_D A (cw_Md G h0 q0 u5) := hD
            exact W.iret (v := (gI u5 36)) hx hb hr (fun t ht hW => ⟨⟨(gI u5 36), u5, rfl, h, by rw [ht]; exact hP, va_K.moved hW.alike hK, hD⟩, hS.F ht⟩) hS.2.2 d_Md_rhythm_65
        · have h := h.1 c7
          refine lv_aload_n hx hb d_Md_rhythm_42 rfl (lv_at hl 0 rfl) ?_
          refine va_get (D := G.1) (ci := 11) (v := .int (gI u5 35)) (C := R_Md) (T := T_Md) (N := 45) hx hb hts i_Md hown hK hP 0 rfl rfl 35 (by decide) (hts _ wf_Md_247) (fun _ h9 => h9) rfl d_Md_rhythm_43 ?_
          refine lv_goto (tgt := 65) hx hb d_Md_rhythm_46 (by decide) ?_
          have hP : va_P G.1 CL (cw_Md G h0 q0 u5) H := hP
          have hD : va_D A (cw_Md G h0 q0 u5) := hD
          exact W.iret (v := (gI u5 35)) hx hb hr (fun t ht hW => ⟨⟨(gI u5 35), u5, rfl, h, by rw [ht]; exact hP, va_K.moved hW.alike hK, hD⟩, hS.F ht⟩) hS.2.2 d_Md_rhythm_65
      · have h := h.1 c6
        refine lv_aload_n hx hb d_Md_rhythm_30 rfl (lv_at hl 0 rfl) ?_
        refine va_get (D := G.1) (ci := 11) (v := .int (gI u5 34)) (C := R_Md) (T := T_Md) (N := 45) hx hb hts i_Md hown hK hP 0 rfl rfl 34 (by decide) (hts _ wf_Md_244) (fun _ h9 => h9) rfl d_Md_rhythm_31 ?_
        refine lv_goto (tgt := 65) hx hb d_Md_rhythm_34 (by decide) ?_
        have hP : va_P G.1 CL (cw_Md G h0 q0 u5) H := hP
        have hD : va_D A (cw_Md G h0 q0 u5) := hD
        exact W.iret (v := (gI u5 34)) hx hb hr (fun t ht hW => ⟨⟨(gI u5 34), u5, rfl, h, by rw [ht]; exact hP, va_K.moved hW.alike hK, hD⟩, hS.F ht⟩) hS.2.2 d_Md_rhythm_65
    · have h := h.1 c4
      refine lv_iconst (v := (-1 : Int32)) hx hb d_Md_rhythm_19 (by decide) ?_
      have hP : va_P G.1 CL (cw_Md G h0 q0 o0) H := hP
      have hD : va_D A (cw_Md G h0 q0 o0) := hD
      exact W.iret (v := (-1 : Int32)) hx hb hr (fun t ht hW => ⟨⟨(-1 : Int32), o0, rfl, h, by rw [ht]; exact hP, va_K.moved hW.alike hK, hD⟩, hS.F ht⟩) hS.2.2 d_Md_rhythm_20
abbrev b_Md_notSafe : ByteArray := prog_14_method_45_code
def y_Md_notSafe : MethodName := ⟨R_Md, "un" ++ "safe", "(III)I"⟩
abbrev w_Md_notSafe : List Cond := Cond.code y_Md_notSafe b_Md_notSafe 5 (some .int) :: gw_tbl
theorem d_Md_notSafe_0 : decode b_Md_notSafe 0 = .ok (.iload_n 1, 1) := by decide +kernel
theorem d_Md_notSafe_1 : decode b_Md_notSafe 1 = .ok (.iconst 0, 1) := by decide +kernel
theorem d_Md_notSafe_2 : decode b_Md_notSafe 2 = .ok (.bipush 40, 2) := by decide +kernel
theorem d_Md_notSafe_4 : decode b_Md_notSafe 4 = .ok (.invokestatic 76, 3) := by decide +kernel
theorem d_Md_notSafe_7 : decode b_Md_notSafe 7 = .ok (.ifCond .eq 24, 3) := by decide +kernel
theorem d_Md_notSafe_10 : decode b_Md_notSafe 10 = .ok (.iload_n 2, 1) := by decide +kernel
theorem d_Md_notSafe_11 : decode b_Md_notSafe 11 = .ok (.iload_n 1, 1) := by decide +kernel
theorem d_Md_notSafe_12 : decode b_Md_notSafe 12 = .ok (.bipush 40, 2) := by decide +kernel
theorem d_Md_notSafe_14 : decode b_Md_notSafe 14 = .ok (.invokestatic 76, 3) := by decide +kernel
theorem d_Md_notSafe_17 : decode b_Md_notSafe 17 = .ok (.ifCond .eq 14, 3) := by decide +kernel
theorem d_Md_notSafe_20 : decode b_Md_notSafe 20 = .ok (.iload_n 3, 1) := by decide +kernel
theorem d_Md_notSafe_21 : decode b_Md_notSafe 21 = .ok (.iconst 0, 1) := by decide +kernel
theorem d_Md_notSafe_22 : decode b_Md_notSafe 22 = .ok (.sipush 1000, 3) := by decide +kernel
theorem d_Md_notSafe_25 : decode b_Md_notSafe 25 = .ok (.invokestatic 76, 3) := by decide +kernel
theorem d_Md_notSafe_28 : decode b_Md_notSafe 28 = .ok (.ifCond .ne 5, 3) := by decide +kernel
theorem d_Md_notSafe_31 : decode b_Md_notSafe 31 = .ok (.iconst (-1), 1) := by decide +kernel
theorem d_Md_notSafe_32 : decode b_Md_notSafe 32 = .ok (.ireturn, 1) := by decide +kernel
theorem d_Md_notSafe_33 : decode b_Md_notSafe 33 = .ok (.iload_n 1, 1) := by decide +kernel
theorem d_Md_notSafe_34 : decode b_Md_notSafe 34 = .ok (.istore 4, 2) := by decide +kernel
theorem d_Md_notSafe_36 : decode b_Md_notSafe 36 = .ok (.iload 4, 2) := by decide +kernel
theorem d_Md_notSafe_38 : decode b_Md_notSafe 38 = .ok (.iload_n 2, 1) := by decide +kernel
theorem d_Md_notSafe_39 : decode b_Md_notSafe 39 = .ok (.if_icmp .gt 34, 3) := by decide +kernel
theorem d_Md_notSafe_42 : decode b_Md_notSafe 42 = .ok (.aload_n 0, 1) := by decide +kernel
theorem d_Md_notSafe_43 : decode b_Md_notSafe 43 = .ok (.iload 4, 2) := by decide +kernel
theorem d_Md_notSafe_45 : decode b_Md_notSafe 45 = .ok (.invokevirtual 256, 3) := by decide +kernel
theorem d_Md_notSafe_48 : decode b_Md_notSafe 48 = .ok (.bipush 100, 2) := by decide +kernel
theorem d_Md_notSafe_50 : decode b_Md_notSafe 50 = .ok (.aload_n 0, 1) := by decide +kernel
theorem d_Md_notSafe_51 : decode b_Md_notSafe 51 = .ok (.getfield 253, 3) := by decide +kernel
theorem d_Md_notSafe_54 : decode b_Md_notSafe 54 = .ok (.imul, 1) := by decide +kernel
theorem d_Md_notSafe_55 : decode b_Md_notSafe 55 = .ok (.iload_n 3, 1) := by decide +kernel
theorem d_Md_notSafe_56 : decode b_Md_notSafe 56 = .ok (.aload_n 0, 1) := by decide +kernel
theorem d_Md_notSafe_57 : decode b_Md_notSafe 57 = .ok (.getfield 247, 3) := by decide +kernel
theorem d_Md_notSafe_60 : decode b_Md_notSafe 60 = .ok (.imul, 1) := by decide +kernel
theorem d_Md_notSafe_61 : decode b_Md_notSafe 61 = .ok (.if_icmp .le 6, 3) := by decide +kernel
theorem d_Md_notSafe_64 : decode b_Md_notSafe 64 = .ok (.iload 4, 2) := by decide +kernel
theorem d_Md_notSafe_66 : decode b_Md_notSafe 66 = .ok (.ireturn, 1) := by decide +kernel
theorem d_Md_notSafe_67 : decode b_Md_notSafe 67 = .ok (.iinc 4 1, 3) := by decide +kernel
theorem d_Md_notSafe_70 : decode b_Md_notSafe 70 = .ok (.goto (-34), 3) := by decide +kernel
theorem d_Md_notSafe_73 : decode b_Md_notSafe 73 = .ok (.iconst (-1), 1) := by decide +kernel
theorem d_Md_notSafe_74 : decode b_Md_notSafe 74 = .ok (.ireturn, 1) := by decide +kernel
def f_Md_notSafe_36 (Q : Int32 → Ob → Prop) : Nat → Int32 → Int32 → Int32 → Ob → Prop
  | 0, _, _, _, _ => False
  | n + 1, x2, x3, x4, o0 => (x2 < x4 → (Q (-1 : Int32) o0)) ∧ (¬ x2 < x4 → (f_Md_findRing x4 o0 (fun u2 => (((100 : Int32) * (gI u2 37)) ≤ (x3 * (gI u2 35)) → ((f_Md_notSafe_36 Q n) x2 x3 (x4 + (1 : Int32)) u2)) ∧ (¬ ((100 : Int32) * (gI u2 37)) ≤ (x3 * (gI u2 35)) → (Q x4 u2)))))
def f_Md_notSafe (a0 : Int32) (a1 : Int32) (a2 : Int32) (o0 : Ob) (Q : Int32 → Ob → Prop) : Prop := f_Md_isIn a0 (0 : Int32) (40 : Int32) (fun z4 => (z4 = 0 → (Q (-1 : Int32) o0)) ∧ (¬ z4 = 0 → (f_Md_isIn a1 a0 (40 : Int32) (fun z6 => (z6 = 0 → (Q (-1 : Int32) o0)) ∧ (¬ z6 = 0 → (f_Md_isIn a2 (0 : Int32) (1000 : Int32) (fun z8 => (z8 = 0 → (Q (-1 : Int32) o0)) ∧ (¬ z8 = 0 → ((∃ w, f_Md_notSafe_36 Q w a1 a2 a0 o0))))))))))
abbrev rm_Md_notSafe : Room := { frames := 2, cells := 0, slots := 0, locals := 46 }
set_option maxHeartbeats 4000000 in
set_option maxRecDepth 100000 in
theorem t_Md_notSafe_36 {p : Program} {l : Launch} {e : Env} {s : State} {m : MethodId} {args : Array Value} {below : List Frame} {meth : Method} {c : Code} {A : Nat → Prop} {G : Gl} {h0 : Nat} {q0 : Nat → Nat} (Q : Int32 → Ob → Prop) (C : Cx p s m args meth c R_Md b_Md_notSafe 5 (some .int) G A) :
    ∀ (n : Nat) (x2 : Int32) (x3 : Int32) (x4 : Int32) (o0 : Ob) (ls : Array Slot) (H : Heap) (locs : List Loc), lv_has ls 5 [(0, .ref h0), (2, .int x2), (3, .int x3), (4, .int x4)] → va_P G.1 CL (cw_Md G h0 q0 o0) H → va_D A (cw_Md G h0 q0 o0) → va_S A s.heap H locs → f_Md_notSafe_36 Q n x2 x3 x4 o0 → W p l e rm_Md_notSafe s m args below meth c H locs 0 0 (MQ below (va_Qi (fun (r : Int32) (u : Ob) => Q r u) (fun (u : Ob) t => BW G A (cw_Md G h0 q0 u) t) A) args s 0 0 A) (F0 m 36 ls []) := by
  obtain ⟨hx, hb, hml, hown, hr, hts, hK, hA, hlocks, hE⟩ := id C
  intro n
  induction n with
  | zero => intro x2 x3 x4 o0 ls H locs hl hP hD hS h; exact absurd h id
  | succ n ih =>
    intro x2 x3 x4 o0 ls H locs hl hP hD hS h
    have hP : va_P G.1 CL [(h0, .inr (11, [.int (gI o0 0), .ref (q0 1), .ref (q0 2), .ref (q0 3), .ref (q0 4), .ref (q0 5), .ref (q0 6), .int (gI o0 7), .int (gI o0 8), .int (gI o0 9), .int (gI o0 10), .int (gI o0 11), .int (gI o0 12), .int (gI o0 13), .int (gI o0 14), .long (gL o0 15), .int (gI o0 16), .int (gI o0 17), .int (gI o0 18), .int (gI o0 19), .int (gI o0 20), .int (gI o0 21), .int (gI o0 22), .int (gI o0 23), .int (gI o0 24), .int (gI o0 25), .int (gI o0 26), .int (gI o0 27), .ref (q0 28), .long (gL o0 29), .int (gI o0 30), .ref (q0 31), .ref (q0 32), .ref (q0 33), .int (gI o0 34), .int (gI o0 35), .int (gI o0 36), .int (gI o0 37), .ref (q0 38), .ref (q0 39), .int (gI o0 40), .ref (q0 41), .ref (q0 42), .ref (q0 43), .ref (q0 44)])), kI G (q0 1) 6100 (gA o0 1), kI G (q0 2) 6100 (gA o0 2), kJ G (q0 3) 2016 (gB o0 3), kJ G (q0 4) 2016 (gB o0 4), kI G (q0 5) 300 (gA o0 5), kI G (q0 6) 400 (gA o0 6), kJ G (q0 28) 10 (gB o0 28), kI G (q0 31) 969 (gA o0 31), kI G (q0 32) 969 (gA o0 32), kI G (q0 33) 969 (gA o0 33), kI G (q0 38) 5 (gA o0 38), kI G (q0 39) 5120 (gA o0 39), kI G (q0 41) 5 (gA o0 41), kZ G (q0 42) 1024 (gA o0 42), kI G (q0 43) 8192 (gA o0 43), kI G (q0 44) 8192 (gA o0 44)] H := hP
    have hD : va_D A [(h0, .inr (11, [.int (gI o0 0), .ref (q0 1), .ref (q0 2), .ref (q0 3), .ref (q0 4), .ref (q0 5), .ref (q0 6), .int (gI o0 7), .int (gI o0 8), .int (gI o0 9), .int (gI o0 10), .int (gI o0 11), .int (gI o0 12), .int (gI o0 13), .int (gI o0 14), .long (gL o0 15), .int (gI o0 16), .int (gI o0 17), .int (gI o0 18), .int (gI o0 19), .int (gI o0 20), .int (gI o0 21), .int (gI o0 22), .int (gI o0 23), .int (gI o0 24), .int (gI o0 25), .int (gI o0 26), .int (gI o0 27), .ref (q0 28), .long (gL o0 29), .int (gI o0 30), .ref (q0 31), .ref (q0 32), .ref (q0 33), .int (gI o0 34), .int (gI o0 35), .int (gI o0 36), .int (gI o0 37), .ref (q0 38), .ref (q0 39), .int (gI o0 40), .ref (q0 41), .ref (q0 42), .ref (q0 43), .ref (q0 44)])), kI G (q0 1) 6100 (gA o0 1), kI G (q0 2) 6100 (gA o0 2), kJ G (q0 3) 2016 (gB o0 3), kJ G (q0 4) 2016 (gB o0 4), kI G (q0 5) 300 (gA o0 5), kI G (q0 6) 400 (gA o0 6), kJ G (q0 28) 10 (gB o0 28), kI G (q0 31) 969 (gA o0 31), kI G (q0 32) 969 (gA o0 32), kI G (q0 33) 969 (gA o0 33), kI G (q0 38) 5 (gA o0 38), kI G (q0 39) 5120 (gA o0 39), kI G (q0 41) 5 (gA o0 41), kZ G (q0 42) 1024 (gA o0 42), kI G (q0 43) 8192 (gA o0 43), kI G (q0 44) 8192 (gA o0 44)] := hD
    unfold f_Md_notSafe_36 at h
    refine lv_iload hx hb d_Md_notSafe_36 (lv_at hl 3 rfl) ?_
    refine lv_iload_n hx hb d_Md_notSafe_38 rfl (lv_at hl 1 rfl) ?_
    refine lv_icmp_gt (tgt := 73) hx hb d_Md_notSafe_39 (by decide) (fun c1 => ?_) (fun c1 => ?_)
    · have h := h.1 c1
      refine lv_iconst (v := (-1 : Int32)) hx hb d_Md_notSafe_73 (by decide) ?_
      have hP : va_P G.1 CL (cw_Md G h0 q0 o0) H := hP
      have hD : va_D A (cw_Md G h0 q0 o0) := hD
      exact W.iret (v := (-1 : Int32)) hx hb hr (fun t ht hW => ⟨⟨(-1 : Int32), o0, rfl, h, by rw [ht]; exact hP, va_K.moved hW.alike hK, hD⟩, hS.F ht⟩) hS.2.2 d_Md_notSafe_74
    · have h := h.2 c1
      refine lv_aload_n hx hb d_Md_notSafe_42 rfl (lv_at hl 0 rfl) ?_
      refine lv_iload hx hb d_Md_notSafe_43 (lv_at hl 3 rfl) ?_
      refine cl_Vv (b := b_Md_notSafe) (As := [.int x4]) (rest := []) (ws := [(h0, .inr (11, [.int (gI o0 0), .ref (q0 1), .ref (q0 2), .ref (q0 3), .ref (q0 4), .ref (q0 5), .ref (q0 6), .int (gI o0 7), .int (gI o0 8), .int (gI o0 9), .int (gI o0 10), .int (gI o0 11), .int (gI o0 12), .int (gI o0 13), .int (gI o0 14), .long (gL o0 15), .int (gI o0 16), .int (gI o0 17), .int (gI o0 18), .int (gI o0 19), .int (gI o0 20), .int (gI o0 21), .int (gI o0 22), .int (gI o0 23), .int (gI o0 24), .int (gI o0 25), .int (gI o0 26), .int (gI o0 27), .ref (q0 28), .long (gL o0 29), .int (gI o0 30), .ref (q0 31), .ref (q0 32), .ref (q0 33), .int (gI o0 34), .int (gI o0 35), .int (gI o0 36), .int (gI o0 37), .ref (q0 38), .ref (q0 39), .int (gI o0 40), .ref (q0 41), .ref (q0 42), .ref (q0 43), .ref (q0 44)])), kI G (q0 1) 6100 (gA o0 1), kI G (q0 2) 6100 (gA o0 2), kJ G (q0 3) 2016 (gB o0 3), kJ G (q0 4) 2016 (gB o0 4), kI G (q0 5) 300 (gA o0 5), kI G (q0 6) 400 (gA o0 6), kJ G (q0 28) 10 (gB o0 28), kI G (q0 31) 969 (gA o0 31), kI G (q0 32) 969 (gA o0 32), kI G (q0 33) 969 (gA o0 33), kI G (q0 38) 5 (gA o0 38), kI G (q0 39) 5120 (gA o0 39), kI G (q0 41) 5 (gA o0 41), kZ G (q0 42) 1024 (gA o0 42), kI G (q0 43) 8192 (gA o0 43), kI G (q0 44) 8192 (gA o0 44)]) (wr := []) (w2 := fun (u : Ob) => [(h0, .inr (11, [.int (gI u 0), .ref (q0 1), .ref (q0 2), .ref (q0 3), .ref (q0 4), .ref (q0 5), .ref (q0 6), .int (gI u 7), .int (gI u 8), .int (gI u 9), .int (gI u 10), .int (gI u 11), .int (gI u 12), .int (gI u 13), .int (gI u 14), .long (gL u 15), .int (gI u 16), .int (gI u 17), .int (gI u 18), .int (gI u 19), .int (gI u 20), .int (gI u 21), .int (gI u 22), .int (gI u 23), .int (gI u 24), .int (gI u 25), .int (gI u 26), .int (gI u 27), .ref (q0 28), .long (gL u 29), .int (gI u 30), .ref (q0 31), .ref (q0 32), .ref (q0 33), .int (gI u 34), .int (gI u 35), .int (gI u 36), .int (gI u 37), .ref (q0 38), .ref (q0 39), .int (gI u 40), .ref (q0 41), .ref (q0 42), .ref (q0 43), .ref (q0 44)])), kI G (q0 1) 6100 (gA u 1), kI G (q0 2) 6100 (gA u 2), kJ G (q0 3) 2016 (gB u 3), kJ G (q0 4) 2016 (gB u 4), kI G (q0 5) 300 (gA u 5), kI G (q0 6) 400 (gA u 6), kJ G (q0 28) 10 (gB u 28), kI G (q0 31) 969 (gA u 31), kI G (q0 32) 969 (gA u 32), kI G (q0 33) 969 (gA u 33), kI G (q0 38) 5 (gA u 38), kI G (q0 39) 5120 (gA u 39), kI G (q0 41) 5 (gA u 41), kZ G (q0 42) 1024 (gA u 42), kI G (q0 43) 8192 (gA u 43), kI G (q0 44) 8192 (gA u 44)]) C (c_Md_findRing (h0 := h0) (q0 := q0) H.size h) wv_Md_256 ⟨Nat.le_of_ble_eq_true rfl, Nat.le_of_ble_eq_true rfl⟩ hP hD hS 0 rfl rfl [0, 1, 2, 3, 4, 5, 6, 7, 8, 9, 10, 11, 12, 13, 14, 15, 16] [] rfl rfl (by decide) (by decide) (by decide) [0, 1, 2, 3, 4, 5, 6, 7, 8, 9, 10, 11, 12, 13, 14, 15, 16] (by decide) (fun u => rfl) rfl hl.1 rfl (lv_room (Nat.le_of_ble_eq_true rfl)) d_Md_notSafe_45 ⟨Nat.le_of_ble_eq_true rfl, Nat.le_of_ble_eq_true rfl⟩ rfl rfl (fun u H locs h hP hD hS => ?_)
      generalize u = u2 at h hP hD
      have hP : va_P G.1 CL [(h0, .inr (11, [.int (gI u2 0), .ref (q0 1), .ref (q0 2), .ref (q0 3), .ref (q0 4), .ref (q0 5), .ref (q0 6), .int (gI u2 7), .int (gI u2 8), .int (gI u2 9), .int (gI u2 10), .int (gI u2 11), .int (gI u2 12), .int (gI u2 13), .int (gI u2 14), .long (gL u2 15), .int (gI u2 16), .int (gI u2 17), .int (gI u2 18), .int (gI u2 19), .int (gI u2 20), .int (gI u2 21), .int (gI u2 22), .int (gI u2 23), .int (gI u2 24), .int (gI u2 25), .int (gI u2 26), .int (gI u2 27), .ref (q0 28), .long (gL u2 29), .int (gI u2 30), .ref (q0 31), .ref (q0 32), .ref (q0 33), .int (gI u2 34), .int (gI u2 35), .int (gI u2 36), .int (gI u2 37), .ref (q0 38), .ref (q0 39), .int (gI u2 40), .ref (q0 41), .ref (q0 42), .ref (q0 43), .ref (q0 44)])), kI G (q0 1) 6100 (gA u2 1), kI G (q0 2) 6100 (gA u2 2), kJ G (q0 3) 2016 (gB u2 3), kJ G (q0 4) 2016 (gB u2 4), kI G (q0 5) 300 (gA u2 5), kI G (q0 6) 400 (gA u2 6), kJ G (q0 28) 10 (gB u2 28), kI G (q0 31) 969 (gA u2 31), kI G (q0 32) 969 (gA u2 32), kI G (q0 33) 969 (gA u2 33), kI G (q0 38) 5 (gA u2 38), kI G (q0 39) 5120 (gA u2 39), kI G (q0 41) 5 (gA u2 41), kZ G (q0 42) 1024 (gA u2 42), kI G (q0 43) 8192 (gA u2 43), kI G (q0 44) 8192 (gA u2 44)] H := hP
      have hD : va_D A [(h0, .inr (11, [.int (gI u2 0), .ref (q0 1), .ref (q0 2), .ref (q0 3), .ref (q0 4), .ref (q0 5), .ref (q0 6), .int (gI u2 7), .int (gI u2 8), .int (gI u2 9), .int (gI u2 10), .int (gI u2 11), .int (gI u2 12), .int (gI u2 13), .int (gI u2 14), .long (gL u2 15), .int (gI u2 16), .int (gI u2 17), .int (gI u2 18), .int (gI u2 19), .int (gI u2 20), .int (gI u2 21), .int (gI u2 22), .int (gI u2 23), .int (gI u2 24), .int (gI u2 25), .int (gI u2 26), .int (gI u2 27), .ref (q0 28), .long (gL u2 29), .int (gI u2 30), .ref (q0 31), .ref (q0 32), .ref (q0 33), .int (gI u2 34), .int (gI u2 35), .int (gI u2 36), .int (gI u2 37), .ref (q0 38), .ref (q0 39), .int (gI u2 40), .ref (q0 41), .ref (q0 42), .ref (q0 43), .ref (q0 44)])), kI G (q0 1) 6100 (gA u2 1), kI G (q0 2) 6100 (gA u2 2), kJ G (q0 3) 2016 (gB u2 3), kJ G (q0 4) 2016 (gB u2 4), kI G (q0 5) 300 (gA u2 5), kI G (q0 6) 400 (gA u2 6), kJ G (q0 28) 10 (gB u2 28), kI G (q0 31) 969 (gA u2 31), kI G (q0 32) 969 (gA u2 32), kI G (q0 33) 969 (gA u2 33), kI G (q0 38) 5 (gA u2 38), kI G (q0 39) 5120 (gA u2 39), kI G (q0 41) 5 (gA u2 41), kZ G (q0 42) 1024 (gA u2 42), kI G (q0 43) 8192 (gA u2 43), kI G (q0 44) 8192 (gA u2 44)] := hD
      refine lv_bipush (v := (100 : Int32)) hx hb d_Md_notSafe_48 (by decide) ?_
      refine lv_aload_n hx hb d_Md_notSafe_50 rfl (lv_at hl 0 rfl) ?_
      refine va_get (D := G.1) (ci := 11) (v := .int (gI u2 37)) (C := R_Md) (T := T_Md) (N := 45) hx hb hts i_Md hown hK hP 0 rfl rfl 37 (by decide) (hts _ wf_Md_253) (fun _ h9 => h9) rfl d_Md_notSafe_51 ?_
      refine lv_imul hx hb d_Md_notSafe_54 ?_
      refine lv_iload_n hx hb d_Md_notSafe_55 rfl (lv_at hl 2 rfl) ?_
      refine lv_aload_n hx hb d_Md_notSafe_56 rfl (lv_at hl 0 rfl) ?_
      refine va_get (D := G.1) (ci := 11) (v := .int (gI u2 35)) (C := R_Md) (T := T_Md) (N := 45) hx hb hts i_Md hown hK hP 0 rfl rfl 35 (by decide) (hts _ wf_Md_247) (fun _ h9 => h9) rfl d_Md_notSafe_57 ?_
      refine lv_imul hx hb d_Md_notSafe_60 ?_
      refine lv_icmp_le (tgt := 67) hx hb d_Md_notSafe_61 (by decide) (fun c3 => ?_) (fun c3 => ?_)
      · have h := h.1 c3
        refine lv_iinc (v := (x4 + (1 : Int32))) (lv' := [(4, .int (x4 + (1 : Int32))), (0, .ref h0), (2, .int x2), (3, .int x3)]) hx hb d_Md_notSafe_67 hl (k := 3) rfl rfl (by decide) rfl (fun ls hl => ?_)
        refine lv_goto (tgt := 36) hx hb d_Md_notSafe_70 (by decide) ?_
        have hl := lv_sub (l' := [(0, .ref h0), (2, .int x2), (3, .int x3), (4, .int (x4 + (1 : Int32)))]) hl [1, 2, 3, 0] rfl
        have hP : va_P G.1 CL (cw_Md G h0 q0 u2) H := hP
        have hD : va_D A (cw_Md G h0 q0 u2) := hD
        exact ih x2 x3 (x4 + (1 : Int32)) u2 ls H locs hl hP hD hS h
      · have h := h.2 c3
        refine lv_iload hx hb d_Md_notSafe_64 (lv_at hl 3 rfl) ?_
        have hP : va_P G.1 CL (cw_Md G h0 q0 u2) H := hP
        have hD : va_D A (cw_Md G h0 q0 u2) := hD
        exact W.iret (v := x4) hx hb hr (fun t ht hW => ⟨⟨x4, u2, rfl, h, by rw [ht]; exact hP, va_K.moved hW.alike hK, hD⟩, hS.F ht⟩) hS.2.2 d_Md_notSafe_66
set_option maxHeartbeats 4000000 in
set_option maxRecDepth 100000 in
theorem c_Md_notSafe {l : Launch} {G : Gl} {h0 : Nat} {q0 : Nat → Nat} {a0 : Int32} {a1 : Int32} {a2 : Int32} {o0 : Ob} {Q : Int32 → Ob → Prop} (sz : Nat) (h : f_Md_notSafe a0 a1 a2 o0 Q) : Met l y_Md_notSafe w_Md_notSafe rm_Md_notSafe (PcW G [.ref h0, .int a0, .int a1, .int a2] sz (cw_Md G h0 q0 o0)) (va_Qi (fun (r : Int32) (u : Ob) => Q r u) (fun (u : Ob) t => BW G (va_A (cw_Md G h0 q0 o0) sz) (cw_Md G h0 q0 u) t) (va_A (cw_Md G h0 q0 o0) sz)) 0 0 (va_A (cw_Md G h0 q0 o0) sz) := by
  refine Met.ofW (cc := b_Md_notSafe) (maxL := 5) (ret := (some .int)) (by decide +kernel) rfl ?_
  intro p e s m args below meth c s₁ B hml hv
  obtain ⟨rfl, hsz, hP, hK, hD0, hE⟩ := hv
  have hx := B.exec
  have hb := B.bytes
  have hr := B.returns
  have hts0 := atoms_spec (ws := w_Md_notSafe) B.pre
  have hts : ∀ w ∈ gw_tbl, w.before ([.ref h0, .int a0, .int a1, .int a2]).toArray s = true := fun w hw => hts0 w (List.mem_cons_of_mem _ hw)
  have hown : s.vm.findClass R_Md = some m.cls := findClass_of_methodNamed B.named
  have hlocks := B.notSynchronized
  subst hsz
  have hD := hD0.self (sz := s.heap.size)
  generalize hAe : va_A (cw_Md G h0 q0 o0) s.heap.size = A at hD hE ⊢
  have hA : ∀ q : Nat, s.heap.size ≤ q → A q := fun q h => by rw [← hAe]; exact Or.inr h
  have hS : va_S A s.heap s.heap [] := va_S.rf
  have C : Cx p s m ([.ref h0, .int a0, .int a1, .int a2]).toArray meth c R_Md b_Md_notSafe 5 (some .int) G A := ⟨hx, hb, hml, hown, hr, hts, hK, hA, hlocks, hE⟩
  have hl := lv_entry ([.ref h0, .int a0, .int a1, .int a2]) (n := 5) (Nat.le_of_ble_eq_true rfl)
  rw [lg_entry_eq]
  generalize (lg_sl ([.ref h0, .int a0, .int a1, .int a2]) ++ List.replicate (5 - (lg_sl ([.ref h0, .int a0, .int a1, .int a2])).length) Slot.unset).toArray = ls at hl ⊢
  have hl : lv_has ls 5 [(0, .ref h0), (1, .int a0), (2, .int a1), (3, .int a2)] := hl
  have hD : va_D A [(h0, .inr (11, [.int (gI o0 0), .ref (q0 1), .ref (q0 2), .ref (q0 3), .ref (q0 4), .ref (q0 5), .ref (q0 6), .int (gI o0 7), .int (gI o0 8), .int (gI o0 9), .int (gI o0 10), .int (gI o0 11), .int (gI o0 12), .int (gI o0 13), .int (gI o0 14), .long (gL o0 15), .int (gI o0 16), .int (gI o0 17), .int (gI o0 18), .int (gI o0 19), .int (gI o0 20), .int (gI o0 21), .int (gI o0 22), .int (gI o0 23), .int (gI o0 24), .int (gI o0 25), .int (gI o0 26), .int (gI o0 27), .ref (q0 28), .long (gL o0 29), .int (gI o0 30), .ref (q0 31), .ref (q0 32), .ref (q0 33), .int (gI o0 34), .int (gI o0 35), .int (gI o0 36), .int (gI o0 37), .ref (q0 38), .ref (q0 39), .int (gI o0 40), .ref (q0 41), .ref (q0 42), .ref (q0 43), .ref (q0 44)])), kI G (q0 1) 6100 (gA o0 1), kI G (q0 2) 6100 (gA o0 2), kJ G (q0 3) 2016 (gB o0 3), kJ G (q0 4) 2016 (gB o0 4), kI G (q0 5) 300 (gA o0 5), kI G (q0 6) 400 (gA o0 6), kJ G (q0 28) 10 (gB o0 28), kI G (q0 31) 969 (gA o0 31), kI G (q0 32) 969 (gA o0 32), kI G (q0 33) 969 (gA o0 33), kI G (q0 38) 5 (gA o0 38), kI G (q0 39) 5120 (gA o0 39), kI G (q0 41) 5 (gA o0 41), kZ G (q0 42) 1024 (gA o0 42), kI G (q0 43) 8192 (gA o0 43), kI G (q0 44) 8192 (gA o0 44)] := hD
  unfold f_Md_notSafe at h
  suffices key : ∀ (H : Heap) (locs : List Loc), va_P G.1 CL [(h0, .inr (11, [.int (gI o0 0), .ref (q0 1), .ref (q0 2), .ref (q0 3), .ref (q0 4), .ref (q0 5), .ref (q0 6), .int (gI o0 7), .int (gI o0 8), .int (gI o0 9), .int (gI o0 10), .int (gI o0 11), .int (gI o0 12), .int (gI o0 13), .int (gI o0 14), .long (gL o0 15), .int (gI o0 16), .int (gI o0 17), .int (gI o0 18), .int (gI o0 19), .int (gI o0 20), .int (gI o0 21), .int (gI o0 22), .int (gI o0 23), .int (gI o0 24), .int (gI o0 25), .int (gI o0 26), .int (gI o0 27), .ref (q0 28), .long (gL o0 29), .int (gI o0 30), .ref (q0 31), .ref (q0 32), .ref (q0 33), .int (gI o0 34), .int (gI o0 35), .int (gI o0 36), .int (gI o0 37), .ref (q0 38), .ref (q0 39), .int (gI o0 40), .ref (q0 41), .ref (q0 42), .ref (q0 43), .ref (q0 44)])), kI G (q0 1) 6100 (gA o0 1), kI G (q0 2) 6100 (gA o0 2), kJ G (q0 3) 2016 (gB o0 3), kJ G (q0 4) 2016 (gB o0 4), kI G (q0 5) 300 (gA o0 5), kI G (q0 6) 400 (gA o0 6), kJ G (q0 28) 10 (gB o0 28), kI G (q0 31) 969 (gA o0 31), kI G (q0 32) 969 (gA o0 32), kI G (q0 33) 969 (gA o0 33), kI G (q0 38) 5 (gA o0 38), kI G (q0 39) 5120 (gA o0 39), kI G (q0 41) 5 (gA o0 41), kZ G (q0 42) 1024 (gA o0 42), kI G (q0 43) 8192 (gA o0 43), kI G (q0 44) 8192 (gA o0 44)] H → va_S A s.heap H locs → W p l e rm_Md_notSafe s m ([.ref h0, .int a0, .int a1, .int a2]).toArray below meth c H locs 0 0 (MQ below (va_Qi (fun (r : Int32) (u : Ob) => Q r u) (fun (u : Ob) t => BW G A (cw_Md G h0 q0 u) t) A) ([.ref h0, .int a0, .int a1, .int a2]).toArray s 0 0 A) (F0 m 0 ls []) from key s.heap [] hP hS
  intro H locs hP hS
  refine lv_iload_n hx hb d_Md_notSafe_0 rfl (lv_at hl 1 rfl) ?_
  refine lv_iconst (v := (0 : Int32)) hx hb d_Md_notSafe_1 (by decide) ?_
  refine lv_bipush (v := (40 : Int32)) hx hb d_Md_notSafe_2 (by decide) ?_
  refine cl_Si (b := b_Md_notSafe) (As := [.int a0, .int (0 : Int32), .int (40 : Int32)]) (rest := []) (ws := [(h0, .inr (11, [.int (gI o0 0), .ref (q0 1), .ref (q0 2), .ref (q0 3), .ref (q0 4), .ref (q0 5), .ref (q0 6), .int (gI o0 7), .int (gI o0 8), .int (gI o0 9), .int (gI o0 10), .int (gI o0 11), .int (gI o0 12), .int (gI o0 13), .int (gI o0 14), .long (gL o0 15), .int (gI o0 16), .int (gI o0 17), .int (gI o0 18), .int (gI o0 19), .int (gI o0 20), .int (gI o0 21), .int (gI o0 22), .int (gI o0 23), .int (gI o0 24), .int (gI o0 25), .int (gI o0 26), .int (gI o0 27), .ref (q0 28), .long (gL o0 29), .int (gI o0 30), .ref (q0 31), .ref (q0 32), .ref (q0 33), .int (gI o0 34), .int (gI o0 35), .int (gI o0 36), .int (gI o0 37), .ref (q0 38), .ref (q0 39), .int (gI o0 40), .ref (q0 41), .ref (q0 42), .ref (q0 43), .ref (q0 44)])), kI G (q0 1) 6100 (gA o0 1), kI G (q0 2) 6100 (gA o0 2), kJ G (q0 3) 2016 (gB o0 3), kJ G (q0 4) 2016 (gB o0 4), kI G (q0 5) 300 (gA o0 5), kI G (q0 6) 400 (gA o0 6), kJ G (q0 28) 10 (gB o0 28), kI G (q0 31) 969 (gA o0 31), kI G (q0 32) 969 (gA o0 32), kI G (q0 33) 969 (gA o0 33), kI G (q0 38) 5 (gA o0 38), kI G (q0 39) 5120 (gA o0 39), kI G (q0 41) 5 (gA o0 41), kZ G (q0 42) 1024 (gA o0 42), kI G (q0 43) 8192 (gA o0 43), kI G (q0 44) 8192 (gA o0 44)]) (wr := [(h0, .inr (11, [.int (gI o0 0), .ref (q0 1), .ref (q0 2), .ref (q0 3), .ref (q0 4), .ref (q0 5), .ref (q0 6), .int (gI o0 7), .int (gI o0 8), .int (gI o0 9), .int (gI o0 10), .int (gI o0 11), .int (gI o0 12), .int (gI o0 13), .int (gI o0 14), .long (gL o0 15), .int (gI o0 16), .int (gI o0 17), .int (gI o0 18), .int (gI o0 19), .int (gI o0 20), .int (gI o0 21), .int (gI o0 22), .int (gI o0 23), .int (gI o0 24), .int (gI o0 25), .int (gI o0 26), .int (gI o0 27), .ref (q0 28), .long (gL o0 29), .int (gI o0 30), .ref (q0 31), .ref (q0 32), .ref (q0 33), .int (gI o0 34), .int (gI o0 35), .int (gI o0 36), .int (gI o0 37), .ref (q0 38), .ref (q0 39), .int (gI o0 40), .ref (q0 41), .ref (q0 42), .ref (q0 43), .ref (q0 44)])), kI G (q0 1) 6100 (gA o0 1), kI G (q0 2) 6100 (gA o0 2), kJ G (q0 3) 2016 (gB o0 3), kJ G (q0 4) 2016 (gB o0 4), kI G (q0 5) 300 (gA o0 5), kI G (q0 6) 400 (gA o0 6), kJ G (q0 28) 10 (gB o0 28), kI G (q0 31) 969 (gA o0 31), kI G (q0 32) 969 (gA o0 32), kI G (q0 33) 969 (gA o0 33), kI G (q0 38) 5 (gA o0 38), kI G (q0 39) 5120 (gA o0 39), kI G (q0 41) 5 (gA o0 41), kZ G (q0 42) 1024 (gA o0 42), kI G (q0 43) 8192 (gA o0 43), kI G (q0 44) 8192 (gA o0 44)]) (w2 := fun (u : Unit) => [(h0, .inr (11, [.int (gI o0 0), .ref (q0 1), .ref (q0 2), .ref (q0 3), .ref (q0 4), .ref (q0 5), .ref (q0 6), .int (gI o0 7), .int (gI o0 8), .int (gI o0 9), .int (gI o0 10), .int (gI o0 11), .int (gI o0 12), .int (gI o0 13), .int (gI o0 14), .long (gL o0 15), .int (gI o0 16), .int (gI o0 17), .int (gI o0 18), .int (gI o0 19), .int (gI o0 20), .int (gI o0 21), .int (gI o0 22), .int (gI o0 23), .int (gI o0 24), .int (gI o0 25), .int (gI o0 26), .int (gI o0 27), .ref (q0 28), .long (gL o0 29), .int (gI o0 30), .ref (q0 31), .ref (q0 32), .ref (q0 33), .int (gI o0 34), .int (gI o0 35), .int (gI o0 36), .int (gI o0 37), .ref (q0 38), .ref (q0 39), .int (gI o0 40), .ref (q0 41), .ref (q0 42), .ref (q0 43), .ref (q0 44)])), kI G (q0 1) 6100 (gA o0 1), kI G (q0 2) 6100 (gA o0 2), kJ G (q0 3) 2016 (gB o0 3), kJ G (q0 4) 2016 (gB o0 4), kI G (q0 5) 300 (gA o0 5), kI G (q0 6) 400 (gA o0 6), kJ G (q0 28) 10 (gB o0 28), kI G (q0 31) 969 (gA o0 31), kI G (q0 32) 969 (gA o0 32), kI G (q0 33) 969 (gA o0 33), kI G (q0 38) 5 (gA o0 38), kI G (q0 39) 5120 (gA o0 39), kI G (q0 41) 5 (gA o0 41), kZ G (q0 42) 1024 (gA o0 42), kI G (q0 43) 8192 (gA o0 43), kI G (q0 44) 8192 (gA o0 44)]) C (c_Md_isIn H.size h) ws_Md_76 ⟨Nat.le_of_ble_eq_true rfl, Nat.le_of_ble_eq_true rfl⟩ hP hD hS [] [0, 1, 2, 3, 4, 5, 6, 7, 8, 9, 10, 11, 12, 13, 14, 15, 16] rfl rfl (by decide) (by decide) (by decide) [0, 1, 2, 3, 4, 5, 6, 7, 8, 9, 10, 11, 12, 13, 14, 15, 16] (by decide) (fun u => rfl) rfl hl.1 rfl (lv_room (Nat.le_of_ble_eq_true rfl)) d_Md_notSafe_4 ⟨Nat.le_of_ble_eq_true rfl, Nat.le_of_ble_eq_true rfl⟩ rfl rfl (fun z4 u H locs h hP hD hS => ?_)
  have hP : va_P G.1 CL [(h0, .inr (11, [.int (gI o0 0), .ref (q0 1), .ref (q0 2), .ref (q0 3), .ref (q0 4), .ref (q0 5), .ref (q0 6), .int (gI o0 7), .int (gI o0 8), .int (gI o0 9), .int (gI o0 10), .int (gI o0 11), .int (gI o0 12), .int (gI o0 13), .int (gI o0 14), .long (gL o0 15), .int (gI o0 16), .int (gI o0 17), .int (gI o0 18), .int (gI o0 19), .int (gI o0 20), .int (gI o0 21), .int (gI o0 22), .int (gI o0 23), .int (gI o0 24), .int (gI o0 25), .int (gI o0 26), .int (gI o0 27), .ref (q0 28), .long (gL o0 29), .int (gI o0 30), .ref (q0 31), .ref (q0 32), .ref (q0 33), .int (gI o0 34), .int (gI o0 35), .int (gI o0 36), .int (gI o0 37), .ref (q0 38), .ref (q0 39), .int (gI o0 40), .ref (q0 41), .ref (q0 42), .ref (q0 43), .ref (q0 44)])), kI G (q0 1) 6100 (gA o0 1), kI G (q0 2) 6100 (gA o0 2), kJ G (q0 3) 2016 (gB o0 3), kJ G (q0 4) 2016 (gB o0 4), kI G (q0 5) 300 (gA o0 5), kI G (q0 6) 400 (gA o0 6), kJ G (q0 28) 10 (gB o0 28), kI G (q0 31) 969 (gA o0 31), kI G (q0 32) 969 (gA o0 32), kI G (q0 33) 969 (gA o0 33), kI G (q0 38) 5 (gA o0 38), kI G (q0 39) 5120 (gA o0 39), kI G (q0 41) 5 (gA o0 41), kZ G (q0 42) 1024 (gA o0 42), kI G (q0 43) 8192 (gA o0 43), kI G (q0 44) 8192 (gA o0 44)] H := hP
  have hD : va_D A [(h0, .inr (11, [.int (gI o0 0), .ref (q0 1), .ref (q0 2), .ref (q0 3), .ref (q0 4), .ref (q0 5), .ref (q0 6), .int (gI o0 7), .int (gI o0 8), .int (gI o0 9), .int (gI o0 10), .int (gI o0 11), .int (gI o0 12), .int (gI o0 13), .int (gI o0 14), .long (gL o0 15), .int (gI o0 16), .int (gI o0 17), .int (gI o0 18), .int (gI o0 19), .int (gI o0 20), .int (gI o0 21), .int (gI o0 22), .int (gI o0 23), .int (gI o0 24), .int (gI o0 25), .int (gI o0 26), .int (gI o0 27), .ref (q0 28), .long (gL o0 29), .int (gI o0 30), .ref (q0 31), .ref (q0 32), .ref (q0 33), .int (gI o0 34), .int (gI o0 35), .int (gI o0 36), .int (gI o0 37), .ref (q0 38), .ref (q0 39), .int (gI o0 40), .ref (q0 41), .ref (q0 42), .ref (q0 43), .ref (q0 44)])), kI G (q0 1) 6100 (gA o0 1), kI G (q0 2) 6100 (gA o0 2), kJ G (q0 3) 2016 (gB o0 3), kJ G (q0 4) 2016 (gB o0 4), kI G (q0 5) 300 (gA o0 5), kI G (q0 6) 400 (gA o0 6), kJ G (q0 28) 10 (gB o0 28), kI G (q0 31) 969 (gA o0 31), kI G (q0 32) 969 (gA o0 32), kI G (q0 33) 969 (gA o0 33), kI G (q0 38) 5 (gA o0 38), kI G (q0 39) 5120 (gA o0 39), kI G (q0 41) 5 (gA o0 41), kZ G (q0 42) 1024 (gA o0 42), kI G (q0 43) 8192 (gA o0 43), kI G (q0 44) 8192 (gA o0 44)] := hD
  refine lv_if_eq (tgt := 31) hx hb d_Md_notSafe_7 (by decide) (fun c5 => ?_) (fun c5 => ?_)
  · have h := h.1 c5
    refine lv_iconst (v := (-1 : Int32)) hx hb d_Md_notSafe_31 (by decide) ?_
    have hP : va_P G.1 CL (cw_Md G h0 q0 o0) H := hP
    have hD : va_D A (cw_Md G h0 q0 o0) := hD
    exact W.iret (v := (-1 : Int32)) hx hb hr (fun t ht hW => ⟨⟨(-1 : Int32), o0, rfl, h, by rw [ht]; exact hP, va_K.moved hW.alike hK, hD⟩, hS.F ht⟩) hS.2.2 d_Md_notSafe_32
  · have h := h.2 c5
    refine lv_iload_n hx hb d_Md_notSafe_10 rfl (lv_at hl 2 rfl) ?_
    refine lv_iload_n hx hb d_Md_notSafe_11 rfl (lv_at hl 1 rfl) ?_
    refine lv_bipush (v := (40 : Int32)) hx hb d_Md_notSafe_12 (by decide) ?_
    refine cl_Si (b := b_Md_notSafe) (As := [.int a1, .int a0, .int (40 : Int32)]) (rest := []) (ws := [(h0, .inr (11, [.int (gI o0 0), .ref (q0 1), .ref (q0 2), .ref (q0 3), .ref (q0 4), .ref (q0 5), .ref (q0 6), .int (gI o0 7), .int (gI o0 8), .int (gI o0 9), .int (gI o0 10), .int (gI o0 11), .int (gI o0 12), .int (gI o0 13), .int (gI o0 14), .long (gL o0 15), .int (gI o0 16), .int (gI o0 17), .int (gI o0 18), .int (gI o0 19), .int (gI o0 20), .int (gI o0 21), .int (gI o0 22), .int (gI o0 23), .int (gI o0 24), .int (gI o0 25), .int (gI o0 26), .int (gI o0 27), .ref (q0 28), .long (gL o0 29), .int (gI o0 30), .ref (q0 31), .ref (q0 32), .ref (q0 33), .int (gI o0 34), .int (gI o0 35), .int (gI o0 36), .int (gI o0 37), .ref (q0 38), .ref (q0 39), .int (gI o0 40), .ref (q0 41), .ref (q0 42), .ref (q0 43), .ref (q0 44)])), kI G (q0 1) 6100 (gA o0 1), kI G (q0 2) 6100 (gA o0 2), kJ G (q0 3) 2016 (gB o0 3), kJ G (q0 4) 2016 (gB o0 4), kI G (q0 5) 300 (gA o0 5), kI G (q0 6) 400 (gA o0 6), kJ G (q0 28) 10 (gB o0 28), kI G (q0 31) 969 (gA o0 31), kI G (q0 32) 969 (gA o0 32), kI G (q0 33) 969 (gA o0 33), kI G (q0 38) 5 (gA o0 38), kI G (q0 39) 5120 (gA o0 39), kI G (q0 41) 5 (gA o0 41), kZ G (q0 42) 1024 (gA o0 42), kI G (q0 43) 8192 (gA o0 43), kI G (q0 44) 8192 (gA o0 44)]) (wr := [(h0, .inr (11, [.int (gI o0 0), .ref (q0 1), .ref (q0 2), .ref (q0 3), .ref (q0 4), .ref (q0 5), .ref (q0 6), .int (gI o0 7), .int (gI o0 8), .int (gI o0 9), .int (gI o0 10), .int (gI o0 11), .int (gI o0 12), .int (gI o0 13), .int (gI o0 14), .long (gL o0 15), .int (gI o0 16), .int (gI o0 17), .int (gI o0 18), .int (gI o0 19), .int (gI o0 20), .int (gI o0 21), .int (gI o0 22), .int (gI o0 23), .int (gI o0 24), .int (gI o0 25), .int (gI o0 26), .int (gI o0 27), .ref (q0 28), .long (gL o0 29), .int (gI o0 30), .ref (q0 31), .ref (q0 32), .ref (q0 33), .int (gI o0 34), .int (gI o0 35), .int (gI o0 36), .int (gI o0 37), .ref (q0 38), .ref (q0 39), .int (gI o0 40), .ref (q0 41), .ref (q0 42), .ref (q0 43), .ref (q0 44)])), kI G (q0 1) 6100 (gA o0 1), kI G (q0 2) 6100 (gA o0 2), kJ G (q0 3) 2016 (gB o0 3), kJ G (q0 4) 2016 (gB o0 4), kI G (q0 5) 300 (gA o0 5), kI G (q0 6) 400 (gA o0 6), kJ G (q0 28) 10 (gB o0 28), kI G (q0 31) 969 (gA o0 31), kI G (q0 32) 969 (gA o0 32), kI G (q0 33) 969 (gA o0 33), kI G (q0 38) 5 (gA o0 38), kI G (q0 39) 5120 (gA o0 39), kI G (q0 41) 5 (gA o0 41), kZ G (q0 42) 1024 (gA o0 42), kI G (q0 43) 8192 (gA o0 43), kI G (q0 44) 8192 (gA o0 44)]) (w2 := fun (u : Unit) => [(h0, .inr (11, [.int (gI o0 0), .ref (q0 1), .ref (q0 2), .ref (q0 3), .ref (q0 4), .ref (q0 5), .ref (q0 6), .int (gI o0 7), .int (gI o0 8), .int (gI o0 9), .int (gI o0 10), .int (gI o0 11), .int (gI o0 12), .int (gI o0 13), .int (gI o0 14), .long (gL o0 15), .int (gI o0 16), .int (gI o0 17), .int (gI o0 18), .int (gI o0 19), .int (gI o0 20), .int (gI o0 21), .int (gI o0 22), .int (gI o0 23), .int (gI o0 24), .int (gI o0 25), .int (gI o0 26), .int (gI o0 27), .ref (q0 28), .long (gL o0 29), .int (gI o0 30), .ref (q0 31), .ref (q0 32), .ref (q0 33), .int (gI o0 34), .int (gI o0 35), .int (gI o0 36), .int (gI o0 37), .ref (q0 38), .ref (q0 39), .int (gI o0 40), .ref (q0 41), .ref (q0 42), .ref (q0 43), .ref (q0 44)])), kI G (q0 1) 6100 (gA o0 1), kI G (q0 2) 6100 (gA o0 2), kJ G (q0 3) 2016 (gB o0 3), kJ G (q0 4) 2016 (gB o0 4), kI G (q0 5) 300 (gA o0 5), kI G (q0 6) 400 (gA o0 6), kJ G (q0 28) 10 (gB o0 28), kI G (q0 31) 969 (gA o0 31), kI G (q0 32) 969 (gA o0 32), kI G (q0 33) 969 (gA o0 33), kI G (q0 38) 5 (gA o0 38), kI G (q0 39) 5120 (gA o0 39), kI G (q0 41) 5 (gA o0 41), kZ G (q0 42) 1024 (gA o0 42), kI G (q0 43) 8192 (gA o0 43), kI G (q0 44) 8192 (gA o0 44)]) C (c_Md_isIn H.size h) ws_Md_76 ⟨Nat.le_of_ble_eq_true rfl, Nat.le_of_ble_eq_true rfl⟩ hP hD hS [] [0, 1, 2, 3, 4, 5, 6, 7, 8, 9, 10, 11, 12, 13, 14, 15, 16] rfl rfl (by decide) (by decide) (by decide) [0, 1, 2, 3, 4, 5, 6, 7, 8, 9, 10, 11, 12, 13, 14, 15, 16] (by decide) (fun u => rfl) rfl hl.1 rfl (lv_room (Nat.le_of_ble_eq_true rfl)) d_Md_notSafe_14 ⟨Nat.le_of_ble_eq_true rfl, Nat.le_of_ble_eq_true rfl⟩ rfl rfl (fun z6 u H locs h hP hD hS => ?_)
    have hP : va_P G.1 CL [(h0, .inr (11, [.int (gI o0 0), .ref (q0 1), .ref (q0 2), .ref (q0 3), .ref (q0 4), .ref (q0 5), .ref (q0 6), .int (gI o0 7), .int (gI o0 8), .int (gI o0 9), .int (gI o0 10), .int (gI o0 11), .int (gI o0 12), .int (gI o0 13), .int (gI o0 14), .long (gL o0 15), .int (gI o0 16), .int (gI o0 17), .int (gI o0 18), .int (gI o0 19), .int (gI o0 20), .int (gI o0 21), .int (gI o0 22), .int (gI o0 23), .int (gI o0 24), .int (gI o0 25), .int (gI o0 26), .int (gI o0 27), .ref (q0 28), .long (gL o0 29), .int (gI o0 30), .ref (q0 31), .ref (q0 32), .ref (q0 33), .int (gI o0 34), .int (gI o0 35), .int (gI o0 36), .int (gI o0 37), .ref (q0 38), .ref (q0 39), .int (gI o0 40), .ref (q0 41), .ref (q0 42), .ref (q0 43), .ref (q0 44)])), kI G (q0 1) 6100 (gA o0 1), kI G (q0 2) 6100 (gA o0 2), kJ G (q0 3) 2016 (gB o0 3), kJ G (q0 4) 2016 (gB o0 4), kI G (q0 5) 300 (gA o0 5), kI G (q0 6) 400 (gA o0 6), kJ G (q0 28) 10 (gB o0 28), kI G (q0 31) 969 (gA o0 31), kI G (q0 32) 969 (gA o0 32), kI G (q0 33) 969 (gA o0 33), kI G (q0 38) 5 (gA o0 38), kI G (q0 39) 5120 (gA o0 39), kI G (q0 41) 5 (gA o0 41), kZ G (q0 42) 1024 (gA o0 42), kI G (q0 43) 8192 (gA o0 43), kI G (q0 44) 8192 (gA o0 44)] H := hP
    have hD : va_D A [(h0, .inr (11, [.int (gI o0 0), .ref (q0 1), .ref (q0 2), .ref (q0 3), .ref (q0 4), .ref (q0 5), .ref (q0 6), .int (gI o0 7), .int (gI o0 8), .int (gI o0 9), .int (gI o0 10), .int (gI o0 11), .int (gI o0 12), .int (gI o0 13), .int (gI o0 14), .long (gL o0 15), .int (gI o0 16), .int (gI o0 17), .int (gI o0 18), .int (gI o0 19), .int (gI o0 20), .int (gI o0 21), .int (gI o0 22), .int (gI o0 23), .int (gI o0 24), .int (gI o0 25), .int (gI o0 26), .int (gI o0 27), .ref (q0 28), .long (gL o0 29), .int (gI o0 30), .ref (q0 31), .ref (q0 32), .ref (q0 33), .int (gI o0 34), .int (gI o0 35), .int (gI o0 36), .int (gI o0 37), .ref (q0 38), .ref (q0 39), .int (gI o0 40), .ref (q0 41), .ref (q0 42), .ref (q0 43), .ref (q0 44)])), kI G (q0 1) 6100 (gA o0 1), kI G (q0 2) 6100 (gA o0 2), kJ G (q0 3) 2016 (gB o0 3), kJ G (q0 4) 2016 (gB o0 4), kI G (q0 5) 300 (gA o0 5), kI G (q0 6) 400 (gA o0 6), kJ G (q0 28) 10 (gB o0 28), kI G (q0 31) 969 (gA o0 31), kI G (q0 32) 969 (gA o0 32), kI G (q0 33) 969 (gA o0 33), kI G (q0 38) 5 (gA o0 38), kI G (q0 39) 5120 (gA o0 39), kI G (q0 41) 5 (gA o0 41), kZ G (q0 42) 1024 (gA o0 42), kI G (q0 43) 8192 (gA o0 43), kI G (q0 44) 8192 (gA o0 44)] := hD
    refine lv_if_eq (tgt := 31) hx hb d_Md_notSafe_17 (by decide) (fun c7 => ?_) (fun c7 => ?_)
    · have h := h.1 c7
      refine lv_iconst (v := (-1 : Int32)) hx hb d_Md_notSafe_31 (by decide) ?_
      have hP : va_P G.1 CL (cw_Md G h0 q0 o0) H := hP
      have hD : va_D A (cw_Md G h0 q0 o0) := hD
      exact W.iret (v := (-1 : Int32)) hx hb hr (fun t ht hW => ⟨⟨(-1 : Int32), o0, rfl, h, by rw [ht]; exact hP, va_K.moved hW.alike hK, hD⟩, hS.F ht⟩) hS.2.2 d_Md_notSafe_32
    · have h := h.2 c7
      refine lv_iload_n hx hb d_Md_notSafe_20 rfl (lv_at hl 3 rfl) ?_
      refine lv_iconst (v := (0 : Int32)) hx hb d_Md_notSafe_21 (by decide) ?_
      refine lv_sipush (v := (1000 : Int32)) hx hb d_Md_notSafe_22 (by decide) ?_
      refine cl_Si (b := b_Md_notSafe) (As := [.int a2, .int (0 : Int32), .int (1000 : Int32)]) (rest := []) (ws := [(h0, .inr (11, [.int (gI o0 0), .ref (q0 1), .ref (q0 2), .ref (q0 3), .ref (q0 4), .ref (q0 5), .ref (q0 6), .int (gI o0 7), .int (gI o0 8), .int (gI o0 9), .int (gI o0 10), .int (gI o0 11), .int (gI o0 12), .int (gI o0 13), .int (gI o0 14), .long (gL o0 15), .int (gI o0 16), .int (gI o0 17), .int (gI o0 18), .int (gI o0 19), .int (gI o0 20), .int (gI o0 21), .int (gI o0 22), .int (gI o0 23), .int (gI o0 24), .int (gI o0 25), .int (gI o0 26), .int (gI o0 27), .ref (q0 28), .long (gL o0 29), .int (gI o0 30), .ref (q0 31), .ref (q0 32), .ref (q0 33), .int (gI o0 34), .int (gI o0 35), .int (gI o0 36), .int (gI o0 37), .ref (q0 38), .ref (q0 39), .int (gI o0 40), .ref (q0 41), .ref (q0 42), .ref (q0 43), .ref (q0 44)])), kI G (q0 1) 6100 (gA o0 1), kI G (q0 2) 6100 (gA o0 2), kJ G (q0 3) 2016 (gB o0 3), kJ G (q0 4) 2016 (gB o0 4), kI G (q0 5) 300 (gA o0 5), kI G (q0 6) 400 (gA o0 6), kJ G (q0 28) 10 (gB o0 28), kI G (q0 31) 969 (gA o0 31), kI G (q0 32) 969 (gA o0 32), kI G (q0 33) 969 (gA o0 33), kI G (q0 38) 5 (gA o0 38), kI G (q0 39) 5120 (gA o0 39), kI G (q0 41) 5 (gA o0 41), kZ G (q0 42) 1024 (gA o0 42), kI G (q0 43) 8192 (gA o0 43), kI G (q0 44) 8192 (gA o0 44)]) (wr := [(h0, .inr (11, [.int (gI o0 0), .ref (q0 1), .ref (q0 2), .ref (q0 3), .ref (q0 4), .ref (q0 5), .ref (q0 6), .int (gI o0 7), .int (gI o0 8), .int (gI o0 9), .int (gI o0 10), .int (gI o0 11), .int (gI o0 12), .int (gI o0 13), .int (gI o0 14), .long (gL o0 15), .int (gI o0 16), .int (gI o0 17), .int (gI o0 18), .int (gI o0 19), .int (gI o0 20), .int (gI o0 21), .int (gI o0 22), .int (gI o0 23), .int (gI o0 24), .int (gI o0 25), .int (gI o0 26), .int (gI o0 27), .ref (q0 28), .long (gL o0 29), .int (gI o0 30), .ref (q0 31), .ref (q0 32), .ref (q0 33), .int (gI o0 34), .int (gI o0 35), .int (gI o0 36), .int (gI o0 37), .ref (q0 38), .ref (q0 39), .int (gI o0 40), .ref (q0 41), .ref (q0 42), .ref (q0 43), .ref (q0 44)])), kI G (q0 1) 6100 (gA o0 1), kI G (q0 2) 6100 (gA o0 2), kJ G (q0 3) 2016 (gB o0 3), kJ G (q0 4) 2016 (gB o0 4), kI G (q0 5) 300 (gA o0 5), kI G (q0 6) 400 (gA o0 6), kJ G (q0 28) 10 (gB o0 28), kI G (q0 31) 969 (gA o0 31), kI G (q0 32) 969 (gA o0 32), kI G (q0 33) 969 (gA o0 33), kI G (q0 38) 5 (gA o0 38), kI G (q0 39) 5120 (gA o0 39), kI G (q0 41) 5 (gA o0 41), kZ G (q0 42) 1024 (gA o0 42), kI G (q0 43) 8192 (gA o0 43), kI G (q0 44) 8192 (gA o0 44)]) (w2 := fun (u : Unit) => [(h0, .inr (11, [.int (gI o0 0), .ref (q0 1), .ref (q0 2), .ref (q0 3), .ref (q0 4), .ref (q0 5), .ref (q0 6), .int (gI o0 7), .int (gI o0 8), .int (gI o0 9), .int (gI o0 10), .int (gI o0 11), .int (gI o0 12), .int (gI o0 13), .int (gI o0 14), .long (gL o0 15), .int (gI o0 16), .int (gI o0 17), .int (gI o0 18), .int (gI o0 19), .int (gI o0 20), .int (gI o0 21), .int (gI o0 22), .int (gI o0 23), .int (gI o0 24), .int (gI o0 25), .int (gI o0 26), .int (gI o0 27), .ref (q0 28), .long (gL o0 29), .int (gI o0 30), .ref (q0 31), .ref (q0 32), .ref (q0 33), .int (gI o0 34), .int (gI o0 35), .int (gI o0 36), .int (gI o0 37), .ref (q0 38), .ref (q0 39), .int (gI o0 40), .ref (q0 41), .ref (q0 42), .ref (q0 43), .ref (q0 44)])), kI G (q0 1) 6100 (gA o0 1), kI G (q0 2) 6100 (gA o0 2), kJ G (q0 3) 2016 (gB o0 3), kJ G (q0 4) 2016 (gB o0 4), kI G (q0 5) 300 (gA o0 5), kI G (q0 6) 400 (gA o0 6), kJ G (q0 28) 10 (gB o0 28), kI G (q0 31) 969 (gA o0 31), kI G (q0 32) 969 (gA o0 32), kI G (q0 33) 969 (gA o0 33), kI G (q0 38) 5 (gA o0 38), kI G (q0 39) 5120 (gA o0 39), kI G (q0 41) 5 (gA o0 41), kZ G (q0 42) 1024 (gA o0 42), kI G (q0 43) 8192 (gA o0 43), kI G (q0 44) 8192 (gA o0 44)]) C (c_Md_isIn H.size h) ws_Md_76 ⟨Nat.le_of_ble_eq_true rfl, Nat.le_of_ble_eq_true rfl⟩ hP hD hS [] [0, 1, 2, 3, 4, 5, 6, 7, 8, 9, 10, 11, 12, 13, 14, 15, 16] rfl rfl (by decide) (by decide) (by decide) [0, 1, 2, 3, 4, 5, 6, 7, 8, 9, 10, 11, 12, 13, 14, 15, 16] (by decide) (fun u => rfl) rfl hl.1 rfl (lv_room (Nat.le_of_ble_eq_true rfl)) d_Md_notSafe_25 ⟨Nat.le_of_ble_eq_true rfl, Nat.le_of_ble_eq_true rfl⟩ rfl rfl (fun z8 u H locs h hP hD hS => ?_)
      have hP : va_P G.1 CL [(h0, .inr (11, [.int (gI o0 0), .ref (q0 1), .ref (q0 2), .ref (q0 3), .ref (q0 4), .ref (q0 5), .ref (q0 6), .int (gI o0 7), .int (gI o0 8), .int (gI o0 9), .int (gI o0 10), .int (gI o0 11), .int (gI o0 12), .int (gI o0 13), .int (gI o0 14), .long (gL o0 15), .int (gI o0 16), .int (gI o0 17), .int (gI o0 18), .int (gI o0 19), .int (gI o0 20), .int (gI o0 21), .int (gI o0 22), .int (gI o0 23), .int (gI o0 24), .int (gI o0 25), .int (gI o0 26), .int (gI o0 27), .ref (q0 28), .long (gL o0 29), .int (gI o0 30), .ref (q0 31), .ref (q0 32), .ref (q0 33), .int (gI o0 34), .int (gI o0 35), .int (gI o0 36), .int (gI o0 37), .ref (q0 38), .ref (q0 39), .int (gI o0 40), .ref (q0 41), .ref (q0 42), .ref (q0 43), .ref (q0 44)])), kI G (q0 1) 6100 (gA o0 1), kI G (q0 2) 6100 (gA o0 2), kJ G (q0 3) 2016 (gB o0 3), kJ G (q0 4) 2016 (gB o0 4), kI G (q0 5) 300 (gA o0 5), kI G (q0 6) 400 (gA o0 6), kJ G (q0 28) 10 (gB o0 28), kI G (q0 31) 969 (gA o0 31), kI G (q0 32) 969 (gA o0 32), kI G (q0 33) 969 (gA o0 33), kI G (q0 38) 5 (gA o0 38), kI G (q0 39) 5120 (gA o0 39), kI G (q0 41) 5 (gA o0 41), kZ G (q0 42) 1024 (gA o0 42), kI G (q0 43) 8192 (gA o0 43), kI G (q0 44) 8192 (gA o0 44)] H := hP
      have hD : va_D A [(h0, .inr (11, [.int (gI o0 0), .ref (q0 1), .ref (q0 2), .ref (q0 3), .ref (q0 4), .ref (q0 5), .ref (q0 6), .int (gI o0 7), .int (gI o0 8), .int (gI o0 9), .int (gI o0 10), .int (gI o0 11), .int (gI o0 12), .int (gI o0 13), .int (gI o0 14), .long (gL o0 15), .int (gI o0 16), .int (gI o0 17), .int (gI o0 18), .int (gI o0 19), .int (gI o0 20), .int (gI o0 21), .int (gI o0 22), .int (gI o0 23), .int (gI o0 24), .int (gI o0 25), .int (gI o0 26), .int (gI o0 27), .ref (q0 28), .long (gL o0 29), .int (gI o0 30), .ref (q0 31), .ref (q0 32), .ref (q0 33), .int (gI o0 34), .int (gI o0 35), .int (gI o0 36), .int (gI o0 37), .ref (q0 38), .ref (q0 39), .int (gI o0 40), .ref (q0 41), .ref (q0 42), .ref (q0 43), .ref (q0 44)])), kI G (q0 1) 6100 (gA o0 1), kI G (q0 2) 6100 (gA o0 2), kJ G (q0 3) 2016 (gB o0 3), kJ G (q0 4) 2016 (gB o0 4), kI G (q0 5) 300 (gA o0 5), kI G (q0 6) 400 (gA o0 6), kJ G (q0 28) 10 (gB o0 28), kI G (q0 31) 969 (gA o0 31), kI G (q0 32) 969 (gA o0 32), kI G (q0 33) 969 (gA o0 33), kI G (q0 38) 5 (gA o0 38), kI G (q0 39) 5120 (gA o0 39), kI G (q0 41) 5 (gA o0 41), kZ G (q0 42) 1024 (gA o0 42), kI G (q0 43) 8192 (gA o0 43), kI G (q0 44) 8192 (gA o0 44)] := hD
      refine lv_if_ne (tgt := 33) hx hb d_Md_notSafe_28 (by decide) (fun c9 => ?_) (fun c9 => ?_)
      · have h := h.2 c9
        refine lv_iload_n hx hb d_Md_notSafe_33 rfl (lv_at hl 1 rfl) ?_
        refine lv_istore (lv' := [(4, .int a0), (0, .ref h0), (1, .int a0), (2, .int a1), (3, .int a2)]) hx hb d_Md_notSafe_34 hl (by decide) rfl (fun ls hl => ?_)
        have hl := lv_sub (l' := [(0, .ref h0), (2, .int a1), (3, .int a2), (4, .int a0)]) hl [1, 3, 4, 0] rfl
        have hP : va_P G.1 CL (cw_Md G h0 q0 o0) H := hP
        have hD : va_D A (cw_Md G h0 q0 o0) := hD
        obtain ⟨w, h⟩ := h
        exact t_Md_notSafe_36 Q C w a1 a2 a0 o0 ls _ locs hl hP hD hS h
      · have h := h.1 c9
        refine lv_iconst (v := (-1 : Int32)) hx hb d_Md_notSafe_31 (by decide) ?_
        have hP : va_P G.1 CL (cw_Md G h0 q0 o0) H := hP
        have hD : va_D A (cw_Md G h0 q0 o0) := hD
        exact W.iret (v := (-1 : Int32)) hx hb hr (fun t ht hW => ⟨⟨(-1 : Int32), o0, rfl, h, by rw [ht]; exact hP, va_K.moved hW.alike hK, hD⟩, hS.F ht⟩) hS.2.2 d_Md_notSafe_32
abbrev b_Md_isShape : ByteArray := prog_14_method_46_code
def y_Md_isShape : MethodName := ⟨R_Md, "isShape", "(IIIII)Z"⟩
abbrev w_Md_isShape : List Cond := Cond.code y_Md_isShape b_Md_isShape 7 (some .boolean) :: gw_tbl
theorem d_Md_isShape_0 : decode b_Md_isShape 0 = .ok (.aload_n 0, 1) := by decide +kernel
theorem d_Md_isShape_1 : decode b_Md_isShape 1 = .ok (.getfield 48, 3) := by decide +kernel
theorem d_Md_isShape_4 : decode b_Md_isShape 4 = .ok (.iconst 0, 1) := by decide +kernel
theorem d_Md_isShape_5 : decode b_Md_isShape 5 = .ok (.iload_n 1, 1) := by decide +kernel
theorem d_Md_isShape_6 : decode b_Md_isShape 6 = .ok (.iastore, 1) := by decide +kernel
theorem d_Md_isShape_7 : decode b_Md_isShape 7 = .ok (.aload_n 0, 1) := by decide +kernel
theorem d_Md_isShape_8 : decode b_Md_isShape 8 = .ok (.getfield 48, 3) := by decide +kernel
theorem d_Md_isShape_11 : decode b_Md_isShape 11 = .ok (.iconst 1, 1) := by decide +kernel
theorem d_Md_isShape_12 : decode b_Md_isShape 12 = .ok (.iload_n 2, 1) := by decide +kernel
theorem d_Md_isShape_13 : decode b_Md_isShape 13 = .ok (.iastore, 1) := by decide +kernel
theorem d_Md_isShape_14 : decode b_Md_isShape 14 = .ok (.aload_n 0, 1) := by decide +kernel
theorem d_Md_isShape_15 : decode b_Md_isShape 15 = .ok (.getfield 48, 3) := by decide +kernel
theorem d_Md_isShape_18 : decode b_Md_isShape 18 = .ok (.iconst 2, 1) := by decide +kernel
theorem d_Md_isShape_19 : decode b_Md_isShape 19 = .ok (.iload_n 3, 1) := by decide +kernel
theorem d_Md_isShape_20 : decode b_Md_isShape 20 = .ok (.iastore, 1) := by decide +kernel
theorem d_Md_isShape_21 : decode b_Md_isShape 21 = .ok (.aload_n 0, 1) := by decide +kernel
theorem d_Md_isShape_22 : decode b_Md_isShape 22 = .ok (.getfield 48, 3) := by decide +kernel
theorem d_Md_isShape_25 : decode b_Md_isShape 25 = .ok (.iconst 3, 1) := by decide +kernel
theorem d_Md_isShape_26 : decode b_Md_isShape 26 = .ok (.iload 4, 2) := by decide +kernel
theorem d_Md_isShape_28 : decode b_Md_isShape 28 = .ok (.iastore, 1) := by decide +kernel
theorem d_Md_isShape_29 : decode b_Md_isShape 29 = .ok (.aload_n 0, 1) := by decide +kernel
theorem d_Md_isShape_30 : decode b_Md_isShape 30 = .ok (.getfield 48, 3) := by decide +kernel
theorem d_Md_isShape_33 : decode b_Md_isShape 33 = .ok (.iconst 4, 1) := by decide +kernel
theorem d_Md_isShape_34 : decode b_Md_isShape 34 = .ok (.iload 5, 2) := by decide +kernel
theorem d_Md_isShape_36 : decode b_Md_isShape 36 = .ok (.iastore, 1) := by decide +kernel
theorem d_Md_isShape_37 : decode b_Md_isShape 37 = .ok (.iconst 0, 1) := by decide +kernel
theorem d_Md_isShape_38 : decode b_Md_isShape 38 = .ok (.istore 6, 2) := by decide +kernel
theorem d_Md_isShape_40 : decode b_Md_isShape 40 = .ok (.iload 6, 2) := by decide +kernel
theorem d_Md_isShape_42 : decode b_Md_isShape 42 = .ok (.aload_n 0, 1) := by decide +kernel
theorem d_Md_isShape_43 : decode b_Md_isShape 43 = .ok (.getfield 67, 3) := by decide +kernel
theorem d_Md_isShape_46 : decode b_Md_isShape 46 = .ok (.if_icmp .ge 27, 3) := by decide +kernel
theorem d_Md_isShape_49 : decode b_Md_isShape 49 = .ok (.aload_n 0, 1) := by decide +kernel
theorem d_Md_isShape_50 : decode b_Md_isShape 50 = .ok (.getfield 48, 3) := by decide +kernel
theorem d_Md_isShape_53 : decode b_Md_isShape 53 = .ok (.iload 6, 2) := by decide +kernel
theorem d_Md_isShape_55 : decode b_Md_isShape 55 = .ok (.iaload, 1) := by decide +kernel
theorem d_Md_isShape_56 : decode b_Md_isShape 56 = .ok (.iconst 1, 1) := by decide +kernel
theorem d_Md_isShape_57 : decode b_Md_isShape 57 = .ok (.bipush 12, 2) := by decide +kernel
theorem d_Md_isShape_59 : decode b_Md_isShape 59 = .ok (.invokestatic 76, 3) := by decide +kernel
theorem d_Md_isShape_62 : decode b_Md_isShape 62 = .ok (.ifCond .ne 5, 3) := by decide +kernel
theorem d_Md_isShape_65 : decode b_Md_isShape 65 = .ok (.iconst 0, 1) := by decide +kernel
theorem d_Md_isShape_66 : decode b_Md_isShape 66 = .ok (.ireturn, 1) := by decide +kernel
theorem d_Md_isShape_67 : decode b_Md_isShape 67 = .ok (.iinc 6 1, 3) := by decide +kernel
theorem d_Md_isShape_70 : decode b_Md_isShape 70 = .ok (.goto (-30), 3) := by decide +kernel
theorem d_Md_isShape_73 : decode b_Md_isShape 73 = .ok (.iconst 1, 1) := by decide +kernel
theorem d_Md_isShape_74 : decode b_Md_isShape 74 = .ok (.ireturn, 1) := by decide +kernel
theorem wf_Md_48 : Cond.fieldLink R_Md 48 R_Md "shape" "[I" ∈ gw_tbl := gw_tb (List.mem_of_getElem? (i := 1009) (by decide +kernel)) rfl
def f_Md_isShape_40 (Q : Int32 → Ob → Prop) : Nat → Int32 → Ob → Prop
  | 0, _, _ => False
  | n + 1, x6, o0 => ((gI o0 0) ≤ x6 → (Q (1 : Int32) o0)) ∧ (¬ (gI o0 0) ≤ x6 → ((vp_in x6 5) ∧ (f_Md_isIn ((gA o0 38) x6.toNatClampNeg) (1 : Int32) (12 : Int32) (fun z3 => (z3 = 0 → (Q (0 : Int32) o0)) ∧ (¬ z3 = 0 → ((f_Md_isShape_40 Q n) (x6 + (1 : Int32)) o0))))))
def f_Md_isShape (a0 : Int32) (a1 : Int32) (a2 : Int32) (a3 : Int32) (a4 : Int32) (o0 : Ob) (Q : Int32 → Ob → Prop) : Prop := (∃ w, f_Md_isShape_40 Q w (0 : Int32) (sA o0 38 (upd (upd (upd (upd (upd (gA o0 38) 0 a0) 1 a1) 2 a2) 3 a3) 4 a4)))
abbrev rm_Md_isShape : Room := { frames := 1, cells := 0, slots := 0, locals := 22 }
set_option maxHeartbeats 4000000 in
set_option maxRecDepth 100000 in
theorem t_Md_isShape_40 {p : Program} {l : Launch} {e : Env} {s : State} {m : MethodId} {args : Array Value} {below : List Frame} {meth : Method} {c : Code} {A : Nat → Prop} {G : Gl} {h0 : Nat} {q0 : Nat → Nat} (Q : Int32 → Ob → Prop) (C : Cx p s m args meth c R_Md b_Md_isShape 7 (some .boolean) G A) :
    ∀ (n : Nat) (x6 : Int32) (o0 : Ob) (ls : Array Slot) (H : Heap) (locs : List Loc), lv_has ls 7 [(0, .ref h0), (6, .int x6)] → va_P G.1 CL (cw_Md G h0 q0 o0) H → va_D A (cw_Md G h0 q0 o0) → va_S A s.heap H locs → f_Md_isShape_40 Q n x6 o0 → W p l e rm_Md_isShape s m args below meth c H locs 0 0 (MQ below (va_Qi (fun (r : Int32) (u : Ob) => Q r u) (fun (u : Ob) t => BW G A (cw_Md G h0 q0 u) t) A) args s 0 0 A) (F0 m 40 ls []) := by
  obtain ⟨hx, hb, hml, hown, hr, hts, hK, hA, hlocks, hE⟩ := id C
  intro n
  induction n with
  | zero => intro x6 o0 ls H locs hl hP hD hS h; exact absurd h id
  | succ n ih =>
    intro x6 o0 ls H locs hl hP hD hS h
    have hP : va_P G.1 CL [(h0, .inr (11, [.int (gI o0 0), .ref (q0 1), .ref (q0 2), .ref (q0 3), .ref (q0 4), .ref (q0 5), .ref (q0 6), .int (gI o0 7), .int (gI o0 8), .int (gI o0 9), .int (gI o0 10), .int (gI o0 11), .int (gI o0 12), .int (gI o0 13), .int (gI o0 14), .long (gL o0 15), .int (gI o0 16), .int (gI o0 17), .int (gI o0 18), .int (gI o0 19), .int (gI o0 20), .int (gI o0 21), .int (gI o0 22), .int (gI o0 23), .int (gI o0 24), .int (gI o0 25), .int (gI o0 26), .int (gI o0 27), .ref (q0 28), .long (gL o0 29), .int (gI o0 30), .ref (q0 31), .ref (q0 32), .ref (q0 33), .int (gI o0 34), .int (gI o0 35), .int (gI o0 36), .int (gI o0 37), .ref (q0 38), .ref (q0 39), .int (gI o0 40), .ref (q0 41), .ref (q0 42), .ref (q0 43), .ref (q0 44)])), kI G (q0 1) 6100 (gA o0 1), kI G (q0 2) 6100 (gA o0 2), kJ G (q0 3) 2016 (gB o0 3), kJ G (q0 4) 2016 (gB o0 4), kI G (q0 5) 300 (gA o0 5), kI G (q0 6) 400 (gA o0 6), kJ G (q0 28) 10 (gB o0 28), kI G (q0 31) 969 (gA o0 31), kI G (q0 32) 969 (gA o0 32), kI G (q0 33) 969 (gA o0 33), kI G (q0 38) 5 (gA o0 38), kI G (q0 39) 5120 (gA o0 39), kI G (q0 41) 5 (gA o0 41), kZ G (q0 42) 1024 (gA o0 42), kI G (q0 43) 8192 (gA o0 43), kI G (q0 44) 8192 (gA o0 44)] H := hP
    have hD : va_D A [(h0, .inr (11, [.int (gI o0 0), .ref (q0 1), .ref (q0 2), .ref (q0 3), .ref (q0 4), .ref (q0 5), .ref (q0 6), .int (gI o0 7), .int (gI o0 8), .int (gI o0 9), .int (gI o0 10), .int (gI o0 11), .int (gI o0 12), .int (gI o0 13), .int (gI o0 14), .long (gL o0 15), .int (gI o0 16), .int (gI o0 17), .int (gI o0 18), .int (gI o0 19), .int (gI o0 20), .int (gI o0 21), .int (gI o0 22), .int (gI o0 23), .int (gI o0 24), .int (gI o0 25), .int (gI o0 26), .int (gI o0 27), .ref (q0 28), .long (gL o0 29), .int (gI o0 30), .ref (q0 31), .ref (q0 32), .ref (q0 33), .int (gI o0 34), .int (gI o0 35), .int (gI o0 36), .int (gI o0 37), .ref (q0 38), .ref (q0 39), .int (gI o0 40), .ref (q0 41), .ref (q0 42), .ref (q0 43), .ref (q0 44)])), kI G (q0 1) 6100 (gA o0 1), kI G (q0 2) 6100 (gA o0 2), kJ G (q0 3) 2016 (gB o0 3), kJ G (q0 4) 2016 (gB o0 4), kI G (q0 5) 300 (gA o0 5), kI G (q0 6) 400 (gA o0 6), kJ G (q0 28) 10 (gB o0 28), kI G (q0 31) 969 (gA o0 31), kI G (q0 32) 969 (gA o0 32), kI G (q0 33) 969 (gA o0 33), kI G (q0 38) 5 (gA o0 38), kI G (q0 39) 5120 (gA o0 39), kI G (q0 41) 5 (gA o0 41), kZ G (q0 42) 1024 (gA o0 42), kI G (q0 43) 8192 (gA o0 43), kI G (q0 44) 8192 (gA o0 44)] := hD
    unfold f_Md_isShape_40 at h
    refine lv_iload hx hb d_Md_isShape_40 (lv_at hl 1 rfl) ?_
    refine lv_aload_n hx hb d_Md_isShape_42 rfl (lv_at hl 0 rfl) ?_
    refine va_get (D := G.1) (ci := 11) (v := .int (gI o0 0)) (C := R_Md) (T := T_Md) (N := 45) hx hb hts i_Md hown hK hP 0 rfl rfl 0 (by decide) (hts _ wf_Md_67) (fun _ h9 => h9) rfl d_Md_isShape_43 ?_
    refine lv_icmp_ge (tgt := 73) hx hb d_Md_isShape_46 (by decide) (fun c1 => ?_) (fun c1 => ?_)
    · have h := h.1 c1
      refine lv_iconst (v := (1 : Int32)) hx hb d_Md_isShape_73 (by decide) ?_
      have hP : va_P G.1 CL (cw_Md G h0 q0 o0) H := hP
      have hD : va_D A (cw_Md G h0 q0 o0) := hD
      exact W.zret (v := (1 : Int32)) hx hb hr rfl (fun t ht hW => ⟨⟨(1 : Int32), o0, rfl, h, by rw [ht]; exact hP, va_K.moved hW.alike hK, hD⟩, hS.F ht⟩) hS.2.2 d_Md_isShape_74
    · have h := h.2 c1
      refine lv_aload_n hx hb d_Md_isShape_49 rfl (lv_at hl 0 rfl) ?_
      refine va_get (D := G.1) (ci := 11) (v := .ref (q0 38)) (C := R_Md) (T := T_Md) (N := 45) hx hb hts i_Md hown hK hP 0 rfl rfl 38 (by decide) (hts _ wf_Md_48) (fun _ h9 => h9) rfl d_Md_isShape_50 ?_
      refine lv_iload hx hb d_Md_isShape_53 (lv_at hl 1 rfl) ?_
      have g2 := h.1
      have h := h.2
      refine xa_iald hx hb hK hP 11 0 rfl rfl g2 (k := x6.toNatClampNeg) rfl d_Md_isShape_55 ?_
      refine lv_iconst (v := (1 : Int32)) hx hb d_Md_isShape_56 (by decide) ?_
      refine lv_bipush (v := (12 : Int32)) hx hb d_Md_isShape_57 (by decide) ?_
      refine cl_Si (b := b_Md_isShape) (As := [.int ((gA o0 38) x6.toNatClampNeg), .int (1 : Int32), .int (12 : Int32)]) (rest := []) (ws := [(h0, .inr (11, [.int (gI o0 0), .ref (q0 1), .ref (q0 2), .ref (q0 3), .ref (q0 4), .ref (q0 5), .ref (q0 6), .int (gI o0 7), .int (gI o0 8), .int (gI o0 9), .int (gI o0 10), .int (gI o0 11), .int (gI o0 12), .int (gI o0 13), .int (gI o0 14), .long (gL o0 15), .int (gI o0 16), .int (gI o0 17), .int (gI o0 18), .int (gI o0 19), .int (gI o0 20), .int (gI o0 21), .int (gI o0 22), .int (gI o0 23), .int (gI o0 24), .int (gI o0 25), .int (gI o0 26), .int (gI o0 27), .ref (q0 28), .long (gL o0 29), .int (gI o0 30), .ref (q0 31), .ref (q0 32), .ref (q0 33), .int (gI o0 34), .int (gI o0 35), .int (gI o0 36), .int (gI o0 37), .ref (q0 38), .ref (q0 39), .int (gI o0 40), .ref (q0 41), .ref (q0 42), .ref (q0 43), .ref (q0 44)])), kI G (q0 1) 6100 (gA o0 1), kI G (q0 2) 6100 (gA o0 2), kJ G (q0 3) 2016 (gB o0 3), kJ G (q0 4) 2016 (gB o0 4), kI G (q0 5) 300 (gA o0 5), kI G (q0 6) 400 (gA o0 6), kJ G (q0 28) 10 (gB o0 28), kI G (q0 31) 969 (gA o0 31), kI G (q0 32) 969 (gA o0 32), kI G (q0 33) 969 (gA o0 33), kI G (q0 38) 5 (gA o0 38), kI G (q0 39) 5120 (gA o0 39), kI G (q0 41) 5 (gA o0 41), kZ G (q0 42) 1024 (gA o0 42), kI G (q0 43) 8192 (gA o0 43), kI G (q0 44) 8192 (gA o0 44)]) (wr := [(h0, .inr (11, [.int (gI o0 0), .ref (q0 1), .ref (q0 2), .ref (q0 3), .ref (q0 4), .ref (q0 5), .ref (q0 6), .int (gI o0 7), .int (gI o0 8), .int (gI o0 9), .int (gI o0 10), .int (gI o0 11), .int (gI o0 12), .int (gI o0 13), .int (gI o0 14), .long (gL o0 15), .int (gI o0 16), .int (gI o0 17), .int (gI o0 18), .int (gI o0 19), .int (gI o0 20), .int (gI o0 21), .int (gI o0 22), .int (gI o0 23), .int (gI o0 24), .int (gI o0 25), .int (gI o0 26), .int (gI o0 27), .ref (q0 28), .long (gL o0 29), .int (gI o0 30), .ref (q0 31), .ref (q0 32), .ref (q0 33), .int (gI o0 34), .int (gI o0 35), .int (gI o0 36), .int (gI o0 37), .ref (q0 38), .ref (q0 39), .int (gI o0 40), .ref (q0 41), .ref (q0 42), .ref (q0 43), .ref (q0 44)])), kI G (q0 1) 6100 (gA o0 1), kI G (q0 2) 6100 (gA o0 2), kJ G (q0 3) 2016 (gB o0 3), kJ G (q0 4) 2016 (gB o0 4), kI G (q0 5) 300 (gA o0 5), kI G (q0 6) 400 (gA o0 6), kJ G (q0 28) 10 (gB o0 28), kI G (q0 31) 969 (gA o0 31), kI G (q0 32) 969 (gA o0 32), kI G (q0 33) 969 (gA o0 33), kI G (q0 38) 5 (gA o0 38), kI G (q0 39) 5120 (gA o0 39), kI G (q0 41) 5 (gA o0 41), kZ G (q0 42) 1024 (gA o0 42), kI G (q0 43) 8192 (gA o0 43), kI G (q0 44) 8192 (gA o0 44)]) (w2 := fun (u : Unit) => [(h0, .inr (11, [.int (gI o0 0), .ref (q0 1), .ref (q0 2), .ref (q0 3), .ref (q0 4), .ref (q0 5), .ref (q0 6), .int (gI o0 7), .int (gI o0 8), .int (gI o0 9), .int (gI o0 10), .int (gI o0 11), .int (gI o0 12), .int (gI o0 13), .int (gI o0 14), .long (gL o0 15), .int (gI o0 16), .int (gI o0 17), .int (gI o0 18), .int (gI o0 19), .int (gI o0 20), .int (gI o0 21), .int (gI o0 22), .int (gI o0 23), .int (gI o0 24), .int (gI o0 25), .int (gI o0 26), .int (gI o0 27), .ref (q0 28), .long (gL o0 29), .int (gI o0 30), .ref (q0 31), .ref (q0 32), .ref (q0 33), .int (gI o0 34), .int (gI o0 35), .int (gI o0 36), .int (gI o0 37), .ref (q0 38), .ref (q0 39), .int (gI o0 40), .ref (q0 41), .ref (q0 42), .ref (q0 43), .ref (q0 44)])), kI G (q0 1) 6100 (gA o0 1), kI G (q0 2) 6100 (gA o0 2), kJ G (q0 3) 2016 (gB o0 3), kJ G (q0 4) 2016 (gB o0 4), kI G (q0 5) 300 (gA o0 5), kI G (q0 6) 400 (gA o0 6), kJ G (q0 28) 10 (gB o0 28), kI G (q0 31) 969 (gA o0 31), kI G (q0 32) 969 (gA o0 32), kI G (q0 33) 969 (gA o0 33), kI G (q0 38) 5 (gA o0 38), kI G (q0 39) 5120 (gA o0 39), kI G (q0 41) 5 (gA o0 41), kZ G (q0 42) 1024 (gA o0 42), kI G (q0 43) 8192 (gA o0 43), kI G (q0 44) 8192 (gA o0 44)]) C (c_Md_isIn H.size h) ws_Md_76 ⟨Nat.le_of_ble_eq_true rfl, Nat.le_of_ble_eq_true rfl⟩ hP hD hS [] [0, 1, 2, 3, 4, 5, 6, 7, 8, 9, 10, 11, 12, 13, 14, 15, 16] rfl rfl (by decide) (by decide) (by decide) [0, 1, 2, 3, 4, 5, 6, 7, 8, 9, 10, 11, 12, 13, 14, 15, 16] (by decide) (fun u => rfl) rfl hl.1 rfl (lv_room (Nat.le_of_ble_eq_true rfl)) d_Md_isShape_59 ⟨Nat.le_of_ble_eq_true rfl, Nat.le_of_ble_eq_true rfl⟩ rfl rfl (fun z3 u H locs h hP hD hS => ?_)
      have hP : va_P G.1 CL [(h0, .inr (11, [.int (gI o0 0), .ref (q0 1), .ref (q0 2), .ref (q0 3), .ref (q0 4), .ref (q0 5), .ref (q0 6), .int (gI o0 7), .int (gI o0 8), .int (gI o0 9), .int (gI o0 10), .int (gI o0 11), .int (gI o0 12), .int (gI o0 13), .int (gI o0 14), .long (gL o0 15), .int (gI o0 16), .int (gI o0 17), .int (gI o0 18), .int (gI o0 19), .int (gI o0 20), .int (gI o0 21), .int (gI o0 22), .int (gI o0 23), .int (gI o0 24), .int (gI o0 25), .int (gI o0 26), .int (gI o0 27), .ref (q0 28), .long (gL o0 29), .int (gI o0 30), .ref (q0 31), .ref (q0 32), .ref (q0 33), .int (gI o0 34), .int (gI o0 35), .int (gI o0 36), .int (gI o0 37), .ref (q0 38), .ref (q0 39), .int (gI o0 40), .ref (q0 41), .ref (q0 42), .ref (q0 43), .ref (q0 44)])), kI G (q0 1) 6100 (gA o0 1), kI G (q0 2) 6100 (gA o0 2), kJ G (q0 3) 2016 (gB o0 3), kJ G (q0 4) 2016 (gB o0 4), kI G (q0 5) 300 (gA o0 5), kI G (q0 6) 400 (gA o0 6), kJ G (q0 28) 10 (gB o0 28), kI G (q0 31) 969 (gA o0 31), kI G (q0 32) 969 (gA o0 32), kI G (q0 33) 969 (gA o0 33), kI G (q0 38) 5 (gA o0 38), kI G (q0 39) 5120 (gA o0 39), kI G (q0 41) 5 (gA o0 41), kZ G (q0 42) 1024 (gA o0 42), kI G (q0 43) 8192 (gA o0 43), kI G (q0 44) 8192 (gA o0 44)] H := hP
      have hD : va_D A [(h0, .inr (11, [.int (gI o0 0), .ref (q0 1), .ref (q0 2), .ref (q0 3), .ref (q0 4), .ref (q0 5), .ref (q0 6), .int (gI o0 7), .int (gI o0 8), .int (gI o0 9), .int (gI o0 10), .int (gI o0 11), .int (gI o0 12), .int (gI o0 13), .int (gI o0 14), .long (gL o0 15), .int (gI o0 16), .int (gI o0 17), .int (gI o0 18), .int (gI o0 19), .int (gI o0 20), .int (gI o0 21), .int (gI o0 22), .int (gI o0 23), .int (gI o0 24), .int (gI o0 25), .int (gI o0 26), .int (gI o0 27), .ref (q0 28), .long (gL o0 29), .int (gI o0 30), .ref (q0 31), .ref (q0 32), .ref (q0 33), .int (gI o0 34), .int (gI o0 35), .int (gI o0 36), .int (gI o0 37), .ref (q0 38), .ref (q0 39), .int (gI o0 40), .ref (q0 41), .ref (q0 42), .ref (q0 43), .ref (q0 44)])), kI G (q0 1) 6100 (gA o0 1), kI G (q0 2) 6100 (gA o0 2), kJ G (q0 3) 2016 (gB o0 3), kJ G (q0 4) 2016 (gB o0 4), kI G (q0 5) 300 (gA o0 5), kI G (q0 6) 400 (gA o0 6), kJ G (q0 28) 10 (gB o0 28), kI G (q0 31) 969 (gA o0 31), kI G (q0 32) 969 (gA o0 32), kI G (q0 33) 969 (gA o0 33), kI G (q0 38) 5 (gA o0 38), kI G (q0 39) 5120 (gA o0 39), kI G (q0 41) 5 (gA o0 41), kZ G (q0 42) 1024 (gA o0 42), kI G (q0 43) 8192 (gA o0 43), kI G (q0 44) 8192 (gA o0 44)] := hD
      refine lv_if_ne (tgt := 67) hx hb d_Md_isShape_62 (by decide) (fun c4 => ?_) (fun c4 => ?_)
      · have h := h.2 c4
        refine lv_iinc (v := (x6 + (1 : Int32))) (lv' := [(6, .int (x6 + (1 : Int32))), (0, .ref h0)]) hx hb d_Md_isShape_67 hl (k := 1) rfl rfl (by decide) rfl (fun ls hl => ?_)
        refine lv_goto (tgt := 40) hx hb d_Md_isShape_70 (by decide) ?_
        have hl := lv_sub (l' := [(0, .ref h0), (6, .int (x6 + (1 : Int32)))]) hl [1, 0] rfl
        have hP : va_P G.1 CL (cw_Md G h0 q0 o0) H := hP
        have hD : va_D A (cw_Md G h0 q0 o0) := hD
        exact ih (x6 + (1 : Int32)) o0 ls H locs hl hP hD hS h
      · have h := h.1 c4
        refine lv_iconst (v := (0 : Int32)) hx hb d_Md_isShape_65 (by decide) ?_
        have hP : va_P G.1 CL (cw_Md G h0 q0 o0) H := hP
        have hD : va_D A (cw_Md G h0 q0 o0) := hD
        exact W.zret (v := (0 : Int32)) hx hb hr rfl (fun t ht hW => ⟨⟨(0 : Int32), o0, rfl, h, by rw [ht]; exact hP, va_K.moved hW.alike hK, hD⟩, hS.F ht⟩) hS.2.2 d_Md_isShape_66
set_option maxHeartbeats 4000000 in
set_option maxRecDepth 100000 in
theorem c_Md_isShape {l : Launch} {G : Gl} {h0 : Nat} {q0 : Nat → Nat} {a0 : Int32} {a1 : Int32} {a2 : Int32} {a3 : Int32} {a4 : Int32} {o0 : Ob} {Q : Int32 → Ob → Prop} (sz : Nat) (h : f_Md_isShape a0 a1 a2 a3 a4 o0 Q) : Met l y_Md_isShape w_Md_isShape rm_Md_isShape (PcW G [.ref h0, .int a0, .int a1, .int a2, .int a3, .int a4] sz (cw_Md G h0 q0 o0)) (va_Qi (fun (r : Int32) (u : Ob) => Q r u) (fun (u : Ob) t => BW G (va_A (cw_Md G h0 q0 o0) sz) (cw_Md G h0 q0 u) t) (va_A (cw_Md G h0 q0 o0) sz)) 0 0 (va_A (cw_Md G h0 q0 o0) sz) := by
  refine Met.ofW (cc := b_Md_isShape) (maxL := 7) (ret := (some .boolean)) (by decide +kernel) rfl ?_
  intro p e s m args below meth c s₁ B hml hv
  obtain ⟨rfl, hsz, hP, hK, hD0, hE⟩ := hv
  have hx := B.exec
  have hb := B.bytes
  have hr := B.returns
  have hts0 := atoms_spec (ws := w_Md_isShape) B.pre
  have hts : ∀ w ∈ gw_tbl, w.before ([.ref h0, .int a0, .int a1, .int a2, .int a3, .int a4]).toArray s = true := fun w hw => hts0 w (List.mem_cons_of_mem _ hw)
  have hown : s.vm.findClass R_Md = some m.cls := findClass_of_methodNamed B.named
  have hlocks := B.notSynchronized
  subst hsz
  have hD := hD0.self (sz := s.heap.size)
  generalize hAe : va_A (cw_Md G h0 q0 o0) s.heap.size = A at hD hE ⊢
  have hA : ∀ q : Nat, s.heap.size ≤ q → A q := fun q h => by rw [← hAe]; exact Or.inr h
  have hS : va_S A s.heap s.heap [] := va_S.rf
  have C : Cx p s m ([.ref h0, .int a0, .int a1, .int a2, .int a3, .int a4]).toArray meth c R_Md b_Md_isShape 7 (some .boolean) G A := ⟨hx, hb, hml, hown, hr, hts, hK, hA, hlocks, hE⟩
  have hl := lv_entry ([.ref h0, .int a0, .int a1, .int a2, .int a3, .int a4]) (n := 7) (Nat.le_of_ble_eq_true rfl)
  rw [lg_entry_eq]
  generalize (lg_sl ([.ref h0, .int a0, .int a1, .int a2, .int a3, .int a4]) ++ List.replicate (7 - (lg_sl ([.ref h0, .int a0, .int a1, .int a2, .int a3, .int a4])).length) Slot.unset).toArray = ls at hl ⊢
  have hl : lv_has ls 7 [(0, .ref h0), (1, .int a0), (2, .int a1), (3, .int a2), (4, .int a3), (5, .int a4)] := hl
  have hD : va_D A [(h0, .inr (11, [.int (gI o0 0), .ref (q0 1), .ref (q0 2), .ref (q0 3), .ref (q0 4), .ref (q0 5), .ref (q0 6), .int (gI o0 7), .int (gI o0 8), .int (gI o0 9), .int (gI o0 10), .int (gI o0 11), .int (gI o0 12), .int (gI o0 13), .int (gI o0 14), .long (gL o0 15), .int (gI o0 16), .int (gI o0 17), .int (gI o0 18), .int (gI o0 19), .int (gI o0 20), .int (gI o0 21), .int (gI o0 22), .int (gI o0 23), .int (gI o0 24), .int (gI o0 25), .int (gI o0 26), .int (gI o0 27), .ref (q0 28), .long (gL o0 29), .int (gI o0 30), .ref (q0 31), .ref (q0 32), .ref (q0 33), .int (gI o0 34), .int (gI o0 35), .int (gI o0 36), .int (gI o0 37), .ref (q0 38), .ref (q0 39), .int (gI o0 40), .ref (q0 41), .ref (q0 42), .ref (q0 43), .ref (q0 44)])), kI G (q0 1) 6100 (gA o0 1), kI G (q0 2) 6100 (gA o0 2), kJ G (q0 3) 2016 (gB o0 3), kJ G (q0 4) 2016 (gB o0 4), kI G (q0 5) 300 (gA o0 5), kI G (q0 6) 400 (gA o0 6), kJ G (q0 28) 10 (gB o0 28), kI G (q0 31) 969 (gA o0 31), kI G (q0 32) 969 (gA o0 32), kI G (q0 33) 969 (gA o0 33), kI G (q0 38) 5 (gA o0 38), kI G (q0 39) 5120 (gA o0 39), kI G (q0 41) 5 (gA o0 41), kZ G (q0 42) 1024 (gA o0 42), kI G (q0 43) 8192 (gA o0 43), kI G (q0 44) 8192 (gA o0 44)] := hD
  unfold f_Md_isShape at h
  suffices key : ∀ (H : Heap) (locs : List Loc), va_P G.1 CL [(h0, .inr (11, [.int (gI o0 0), .ref (q0 1), .ref (q0 2), .ref (q0 3), .ref (q0 4), .ref (q0 5), .ref (q0 6), .int (gI o0 7), .int (gI o0 8), .int (gI o0 9), .int (gI o0 10), .int (gI o0 11), .int (gI o0 12), .int (gI o0 13), .int (gI o0 14), .long (gL o0 15), .int (gI o0 16), .int (gI o0 17), .int (gI o0 18), .int (gI o0 19), .int (gI o0 20), .int (gI o0 21), .int (gI o0 22), .int (gI o0 23), .int (gI o0 24), .int (gI o0 25), .int (gI o0 26), .int (gI o0 27), .ref (q0 28), .long (gL o0 29), .int (gI o0 30), .ref (q0 31), .ref (q0 32), .ref (q0 33), .int (gI o0 34), .int (gI o0 35), .int (gI o0 36), .int (gI o0 37), .ref (q0 38), .ref (q0 39), .int (gI o0 40), .ref (q0 41), .ref (q0 42), .ref (q0 43), .ref (q0 44)])), kI G (q0 1) 6100 (gA o0 1), kI G (q0 2) 6100 (gA o0 2), kJ G (q0 3) 2016 (gB o0 3), kJ G (q0 4) 2016 (gB o0 4), kI G (q0 5) 300 (gA o0 5), kI G (q0 6) 400 (gA o0 6), kJ G (q0 28) 10 (gB o0 28), kI G (q0 31) 969 (gA o0 31), kI G (q0 32) 969 (gA o0 32), kI G (q0 33) 969 (gA o0 33), kI G (q0 38) 5 (gA o0 38), kI G (q0 39) 5120 (gA o0 39), kI G (q0 41) 5 (gA o0 41), kZ G (q0 42) 1024 (gA o0 42), kI G (q0 43) 8192 (gA o0 43), kI G (q0 44) 8192 (gA o0 44)] H → va_S A s.heap H locs → W p l e rm_Md_isShape s m ([.ref h0, .int a0, .int a1, .int a2, .int a3, .int a4]).toArray below meth c H locs 0 0 (MQ below (va_Qi (fun (r : Int32) (u : Ob) => Q r u) (fun (u : Ob) t => BW G A (cw_Md G h0 q0 u) t) A) ([.ref h0, .int a0, .int a1, .int a2, .int a3, .int a4]).toArray s 0 0 A) (F0 m 0 ls []) from key s.heap [] hP hS
  intro H locs hP hS
  refine lv_aload_n hx hb d_Md_isShape_0 rfl (lv_at hl 0 rfl) ?_
  refine va_get (D := G.1) (ci := 11) (v := .ref (q0 38)) (C := R_Md) (T := T_Md) (N := 45) hx hb hts i_Md hown hK hP 0 rfl rfl 38 (by decide) (hts _ wf_Md_48) (fun _ h9 => h9) rfl d_Md_isShape_1 ?_
  refine lv_iconst (v := (0 : Int32)) hx hb d_Md_isShape_4 (by decide) ?_
  refine lv_iload_n hx hb d_Md_isShape_5 rfl (lv_at hl 1 rfl) ?_
  refine xa_iast hx hb hK hP hD hS 11 0 rfl rfl (vp_lit rfl) (k := 0) rfl d_Md_isShape_6 (fun H locs hP hD hS => ?_)
  have hP : va_P G.1 CL [(h0, .inr (11, [.int (gI o0 0), .ref (q0 1), .ref (q0 2), .ref (q0 3), .ref (q0 4), .ref (q0 5), .ref (q0 6), .int (gI o0 7), .int (gI o0 8), .int (gI o0 9), .int (gI o0 10), .int (gI o0 11), .int (gI o0 12), .int (gI o0 13), .int (gI o0 14), .long (gL o0 15), .int (gI o0 16), .int (gI o0 17), .int (gI o0 18), .int (gI o0 19), .int (gI o0 20), .int (gI o0 21), .int (gI o0 22), .int (gI o0 23), .int (gI o0 24), .int (gI o0 25), .int (gI o0 26), .int (gI o0 27), .ref (q0 28), .long (gL o0 29), .int (gI o0 30), .ref (q0 31), .ref (q0 32), .ref (q0 33), .int (gI o0 34), .int (gI o0 35), .int (gI o0 36), .int (gI o0 37), .ref (q0 38), .ref (q0 39), .int (gI o0 40), .ref (q0 41), .ref (q0 42), .ref (q0 43), .ref (q0 44)])), kI G (q0 1) 6100 (gA o0 1), kI G (q0 2) 6100 (gA o0 2), kJ G (q0 3) 2016 (gB o0 3), kJ G (q0 4) 2016 (gB o0 4), kI G (q0 5) 300 (gA o0 5), kI G (q0 6) 400 (gA o0 6), kJ G (q0 28) 10 (gB o0 28), kI G (q0 31) 969 (gA o0 31), kI G (q0 32) 969 (gA o0 32), kI G (q0 33) 969 (gA o0 33), kI G (q0 38) 5 (upd (gA o0 38) 0 a0), kI G (q0 39) 5120 (gA o0 39), kI G (q0 41) 5 (gA o0 41), kZ G (q0 42) 1024 (gA o0 42), kI G (q0 43) 8192 (gA o0 43), kI G (q0 44) 8192 (gA o0 44)] H := hP
  have hD : va_D A [(h0, .inr (11, [.int (gI o0 0), .ref (q0 1), .ref (q0 2), .ref (q0 3), .ref (q0 4), .ref (q0 5), .ref (q0 6), .int (gI o0 7), .int (gI o0 8), .int (gI o0 9), .int (gI o0 10), .int (gI o0 11), .int (gI o0 12), .int (gI o0 13), .int (gI o0 14), .long (gL o0 15), .int (gI o0 16), .int (gI o0 17), .int (gI o0 18), .int (gI o0 19), .int (gI o0 20), .int (gI o0 21), .int (gI o0 22), .int (gI o0 23), .int (gI o0 24), .int (gI o0 25), .int (gI o0 26), .int (gI o0 27), .ref (q0 28), .long (gL o0 29), .int (gI o0 30), .ref (q0 31), .ref (q0 32), .ref (q0 33), .int (gI o0 34), .int (gI o0 35), .int (gI o0 36), .int (gI o0 37), .ref (q0 38), .ref (q0 39), .int (gI o0 40), .ref (q0 41), .ref (q0 42), .ref (q0 43), .ref (q0 44)])), kI G (q0 1) 6100 (gA o0 1), kI G (q0 2) 6100 (gA o0 2), kJ G (q0 3) 2016 (gB o0 3), kJ G (q0 4) 2016 (gB o0 4), kI G (q0 5) 300 (gA o0 5), kI G (q0 6) 400 (gA o0 6), kJ G (q0 28) 10 (gB o0 28), kI G (q0 31) 969 (gA o0 31), kI G (q0 32) 969 (gA o0 32), kI G (q0 33) 969 (gA o0 33), kI G (q0 38) 5 (upd (gA o0 38) 0 a0), kI G (q0 39) 5120 (gA o0 39), kI G (q0 41) 5 (gA o0 41), kZ G (q0 42) 1024 (gA o0 42), kI G (q0 43) 8192 (gA o0 43), kI G (q0 44) 8192 (gA o0 44)] := hD
  refine lv_aload_n hx hb d_Md_isShape_7 rfl (lv_at hl 0 rfl) ?_
  refine va_get (D := G.1) (ci := 11) (v := .ref (q0 38)) (C := R_Md) (T := T_Md) (N := 45) hx hb hts i_Md hown hK hP 0 rfl rfl 38 (by decide) (hts _ wf_Md_48) (fun _ h9 => h9) rfl d_Md_isShape_8 ?_
  refine lv_iconst (v := (1 : Int32)) hx hb d_Md_isShape_11 (by decide) ?_
  refine lv_iload_n hx hb d_Md_isShape_12 rfl (lv_at hl 2 rfl) ?_
  refine xa_iast hx hb hK hP hD hS 11 0 rfl rfl (vp_lit rfl) (k := 1) rfl d_Md_isShape_13 (fun H locs hP hD hS => ?_)
  have hP : va_P G.1 CL [(h0, .inr (11, [.int (gI o0 0), .ref (q0 1), .ref (q0 2), .ref (q0 3), .ref (q0 4), .ref (q0 5), .ref (q0 6), .int (gI o0 7), .int (gI o0 8), .int (gI o0 9), .int (gI o0 10), .int (gI o0 11), .int (gI o0 12), .int (gI o0 13), .int (gI o0 14), .long (gL o0 15), .int (gI o0 16), .int (gI o0 17), .int (gI o0 18), .int (gI o0 19), .int (gI o0 20), .int (gI o0 21), .int (gI o0 22), .int (gI o0 23), .int (gI o0 24), .int (gI o0 25), .int (gI o0 26), .int (gI o0 27), .ref (q0 28), .long (gL o0 29), .int (gI o0 30), .ref (q0 31), .ref (q0 32), .ref (q0 33), .int (gI o0 34), .int (gI o0 35), .int (gI o0 36), .int (gI o0 37), .ref (q0 38), .ref (q0 39), .int (gI o0 40), .ref (q0 41), .ref (q0 42), .ref (q0 43), .ref (q0 44)])), kI G (q0 1) 6100 (gA o0 1), kI G (q0 2) 6100 (gA o0 2), kJ G (q0 3) 2016 (gB o0 3), kJ G (q0 4) 2016 (gB o0 4), kI G (q0 5) 300 (gA o0 5), kI G (q0 6) 400 (gA o0 6), kJ G (q0 28) 10 (gB o0 28), kI G (q0 31) 969 (gA o0 31), kI G (q0 32) 969 (gA o0 32), kI G (q0 33) 969 (gA o0 33), kI G (q0 38) 5 (upd (upd (gA o0 38) 0 a0) 1 a1), kI G (q0 39) 5120 (gA o0 39), kI G (q0 41) 5 (gA o0 41), kZ G (q0 42) 1024 (gA o0 42), kI G (q0 43) 8192 (gA o0 43), kI G (q0 44) 8192 (gA o0 44)] H := hP
  have hD : va_D A [(h0, .inr (11, [.int (gI o0 0), .ref (q0 1), .ref (q0 2), .ref (q0 3), .ref (q0 4), .ref (q0 5), .ref (q0 6), .int (gI o0 7), .int (gI o0 8), .int (gI o0 9), .int (gI o0 10), .int (gI o0 11), .int (gI o0 12), .int (gI o0 13), .int (gI o0 14), .long (gL o0 15), .int (gI o0 16), .int (gI o0 17), .int (gI o0 18), .int (gI o0 19), .int (gI o0 20), .int (gI o0 21), .int (gI o0 22), .int (gI o0 23), .int (gI o0 24), .int (gI o0 25), .int (gI o0 26), .int (gI o0 27), .ref (q0 28), .long (gL o0 29), .int (gI o0 30), .ref (q0 31), .ref (q0 32), .ref (q0 33), .int (gI o0 34), .int (gI o0 35), .int (gI o0 36), .int (gI o0 37), .ref (q0 38), .ref (q0 39), .int (gI o0 40), .ref (q0 41), .ref (q0 42), .ref (q0 43), .ref (q0 44)])), kI G (q0 1) 6100 (gA o0 1), kI G (q0 2) 6100 (gA o0 2), kJ G (q0 3) 2016 (gB o0 3), kJ G (q0 4) 2016 (gB o0 4), kI G (q0 5) 300 (gA o0 5), kI G (q0 6) 400 (gA o0 6), kJ G (q0 28) 10 (gB o0 28), kI G (q0 31) 969 (gA o0 31), kI G (q0 32) 969 (gA o0 32), kI G (q0 33) 969 (gA o0 33), kI G (q0 38) 5 (upd (upd (gA o0 38) 0 a0) 1 a1), kI G (q0 39) 5120 (gA o0 39), kI G (q0 41) 5 (gA o0 41), kZ G (q0 42) 1024 (gA o0 42), kI G (q0 43) 8192 (gA o0 43), kI G (q0 44) 8192 (gA o0 44)] := hD
  refine lv_aload_n hx hb d_Md_isShape_14 rfl (lv_at hl 0 rfl) ?_
  refine va_get (D := G.1) (ci := 11) (v := .ref (q0 38)) (C := R_Md) (T := T_Md) (N := 45) hx hb hts i_Md hown hK hP 0 rfl rfl 38 (by decide) (hts _ wf_Md_48) (fun _ h9 => h9) rfl d_Md_isShape_15 ?_
  refine lv_iconst (v := (2 : Int32)) hx hb d_Md_isShape_18 (by decide) ?_
  refine lv_iload_n hx hb d_Md_isShape_19 rfl (lv_at hl 3 rfl) ?_
  refine xa_iast hx hb hK hP hD hS 11 0 rfl rfl (vp_lit rfl) (k := 2) rfl d_Md_isShape_20 (fun H locs hP hD hS => ?_)
  have hP : va_P G.1 CL [(h0, .inr (11, [.int (gI o0 0), .ref (q0 1), .ref (q0 2), .ref (q0 3), .ref (q0 4), .ref (q0 5), .ref (q0 6), .int (gI o0 7), .int (gI o0 8), .int (gI o0 9), .int (gI o0 10), .int (gI o0 11), .int (gI o0 12), .int (gI o0 13), .int (gI o0 14), .long (gL o0 15), .int (gI o0 16), .int (gI o0 17), .int (gI o0 18), .int (gI o0 19), .int (gI o0 20), .int (gI o0 21), .int (gI o0 22), .int (gI o0 23), .int (gI o0 24), .int (gI o0 25), .int (gI o0 26), .int (gI o0 27), .ref (q0 28), .long (gL o0 29), .int (gI o0 30), .ref (q0 31), .ref (q0 32), .ref (q0 33), .int (gI o0 34), .int (gI o0 35), .int (gI o0 36), .int (gI o0 37), .ref (q0 38), .ref (q0 39), .int (gI o0 40), .ref (q0 41), .ref (q0 42), .ref (q0 43), .ref (q0 44)])), kI G (q0 1) 6100 (gA o0 1), kI G (q0 2) 6100 (gA o0 2), kJ G (q0 3) 2016 (gB o0 3), kJ G (q0 4) 2016 (gB o0 4), kI G (q0 5) 300 (gA o0 5), kI G (q0 6) 400 (gA o0 6), kJ G (q0 28) 10 (gB o0 28), kI G (q0 31) 969 (gA o0 31), kI G (q0 32) 969 (gA o0 32), kI G (q0 33) 969 (gA o0 33), kI G (q0 38) 5 (upd (upd (upd (gA o0 38) 0 a0) 1 a1) 2 a2), kI G (q0 39) 5120 (gA o0 39), kI G (q0 41) 5 (gA o0 41), kZ G (q0 42) 1024 (gA o0 42), kI G (q0 43) 8192 (gA o0 43), kI G (q0 44) 8192 (gA o0 44)] H := hP
  have hD : va_D A [(h0, .inr (11, [.int (gI o0 0), .ref (q0 1), .ref (q0 2), .ref (q0 3), .ref (q0 4), .ref (q0 5), .ref (q0 6), .int (gI o0 7), .int (gI o0 8), .int (gI o0 9), .int (gI o0 10), .int (gI o0 11), .int (gI o0 12), .int (gI o0 13), .int (gI o0 14), .long (gL o0 15), .int (gI o0 16), .int (gI o0 17), .int (gI o0 18), .int (gI o0 19), .int (gI o0 20), .int (gI o0 21), .int (gI o0 22), .int (gI o0 23), .int (gI o0 24), .int (gI o0 25), .int (gI o0 26), .int (gI o0 27), .ref (q0 28), .long (gL o0 29), .int (gI o0 30), .ref (q0 31), .ref (q0 32), .ref (q0 33), .int (gI o0 34), .int (gI o0 35), .int (gI o0 36), .int (gI o0 37), .ref (q0 38), .ref (q0 39), .int (gI o0 40), .ref (q0 41), .ref (q0 42), .ref (q0 43), .ref (q0 44)])), kI G (q0 1) 6100 (gA o0 1), kI G (q0 2) 6100 (gA o0 2), kJ G (q0 3) 2016 (gB o0 3), kJ G (q0 4) 2016 (gB o0 4), kI G (q0 5) 300 (gA o0 5), kI G (q0 6) 400 (gA o0 6), kJ G (q0 28) 10 (gB o0 28), kI G (q0 31) 969 (gA o0 31), kI G (q0 32) 969 (gA o0 32), kI G (q0 33) 969 (gA o0 33), kI G (q0 38) 5 (upd (upd (upd (gA o0 38) 0 a0) 1 a1) 2 a2), kI G (q0 39) 5120 (gA o0 39), kI G (q0 41) 5 (gA o0 41), kZ G (q0 42) 1024 (gA o0 42), kI G (q0 43) 8192 (gA o0 43), kI G (q0 44) 8192 (gA o0 44)] := hD
  refine lv_aload_n hx hb d_Md_isShape_21 rfl (lv_at hl 0 rfl) ?_
  refine va_get (D := G.1) (ci := 11) (v := .ref (q0 38)) (C := R_Md) (T := T_Md) (N := 45) hx hb hts i_Md hown hK hP 0 rfl rfl 38 (by decide) (hts _ wf_Md_48) (fun _ h9 => h9) rfl d_Md_isShape_22 ?_
  refine lv_iconst (v := (3 : Int32)) hx hb d_Md_isShape_25 (by decide) ?_
  refine lv_iload hx hb d_Md_isShape_26 (lv_at hl 4 rfl) ?_
  refine xa_iast hx hb hK hP hD hS 11 0 rfl rfl (vp_lit rfl) (k := 3) rfl d_Md_isShape_28 (fun H locs hP hD hS => ?_)
  have hP : va_P G.1 CL [(h0, .inr (11, [.int (gI o0 0), .ref (q0 1), .ref (q0 2), .ref (q0 3), .ref (q0 4), .ref (q0 5), .ref (q0 6), .int (gI o0 7), .int (gI o0 8), .int (gI o0 9), .int (gI o0 10), .int (gI o0 11), .int (gI o0 12), .int (gI o0 13), .int (gI o0 14), .long (gL o0 15), .int (gI o0 16), .int (gI o0 17), .int (gI o0 18), .int (gI o0 19), .int (gI o0 20), .int (gI o0 21), .int (gI o0 22), .int (gI o0 23), .int (gI o0 24), .int (gI o0 25), .int (gI o0 26), .int (gI o0 27), .ref (q0 28), .long (gL o0 29), .int (gI o0 30), .ref (q0 31), .ref (q0 32), .ref (q0 33), .int (gI o0 34), .int (gI o0 35), .int (gI o0 36), .int (gI o0 37), .ref (q0 38), .ref (q0 39), .int (gI o0 40), .ref (q0 41), .ref (q0 42), .ref (q0 43), .ref (q0 44)])), kI G (q0 1) 6100 (gA o0 1), kI G (q0 2) 6100 (gA o0 2), kJ G (q0 3) 2016 (gB o0 3), kJ G (q0 4) 2016 (gB o0 4), kI G (q0 5) 300 (gA o0 5), kI G (q0 6) 400 (gA o0 6), kJ G (q0 28) 10 (gB o0 28), kI G (q0 31) 969 (gA o0 31), kI G (q0 32) 969 (gA o0 32), kI G (q0 33) 969 (gA o0 33), kI G (q0 38) 5 (upd (upd (upd (upd (gA o0 38) 0 a0) 1 a1) 2 a2) 3 a3), kI G (q0 39) 5120 (gA o0 39), kI G (q0 41) 5 (gA o0 41), kZ G (q0 42) 1024 (gA o0 42), kI G (q0 43) 8192 (gA o0 43), kI G (q0 44) 8192 (gA o0 44)] H := hP
  have hD : va_D A [(h0, .inr (11, [.int (gI o0 0), .ref (q0 1), .ref (q0 2), .ref (q0 3), .ref (q0 4), .ref (q0 5), .ref (q0 6), .int (gI o0 7), .int (gI o0 8), .int (gI o0 9), .int (gI o0 10), .int (gI o0 11), .int (gI o0 12), .int (gI o0 13), .int (gI o0 14), .long (gL o0 15), .int (gI o0 16), .int (gI o0 17), .int (gI o0 18), .int (gI o0 19), .int (gI o0 20), .int (gI o0 21), .int (gI o0 22), .int (gI o0 23), .int (gI o0 24), .int (gI o0 25), .int (gI o0 26), .int (gI o0 27), .ref (q0 28), .long (gL o0 29), .int (gI o0 30), .ref (q0 31), .ref (q0 32), .ref (q0 33), .int (gI o0 34), .int (gI o0 35), .int (gI o0 36), .int (gI o0 37), .ref (q0 38), .ref (q0 39), .int (gI o0 40), .ref (q0 41), .ref (q0 42), .ref (q0 43), .ref (q0 44)])), kI G (q0 1) 6100 (gA o0 1), kI G (q0 2) 6100 (gA o0 2), kJ G (q0 3) 2016 (gB o0 3), kJ G (q0 4) 2016 (gB o0 4), kI G (q0 5) 300 (gA o0 5), kI G (q0 6) 400 (gA o0 6), kJ G (q0 28) 10 (gB o0 28), kI G (q0 31) 969 (gA o0 31), kI G (q0 32) 969 (gA o0 32), kI G (q0 33) 969 (gA o0 33), kI G (q0 38) 5 (upd (upd (upd (upd (gA o0 38) 0 a0) 1 a1) 2 a2) 3 a3), kI G (q0 39) 5120 (gA o0 39), kI G (q0 41) 5 (gA o0 41), kZ G (q0 42) 1024 (gA o0 42), kI G (q0 43) 8192 (gA o0 43), kI G (q0 44) 8192 (gA o0 44)] := hD
  refine lv_aload_n hx hb d_Md_isShape_29 rfl (lv_at hl 0 rfl) ?_
  refine va_get (D := G.1) (ci := 11) (v := .ref (q0 38)) (C := R_Md) (T := T_Md) (N := 45) hx hb hts i_Md hown hK hP 0 rfl rfl 38 (by decide) (hts _ wf_Md_48) (fun _ h9 => h9) rfl d_Md_isShape_30 ?_
  refine lv_iconst (v := (4 : Int32)) hx hb d_Md_isShape_33 (by decide) ?_
  refine lv_iload hx hb d_Md_isShape_34 (lv_at hl 5 rfl) ?_
  refine xa_iast hx hb hK hP hD hS 11 0 rfl rfl (vp_lit rfl) (k := 4) rfl d_Md_isShape_36 (fun H locs hP hD hS => ?_)
  have hP : va_P G.1 CL [(h0, .inr (11, [.int (gI o0 0), .ref (q0 1), .ref (q0 2), .ref (q0 3), .ref (q0 4), .ref (q0 5), .ref (q0 6), .int (gI o0 7), .int (gI o0 8), .int (gI o0 9), .int (gI o0 10), .int (gI o0 11), .int (gI o0 12), .int (gI o0 13), .int (gI o0 14), .long (gL o0 15), .int (gI o0 16), .int (gI o0 17), .int (gI o0 18), .int (gI o0 19), .int (gI o0 20), .int (gI o0 21), .int (gI o0 22), .int (gI o0 23), .int (gI o0 24), .int (gI o0 25), .int (gI o0 26), .int (gI o0 27), .ref (q0 28), .long (gL o0 29), .int (gI o0 30), .ref (q0 31), .ref (q0 32), .ref (q0 33), .int (gI o0 34), .int (gI o0 35), .int (gI o0 36), .int (gI o0 37), .ref (q0 38), .ref (q0 39), .int (gI o0 40), .ref (q0 41), .ref (q0 42), .ref (q0 43), .ref (q0 44)])), kI G (q0 1) 6100 (gA o0 1), kI G (q0 2) 6100 (gA o0 2), kJ G (q0 3) 2016 (gB o0 3), kJ G (q0 4) 2016 (gB o0 4), kI G (q0 5) 300 (gA o0 5), kI G (q0 6) 400 (gA o0 6), kJ G (q0 28) 10 (gB o0 28), kI G (q0 31) 969 (gA o0 31), kI G (q0 32) 969 (gA o0 32), kI G (q0 33) 969 (gA o0 33), kI G (q0 38) 5 (upd (upd (upd (upd (upd (gA o0 38) 0 a0) 1 a1) 2 a2) 3 a3) 4 a4), kI G (q0 39) 5120 (gA o0 39), kI G (q0 41) 5 (gA o0 41), kZ G (q0 42) 1024 (gA o0 42), kI G (q0 43) 8192 (gA o0 43), kI G (q0 44) 8192 (gA o0 44)] H := hP
  have hD : va_D A [(h0, .inr (11, [.int (gI o0 0), .ref (q0 1), .ref (q0 2), .ref (q0 3), .ref (q0 4), .ref (q0 5), .ref (q0 6), .int (gI o0 7), .int (gI o0 8), .int (gI o0 9), .int (gI o0 10), .int (gI o0 11), .int (gI o0 12), .int (gI o0 13), .int (gI o0 14), .long (gL o0 15), .int (gI o0 16), .int (gI o0 17), .int (gI o0 18), .int (gI o0 19), .int (gI o0 20), .int (gI o0 21), .int (gI o0 22), .int (gI o0 23), .int (gI o0 24), .int (gI o0 25), .int (gI o0 26), .int (gI o0 27), .ref (q0 28), .long (gL o0 29), .int (gI o0 30), .ref (q0 31), .ref (q0 32), .ref (q0 33), .int (gI o0 34), .int (gI o0 35), .int (gI o0 36), .int (gI o0 37), .ref (q0 38), .ref (q0 39), .int (gI o0 40), .ref (q0 41), .ref (q0 42), .ref (q0 43), .ref (q0 44)])), kI G (q0 1) 6100 (gA o0 1), kI G (q0 2) 6100 (gA o0 2), kJ G (q0 3) 2016 (gB o0 3), kJ G (q0 4) 2016 (gB o0 4), kI G (q0 5) 300 (gA o0 5), kI G (q0 6) 400 (gA o0 6), kJ G (q0 28) 10 (gB o0 28), kI G (q0 31) 969 (gA o0 31), kI G (q0 32) 969 (gA o0 32), kI G (q0 33) 969 (gA o0 33), kI G (q0 38) 5 (upd (upd (upd (upd (upd (gA o0 38) 0 a0) 1 a1) 2 a2) 3 a3) 4 a4), kI G (q0 39) 5120 (gA o0 39), kI G (q0 41) 5 (gA o0 41), kZ G (q0 42) 1024 (gA o0 42), kI G (q0 43) 8192 (gA o0 43), kI G (q0 44) 8192 (gA o0 44)] := hD
  refine lv_iconst (v := (0 : Int32)) hx hb d_Md_isShape_37 (by decide) ?_
  refine lv_istore (lv' := [(6, .int (0 : Int32)), (0, .ref h0), (1, .int a0), (2, .int a1), (3, .int a2), (4, .int a3), (5, .int a4)]) hx hb d_Md_isShape_38 hl (by decide) rfl (fun ls hl => ?_)
  have hl := lv_sub (l' := [(0, .ref h0), (6, .int (0 : Int32))]) hl [1, 0] rfl
  have hP : va_P G.1 CL (cw_Md G h0 q0 (sA o0 38 (upd (upd (upd (upd (upd (gA o0 38) 0 a0) 1 a1) 2 a2) 3 a3) 4 a4))) H := hP
  have hD : va_D A (cw_Md G h0 q0 (sA o0 38 (upd (upd (upd (upd (upd (gA o0 38) 0 a0) 1 a1) 2 a2) 3 a3) 4 a4))) := hD
  obtain ⟨w, h⟩ := h
  exact t_Md_isShape_40 Q C w (0 : Int32) (sA o0 38 (upd (upd (upd (upd (upd (gA o0 38) 0 a0) 1 a1) 2 a2) 3 a3) 4 a4)) ls _ locs hl hP hD hS h
abbrev b_Md_aboveOf : ByteArray := prog_14_method_47_code
def y_Md_aboveOf : MethodName := ⟨R_Md, "aboveOf", "(I)I"⟩
abbrev w_Md_aboveOf : List Cond := Cond.code y_Md_aboveOf b_Md_aboveOf 13 (some .int) :: gw_tbl
theorem d_Md_aboveOf_0 : decode b_Md_aboveOf 0 = .ok (.lconst 0, 1) := by decide +kernel
theorem d_Md_aboveOf_1 : decode b_Md_aboveOf 1 = .ok (.lstore_n 2, 1) := by decide +kernel
theorem d_Md_aboveOf_2 : decode b_Md_aboveOf 2 = .ok (.lconst 1, 1) := by decide +kernel
theorem d_Md_aboveOf_3 : decode b_Md_aboveOf 3 = .ok (.lstore 4, 2) := by decide +kernel
theorem d_Md_aboveOf_5 : decode b_Md_aboveOf 5 = .ok (.iconst 0, 1) := by decide +kernel
theorem d_Md_aboveOf_6 : decode b_Md_aboveOf 6 = .ok (.istore 6, 2) := by decide +kernel
theorem d_Md_aboveOf_8 : decode b_Md_aboveOf 8 = .ok (.iconst 1, 1) := by decide +kernel
theorem d_Md_aboveOf_9 : decode b_Md_aboveOf 9 = .ok (.istore 7, 2) := by decide +kernel
theorem d_Md_aboveOf_11 : decode b_Md_aboveOf 11 = .ok (.aload_n 0, 1) := by decide +kernel
theorem d_Md_aboveOf_12 : decode b_Md_aboveOf 12 = .ok (.getfield 67, 3) := by decide +kernel
theorem d_Md_aboveOf_15 : decode b_Md_aboveOf 15 = .ok (.iconst 1, 1) := by decide +kernel
theorem d_Md_aboveOf_16 : decode b_Md_aboveOf 16 = .ok (.isub, 1) := by decide +kernel
theorem d_Md_aboveOf_17 : decode b_Md_aboveOf 17 = .ok (.istore 8, 2) := by decide +kernel
theorem d_Md_aboveOf_19 : decode b_Md_aboveOf 19 = .ok (.iload 8, 2) := by decide +kernel
theorem d_Md_aboveOf_21 : decode b_Md_aboveOf 21 = .ok (.ifCond .lt 128, 3) := by decide +kernel
theorem d_Md_aboveOf_24 : decode b_Md_aboveOf 24 = .ok (.ldc2_w 259, 3) := by decide +kernel
theorem d_Md_aboveOf_27 : decode b_Md_aboveOf 27 = .ok (.iload_n 1, 1) := by decide +kernel
theorem d_Md_aboveOf_28 : decode b_Md_aboveOf 28 = .ok (.i2l, 1) := by decide +kernel
theorem d_Md_aboveOf_29 : decode b_Md_aboveOf 29 = .ok (.lmul, 1) := by decide +kernel
theorem d_Md_aboveOf_30 : decode b_Md_aboveOf 30 = .ok (.lload_n 2, 1) := by decide +kernel
theorem d_Md_aboveOf_31 : decode b_Md_aboveOf 31 = .ok (.lmul, 1) := by decide +kernel
theorem d_Md_aboveOf_32 : decode b_Md_aboveOf 32 = .ok (.ldc2_w 261, 3) := by decide +kernel
theorem d_Md_aboveOf_35 : decode b_Md_aboveOf 35 = .ok (.iload_n 1, 1) := by decide +kernel
theorem d_Md_aboveOf_36 : decode b_Md_aboveOf 36 = .ok (.iload_n 1, 1) := by decide +kernel
theorem d_Md_aboveOf_37 : decode b_Md_aboveOf 37 = .ok (.imul, 1) := by decide +kernel
theorem d_Md_aboveOf_38 : decode b_Md_aboveOf 38 = .ok (.i2l, 1) := by decide +kernel
theorem d_Md_aboveOf_39 : decode b_Md_aboveOf 39 = .ok (.lsub, 1) := by decide +kernel
theorem d_Md_aboveOf_40 : decode b_Md_aboveOf 40 = .ok (.lload 4, 2) := by decide +kernel
theorem d_Md_aboveOf_42 : decode b_Md_aboveOf 42 = .ok (.lmul, 1) := by decide +kernel
theorem d_Md_aboveOf_43 : decode b_Md_aboveOf 43 = .ok (.lsub, 1) := by decide +kernel
theorem d_Md_aboveOf_44 : decode b_Md_aboveOf 44 = .ok (.lstore 9, 2) := by decide +kernel
theorem d_Md_aboveOf_46 : decode b_Md_aboveOf 46 = .ok (.ldc2_w 259, 3) := by decide +kernel
theorem d_Md_aboveOf_49 : decode b_Md_aboveOf 49 = .ok (.iload_n 1, 1) := by decide +kernel
theorem d_Md_aboveOf_50 : decode b_Md_aboveOf 50 = .ok (.i2l, 1) := by decide +kernel
theorem d_Md_aboveOf_51 : decode b_Md_aboveOf 51 = .ok (.lmul, 1) := by decide +kernel
theorem d_Md_aboveOf_52 : decode b_Md_aboveOf 52 = .ok (.lload 4, 2) := by decide +kernel
theorem d_Md_aboveOf_54 : decode b_Md_aboveOf 54 = .ok (.lmul, 1) := by decide +kernel
theorem d_Md_aboveOf_55 : decode b_Md_aboveOf 55 = .ok (.ldc2_w 261, 3) := by decide +kernel
theorem d_Md_aboveOf_58 : decode b_Md_aboveOf 58 = .ok (.lload_n 2, 1) := by decide +kernel
theorem d_Md_aboveOf_59 : decode b_Md_aboveOf 59 = .ok (.lmul, 1) := by decide +kernel
theorem d_Md_aboveOf_60 : decode b_Md_aboveOf 60 = .ok (.ladd, 1) := by decide +kernel
theorem d_Md_aboveOf_61 : decode b_Md_aboveOf 61 = .ok (.lstore 11, 2) := by decide +kernel
theorem d_Md_aboveOf_63 : decode b_Md_aboveOf 63 = .ok (.lload 9, 2) := by decide +kernel
theorem d_Md_aboveOf_65 : decode b_Md_aboveOf 65 = .ok (.lstore_n 2, 1) := by decide +kernel
theorem d_Md_aboveOf_66 : decode b_Md_aboveOf 66 = .ok (.lload 11, 2) := by decide +kernel
theorem d_Md_aboveOf_68 : decode b_Md_aboveOf 68 = .ok (.lstore 4, 2) := by decide +kernel
theorem d_Md_aboveOf_70 : decode b_Md_aboveOf 70 = .ok (.lload 4, 2) := by decide +kernel
theorem d_Md_aboveOf_72 : decode b_Md_aboveOf 72 = .ok (.lconst 0, 1) := by decide +kernel
theorem d_Md_aboveOf_73 : decode b_Md_aboveOf 73 = .ok (.lcmp, 1) := by decide +kernel
theorem d_Md_aboveOf_74 : decode b_Md_aboveOf 74 = .ok (.ifCond .eq 35, 3) := by decide +kernel
theorem d_Md_aboveOf_77 : decode b_Md_aboveOf 77 = .ok (.lload 4, 2) := by decide +kernel
theorem d_Md_aboveOf_79 : decode b_Md_aboveOf 79 = .ok (.lconst 0, 1) := by decide +kernel
theorem d_Md_aboveOf_80 : decode b_Md_aboveOf 80 = .ok (.lcmp, 1) := by decide +kernel
theorem d_Md_aboveOf_81 : decode b_Md_aboveOf 81 = .ok (.ifCond .le 7, 3) := by decide +kernel
theorem d_Md_aboveOf_84 : decode b_Md_aboveOf 84 = .ok (.iconst 1, 1) := by decide +kernel
theorem d_Md_aboveOf_85 : decode b_Md_aboveOf 85 = .ok (.goto 4, 3) := by decide +kernel
theorem d_Md_aboveOf_88 : decode b_Md_aboveOf 88 = .ok (.iconst 0, 1) := by decide +kernel
theorem d_Md_aboveOf_89 : decode b_Md_aboveOf 89 = .ok (.iload 7, 2) := by decide +kernel
theorem d_Md_aboveOf_91 : decode b_Md_aboveOf 91 = .ok (.if_icmp .eq 18, 3) := by decide +kernel
theorem d_Md_aboveOf_94 : decode b_Md_aboveOf 94 = .ok (.iinc 6 1, 3) := by decide +kernel
theorem d_Md_aboveOf_97 : decode b_Md_aboveOf 97 = .ok (.iload 7, 2) := by decide +kernel
theorem d_Md_aboveOf_99 : decode b_Md_aboveOf 99 = .ok (.ifCond .ne 7, 3) := by decide +kernel
theorem d_Md_aboveOf_102 : decode b_Md_aboveOf 102 = .ok (.iconst 1, 1) := by decide +kernel
theorem d_Md_aboveOf_103 : decode b_Md_aboveOf 103 = .ok (.goto 4, 3) := by decide +kernel
theorem d_Md_aboveOf_106 : decode b_Md_aboveOf 106 = .ok (.iconst 0, 1) := by decide +kernel
theorem d_Md_aboveOf_107 : decode b_Md_aboveOf 107 = .ok (.istore 7, 2) := by decide +kernel
theorem d_Md_aboveOf_109 : decode b_Md_aboveOf 109 = .ok (.iload 8, 2) := by decide +kernel
theorem d_Md_aboveOf_111 : decode b_Md_aboveOf 111 = .ok (.ifCond .ne 6, 3) := by decide +kernel
theorem d_Md_aboveOf_114 : decode b_Md_aboveOf 114 = .ok (.goto 29, 3) := by decide +kernel
theorem d_Md_aboveOf_117 : decode b_Md_aboveOf 117 = .ok (.lload_n 2, 1) := by decide +kernel
theorem d_Md_aboveOf_118 : decode b_Md_aboveOf 118 = .ok (.aload_n 0, 1) := by decide +kernel
theorem d_Md_aboveOf_119 : decode b_Md_aboveOf 119 = .ok (.getfield 48, 3) := by decide +kernel
theorem d_Md_aboveOf_122 : decode b_Md_aboveOf 122 = .ok (.iload 8, 2) := by decide +kernel
theorem d_Md_aboveOf_124 : decode b_Md_aboveOf 124 = .ok (.iconst 1, 1) := by decide +kernel
theorem d_Md_aboveOf_125 : decode b_Md_aboveOf 125 = .ok (.isub, 1) := by decide +kernel
theorem d_Md_aboveOf_126 : decode b_Md_aboveOf 126 = .ok (.iaload, 1) := by decide +kernel
theorem d_Md_aboveOf_127 : decode b_Md_aboveOf 127 = .ok (.i2l, 1) := by decide +kernel
theorem d_Md_aboveOf_128 : decode b_Md_aboveOf 128 = .ok (.lmul, 1) := by decide +kernel
theorem d_Md_aboveOf_129 : decode b_Md_aboveOf 129 = .ok (.lstore_n 2, 1) := by decide +kernel
theorem d_Md_aboveOf_130 : decode b_Md_aboveOf 130 = .ok (.lload 4, 2) := by decide +kernel
theorem d_Md_aboveOf_132 : decode b_Md_aboveOf 132 = .ok (.aload_n 0, 1) := by decide +kernel
theorem d_Md_aboveOf_133 : decode b_Md_aboveOf 133 = .ok (.getfield 48, 3) := by decide +kernel
theorem d_Md_aboveOf_136 : decode b_Md_aboveOf 136 = .ok (.iload 8, 2) := by decide +kernel
theorem d_Md_aboveOf_138 : decode b_Md_aboveOf 138 = .ok (.iaload, 1) := by decide +kernel
theorem d_Md_aboveOf_139 : decode b_Md_aboveOf 139 = .ok (.i2l, 1) := by decide +kernel
theorem d_Md_aboveOf_140 : decode b_Md_aboveOf 140 = .ok (.lmul, 1) := by decide +kernel
theorem d_Md_aboveOf_141 : decode b_Md_aboveOf 141 = .ok (.lstore 4, 2) := by decide +kernel
theorem d_Md_aboveOf_143 : decode b_Md_aboveOf 143 = .ok (.iinc 8 (-1), 3) := by decide +kernel
theorem d_Md_aboveOf_146 : decode b_Md_aboveOf 146 = .ok (.goto (-127), 3) := by decide +kernel
theorem d_Md_aboveOf_149 : decode b_Md_aboveOf 149 = .ok (.iload 6, 2) := by decide +kernel
theorem d_Md_aboveOf_151 : decode b_Md_aboveOf 151 = .ok (.ireturn, 1) := by decide +kernel
theorem wc_Md_259 : Cond.constantLong R_Md 259 (20) ∈ gw_tbl := gw_tb (List.mem_of_getElem? (i := 1290) (by decide +kernel)) rfl
theorem wc_Md_261 : Cond.constantLong R_Md 261 (400) ∈ gw_tbl := gw_tb (List.mem_of_getElem? (i := 1291) (by decide +kernel)) rfl
def f_Md_aboveOf_109 (o0 : Ob) (k19 : Int32 → Int64 → Int64 → Int32 → Int32 → Int32 → Prop) (Q : Int32 → Prop) (x1 : Int32) (x2 : Int64) (x4 : Int64) (x6 : Int32) (x7 : Int32) (x8 : Int32) : Prop := (x8 = 0 → (k19 x1 x2 x4 x6 x7 (x8 + (-1 : Int32)))) ∧ (¬ x8 = 0 → ((vp_in (x8 - (1 : Int32)) 5) ∧ (∀ y3 : Int32, y3 = ((gA o0 38) ((x8 - (1 : Int32)).toNatClampNeg)) → ((vp_in x8 5) ∧ (k19 x1 (x2 * (y3.toInt64)) (x4 * (((gA o0 38) x8.toNatClampNeg).toInt64)) x6 x7 (x8 + (-1 : Int32)))))))
def f_Md_aboveOf_19 (o0 : Ob) (Q : Int32 → Prop) : Nat → Int32 → Int64 → Int64 → Int32 → Int32 → Int32 → Prop
  | 0, _, _, _, _, _, _ => False
  | n + 1, x1, x2, x4, x6, x7, x8 => (x8 < 0 → (Q x6)) ∧ (¬ x8 < 0 → (∀ y6 : Int64, y6 = ((((20 : Int64) * (x1.toInt64)) * x2) - (((400 : Int64) - ((x1 * x1).toInt64)) * x4)) → (∀ y7 : Int64, y7 = ((((20 : Int64) * (x1.toInt64)) * x4) + ((400 : Int64) * x2)) → (((lg_cmp y7 (0 : Int64)) = 0 → (f_Md_aboveOf_109 o0 (f_Md_aboveOf_19 o0 Q n) Q x1 y6 y7 x6 x7 x8)) ∧ (¬ (lg_cmp y7 (0 : Int64)) = 0 → (((lg_cmp y7 (0 : Int64)) ≤ 0 → (((0 : Int32) = x7 → (f_Md_aboveOf_109 o0 (f_Md_aboveOf_19 o0 Q n) Q x1 y6 y7 x6 x7 x8)) ∧ (¬ (0 : Int32) = x7 → ((x7 = 0 → (f_Md_aboveOf_109 o0 (f_Md_aboveOf_19 o0 Q n) Q x1 y6 y7 (x6 + (1 : Int32)) (1 : Int32) x8)) ∧ (¬ x7 = 0 → (f_Md_aboveOf_109 o0 (f_Md_aboveOf_19 o0 Q n) Q x1 y6 y7 (x6 + (1 : Int32)) (0 : Int32) x8)))))) ∧ (¬ (lg_cmp y7 (0 : Int64)) ≤ 0 → (((1 : Int32) = x7 → (f_Md_aboveOf_109 o0 (f_Md_aboveOf_19 o0 Q n) Q x1 y6 y7 x6 x7 x8)) ∧ (¬ (1 : Int32) = x7 → ((x7 = 0 → (f_Md_aboveOf_109 o0 (f_Md_aboveOf_19 o0 Q n) Q x1 y6 y7 (x6 + (1 : Int32)) (1 : Int32) x8)) ∧ (¬ x7 = 0 → (f_Md_aboveOf_109 o0 (f_Md_aboveOf_19 o0 Q n) Q x1 y6 y7 (x6 + (1 : Int32)) (0 : Int32) x8))))))))))))
def f_Md_aboveOf (a0 : Int32) (o0 : Ob) (Q : Int32 → Prop) : Prop := (∃ w, f_Md_aboveOf_19 o0 Q w a0 (0 : Int64) (1 : Int64) (0 : Int32) (1 : Int32) ((gI o0 0) - (1 : Int32)))
abbrev rm_Md_aboveOf : Room := { frames := 0, cells := 0, slots := 0, locals := 0 }
set_option maxHeartbeats 4000000 in
set_option maxRecDepth 100000 in
theorem t_Md_aboveOf_109 {p : Program} {l : Launch} {e : Env} {s : State} {m : MethodId} {args : Array Value} {below : List Frame} {meth : Method} {c : Code} {A : Nat → Prop} {G : Gl} {h0 : Nat} {q0 : Nat → Nat} (o0 : Ob) (k19 : Int32 → Int64 → Int64 → Int32 → Int32 → Int32 → Prop) (Q : Int32 → Prop) (C : Cx p s m args meth c R_Md b_Md_aboveOf 13 (some .int) G A)
    (hk19 : ∀ (x1 : Int32) (x2 : Int64) (x4 : Int64) (x6 : Int32) (x7 : Int32) (x8 : Int32) (ls : Array Slot) (H : Heap) (locs : List Loc), lv_has ls 13 [(0, .ref h0), (1, .int x1), (2, .long x2), (4, .long x4), (6, .int x6), (7, .int x7), (8, .int x8)] → va_P G.1 CL (cw_Md G h0 q0 o0) H → va_D A (cw_Md G h0 q0 o0) → va_S A s.heap H locs → k19 x1 x2 x4 x6 x7 x8 → W p l e rm_Md_aboveOf s m args below meth c H locs 0 0 (MQ below (va_Qi (fun (r : Int32) (u : Unit) => Q r) (fun (u : Unit) t => BW G A (cw_Md G h0 q0 o0) t) A) args s 0 0 A) (F0 m 19 ls [])) :
    ∀ (x1 : Int32) (x2 : Int64) (x4 : Int64) (x6 : Int32) (x7 : Int32) (x8 : Int32) (ls : Array Slot) (H : Heap) (locs : List Loc), lv_has ls 13 [(0, .ref h0), (1, .int x1), (2, .long x2), (4, .long x4), (6, .int x6), (7, .int x7), (8, .int x8)] → va_P G.1 CL (cw_Md G h0 q0 o0) H → va_D A (cw_Md G h0 q0 o0) → va_S A s.heap H locs → f_Md_aboveOf_109 o0 k19 Q x1 x2 x4 x6 x7 x8 → W p l e rm_Md_aboveOf s m args below meth c H locs 0 0 (MQ below (va_Qi (fun (r : Int32) (u : Unit) => Q r) (fun (u : Unit) t => BW G A (cw_Md G h0 q0 o0) t) A) args s 0 0 A) (F0 m 109 ls []) := by
  obtain ⟨hx, hb, hml, hown, hr, hts, hK, hA, hlocks, hE⟩ := id C
  intro x1 x2 x4 x6 x7 x8 ls H locs hl hP hD hS h
  have hP : va_P G.1 CL [(h0, .inr (11, [.int (gI o0 0), .ref (q0 1), .ref (q0 2), .ref (q0 3), .ref (q0 4), .ref (q0 5), .ref (q0 6), .int (gI o0 7), .int (gI o0 8), .int (gI o0 9), .int (gI o0 10), .int (gI o0 11), .int (gI o0 12), .int (gI o0 13), .int (gI o0 14), .long (gL o0 15), .int (gI o0 16), .int (gI o0 17), .int (gI o0 18), .int (gI o0 19), .int (gI o0 20), .int (gI o0 21), .int (gI o0 22), .int (gI o0 23), .int (gI o0 24), .int (gI o0 25), .int (gI o0 26), .int (gI o0 27), .ref (q0 28), .long (gL o0 29), .int (gI o0 30), .ref (q0 31), .ref (q0 32), .ref (q0 33), .int (gI o0 34), .int (gI o0 35), .int (gI o0 36), .int (gI o0 37), .ref (q0 38), .ref (q0 39), .int (gI o0 40), .ref (q0 41), .ref (q0 42), .ref (q0 43), .ref (q0 44)])), kI G (q0 1) 6100 (gA o0 1), kI G (q0 2) 6100 (gA o0 2), kJ G (q0 3) 2016 (gB o0 3), kJ G (q0 4) 2016 (gB o0 4), kI G (q0 5) 300 (gA o0 5), kI G (q0 6) 400 (gA o0 6), kJ G (q0 28) 10 (gB o0 28), kI G (q0 31) 969 (gA o0 31), kI G (q0 32) 969 (gA o0 32), kI G (q0 33) 969 (gA o0 33), kI G (q0 38) 5 (gA o0 38), kI G (q0 39) 5120 (gA o0 39), kI G (q0 41) 5 (gA o0 41), kZ G (q0 42) 1024 (gA o0 42), kI G (q0 43) 8192 (gA o0 43), kI G (q0 44) 8192 (gA o0 44)] H := hP
  have hD : va_D A [(h0, .inr (11, [.int (gI o0 0), .ref (q0 1), .ref (q0 2), .ref (q0 3), .ref (q0 4), .ref (q0 5), .ref (q0 6), .int (gI o0 7), .int (gI o0 8), .int (gI o0 9), .int (gI o0 10), .int (gI o0 11), .int (gI o0 12), .int (gI o0 13), .int (gI o0 14), .long (gL o0 15), .int (gI o0 16), .int (gI o0 17), .int (gI o0 18), .int (gI o0 19), .int (gI o0 20), .int (gI o0 21), .int (gI o0 22), .int (gI o0 23), .int (gI o0 24), .int (gI o0 25), .int (gI o0 26), .int (gI o0 27), .ref (q0 28), .long (gL o0 29), .int (gI o0 30), .ref (q0 31), .ref (q0 32), .ref (q0 33), .int (gI o0 34), .int (gI o0 35), .int (gI o0 36), .int (gI o0 37), .ref (q0 38), .ref (q0 39), .int (gI o0 40), .ref (q0 41), .ref (q0 42), .ref (q0 43), .ref (q0 44)])), kI G (q0 1) 6100 (gA o0 1), kI G (q0 2) 6100 (gA o0 2), kJ G (q0 3) 2016 (gB o0 3), kJ G (q0 4) 2016 (gB o0 4), kI G (q0 5) 300 (gA o0 5), kI G (q0 6) 400 (gA o0 6), kJ G (q0 28) 10 (gB o0 28), kI G (q0 31) 969 (gA o0 31), kI G (q0 32) 969 (gA o0 32), kI G (q0 33) 969 (gA o0 33), kI G (q0 38) 5 (gA o0 38), kI G (q0 39) 5120 (gA o0 39), kI G (q0 41) 5 (gA o0 41), kZ G (q0 42) 1024 (gA o0 42), kI G (q0 43) 8192 (gA o0 43), kI G (q0 44) 8192 (gA o0 44)] := hD
  unfold f_Md_aboveOf_109 at h
  refine lv_iload hx hb d_Md_aboveOf_109 (lv_at hl 6 rfl) ?_
  refine lv_if_ne (tgt := 117) hx hb d_Md_aboveOf_111 (by decide) (fun c1 => ?_) (fun c1 => ?_)
  · have h := h.2 c1
    refine lv_lload_n hx hb d_Md_aboveOf_117 rfl (lv_at hl 2 rfl) ?_
    refine lv_aload_n hx hb d_Md_aboveOf_118 rfl (lv_at hl 0 rfl) ?_
    refine va_get (D := G.1) (ci := 11) (v := .ref (q0 38)) (C := R_Md) (T := T_Md) (N := 45) hx hb hts i_Md hown hK hP 0 rfl rfl 38 (by decide) (hts _ wf_Md_48) (fun _ h9 => h9) rfl d_Md_aboveOf_119 ?_
    refine lv_iload hx hb d_Md_aboveOf_122 (lv_at hl 6 rfl) ?_
    refine lv_iconst (v := (1 : Int32)) hx hb d_Md_aboveOf_124 (by decide) ?_
    refine lv_isub hx hb d_Md_aboveOf_125 ?_
    have g2 := h.1
    have h := h.2
    refine xa_iald hx hb hK hP 11 0 rfl rfl g2 (k := (x8 - (1 : Int32)).toNatClampNeg) rfl d_Md_aboveOf_126 ?_
    refine lv_topi (fun y3 ey3 => ?_)
    have h := h y3 ey3
    refine lv_i2l (v := (y3.toInt64)) hx hb d_Md_aboveOf_127 rfl ?_
    refine lv_lmul hx hb d_Md_aboveOf_128 ?_
    refine lv_lstore_n (lv' := [(2, .long (x2 * (y3.toInt64))), (0, .ref h0), (1, .int x1), (4, .long x4), (6, .int x6), (7, .int x7), (8, .int x8)]) hx hb d_Md_aboveOf_129 rfl hl (by decide) rfl (fun ls hl => ?_)
    refine lv_lload hx hb d_Md_aboveOf_130 (lv_at hl 3 rfl) ?_
    refine lv_aload_n hx hb d_Md_aboveOf_132 rfl (lv_at hl 1 rfl) ?_
    refine va_get (D := G.1) (ci := 11) (v := .ref (q0 38)) (C := R_Md) (T := T_Md) (N := 45) hx hb hts i_Md hown hK hP 0 rfl rfl 38 (by decide) (hts _ wf_Md_48) (fun _ h9 => h9) rfl d_Md_aboveOf_133 ?_
    refine lv_iload hx hb d_Md_aboveOf_136 (lv_at hl 6 rfl) ?_
    have g4 := h.1
    have h := h.2
    refine xa_iald hx hb hK hP 11 0 rfl rfl g4 (k := x8.toNatClampNeg) rfl d_Md_aboveOf_138 ?_
    refine lv_i2l (v := (((gA o0 38) x8.toNatClampNeg).toInt64)) hx hb d_Md_aboveOf_139 rfl ?_
    refine lv_lmul hx hb d_Md_aboveOf_140 ?_
    refine lv_lstore (lv' := [(4, .long (x4 * (((gA o0 38) x8.toNatClampNeg).toInt64))), (2, .long (x2 * (y3.toInt64))), (0, .ref h0), (1, .int x1), (6, .int x6), (7, .int x7), (8, .int x8)]) hx hb d_Md_aboveOf_141 hl (by decide) rfl (fun ls hl => ?_)
    refine lv_iinc (v := (x8 + (-1 : Int32))) (lv' := [(8, .int (x8 + (-1 : Int32))), (4, .long (x4 * (((gA o0 38) x8.toNatClampNeg).toInt64))), (2, .long (x2 * (y3.toInt64))), (0, .ref h0), (1, .int x1), (6, .int x6), (7, .int x7)]) hx hb d_Md_aboveOf_143 hl (k := 6) rfl rfl (by decide) rfl (fun ls hl => ?_)
    refine lv_goto (tgt := 19) hx hb d_Md_aboveOf_146 (by decide) ?_
    have hl := lv_sub (l' := [(0, .ref h0), (1, .int x1), (2, .long (x2 * (y3.toInt64))), (4, .long (x4 * (((gA o0 38) x8.toNatClampNeg).toInt64))), (6, .int x6), (7, .int x7), (8, .int (x8 + (-1 : Int32)))]) hl [3, 4, 2, 1, 5, 6, 0] rfl
    have hP : va_P G.1 CL (cw_Md G h0 q0 o0) H := hP
    have hD : va_D A (cw_Md G h0 q0 o0) := hD
    exact hk19 x1 (x2 * (y3.toInt64)) (x4 * (((gA o0 38) x8.toNatClampNeg).toInt64)) x6 x7 (x8 + (-1 : Int32)) ls H locs hl hP hD hS h
  · have h := h.1 c1
    refine lv_goto (tgt := 143) hx hb d_Md_aboveOf_114 (by decide) ?_
    refine lv_iinc (v := (x8 + (-1 : Int32))) (lv' := [(8, .int (x8 + (-1 : Int32))), (0, .ref h0), (1, .int x1), (2, .long x2), (4, .long x4), (6, .int x6), (7, .int x7)]) hx hb d_Md_aboveOf_143 hl (k := 6) rfl rfl (by decide) rfl (fun ls hl => ?_)
    refine lv_goto (tgt := 19) hx hb d_Md_aboveOf_146 (by decide) ?_
    have hl := lv_sub (l' := [(0, .ref h0), (1, .int x1), (2, .long x2), (4, .long x4), (6, .int x6), (7, .int x7), (8, .int (x8 + (-1 : Int32)))]) hl [1, 2, 3, 4, 5, 6, 0] rfl
    have hP : va_P G.1 CL (cw_Md G h0 q0 o0) H := hP
    have hD : va_D A (cw_Md G h0 q0 o0) := hD
    exact hk19 x1 x2 x4 x6 x7 (x8 + (-1 : Int32)) ls H locs hl hP hD hS h
set_option maxHeartbeats 4000000 in
set_option maxRecDepth 100000 in
theorem t_Md_aboveOf_19 {p : Program} {l : Launch} {e : Env} {s : State} {m : MethodId} {args : Array Value} {below : List Frame} {meth : Method} {c : Code} {A : Nat → Prop} {G : Gl} {h0 : Nat} {q0 : Nat → Nat} (o0 : Ob) (Q : Int32 → Prop) (C : Cx p s m args meth c R_Md b_Md_aboveOf 13 (some .int) G A) :
    ∀ (n : Nat) (x1 : Int32) (x2 : Int64) (x4 : Int64) (x6 : Int32) (x7 : Int32) (x8 : Int32) (ls : Array Slot) (H : Heap) (locs : List Loc), lv_has ls 13 [(0, .ref h0), (1, .int x1), (2, .long x2), (4, .long x4), (6, .int x6), (7, .int x7), (8, .int x8)] → va_P G.1 CL (cw_Md G h0 q0 o0) H → va_D A (cw_Md G h0 q0 o0) → va_S A s.heap H locs → f_Md_aboveOf_19 o0 Q n x1 x2 x4 x6 x7 x8 → W p l e rm_Md_aboveOf s m args below meth c H locs 0 0 (MQ below (va_Qi (fun (r : Int32) (u : Unit) => Q r) (fun (u : Unit) t => BW G A (cw_Md G h0 q0 o0) t) A) args s 0 0 A) (F0 m 19 ls []) := by
  obtain ⟨hx, hb, hml, hown, hr, hts, hK, hA, hlocks, hE⟩ := id C
  intro n
  induction n with
  | zero => intro x1 x2 x4 x6 x7 x8 ls H locs hl hP hD hS h; exact absurd h id
  | succ n ih =>
    intro x1 x2 x4 x6 x7 x8 ls H locs hl hP hD hS h
    have hP : va_P G.1 CL [(h0, .inr (11, [.int (gI o0 0), .ref (q0 1), .ref (q0 2), .ref (q0 3), .ref (q0 4), .ref (q0 5), .ref (q0 6), .int (gI o0 7), .int (gI o0 8), .int (gI o0 9), .int (gI o0 10), .int (gI o0 11), .int (gI o0 12), .int (gI o0 13), .int (gI o0 14), .long (gL o0 15), .int (gI o0 16), .int (gI o0 17), .int (gI o0 18), .int (gI o0 19), .int (gI o0 20), .int (gI o0 21), .int (gI o0 22), .int (gI o0 23), .int (gI o0 24), .int (gI o0 25), .int (gI o0 26), .int (gI o0 27), .ref (q0 28), .long (gL o0 29), .int (gI o0 30), .ref (q0 31), .ref (q0 32), .ref (q0 33), .int (gI o0 34), .int (gI o0 35), .int (gI o0 36), .int (gI o0 37), .ref (q0 38), .ref (q0 39), .int (gI o0 40), .ref (q0 41), .ref (q0 42), .ref (q0 43), .ref (q0 44)])), kI G (q0 1) 6100 (gA o0 1), kI G (q0 2) 6100 (gA o0 2), kJ G (q0 3) 2016 (gB o0 3), kJ G (q0 4) 2016 (gB o0 4), kI G (q0 5) 300 (gA o0 5), kI G (q0 6) 400 (gA o0 6), kJ G (q0 28) 10 (gB o0 28), kI G (q0 31) 969 (gA o0 31), kI G (q0 32) 969 (gA o0 32), kI G (q0 33) 969 (gA o0 33), kI G (q0 38) 5 (gA o0 38), kI G (q0 39) 5120 (gA o0 39), kI G (q0 41) 5 (gA o0 41), kZ G (q0 42) 1024 (gA o0 42), kI G (q0 43) 8192 (gA o0 43), kI G (q0 44) 8192 (gA o0 44)] H := hP
    have hD : va_D A [(h0, .inr (11, [.int (gI o0 0), .ref (q0 1), .ref (q0 2), .ref (q0 3), .ref (q0 4), .ref (q0 5), .ref (q0 6), .int (gI o0 7), .int (gI o0 8), .int (gI o0 9), .int (gI o0 10), .int (gI o0 11), .int (gI o0 12), .int (gI o0 13), .int (gI o0 14), .long (gL o0 15), .int (gI o0 16), .int (gI o0 17), .int (gI o0 18), .int (gI o0 19), .int (gI o0 20), .int (gI o0 21), .int (gI o0 22), .int (gI o0 23), .int (gI o0 24), .int (gI o0 25), .int (gI o0 26), .int (gI o0 27), .ref (q0 28), .long (gL o0 29), .int (gI o0 30), .ref (q0 31), .ref (q0 32), .ref (q0 33), .int (gI o0 34), .int (gI o0 35), .int (gI o0 36), .int (gI o0 37), .ref (q0 38), .ref (q0 39), .int (gI o0 40), .ref (q0 41), .ref (q0 42), .ref (q0 43), .ref (q0 44)])), kI G (q0 1) 6100 (gA o0 1), kI G (q0 2) 6100 (gA o0 2), kJ G (q0 3) 2016 (gB o0 3), kJ G (q0 4) 2016 (gB o0 4), kI G (q0 5) 300 (gA o0 5), kI G (q0 6) 400 (gA o0 6), kJ G (q0 28) 10 (gB o0 28), kI G (q0 31) 969 (gA o0 31), kI G (q0 32) 969 (gA o0 32), kI G (q0 33) 969 (gA o0 33), kI G (q0 38) 5 (gA o0 38), kI G (q0 39) 5120 (gA o0 39), kI G (q0 41) 5 (gA o0 41), kZ G (q0 42) 1024 (gA o0 42), kI G (q0 43) 8192 (gA o0 43), kI G (q0 44) 8192 (gA o0 44)] := hD
    unfold f_Md_aboveOf_19 at h
    refine lv_iload hx hb d_Md_aboveOf_19 (lv_at hl 6 rfl) ?_
    refine lv_if_lt (tgt := 149) hx hb d_Md_aboveOf_21 (by decide) (fun c5 => ?_) (fun c5 => ?_)
    · have h := h.1 c5
      refine lv_iload hx hb d_Md_aboveOf_149 (lv_at hl 4 rfl) ?_
      have hP : va_P G.1 CL (cw_Md G h0 q0 o0) H := hP
      have hD : va_D A (cw_Md G h0 q0 o0) := hD
      exact W.iret (v := x6) hx hb hr (fun t ht hW => ⟨⟨x6, (), rfl, h, by rw [ht]; exact hP, va_K.moved hW.alike hK, hD⟩, hS.F ht⟩) hS.2.2 d_Md_aboveOf_151
    · have h := h.2 c5
      refine lv_ldc2 hx hb hown (hts _ wc_Md_259) d_Md_aboveOf_24 ?_
      refine lv_iload_n hx hb d_Md_aboveOf_27 rfl (lv_at hl 1 rfl) ?_
      refine lv_i2l (v := (x1.toInt64)) hx hb d_Md_aboveOf_28 rfl ?_
      refine lv_lmul hx hb d_Md_aboveOf_29 ?_
      refine lv_lload_n hx hb d_Md_aboveOf_30 rfl (lv_at hl 2 rfl) ?_
      refine lv_lmul hx hb d_Md_aboveOf_31 ?_
      refine lv_ldc2 hx hb hown (hts _ wc_Md_261) d_Md_aboveOf_32 ?_
      refine lv_iload_n hx hb d_Md_aboveOf_35 rfl (lv_at hl 1 rfl) ?_
      refine lv_iload_n hx hb d_Md_aboveOf_36 rfl (lv_at hl 1 rfl) ?_
      refine lv_imul hx hb d_Md_aboveOf_37 ?_
      refine lv_i2l (v := ((x1 * x1).toInt64)) hx hb d_Md_aboveOf_38 rfl ?_
      refine lv_lsub hx hb d_Md_aboveOf_39 ?_
      refine lv_lload hx hb d_Md_aboveOf_40 (lv_at hl 3 rfl) ?_
      refine lv_lmul hx hb d_Md_aboveOf_42 ?_
      refine lv_lsub hx hb d_Md_aboveOf_43 ?_
      refine lv_topl (fun y6 ey6 => ?_)
      have h := h y6 ey6
      refine lv_lstore (lv' := [(9, .long y6), (0, .ref h0), (1, .int x1), (2, .long x2), (4, .long x4), (6, .int x6), (7, .int x7), (8, .int x8)]) hx hb d_Md_aboveOf_44 hl (by decide) rfl (fun ls hl => ?_)
      refine lv_ldc2 hx hb hown (hts _ wc_Md_259) d_Md_aboveOf_46 ?_
      refine lv_iload_n hx hb d_Md_aboveOf_49 rfl (lv_at hl 2 rfl) ?_
      refine lv_i2l (v := (x1.toInt64)) hx hb d_Md_aboveOf_50 rfl ?_
      refine lv_lmul hx hb d_Md_aboveOf_51 ?_
      refine lv_lload hx hb d_Md_aboveOf_52 (lv_at hl 4 rfl) ?_
      refine lv_lmul hx hb d_Md_aboveOf_54 ?_
      refine lv_ldc2 hx hb hown (hts _ wc_Md_261) d_Md_aboveOf_55 ?_
      refine lv_lload_n hx hb d_Md_aboveOf_58 rfl (lv_at hl 3 rfl) ?_
      refine lv_lmul hx hb d_Md_aboveOf_59 ?_
      refine lv_ladd hx hb d_Md_aboveOf_60 ?_
      refine lv_topl (fun y7 ey7 => ?_)
      have h := h y7 ey7
      refine lv_lstore (lv' := [(11, .long y7), (9, .long y6), (0, .ref h0), (1, .int x1), (2, .long x2), (4, .long x4), (6, .int x6), (7, .int x7), (8, .int x8)]) hx hb d_Md_aboveOf_61 hl (by decide) rfl (fun ls hl => ?_)
      refine lv_lload hx hb d_Md_aboveOf_63 (lv_at hl 1 rfl) ?_
      refine lv_lstore_n (lv' := [(2, .long y6), (11, .long y7), (9, .long y6), (0, .ref h0), (1, .int x1), (4, .long x4), (6, .int x6), (7, .int x7), (8, .int x8)]) hx hb d_Md_aboveOf_65 rfl hl (by decide) rfl (fun ls hl => ?_)
      refine lv_lload hx hb d_Md_aboveOf_66 (lv_at hl 1 rfl) ?_
      refine lv_lstore (lv' := [(4, .long y7), (2, .long y6), (11, .long y7), (9, .long y6), (0, .ref h0), (1, .int x1), (6, .int x6), (7, .int x7), (8, .int x8)]) hx hb d_Md_aboveOf_68 hl (by decide) rfl (fun ls hl => ?_)
      refine lv_lload hx hb d_Md_aboveOf_70 (lv_at hl 0 rfl) ?_
      refine lv_lconst (v := (0 : Int64)) hx hb d_Md_aboveOf_72 (by decide) ?_
      refine W.lcmp hx hb d_Md_aboveOf_73 ?_
      refine lv_if_eq (tgt := 109) hx hb d_Md_aboveOf_74 (by decide) (fun c8 => ?_) (fun c8 => ?_)
      · have h := h.1 c8
        have hl := lv_sub (l' := [(0, .ref h0), (1, .int x1), (2, .long y6), (4, .long y7), (6, .int x6), (7, .int x7), (8, .int x8)]) hl [4, 5, 1, 0, 6, 7, 8] rfl
        have hP : va_P G.1 CL (cw_Md G h0 q0 o0) H := hP
        have hD : va_D A (cw_Md G h0 q0 o0) := hD
        exact t_Md_aboveOf_109 o0 (f_Md_aboveOf_19 o0 Q n) Q C ih x1 y6 y7 x6 x7 x8 ls _ locs hl hP hD hS h
      · have h := h.2 c8
        refine lv_lload hx hb d_Md_aboveOf_77 (lv_at hl 0 rfl) ?_
        refine lv_lconst (v := (0 : Int64)) hx hb d_Md_aboveOf_79 (by decide) ?_
        refine W.lcmp hx hb d_Md_aboveOf_80 ?_
        refine lv_if_le (tgt := 88) hx hb d_Md_aboveOf_81 (by decide) (fun c9 => ?_) (fun c9 => ?_)
        · have h := h.1 c9
          refine lv_iconst (v := (0 : Int32)) hx hb d_Md_aboveOf_88 (by decide) ?_
          refine lv_iload hx hb d_Md_aboveOf_89 (lv_at hl 7 rfl) ?_
          refine lv_icmp_eq (tgt := 109) hx hb d_Md_aboveOf_91 (by decide) (fun c10 => ?_) (fun c10 => ?_)
          · have h := h.1 c10
            have hl := lv_sub (l' := [(0, .ref h0), (1, .int x1), (2, .long y6), (4, .long y7), (6, .int x6), (7, .int x7), (8, .int x8)]) hl [4, 5, 1, 0, 6, 7, 8] rfl
            have hP : va_P G.1 CL (cw_Md G h0 q0 o0) H := hP
            have hD : va_D A (cw_Md G h0 q0 o0) := hD
            exact t_Md_aboveOf_109 o0 (f_Md_aboveOf_19 o0 Q n) Q C ih x1 y6 y7 x6 x7 x8 ls _ locs hl hP hD hS h
          · have h := h.2 c10
            refine lv_iinc (v := (x6 + (1 : Int32))) (lv' := [(6, .int (x6 + (1 : Int32))), (4, .long y7), (2, .long y6), (11, .long y7), (9, .long y6), (0, .ref h0), (1, .int x1), (7, .int x7), (8, .int x8)]) hx hb d_Md_aboveOf_94 hl (k := 6) rfl rfl (by decide) rfl (fun ls hl => ?_)
            refine lv_iload hx hb d_Md_aboveOf_97 (lv_at hl 7 rfl) ?_
            refine lv_if_ne (tgt := 106) hx hb d_Md_aboveOf_99 (by decide) (fun c11 => ?_) (fun c11 => ?_)
            · have h := h.2 c11
              refine lv_iconst (v := (0 : Int32)) hx hb d_Md_aboveOf_106 (by decide) ?_
              refine lv_istore (lv' := [(7, .int (0 : Int32)), (6, .int (x6 + (1 : Int32))), (4, .long y7), (2, .long y6), (11, .long y7), (9, .long y6), (0, .ref h0), (1, .int x1), (8, .int x8)]) hx hb d_Md_aboveOf_107 hl (by decide) rfl (fun ls hl => ?_)
              have hl := lv_sub (l' := [(0, .ref h0), (1, .int x1), (2, .long y6), (4, .long y7), (6, .int (x6 + (1 : Int32))), (7, .int (0 : Int32)), (8, .int x8)]) hl [6, 7, 3, 2, 1, 0, 8] rfl
              have hP : va_P G.1 CL (cw_Md G h0 q0 o0) H := hP
              have hD : va_D A (cw_Md G h0 q0 o0) := hD
              exact t_Md_aboveOf_109 o0 (f_Md_aboveOf_19 o0 Q n) Q C ih x1 y6 y7 (x6 + (1 : Int32)) (0 : Int32) x8 ls _ locs hl hP hD hS h
            · have h := h.1 c11
              refine lv_iconst (v := (1 : Int32)) hx hb d_Md_aboveOf_102 (by decide) ?_
              refine lv_goto (tgt := 107) hx hb d_Md_aboveOf_103 (by decide) ?_
              refine lv_istore (lv' := [(7, .int (1 : Int32)), (6, .int (x6 + (1 : Int32))), (4, .long y7), (2, .long y6), (11, .long y7), (9, .long y6), (0, .ref h0), (1, .int x1), (8, .int x8)]) hx hb d_Md_aboveOf_107 hl (by decide) rfl (fun ls hl => ?_)
              have hl := lv_sub (l' := [(0, .ref h0), (1, .int x1), (2, .long y6), (4, .long y7), (6, .int (x6 + (1 : Int32))), (7, .int (1 : Int32)), (8, .int x8)]) hl [6, 7, 3, 2, 1, 0, 8] rfl
              have hP : va_P G.1 CL (cw_Md G h0 q0 o0) H := hP
              have hD : va_D A (cw_Md G h0 q0 o0) := hD
              exact t_Md_aboveOf_109 o0 (f_Md_aboveOf_19 o0 Q n) Q C ih x1 y6 y7 (x6 + (1 : Int32)) (1 : Int32) x8 ls _ locs hl hP hD hS h
        · have h := h.2 c9
          refine lv_iconst (v := (1 : Int32)) hx hb d_Md_aboveOf_84 (by decide) ?_
          refine lv_goto (tgt := 89) hx hb d_Md_aboveOf_85 (by decide) ?_
          refine lv_iload hx hb d_Md_aboveOf_89 (lv_at hl 7 rfl) ?_
          refine lv_icmp_eq (tgt := 109) hx hb d_Md_aboveOf_91 (by decide) (fun c12 => ?_) (fun c12 => ?_)
          · have h := h.1 c12
            have hl := lv_sub (l' := [(0, .ref h0), (1, .int x1), (2, .long y6), (4, .long y7), (6, .int x6), (7, .int x7), (8, .int x8)]) hl [4, 5, 1, 0, 6, 7, 8] rfl
            have hP : va_P G.1 CL (cw_Md G h0 q0 o0) H := hP
            have hD : va_D A (cw_Md G h0 q0 o0) := hD
            exact t_Md_aboveOf_109 o0 (f_Md_aboveOf_19 o0 Q n) Q C ih x1 y6 y7 x6 x7 x8 ls _ locs hl hP hD hS h
          · have h := h.2 c12
            refine lv_iinc (v := (x6 + (1 : Int32))) (lv' := [(6, .int (x6 + (1 : Int32))), (4, .long y7), (2, .long y6), (11, .long y7), (9, .long y6), (0, .ref h0), (1, .int x1), (7, .int x7), (8, .int x8)]) hx hb d_Md_aboveOf_94 hl (k := 6) rfl rfl (by decide) rfl (fun ls hl => ?_)
            refine lv_iload hx hb d_Md_aboveOf_97 (lv_at hl 7 rfl) ?_
            refine lv_if_ne (tgt := 106) hx hb d_Md_aboveOf_99 (by decide) (fun c13 => ?_) (fun c13 => ?_)
            · have h := h.2 c13
              refine lv_iconst (v := (0 : Int32)) hx hb d_Md_aboveOf_106 (by decide) ?_
              refine lv_istore (lv' := [(7, .int (0 : Int32)), (6, .int (x6 + (1 : Int32))), (4, .long y7), (2, .long y6), (11, .long y7), (9, .long y6), (0, .ref h0), (1, .int x1), (8, .int x8)]) hx hb d_Md_aboveOf_107 hl (by decide) rfl (fun ls hl => ?_)
              have hl := lv_sub (l' := [(0, .ref h0), (1, .int x1), (2, .long y6), (4, .long y7), (6, .int (x6 + (1 : Int32))), (7, .int (0 : Int32)), (8, .int x8)]) hl [6, 7, 3, 2, 1, 0, 8] rfl
              have hP : va_P G.1 CL (cw_Md G h0 q0 o0) H := hP
              have hD : va_D A (cw_Md G h0 q0 o0) := hD
              exact t_Md_aboveOf_109 o0 (f_Md_aboveOf_19 o0 Q n) Q C ih x1 y6 y7 (x6 + (1 : Int32)) (0 : Int32) x8 ls _ locs hl hP hD hS h
            · have h := h.1 c13
              refine lv_iconst (v := (1 : Int32)) hx hb d_Md_aboveOf_102 (by decide) ?_
              refine lv_goto (tgt := 107) hx hb d_Md_aboveOf_103 (by decide) ?_
              refine lv_istore (lv' := [(7, .int (1 : Int32)), (6, .int (x6 + (1 : Int32))), (4, .long y7), (2, .long y6), (11, .long y7), (9, .long y6), (0, .ref h0), (1, .int x1), (8, .int x8)]) hx hb d_Md_aboveOf_107 hl (by decide) rfl (fun ls hl => ?_)
              have hl := lv_sub (l' := [(0, .ref h0), (1, .int x1), (2, .long y6), (4, .long y7), (6, .int (x6 + (1 : Int32))), (7, .int (1 : Int32)), (8, .int x8)]) hl [6, 7, 3, 2, 1, 0, 8] rfl
              have hP : va_P G.1 CL (cw_Md G h0 q0 o0) H := hP
              have hD : va_D A (cw_Md G h0 q0 o0) := hD
              exact t_Md_aboveOf_109 o0 (f_Md_aboveOf_19 o0 Q n) Q C ih x1 y6 y7 (x6 + (1 : Int32)) (1 : Int32) x8 ls _ locs hl hP hD hS h
set_option maxHeartbeats 4000000 in
set_option maxRecDepth 100000 in
theorem c_Md_aboveOf {l : Launch} {G : Gl} {h0 : Nat} {q0 : Nat → Nat} {a0 : Int32} {o0 : Ob} {Q : Int32 → Prop} (sz : Nat) (h : f_Md_aboveOf a0 o0 Q) : Met l y_Md_aboveOf w_Md_aboveOf rm_Md_aboveOf (PcW G [.ref h0, .int a0] sz (cw_Md G h0 q0 o0)) (va_Qi (fun (r : Int32) (u : Unit) => Q r) (fun (u : Unit) t => BW G (va_A (cw_Md G h0 q0 o0) sz) (cw_Md G h0 q0 o0) t) (va_A (cw_Md G h0 q0 o0) sz)) 0 0 (va_A (cw_Md G h0 q0 o0) sz) := by
  refine Met.ofW (cc := b_Md_aboveOf) (maxL := 13) (ret := (some .int)) (by decide +kernel) rfl ?_
  intro p e s m args below meth c s₁ B hml hv
  obtain ⟨rfl, hsz, hP, hK, hD0, hE⟩ := hv
  have hx := B.exec
  have hb := B.bytes
  have hr := B.returns
  have hts0 := atoms_spec (ws := w_Md_aboveOf) B.pre
  have hts : ∀ w ∈ gw_tbl, w.before ([.ref h0, .int a0]).toArray s = true := fun w hw => hts0 w (List.mem_cons_of_mem _ hw)
  have hown : s.vm.findClass R_Md = some m.cls := findClass_of_methodNamed B.named
  have hlocks := B.notSynchronized
  subst hsz
  have hD := hD0.self (sz := s.heap.size)
  generalize hAe : va_A (cw_Md G h0 q0 o0) s.heap.size = A at hD hE ⊢
  have hA : ∀ q : Nat, s.heap.size ≤ q → A q := fun q h => by rw [← hAe]; exact Or.inr h
  have hS : va_S A s.heap s.heap [] := va_S.rf
  have C : Cx p s m ([.ref h0, .int a0]).toArray meth c R_Md b_Md_aboveOf 13 (some .int) G A := ⟨hx, hb, hml, hown, hr, hts, hK, hA, hlocks, hE⟩
  have hl := lv_entry ([.ref h0, .int a0]) (n := 13) (Nat.le_of_ble_eq_true rfl)
  rw [lg_entry_eq]
  generalize (lg_sl ([.ref h0, .int a0]) ++ List.replicate (13 - (lg_sl ([.ref h0, .int a0])).length) Slot.unset).toArray = ls at hl ⊢
  have hl : lv_has ls 13 [(0, .ref h0), (1, .int a0)] := hl
  have hD : va_D A [(h0, .inr (11, [.int (gI o0 0), .ref (q0 1), .ref (q0 2), .ref (q0 3), .ref (q0 4), .ref (q0 5), .ref (q0 6), .int (gI o0 7), .int (gI o0 8), .int (gI o0 9), .int (gI o0 10), .int (gI o0 11), .int (gI o0 12), .int (gI o0 13), .int (gI o0 14), .long (gL o0 15), .int (gI o0 16), .int (gI o0 17), .int (gI o0 18), .int (gI o0 19), .int (gI o0 20), .int (gI o0 21), .int (gI o0 22), .int (gI o0 23), .int (gI o0 24), .int (gI o0 25), .int (gI o0 26), .int (gI o0 27), .ref (q0 28), .long (gL o0 29), .int (gI o0 30), .ref (q0 31), .ref (q0 32), .ref (q0 33), .int (gI o0 34), .int (gI o0 35), .int (gI o0 36), .int (gI o0 37), .ref (q0 38), .ref (q0 39), .int (gI o0 40), .ref (q0 41), .ref (q0 42), .ref (q0 43), .ref (q0 44)])), kI G (q0 1) 6100 (gA o0 1), kI G (q0 2) 6100 (gA o0 2), kJ G (q0 3) 2016 (gB o0 3), kJ G (q0 4) 2016 (gB o0 4), kI G (q0 5) 300 (gA o0 5), kI G (q0 6) 400 (gA o0 6), kJ G (q0 28) 10 (gB o0 28), kI G (q0 31) 969 (gA o0 31), kI G (q0 32) 969 (gA o0 32), kI G (q0 33) 969 (gA o0 33), kI G (q0 38) 5 (gA o0 38), kI G (q0 39) 5120 (gA o0 39), kI G (q0 41) 5 (gA o0 41), kZ G (q0 42) 1024 (gA o0 42), kI G (q0 43) 8192 (gA o0 43), kI G (q0 44) 8192 (gA o0 44)] := hD
  unfold f_Md_aboveOf at h
  suffices key : ∀ (H : Heap) (locs : List Loc), va_P G.1 CL [(h0, .inr (11, [.int (gI o0 0), .ref (q0 1), .ref (q0 2), .ref (q0 3), .ref (q0 4), .ref (q0 5), .ref (q0 6), .int (gI o0 7), .int (gI o0 8), .int (gI o0 9), .int (gI o0 10), .int (gI o0 11), .int (gI o0 12), .int (gI o0 13), .int (gI o0 14), .long (gL o0 15), .int (gI o0 16), .int (gI o0 17), .int (gI o0 18), .int (gI o0 19), .int (gI o0 20), .int (gI o0 21), .int (gI o0 22), .int (gI o0 23), .int (gI o0 24), .int (gI o0 25), .int (gI o0 26), .int (gI o0 27), .ref (q0 28), .long (gL o0 29), .int (gI o0 30), .ref (q0 31), .ref (q0 32), .ref (q0 33), .int (gI o0 34), .int (gI o0 35), .int (gI o0 36), .int (gI o0 37), .ref (q0 38), .ref (q0 39), .int (gI o0 40), .ref (q0 41), .ref (q0 42), .ref (q0 43), .ref (q0 44)])), kI G (q0 1) 6100 (gA o0 1), kI G (q0 2) 6100 (gA o0 2), kJ G (q0 3) 2016 (gB o0 3), kJ G (q0 4) 2016 (gB o0 4), kI G (q0 5) 300 (gA o0 5), kI G (q0 6) 400 (gA o0 6), kJ G (q0 28) 10 (gB o0 28), kI G (q0 31) 969 (gA o0 31), kI G (q0 32) 969 (gA o0 32), kI G (q0 33) 969 (gA o0 33), kI G (q0 38) 5 (gA o0 38), kI G (q0 39) 5120 (gA o0 39), kI G (q0 41) 5 (gA o0 41), kZ G (q0 42) 1024 (gA o0 42), kI G (q0 43) 8192 (gA o0 43), kI G (q0 44) 8192 (gA o0 44)] H → va_S A s.heap H locs → W p l e rm_Md_aboveOf s m ([.ref h0, .int a0]).toArray below meth c H locs 0 0 (MQ below (va_Qi (fun (r : Int32) (u : Unit) => Q r) (fun (u : Unit) t => BW G A (cw_Md G h0 q0 o0) t) A) ([.ref h0, .int a0]).toArray s 0 0 A) (F0 m 0 ls []) from key s.heap [] hP hS
  intro H locs hP hS
  refine lv_lconst (v := (0 : Int64)) hx hb d_Md_aboveOf_0 (by decide) ?_
  refine lv_lstore_n (lv' := [(2, .long (0 : Int64)), (0, .ref h0), (1, .int a0)]) hx hb d_Md_aboveOf_1 rfl hl (by decide) rfl (fun ls hl => ?_)
  refine lv_lconst (v := (1 : Int64)) hx hb d_Md_aboveOf_2 (by decide) ?_
  refine lv_lstore (lv' := [(4, .long (1 : Int64)), (2, .long (0 : Int64)), (0, .ref h0), (1, .int a0)]) hx hb d_Md_aboveOf_3 hl (by decide) rfl (fun ls hl => ?_)
  refine lv_iconst (v := (0 : Int32)) hx hb d_Md_aboveOf_5 (by decide) ?_
  refine lv_istore (lv' := [(6, .int (0 : Int32)), (4, .long (1 : Int64)), (2, .long (0 : Int64)), (0, .ref h0), (1, .int a0)]) hx hb d_Md_aboveOf_6 hl (by decide) rfl (fun ls hl => ?_)
  refine lv_iconst (v := (1 : Int32)) hx hb d_Md_aboveOf_8 (by decide) ?_
  refine lv_istore (lv' := [(7, .int (1 : Int32)), (6, .int (0 : Int32)), (4, .long (1 : Int64)), (2, .long (0 : Int64)), (0, .ref h0), (1, .int a0)]) hx hb d_Md_aboveOf_9 hl (by decide) rfl (fun ls hl => ?_)
  refine lv_aload_n hx hb d_Md_aboveOf_11 rfl (lv_at hl 4 rfl) ?_
  refine va_get (D := G.1) (ci := 11) (v := .int (gI o0 0)) (C := R_Md) (T := T_Md) (N := 45) hx hb hts i_Md hown hK hP 0 rfl rfl 0 (by decide) (hts _ wf_Md_67) (fun _ h9 => h9) rfl d_Md_aboveOf_12 ?_
  refine lv_iconst (v := (1 : Int32)) hx hb d_Md_aboveOf_15 (by decide) ?_
  refine lv_isub hx hb d_Md_aboveOf_16 ?_
  refine lv_istore (lv' := [(8, .int ((gI o0 0) - (1 : Int32))), (7, .int (1 : Int32)), (6, .int (0 : Int32)), (4, .long (1 : Int64)), (2, .long (0 : Int64)), (0, .ref h0), (1, .int a0)]) hx hb d_Md_aboveOf_17 hl (by decide) rfl (fun ls hl => ?_)
  have hl := lv_sub (l' := [(0, .ref h0), (1, .int a0), (2, .long (0 : Int64)), (4, .long (1 : Int64)), (6, .int (0 : Int32)), (7, .int (1 : Int32)), (8, .int ((gI o0 0) - (1 : Int32)))]) hl [5, 6, 4, 3, 2, 1, 0] rfl
  have hP : va_P G.1 CL (cw_Md G h0 q0 o0) H := hP
  have hD : va_D A (cw_Md G h0 q0 o0) := hD
  obtain ⟨w, h⟩ := h
  exact t_Md_aboveOf_19 o0 Q C w a0 (0 : Int64) (1 : Int64) (0 : Int32) (1 : Int32) ((gI o0 0) - (1 : Int32)) ls _ locs hl hP hD hS h
abbrev b_Md_above : ByteArray := prog_14_method_48_code
def y_Md_above : MethodName := ⟨R_Md, "above", "(IIIIII)I"⟩
abbrev w_Md_above : List Cond := Cond.code y_Md_above b_Md_above 7 (some .int) :: gw_tbl
theorem d_Md_above_0 : decode b_Md_above 0 = .ok (.aload_n 0, 1) := by decide +kernel
theorem d_Md_above_1 : decode b_Md_above 1 = .ok (.iload_n 1, 1) := by decide +kernel
theorem d_Md_above_2 : decode b_Md_above 2 = .ok (.iload_n 2, 1) := by decide +kernel
theorem d_Md_above_3 : decode b_Md_above 3 = .ok (.iload_n 3, 1) := by decide +kernel
theorem d_Md_above_4 : decode b_Md_above 4 = .ok (.iload 4, 2) := by decide +kernel
theorem d_Md_above_6 : decode b_Md_above 6 = .ok (.iload 5, 2) := by decide +kernel
theorem d_Md_above_8 : decode b_Md_above 8 = .ok (.invokevirtual 263, 3) := by decide +kernel
theorem d_Md_above_11 : decode b_Md_above 11 = .ok (.ifCond .eq 24, 3) := by decide +kernel
theorem d_Md_above_14 : decode b_Md_above 14 = .ok (.iload 6, 2) := by decide +kernel
theorem d_Md_above_16 : decode b_Md_above 16 = .ok (.bipush (-20), 2) := by decide +kernel
theorem d_Md_above_18 : decode b_Md_above 18 = .ok (.bipush 20, 2) := by decide +kernel
theorem d_Md_above_20 : decode b_Md_above 20 = .ok (.invokestatic 76, 3) := by decide +kernel
theorem d_Md_above_23 : decode b_Md_above 23 = .ok (.ifCond .eq 12, 3) := by decide +kernel
theorem d_Md_above_26 : decode b_Md_above 26 = .ok (.aload_n 0, 1) := by decide +kernel
theorem d_Md_above_27 : decode b_Md_above 27 = .ok (.iload 6, 2) := by decide +kernel
theorem d_Md_above_29 : decode b_Md_above 29 = .ok (.invokevirtual 267, 3) := by decide +kernel
theorem d_Md_above_32 : decode b_Md_above 32 = .ok (.goto 4, 3) := by decide +kernel
theorem d_Md_above_35 : decode b_Md_above 35 = .ok (.iconst (-1), 1) := by decide +kernel
theorem d_Md_above_36 : decode b_Md_above 36 = .ok (.ireturn, 1) := by decide +kernel
theorem wv_Md_263 : wV R_Md 263 y_Md_isShape b_Md_isShape 7 (some .boolean) 5 := ⟨⟨gw_tb (List.mem_of_getElem? (i := 1282) (by decide +kernel)) rfl, gw_tb (List.mem_of_getElem? (i := 13) (by decide +kernel)) rfl, gw_tb (List.mem_of_getElem? (i := 1285) (by decide +kernel)) rfl, by decide, by decide, by decide +kernel⟩, gw_tb (List.mem_of_getElem? (i := 1284) (by decide +kernel)) rfl, gw_of (List.mem_append_left _ (List.mem_of_getElem? (i := 53) (by decide +kernel))) rfl⟩
theorem wv_Md_267 : wV R_Md 267 y_Md_aboveOf b_Md_aboveOf 13 (some .int) 1 := ⟨⟨gw_tb (List.mem_of_getElem? (i := 1286) (by decide +kernel)) rfl, gw_tb (List.mem_of_getElem? (i := 13) (by decide +kernel)) rfl, gw_tb (List.mem_of_getElem? (i := 1289) (by decide +kernel)) rfl, by decide, by decide, by decide +kernel⟩, gw_tb (List.mem_of_getElem? (i := 1288) (by decide +kernel)) rfl, gw_of (List.mem_append_left _ (List.mem_of_getElem? (i := 54) (by decide +kernel))) rfl⟩
def f_Md_above (a0 : Int32) (a1 : Int32) (a2 : Int32) (a3 : Int32) (a4 : Int32) (a5 : Int32) (o0 : Ob) (Q : Int32 → Ob → Prop) : Prop := f_Md_isShape a0 a1 a2 a3 a4 o0 (fun z1 u2 => (z1 = 0 → (Q (-1 : Int32) u2)) ∧ (¬ z1 = 0 → (f_Md_isIn a5 (-20 : Int32) (20 : Int32) (fun z4 => (z4 = 0 → (Q (-1 : Int32) u2)) ∧ (¬ z4 = 0 → (f_Md_aboveOf a5 u2 (fun z6 => Q z6 u2)))))))
abbrev rm_Md_above : Room := { frames := 2, cells := 0, slots := 0, locals := 48 }
set_option maxHeartbeats 4000000 in
set_option maxRecDepth 100000 in
theorem c_Md_above {l : Launch} {G : Gl} {h0 : Nat} {q0 : Nat → Nat} {a0 : Int32} {a1 : Int32} {a2 : Int32} {a3 : Int32} {a4 : Int32} {a5 : Int32} {o0 : Ob} {Q : Int32 → Ob → Prop} (sz : Nat) (h : f_Md_above a0 a1 a2 a3 a4 a5 o0 Q) : Met l y_Md_above w_Md_above rm_Md_above (PcW G [.ref h0, .int a0, .int a1, .int a2, .int a3, .int a4, .int a5] sz (cw_Md G h0 q0 o0)) (va_Qi (fun (r : Int32) (u : Ob) => Q r u) (fun (u : Ob) t => BW G (va_A (cw_Md G h0 q0 o0) sz) (cw_Md G h0 q0 u) t) (va_A (cw_Md G h0 q0 o0) sz)) 0 0 (va_A (cw_Md G h0 q0 o0) sz) := by
  refine Met.ofW (cc := b_Md_above) (maxL := 7) (ret := (some .int)) (by decide +kernel) rfl ?_
  intro p e s m args below meth c s₁ B hml hv
  obtain ⟨rfl, hsz, hP, hK, hD0, hE⟩ := hv
  have hx := B.exec
  have hb := B.bytes
  have hr := B.returns
  have hts0 := atoms_spec (ws := w_Md_above) B.pre
  have hts : ∀ w ∈ gw_tbl, w.before ([.ref h0, .int a0, .int a1, .int a2, .int a3, .int a4, .int a5]).toArray s = true := fun w hw => hts0 w (List.mem_cons_of_mem _ hw)
  have hown : s.vm.findClass R_Md = some m.cls := findClass_of_methodNamed B.named
  have hlocks := B.notSynchronized
  subst hsz
  have hD := hD0.self (sz := s.heap.size)
  generalize hAe : va_A (cw_Md G h0 q0 o0) s.heap.size = A at hD hE ⊢
  have hA : ∀ q : Nat, s.heap.size ≤ q → A q := fun q h => by rw [← hAe]; exact Or.inr h
  have hS : va_S A s.heap s.heap [] := va_S.rf
  have C : Cx p s m ([.ref h0, .int a0, .int a1, .int a2, .int a3, .int a4, .int a5]).toArray meth c R_Md b_Md_above 7 (some .int) G A := ⟨hx, hb, hml, hown, hr, hts, hK, hA, hlocks, hE⟩
  have hl := lv_entry ([.ref h0, .int a0, .int a1, .int a2, .int a3, .int a4, .int a5]) (n := 7) (Nat.le_of_ble_eq_true rfl)
  rw [lg_entry_eq]
  generalize (lg_sl ([.ref h0, .int a0, .int a1, .int a2, .int a3, .int a4, .int a5]) ++ List.replicate (7 - (lg_sl ([.ref h0, .int a0, .int a1, .int a2, .int a3, .int a4, .int a5])).length) Slot.unset).toArray = ls at hl ⊢
  have hl : lv_has ls 7 [(0, .ref h0), (1, .int a0), (2, .int a1), (3, .int a2), (4, .int a3), (5, .int a4), (6, .int a5)] := hl
  have hD : va_D A [(h0, .inr (11, [.int (gI o0 0), .ref (q0 1), .ref (q0 2), .ref (q0 3), .ref (q0 4), .ref (q0 5), .ref (q0 6), .int (gI o0 7), .int (gI o0 8), .int (gI o0 9), .int (gI o0 10), .int (gI o0 11), .int (gI o0 12), .int (gI o0 13), .int (gI o0 14), .long (gL o0 15), .int (gI o0 16), .int (gI o0 17), .int (gI o0 18), .int (gI o0 19), .int (gI o0 20), .int (gI o0 21), .int (gI o0 22), .int (gI o0 23), .int (gI o0 24), .int (gI o0 25), .int (gI o0 26), .int (gI o0 27), .ref (q0 28), .long (gL o0 29), .int (gI o0 30), .ref (q0 31), .ref (q0 32), .ref (q0 33), .int (gI o0 34), .int (gI o0 35), .int (gI o0 36), .int (gI o0 37), .ref (q0 38), .ref (q0 39), .int (gI o0 40), .ref (q0 41), .ref (q0 42), .ref (q0 43), .ref (q0 44)])), kI G (q0 1) 6100 (gA o0 1), kI G (q0 2) 6100 (gA o0 2), kJ G (q0 3) 2016 (gB o0 3), kJ G (q0 4) 2016 (gB o0 4), kI G (q0 5) 300 (gA o0 5), kI G (q0 6) 400 (gA o0 6), kJ G (q0 28) 10 (gB o0 28), kI G (q0 31) 969 (gA o0 31), kI G (q0 32) 969 (gA o0 32), kI G (q0 33) 969 (gA o0 33), kI G (q0 38) 5 (gA o0 38), kI G (q0 39) 5120 (gA o0 39), kI G (q0 41) 5 (gA o0 41), kZ G (q0 42) 1024 (gA o0 42), kI G (q0 43) 8192 (gA o0 43), kI G (q0 44) 8192 (gA o0 44)] := hD
  unfold f_Md_above at h
  suffices key : ∀ (H : Heap) (locs : List Loc), va_P G.1 CL [(h0, .inr (11, [.int (gI o0 0), .ref (q0 1), .ref (q0 2), .ref (q0 3), .ref (q0 4), .ref (q0 5), .ref (q0 6), .int (gI o0 7), .int (gI o0 8), .int (gI o0 9), .int (gI o0 10), .int (gI o0 11), .int (gI o0 12), .int (gI o0 13), .int (gI o0 14), .long (gL o0 15), .int (gI o0 16), .int (gI o0 17), .int (gI o0 18), .int (gI o0 19), .int (gI o0 20), .int (gI o0 21), .int (gI o0 22), .int (gI o0 23), .int (gI o0 24), .int (gI o0 25), .int (gI o0 26), .int (gI o0 27), .ref (q0 28), .long (gL o0 29), .int (gI o0 30), .ref (q0 31), .ref (q0 32), .ref (q0 33), .int (gI o0 34), .int (gI o0 35), .int (gI o0 36), .int (gI o0 37), .ref (q0 38), .ref (q0 39), .int (gI o0 40), .ref (q0 41), .ref (q0 42), .ref (q0 43), .ref (q0 44)])), kI G (q0 1) 6100 (gA o0 1), kI G (q0 2) 6100 (gA o0 2), kJ G (q0 3) 2016 (gB o0 3), kJ G (q0 4) 2016 (gB o0 4), kI G (q0 5) 300 (gA o0 5), kI G (q0 6) 400 (gA o0 6), kJ G (q0 28) 10 (gB o0 28), kI G (q0 31) 969 (gA o0 31), kI G (q0 32) 969 (gA o0 32), kI G (q0 33) 969 (gA o0 33), kI G (q0 38) 5 (gA o0 38), kI G (q0 39) 5120 (gA o0 39), kI G (q0 41) 5 (gA o0 41), kZ G (q0 42) 1024 (gA o0 42), kI G (q0 43) 8192 (gA o0 43), kI G (q0 44) 8192 (gA o0 44)] H → va_S A s.heap H locs → W p l e rm_Md_above s m ([.ref h0, .int a0, .int a1, .int a2, .int a3, .int a4, .int a5]).toArray below meth c H locs 0 0 (MQ below (va_Qi (fun (r : Int32) (u : Ob) => Q r u) (fun (u : Ob) t => BW G A (cw_Md G h0 q0 u) t) A) ([.ref h0, .int a0, .int a1, .int a2, .int a3, .int a4, .int a5]).toArray s 0 0 A) (F0 m 0 ls []) from key s.heap [] hP hS
  intro H locs hP hS
  refine lv_aload_n hx hb d_Md_above_0 rfl (lv_at hl 0 rfl) ?_
  refine lv_iload_n hx hb d_Md_above_1 rfl (lv_at hl 1 rfl) ?_
  refine lv_iload_n hx hb d_Md_above_2 rfl (lv_at hl 2 rfl) ?_
  refine lv_iload_n hx hb d_Md_above_3 rfl (lv_at hl 3 rfl) ?_
  refine lv_iload hx hb d_Md_above_4 (lv_at hl 4 rfl) ?_
  refine lv_iload hx hb d_Md_above_6 (lv_at hl 5 rfl) ?_
  refine cl_Vi (b := b_Md_above) (As := [.int a0, .int a1, .int a2, .int a3, .int a4]) (rest := []) (ws := [(h0, .inr (11, [.int (gI o0 0), .ref (q0 1), .ref (q0 2), .ref (q0 3), .ref (q0 4), .ref (q0 5), .ref (q0 6), .int (gI o0 7), .int (gI o0 8), .int (gI o0 9), .int (gI o0 10), .int (gI o0 11), .int (gI o0 12), .int (gI o0 13), .int (gI o0 14), .long (gL o0 15), .int (gI o0 16), .int (gI o0 17), .int (gI o0 18), .int (gI o0 19), .int (gI o0 20), .int (gI o0 21), .int (gI o0 22), .int (gI o0 23), .int (gI o0 24), .int (gI o0 25), .int (gI o0 26), .int (gI o0 27), .ref (q0 28), .long (gL o0 29), .int (gI o0 30), .ref (q0 31), .ref (q0 32), .ref (q0 33), .int (gI o0 34), .int (gI o0 35), .int (gI o0 36), .int (gI o0 37), .ref (q0 38), .ref (q0 39), .int (gI o0 40), .ref (q0 41), .ref (q0 42), .ref (q0 43), .ref (q0 44)])), kI G (q0 1) 6100 (gA o0 1), kI G (q0 2) 6100 (gA o0 2), kJ G (q0 3) 2016 (gB o0 3), kJ G (q0 4) 2016 (gB o0 4), kI G (q0 5) 300 (gA o0 5), kI G (q0 6) 400 (gA o0 6), kJ G (q0 28) 10 (gB o0 28), kI G (q0 31) 969 (gA o0 31), kI G (q0 32) 969 (gA o0 32), kI G (q0 33) 969 (gA o0 33), kI G (q0 38) 5 (gA o0 38), kI G (q0 39) 5120 (gA o0 39), kI G (q0 41) 5 (gA o0 41), kZ G (q0 42) 1024 (gA o0 42), kI G (q0 43) 8192 (gA o0 43), kI G (q0 44) 8192 (gA o0 44)]) (wr := []) (w2 := fun (u : Ob) => [(h0, .inr (11, [.int (gI u 0), .ref (q0 1), .ref (q0 2), .ref (q0 3), .ref (q0 4), .ref (q0 5), .ref (q0 6), .int (gI u 7), .int (gI u 8), .int (gI u 9), .int (gI u 10), .int (gI u 11), .int (gI u 12), .int (gI u 13), .int (gI u 14), .long (gL u 15), .int (gI u 16), .int (gI u 17), .int (gI u 18), .int (gI u 19), .int (gI u 20), .int (gI u 21), .int (gI u 22), .int (gI u 23), .int (gI u 24), .int (gI u 25), .int (gI u 26), .int (gI u 27), .ref (q0 28), .long (gL u 29), .int (gI u 30), .ref (q0 31), .ref (q0 32), .ref (q0 33), .int (gI u 34), .int (gI u 35), .int (gI u 36), .int (gI u 37), .ref (q0 38), .ref (q0 39), .int (gI u 40), .ref (q0 41), .ref (q0 42), .ref (q0 43), .ref (q0 44)])), kI G (q0 1) 6100 (gA u 1), kI G (q0 2) 6100 (gA u 2), kJ G (q0 3) 2016 (gB u 3), kJ G (q0 4) 2016 (gB u 4), kI G (q0 5) 300 (gA u 5), kI G (q0 6) 400 (gA u 6), kJ G (q0 28) 10 (gB u 28), kI G (q0 31) 969 (gA u 31), kI G (q0 32) 969 (gA u 32), kI G (q0 33) 969 (gA u 33), kI G (q0 38) 5 (gA u 38), kI G (q0 39) 5120 (gA u 39), kI G (q0 41) 5 (gA u 41), kZ G (q0 42) 1024 (gA u 42), kI G (q0 43) 8192 (gA u 43), kI G (q0 44) 8192 (gA u 44)]) C (c_Md_isShape (h0 := h0) (q0 := q0) H.size h) wv_Md_263 ⟨Nat.le_of_ble_eq_true rfl, Nat.le_of_ble_eq_true rfl⟩ hP hD hS 0 rfl rfl [0, 1, 2, 3, 4, 5, 6, 7, 8, 9, 10, 11, 12, 13, 14, 15, 16] [] rfl rfl (by decide) (by decide) (by decide) [0, 1, 2, 3, 4, 5, 6, 7, 8, 9, 10, 11, 12, 13, 14, 15, 16] (by decide) (fun u => rfl) rfl hl.1 rfl (lv_room (Nat.le_of_ble_eq_true rfl)) d_Md_above_8 ⟨Nat.le_of_ble_eq_true rfl, Nat.le_of_ble_eq_true rfl⟩ rfl rfl (fun z1 u H locs h hP hD hS => ?_)
  generalize u = u2 at h hP hD
  have hP : va_P G.1 CL [(h0, .inr (11, [.int (gI u2 0), .ref (q0 1), .ref (q0 2), .ref (q0 3), .ref (q0 4), .ref (q0 5), .ref (q0 6), .int (gI u2 7), .int (gI u2 8), .int (gI u2 9), .int (gI u2 10), .int (gI u2 11), .int (gI u2 12), .int (gI u2 13), .int (gI u2 14), .long (gL u2 15), .int (gI u2 16), .int (gI u2 17), .int (gI u2 18), .int (gI u2 19), .int (gI u2 20), .int (gI u2 21), .int (gI u2 22), .int (gI u2 23), .int (gI u2 24), .int (gI u2 25), .int (gI u2 26), .int (gI u2 27), .ref (q0 28), .long (gL u2 29), .int (gI u2 30), .ref (q0 31), .ref (q0 32), .ref (q0 33), .int (gI u2 34), .int (gI u2 35), .int (gI u2 36), .int (gI u2 37), .ref (q0 38), .ref (q0 39), .int (gI u2 40), .ref (q0 41), .ref (q0 42), .ref (q0 43), .ref (q0 44)])), kI G (q0 1) 6100 (gA u2 1), kI G (q0 2) 6100 (gA u2 2), kJ G (q0 3) 2016 (gB u2 3), kJ G (q0 4) 2016 (gB u2 4), kI G (q0 5) 300 (gA u2 5), kI G (q0 6) 400 (gA u2 6), kJ G (q0 28) 10 (gB u2 28), kI G (q0 31) 969 (gA u2 31), kI G (q0 32) 969 (gA u2 32), kI G (q0 33) 969 (gA u2 33), kI G (q0 38) 5 (gA u2 38), kI G (q0 39) 5120 (gA u2 39), kI G (q0 41) 5 (gA u2 41), kZ G (q0 42) 1024 (gA u2 42), kI G (q0 43) 8192 (gA u2 43), kI G (q0 44) 8192 (gA u2 44)] H := hP
  have hD : va_D A [(h0, .inr (11, [.int (gI u2 0), .ref (q0 1), .ref (q0 2), .ref (q0 3), .ref (q0 4), .ref (q0 5), .ref (q0 6), .int (gI u2 7), .int (gI u2 8), .int (gI u2 9), .int (gI u2 10), .int (gI u2 11), .int (gI u2 12), .int (gI u2 13), .int (gI u2 14), .long (gL u2 15), .int (gI u2 16), .int (gI u2 17), .int (gI u2 18), .int (gI u2 19), .int (gI u2 20), .int (gI u2 21), .int (gI u2 22), .int (gI u2 23), .int (gI u2 24), .int (gI u2 25), .int (gI u2 26), .int (gI u2 27), .ref (q0 28), .long (gL u2 29), .int (gI u2 30), .ref (q0 31), .ref (q0 32), .ref (q0 33), .int (gI u2 34), .int (gI u2 35), .int (gI u2 36), .int (gI u2 37), .ref (q0 38), .ref (q0 39), .int (gI u2 40), .ref (q0 41), .ref (q0 42), .ref (q0 43), .ref (q0 44)])), kI G (q0 1) 6100 (gA u2 1), kI G (q0 2) 6100 (gA u2 2), kJ G (q0 3) 2016 (gB u2 3), kJ G (q0 4) 2016 (gB u2 4), kI G (q0 5) 300 (gA u2 5), kI G (q0 6) 400 (gA u2 6), kJ G (q0 28) 10 (gB u2 28), kI G (q0 31) 969 (gA u2 31), kI G (q0 32) 969 (gA u2 32), kI G (q0 33) 969 (gA u2 33), kI G (q0 38) 5 (gA u2 38), kI G (q0 39) 5120 (gA u2 39), kI G (q0 41) 5 (gA u2 41), kZ G (q0 42) 1024 (gA u2 42), kI G (q0 43) 8192 (gA u2 43), kI G (q0 44) 8192 (gA u2 44)] := hD
  refine lv_if_eq (tgt := 35) hx hb d_Md_above_11 (by decide) (fun c3 => ?_) (fun c3 => ?_)
  · have h := h.1 c3
    refine lv_iconst (v := (-1 : Int32)) hx hb d_Md_above_35 (by decide) ?_
    have hP : va_P G.1 CL (cw_Md G h0 q0 u2) H := hP
    have hD : va_D A (cw_Md G h0 q0 u2) := hD
    exact W.iret (v := (-1 : Int32)) hx hb hr (fun t ht hW => ⟨⟨(-1 : Int32), u2, rfl, h, by rw [ht]; exact hP, va_K.moved hW.alike hK, hD⟩, hS.F ht⟩) hS.2.2 d_Md_above_36
  · have h := h.2 c3
    refine lv_iload hx hb d_Md_above_14 (lv_at hl 6 rfl) ?_
    refine lv_bipush (v := (-20 : Int32)) hx hb d_Md_above_16 (by decide) ?_
    refine lv_bipush (v := (20 : Int32)) hx hb d_Md_above_18 (by decide) ?_
    refine cl_Si (b := b_Md_above) (As := [.int a5, .int (-20 : Int32), .int (20 : Int32)]) (rest := []) (ws := [(h0, .inr (11, [.int (gI u2 0), .ref (q0 1), .ref (q0 2), .ref (q0 3), .ref (q0 4), .ref (q0 5), .ref (q0 6), .int (gI u2 7), .int (gI u2 8), .int (gI u2 9), .int (gI u2 10), .int (gI u2 11), .int (gI u2 12), .int (gI u2 13), .int (gI u2 14), .long (gL u2 15), .int (gI u2 16), .int (gI u2 17), .int (gI u2 18), .int (gI u2 19), .int (gI u2 20), .int (gI u2 21), .int (gI u2 22), .int (gI u2 23), .int (gI u2 24), .int (gI u2 25), .int (gI u2 26), .int (gI u2 27), .ref (q0 28), .long (gL u2 29), .int (gI u2 30), .ref (q0 31), .ref (q0 32), .ref (q0 33), .int (gI u2 34), .int (gI u2 35), .int (gI u2 36), .int (gI u2 37), .ref (q0 38), .ref (q0 39), .int (gI u2 40), .ref (q0 41), .ref (q0 42), .ref (q0 43), .ref (q0 44)])), kI G (q0 1) 6100 (gA u2 1), kI G (q0 2) 6100 (gA u2 2), kJ G (q0 3) 2016 (gB u2 3), kJ G (q0 4) 2016 (gB u2 4), kI G (q0 5) 300 (gA u2 5), kI G (q0 6) 400 (gA u2 6), kJ G (q0 28) 10 (gB u2 28), kI G (q0 31) 969 (gA u2 31), kI G (q0 32) 969 (gA u2 32), kI G (q0 33) 969 (gA u2 33), kI G (q0 38) 5 (gA u2 38), kI G (q0 39) 5120 (gA u2 39), kI G (q0 41) 5 (gA u2 41), kZ G (q0 42) 1024 (gA u2 42), kI G (q0 43) 8192 (gA u2 43), kI G (q0 44) 8192 (gA u2 44)]) (wr := [(h0, .inr (11, [.int (gI u2 0), .ref (q0 1), .ref (q0 2), .ref (q0 3), .ref (q0 4), .ref (q0 5), .ref (q0 6), .int (gI u2 7), .int (gI u2 8), .int (gI u2 9), .int (gI u2 10), .int (gI u2 11), .int (gI u2 12), .int (gI u2 13), .int (gI u2 14), .long (gL u2 15), .int (gI u2 16), .int (gI u2 17), .int (gI u2 18), .int (gI u2 19), .int (gI u2 20), .int (gI u2 21), .int (gI u2 22), .int (gI u2 23), .int (gI u2 24), .int (gI u2 25), .int (gI u2 26), .int (gI u2 27), .ref (q0 28), .long (gL u2 29), .int (gI u2 30), .ref (q0 31), .ref (q0 32), .ref (q0 33), .int (gI u2 34), .int (gI u2 35), .int (gI u2 36), .int (gI u2 37), .ref (q0 38), .ref (q0 39), .int (gI u2 40), .ref (q0 41), .ref (q0 42), .ref (q0 43), .ref (q0 44)])), kI G (q0 1) 6100 (gA u2 1), kI G (q0 2) 6100 (gA u2 2), kJ G (q0 3) 2016 (gB u2 3), kJ G (q0 4) 2016 (gB u2 4), kI G (q0 5) 300 (gA u2 5), kI G (q0 6) 400 (gA u2 6), kJ G (q0 28) 10 (gB u2 28), kI G (q0 31) 969 (gA u2 31), kI G (q0 32) 969 (gA u2 32), kI G (q0 33) 969 (gA u2 33), kI G (q0 38) 5 (gA u2 38), kI G (q0 39) 5120 (gA u2 39), kI G (q0 41) 5 (gA u2 41), kZ G (q0 42) 1024 (gA u2 42), kI G (q0 43) 8192 (gA u2 43), kI G (q0 44) 8192 (gA u2 44)]) (w2 := fun (u : Unit) => [(h0, .inr (11, [.int (gI u2 0), .ref (q0 1), .ref (q0 2), .ref (q0 3), .ref (q0 4), .ref (q0 5), .ref (q0 6), .int (gI u2 7), .int (gI u2 8), .int (gI u2 9), .int (gI u2 10), .int (gI u2 11), .int (gI u2 12), .int (gI u2 13), .int (gI u2 14), .long (gL u2 15), .int (gI u2 16), .int (gI u2 17), .int (gI u2 18), .int (gI u2 19), .int (gI u2 20), .int (gI u2 21), .int (gI u2 22), .int (gI u2 23), .int (gI u2 24), .int (gI u2 25), .int (gI u2 26), .int (gI u2 27), .ref (q0 28), .long (gL u2 29), .int (gI u2 30), .ref (q0 31), .ref (q0 32), .ref (q0 33), .int (gI u2 34), .int (gI u2 35), .int (gI u2 36), .int (gI u2 37), .ref (q0 38), .ref (q0 39), .int (gI u2 40), .ref (q0 41), .ref (q0 42), .ref (q0 43), .ref (q0 44)])), kI G (q0 1) 6100 (gA u2 1), kI G (q0 2) 6100 (gA u2 2), kJ G (q0 3) 2016 (gB u2 3), kJ G (q0 4) 2016 (gB u2 4), kI G (q0 5) 300 (gA u2 5), kI G (q0 6) 400 (gA u2 6), kJ G (q0 28) 10 (gB u2 28), kI G (q0 31) 969 (gA u2 31), kI G (q0 32) 969 (gA u2 32), kI G (q0 33) 969 (gA u2 33), kI G (q0 38) 5 (gA u2 38), kI G (q0 39) 5120 (gA u2 39), kI G (q0 41) 5 (gA u2 41), kZ G (q0 42) 1024 (gA u2 42), kI G (q0 43) 8192 (gA u2 43), kI G (q0 44) 8192 (gA u2 44)]) C (c_Md_isIn H.size h) ws_Md_76 ⟨Nat.le_of_ble_eq_true rfl, Nat.le_of_ble_eq_true rfl⟩ hP hD hS [] [0, 1, 2, 3, 4, 5, 6, 7, 8, 9, 10, 11, 12, 13, 14, 15, 16] rfl rfl (by decide) (by decide) (by decide) [0, 1, 2, 3, 4, 5, 6, 7, 8, 9, 10, 11, 12, 13, 14, 15, 16] (by decide) (fun u => rfl) rfl hl.1 rfl (lv_room (Nat.le_of_ble_eq_true rfl)) d_Md_above_20 ⟨Nat.le_of_ble_eq_true rfl, Nat.le_of_ble_eq_true rfl⟩ rfl rfl (fun z4 u H locs h hP hD hS => ?_)
    have hP : va_P G.1 CL [(h0, .inr (11, [.int (gI u2 0), .ref (q0 1), .ref (q0 2), .ref (q0 3), .ref (q0 4), .ref (q0 5), .ref (q0 6), .int (gI u2 7), .int (gI u2 8), .int (gI u2 9), .int (gI u2 10), .int (gI u2 11), .int (gI u2 12), .int (gI u2 13), .int (gI u2 14), .long (gL u2 15), .int (gI u2 16), .int (gI u2 17), .int (gI u2 18), .int (gI u2 19), .int (gI u2 20), .int (gI u2 21), .int (gI u2 22), .int (gI u2 23), .int (gI u2 24), .int (gI u2 25), .int (gI u2 26), .int (gI u2 27), .ref (q0 28), .long (gL u2 29), .int (gI u2 30), .ref (q0 31), .ref (q0 32), .ref (q0 33), .int (gI u2 34), .int (gI u2 35), .int (gI u2 36), .int (gI u2 37), .ref (q0 38), .ref (q0 39), .int (gI u2 40), .ref (q0 41), .ref (q0 42), .ref (q0 43), .ref (q0 44)])), kI G (q0 1) 6100 (gA u2 1), kI G (q0 2) 6100 (gA u2 2), kJ G (q0 3) 2016 (gB u2 3), kJ G (q0 4) 2016 (gB u2 4), kI G (q0 5) 300 (gA u2 5), kI G (q0 6) 400 (gA u2 6), kJ G (q0 28) 10 (gB u2 28), kI G (q0 31) 969 (gA u2 31), kI G (q0 32) 969 (gA u2 32), kI G (q0 33) 969 (gA u2 33), kI G (q0 38) 5 (gA u2 38), kI G (q0 39) 5120 (gA u2 39), kI G (q0 41) 5 (gA u2 41), kZ G (q0 42) 1024 (gA u2 42), kI G (q0 43) 8192 (gA u2 43), kI G (q0 44) 8192 (gA u2 44)] H := hP
    have hD : va_D A [(h0, .inr (11, [.int (gI u2 0), .ref (q0 1), .ref (q0 2), .ref (q0 3), .ref (q0 4), .ref (q0 5), .ref (q0 6), .int (gI u2 7), .int (gI u2 8), .int (gI u2 9), .int (gI u2 10), .int (gI u2 11), .int (gI u2 12), .int (gI u2 13), .int (gI u2 14), .long (gL u2 15), .int (gI u2 16), .int (gI u2 17), .int (gI u2 18), .int (gI u2 19), .int (gI u2 20), .int (gI u2 21), .int (gI u2 22), .int (gI u2 23), .int (gI u2 24), .int (gI u2 25), .int (gI u2 26), .int (gI u2 27), .ref (q0 28), .long (gL u2 29), .int (gI u2 30), .ref (q0 31), .ref (q0 32), .ref (q0 33), .int (gI u2 34), .int (gI u2 35), .int (gI u2 36), .int (gI u2 37), .ref (q0 38), .ref (q0 39), .int (gI u2 40), .ref (q0 41), .ref (q0 42), .ref (q0 43), .ref (q0 44)])), kI G (q0 1) 6100 (gA u2 1), kI G (q0 2) 6100 (gA u2 2), kJ G (q0 3) 2016 (gB u2 3), kJ G (q0 4) 2016 (gB u2 4), kI G (q0 5) 300 (gA u2 5), kI G (q0 6) 400 (gA u2 6), kJ G (q0 28) 10 (gB u2 28), kI G (q0 31) 969 (gA u2 31), kI G (q0 32) 969 (gA u2 32), kI G (q0 33) 969 (gA u2 33), kI G (q0 38) 5 (gA u2 38), kI G (q0 39) 5120 (gA u2 39), kI G (q0 41) 5 (gA u2 41), kZ G (q0 42) 1024 (gA u2 42), kI G (q0 43) 8192 (gA u2 43), kI G (q0 44) 8192 (gA u2 44)] := hD
    refine lv_if_eq (tgt := 35) hx hb d_Md_above_23 (by decide) (fun c5 => ?_) (fun c5 => ?_)
    · have h := h.1 c5
      refine lv_iconst (v := (-1 : Int32)) hx hb d_Md_above_35 (by decide) ?_
      have hP : va_P G.1 CL (cw_Md G h0 q0 u2) H := hP
      have hD : va_D A (cw_Md G h0 q0 u2) := hD
      exact W.iret (v := (-1 : Int32)) hx hb hr (fun t ht hW => ⟨⟨(-1 : Int32), u2, rfl, h, by rw [ht]; exact hP, va_K.moved hW.alike hK, hD⟩, hS.F ht⟩) hS.2.2 d_Md_above_36
    · have h := h.2 c5
      refine lv_aload_n hx hb d_Md_above_26 rfl (lv_at hl 0 rfl) ?_
      refine lv_iload hx hb d_Md_above_27 (lv_at hl 6 rfl) ?_
      refine cl_Vi (b := b_Md_above) (As := [.int a5]) (rest := []) (ws := [(h0, .inr (11, [.int (gI u2 0), .ref (q0 1), .ref (q0 2), .ref (q0 3), .ref (q0 4), .ref (q0 5), .ref (q0 6), .int (gI u2 7), .int (gI u2 8), .int (gI u2 9), .int (gI u2 10), .int (gI u2 11), .int (gI u2 12), .int (gI u2 13), .int (gI u2 14), .long (gL u2 15), .int (gI u2 16), .int (gI u2 17), .int (gI u2 18), .int (gI u2 19), .int (gI u2 20), .int (gI u2 21), .int (gI u2 22), .int (gI u2 23), .int (gI u2 24), .int (gI u2 25), .int (gI u2 26), .int (gI u2 27), .ref (q0 28), .long (gL u2 29), .int (gI u2 30), .ref (q0 31), .ref (q0 32), .ref (q0 33), .int (gI u2 34), .int (gI u2 35), .int (gI u2 36), .int (gI u2 37), .ref (q0 38), .ref (q0 39), .int (gI u2 40), .ref (q0 41), .ref (q0 42), .ref (q0 43), .ref (q0 44)])), kI G (q0 1) 6100 (gA u2 1), kI G (q0 2) 6100 (gA u2 2), kJ G (q0 3) 2016 (gB u2 3), kJ G (q0 4) 2016 (gB u2 4), kI G (q0 5) 300 (gA u2 5), kI G (q0 6) 400 (gA u2 6), kJ G (q0 28) 10 (gB u2 28), kI G (q0 31) 969 (gA u2 31), kI G (q0 32) 969 (gA u2 32), kI G (q0 33) 969 (gA u2 33), kI G (q0 38) 5 (gA u2 38), kI G (q0 39) 5120 (gA u2 39), kI G (q0 41) 5 (gA u2 41), kZ G (q0 42) 1024 (gA u2 42), kI G (q0 43) 8192 (gA u2 43), kI G (q0 44) 8192 (gA u2 44)]) (wr := []) (w2 := fun (u : Unit) => [(h0, .inr (11, [.int (gI u2 0), .ref (q0 1), .ref (q0 2), .ref (q0 3), .ref (q0 4), .ref (q0 5), .ref (q0 6), .int (gI u2 7), .int (gI u2 8), .int (gI u2 9), .int (gI u2 10), .int (gI u2 11), .int (gI u2 12), .int (gI u2 13), .int (gI u2 14), .long (gL u2 15), .int (gI u2 16), .int (gI u2 17), .int (gI u2 18), .int (gI u2 19), .int (gI u2 20), .int (gI u2 21), .int (gI u2 22), .int (gI u2 23), .int (gI u2 24), .int (gI u2 25), .int (gI u2 26), .int (gI u2 27), .ref (q0 28), .long (gL u2 29), .int (gI u2 30), .ref (q0 31), .ref (q0 32), .ref (q0 33), .int (gI u2 34), .int (gI u2 35), .int (gI u2 36), .int (gI u2 37), .ref (q0 38), .ref (q0 39), .int (gI u2 40), .ref (q0 41), .ref (q0 42), .ref (q0 43), .ref (q0 44)])), kI G (q0 1) 6100 (gA u2 1), kI G (q0 2) 6100 (gA u2 2), kJ G (q0 3) 2016 (gB u2 3), kJ G (q0 4) 2016 (gB u2 4), kI G (q0 5) 300 (gA u2 5), kI G (q0 6) 400 (gA u2 6), kJ G (q0 28) 10 (gB u2 28), kI G (q0 31) 969 (gA u2 31), kI G (q0 32) 969 (gA u2 32), kI G (q0 33) 969 (gA u2 33), kI G (q0 38) 5 (gA u2 38), kI G (q0 39) 5120 (gA u2 39), kI G (q0 41) 5 (gA u2 41), kZ G (q0 42) 1024 (gA u2 42), kI G (q0 43) 8192 (gA u2 43), kI G (q0 44) 8192 (gA u2 44)]) C (c_Md_aboveOf (h0 := h0) (q0 := q0) H.size h) wv_Md_267 ⟨Nat.le_of_ble_eq_true rfl, Nat.le_of_ble_eq_true rfl⟩ hP hD hS 0 rfl rfl [0, 1, 2, 3, 4, 5, 6, 7, 8, 9, 10, 11, 12, 13, 14, 15, 16] [] rfl rfl (by decide) (by decide) (by decide) [0, 1, 2, 3, 4, 5, 6, 7, 8, 9, 10, 11, 12, 13, 14, 15, 16] (by decide) (fun u => rfl) rfl hl.1 rfl (lv_room (Nat.le_of_ble_eq_true rfl)) d_Md_above_29 ⟨Nat.le_of_ble_eq_true rfl, Nat.le_of_ble_eq_true rfl⟩ rfl rfl (fun z6 u H locs h hP hD hS => ?_)
      have hP : va_P G.1 CL [(h0, .inr (11, [.int (gI u2 0), .ref (q0 1), .ref (q0 2), .ref (q0 3), .ref (q0 4), .ref (q0 5), .ref (q0 6), .int (gI u2 7), .int (gI u2 8), .int (gI u2 9), .int (gI u2 10), .int (gI u2 11), .int (gI u2 12), .int (gI u2 13), .int (gI u2 14), .long (gL u2 15), .int (gI u2 16), .int (gI u2 17), .int (gI u2 18), .int (gI u2 19), .int (gI u2 20), .int (gI u2 21), .int (gI u2 22), .int (gI u2 23), .int (gI u2 24), .int (gI u2 25), .int (gI u2 26), .int (gI u2 27), .ref (q0 28), .long (gL u2 29), .int (gI u2 30), .ref (q0 31), .ref (q0 32), .ref (q0 33), .int (gI u2 34), .int (gI u2 35), .int (gI u2 36), .int (gI u2 37), .ref (q0 38), .ref (q0 39), .int (gI u2 40), .ref (q0 41), .ref (q0 42), .ref (q0 43), .ref (q0 44)])), kI G (q0 1) 6100 (gA u2 1), kI G (q0 2) 6100 (gA u2 2), kJ G (q0 3) 2016 (gB u2 3), kJ G (q0 4) 2016 (gB u2 4), kI G (q0 5) 300 (gA u2 5), kI G (q0 6) 400 (gA u2 6), kJ G (q0 28) 10 (gB u2 28), kI G (q0 31) 969 (gA u2 31), kI G (q0 32) 969 (gA u2 32), kI G (q0 33) 969 (gA u2 33), kI G (q0 38) 5 (gA u2 38), kI G (q0 39) 5120 (gA u2 39), kI G (q0 41) 5 (gA u2 41), kZ G (q0 42) 1024 (gA u2 42), kI G (q0 43) 8192 (gA u2 43), kI G (q0 44) 8192 (gA u2 44)] H := hP
      have hD : va_D A [(h0, .inr (11, [.int (gI u2 0), .ref (q0 1), .ref (q0 2), .ref (q0 3), .ref (q0 4), .ref (q0 5), .ref (q0 6), .int (gI u2 7), .int (gI u2 8), .int (gI u2 9), .int (gI u2 10), .int (gI u2 11), .int (gI u2 12), .int (gI u2 13), .int (gI u2 14), .long (gL u2 15), .int (gI u2 16), .int (gI u2 17), .int (gI u2 18), .int (gI u2 19), .int (gI u2 20), .int (gI u2 21), .int (gI u2 22), .int (gI u2 23), .int (gI u2 24), .int (gI u2 25), .int (gI u2 26), .int (gI u2 27), .ref (q0 28), .long (gL u2 29), .int (gI u2 30), .ref (q0 31), .ref (q0 32), .ref (q0 33), .int (gI u2 34), .int (gI u2 35), .int (gI u2 36), .int (gI u2 37), .ref (q0 38), .ref (q0 39), .int (gI u2 40), .ref (q0 41), .ref (q0 42), .ref (q0 43), .ref (q0 44)])), kI G (q0 1) 6100 (gA u2 1), kI G (q0 2) 6100 (gA u2 2), kJ G (q0 3) 2016 (gB u2 3), kJ G (q0 4) 2016 (gB u2 4), kI G (q0 5) 300 (gA u2 5), kI G (q0 6) 400 (gA u2 6), kJ G (q0 28) 10 (gB u2 28), kI G (q0 31) 969 (gA u2 31), kI G (q0 32) 969 (gA u2 32), kI G (q0 33) 969 (gA u2 33), kI G (q0 38) 5 (gA u2 38), kI G (q0 39) 5120 (gA u2 39), kI G (q0 41) 5 (gA u2 41), kZ G (q0 42) 1024 (gA u2 42), kI G (q0 43) 8192 (gA u2 43), kI G (q0 44) 8192 (gA u2 44)] := hD
      refine lv_goto (tgt := 36) hx hb d_Md_above_32 (by decide) ?_
      have hP : va_P G.1 CL (cw_Md G h0 q0 u2) H := hP
      have hD : va_D A (cw_Md G h0 q0 u2) := hD
      exact W.iret (v := z6) hx hb hr (fun t ht hW => ⟨⟨z6, u2, rfl, h, by rw [ht]; exact hP, va_K.moved hW.alike hK, hD⟩, hS.F ht⟩) hS.2.2 d_Md_above_36
abbrev b_Md_boxOf : ByteArray := prog_14_method_49_code
def y_Md_boxOf : MethodName := ⟨R_Md, "boxOf", "(I)I"⟩
abbrev w_Md_boxOf : List Cond := Cond.code y_Md_boxOf b_Md_boxOf 3 (some .int) :: gw_tbl
theorem d_Md_boxOf_0 : decode b_Md_boxOf 0 = .ok (.bipush 19, 2) := by decide +kernel
theorem d_Md_boxOf_2 : decode b_Md_boxOf 2 = .ok (.istore_n 2, 1) := by decide +kernel
theorem d_Md_boxOf_3 : decode b_Md_boxOf 3 = .ok (.iload_n 2, 1) := by decide +kernel
theorem d_Md_boxOf_4 : decode b_Md_boxOf 4 = .ok (.bipush (-20), 2) := by decide +kernel
theorem d_Md_boxOf_6 : decode b_Md_boxOf 6 = .ok (.if_icmp .lt 20, 3) := by decide +kernel
theorem d_Md_boxOf_9 : decode b_Md_boxOf 9 = .ok (.aload_n 0, 1) := by decide +kernel
theorem d_Md_boxOf_10 : decode b_Md_boxOf 10 = .ok (.iload_n 2, 1) := by decide +kernel
theorem d_Md_boxOf_11 : decode b_Md_boxOf 11 = .ok (.invokevirtual 267, 3) := by decide +kernel
theorem d_Md_boxOf_14 : decode b_Md_boxOf 14 = .ok (.iload_n 1, 1) := by decide +kernel
theorem d_Md_boxOf_15 : decode b_Md_boxOf 15 = .ok (.if_icmp .le 5, 3) := by decide +kernel
theorem d_Md_boxOf_18 : decode b_Md_boxOf 18 = .ok (.iload_n 2, 1) := by decide +kernel
theorem d_Md_boxOf_19 : decode b_Md_boxOf 19 = .ok (.ireturn, 1) := by decide +kernel
theorem d_Md_boxOf_20 : decode b_Md_boxOf 20 = .ok (.iinc 2 (-1), 3) := by decide +kernel
theorem d_Md_boxOf_23 : decode b_Md_boxOf 23 = .ok (.goto (-20), 3) := by decide +kernel
theorem d_Md_boxOf_26 : decode b_Md_boxOf 26 = .ok (.bipush (-100), 2) := by decide +kernel
theorem d_Md_boxOf_28 : decode b_Md_boxOf 28 = .ok (.ireturn, 1) := by decide +kernel
def f_Md_boxOf_3 (o0 : Ob) (Q : Int32 → Prop) : Nat → Int32 → Int32 → Prop
  | 0, _, _ => False
  | n + 1, x1, x2 => (x2 < (-20 : Int32) → (Q (-100 : Int32))) ∧ (¬ x2 < (-20 : Int32) → (f_Md_aboveOf x2 o0 (fun z2 => (z2 ≤ x1 → ((f_Md_boxOf_3 o0 Q n) x1 (x2 + (-1 : Int32)))) ∧ (¬ z2 ≤ x1 → (Q x2)))))
def f_Md_boxOf (a0 : Int32) (o0 : Ob) (Q : Int32 → Prop) : Prop := (∃ w, f_Md_boxOf_3 o0 Q w a0 (19 : Int32))
abbrev rm_Md_boxOf : Room := { frames := 1, cells := 0, slots := 0, locals := 32 }
set_option maxHeartbeats 4000000 in
set_option maxRecDepth 100000 in
theorem t_Md_boxOf_3 {p : Program} {l : Launch} {e : Env} {s : State} {m : MethodId} {args : Array Value} {below : List Frame} {meth : Method} {c : Code} {A : Nat → Prop} {G : Gl} {h0 : Nat} {q0 : Nat → Nat} (o0 : Ob) (Q : Int32 → Prop) (C : Cx p s m args meth c R_Md b_Md_boxOf 3 (some .int) G A) :
    ∀ (n : Nat) (x1 : Int32) (x2 : Int32) (ls : Array Slot) (H : Heap) (locs : List Loc), lv_has ls 3 [(0, .ref h0), (1, .int x1), (2, .int x2)] → va_P G.1 CL (cw_Md G h0 q0 o0) H → va_D A (cw_Md G h0 q0 o0) → va_S A s.heap H locs → f_Md_boxOf_3 o0 Q n x1 x2 → W p l e rm_Md_boxOf s m args below meth c H locs 0 0 (MQ below (va_Qi (fun (r : Int32) (u : Unit) => Q r) (fun (u : Unit) t => BW G A (cw_Md G h0 q0 o0) t) A) args s 0 0 A) (F0 m 3 ls []) := by
  obtain ⟨hx, hb, hml, hown, hr, hts, hK, hA, hlocks, hE⟩ := id C
  intro n
  induction n with
  | zero => intro x1 x2 ls H locs hl hP hD hS h; exact absurd h id
  | succ n ih =>
    intro x1 x2 ls H locs hl hP hD hS h
    have hP : va_P G.1 CL [(h0, .inr (11, [.int (gI o0 0), .ref (q0 1), .ref (q0 2), .ref (q0 3), .ref (q0 4), .ref (q0 5), .ref (q0 6), .int (gI o0 7), .int (gI o0 8), .int (gI o0 9), .int (gI o0 10), .int (gI o0 11), .int (gI o0 12), .int (gI o0 13), .int (gI o0 14), .long (gL o0 15), .int (gI o0 16), .int (gI o0 17), .int (gI o0 18), .int (gI o0 19), .int (gI o0 20), .int (gI o0 21), .int (gI o0 22), .int (gI o0 23), .int (gI o0 24), .int (gI o0 25), .int (gI o0 26), .int (gI o0 27), .ref (q0 28), .long (gL o0 29), .int (gI o0 30), .ref (q0 31), .ref (q0 32), .ref (q0 33), .int (gI o0 34), .int (gI o0 35), .int (gI o0 36), .int (gI o0 37), .ref (q0 38), .ref (q0 39), .int (gI o0 40), .ref (q0 41), .ref (q0 42), .ref (q0 43), .ref (q0 44)])), kI G (q0 1) 6100 (gA o0 1), kI G (q0 2) 6100 (gA o0 2), kJ G (q0 3) 2016 (gB o0 3), kJ G (q0 4) 2016 (gB o0 4), kI G (q0 5) 300 (gA o0 5), kI G (q0 6) 400 (gA o0 6), kJ G (q0 28) 10 (gB o0 28), kI G (q0 31) 969 (gA o0 31), kI G (q0 32) 969 (gA o0 32), kI G (q0 33) 969 (gA o0 33), kI G (q0 38) 5 (gA o0 38), kI G (q0 39) 5120 (gA o0 39), kI G (q0 41) 5 (gA o0 41), kZ G (q0 42) 1024 (gA o0 42), kI G (q0 43) 8192 (gA o0 43), kI G (q0 44) 8192 (gA o0 44)] H := hP
    have hD : va_D A [(h0, .inr (11, [.int (gI o0 0), .ref (q0 1), .ref (q0 2), .ref (q0 3), .ref (q0 4), .ref (q0 5), .ref (q0 6), .int (gI o0 7), .int (gI o0 8), .int (gI o0 9), .int (gI o0 10), .int (gI o0 11), .int (gI o0 12), .int (gI o0 13), .int (gI o0 14), .long (gL o0 15), .int (gI o0 16), .int (gI o0 17), .int (gI o0 18), .int (gI o0 19), .int (gI o0 20), .int (gI o0 21), .int (gI o0 22), .int (gI o0 23), .int (gI o0 24), .int (gI o0 25), .int (gI o0 26), .int (gI o0 27), .ref (q0 28), .long (gL o0 29), .int (gI o0 30), .ref (q0 31), .ref (q0 32), .ref (q0 33), .int (gI o0 34), .int (gI o0 35), .int (gI o0 36), .int (gI o0 37), .ref (q0 38), .ref (q0 39), .int (gI o0 40), .ref (q0 41), .ref (q0 42), .ref (q0 43), .ref (q0 44)])), kI G (q0 1) 6100 (gA o0 1), kI G (q0 2) 6100 (gA o0 2), kJ G (q0 3) 2016 (gB o0 3), kJ G (q0 4) 2016 (gB o0 4), kI G (q0 5) 300 (gA o0 5), kI G (q0 6) 400 (gA o0 6), kJ G (q0 28) 10 (gB o0 28), kI G (q0 31) 969 (gA o0 31), kI G (q0 32) 969 (gA o0 32), kI G (q0 33) 969 (gA o0 33), kI G (q0 38) 5 (gA o0 38), kI G (q0 39) 5120 (gA o0 39), kI G (q0 41) 5 (gA o0 41), kZ G (q0 42) 1024 (gA o0 42), kI G (q0 43) 8192 (gA o0 43), kI G (q0 44) 8192 (gA o0 44)] := hD
    unfold f_Md_boxOf_3 at h
    refine lv_iload_n hx hb d_Md_boxOf_3 rfl (lv_at hl 2 rfl) ?_
    refine lv_bipush (v := (-20 : Int32)) hx hb d_Md_boxOf_4 (by decide) ?_
    refine lv_icmp_lt (tgt := 26) hx hb d_Md_boxOf_6 (by decide) (fun c1 => ?_) (fun c1 => ?_)
    · have h := h.1 c1
      refine lv_bipush (v := (-100 : Int32)) hx hb d_Md_boxOf_26 (by decide) ?_
      have hP : va_P G.1 CL (cw_Md G h0 q0 o0) H := hP
      have hD : va_D A (cw_Md G h0 q0 o0) := hD
      exact W.iret (v := (-100 : Int32)) hx hb hr (fun t ht hW => ⟨⟨(-100 : Int32), (), rfl, h, by rw [ht]; exact hP, va_K.moved hW.alike hK, hD⟩, hS.F ht⟩) hS.2.2 d_Md_boxOf_28
    · have h := h.2 c1
      refine lv_aload_n hx hb d_Md_boxOf_9 rfl (lv_at hl 0 rfl) ?_
      refine lv_iload_n hx hb d_Md_boxOf_10 rfl (lv_at hl 2 rfl) ?_
      refine cl_Vi (b := b_Md_boxOf) (As := [.int x2]) (rest := []) (ws := [(h0, .inr (11, [.int (gI o0 0), .ref (q0 1), .ref (q0 2), .ref (q0 3), .ref (q0 4), .ref (q0 5), .ref (q0 6), .int (gI o0 7), .int (gI o0 8), .int (gI o0 9), .int (gI o0 10), .int (gI o0 11), .int (gI o0 12), .int (gI o0 13), .int (gI o0 14), .long (gL o0 15), .int (gI o0 16), .int (gI o0 17), .int (gI o0 18), .int (gI o0 19), .int (gI o0 20), .int (gI o0 21), .int (gI o0 22), .int (gI o0 23), .int (gI o0 24), .int (gI o0 25), .int (gI o0 26), .int (gI o0 27), .ref (q0 28), .long (gL o0 29), .int (gI o0 30), .ref (q0 31), .ref (q0 32), .ref (q0 33), .int (gI o0 34), .int (gI o0 35), .int (gI o0 36), .int (gI o0 37), .ref (q0 38), .ref (q0 39), .int (gI o0 40), .ref (q0 41), .ref (q0 42), .ref (q0 43), .ref (q0 44)])), kI G (q0 1) 6100 (gA o0 1), kI G (q0 2) 6100 (gA o0 2), kJ G (q0 3) 2016 (gB o0 3), kJ G (q0 4) 2016 (gB o0 4), kI G (q0 5) 300 (gA o0 5), kI G (q0 6) 400 (gA o0 6), kJ G (q0 28) 10 (gB o0 28), kI G (q0 31) 969 (gA o0 31), kI G (q0 32) 969 (gA o0 32), kI G (q0 33) 969 (gA o0 33), kI G (q0 38) 5 (gA o0 38), kI G (q0 39) 5120 (gA o0 39), kI G (q0 41) 5 (gA o0 41), kZ G (q0 42) 1024 (gA o0 42), kI G (q0 43) 8192 (gA o0 43), kI G (q0 44) 8192 (gA o0 44)]) (wr := []) (w2 := fun (u : Unit) => [(h0, .inr (11, [.int (gI o0 0), .ref (q0 1), .ref (q0 2), .ref (q0 3), .ref (q0 4), .ref (q0 5), .ref (q0 6), .int (gI o0 7), .int (gI o0 8), .int (gI o0 9), .int (gI o0 10), .int (gI o0 11), .int (gI o0 12), .int (gI o0 13), .int (gI o0 14), .long (gL o0 15), .int (gI o0 16), .int (gI o0 17), .int (gI o0 18), .int (gI o0 19), .int (gI o0 20), .int (gI o0 21), .int (gI o0 22), .int (gI o0 23), .int (gI o0 24), .int (gI o0 25), .int (gI o0 26), .int (gI o0 27), .ref (q0 28), .long (gL o0 29), .int (gI o0 30), .ref (q0 31), .ref (q0 32), .ref (q0 33), .int (gI o0 34), .int (gI o0 35), .int (gI o0 36), .int (gI o0 37), .ref (q0 38), .ref (q0 39), .int (gI o0 40), .ref (q0 41), .ref (q0 42), .ref (q0 43), .ref (q0 44)])), kI G (q0 1) 6100 (gA o0 1), kI G (q0 2) 6100 (gA o0 2), kJ G (q0 3) 2016 (gB o0 3), kJ G (q0 4) 2016 (gB o0 4), kI G (q0 5) 300 (gA o0 5), kI G (q0 6) 400 (gA o0 6), kJ G (q0 28) 10 (gB o0 28), kI G (q0 31) 969 (gA o0 31), kI G (q0 32) 969 (gA o0 32), kI G (q0 33) 969 (gA o0 33), kI G (q0 38) 5 (gA o0 38), kI G (q0 39) 5120 (gA o0 39), kI G (q0 41) 5 (gA o0 41), kZ G (q0 42) 1024 (gA o0 42), kI G (q0 43) 8192 (gA o0 43), kI G (q0 44) 8192 (gA o0 44)]) C (c_Md_aboveOf (h0 := h0) (q0 := q0) H.size h) wv_Md_267 ⟨Nat.le_of_ble_eq_true rfl, Nat.le_of_ble_eq_true rfl⟩ hP hD hS 0 rfl rfl [0, 1, 2, 3, 4, 5, 6, 7, 8, 9, 10, 11, 12, 13, 14, 15, 16] [] rfl rfl (by decide) (by decide) (by decide) [0, 1, 2, 3, 4, 5, 6, 7, 8, 9, 10, 11, 12, 13, 14, 15, 16] (by decide) (fun u => rfl) rfl hl.1 rfl (lv_room (Nat.le_of_ble_eq_true rfl)) d_Md_boxOf_11 ⟨Nat.le_of_ble_eq_true rfl, Nat.le_of_ble_eq_true rfl⟩ rfl rfl (fun z2 u H locs h hP hD hS => ?_)
      have hP : va_P G.1 CL [(h0, .inr (11, [.int (gI o0 0), .ref (q0 1), .ref (q0 2), .ref (q0 3), .ref (q0 4), .ref (q0 5), .ref (q0 6), .int (gI o0 7), .int (gI o0 8), .int (gI o0 9), .int (gI o0 10), .int (gI o0 11), .int (gI o0 12), .int (gI o0 13), .int (gI o0 14), .long (gL o0 15), .int (gI o0 16), .int (gI o0 17), .int (gI o0 18), .int (gI o0 19), .int (gI o0 20), .int (gI o0 21), .int (gI o0 22), .int (gI o0 23), .int (gI o0 24), .int (gI o0 25), .int (gI o0 26), .int (gI o0 27), .ref (q0 28), .long (gL o0 29), .int (gI o0 30), .ref (q0 31), .ref (q0 32), .ref (q0 33), .int (gI o0 34), .int (gI o0 35), .int (gI o0 36), .int (gI o0 37), .ref (q0 38), .ref (q0 39), .int (gI o0 40), .ref (q0 41), .ref (q0 42), .ref (q0 43), .ref (q0 44)])), kI G (q0 1) 6100 (gA o0 1), kI G (q0 2) 6100 (gA o0 2), kJ G (q0 3) 2016 (gB o0 3), kJ G (q0 4) 2016 (gB o0 4), kI G (q0 5) 300 (gA o0 5), kI G (q0 6) 400 (gA o0 6), kJ G (q0 28) 10 (gB o0 28), kI G (q0 31) 969 (gA o0 31), kI G (q0 32) 969 (gA o0 32), kI G (q0 33) 969 (gA o0 33), kI G (q0 38) 5 (gA o0 38), kI G (q0 39) 5120 (gA o0 39), kI G (q0 41) 5 (gA o0 41), kZ G (q0 42) 1024 (gA o0 42), kI G (q0 43) 8192 (gA o0 43), kI G (q0 44) 8192 (gA o0 44)] H := hP
      have hD : va_D A [(h0, .inr (11, [.int (gI o0 0), .ref (q0 1), .ref (q0 2), .ref (q0 3), .ref (q0 4), .ref (q0 5), .ref (q0 6), .int (gI o0 7), .int (gI o0 8), .int (gI o0 9), .int (gI o0 10), .int (gI o0 11), .int (gI o0 12), .int (gI o0 13), .int (gI o0 14), .long (gL o0 15), .int (gI o0 16), .int (gI o0 17), .int (gI o0 18), .int (gI o0 19), .int (gI o0 20), .int (gI o0 21), .int (gI o0 22), .int (gI o0 23), .int (gI o0 24), .int (gI o0 25), .int (gI o0 26), .int (gI o0 27), .ref (q0 28), .long (gL o0 29), .int (gI o0 30), .ref (q0 31), .ref (q0 32), .ref (q0 33), .int (gI o0 34), .int (gI o0 35), .int (gI o0 36), .int (gI o0 37), .ref (q0 38), .ref (q0 39), .int (gI o0 40), .ref (q0 41), .ref (q0 42), .ref (q0 43), .ref (q0 44)])), kI G (q0 1) 6100 (gA o0 1), kI G (q0 2) 6100 (gA o0 2), kJ G (q0 3) 2016 (gB o0 3), kJ G (q0 4) 2016 (gB o0 4), kI G (q0 5) 300 (gA o0 5), kI G (q0 6) 400 (gA o0 6), kJ G (q0 28) 10 (gB o0 28), kI G (q0 31) 969 (gA o0 31), kI G (q0 32) 969 (gA o0 32), kI G (q0 33) 969 (gA o0 33), kI G (q0 38) 5 (gA o0 38), kI G (q0 39) 5120 (gA o0 39), kI G (q0 41) 5 (gA o0 41), kZ G (q0 42) 1024 (gA o0 42), kI G (q0 43) 8192 (gA o0 43), kI G (q0 44) 8192 (gA o0 44)] := hD
      refine lv_iload_n hx hb d_Md_boxOf_14 rfl (lv_at hl 1 rfl) ?_
      refine lv_icmp_le (tgt := 20) hx hb d_Md_boxOf_15 (by decide) (fun c3 => ?_) (fun c3 => ?_)
      · have h := h.1 c3
        refine lv_iinc (v := (x2 + (-1 : Int32))) (lv' := [(2, .int (x2 + (-1 : Int32))), (0, .ref h0), (1, .int x1)]) hx hb d_Md_boxOf_20 hl (k := 2) rfl rfl (by decide) rfl (fun ls hl => ?_)
        refine lv_goto (tgt := 3) hx hb d_Md_boxOf_23 (by decide) ?_
        have hl := lv_sub (l' := [(0, .ref h0), (1, .int x1), (2, .int (x2 + (-1 : Int32)))]) hl [1, 2, 0] rfl
        have hP : va_P G.1 CL (cw_Md G h0 q0 o0) H := hP
        have hD : va_D A (cw_Md G h0 q0 o0) := hD
        exact ih x1 (x2 + (-1 : Int32)) ls H locs hl hP hD hS h
      · have h := h.2 c3
        refine lv_iload_n hx hb d_Md_boxOf_18 rfl (lv_at hl 2 rfl) ?_
        have hP : va_P G.1 CL (cw_Md G h0 q0 o0) H := hP
        have hD : va_D A (cw_Md G h0 q0 o0) := hD
        exact W.iret (v := x2) hx hb hr (fun t ht hW => ⟨⟨x2, (), rfl, h, by rw [ht]; exact hP, va_K.moved hW.alike hK, hD⟩, hS.F ht⟩) hS.2.2 d_Md_boxOf_19
set_option maxHeartbeats 4000000 in
set_option maxRecDepth 100000 in
theorem c_Md_boxOf {l : Launch} {G : Gl} {h0 : Nat} {q0 : Nat → Nat} {a0 : Int32} {o0 : Ob} {Q : Int32 → Prop} (sz : Nat) (h : f_Md_boxOf a0 o0 Q) : Met l y_Md_boxOf w_Md_boxOf rm_Md_boxOf (PcW G [.ref h0, .int a0] sz (cw_Md G h0 q0 o0)) (va_Qi (fun (r : Int32) (u : Unit) => Q r) (fun (u : Unit) t => BW G (va_A (cw_Md G h0 q0 o0) sz) (cw_Md G h0 q0 o0) t) (va_A (cw_Md G h0 q0 o0) sz)) 0 0 (va_A (cw_Md G h0 q0 o0) sz) := by
  refine Met.ofW (cc := b_Md_boxOf) (maxL := 3) (ret := (some .int)) (by decide +kernel) rfl ?_
  intro p e s m args below meth c s₁ B hml hv
  obtain ⟨rfl, hsz, hP, hK, hD0, hE⟩ := hv
  have hx := B.exec
  have hb := B.bytes
  have hr := B.returns
  have hts0 := atoms_spec (ws := w_Md_boxOf) B.pre
  have hts : ∀ w ∈ gw_tbl, w.before ([.ref h0, .int a0]).toArray s = true := fun w hw => hts0 w (List.mem_cons_of_mem _ hw)
  have hown : s.vm.findClass R_Md = some m.cls := findClass_of_methodNamed B.named
  have hlocks := B.notSynchronized
  subst hsz
  have hD := hD0.self (sz := s.heap.size)
  generalize hAe : va_A (cw_Md G h0 q0 o0) s.heap.size = A at hD hE ⊢
  have hA : ∀ q : Nat, s.heap.size ≤ q → A q := fun q h => by rw [← hAe]; exact Or.inr h
  have hS : va_S A s.heap s.heap [] := va_S.rf
  have C : Cx p s m ([.ref h0, .int a0]).toArray meth c R_Md b_Md_boxOf 3 (some .int) G A := ⟨hx, hb, hml, hown, hr, hts, hK, hA, hlocks, hE⟩
  have hl := lv_entry ([.ref h0, .int a0]) (n := 3) (Nat.le_of_ble_eq_true rfl)
  rw [lg_entry_eq]
  generalize (lg_sl ([.ref h0, .int a0]) ++ List.replicate (3 - (lg_sl ([.ref h0, .int a0])).length) Slot.unset).toArray = ls at hl ⊢
  have hl : lv_has ls 3 [(0, .ref h0), (1, .int a0)] := hl
  have hD : va_D A [(h0, .inr (11, [.int (gI o0 0), .ref (q0 1), .ref (q0 2), .ref (q0 3), .ref (q0 4), .ref (q0 5), .ref (q0 6), .int (gI o0 7), .int (gI o0 8), .int (gI o0 9), .int (gI o0 10), .int (gI o0 11), .int (gI o0 12), .int (gI o0 13), .int (gI o0 14), .long (gL o0 15), .int (gI o0 16), .int (gI o0 17), .int (gI o0 18), .int (gI o0 19), .int (gI o0 20), .int (gI o0 21), .int (gI o0 22), .int (gI o0 23), .int (gI o0 24), .int (gI o0 25), .int (gI o0 26), .int (gI o0 27), .ref (q0 28), .long (gL o0 29), .int (gI o0 30), .ref (q0 31), .ref (q0 32), .ref (q0 33), .int (gI o0 34), .int (gI o0 35), .int (gI o0 36), .int (gI o0 37), .ref (q0 38), .ref (q0 39), .int (gI o0 40), .ref (q0 41), .ref (q0 42), .ref (q0 43), .ref (q0 44)])), kI G (q0 1) 6100 (gA o0 1), kI G (q0 2) 6100 (gA o0 2), kJ G (q0 3) 2016 (gB o0 3), kJ G (q0 4) 2016 (gB o0 4), kI G (q0 5) 300 (gA o0 5), kI G (q0 6) 400 (gA o0 6), kJ G (q0 28) 10 (gB o0 28), kI G (q0 31) 969 (gA o0 31), kI G (q0 32) 969 (gA o0 32), kI G (q0 33) 969 (gA o0 33), kI G (q0 38) 5 (gA o0 38), kI G (q0 39) 5120 (gA o0 39), kI G (q0 41) 5 (gA o0 41), kZ G (q0 42) 1024 (gA o0 42), kI G (q0 43) 8192 (gA o0 43), kI G (q0 44) 8192 (gA o0 44)] := hD
  unfold f_Md_boxOf at h
  suffices key : ∀ (H : Heap) (locs : List Loc), va_P G.1 CL [(h0, .inr (11, [.int (gI o0 0), .ref (q0 1), .ref (q0 2), .ref (q0 3), .ref (q0 4), .ref (q0 5), .ref (q0 6), .int (gI o0 7), .int (gI o0 8), .int (gI o0 9), .int (gI o0 10), .int (gI o0 11), .int (gI o0 12), .int (gI o0 13), .int (gI o0 14), .long (gL o0 15), .int (gI o0 16), .int (gI o0 17), .int (gI o0 18), .int (gI o0 19), .int (gI o0 20), .int (gI o0 21), .int (gI o0 22), .int (gI o0 23), .int (gI o0 24), .int (gI o0 25), .int (gI o0 26), .int (gI o0 27), .ref (q0 28), .long (gL o0 29), .int (gI o0 30), .ref (q0 31), .ref (q0 32), .ref (q0 33), .int (gI o0 34), .int (gI o0 35), .int (gI o0 36), .int (gI o0 37), .ref (q0 38), .ref (q0 39), .int (gI o0 40), .ref (q0 41), .ref (q0 42), .ref (q0 43), .ref (q0 44)])), kI G (q0 1) 6100 (gA o0 1), kI G (q0 2) 6100 (gA o0 2), kJ G (q0 3) 2016 (gB o0 3), kJ G (q0 4) 2016 (gB o0 4), kI G (q0 5) 300 (gA o0 5), kI G (q0 6) 400 (gA o0 6), kJ G (q0 28) 10 (gB o0 28), kI G (q0 31) 969 (gA o0 31), kI G (q0 32) 969 (gA o0 32), kI G (q0 33) 969 (gA o0 33), kI G (q0 38) 5 (gA o0 38), kI G (q0 39) 5120 (gA o0 39), kI G (q0 41) 5 (gA o0 41), kZ G (q0 42) 1024 (gA o0 42), kI G (q0 43) 8192 (gA o0 43), kI G (q0 44) 8192 (gA o0 44)] H → va_S A s.heap H locs → W p l e rm_Md_boxOf s m ([.ref h0, .int a0]).toArray below meth c H locs 0 0 (MQ below (va_Qi (fun (r : Int32) (u : Unit) => Q r) (fun (u : Unit) t => BW G A (cw_Md G h0 q0 o0) t) A) ([.ref h0, .int a0]).toArray s 0 0 A) (F0 m 0 ls []) from key s.heap [] hP hS
  intro H locs hP hS
  refine lv_bipush (v := (19 : Int32)) hx hb d_Md_boxOf_0 (by decide) ?_
  refine lv_istore_n (lv' := [(2, .int (19 : Int32)), (0, .ref h0), (1, .int a0)]) hx hb d_Md_boxOf_2 rfl hl (by decide) rfl (fun ls hl => ?_)
  have hl := lv_sub (l' := [(0, .ref h0), (1, .int a0), (2, .int (19 : Int32))]) hl [1, 2, 0] rfl
  have hP : va_P G.1 CL (cw_Md G h0 q0 o0) H := hP
  have hD : va_D A (cw_Md G h0 q0 o0) := hD
  obtain ⟨w, h⟩ := h
  exact t_Md_boxOf_3 o0 Q C w a0 (19 : Int32) ls _ locs hl hP hD hS h
abbrev b_Md_tone : ByteArray := prog_14_method_50_code
def y_Md_tone : MethodName := ⟨R_Md, "tone", "(IIIIII)I"⟩
abbrev w_Md_tone : List Cond := Cond.code y_Md_tone b_Md_tone 7 (some .int) :: gw_tbl
theorem d_Md_tone_0 : decode b_Md_tone 0 = .ok (.aload_n 0, 1) := by decide +kernel
theorem d_Md_tone_1 : decode b_Md_tone 1 = .ok (.iload_n 1, 1) := by decide +kernel
theorem d_Md_tone_2 : decode b_Md_tone 2 = .ok (.iload_n 2, 1) := by decide +kernel
theorem d_Md_tone_3 : decode b_Md_tone 3 = .ok (.iload_n 3, 1) := by decide +kernel
theorem d_Md_tone_4 : decode b_Md_tone 4 = .ok (.iload 4, 2) := by decide +kernel
theorem d_Md_tone_6 : decode b_Md_tone 6 = .ok (.iload 5, 2) := by decide +kernel
theorem d_Md_tone_8 : decode b_Md_tone 8 = .ok (.invokevirtual 263, 3) := by decide +kernel
theorem d_Md_tone_11 : decode b_Md_tone 11 = .ok (.ifCond .eq 21, 3) := by decide +kernel
theorem d_Md_tone_14 : decode b_Md_tone 14 = .ok (.aload_n 0, 1) := by decide +kernel
theorem d_Md_tone_15 : decode b_Md_tone 15 = .ok (.iload 6, 2) := by decide +kernel
theorem d_Md_tone_17 : decode b_Md_tone 17 = .ok (.invokevirtual 169, 3) := by decide +kernel
theorem d_Md_tone_20 : decode b_Md_tone 20 = .ok (.ifCond .eq 12, 3) := by decide +kernel
theorem d_Md_tone_23 : decode b_Md_tone 23 = .ok (.aload_n 0, 1) := by decide +kernel
theorem d_Md_tone_24 : decode b_Md_tone 24 = .ok (.iload 6, 2) := by decide +kernel
theorem d_Md_tone_26 : decode b_Md_tone 26 = .ok (.invokevirtual 270, 3) := by decide +kernel
theorem d_Md_tone_29 : decode b_Md_tone 29 = .ok (.goto 5, 3) := by decide +kernel
theorem d_Md_tone_32 : decode b_Md_tone 32 = .ok (.bipush (-100), 2) := by decide +kernel
theorem d_Md_tone_34 : decode b_Md_tone 34 = .ok (.ireturn, 1) := by decide +kernel
theorem wv_Md_270 : wV R_Md 270 y_Md_boxOf b_Md_boxOf 3 (some .int) 1 := ⟨⟨gw_tb (List.mem_of_getElem? (i := 1296) (by decide +kernel)) rfl, gw_tb (List.mem_of_getElem? (i := 13) (by decide +kernel)) rfl, gw_tb (List.mem_of_getElem? (i := 1299) (by decide +kernel)) rfl, by decide, by decide, by decide +kernel⟩, gw_tb (List.mem_of_getElem? (i := 1298) (by decide +kernel)) rfl, gw_of (List.mem_append_left _ (List.mem_of_getElem? (i := 55) (by decide +kernel))) rfl⟩
def f_Md_tone (a0 : Int32) (a1 : Int32) (a2 : Int32) (a3 : Int32) (a4 : Int32) (a5 : Int32) (o0 : Ob) (Q : Int32 → Ob → Prop) : Prop := f_Md_isShape a0 a1 a2 a3 a4 o0 (fun z1 u2 => (z1 = 0 → (Q (-100 : Int32) u2)) ∧ (¬ z1 = 0 → (f_Md_isPiece a5 u2 (fun z4 => (z4 = 0 → (Q (-100 : Int32) u2)) ∧ (¬ z4 = 0 → (f_Md_boxOf a5 u2 (fun z6 => Q z6 u2)))))))
abbrev rm_Md_tone : Room := { frames := 2, cells := 0, slots := 0, locals := 54 }
set_option maxHeartbeats 4000000 in
set_option maxRecDepth 100000 in
theorem c_Md_tone {l : Launch} {G : Gl} {h0 : Nat} {q0 : Nat → Nat} {a0 : Int32} {a1 : Int32} {a2 : Int32} {a3 : Int32} {a4 : Int32} {a5 : Int32} {o0 : Ob} {Q : Int32 → Ob → Prop} (sz : Nat) (h : f_Md_tone a0 a1 a2 a3 a4 a5 o0 Q) : Met l y_Md_tone w_Md_tone rm_Md_tone (PcW G [.ref h0, .int a0, .int a1, .int a2, .int a3, .int a4, .int a5] sz (cw_Md G h0 q0 o0)) (va_Qi (fun (r : Int32) (u : Ob) => Q r u) (fun (u : Ob) t => BW G (va_A (cw_Md G h0 q0 o0) sz) (cw_Md G h0 q0 u) t) (va_A (cw_Md G h0 q0 o0) sz)) 0 0 (va_A (cw_Md G h0 q0 o0) sz) := by
  refine Met.ofW (cc := b_Md_tone) (maxL := 7) (ret := (some .int)) (by decide +kernel) rfl ?_
  intro p e s m args below meth c s₁ B hml hv
  obtain ⟨rfl, hsz, hP, hK, hD0, hE⟩ := hv
  have hx := B.exec
  have hb := B.bytes
  have hr := B.returns
  have hts0 := atoms_spec (ws := w_Md_tone) B.pre
  have hts : ∀ w ∈ gw_tbl, w.before ([.ref h0, .int a0, .int a1, .int a2, .int a3, .int a4, .int a5]).toArray s = true := fun w hw => hts0 w (List.mem_cons_of_mem _ hw)
  have hown : s.vm.findClass R_Md = some m.cls := findClass_of_methodNamed B.named
  have hlocks := B.notSynchronized
  subst hsz
  have hD := hD0.self (sz := s.heap.size)
  generalize hAe : va_A (cw_Md G h0 q0 o0) s.heap.size = A at hD hE ⊢
  have hA : ∀ q : Nat, s.heap.size ≤ q → A q := fun q h => by rw [← hAe]; exact Or.inr h
  have hS : va_S A s.heap s.heap [] := va_S.rf
  have C : Cx p s m ([.ref h0, .int a0, .int a1, .int a2, .int a3, .int a4, .int a5]).toArray meth c R_Md b_Md_tone 7 (some .int) G A := ⟨hx, hb, hml, hown, hr, hts, hK, hA, hlocks, hE⟩
  have hl := lv_entry ([.ref h0, .int a0, .int a1, .int a2, .int a3, .int a4, .int a5]) (n := 7) (Nat.le_of_ble_eq_true rfl)
  rw [lg_entry_eq]
  generalize (lg_sl ([.ref h0, .int a0, .int a1, .int a2, .int a3, .int a4, .int a5]) ++ List.replicate (7 - (lg_sl ([.ref h0, .int a0, .int a1, .int a2, .int a3, .int a4, .int a5])).length) Slot.unset).toArray = ls at hl ⊢
  have hl : lv_has ls 7 [(0, .ref h0), (1, .int a0), (2, .int a1), (3, .int a2), (4, .int a3), (5, .int a4), (6, .int a5)] := hl
  have hD : va_D A [(h0, .inr (11, [.int (gI o0 0), .ref (q0 1), .ref (q0 2), .ref (q0 3), .ref (q0 4), .ref (q0 5), .ref (q0 6), .int (gI o0 7), .int (gI o0 8), .int (gI o0 9), .int (gI o0 10), .int (gI o0 11), .int (gI o0 12), .int (gI o0 13), .int (gI o0 14), .long (gL o0 15), .int (gI o0 16), .int (gI o0 17), .int (gI o0 18), .int (gI o0 19), .int (gI o0 20), .int (gI o0 21), .int (gI o0 22), .int (gI o0 23), .int (gI o0 24), .int (gI o0 25), .int (gI o0 26), .int (gI o0 27), .ref (q0 28), .long (gL o0 29), .int (gI o0 30), .ref (q0 31), .ref (q0 32), .ref (q0 33), .int (gI o0 34), .int (gI o0 35), .int (gI o0 36), .int (gI o0 37), .ref (q0 38), .ref (q0 39), .int (gI o0 40), .ref (q0 41), .ref (q0 42), .ref (q0 43), .ref (q0 44)])), kI G (q0 1) 6100 (gA o0 1), kI G (q0 2) 6100 (gA o0 2), kJ G (q0 3) 2016 (gB o0 3), kJ G (q0 4) 2016 (gB o0 4), kI G (q0 5) 300 (gA o0 5), kI G (q0 6) 400 (gA o0 6), kJ G (q0 28) 10 (gB o0 28), kI G (q0 31) 969 (gA o0 31), kI G (q0 32) 969 (gA o0 32), kI G (q0 33) 969 (gA o0 33), kI G (q0 38) 5 (gA o0 38), kI G (q0 39) 5120 (gA o0 39), kI G (q0 41) 5 (gA o0 41), kZ G (q0 42) 1024 (gA o0 42), kI G (q0 43) 8192 (gA o0 43), kI G (q0 44) 8192 (gA o0 44)] := hD
  unfold f_Md_tone at h
  suffices key : ∀ (H : Heap) (locs : List Loc), va_P G.1 CL [(h0, .inr (11, [.int (gI o0 0), .ref (q0 1), .ref (q0 2), .ref (q0 3), .ref (q0 4), .ref (q0 5), .ref (q0 6), .int (gI o0 7), .int (gI o0 8), .int (gI o0 9), .int (gI o0 10), .int (gI o0 11), .int (gI o0 12), .int (gI o0 13), .int (gI o0 14), .long (gL o0 15), .int (gI o0 16), .int (gI o0 17), .int (gI o0 18), .int (gI o0 19), .int (gI o0 20), .int (gI o0 21), .int (gI o0 22), .int (gI o0 23), .int (gI o0 24), .int (gI o0 25), .int (gI o0 26), .int (gI o0 27), .ref (q0 28), .long (gL o0 29), .int (gI o0 30), .ref (q0 31), .ref (q0 32), .ref (q0 33), .int (gI o0 34), .int (gI o0 35), .int (gI o0 36), .int (gI o0 37), .ref (q0 38), .ref (q0 39), .int (gI o0 40), .ref (q0 41), .ref (q0 42), .ref (q0 43), .ref (q0 44)])), kI G (q0 1) 6100 (gA o0 1), kI G (q0 2) 6100 (gA o0 2), kJ G (q0 3) 2016 (gB o0 3), kJ G (q0 4) 2016 (gB o0 4), kI G (q0 5) 300 (gA o0 5), kI G (q0 6) 400 (gA o0 6), kJ G (q0 28) 10 (gB o0 28), kI G (q0 31) 969 (gA o0 31), kI G (q0 32) 969 (gA o0 32), kI G (q0 33) 969 (gA o0 33), kI G (q0 38) 5 (gA o0 38), kI G (q0 39) 5120 (gA o0 39), kI G (q0 41) 5 (gA o0 41), kZ G (q0 42) 1024 (gA o0 42), kI G (q0 43) 8192 (gA o0 43), kI G (q0 44) 8192 (gA o0 44)] H → va_S A s.heap H locs → W p l e rm_Md_tone s m ([.ref h0, .int a0, .int a1, .int a2, .int a3, .int a4, .int a5]).toArray below meth c H locs 0 0 (MQ below (va_Qi (fun (r : Int32) (u : Ob) => Q r u) (fun (u : Ob) t => BW G A (cw_Md G h0 q0 u) t) A) ([.ref h0, .int a0, .int a1, .int a2, .int a3, .int a4, .int a5]).toArray s 0 0 A) (F0 m 0 ls []) from key s.heap [] hP hS
  intro H locs hP hS
  refine lv_aload_n hx hb d_Md_tone_0 rfl (lv_at hl 0 rfl) ?_
  refine lv_iload_n hx hb d_Md_tone_1 rfl (lv_at hl 1 rfl) ?_
  refine lv_iload_n hx hb d_Md_tone_2 rfl (lv_at hl 2 rfl) ?_
  refine lv_iload_n hx hb d_Md_tone_3 rfl (lv_at hl 3 rfl) ?_
  refine lv_iload hx hb d_Md_tone_4 (lv_at hl 4 rfl) ?_
  refine lv_iload hx hb d_Md_tone_6 (lv_at hl 5 rfl) ?_
  refine cl_Vi (b := b_Md_tone) (As := [.int a0, .int a1, .int a2, .int a3, .int a4]) (rest := []) (ws := [(h0, .inr (11, [.int (gI o0 0), .ref (q0 1), .ref (q0 2), .ref (q0 3), .ref (q0 4), .ref (q0 5), .ref (q0 6), .int (gI o0 7), .int (gI o0 8), .int (gI o0 9), .int (gI o0 10), .int (gI o0 11), .int (gI o0 12), .int (gI o0 13), .int (gI o0 14), .long (gL o0 15), .int (gI o0 16), .int (gI o0 17), .int (gI o0 18), .int (gI o0 19), .int (gI o0 20), .int (gI o0 21), .int (gI o0 22), .int (gI o0 23), .int (gI o0 24), .int (gI o0 25), .int (gI o0 26), .int (gI o0 27), .ref (q0 28), .long (gL o0 29), .int (gI o0 30), .ref (q0 31), .ref (q0 32), .ref (q0 33), .int (gI o0 34), .int (gI o0 35), .int (gI o0 36), .int (gI o0 37), .ref (q0 38), .ref (q0 39), .int (gI o0 40), .ref (q0 41), .ref (q0 42), .ref (q0 43), .ref (q0 44)])), kI G (q0 1) 6100 (gA o0 1), kI G (q0 2) 6100 (gA o0 2), kJ G (q0 3) 2016 (gB o0 3), kJ G (q0 4) 2016 (gB o0 4), kI G (q0 5) 300 (gA o0 5), kI G (q0 6) 400 (gA o0 6), kJ G (q0 28) 10 (gB o0 28), kI G (q0 31) 969 (gA o0 31), kI G (q0 32) 969 (gA o0 32), kI G (q0 33) 969 (gA o0 33), kI G (q0 38) 5 (gA o0 38), kI G (q0 39) 5120 (gA o0 39), kI G (q0 41) 5 (gA o0 41), kZ G (q0 42) 1024 (gA o0 42), kI G (q0 43) 8192 (gA o0 43), kI G (q0 44) 8192 (gA o0 44)]) (wr := []) (w2 := fun (u : Ob) => [(h0, .inr (11, [.int (gI u 0), .ref (q0 1), .ref (q0 2), .ref (q0 3), .ref (q0 4), .ref (q0 5), .ref (q0 6), .int (gI u 7), .int (gI u 8), .int (gI u 9), .int (gI u 10), .int (gI u 11), .int (gI u 12), .int (gI u 13), .int (gI u 14), .long (gL u 15), .int (gI u 16), .int (gI u 17), .int (gI u 18), .int (gI u 19), .int (gI u 20), .int (gI u 21), .int (gI u 22), .int (gI u 23), .int (gI u 24), .int (gI u 25), .int (gI u 26), .int (gI u 27), .ref (q0 28), .long (gL u 29), .int (gI u 30), .ref (q0 31), .ref (q0 32), .ref (q0 33), .int (gI u 34), .int (gI u 35), .int (gI u 36), .int (gI u 37), .ref (q0 38), .ref (q0 39), .int (gI u 40), .ref (q0 41), .ref (q0 42), .ref (q0 43), .ref (q0 44)])), kI G (q0 1) 6100 (gA u 1), kI G (q0 2) 6100 (gA u 2), kJ G (q0 3) 2016 (gB u 3), kJ G (q0 4) 2016 (gB u 4), kI G (q0 5) 300 (gA u 5), kI G (q0 6) 400 (gA u 6), kJ G (q0 28) 10 (gB u 28), kI G (q0 31) 969 (gA u 31), kI G (q0 32) 969 (gA u 32), kI G (q0 33) 969 (gA u 33), kI G (q0 38) 5 (gA u 38), kI G (q0 39) 5120 (gA u 39), kI G (q0 41) 5 (gA u 41), kZ G (q0 42) 1024 (gA u 42), kI G (q0 43) 8192 (gA u 43), kI G (q0 44) 8192 (gA u 44)]) C (c_Md_isShape (h0 := h0) (q0 := q0) H.size h) wv_Md_263 ⟨Nat.le_of_ble_eq_true rfl, Nat.le_of_ble_eq_true rfl⟩ hP hD hS 0 rfl rfl [0, 1, 2, 3, 4, 5, 6, 7, 8, 9, 10, 11, 12, 13, 14, 15, 16] [] rfl rfl (by decide) (by decide) (by decide) [0, 1, 2, 3, 4, 5, 6, 7, 8, 9, 10, 11, 12, 13, 14, 15, 16] (by decide) (fun u => rfl) rfl hl.1 rfl (lv_room (Nat.le_of_ble_eq_true rfl)) d_Md_tone_8 ⟨Nat.le_of_ble_eq_true rfl, Nat.le_of_ble_eq_true rfl⟩ rfl rfl (fun z1 u H locs h hP hD hS => ?_)
  generalize u = u2 at h hP hD
  have hP : va_P G.1 CL [(h0, .inr (11, [.int (gI u2 0), .ref (q0 1), .ref (q0 2), .ref (q0 3), .ref (q0 4), .ref (q0 5), .ref (q0 6), .int (gI u2 7), .int (gI u2 8), .int (gI u2 9), .int (gI u2 10), .int (gI u2 11), .int (gI u2 12), .int (gI u2 13), .int (gI u2 14), .long (gL u2 15), .int (gI u2 16), .int (gI u2 17), .int (gI u2 18), .int (gI u2 19), .int (gI u2 20), .int (gI u2 21), .int (gI u2 22), .int (gI u2 23), .int (gI u2 24), .int (gI u2 25), .int (gI u2 26), .int (gI u2 27), .ref (q0 28), .long (gL u2 29), .int (gI u2 30), .ref (q0 31), .ref (q0 32), .ref (q0 33), .int (gI u2 34), .int (gI u2 35), .int (gI u2 36), .int (gI u2 37), .ref (q0 38), .ref (q0 39), .int (gI u2 40), .ref (q0 41), .ref (q0 42), .ref (q0 43), .ref (q0 44)])), kI G (q0 1) 6100 (gA u2 1), kI G (q0 2) 6100 (gA u2 2), kJ G (q0 3) 2016 (gB u2 3), kJ G (q0 4) 2016 (gB u2 4), kI G (q0 5) 300 (gA u2 5), kI G (q0 6) 400 (gA u2 6), kJ G (q0 28) 10 (gB u2 28), kI G (q0 31) 969 (gA u2 31), kI G (q0 32) 969 (gA u2 32), kI G (q0 33) 969 (gA u2 33), kI G (q0 38) 5 (gA u2 38), kI G (q0 39) 5120 (gA u2 39), kI G (q0 41) 5 (gA u2 41), kZ G (q0 42) 1024 (gA u2 42), kI G (q0 43) 8192 (gA u2 43), kI G (q0 44) 8192 (gA u2 44)] H := hP
  have hD : va_D A [(h0, .inr (11, [.int (gI u2 0), .ref (q0 1), .ref (q0 2), .ref (q0 3), .ref (q0 4), .ref (q0 5), .ref (q0 6), .int (gI u2 7), .int (gI u2 8), .int (gI u2 9), .int (gI u2 10), .int (gI u2 11), .int (gI u2 12), .int (gI u2 13), .int (gI u2 14), .long (gL u2 15), .int (gI u2 16), .int (gI u2 17), .int (gI u2 18), .int (gI u2 19), .int (gI u2 20), .int (gI u2 21), .int (gI u2 22), .int (gI u2 23), .int (gI u2 24), .int (gI u2 25), .int (gI u2 26), .int (gI u2 27), .ref (q0 28), .long (gL u2 29), .int (gI u2 30), .ref (q0 31), .ref (q0 32), .ref (q0 33), .int (gI u2 34), .int (gI u2 35), .int (gI u2 36), .int (gI u2 37), .ref (q0 38), .ref (q0 39), .int (gI u2 40), .ref (q0 41), .ref (q0 42), .ref (q0 43), .ref (q0 44)])), kI G (q0 1) 6100 (gA u2 1), kI G (q0 2) 6100 (gA u2 2), kJ G (q0 3) 2016 (gB u2 3), kJ G (q0 4) 2016 (gB u2 4), kI G (q0 5) 300 (gA u2 5), kI G (q0 6) 400 (gA u2 6), kJ G (q0 28) 10 (gB u2 28), kI G (q0 31) 969 (gA u2 31), kI G (q0 32) 969 (gA u2 32), kI G (q0 33) 969 (gA u2 33), kI G (q0 38) 5 (gA u2 38), kI G (q0 39) 5120 (gA u2 39), kI G (q0 41) 5 (gA u2 41), kZ G (q0 42) 1024 (gA u2 42), kI G (q0 43) 8192 (gA u2 43), kI G (q0 44) 8192 (gA u2 44)] := hD
  refine lv_if_eq (tgt := 32) hx hb d_Md_tone_11 (by decide) (fun c3 => ?_) (fun c3 => ?_)
  · have h := h.1 c3
    refine lv_bipush (v := (-100 : Int32)) hx hb d_Md_tone_32 (by decide) ?_
    have hP : va_P G.1 CL (cw_Md G h0 q0 u2) H := hP
    have hD : va_D A (cw_Md G h0 q0 u2) := hD
    exact W.iret (v := (-100 : Int32)) hx hb hr (fun t ht hW => ⟨⟨(-100 : Int32), u2, rfl, h, by rw [ht]; exact hP, va_K.moved hW.alike hK, hD⟩, hS.F ht⟩) hS.2.2 d_Md_tone_34
  · have h := h.2 c3
    refine lv_aload_n hx hb d_Md_tone_14 rfl (lv_at hl 0 rfl) ?_
    refine lv_iload hx hb d_Md_tone_15 (lv_at hl 6 rfl) ?_
    refine cl_Vi (b := b_Md_tone) (As := [.int a5]) (rest := []) (ws := [(h0, .inr (11, [.int (gI u2 0), .ref (q0 1), .ref (q0 2), .ref (q0 3), .ref (q0 4), .ref (q0 5), .ref (q0 6), .int (gI u2 7), .int (gI u2 8), .int (gI u2 9), .int (gI u2 10), .int (gI u2 11), .int (gI u2 12), .int (gI u2 13), .int (gI u2 14), .long (gL u2 15), .int (gI u2 16), .int (gI u2 17), .int (gI u2 18), .int (gI u2 19), .int (gI u2 20), .int (gI u2 21), .int (gI u2 22), .int (gI u2 23), .int (gI u2 24), .int (gI u2 25), .int (gI u2 26), .int (gI u2 27), .ref (q0 28), .long (gL u2 29), .int (gI u2 30), .ref (q0 31), .ref (q0 32), .ref (q0 33), .int (gI u2 34), .int (gI u2 35), .int (gI u2 36), .int (gI u2 37), .ref (q0 38), .ref (q0 39), .int (gI u2 40), .ref (q0 41), .ref (q0 42), .ref (q0 43), .ref (q0 44)])), kI G (q0 1) 6100 (gA u2 1), kI G (q0 2) 6100 (gA u2 2), kJ G (q0 3) 2016 (gB u2 3), kJ G (q0 4) 2016 (gB u2 4), kI G (q0 5) 300 (gA u2 5), kI G (q0 6) 400 (gA u2 6), kJ G (q0 28) 10 (gB u2 28), kI G (q0 31) 969 (gA u2 31), kI G (q0 32) 969 (gA u2 32), kI G (q0 33) 969 (gA u2 33), kI G (q0 38) 5 (gA u2 38), kI G (q0 39) 5120 (gA u2 39), kI G (q0 41) 5 (gA u2 41), kZ G (q0 42) 1024 (gA u2 42), kI G (q0 43) 8192 (gA u2 43), kI G (q0 44) 8192 (gA u2 44)]) (wr := []) (w2 := fun (u : Unit) => [(h0, .inr (11, [.int (gI u2 0), .ref (q0 1), .ref (q0 2), .ref (q0 3), .ref (q0 4), .ref (q0 5), .ref (q0 6), .int (gI u2 7), .int (gI u2 8), .int (gI u2 9), .int (gI u2 10), .int (gI u2 11), .int (gI u2 12), .int (gI u2 13), .int (gI u2 14), .long (gL u2 15), .int (gI u2 16), .int (gI u2 17), .int (gI u2 18), .int (gI u2 19), .int (gI u2 20), .int (gI u2 21), .int (gI u2 22), .int (gI u2 23), .int (gI u2 24), .int (gI u2 25), .int (gI u2 26), .int (gI u2 27), .ref (q0 28), .long (gL u2 29), .int (gI u2 30), .ref (q0 31), .ref (q0 32), .ref (q0 33), .int (gI u2 34), .int (gI u2 35), .int (gI u2 36), .int (gI u2 37), .ref (q0 38), .ref (q0 39), .int (gI u2 40), .ref (q0 41), .ref (q0 42), .ref (q0 43), .ref (q0 44)])), kI G (q0 1) 6100 (gA u2 1), kI G (q0 2) 6100 (gA u2 2), kJ G (q0 3) 2016 (gB u2 3), kJ G (q0 4) 2016 (gB u2 4), kI G (q0 5) 300 (gA u2 5), kI G (q0 6) 400 (gA u2 6), kJ G (q0 28) 10 (gB u2 28), kI G (q0 31) 969 (gA u2 31), kI G (q0 32) 969 (gA u2 32), kI G (q0 33) 969 (gA u2 33), kI G (q0 38) 5 (gA u2 38), kI G (q0 39) 5120 (gA u2 39), kI G (q0 41) 5 (gA u2 41), kZ G (q0 42) 1024 (gA u2 42), kI G (q0 43) 8192 (gA u2 43), kI G (q0 44) 8192 (gA u2 44)]) C (c_Md_isPiece (h0 := h0) (q0 := q0) H.size h) wv_Md_169 ⟨Nat.le_of_ble_eq_true rfl, Nat.le_of_ble_eq_true rfl⟩ hP hD hS 0 rfl rfl [0, 1, 2, 3, 4, 5, 6, 7, 8, 9, 10, 11, 12, 13, 14, 15, 16] [] rfl rfl (by decide) (by decide) (by decide) [0, 1, 2, 3, 4, 5, 6, 7, 8, 9, 10, 11, 12, 13, 14, 15, 16] (by decide) (fun u => rfl) rfl hl.1 rfl (lv_room (Nat.le_of_ble_eq_true rfl)) d_Md_tone_17 ⟨Nat.le_of_ble_eq_true rfl, Nat.le_of_ble_eq_true rfl⟩ rfl rfl (fun z4 u H locs h hP hD hS => ?_)
    have hP : va_P G.1 CL [(h0, .inr (11, [.int (gI u2 0), .ref (q0 1), .ref (q0 2), .ref (q0 3), .ref (q0 4), .ref (q0 5), .ref (q0 6), .int (gI u2 7), .int (gI u2 8), .int (gI u2 9), .int (gI u2 10), .int (gI u2 11), .int (gI u2 12), .int (gI u2 13), .int (gI u2 14), .long (gL u2 15), .int (gI u2 16), .int (gI u2 17), .int (gI u2 18), .int (gI u2 19), .int (gI u2 20), .int (gI u2 21), .int (gI u2 22), .int (gI u2 23), .int (gI u2 24), .int (gI u2 25), .int (gI u2 26), .int (gI u2 27), .ref (q0 28), .long (gL u2 29), .int (gI u2 30), .ref (q0 31), .ref (q0 32), .ref (q0 33), .int (gI u2 34), .int (gI u2 35), .int (gI u2 36), .int (gI u2 37), .ref (q0 38), .ref (q0 39), .int (gI u2 40), .ref (q0 41), .ref (q0 42), .ref (q0 43), .ref (q0 44)])), kI G (q0 1) 6100 (gA u2 1), kI G (q0 2) 6100 (gA u2 2), kJ G (q0 3) 2016 (gB u2 3), kJ G (q0 4) 2016 (gB u2 4), kI G (q0 5) 300 (gA u2 5), kI G (q0 6) 400 (gA u2 6), kJ G (q0 28) 10 (gB u2 28), kI G (q0 31) 969 (gA u2 31), kI G (q0 32) 969 (gA u2 32), kI G (q0 33) 969 (gA u2 33), kI G (q0 38) 5 (gA u2 38), kI G (q0 39) 5120 (gA u2 39), kI G (q0 41) 5 (gA u2 41), kZ G (q0 42) 1024 (gA u2 42), kI G (q0 43) 8192 (gA u2 43), kI G (q0 44) 8192 (gA u2 44)] H := hP
    have hD : va_D A [(h0, .inr (11, [.int (gI u2 0), .ref (q0 1), .ref (q0 2), .ref (q0 3), .ref (q0 4), .ref (q0 5), .ref (q0 6), .int (gI u2 7), .int (gI u2 8), .int (gI u2 9), .int (gI u2 10), .int (gI u2 11), .int (gI u2 12), .int (gI u2 13), .int (gI u2 14), .long (gL u2 15), .int (gI u2 16), .int (gI u2 17), .int (gI u2 18), .int (gI u2 19), .int (gI u2 20), .int (gI u2 21), .int (gI u2 22), .int (gI u2 23), .int (gI u2 24), .int (gI u2 25), .int (gI u2 26), .int (gI u2 27), .ref (q0 28), .long (gL u2 29), .int (gI u2 30), .ref (q0 31), .ref (q0 32), .ref (q0 33), .int (gI u2 34), .int (gI u2 35), .int (gI u2 36), .int (gI u2 37), .ref (q0 38), .ref (q0 39), .int (gI u2 40), .ref (q0 41), .ref (q0 42), .ref (q0 43), .ref (q0 44)])), kI G (q0 1) 6100 (gA u2 1), kI G (q0 2) 6100 (gA u2 2), kJ G (q0 3) 2016 (gB u2 3), kJ G (q0 4) 2016 (gB u2 4), kI G (q0 5) 300 (gA u2 5), kI G (q0 6) 400 (gA u2 6), kJ G (q0 28) 10 (gB u2 28), kI G (q0 31) 969 (gA u2 31), kI G (q0 32) 969 (gA u2 32), kI G (q0 33) 969 (gA u2 33), kI G (q0 38) 5 (gA u2 38), kI G (q0 39) 5120 (gA u2 39), kI G (q0 41) 5 (gA u2 41), kZ G (q0 42) 1024 (gA u2 42), kI G (q0 43) 8192 (gA u2 43), kI G (q0 44) 8192 (gA u2 44)] := hD
    refine lv_if_eq (tgt := 32) hx hb d_Md_tone_20 (by decide) (fun c5 => ?_) (fun c5 => ?_)
    · have h := h.1 c5
      refine lv_bipush (v := (-100 : Int32)) hx hb d_Md_tone_32 (by decide) ?_
      have hP : va_P G.1 CL (cw_Md G h0 q0 u2) H := hP
      have hD : va_D A (cw_Md G h0 q0 u2) := hD
      exact W.iret (v := (-100 : Int32)) hx hb hr (fun t ht hW => ⟨⟨(-100 : Int32), u2, rfl, h, by rw [ht]; exact hP, va_K.moved hW.alike hK, hD⟩, hS.F ht⟩) hS.2.2 d_Md_tone_34
    · have h := h.2 c5
      refine lv_aload_n hx hb d_Md_tone_23 rfl (lv_at hl 0 rfl) ?_
      refine lv_iload hx hb d_Md_tone_24 (lv_at hl 6 rfl) ?_
      refine cl_Vi (b := b_Md_tone) (As := [.int a5]) (rest := []) (ws := [(h0, .inr (11, [.int (gI u2 0), .ref (q0 1), .ref (q0 2), .ref (q0 3), .ref (q0 4), .ref (q0 5), .ref (q0 6), .int (gI u2 7), .int (gI u2 8), .int (gI u2 9), .int (gI u2 10), .int (gI u2 11), .int (gI u2 12), .int (gI u2 13), .int (gI u2 14), .long (gL u2 15), .int (gI u2 16), .int (gI u2 17), .int (gI u2 18), .int (gI u2 19), .int (gI u2 20), .int (gI u2 21), .int (gI u2 22), .int (gI u2 23), .int (gI u2 24), .int (gI u2 25), .int (gI u2 26), .int (gI u2 27), .ref (q0 28), .long (gL u2 29), .int (gI u2 30), .ref (q0 31), .ref (q0 32), .ref (q0 33), .int (gI u2 34), .int (gI u2 35), .int (gI u2 36), .int (gI u2 37), .ref (q0 38), .ref (q0 39), .int (gI u2 40), .ref (q0 41), .ref (q0 42), .ref (q0 43), .ref (q0 44)])), kI G (q0 1) 6100 (gA u2 1), kI G (q0 2) 6100 (gA u2 2), kJ G (q0 3) 2016 (gB u2 3), kJ G (q0 4) 2016 (gB u2 4), kI G (q0 5) 300 (gA u2 5), kI G (q0 6) 400 (gA u2 6), kJ G (q0 28) 10 (gB u2 28), kI G (q0 31) 969 (gA u2 31), kI G (q0 32) 969 (gA u2 32), kI G (q0 33) 969 (gA u2 33), kI G (q0 38) 5 (gA u2 38), kI G (q0 39) 5120 (gA u2 39), kI G (q0 41) 5 (gA u2 41), kZ G (q0 42) 1024 (gA u2 42), kI G (q0 43) 8192 (gA u2 43), kI G (q0 44) 8192 (gA u2 44)]) (wr := []) (w2 := fun (u : Unit) => [(h0, .inr (11, [.int (gI u2 0), .ref (q0 1), .ref (q0 2), .ref (q0 3), .ref (q0 4), .ref (q0 5), .ref (q0 6), .int (gI u2 7), .int (gI u2 8), .int (gI u2 9), .int (gI u2 10), .int (gI u2 11), .int (gI u2 12), .int (gI u2 13), .int (gI u2 14), .long (gL u2 15), .int (gI u2 16), .int (gI u2 17), .int (gI u2 18), .int (gI u2 19), .int (gI u2 20), .int (gI u2 21), .int (gI u2 22), .int (gI u2 23), .int (gI u2 24), .int (gI u2 25), .int (gI u2 26), .int (gI u2 27), .ref (q0 28), .long (gL u2 29), .int (gI u2 30), .ref (q0 31), .ref (q0 32), .ref (q0 33), .int (gI u2 34), .int (gI u2 35), .int (gI u2 36), .int (gI u2 37), .ref (q0 38), .ref (q0 39), .int (gI u2 40), .ref (q0 41), .ref (q0 42), .ref (q0 43), .ref (q0 44)])), kI G (q0 1) 6100 (gA u2 1), kI G (q0 2) 6100 (gA u2 2), kJ G (q0 3) 2016 (gB u2 3), kJ G (q0 4) 2016 (gB u2 4), kI G (q0 5) 300 (gA u2 5), kI G (q0 6) 400 (gA u2 6), kJ G (q0 28) 10 (gB u2 28), kI G (q0 31) 969 (gA u2 31), kI G (q0 32) 969 (gA u2 32), kI G (q0 33) 969 (gA u2 33), kI G (q0 38) 5 (gA u2 38), kI G (q0 39) 5120 (gA u2 39), kI G (q0 41) 5 (gA u2 41), kZ G (q0 42) 1024 (gA u2 42), kI G (q0 43) 8192 (gA u2 43), kI G (q0 44) 8192 (gA u2 44)]) C (c_Md_boxOf (h0 := h0) (q0 := q0) H.size h) wv_Md_270 ⟨Nat.le_of_ble_eq_true rfl, Nat.le_of_ble_eq_true rfl⟩ hP hD hS 0 rfl rfl [0, 1, 2, 3, 4, 5, 6, 7, 8, 9, 10, 11, 12, 13, 14, 15, 16] [] rfl rfl (by decide) (by decide) (by decide) [0, 1, 2, 3, 4, 5, 6, 7, 8, 9, 10, 11, 12, 13, 14, 15, 16] (by decide) (fun u => rfl) rfl hl.1 rfl (lv_room (Nat.le_of_ble_eq_true rfl)) d_Md_tone_26 ⟨Nat.le_of_ble_eq_true rfl, Nat.le_of_ble_eq_true rfl⟩ rfl rfl (fun z6 u H locs h hP hD hS => ?_)
      have hP : va_P G.1 CL [(h0, .inr (11, [.int (gI u2 0), .ref (q0 1), .ref (q0 2), .ref (q0 3), .ref (q0 4), .ref (q0 5), .ref (q0 6), .int (gI u2 7), .int (gI u2 8), .int (gI u2 9), .int (gI u2 10), .int (gI u2 11), .int (gI u2 12), .int (gI u2 13), .int (gI u2 14), .long (gL u2 15), .int (gI u2 16), .int (gI u2 17), .int (gI u2 18), .int (gI u2 19), .int (gI u2 20), .int (gI u2 21), .int (gI u2 22), .int (gI u2 23), .int (gI u2 24), .int (gI u2 25), .int (gI u2 26), .int (gI u2 27), .ref (q0 28), .long (gL u2 29), .int (gI u2 30), .ref (q0 31), .ref (q0 32), .ref (q0 33), .int (gI u2 34), .int (gI u2 35), .int (gI u2 36), .int (gI u2 37), .ref (q0 38), .ref (q0 39), .int (gI u2 40), .ref (q0 41), .ref (q0 42), .ref (q0 43), .ref (q0 44)])), kI G (q0 1) 6100 (gA u2 1), kI G (q0 2) 6100 (gA u2 2), kJ G (q0 3) 2016 (gB u2 3), kJ G (q0 4) 2016 (gB u2 4), kI G (q0 5) 300 (gA u2 5), kI G (q0 6) 400 (gA u2 6), kJ G (q0 28) 10 (gB u2 28), kI G (q0 31) 969 (gA u2 31), kI G (q0 32) 969 (gA u2 32), kI G (q0 33) 969 (gA u2 33), kI G (q0 38) 5 (gA u2 38), kI G (q0 39) 5120 (gA u2 39), kI G (q0 41) 5 (gA u2 41), kZ G (q0 42) 1024 (gA u2 42), kI G (q0 43) 8192 (gA u2 43), kI G (q0 44) 8192 (gA u2 44)] H := hP
      have hD : va_D A [(h0, .inr (11, [.int (gI u2 0), .ref (q0 1), .ref (q0 2), .ref (q0 3), .ref (q0 4), .ref (q0 5), .ref (q0 6), .int (gI u2 7), .int (gI u2 8), .int (gI u2 9), .int (gI u2 10), .int (gI u2 11), .int (gI u2 12), .int (gI u2 13), .int (gI u2 14), .long (gL u2 15), .int (gI u2 16), .int (gI u2 17), .int (gI u2 18), .int (gI u2 19), .int (gI u2 20), .int (gI u2 21), .int (gI u2 22), .int (gI u2 23), .int (gI u2 24), .int (gI u2 25), .int (gI u2 26), .int (gI u2 27), .ref (q0 28), .long (gL u2 29), .int (gI u2 30), .ref (q0 31), .ref (q0 32), .ref (q0 33), .int (gI u2 34), .int (gI u2 35), .int (gI u2 36), .int (gI u2 37), .ref (q0 38), .ref (q0 39), .int (gI u2 40), .ref (q0 41), .ref (q0 42), .ref (q0 43), .ref (q0 44)])), kI G (q0 1) 6100 (gA u2 1), kI G (q0 2) 6100 (gA u2 2), kJ G (q0 3) 2016 (gB u2 3), kJ G (q0 4) 2016 (gB u2 4), kI G (q0 5) 300 (gA u2 5), kI G (q0 6) 400 (gA u2 6), kJ G (q0 28) 10 (gB u2 28), kI G (q0 31) 969 (gA u2 31), kI G (q0 32) 969 (gA u2 32), kI G (q0 33) 969 (gA u2 33), kI G (q0 38) 5 (gA u2 38), kI G (q0 39) 5120 (gA u2 39), kI G (q0 41) 5 (gA u2 41), kZ G (q0 42) 1024 (gA u2 42), kI G (q0 43) 8192 (gA u2 43), kI G (q0 44) 8192 (gA u2 44)] := hD
      refine lv_goto (tgt := 34) hx hb d_Md_tone_29 (by decide) ?_
      have hP : va_P G.1 CL (cw_Md G h0 q0 u2) H := hP
      have hD : va_D A (cw_Md G h0 q0 u2) := hD
      exact W.iret (v := z6) hx hb hr (fun t ht hW => ⟨⟨z6, u2, rfl, h, by rw [ht]; exact hP, va_K.moved hW.alike hK, hD⟩, hS.F ht⟩) hS.2.2 d_Md_tone_34
abbrev b_Md_alike : ByteArray := prog_14_method_51_code
def y_Md_alike : MethodName := ⟨R_Md, "alike", "(IIIII)I"⟩
abbrev w_Md_alike : List Cond := Cond.code y_Md_alike b_Md_alike 9 (some .int) :: gw_tbl
theorem d_Md_alike_0 : decode b_Md_alike 0 = .ok (.aload_n 0, 1) := by decide +kernel
theorem d_Md_alike_1 : decode b_Md_alike 1 = .ok (.iload_n 1, 1) := by decide +kernel
theorem d_Md_alike_2 : decode b_Md_alike 2 = .ok (.iload_n 2, 1) := by decide +kernel
theorem d_Md_alike_3 : decode b_Md_alike 3 = .ok (.iload_n 3, 1) := by decide +kernel
theorem d_Md_alike_4 : decode b_Md_alike 4 = .ok (.iload 4, 2) := by decide +kernel
theorem d_Md_alike_6 : decode b_Md_alike 6 = .ok (.iload 5, 2) := by decide +kernel
theorem d_Md_alike_8 : decode b_Md_alike 8 = .ok (.invokevirtual 263, 3) := by decide +kernel
theorem d_Md_alike_11 : decode b_Md_alike 11 = .ok (.ifCond .ne 5, 3) := by decide +kernel
theorem d_Md_alike_14 : decode b_Md_alike 14 = .ok (.iconst (-1), 1) := by decide +kernel
theorem d_Md_alike_15 : decode b_Md_alike 15 = .ok (.ireturn, 1) := by decide +kernel
theorem d_Md_alike_16 : decode b_Md_alike 16 = .ok (.iconst 1, 1) := by decide +kernel
theorem d_Md_alike_17 : decode b_Md_alike 17 = .ok (.istore 6, 2) := by decide +kernel
theorem d_Md_alike_19 : decode b_Md_alike 19 = .ok (.iconst 1, 1) := by decide +kernel
theorem d_Md_alike_20 : decode b_Md_alike 20 = .ok (.istore 7, 2) := by decide +kernel
theorem d_Md_alike_22 : decode b_Md_alike 22 = .ok (.iconst 0, 1) := by decide +kernel
theorem d_Md_alike_23 : decode b_Md_alike 23 = .ok (.istore 8, 2) := by decide +kernel
theorem d_Md_alike_25 : decode b_Md_alike 25 = .ok (.iload 8, 2) := by decide +kernel
theorem d_Md_alike_27 : decode b_Md_alike 27 = .ok (.aload_n 0, 1) := by decide +kernel
theorem d_Md_alike_28 : decode b_Md_alike 28 = .ok (.getfield 67, 3) := by decide +kernel
theorem d_Md_alike_31 : decode b_Md_alike 31 = .ok (.if_icmp .ge 117, 3) := by decide +kernel
theorem d_Md_alike_34 : decode b_Md_alike 34 = .ok (.iload 6, 2) := by decide +kernel
theorem d_Md_alike_36 : decode b_Md_alike 36 = .ok (.ifCond .eq 42, 3) := by decide +kernel
theorem d_Md_alike_39 : decode b_Md_alike 39 = .ok (.aload_n 0, 1) := by decide +kernel
theorem d_Md_alike_40 : decode b_Md_alike 40 = .ok (.getfield 48, 3) := by decide +kernel
theorem d_Md_alike_43 : decode b_Md_alike 43 = .ok (.iload 8, 2) := by decide +kernel
theorem d_Md_alike_45 : decode b_Md_alike 45 = .ok (.iaload, 1) := by decide +kernel
theorem d_Md_alike_46 : decode b_Md_alike 46 = .ok (.aload_n 0, 1) := by decide +kernel
theorem d_Md_alike_47 : decode b_Md_alike 47 = .ok (.getfield 7, 3) := by decide +kernel
theorem d_Md_alike_50 : decode b_Md_alike 50 = .ok (.bipush 20, 2) := by decide +kernel
theorem d_Md_alike_52 : decode b_Md_alike 52 = .ok (.iaload, 1) := by decide +kernel
theorem d_Md_alike_53 : decode b_Md_alike 53 = .ok (.imul, 1) := by decide +kernel
theorem d_Md_alike_54 : decode b_Md_alike 54 = .ok (.aload_n 0, 1) := by decide +kernel
theorem d_Md_alike_55 : decode b_Md_alike 55 = .ok (.getfield 7, 3) := by decide +kernel
theorem d_Md_alike_58 : decode b_Md_alike 58 = .ok (.bipush 20, 2) := by decide +kernel
theorem d_Md_alike_60 : decode b_Md_alike 60 = .ok (.iload 8, 2) := by decide +kernel
theorem d_Md_alike_62 : decode b_Md_alike 62 = .ok (.iadd, 1) := by decide +kernel
theorem d_Md_alike_63 : decode b_Md_alike 63 = .ok (.iaload, 1) := by decide +kernel
theorem d_Md_alike_64 : decode b_Md_alike 64 = .ok (.aload_n 0, 1) := by decide +kernel
theorem d_Md_alike_65 : decode b_Md_alike 65 = .ok (.getfield 48, 3) := by decide +kernel
theorem d_Md_alike_68 : decode b_Md_alike 68 = .ok (.iconst 0, 1) := by decide +kernel
theorem d_Md_alike_69 : decode b_Md_alike 69 = .ok (.iaload, 1) := by decide +kernel
theorem d_Md_alike_70 : decode b_Md_alike 70 = .ok (.imul, 1) := by decide +kernel
theorem d_Md_alike_71 : decode b_Md_alike 71 = .ok (.if_icmp .ne 7, 3) := by decide +kernel
theorem d_Md_alike_74 : decode b_Md_alike 74 = .ok (.iconst 1, 1) := by decide +kernel
theorem d_Md_alike_75 : decode b_Md_alike 75 = .ok (.goto 4, 3) := by decide +kernel
theorem d_Md_alike_78 : decode b_Md_alike 78 = .ok (.iconst 0, 1) := by decide +kernel
theorem d_Md_alike_79 : decode b_Md_alike 79 = .ok (.istore 6, 2) := by decide +kernel
theorem d_Md_alike_81 : decode b_Md_alike 81 = .ok (.iload 7, 2) := by decide +kernel
theorem d_Md_alike_83 : decode b_Md_alike 83 = .ok (.ifCond .eq 56, 3) := by decide +kernel
theorem d_Md_alike_86 : decode b_Md_alike 86 = .ok (.aload_n 0, 1) := by decide +kernel
theorem d_Md_alike_87 : decode b_Md_alike 87 = .ok (.getfield 48, 3) := by decide +kernel
theorem d_Md_alike_90 : decode b_Md_alike 90 = .ok (.iload 8, 2) := by decide +kernel
theorem d_Md_alike_92 : decode b_Md_alike 92 = .ok (.iaload, 1) := by decide +kernel
theorem d_Md_alike_93 : decode b_Md_alike 93 = .ok (.aload_n 0, 1) := by decide +kernel
theorem d_Md_alike_94 : decode b_Md_alike 94 = .ok (.getfield 7, 3) := by decide +kernel
theorem d_Md_alike_97 : decode b_Md_alike 97 = .ok (.bipush 20, 2) := by decide +kernel
theorem d_Md_alike_99 : decode b_Md_alike 99 = .ok (.aload_n 0, 1) := by decide +kernel
theorem d_Md_alike_100 : decode b_Md_alike 100 = .ok (.getfield 67, 3) := by decide +kernel
theorem d_Md_alike_103 : decode b_Md_alike 103 = .ok (.iadd, 1) := by decide +kernel
theorem d_Md_alike_104 : decode b_Md_alike 104 = .ok (.iconst 1, 1) := by decide +kernel
theorem d_Md_alike_105 : decode b_Md_alike 105 = .ok (.isub, 1) := by decide +kernel
theorem d_Md_alike_106 : decode b_Md_alike 106 = .ok (.iload 8, 2) := by decide +kernel
theorem d_Md_alike_108 : decode b_Md_alike 108 = .ok (.isub, 1) := by decide +kernel
theorem d_Md_alike_109 : decode b_Md_alike 109 = .ok (.iaload, 1) := by decide +kernel
theorem d_Md_alike_110 : decode b_Md_alike 110 = .ok (.imul, 1) := by decide +kernel
theorem d_Md_alike_111 : decode b_Md_alike 111 = .ok (.aload_n 0, 1) := by decide +kernel
theorem d_Md_alike_112 : decode b_Md_alike 112 = .ok (.getfield 48, 3) := by decide +kernel
theorem d_Md_alike_115 : decode b_Md_alike 115 = .ok (.iconst 0, 1) := by decide +kernel
theorem d_Md_alike_116 : decode b_Md_alike 116 = .ok (.iaload, 1) := by decide +kernel
theorem d_Md_alike_117 : decode b_Md_alike 117 = .ok (.aload_n 0, 1) := by decide +kernel
theorem d_Md_alike_118 : decode b_Md_alike 118 = .ok (.getfield 7, 3) := by decide +kernel
theorem d_Md_alike_121 : decode b_Md_alike 121 = .ok (.bipush 20, 2) := by decide +kernel
theorem d_Md_alike_123 : decode b_Md_alike 123 = .ok (.aload_n 0, 1) := by decide +kernel
theorem d_Md_alike_124 : decode b_Md_alike 124 = .ok (.getfield 67, 3) := by decide +kernel
theorem d_Md_alike_127 : decode b_Md_alike 127 = .ok (.iadd, 1) := by decide +kernel
theorem d_Md_alike_128 : decode b_Md_alike 128 = .ok (.iconst 1, 1) := by decide +kernel
theorem d_Md_alike_129 : decode b_Md_alike 129 = .ok (.isub, 1) := by decide +kernel
theorem d_Md_alike_130 : decode b_Md_alike 130 = .ok (.iaload, 1) := by decide +kernel
theorem d_Md_alike_131 : decode b_Md_alike 131 = .ok (.imul, 1) := by decide +kernel
theorem d_Md_alike_132 : decode b_Md_alike 132 = .ok (.if_icmp .ne 7, 3) := by decide +kernel
theorem d_Md_alike_135 : decode b_Md_alike 135 = .ok (.iconst 1, 1) := by decide +kernel
theorem d_Md_alike_136 : decode b_Md_alike 136 = .ok (.goto 4, 3) := by decide +kernel
theorem d_Md_alike_139 : decode b_Md_alike 139 = .ok (.iconst 0, 1) := by decide +kernel
theorem d_Md_alike_140 : decode b_Md_alike 140 = .ok (.istore 7, 2) := by decide +kernel
theorem d_Md_alike_142 : decode b_Md_alike 142 = .ok (.iinc 8 1, 3) := by decide +kernel
theorem d_Md_alike_145 : decode b_Md_alike 145 = .ok (.goto (-120), 3) := by decide +kernel
theorem d_Md_alike_148 : decode b_Md_alike 148 = .ok (.iload 6, 2) := by decide +kernel
theorem d_Md_alike_150 : decode b_Md_alike 150 = .ok (.ifCond .eq 7, 3) := by decide +kernel
theorem d_Md_alike_153 : decode b_Md_alike 153 = .ok (.iconst 1, 1) := by decide +kernel
theorem d_Md_alike_154 : decode b_Md_alike 154 = .ok (.goto 13, 3) := by decide +kernel
theorem d_Md_alike_157 : decode b_Md_alike 157 = .ok (.iload 7, 2) := by decide +kernel
theorem d_Md_alike_159 : decode b_Md_alike 159 = .ok (.ifCond .eq 7, 3) := by decide +kernel
theorem d_Md_alike_162 : decode b_Md_alike 162 = .ok (.iconst 2, 1) := by decide +kernel
theorem d_Md_alike_163 : decode b_Md_alike 163 = .ok (.goto 4, 3) := by decide +kernel
theorem d_Md_alike_166 : decode b_Md_alike 166 = .ok (.iconst 0, 1) := by decide +kernel
theorem d_Md_alike_167 : decode b_Md_alike 167 = .ok (.ireturn, 1) := by decide +kernel
def f_Md_alike_81 (k25 : Int32 → Int32 → Int32 → Ob → Prop) (Q : Int32 → Ob → Prop) (x6 : Int32) (x7 : Int32) (x8 : Int32) (o0 : Ob) : Prop := (x7 = 0 → (k25 x6 (0 : Int32) (x8 + (1 : Int32)) o0)) ∧ (¬ x7 = 0 → ((vp_in x8 5) ∧ (∀ y3 : Int32, y3 = ((((20 : Int32) + (gI o0 0)) - (1 : Int32)) - x8) → ((vp_in y3 6100) ∧ (∀ y5 : Int32, y5 = (((gA o0 38) x8.toNatClampNeg) * ((gA o0 1) y3.toNatClampNeg)) → ((vp_in (((20 : Int32) + (gI o0 0)) - (1 : Int32)) 6100) ∧ (∀ y7 : Int32, y7 = ((gA o0 1) ((((20 : Int32) + (gI o0 0)) - (1 : Int32)).toNatClampNeg)) → ((y5 = (((gA o0 38) 0) * y7) → (k25 x6 (1 : Int32) (x8 + (1 : Int32)) o0)) ∧ (¬ y5 = (((gA o0 38) 0) * y7) → (k25 x6 (0 : Int32) (x8 + (1 : Int32)) o0))))))))))
def f_Md_alike_78 (k25 : Int32 → Int32 → Int32 → Ob → Prop) (Q : Int32 → Ob → Prop) (x7 : Int32) (x8 : Int32) (o0 : Ob) : Prop := f_Md_alike_81 k25 Q (0 : Int32) x7 x8 o0
def f_Md_alike_25 (Q : Int32 → Ob → Prop) : Nat → Int32 → Int32 → Int32 → Ob → Prop
  | 0, _, _, _, _ => False
  | n + 1, x6, x7, x8, o0 => ((gI o0 0) ≤ x8 → ((x6 = 0 → ((x7 = 0 → (Q (0 : Int32) o0)) ∧ (¬ x7 = 0 → (Q (2 : Int32) o0)))) ∧ (¬ x6 = 0 → (Q (1 : Int32) o0)))) ∧ (¬ (gI o0 0) ≤ x8 → ((x6 = 0 → (f_Md_alike_78 (f_Md_alike_25 Q n) Q x7 x8 o0)) ∧ (¬ x6 = 0 → ((vp_in x8 5) ∧ (∀ y14 : Int32, y14 = (((gA o0 38) x8.toNatClampNeg) * ((gA o0 1) 20)) → ((vp_in ((20 : Int32) + x8) 6100) ∧ (∀ y16 : Int32, y16 = ((gA o0 1) (((20 : Int32) + x8).toNatClampNeg)) → ((y14 = (y16 * ((gA o0 38) 0)) → (f_Md_alike_81 (f_Md_alike_25 Q n) Q (1 : Int32) x7 x8 o0)) ∧ (¬ y14 = (y16 * ((gA o0 38) 0)) → (f_Md_alike_78 (f_Md_alike_25 Q n) Q x7 x8 o0))))))))))
def f_Md_alike (a0 : Int32) (a1 : Int32) (a2 : Int32) (a3 : Int32) (a4 : Int32) (o0 : Ob) (Q : Int32 → Ob → Prop) : Prop := f_Md_isShape a0 a1 a2 a3 a4 o0 (fun z18 u19 => (z18 = 0 → (Q (-1 : Int32) u19)) ∧ (¬ z18 = 0 → ((∃ w, f_Md_alike_25 Q w (1 : Int32) (1 : Int32) (0 : Int32) u19))))
abbrev rm_Md_alike : Room := { frames := 2, cells := 0, slots := 0, locals := 48 }
set_option maxHeartbeats 4000000 in
set_option maxRecDepth 100000 in
theorem t_Md_alike_81 {p : Program} {l : Launch} {e : Env} {s : State} {m : MethodId} {args : Array Value} {below : List Frame} {meth : Method} {c : Code} {A : Nat → Prop} {G : Gl} {h0 : Nat} {q0 : Nat → Nat} (k25 : Int32 → Int32 → Int32 → Ob → Prop) (Q : Int32 → Ob → Prop) (C : Cx p s m args meth c R_Md b_Md_alike 9 (some .int) G A)
    (hk25 : ∀ (x6 : Int32) (x7 : Int32) (x8 : Int32) (o0 : Ob) (ls : Array Slot) (H : Heap) (locs : List Loc), lv_has ls 9 [(0, .ref h0), (6, .int x6), (7, .int x7), (8, .int x8)] → va_P G.1 CL (cw_Md G h0 q0 o0) H → va_D A (cw_Md G h0 q0 o0) → va_S A s.heap H locs → k25 x6 x7 x8 o0 → W p l e rm_Md_alike s m args below meth c H locs 0 0 (MQ below (va_Qi (fun (r : Int32) (u : Ob) => Q r u) (fun (u : Ob) t => BW G A (cw_Md G h0 q0 u) t) A) args s 0 0 A) (F0 m 25 ls [])) :
    ∀ (x6 : Int32) (x7 : Int32) (x8 : Int32) (o0 : Ob) (ls : Array Slot) (H : Heap) (locs : List Loc), lv_has ls 9 [(0, .ref h0), (6, .int x6), (7, .int x7), (8, .int x8)] → va_P G.1 CL (cw_Md G h0 q0 o0) H → va_D A (cw_Md G h0 q0 o0) → va_S A s.heap H locs → f_Md_alike_81 k25 Q x6 x7 x8 o0 → W p l e rm_Md_alike s m args below meth c H locs 0 0 (MQ below (va_Qi (fun (r : Int32) (u : Ob) => Q r u) (fun (u : Ob) t => BW G A (cw_Md G h0 q0 u) t) A) args s 0 0 A) (F0 m 81 ls []) := by
  obtain ⟨hx, hb, hml, hown, hr, hts, hK, hA, hlocks, hE⟩ := id C
  intro x6 x7 x8 o0 ls H locs hl hP hD hS h
  have hP : va_P G.1 CL [(h0, .inr (11, [.int (gI o0 0), .ref (q0 1), .ref (q0 2), .ref (q0 3), .ref (q0 4), .ref (q0 5), .ref (q0 6), .int (gI o0 7), .int (gI o0 8), .int (gI o0 9), .int (gI o0 10), .int (gI o0 11), .int (gI o0 12), .int (gI o0 13), .int (gI o0 14), .long (gL o0 15), .int (gI o0 16), .int (gI o0 17), .int (gI o0 18), .int (gI o0 19), .int (gI o0 20), .int (gI o0 21), .int (gI o0 22), .int (gI o0 23), .int (gI o0 24), .int (gI o0 25), .int (gI o0 26), .int (gI o0 27), .ref (q0 28), .long (gL o0 29), .int (gI o0 30), .ref (q0 31), .ref (q0 32), .ref (q0 33), .int (gI o0 34), .int (gI o0 35), .int (gI o0 36), .int (gI o0 37), .ref (q0 38), .ref (q0 39), .int (gI o0 40), .ref (q0 41), .ref (q0 42), .ref (q0 43), .ref (q0 44)])), kI G (q0 1) 6100 (gA o0 1), kI G (q0 2) 6100 (gA o0 2), kJ G (q0 3) 2016 (gB o0 3), kJ G (q0 4) 2016 (gB o0 4), kI G (q0 5) 300 (gA o0 5), kI G (q0 6) 400 (gA o0 6), kJ G (q0 28) 10 (gB o0 28), kI G (q0 31) 969 (gA o0 31), kI G (q0 32) 969 (gA o0 32), kI G (q0 33) 969 (gA o0 33), kI G (q0 38) 5 (gA o0 38), kI G (q0 39) 5120 (gA o0 39), kI G (q0 41) 5 (gA o0 41), kZ G (q0 42) 1024 (gA o0 42), kI G (q0 43) 8192 (gA o0 43), kI G (q0 44) 8192 (gA o0 44)] H := hP
  have hD : va_D A [(h0, .inr (11, [.int (gI o0 0), .ref (q0 1), .ref (q0 2), .ref (q0 3), .ref (q0 4), .ref (q0 5), .ref (q0 6), .int (gI o0 7), .int (gI o0 8), .int (gI o0 9), .int (gI o0 10), .int (gI o0 11), .int (gI o0 12), .int (gI o0 13), .int (gI o0 14), .long (gL o0 15), .int (gI o0 16), .int (gI o0 17), .int (gI o0 18), .int (gI o0 19), .int (gI o0 20), .int (gI o0 21), .int (gI o0 22), .int (gI o0 23), .int (gI o0 24), .int (gI o0 25), .int (gI o0 26), .int (gI o0 27), .ref (q0 28), .long (gL o0 29), .int (gI o0 30), .ref (q0 31), .ref (q0 32), .ref (q0 33), .int (gI o0 34), .int (gI o0 35), .int (gI o0 36), .int (gI o0 37), .ref (q0 38), .ref (q0 39), .int (gI o0 40), .ref (q0 41), .ref (q0 42), .ref (q0 43), .ref (q0 44)])), kI G (q0 1) 6100 (gA o0 1), kI G (q0 2) 6100 (gA o0 2), kJ G (q0 3) 2016 (gB o0 3), kJ G (q0 4) 2016 (gB o0 4), kI G (q0 5) 300 (gA o0 5), kI G (q0 6) 400 (gA o0 6), kJ G (q0 28) 10 (gB o0 28), kI G (q0 31) 969 (gA o0 31), kI G (q0 32) 969 (gA o0 32), kI G (q0 33) 969 (gA o0 33), kI G (q0 38) 5 (gA o0 38), kI G (q0 39) 5120 (gA o0 39), kI G (q0 41) 5 (gA o0 41), kZ G (q0 42) 1024 (gA o0 42), kI G (q0 43) 8192 (gA o0 43), kI G (q0 44) 8192 (gA o0 44)] := hD
  unfold f_Md_alike_81 at h
  refine lv_iload hx hb d_Md_alike_81 (lv_at hl 2 rfl) ?_
  refine lv_if_eq (tgt := 139) hx hb d_Md_alike_83 (by decide) (fun c1 => ?_) (fun c1 => ?_)
  · have h := h.1 c1
    refine lv_iconst (v := (0 : Int32)) hx hb d_Md_alike_139 (by decide) ?_
    refine lv_istore (lv' := [(7, .int (0 : Int32)), (0, .ref h0), (6, .int x6), (8, .int x8)]) hx hb d_Md_alike_140 hl (by decide) rfl (fun ls hl => ?_)
    refine lv_iinc (v := (x8 + (1 : Int32))) (lv' := [(8, .int (x8 + (1 : Int32))), (7, .int (0 : Int32)), (0, .ref h0), (6, .int x6)]) hx hb d_Md_alike_142 hl (k := 3) rfl rfl (by decide) rfl (fun ls hl => ?_)
    refine lv_goto (tgt := 25) hx hb d_Md_alike_145 (by decide) ?_
    have hl := lv_sub (l' := [(0, .ref h0), (6, .int x6), (7, .int (0 : Int32)), (8, .int (x8 + (1 : Int32)))]) hl [2, 3, 1, 0] rfl
    have hP : va_P G.1 CL (cw_Md G h0 q0 o0) H := hP
    have hD : va_D A (cw_Md G h0 q0 o0) := hD
    exact hk25 x6 (0 : Int32) (x8 + (1 : Int32)) o0 ls H locs hl hP hD hS h
  · have h := h.2 c1
    refine lv_aload_n hx hb d_Md_alike_86 rfl (lv_at hl 0 rfl) ?_
    refine va_get (D := G.1) (ci := 11) (v := .ref (q0 38)) (C := R_Md) (T := T_Md) (N := 45) hx hb hts i_Md hown hK hP 0 rfl rfl 38 (by decide) (hts _ wf_Md_48) (fun _ h9 => h9) rfl d_Md_alike_87 ?_
    refine lv_iload hx hb d_Md_alike_90 (lv_at hl 3 rfl) ?_
    have g2 := h.1
    have h := h.2
    refine xa_iald hx hb hK hP 11 0 rfl rfl g2 (k := x8.toNatClampNeg) rfl d_Md_alike_92 ?_
    refine lv_aload_n hx hb d_Md_alike_93 rfl (lv_at hl 0 rfl) ?_
    refine va_get (D := G.1) (ci := 11) (v := .ref (q0 1)) (C := R_Md) (T := T_Md) (N := 45) hx hb hts i_Md hown hK hP 0 rfl rfl 1 (by decide) (hts _ wf_Md_7) (fun _ h9 => h9) rfl d_Md_alike_94 ?_
    refine lv_bipush (v := (20 : Int32)) hx hb d_Md_alike_97 (by decide) ?_
    refine lv_aload_n hx hb d_Md_alike_99 rfl (lv_at hl 0 rfl) ?_
    refine va_get (D := G.1) (ci := 11) (v := .int (gI o0 0)) (C := R_Md) (T := T_Md) (N := 45) hx hb hts i_Md hown hK hP 0 rfl rfl 0 (by decide) (hts _ wf_Md_67) (fun _ h9 => h9) rfl d_Md_alike_100 ?_
    refine lv_iadd hx hb d_Md_alike_103 ?_
    refine lv_iconst (v := (1 : Int32)) hx hb d_Md_alike_104 (by decide) ?_
    refine lv_isub hx hb d_Md_alike_105 ?_
    refine lv_iload hx hb d_Md_alike_106 (lv_at hl 3 rfl) ?_
    refine lv_isub hx hb d_Md_alike_108 ?_
    refine lv_topi (fun y3 ey3 => ?_)
    have h := h y3 ey3
    have g4 := h.1
    have h := h.2
    refine xa_iald hx hb hK hP 1 0 rfl rfl g4 (k := y3.toNatClampNeg) rfl d_Md_alike_109 ?_
    refine lv_imul hx hb d_Md_alike_110 ?_
    refine lv_topi (fun y5 ey5 => ?_)
    have h := h y5 ey5
    refine lv_aload_n hx hb d_Md_alike_111 rfl (lv_at hl 0 rfl) ?_
    refine va_get (D := G.1) (ci := 11) (v := .ref (q0 38)) (C := R_Md) (T := T_Md) (N := 45) hx hb hts i_Md hown hK hP 0 rfl rfl 38 (by decide) (hts _ wf_Md_48) (fun _ h9 => h9) rfl d_Md_alike_112 ?_
    refine lv_iconst (v := (0 : Int32)) hx hb d_Md_alike_115 (by decide) ?_
    refine xa_iald hx hb hK hP 11 0 rfl rfl (vp_lit rfl) (k := 0) rfl d_Md_alike_116 ?_
    refine lv_aload_n hx hb d_Md_alike_117 rfl (lv_at hl 0 rfl) ?_
    refine va_get (D := G.1) (ci := 11) (v := .ref (q0 1)) (C := R_Md) (T := T_Md) (N := 45) hx hb hts i_Md hown hK hP 0 rfl rfl 1 (by decide) (hts _ wf_Md_7) (fun _ h9 => h9) rfl d_Md_alike_118 ?_
    refine lv_bipush (v := (20 : Int32)) hx hb d_Md_alike_121 (by decide) ?_
    refine lv_aload_n hx hb d_Md_alike_123 rfl (lv_at hl 0 rfl) ?_
    refine va_get (D := G.1) (ci := 11) (v := .int (gI o0 0)) (C := R_Md) (T := T_Md) (N := 45) hx hb hts i_Md hown hK hP 0 rfl rfl 0 (by decide) (hts _ wf_Md_67) (fun _ h9 => h9) rfl d_Md_alike_124 ?_
    refine lv_iadd hx hb d_Md_alike_127 ?_
    refine lv_iconst (v := (1 : Int32)) hx hb d_Md_alike_128 (by decide) ?_
    refine lv_isub hx hb d_Md_alike_129 ?_
    have g6 := h.1
    have h := h.2
    refine xa_iald hx hb hK hP 1 0 rfl rfl g6 (k := (((20 : Int32) + (gI o0 0)) - (1 : Int32)).toNatClampNeg) rfl d_Md_alike_130 ?_
    refine lv_topi (fun y7 ey7 => ?_)
    have h := h y7 ey7
    refine lv_imul hx hb d_Md_alike_131 ?_
    refine lv_icmp_ne (tgt := 139) hx hb d_Md_alike_132 (by decide) (fun c8 => ?_) (fun c8 => ?_)
    · have h := h.2 c8
      refine lv_iconst (v := (0 : Int32)) hx hb d_Md_alike_139 (by decide) ?_
      refine lv_istore (lv' := [(7, .int (0 : Int32)), (0, .ref h0), (6, .int x6), (8, .int x8)]) hx hb d_Md_alike_140 hl (by decide) rfl (fun ls hl => ?_)
      refine lv_iinc (v := (x8 + (1 : Int32))) (lv' := [(8, .int (x8 + (1 : Int32))), (7, .int (0 : Int32)), (0, .ref h0), (6, .int x6)]) hx hb d_Md_alike_142 hl (k := 3) rfl rfl (by decide) rfl (fun ls hl => ?_)
      refine lv_goto (tgt := 25) hx hb d_Md_alike_145 (by decide) ?_
      have hl := lv_sub (l' := [(0, .ref h0), (6, .int x6), (7, .int (0 : Int32)), (8, .int (x8 + (1 : Int32)))]) hl [2, 3, 1, 0] rfl
      have hP : va_P G.1 CL (cw_Md G h0 q0 o0) H := hP
      have hD : va_D A (cw_Md G h0 q0 o0) := hD
      exact hk25 x6 (0 : Int32) (x8 + (1 : Int32)) o0 ls H locs hl hP hD hS h
    · have h := h.1 c8
      refine lv_iconst (v := (1 : Int32)) hx hb d_Md_alike_135 (by decide) ?_
      refine lv_goto (tgt := 140) hx hb d_Md_alike_136 (by decide) ?_
      refine lv_istore (lv' := [(7, .int (1 : Int32)), (0, .ref h0), (6, .int x6), (8, .int x8)]) hx hb d_Md_alike_140 hl (by decide) rfl (fun ls hl => ?_)
      refine lv_iinc (v := (x8 + (1 : Int32))) (lv' := [(8, .int (x8 + (1 : Int32))), (7, .int (1 : Int32)), (0, .ref h0), (6, .int x6)]) hx hb d_Md_alike_142 hl (k := 3) rfl rfl (by decide) rfl (fun ls hl => ?_)
      refine lv_goto (tgt := 25) hx hb d_Md_alike_145 (by decide) ?_
      have hl := lv_sub (l' := [(0, .ref h0), (6, .int x6), (7, .int (1 : Int32)), (8, .int (x8 + (1 : Int32)))]) hl [2, 3, 1, 0] rfl
      have hP : va_P G.1 CL (cw_Md G h0 q0 o0) H := hP
      have hD : va_D A (cw_Md G h0 q0 o0) := hD
      exact hk25 x6 (1 : Int32) (x8 + (1 : Int32)) o0 ls H locs hl hP hD hS h
set_option maxHeartbeats 4000000 in
set_option maxRecDepth 100000 in
theorem t_Md_alike_78 {p : Program} {l : Launch} {e : Env} {s : State} {m : MethodId} {args : Array Value} {below : List Frame} {meth : Method} {c : Code} {A : Nat → Prop} {G : Gl} {h0 : Nat} {q0 : Nat → Nat} (k25 : Int32 → Int32 → Int32 → Ob → Prop) (Q : Int32 → Ob → Prop) (C : Cx p s m args meth c R_Md b_Md_alike 9 (some .int) G A)
    (hk25 : ∀ (x6 : Int32) (x7 : Int32) (x8 : Int32) (o0 : Ob) (ls : Array Slot) (H : Heap) (locs : List Loc), lv_has ls 9 [(0, .ref h0), (6, .int x6), (7, .int x7), (8, .int x8)] → va_P G.1 CL (cw_Md G h0 q0 o0) H → va_D A (cw_Md G h0 q0 o0) → va_S A s.heap H locs → k25 x6 x7 x8 o0 → W p l e rm_Md_alike s m args below meth c H locs 0 0 (MQ below (va_Qi (fun (r : Int32) (u : Ob) => Q r u) (fun (u : Ob) t => BW G A (cw_Md G h0 q0 u) t) A) args s 0 0 A) (F0 m 25 ls [])) :
    ∀ (x7 : Int32) (x8 : Int32) (o0 : Ob) (ls : Array Slot) (H : Heap) (locs : List Loc), lv_has ls 9 [(0, .ref h0), (7, .int x7), (8, .int x8)] → va_P G.1 CL (cw_Md G h0 q0 o0) H → va_D A (cw_Md G h0 q0 o0) → va_S A s.heap H locs → f_Md_alike_78 k25 Q x7 x8 o0 → W p l e rm_Md_alike s m args below meth c H locs 0 0 (MQ below (va_Qi (fun (r : Int32) (u : Ob) => Q r u) (fun (u : Ob) t => BW G A (cw_Md G h0 q0 u) t) A) args s 0 0 A) (F0 m 78 ls []) := by
  obtain ⟨hx, hb, hml, hown, hr, hts, hK, hA, hlocks, hE⟩ := id C
  intro x7 x8 o0 ls H locs hl hP hD hS h
  have hP : va_P G.1 CL [(h0, .inr (11, [.int (gI o0 0), .ref (q0 1), .ref (q0 2), .ref (q0 3), .ref (q0 4), .ref (q0 5), .ref (q0 6), .int (gI o0 7), .int (gI o0 8), .int (gI o0 9), .int (gI o0 10), .int (gI o0 11), .int (gI o0 12), .int (gI o0 13), .int (gI o0 14), .long (gL o0 15), .int (gI o0 16), .int (gI o0 17), .int (gI o0 18), .int (gI o0 19), .int (gI o0 20), .int (gI o0 21), .int (gI o0 22), .int (gI o0 23), .int (gI o0 24), .int (gI o0 25), .int (gI o0 26), .int (gI o0 27), .ref (q0 28), .long (gL o0 29), .int (gI o0 30), .ref (q0 31), .ref (q0 32), .ref (q0 33), .int (gI o0 34), .int (gI o0 35), .int (gI o0 36), .int (gI o0 37), .ref (q0 38), .ref (q0 39), .int (gI o0 40), .ref (q0 41), .ref (q0 42), .ref (q0 43), .ref (q0 44)])), kI G (q0 1) 6100 (gA o0 1), kI G (q0 2) 6100 (gA o0 2), kJ G (q0 3) 2016 (gB o0 3), kJ G (q0 4) 2016 (gB o0 4), kI G (q0 5) 300 (gA o0 5), kI G (q0 6) 400 (gA o0 6), kJ G (q0 28) 10 (gB o0 28), kI G (q0 31) 969 (gA o0 31), kI G (q0 32) 969 (gA o0 32), kI G (q0 33) 969 (gA o0 33), kI G (q0 38) 5 (gA o0 38), kI G (q0 39) 5120 (gA o0 39), kI G (q0 41) 5 (gA o0 41), kZ G (q0 42) 1024 (gA o0 42), kI G (q0 43) 8192 (gA o0 43), kI G (q0 44) 8192 (gA o0 44)] H := hP
  have hD : va_D A [(h0, .inr (11, [.int (gI o0 0), .ref (q0 1), .ref (q0 2), .ref (q0 3), .ref (q0 4), .ref (q0 5), .ref (q0 6), .int (gI o0 7), .int (gI o0 8), .int (gI o0 9), .int (gI o0 10), .int (gI o0 11), .int (gI o0 12), .int (gI o0 13), .int (gI o0 14), .long (gL o0 15), .int (gI o0 16), .int (gI o0 17), .int (gI o0 18), .int (gI o0 19), .int (gI o0 20), .int (gI o0 21), .int (gI o0 22), .int (gI o0 23), .int (gI o0 24), .int (gI o0 25), .int (gI o0 26), .int (gI o0 27), .ref (q0 28), .long (gL o0 29), .int (gI o0 30), .ref (q0 31), .ref (q0 32), .ref (q0 33), .int (gI o0 34), .int (gI o0 35), .int (gI o0 36), .int (gI o0 37), .ref (q0 38), .ref (q0 39), .int (gI o0 40), .ref (q0 41), .ref (q0 42), .ref (q0 43), .ref (q0 44)])), kI G (q0 1) 6100 (gA o0 1), kI G (q0 2) 6100 (gA o0 2), kJ G (q0 3) 2016 (gB o0 3), kJ G (q0 4) 2016 (gB o0 4), kI G (q0 5) 300 (gA o0 5), kI G (q0 6) 400 (gA o0 6), kJ G (q0 28) 10 (gB o0 28), kI G (q0 31) 969 (gA o0 31), kI G (q0 32) 969 (gA o0 32), kI G (q0 33) 969 (gA o0 33), kI G (q0 38) 5 (gA o0 38), kI G (q0 39) 5120 (gA o0 39), kI G (q0 41) 5 (gA o0 41), kZ G (q0 42) 1024 (gA o0 42), kI G (q0 43) 8192 (gA o0 43), kI G (q0 44) 8192 (gA o0 44)] := hD
  unfold f_Md_alike_78 at h
  refine lv_iconst (v := (0 : Int32)) hx hb d_Md_alike_78 (by decide) ?_
  refine lv_istore (lv' := [(6, .int (0 : Int32)), (0, .ref h0), (7, .int x7), (8, .int x8)]) hx hb d_Md_alike_79 hl (by decide) rfl (fun ls hl => ?_)
  have hl := lv_sub (l' := [(0, .ref h0), (6, .int (0 : Int32)), (7, .int x7), (8, .int x8)]) hl [1, 0, 2, 3] rfl
  have hP : va_P G.1 CL (cw_Md G h0 q0 o0) H := hP
  have hD : va_D A (cw_Md G h0 q0 o0) := hD
  exact t_Md_alike_81 k25 Q C hk25 (0 : Int32) x7 x8 o0 ls _ locs hl hP hD hS h
set_option maxHeartbeats 4000000 in
set_option maxRecDepth 100000 in
theorem t_Md_alike_25 {p : Program} {l : Launch} {e : Env} {s : State} {m : MethodId} {args : Array Value} {below : List Frame} {meth : Method} {c : Code} {A : Nat → Prop} {G : Gl} {h0 : Nat} {q0 : Nat → Nat} (Q : Int32 → Ob → Prop) (C : Cx p s m args meth c R_Md b_Md_alike 9 (some .int) G A) :
    ∀ (n : Nat) (x6 : Int32) (x7 : Int32) (x8 : Int32) (o0 : Ob) (ls : Array Slot) (H : Heap) (locs : List Loc), lv_has ls 9 [(0, .ref h0), (6, .int x6), (7, .int x7), (8, .int x8)] → va_P G.1 CL (cw_Md G h0 q0 o0) H → va_D A (cw_Md G h0 q0 o0) → va_S A s.heap H locs → f_Md_alike_25 Q n x6 x7 x8 o0 → W p l e rm_Md_alike s m args below meth c H locs 0 0 (MQ below (va_Qi (fun (r : Int32) (u : Ob) => Q r u) (fun (u : Ob) t => BW G A (cw_Md G h0 q0 u) t) A) args s 0 0 A) (F0 m 25 ls []) := by
  obtain ⟨hx, hb, hml, hown, hr, hts, hK, hA, hlocks, hE⟩ := id C
  intro n
  induction n with
  | zero => intro x6 x7 x8 o0 ls H locs hl hP hD hS h; exact absurd h id
  | succ n ih =>
    intro x6 x7 x8 o0 ls H locs hl hP hD hS h
    have hP : va_P G.1 CL [(h0, .inr (11, [.int (gI o0 0), .ref (q0 1), .ref (q0 2), .ref (q0 3), .ref (q0 4), .ref (q0 5), .ref (q0 6), .int (gI o0 7), .int (gI o0 8), .int (gI o0 9), .int (gI o0 10), .int (gI o0 11), .int (gI o0 12), .int (gI o0 13), .int (gI o0 14), .long (gL o0 15), .int (gI o0 16), .int (gI o0 17), .int (gI o0 18), .int (gI o0 19), .int (gI o0 20), .int (gI o0 21), .int (gI o0 22), .int (gI o0 23), .int (gI o0 24), .int (gI o0 25), .int (gI o0 26), .int (gI o0 27), .ref (q0 28), .long (gL o0 29), .int (gI o0 30), .ref (q0 31), .ref (q0 32), .ref (q0 33), .int (gI o0 34), .int (gI o0 35), .int (gI o0 36), .int (gI o0 37), .ref (q0 38), .ref (q0 39), .int (gI o0 40), .ref (q0 41), .ref (q0 42), .ref (q0 43), .ref (q0 44)])), kI G (q0 1) 6100 (gA o0 1), kI G (q0 2) 6100 (gA o0 2), kJ G (q0 3) 2016 (gB o0 3), kJ G (q0 4) 2016 (gB o0 4), kI G (q0 5) 300 (gA o0 5), kI G (q0 6) 400 (gA o0 6), kJ G (q0 28) 10 (gB o0 28), kI G (q0 31) 969 (gA o0 31), kI G (q0 32) 969 (gA o0 32), kI G (q0 33) 969 (gA o0 33), kI G (q0 38) 5 (gA o0 38), kI G (q0 39) 5120 (gA o0 39), kI G (q0 41) 5 (gA o0 41), kZ G (q0 42) 1024 (gA o0 42), kI G (q0 43) 8192 (gA o0 43), kI G (q0 44) 8192 (gA o0 44)] H := hP
    have hD : va_D A [(h0, .inr (11, [.int (gI o0 0), .ref (q0 1), .ref (q0 2), .ref (q0 3), .ref (q0 4), .ref (q0 5), .ref (q0 6), .int (gI o0 7), .int (gI o0 8), .int (gI o0 9), .int (gI o0 10), .int (gI o0 11), .int (gI o0 12), .int (gI o0 13), .int (gI o0 14), .long (gL o0 15), .int (gI o0 16), .int (gI o0 17), .int (gI o0 18), .int (gI o0 19), .int (gI o0 20), .int (gI o0 21), .int (gI o0 22), .int (gI o0 23), .int (gI o0 24), .int (gI o0 25), .int (gI o0 26), .int (gI o0 27), .ref (q0 28), .long (gL o0 29), .int (gI o0 30), .ref (q0 31), .ref (q0 32), .ref (q0 33), .int (gI o0 34), .int (gI o0 35), .int (gI o0 36), .int (gI o0 37), .ref (q0 38), .ref (q0 39), .int (gI o0 40), .ref (q0 41), .ref (q0 42), .ref (q0 43), .ref (q0 44)])), kI G (q0 1) 6100 (gA o0 1), kI G (q0 2) 6100 (gA o0 2), kJ G (q0 3) 2016 (gB o0 3), kJ G (q0 4) 2016 (gB o0 4), kI G (q0 5) 300 (gA o0 5), kI G (q0 6) 400 (gA o0 6), kJ G (q0 28) 10 (gB o0 28), kI G (q0 31) 969 (gA o0 31), kI G (q0 32) 969 (gA o0 32), kI G (q0 33) 969 (gA o0 33), kI G (q0 38) 5 (gA o0 38), kI G (q0 39) 5120 (gA o0 39), kI G (q0 41) 5 (gA o0 41), kZ G (q0 42) 1024 (gA o0 42), kI G (q0 43) 8192 (gA o0 43), kI G (q0 44) 8192 (gA o0 44)] := hD
    unfold f_Md_alike_25 at h
    refine lv_iload hx hb d_Md_alike_25 (lv_at hl 3 rfl) ?_
    refine lv_aload_n hx hb d_Md_alike_27 rfl (lv_at hl 0 rfl) ?_
    refine va_get (D := G.1) (ci := 11) (v := .int (gI o0 0)) (C := R_Md) (T := T_Md) (N := 45) hx hb hts i_Md hown hK hP 0 rfl rfl 0 (by decide) (hts _ wf_Md_67) (fun _ h9 => h9) rfl d_Md_alike_28 ?_
    refine lv_icmp_ge (tgt := 148) hx hb d_Md_alike_31 (by decide) (fun c9 => ?_) (fun c9 => ?_)
    · have h := h.1 c9
      refine lv_iload hx hb d_Md_alike_148 (lv_at hl 1 rfl) ?_
      refine lv_if_eq (tgt := 157) hx hb d_Md_alike_150 (by decide) (fun c10 => ?_) (fun c10 => ?_)
      · have h := h.1 c10
        refine lv_iload hx hb d_Md_alike_157 (lv_at hl 2 rfl) ?_
        refine lv_if_eq (tgt := 166) hx hb d_Md_alike_159 (by decide) (fun c11 => ?_) (fun c11 => ?_)
        · have h := h.1 c11
          refine lv_iconst (v := (0 : Int32)) hx hb d_Md_alike_166 (by decide) ?_
          have hP : va_P G.1 CL (cw_Md G h0 q0 o0) H := hP
          have hD : va_D A (cw_Md G h0 q0 o0) := hD
          exact W.iret (v := (0 : Int32)) hx hb hr (fun t ht hW => ⟨⟨(0 : Int32), o0, rfl, h, by rw [ht]; exact hP, va_K.moved hW.alike hK, hD⟩, hS.F ht⟩) hS.2.2 d_Md_alike_167
        · have h := h.2 c11
          refine lv_iconst (v := (2 : Int32)) hx hb d_Md_alike_162 (by decide) ?_
          refine lv_goto (tgt := 167) hx hb d_Md_alike_163 (by decide) ?_
          have hP : va_P G.1 CL (cw_Md G h0 q0 o0) H := hP
          have hD : va_D A (cw_Md G h0 q0 o0) := hD
          exact W.iret (v := (2 : Int32)) hx hb hr (fun t ht hW => ⟨⟨(2 : Int32), o0, rfl, h, by rw [ht]; exact hP, va_K.moved hW.alike hK, hD⟩, hS.F ht⟩) hS.2.2 d_Md_alike_167
      · have h := h.2 c10
        refine lv_iconst (v := (1 : Int32)) hx hb d_Md_alike_153 (by decide) ?_
        refine lv_goto (tgt := 167) hx hb d_Md_alike_154 (by decide) ?_
        have hP : va_P G.1 CL (cw_Md G h0 q0 o0) H := hP
        have hD : va_D A (cw_Md G h0 q0 o0) := hD
        exact W.iret (v := (1 : Int32)) hx hb hr (fun t ht hW => ⟨⟨(1 : Int32), o0, rfl, h, by rw [ht]; exact hP, va_K.moved hW.alike hK, hD⟩, hS.F ht⟩) hS.2.2 d_Md_alike_167
    · have h := h.2 c9
      refine lv_iload hx hb d_Md_alike_34 (lv_at hl 1 rfl) ?_
      refine lv_if_eq (tgt := 78) hx hb d_Md_alike_36 (by decide) (fun c12 => ?_) (fun c12 => ?_)
      · have h := h.1 c12
        have hl := lv_sub (l' := [(0, .ref h0), (7, .int x7), (8, .int x8)]) hl [0, 2, 3] rfl
        have hP : va_P G.1 CL (cw_Md G h0 q0 o0) H := hP
        have hD : va_D A (cw_Md G h0 q0 o0) := hD
        exact t_Md_alike_78 (f_Md_alike_25 Q n) Q C ih x7 x8 o0 ls _ locs hl hP hD hS h
      · have h := h.2 c12
        refine lv_aload_n hx hb d_Md_alike_39 rfl (lv_at hl 0 rfl) ?_
        refine va_get (D := G.1) (ci := 11) (v := .ref (q0 38)) (C := R_Md) (T := T_Md) (N := 45) hx hb hts i_Md hown hK hP 0 rfl rfl 38 (by decide) (hts _ wf_Md_48) (fun _ h9 => h9) rfl d_Md_alike_40 ?_
        refine lv_iload hx hb d_Md_alike_43 (lv_at hl 3 rfl) ?_
        have g13 := h.1
        have h := h.2
        refine xa_iald hx hb hK hP 11 0 rfl rfl g13 (k := x8.toNatClampNeg) rfl d_Md_alike_45 ?_
        refine lv_aload_n hx hb d_Md_alike_46 rfl (lv_at hl 0 rfl) ?_
        refine va_get (D := G.1) (ci := 11) (v := .ref (q0 1)) (C := R_Md) (T := T_Md) (N := 45) hx hb hts i_Md hown hK hP 0 rfl rfl 1 (by decide) (hts _ wf_Md_7) (fun _ h9 => h9) rfl d_Md_alike_47 ?_
        refine lv_bipush (v := (20 : Int32)) hx hb d_Md_alike_50 (by decide) ?_
        refine xa_iald hx hb hK hP 1 0 rfl rfl (vp_lit rfl) (k := 20) rfl d_Md_alike_52 ?_
        refine lv_imul hx hb d_Md_alike_53 ?_
        refine lv_topi (fun y14 ey14 => ?_)
        have h := h y14 ey14
        refine lv_aload_n hx hb d_Md_alike_54 rfl (lv_at hl 0 rfl) ?_
        refine va_get (D := G.1) (ci := 11) (v := .ref (q0 1)) (C := R_Md) (T := T_Md) (N := 45) hx hb hts i_Md hown hK hP 0 rfl rfl 1 (by decide) (hts _ wf_Md_7) (fun _ h9 => h9) rfl d_Md_alike_55 ?_
        refine lv_bipush (v := (20 : Int32)) hx hb d_Md_alike_58 (by decide) ?_
        refine lv_iload hx hb d_Md_alike_60 (lv_at hl 3 rfl) ?_
        refine lv_iadd hx hb d_Md_alike_62 ?_
        have g15 := h.1
        have h := h.2
        refine xa_iald hx hb hK hP 1 0 rfl rfl g15 (k := ((20 : Int32) + x8).toNatClampNeg) rfl d_Md_alike_63 ?_
        refine lv_topi (fun y16 ey16 => ?_)
        have h := h y16 ey16
        refine lv_aload_n hx hb d_Md_alike_64 rfl (lv_at hl 0 rfl) ?_
        refine va_get (D := G.1) (ci := 11) (v := .ref (q0 38)) (C := R_Md) (T := T_Md) (N := 45) hx hb hts i_Md hown hK hP 0 rfl rfl 38 (by decide) (hts _ wf_Md_48) (fun _ h9 => h9) rfl d_Md_alike_65 ?_
        refine lv_iconst (v := (0 : Int32)) hx hb d_Md_alike_68 (by decide) ?_
        refine xa_iald hx hb hK hP 11 0 rfl rfl (vp_lit rfl) (k := 0) rfl d_Md_alike_69 ?_
        refine lv_imul hx hb d_Md_alike_70 ?_
        refine lv_icmp_ne (tgt := 78) hx hb d_Md_alike_71 (by decide) (fun c17 => ?_) (fun c17 => ?_)
        · have h := h.2 c17
          have hl := lv_sub (l' := [(0, .ref h0), (7, .int x7), (8, .int x8)]) hl [0, 2, 3] rfl
          have hP : va_P G.1 CL (cw_Md G h0 q0 o0) H := hP
          have hD : va_D A (cw_Md G h0 q0 o0) := hD
          exact t_Md_alike_78 (f_Md_alike_25 Q n) Q C ih x7 x8 o0 ls _ locs hl hP hD hS h
        · have h := h.1 c17
          refine lv_iconst (v := (1 : Int32)) hx hb d_Md_alike_74 (by decide) ?_
          refine lv_goto (tgt := 79) hx hb d_Md_alike_75 (by decide) ?_
          refine lv_istore (lv' := [(6, .int (1 : Int32)), (0, .ref h0), (7, .int x7), (8, .int x8)]) hx hb d_Md_alike_79 hl (by decide) rfl (fun ls hl => ?_)
          have hl := lv_sub (l' := [(0, .ref h0), (6, .int (1 : Int32)), (7, .int x7), (8, .int x8)]) hl [1, 0, 2, 3] rfl
          have hP : va_P G.1 CL (cw_Md G h0 q0 o0) H := hP
          have hD : va_D A (cw_Md G h0 q0 o0) := hD
          exact t_Md_alike_81 (f_Md_alike_25 Q n) Q C ih (1 : Int32) x7 x8 o0 ls _ locs hl hP hD hS h
set_option maxHeartbeats 4000000 in
set_option maxRecDepth 100000 in
theorem c_Md_alike {l : Launch} {G : Gl} {h0 : Nat} {q0 : Nat → Nat} {a0 : Int32} {a1 : Int32} {a2 : Int32} {a3 : Int32} {a4 : Int32} {o0 : Ob} {Q : Int32 → Ob → Prop} (sz : Nat) (h : f_Md_alike a0 a1 a2 a3 a4 o0 Q) : Met l y_Md_alike w_Md_alike rm_Md_alike (PcW G [.ref h0, .int a0, .int a1, .int a2, .int a3, .int a4] sz (cw_Md G h0 q0 o0)) (va_Qi (fun (r : Int32) (u : Ob) => Q r u) (fun (u : Ob) t => BW G (va_A (cw_Md G h0 q0 o0) sz) (cw_Md G h0 q0 u) t) (va_A (cw_Md G h0 q0 o0) sz)) 0 0 (va_A (cw_Md G h0 q0 o0) sz) := by
  refine Met.ofW (cc := b_Md_alike) (maxL := 9) (ret := (some .int)) (by decide +kernel) rfl ?_
  intro p e s m args below meth c s₁ B hml hv
  obtain ⟨rfl, hsz, hP, hK, hD0, hE⟩ := hv
  have hx := B.exec
  have hb := B.bytes
  have hr := B.returns
  have hts0 := atoms_spec (ws := w_Md_alike) B.pre
  have hts : ∀ w ∈ gw_tbl, w.before ([.ref h0, .int a0, .int a1, .int a2, .int a3, .int a4]).toArray s = true := fun w hw => hts0 w (List.mem_cons_of_mem _ hw)
  have hown : s.vm.findClass R_Md = some m.cls := findClass_of_methodNamed B.named
  have hlocks := B.notSynchronized
  subst hsz
  have hD := hD0.self (sz := s.heap.size)
  generalize hAe : va_A (cw_Md G h0 q0 o0) s.heap.size = A at hD hE ⊢
  have hA : ∀ q : Nat, s.heap.size ≤ q → A q := fun q h => by rw [← hAe]; exact Or.inr h
  have hS : va_S A s.heap s.heap [] := va_S.rf
  have C : Cx p s m ([.ref h0, .int a0, .int a1, .int a2, .int a3, .int a4]).toArray meth c R_Md b_Md_alike 9 (some .int) G A := ⟨hx, hb, hml, hown, hr, hts, hK, hA, hlocks, hE⟩
  have hl := lv_entry ([.ref h0, .int a0, .int a1, .int a2, .int a3, .int a4]) (n := 9) (Nat.le_of_ble_eq_true rfl)
  rw [lg_entry_eq]
  generalize (lg_sl ([.ref h0, .int a0, .int a1, .int a2, .int a3, .int a4]) ++ List.replicate (9 - (lg_sl ([.ref h0, .int a0, .int a1, .int a2, .int a3, .int a4])).length) Slot.unset).toArray = ls at hl ⊢
  have hl : lv_has ls 9 [(0, .ref h0), (1, .int a0), (2, .int a1), (3, .int a2), (4, .int a3), (5, .int a4)] := hl
  have hD : va_D A [(h0, .inr (11, [.int (gI o0 0), .ref (q0 1), .ref (q0 2), .ref (q0 3), .ref (q0 4), .ref (q0 5), .ref (q0 6), .int (gI o0 7), .int (gI o0 8), .int (gI o0 9), .int (gI o0 10), .int (gI o0 11), .int (gI o0 12), .int (gI o0 13), .int (gI o0 14), .long (gL o0 15), .int (gI o0 16), .int (gI o0 17), .int (gI o0 18), .int (gI o0 19), .int (gI o0 20), .int (gI o0 21), .int (gI o0 22), .int (gI o0 23), .int (gI o0 24), .int (gI o0 25), .int (gI o0 26), .int (gI o0 27), .ref (q0 28), .long (gL o0 29), .int (gI o0 30), .ref (q0 31), .ref (q0 32), .ref (q0 33), .int (gI o0 34), .int (gI o0 35), .int (gI o0 36), .int (gI o0 37), .ref (q0 38), .ref (q0 39), .int (gI o0 40), .ref (q0 41), .ref (q0 42), .ref (q0 43), .ref (q0 44)])), kI G (q0 1) 6100 (gA o0 1), kI G (q0 2) 6100 (gA o0 2), kJ G (q0 3) 2016 (gB o0 3), kJ G (q0 4) 2016 (gB o0 4), kI G (q0 5) 300 (gA o0 5), kI G (q0 6) 400 (gA o0 6), kJ G (q0 28) 10 (gB o0 28), kI G (q0 31) 969 (gA o0 31), kI G (q0 32) 969 (gA o0 32), kI G (q0 33) 969 (gA o0 33), kI G (q0 38) 5 (gA o0 38), kI G (q0 39) 5120 (gA o0 39), kI G (q0 41) 5 (gA o0 41), kZ G (q0 42) 1024 (gA o0 42), kI G (q0 43) 8192 (gA o0 43), kI G (q0 44) 8192 (gA o0 44)] := hD
  unfold f_Md_alike at h
  suffices key : ∀ (H : Heap) (locs : List Loc), va_P G.1 CL [(h0, .inr (11, [.int (gI o0 0), .ref (q0 1), .ref (q0 2), .ref (q0 3), .ref (q0 4), .ref (q0 5), .ref (q0 6), .int (gI o0 7), .int (gI o0 8), .int (gI o0 9), .int (gI o0 10), .int (gI o0 11), .int (gI o0 12), .int (gI o0 13), .int (gI o0 14), .long (gL o0 15), .int (gI o0 16), .int (gI o0 17), .int (gI o0 18), .int (gI o0 19), .int (gI o0 20), .int (gI o0 21), .int (gI o0 22), .int (gI o0 23), .int (gI o0 24), .int (gI o0 25), .int (gI o0 26), .int (gI o0 27), .ref (q0 28), .long (gL o0 29), .int (gI o0 30), .ref (q0 31), .ref (q0 32), .ref (q0 33), .int (gI o0 34), .int (gI o0 35), .int (gI o0 36), .int (gI o0 37), .ref (q0 38), .ref (q0 39), .int (gI o0 40), .ref (q0 41), .ref (q0 42), .ref (q0 43), .ref (q0 44)])), kI G (q0 1) 6100 (gA o0 1), kI G (q0 2) 6100 (gA o0 2), kJ G (q0 3) 2016 (gB o0 3), kJ G (q0 4) 2016 (gB o0 4), kI G (q0 5) 300 (gA o0 5), kI G (q0 6) 400 (gA o0 6), kJ G (q0 28) 10 (gB o0 28), kI G (q0 31) 969 (gA o0 31), kI G (q0 32) 969 (gA o0 32), kI G (q0 33) 969 (gA o0 33), kI G (q0 38) 5 (gA o0 38), kI G (q0 39) 5120 (gA o0 39), kI G (q0 41) 5 (gA o0 41), kZ G (q0 42) 1024 (gA o0 42), kI G (q0 43) 8192 (gA o0 43), kI G (q0 44) 8192 (gA o0 44)] H → va_S A s.heap H locs → W p l e rm_Md_alike s m ([.ref h0, .int a0, .int a1, .int a2, .int a3, .int a4]).toArray below meth c H locs 0 0 (MQ below (va_Qi (fun (r : Int32) (u : Ob) => Q r u) (fun (u : Ob) t => BW G A (cw_Md G h0 q0 u) t) A) ([.ref h0, .int a0, .int a1, .int a2, .int a3, .int a4]).toArray s 0 0 A) (F0 m 0 ls []) from key s.heap [] hP hS
  intro H locs hP hS
  refine lv_aload_n hx hb d_Md_alike_0 rfl (lv_at hl 0 rfl) ?_
  refine lv_iload_n hx hb d_Md_alike_1 rfl (lv_at hl 1 rfl) ?_
  refine lv_iload_n hx hb d_Md_alike_2 rfl (lv_at hl 2 rfl) ?_
  refine lv_iload_n hx hb d_Md_alike_3 rfl (lv_at hl 3 rfl) ?_
  refine lv_iload hx hb d_Md_alike_4 (lv_at hl 4 rfl) ?_
  refine lv_iload hx hb d_Md_alike_6 (lv_at hl 5 rfl) ?_
  refine cl_Vi (b := b_Md_alike) (As := [.int a0, .int a1, .int a2, .int a3, .int a4]) (rest := []) (ws := [(h0, .inr (11, [.int (gI o0 0), .ref (q0 1), .ref (q0 2), .ref (q0 3), .ref (q0 4), .ref (q0 5), .ref (q0 6), .int (gI o0 7), .int (gI o0 8), .int (gI o0 9), .int (gI o0 10), .int (gI o0 11), .int (gI o0 12), .int (gI o0 13), .int (gI o0 14), .long (gL o0 15), .int (gI o0 16), .int (gI o0 17), .int (gI o0 18), .int (gI o0 19), .int (gI o0 20), .int (gI o0 21), .int (gI o0 22), .int (gI o0 23), .int (gI o0 24), .int (gI o0 25), .int (gI o0 26), .int (gI o0 27), .ref (q0 28), .long (gL o0 29), .int (gI o0 30), .ref (q0 31), .ref (q0 32), .ref (q0 33), .int (gI o0 34), .int (gI o0 35), .int (gI o0 36), .int (gI o0 37), .ref (q0 38), .ref (q0 39), .int (gI o0 40), .ref (q0 41), .ref (q0 42), .ref (q0 43), .ref (q0 44)])), kI G (q0 1) 6100 (gA o0 1), kI G (q0 2) 6100 (gA o0 2), kJ G (q0 3) 2016 (gB o0 3), kJ G (q0 4) 2016 (gB o0 4), kI G (q0 5) 300 (gA o0 5), kI G (q0 6) 400 (gA o0 6), kJ G (q0 28) 10 (gB o0 28), kI G (q0 31) 969 (gA o0 31), kI G (q0 32) 969 (gA o0 32), kI G (q0 33) 969 (gA o0 33), kI G (q0 38) 5 (gA o0 38), kI G (q0 39) 5120 (gA o0 39), kI G (q0 41) 5 (gA o0 41), kZ G (q0 42) 1024 (gA o0 42), kI G (q0 43) 8192 (gA o0 43), kI G (q0 44) 8192 (gA o0 44)]) (wr := []) (w2 := fun (u : Ob) => [(h0, .inr (11, [.int (gI u 0), .ref (q0 1), .ref (q0 2), .ref (q0 3), .ref (q0 4), .ref (q0 5), .ref (q0 6), .int (gI u 7), .int (gI u 8), .int (gI u 9), .int (gI u 10), .int (gI u 11), .int (gI u 12), .int (gI u 13), .int (gI u 14), .long (gL u 15), .int (gI u 16), .int (gI u 17), .int (gI u 18), .int (gI u 19), .int (gI u 20), .int (gI u 21), .int (gI u 22), .int (gI u 23), .int (gI u 24), .int (gI u 25), .int (gI u 26), .int (gI u 27), .ref (q0 28), .long (gL u 29), .int (gI u 30), .ref (q0 31), .ref (q0 32), .ref (q0 33), .int (gI u 34), .int (gI u 35), .int (gI u 36), .int (gI u 37), .ref (q0 38), .ref (q0 39), .int (gI u 40), .ref (q0 41), .ref (q0 42), .ref (q0 43), .ref (q0 44)])), kI G (q0 1) 6100 (gA u 1), kI G (q0 2) 6100 (gA u 2), kJ G (q0 3) 2016 (gB u 3), kJ G (q0 4) 2016 (gB u 4), kI G (q0 5) 300 (gA u 5), kI G (q0 6) 400 (gA u 6), kJ G (q0 28) 10 (gB u 28), kI G (q0 31) 969 (gA u 31), kI G (q0 32) 969 (gA u 32), kI G (q0 33) 969 (gA u 33), kI G (q0 38) 5 (gA u 38), kI G (q0 39) 5120 (gA u 39), kI G (q0 41) 5 (gA u 41), kZ G (q0 42) 1024 (gA u 42), kI G (q0 43) 8192 (gA u 43), kI G (q0 44) 8192 (gA u 44)]) C (c_Md_isShape (h0 := h0) (q0 := q0) H.size h) wv_Md_263 ⟨Nat.le_of_ble_eq_true rfl, Nat.le_of_ble_eq_true rfl⟩ hP hD hS 0 rfl rfl [0, 1, 2, 3, 4, 5, 6, 7, 8, 9, 10, 11, 12, 13, 14, 15, 16] [] rfl rfl (by decide) (by decide) (by decide) [0, 1, 2, 3, 4, 5, 6, 7, 8, 9, 10, 11, 12, 13, 14, 15, 16] (by decide) (fun u => rfl) rfl hl.1 rfl (lv_room (Nat.le_of_ble_eq_true rfl)) d_Md_alike_8 ⟨Nat.le_of_ble_eq_true rfl, Nat.le_of_ble_eq_true rfl⟩ rfl rfl (fun z18 u H locs h hP hD hS => ?_)
  generalize u = u19 at h hP hD
  have hP : va_P G.1 CL [(h0, .inr (11, [.int (gI u19 0), .ref (q0 1), .ref (q0 2), .ref (q0 3), .ref (q0 4), .ref (q0 5), .ref (q0 6), .int (gI u19 7), .int (gI u19 8), .int (gI u19 9), .int (gI u19 10), .int (gI u19 11), .int (gI u19 12), .int (gI u19 13), .int (gI u19 14), .long (gL u19 15), .int (gI u19 16), .int (gI u19 17), .int (gI u19 18), .int (gI u19 19), .int (gI u19 20), .int (gI u19 21), .int (gI u19 22), .int (gI u19 23), .int (gI u19 24), .int (gI u19 25), .int (gI u19 26), .int (gI u19 27), .ref (q0 28), .long (gL u19 29), .int (gI u19 30), .ref (q0 31), .ref (q0 32), .ref (q0 33), .int (gI u19 34), .int (gI u19 35), .int (gI u19 36), .int (gI u19 37), .ref (q0 38), .ref (q0 39), .int (gI u19 40), .ref (q0 41), .ref (q0 42), .ref (q0 43), .ref (q0 44)])), kI G (q0 1) 6100 (gA u19 1), kI G (q0 2) 6100 (gA u19 2), kJ G (q0 3) 2016 (gB u19 3), kJ G (q0 4) 2016 (gB u19 4), kI G (q0 5) 300 (gA u19 5), kI G (q0 6) 400 (gA u19 6), kJ G (q0 28) 10 (gB u19 28), kI G (q0 31) 969 (gA u19 31), kI G (q0 32) 969 (gA u19 32), kI G (q0 33) 969 (gA u19 33), kI G (q0 38) 5 (gA u19 38), kI G (q0 39) 5120 (gA u19 39), kI G (q0 41) 5 (gA u19 41), kZ G (q0 42) 1024 (gA u19 42), kI G (q0 43) 8192 (gA u19 43), kI G (q0 44) 8192 (gA u19 44)] H := hP
  have hD : va_D A [(h0, .inr (11, [.int (gI u19 0), .ref (q0 1), .ref (q0 2), .ref (q0 3), .ref (q0 4), .ref (q0 5), .ref (q0 6), .int (gI u19 7), .int (gI u19 8), .int (gI u19 9), .int (gI u19 10), .int (gI u19 11), .int (gI u19 12), .int (gI u19 13), .int (gI u19 14), .long (gL u19 15), .int (gI u19 16), .int (gI u19 17), .int (gI u19 18), .int (gI u19 19), .int (gI u19 20), .int (gI u19 21), .int (gI u19 22), .int (gI u19 23), .int (gI u19 24), .int (gI u19 25), .int (gI u19 26), .int (gI u19 27), .ref (q0 28), .long (gL u19 29), .int (gI u19 30), .ref (q0 31), .ref (q0 32), .ref (q0 33), .int (gI u19 34), .int (gI u19 35), .int (gI u19 36), .int (gI u19 37), .ref (q0 38), .ref (q0 39), .int (gI u19 40), .ref (q0 41), .ref (q0 42), .ref (q0 43), .ref (q0 44)])), kI G (q0 1) 6100 (gA u19 1), kI G (q0 2) 6100 (gA u19 2), kJ G (q0 3) 2016 (gB u19 3), kJ G (q0 4) 2016 (gB u19 4), kI G (q0 5) 300 (gA u19 5), kI G (q0 6) 400 (gA u19 6), kJ G (q0 28) 10 (gB u19 28), kI G (q0 31) 969 (gA u19 31), kI G (q0 32) 969 (gA u19 32), kI G (q0 33) 969 (gA u19 33), kI G (q0 38) 5 (gA u19 38), kI G (q0 39) 5120 (gA u19 39), kI G (q0 41) 5 (gA u19 41), kZ G (q0 42) 1024 (gA u19 42), kI G (q0 43) 8192 (gA u19 43), kI G (q0 44) 8192 (gA u19 44)] := hD
  refine lv_if_ne (tgt := 16) hx hb d_Md_alike_11 (by decide) (fun c20 => ?_) (fun c20 => ?_)
  · have h := h.2 c20
    refine lv_iconst (v := (1 : Int32)) hx hb d_Md_alike_16 (by decide) ?_
    refine lv_istore (lv' := [(6, .int (1 : Int32)), (0, .ref h0), (1, .int a0), (2, .int a1), (3, .int a2), (4, .int a3), (5, .int a4)]) hx hb d_Md_alike_17 hl (by decide) rfl (fun ls hl => ?_)
    refine lv_iconst (v := (1 : Int32)) hx hb d_Md_alike_19 (by decide) ?_
    refine lv_istore (lv' := [(7, .int (1 : Int32)), (6, .int (1 : Int32)), (0, .ref h0), (1, .int a0), (2, .int a1), (3, .int a2), (4, .int a3), (5, .int a4)]) hx hb d_Md_alike_20 hl (by decide) rfl (fun ls hl => ?_)
    refine lv_iconst (v := (0 : Int32)) hx hb d_Md_alike_22 (by decide) ?_
    refine lv_istore (lv' := [(8, .int (0 : Int32)), (7, .int (1 : Int32)), (6, .int (1 : Int32)), (0, .ref h0), (1, .int a0), (2, .int a1), (3, .int a2), (4, .int a3), (5, .int a4)]) hx hb d_Md_alike_23 hl (by decide) rfl (fun ls hl => ?_)
    have hl := lv_sub (l' := [(0, .ref h0), (6, .int (1 : Int32)), (7, .int (1 : Int32)), (8, .int (0 : Int32))]) hl [3, 2, 1, 0] rfl
    have hP : va_P G.1 CL (cw_Md G h0 q0 u19) H := hP
    have hD : va_D A (cw_Md G h0 q0 u19) := hD
    obtain ⟨w, h⟩ := h
    exact t_Md_alike_25 Q C w (1 : Int32) (1 : Int32) (0 : Int32) u19 ls _ locs hl hP hD hS h
  · have h := h.1 c20
    refine lv_iconst (v := (-1 : Int32)) hx hb d_Md_alike_14 (by decide) ?_
    have hP : va_P G.1 CL (cw_Md G h0 q0 u19) H := hP
    have hD : va_D A (cw_Md G h0 q0 u19) := hD
    exact W.iret (v := (-1 : Int32)) hx hb hr (fun t ht hW => ⟨⟨(-1 : Int32), u19, rfl, h, by rw [ht]; exact hP, va_K.moved hW.alike hK, hD⟩, hS.F ht⟩) hS.2.2 d_Md_alike_15
