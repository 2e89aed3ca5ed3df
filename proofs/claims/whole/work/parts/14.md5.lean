abbrev b_Md_findShapes : ByteArray := prog_14_method_52_code
def y_Md_findShapes : MethodName := ⟨R_Md, "findShapes", "()V"⟩
abbrev w_Md_findShapes : List Cond := Cond.code y_Md_findShapes b_Md_findShapes 3 none :: gw_tbl
theorem d_Md_findShapes_0 : decode b_Md_findShapes 0 = .ok (.aload_n 0, 1) := by decide +kernel
theorem d_Md_findShapes_1 : decode b_Md_findShapes 1 = .ok (.iconst 0, 1) := by decide +kernel
theorem d_Md_findShapes_2 : decode b_Md_findShapes 2 = .ok (.putfield 273, 3) := by decide +kernel
theorem d_Md_findShapes_5 : decode b_Md_findShapes 5 = .ok (.aload_n 0, 1) := by decide +kernel
theorem d_Md_findShapes_6 : decode b_Md_findShapes 6 = .ok (.getfield 54, 3) := by decide +kernel
theorem d_Md_findShapes_9 : decode b_Md_findShapes 9 = .ok (.iconst 0, 1) := by decide +kernel
theorem d_Md_findShapes_10 : decode b_Md_findShapes 10 = .ok (.iconst 0, 1) := by decide +kernel
theorem d_Md_findShapes_11 : decode b_Md_findShapes 11 = .ok (.iastore, 1) := by decide +kernel
theorem d_Md_findShapes_12 : decode b_Md_findShapes 12 = .ok (.iconst 0, 1) := by decide +kernel
theorem d_Md_findShapes_13 : decode b_Md_findShapes 13 = .ok (.istore_n 1, 1) := by decide +kernel
theorem d_Md_findShapes_14 : decode b_Md_findShapes 14 = .ok (.iload_n 1, 1) := by decide +kernel
theorem d_Md_findShapes_15 : decode b_Md_findShapes 15 = .ok (.ifCond .lt 146, 3) := by decide +kernel
theorem d_Md_findShapes_18 : decode b_Md_findShapes 18 = .ok (.aload_n 0, 1) := by decide +kernel
theorem d_Md_findShapes_19 : decode b_Md_findShapes 19 = .ok (.getfield 54, 3) := by decide +kernel
theorem d_Md_findShapes_22 : decode b_Md_findShapes 22 = .ok (.iload_n 1, 1) := by decide +kernel
theorem d_Md_findShapes_23 : decode b_Md_findShapes 23 = .ok (.dup2, 1) := by decide +kernel
theorem d_Md_findShapes_24 : decode b_Md_findShapes 24 = .ok (.iaload, 1) := by decide +kernel
theorem d_Md_findShapes_25 : decode b_Md_findShapes 25 = .ok (.iconst 1, 1) := by decide +kernel
theorem d_Md_findShapes_26 : decode b_Md_findShapes 26 = .ok (.iadd, 1) := by decide +kernel
theorem d_Md_findShapes_27 : decode b_Md_findShapes 27 = .ok (.iastore, 1) := by decide +kernel
theorem d_Md_findShapes_28 : decode b_Md_findShapes 28 = .ok (.aload_n 0, 1) := by decide +kernel
theorem d_Md_findShapes_29 : decode b_Md_findShapes 29 = .ok (.getfield 54, 3) := by decide +kernel
theorem d_Md_findShapes_32 : decode b_Md_findShapes 32 = .ok (.iload_n 1, 1) := by decide +kernel
theorem d_Md_findShapes_33 : decode b_Md_findShapes 33 = .ok (.iaload, 1) := by decide +kernel
theorem d_Md_findShapes_34 : decode b_Md_findShapes 34 = .ok (.bipush 13, 2) := by decide +kernel
theorem d_Md_findShapes_36 : decode b_Md_findShapes 36 = .ok (.if_icmp .ge 37, 3) := by decide +kernel
theorem d_Md_findShapes_39 : decode b_Md_findShapes 39 = .ok (.aload_n 0, 1) := by decide +kernel
theorem d_Md_findShapes_40 : decode b_Md_findShapes 40 = .ok (.getfield 7, 3) := by decide +kernel
theorem d_Md_findShapes_43 : decode b_Md_findShapes 43 = .ok (.bipush 30, 2) := by decide +kernel
theorem d_Md_findShapes_45 : decode b_Md_findShapes 45 = .ok (.iload_n 1, 1) := by decide +kernel
theorem d_Md_findShapes_46 : decode b_Md_findShapes 46 = .ok (.iadd, 1) := by decide +kernel
theorem d_Md_findShapes_47 : decode b_Md_findShapes 47 = .ok (.iaload, 1) := by decide +kernel
theorem d_Md_findShapes_48 : decode b_Md_findShapes 48 = .ok (.aload_n 0, 1) := by decide +kernel
theorem d_Md_findShapes_49 : decode b_Md_findShapes 49 = .ok (.getfield 54, 3) := by decide +kernel
theorem d_Md_findShapes_52 : decode b_Md_findShapes 52 = .ok (.iload_n 1, 1) := by decide +kernel
theorem d_Md_findShapes_53 : decode b_Md_findShapes 53 = .ok (.iaload, 1) := by decide +kernel
theorem d_Md_findShapes_54 : decode b_Md_findShapes 54 = .ok (.ishr, 1) := by decide +kernel
theorem d_Md_findShapes_55 : decode b_Md_findShapes 55 = .ok (.iconst 1, 1) := by decide +kernel
theorem d_Md_findShapes_56 : decode b_Md_findShapes 56 = .ok (.iand, 1) := by decide +kernel
theorem d_Md_findShapes_57 : decode b_Md_findShapes 57 = .ok (.ifCond .ne 16, 3) := by decide +kernel
theorem d_Md_findShapes_60 : decode b_Md_findShapes 60 = .ok (.aload_n 0, 1) := by decide +kernel
theorem d_Md_findShapes_61 : decode b_Md_findShapes 61 = .ok (.getfield 54, 3) := by decide +kernel
theorem d_Md_findShapes_64 : decode b_Md_findShapes 64 = .ok (.iload_n 1, 1) := by decide +kernel
theorem d_Md_findShapes_65 : decode b_Md_findShapes 65 = .ok (.dup2, 1) := by decide +kernel
theorem d_Md_findShapes_66 : decode b_Md_findShapes 66 = .ok (.iaload, 1) := by decide +kernel
theorem d_Md_findShapes_67 : decode b_Md_findShapes 67 = .ok (.iconst 1, 1) := by decide +kernel
theorem d_Md_findShapes_68 : decode b_Md_findShapes 68 = .ok (.iadd, 1) := by decide +kernel
theorem d_Md_findShapes_69 : decode b_Md_findShapes 69 = .ok (.iastore, 1) := by decide +kernel
theorem d_Md_findShapes_70 : decode b_Md_findShapes 70 = .ok (.goto (-42), 3) := by decide +kernel
theorem d_Md_findShapes_73 : decode b_Md_findShapes 73 = .ok (.aload_n 0, 1) := by decide +kernel
theorem d_Md_findShapes_74 : decode b_Md_findShapes 74 = .ok (.getfield 54, 3) := by decide +kernel
theorem d_Md_findShapes_77 : decode b_Md_findShapes 77 = .ok (.iload_n 1, 1) := by decide +kernel
theorem d_Md_findShapes_78 : decode b_Md_findShapes 78 = .ok (.iaload, 1) := by decide +kernel
theorem d_Md_findShapes_79 : decode b_Md_findShapes 79 = .ok (.bipush 12, 2) := by decide +kernel
theorem d_Md_findShapes_81 : decode b_Md_findShapes 81 = .ok (.if_icmp .le 9, 3) := by decide +kernel
theorem d_Md_findShapes_84 : decode b_Md_findShapes 84 = .ok (.iinc 1 (-1), 3) := by decide +kernel
theorem d_Md_findShapes_87 : decode b_Md_findShapes 87 = .ok (.goto (-73), 3) := by decide +kernel
theorem d_Md_findShapes_90 : decode b_Md_findShapes 90 = .ok (.iload_n 1, 1) := by decide +kernel
theorem d_Md_findShapes_91 : decode b_Md_findShapes 91 = .ok (.aload_n 0, 1) := by decide +kernel
theorem d_Md_findShapes_92 : decode b_Md_findShapes 92 = .ok (.getfield 67, 3) := by decide +kernel
theorem d_Md_findShapes_95 : decode b_Md_findShapes 95 = .ok (.iconst 1, 1) := by decide +kernel
theorem d_Md_findShapes_96 : decode b_Md_findShapes 96 = .ok (.isub, 1) := by decide +kernel
theorem d_Md_findShapes_97 : decode b_Md_findShapes 97 = .ok (.if_icmp .ge 16, 3) := by decide +kernel
theorem d_Md_findShapes_100 : decode b_Md_findShapes 100 = .ok (.iinc 1 1, 3) := by decide +kernel
theorem d_Md_findShapes_103 : decode b_Md_findShapes 103 = .ok (.aload_n 0, 1) := by decide +kernel
theorem d_Md_findShapes_104 : decode b_Md_findShapes 104 = .ok (.getfield 54, 3) := by decide +kernel
theorem d_Md_findShapes_107 : decode b_Md_findShapes 107 = .ok (.iload_n 1, 1) := by decide +kernel
theorem d_Md_findShapes_108 : decode b_Md_findShapes 108 = .ok (.iconst 0, 1) := by decide +kernel
theorem d_Md_findShapes_109 : decode b_Md_findShapes 109 = .ok (.iastore, 1) := by decide +kernel
theorem d_Md_findShapes_110 : decode b_Md_findShapes 110 = .ok (.goto (-96), 3) := by decide +kernel
theorem d_Md_findShapes_113 : decode b_Md_findShapes 113 = .ok (.iconst 0, 1) := by decide +kernel
theorem d_Md_findShapes_114 : decode b_Md_findShapes 114 = .ok (.istore_n 2, 1) := by decide +kernel
theorem d_Md_findShapes_115 : decode b_Md_findShapes 115 = .ok (.iload_n 2, 1) := by decide +kernel
theorem d_Md_findShapes_116 : decode b_Md_findShapes 116 = .ok (.aload_n 0, 1) := by decide +kernel
theorem d_Md_findShapes_117 : decode b_Md_findShapes 117 = .ok (.getfield 67, 3) := by decide +kernel
theorem d_Md_findShapes_120 : decode b_Md_findShapes 120 = .ok (.if_icmp .ge 28, 3) := by decide +kernel
theorem d_Md_findShapes_123 : decode b_Md_findShapes 123 = .ok (.aload_n 0, 1) := by decide +kernel
theorem d_Md_findShapes_124 : decode b_Md_findShapes 124 = .ok (.getfield 51, 3) := by decide +kernel
theorem d_Md_findShapes_127 : decode b_Md_findShapes 127 = .ok (.iconst 5, 1) := by decide +kernel
theorem d_Md_findShapes_128 : decode b_Md_findShapes 128 = .ok (.aload_n 0, 1) := by decide +kernel
theorem d_Md_findShapes_129 : decode b_Md_findShapes 129 = .ok (.getfield 273, 3) := by decide +kernel
theorem d_Md_findShapes_132 : decode b_Md_findShapes 132 = .ok (.imul, 1) := by decide +kernel
theorem d_Md_findShapes_133 : decode b_Md_findShapes 133 = .ok (.iload_n 2, 1) := by decide +kernel
theorem d_Md_findShapes_134 : decode b_Md_findShapes 134 = .ok (.iadd, 1) := by decide +kernel
theorem d_Md_findShapes_135 : decode b_Md_findShapes 135 = .ok (.aload_n 0, 1) := by decide +kernel
theorem d_Md_findShapes_136 : decode b_Md_findShapes 136 = .ok (.getfield 54, 3) := by decide +kernel
theorem d_Md_findShapes_139 : decode b_Md_findShapes 139 = .ok (.iload_n 2, 1) := by decide +kernel
theorem d_Md_findShapes_140 : decode b_Md_findShapes 140 = .ok (.iaload, 1) := by decide +kernel
theorem d_Md_findShapes_141 : decode b_Md_findShapes 141 = .ok (.iastore, 1) := by decide +kernel
theorem d_Md_findShapes_142 : decode b_Md_findShapes 142 = .ok (.iinc 2 1, 3) := by decide +kernel
theorem d_Md_findShapes_145 : decode b_Md_findShapes 145 = .ok (.goto (-30), 3) := by decide +kernel
theorem d_Md_findShapes_148 : decode b_Md_findShapes 148 = .ok (.aload_n 0, 1) := by decide +kernel
theorem d_Md_findShapes_149 : decode b_Md_findShapes 149 = .ok (.dup, 1) := by decide +kernel
theorem d_Md_findShapes_150 : decode b_Md_findShapes 150 = .ok (.getfield 273, 3) := by decide +kernel
theorem d_Md_findShapes_153 : decode b_Md_findShapes 153 = .ok (.iconst 1, 1) := by decide +kernel
theorem d_Md_findShapes_154 : decode b_Md_findShapes 154 = .ok (.iadd, 1) := by decide +kernel
theorem d_Md_findShapes_155 : decode b_Md_findShapes 155 = .ok (.putfield 273, 3) := by decide +kernel
theorem d_Md_findShapes_158 : decode b_Md_findShapes 158 = .ok (.goto (-144), 3) := by decide +kernel
theorem d_Md_findShapes_161 : decode b_Md_findShapes 161 = .ok (.return_, 1) := by decide +kernel
theorem wf_Md_273 : Cond.fieldLink R_Md 273 R_Md "shapeCount" "I" ∈ gw_tbl := gw_tb (List.mem_of_getElem? (i := 1011) (by decide +kernel)) rfl
theorem wf_Md_54 : Cond.fieldLink R_Md 54 R_Md "chosen" "[I" ∈ gw_tbl := gw_tb (List.mem_of_getElem? (i := 1012) (by decide +kernel)) rfl
theorem wf_Md_51 : Cond.fieldLink R_Md 51 R_Md "shapes" "[I" ∈ gw_tbl := gw_tb (List.mem_of_getElem? (i := 1010) (by decide +kernel)) rfl
def f_Md_findShapes_115 (k14 : Int32 → Ob → Prop) (Q : Ob → Prop) : Nat → Int32 → Int32 → Ob → Prop
  | 0, _, _, _ => False
  | n + 1, x1, x2, o0 => ((gI o0 0) ≤ x2 → (k14 x1 (sI o0 40 ((gI o0 40) + (1 : Int32))))) ∧ (¬ (gI o0 0) ≤ x2 → ((vp_in x2 5) ∧ ((vp_in (((5 : Int32) * (gI o0 40)) + x2) 5120) ∧ ((f_Md_findShapes_115 k14 Q n) x1 (x2 + (1 : Int32)) (sA o0 39 (upd (gA o0 39) ((((5 : Int32) * (gI o0 40)) + x2).toNatClampNeg) ((gA o0 41) x2.toNatClampNeg)))))))
def f_Md_findShapes_73 (k14 : Int32 → Ob → Prop) (Q : Ob → Prop) (x1 : Int32) (o0 : Ob) : Prop := (vp_in x1 5) ∧ ((((gA o0 41) x1.toNatClampNeg) ≤ (12 : Int32) → ((((gI o0 0) - (1 : Int32)) ≤ x1 → ((∃ w, f_Md_findShapes_115 k14 Q w x1 (0 : Int32) o0))) ∧ (¬ ((gI o0 0) - (1 : Int32)) ≤ x1 → ((vp_in (x1 + (1 : Int32)) 5) ∧ (k14 (x1 + (1 : Int32)) (sA o0 41 (upd (gA o0 41) ((x1 + (1 : Int32)).toNatClampNeg) (0 : Int32)))))))) ∧ (¬ ((gA o0 41) x1.toNatClampNeg) ≤ (12 : Int32) → (k14 (x1 + (-1 : Int32)) o0)))
def f_Md_findShapes_28 (k14 : Int32 → Ob → Prop) (Q : Ob → Prop) : Nat → Int32 → Ob → Prop
  | 0, _, _ => False
  | n + 1, x1, o0 => (vp_in x1 5) ∧ (((13 : Int32) ≤ ((gA o0 41) x1.toNatClampNeg) → (f_Md_findShapes_73 k14 Q x1 o0)) ∧ (¬ (13 : Int32) ≤ ((gA o0 41) x1.toNatClampNeg) → ((vp_in ((30 : Int32) + x1) 6100) ∧ (∀ y11 : Int32, y11 = ((gA o0 1) (((30 : Int32) + x1).toNatClampNeg)) → ((vp_in x1 5) ∧ (∀ y13 : Int32, y13 = (y11 >>> (((gA o0 41) x1.toNatClampNeg) &&& 31)) → (((y13 &&& (1 : Int32)) = 0 → ((vp_in x1 5) ∧ ((vp_in x1 5) ∧ ((f_Md_findShapes_28 k14 Q n) x1 (sA o0 41 (upd (gA o0 41) x1.toNatClampNeg (((gA o0 41) x1.toNatClampNeg) + (1 : Int32)))))))) ∧ (¬ (y13 &&& (1 : Int32)) = 0 → (f_Md_findShapes_73 k14 Q x1 o0)))))))))
def f_Md_findShapes_14 (Q : Ob → Prop) : Nat → Int32 → Ob → Prop
  | 0, _, _ => False
  | n + 1, x1, o0 => (x1 < 0 → (Q o0)) ∧ (¬ x1 < 0 → ((vp_in x1 5) ∧ ((vp_in x1 5) ∧ ((∃ w, f_Md_findShapes_28 (f_Md_findShapes_14 Q n) Q w x1 (sA o0 41 (upd (gA o0 41) x1.toNatClampNeg (((gA o0 41) x1.toNatClampNeg) + (1 : Int32)))))))))
def f_Md_findShapes (o0 : Ob) (Q : Ob → Prop) : Prop := (∃ w, f_Md_findShapes_14 Q w (0 : Int32) (sA (sI o0 40 (0 : Int32)) 41 (upd (gA o0 41) 0 (0 : Int32))))
abbrev rm_Md_findShapes : Room := { frames := 0, cells := 0, slots := 0, locals := 0 }
set_option maxHeartbeats 4000000 in
set_option maxRecDepth 100000 in
theorem t_Md_findShapes_115 {p : Program} {l : Launch} {e : Env} {s : State} {m : MethodId} {args : Array Value} {below : List Frame} {meth : Method} {c : Code} {A : Nat → Prop} {G : Gl} {h0 : Nat} {q0 : Nat → Nat} (k14 : Int32 → Ob → Prop) (Q : Ob → Prop) (C : Cx p s m args meth c R_Md b_Md_findShapes 3 none G A)
    (hk14 : ∀ (x1 : Int32) (o0 : Ob) (ls : Array Slot) (H : Heap) (locs : List Loc), lv_has ls 3 [(0, .ref h0), (1, .int x1)] → va_P G.1 CL (cw_Md G h0 q0 o0) H → va_D A (cw_Md G h0 q0 o0) → va_S A s.heap H locs → k14 x1 o0 → W p l e rm_Md_findShapes s m args below meth c H locs 0 0 (MQ below (va_Qv (fun (u : Ob) => Q u) (fun (u : Ob) t => BW G A (cw_Md G h0 q0 u) t) A) args s 0 0 A) (F0 m 14 ls [])) :
    ∀ (n : Nat) (x1 : Int32) (x2 : Int32) (o0 : Ob) (ls : Array Slot) (H : Heap) (locs : List Loc), lv_has ls 3 [(0, .ref h0), (1, .int x1), (2, .int x2)] → va_P G.1 CL (cw_Md G h0 q0 o0) H → va_D A (cw_Md G h0 q0 o0) → va_S A s.heap H locs → f_Md_findShapes_115 k14 Q n x1 x2 o0 → W p l e rm_Md_findShapes s m args below meth c H locs 0 0 (MQ below (va_Qv (fun (u : Ob) => Q u) (fun (u : Ob) t => BW G A (cw_Md G h0 q0 u) t) A) args s 0 0 A) (F0 m 115 ls []) := by
  obtain ⟨hx, hb, hml, hown, hr, hts, hK, hA, hlocks, hE⟩ := id C
  intro n
  induction n with
  | zero => intro x1 x2 o0 ls H locs hl hP hD hS h; exact absurd h id
  | succ n ih =>
    intro x1 x2 o0 ls H locs hl hP hD hS h
    have hP : va_P G.1 CL [(h0, .inr (11, [.int (gI o0 0), .ref (q0 1), .ref (q0 2), .ref (q0 3), .ref (q0 4), .ref (q0 5), .ref (q0 6), .int (gI o0 7), .int (gI o0 8), .int (gI o0 9), .int (gI o0 10), .int (gI o0 11), .int (gI o0 12), .int (gI o0 13), .int (gI o0 14), .long (gL o0 15), .int (gI o0 16), .int (gI o0 17), .int (gI o0 18), .int (gI o0 19), .int (gI o0 20), .int (gI o0 21), .int (gI o0 22), .int (gI o0 23), .int (gI o0 24), .int (gI o0 25), .int (gI o0 26), .int (gI o0 27), .ref (q0 28), .long (gL o0 29), .int (gI o0 30), .ref (q0 31), .ref (q0 32), .ref (q0 33), .int (gI o0 34), .int (gI o0 35), .int (gI o0 36), .int (gI o0 37), .ref (q0 38), .ref (q0 39), .int (gI o0 40), .ref (q0 41), .ref (q0 42), .ref (q0 43), .ref (q0 44)])), kI G (q0 1) 6100 (gA o0 1), kI G (q0 2) 6100 (gA o0 2), kJ G (q0 3) 2016 (gB o0 3), kJ G (q0 4) 2016 (gB o0 4), kI G (q0 5) 300 (gA o0 5), kI G (q0 6) 400 (gA o0 6), kJ G (q0 28) 10 (gB o0 28), kI G (q0 31) 969 (gA o0 31), kI G (q0 32) 969 (gA o0 32), kI G (q0 33) 969 (gA o0 33), kI G (q0 38) 5 (gA o0 38), kI G (q0 39) 5120 (gA o0 39), kI G (q0 41) 5 (gA o0 41), kZ G (q0 42) 1024 (gA o0 42), kI G (q0 43) 8192 (gA o0 43), kI G (q0 44) 8192 (gA o0 44)] H := hP
    have hD : va_D A [(h0, .inr (11, [.int (gI o0 0), .ref (q0 1), .ref (q0 2), .ref (q0 3), .ref (q0 4), .ref (q0 5), .ref (q0 6), .int (gI o0 7), .int (gI o0 8), .int (gI o0 9), .int (gI o0 10), .int (gI o0 11), .int (gI o0 12), .int (gI o0 13), .int (gI o0 14), .long (gL o0 15), .int (gI o0 16), .int (gI o0 17), .int (gI o0 18), .int (gI o0 19), .int (gI o0 20), .int (gI o0 21), .int (gI o0 22), .int (gI o0 23), .int (gI o0 24), .int (gI o0 25), .int (gI o0 26), .int (gI o0 27), .ref (q0 28), .long (gL o0 29), .int (gI o0 30), .ref (q0 31), .ref (q0 32), .ref (q0 33), .int (gI o0 34), .int (gI o0 35), .int (gI o0 36), .int (gI o0 37), .ref (q0 38), .ref (q0 39), .int (gI o0 40), .ref (q0 41), .ref (q0 42), .ref (q0 43), .ref (q0 44)])), kI G (q0 1) 6100 (gA o0 1), kI G (q0 2) 6100 (gA o0 2), kJ G (q0 3) 2016 (gB o0 3), kJ G (q0 4) 2016 (gB o0 4), kI G (q0 5) 300 (gA o0 5), kI G (q0 6) 400 (gA o0 6), kJ G (q0 28) 10 (gB o0 28), kI G (q0 31) 969 (gA o0 31), kI G (q0 32) 969 (gA o0 32), kI G (q0 33) 969 (gA o0 33), kI G (q0 38) 5 (gA o0 38), kI G (q0 39) 5120 (gA o0 39), kI G (q0 41) 5 (gA o0 41), kZ G (q0 42) 1024 (gA o0 42), kI G (q0 43) 8192 (gA o0 43), kI G (q0 44) 8192 (gA o0 44)] := hD
    unfold f_Md_findShapes_115 at h
    refine lv_iload_n hx hb d_Md_findShapes_115 rfl (lv_at hl 2 rfl) ?_
    refine lv_aload_n hx hb d_Md_findShapes_116 rfl (lv_at hl 0 rfl) ?_
    refine va_get (D := G.1) (ci := 11) (v := .int (gI o0 0)) (C := R_Md) (T := T_Md) (N := 45) hx hb hts i_Md hown hK hP 0 rfl rfl 0 (by decide) (hts _ wf_Md_67) (fun _ h9 => h9) rfl d_Md_findShapes_117 ?_
    refine lv_icmp_ge (tgt := 148) hx hb d_Md_findShapes_120 (by decide) (fun c1 => ?_) (fun c1 => ?_)
    · have h := h.1 c1
      refine lv_aload_n hx hb d_Md_findShapes_148 rfl (lv_at hl 0 rfl) ?_
      refine lv_dup hx hb d_Md_findShapes_149 rfl ?_
      refine va_get (D := G.1) (ci := 11) (v := .int (gI o0 40)) (C := R_Md) (T := T_Md) (N := 45) hx hb hts i_Md hown hK hP 0 rfl rfl 40 (by decide) (hts _ wf_Md_273) (fun _ h9 => h9) rfl d_Md_findShapes_150 ?_
      refine lv_iconst (v := (1 : Int32)) hx hb d_Md_findShapes_153 (by decide) ?_
      refine lv_iadd hx hb d_Md_findShapes_154 ?_
      refine va_put (D := G.1) (ci := 11) (v := .int ((gI o0 40) + (1 : Int32))) (ty := .int) (C := R_Md) (T := T_Md) (N := 45) hx hb hts i_Md ty_Md ty_Md_ok nm_Md hown hK hP hD hS 0 rfl rfl 40 (by decide) (hts _ wf_Md_273) (fun _ h9 => h9) rfl (ty_Md_ok 40 (by decide)) rfl rfl (Nat.le_of_ble_eq_true rfl) d_Md_findShapes_155 (fun H locs hP hD hS => ?_)
      have hP : va_P G.1 CL [(h0, .inr (11, [.int (gI o0 0), .ref (q0 1), .ref (q0 2), .ref (q0 3), .ref (q0 4), .ref (q0 5), .ref (q0 6), .int (gI o0 7), .int (gI o0 8), .int (gI o0 9), .int (gI o0 10), .int (gI o0 11), .int (gI o0 12), .int (gI o0 13), .int (gI o0 14), .long (gL o0 15), .int (gI o0 16), .int (gI o0 17), .int (gI o0 18), .int (gI o0 19), .int (gI o0 20), .int (gI o0 21), .int (gI o0 22), .int (gI o0 23), .int (gI o0 24), .int (gI o0 25), .int (gI o0 26), .int (gI o0 27), .ref (q0 28), .long (gL o0 29), .int (gI o0 30), .ref (q0 31), .ref (q0 32), .ref (q0 33), .int (gI o0 34), .int (gI o0 35), .int (gI o0 36), .int (gI o0 37), .ref (q0 38), .ref (q0 39), .int ((gI o0 40) + (1 : Int32)), .ref (q0 41), .ref (q0 42), .ref (q0 43), .ref (q0 44)])), kI G (q0 1) 6100 (gA o0 1), kI G (q0 2) 6100 (gA o0 2), kJ G (q0 3) 2016 (gB o0 3), kJ G (q0 4) 2016 (gB o0 4), kI G (q0 5) 300 (gA o0 5), kI G (q0 6) 400 (gA o0 6), kJ G (q0 28) 10 (gB o0 28), kI G (q0 31) 969 (gA o0 31), kI G (q0 32) 969 (gA o0 32), kI G (q0 33) 969 (gA o0 33), kI G (q0 38) 5 (gA o0 38), kI G (q0 39) 5120 (gA o0 39), kI G (q0 41) 5 (gA o0 41), kZ G (q0 42) 1024 (gA o0 42), kI G (q0 43) 8192 (gA o0 43), kI G (q0 44) 8192 (gA o0 44)] H := hP
      have hD : va_D A [(h0, .inr (11, [.int (gI o0 0), .ref (q0 1), .ref (q0 2), .ref (q0 3), .ref (q0 4), .ref (q0 5), .ref (q0 6), .int (gI o0 7), .int (gI o0 8), .int (gI o0 9), .int (gI o0 10), .int (gI o0 11), .int (gI o0 12), .int (gI o0 13), .int (gI o0 14), .long (gL o0 15), .int (gI o0 16), .int (gI o0 17), .int (gI o0 18), .int (gI o0 19), .int (gI o0 20), .int (gI o0 21), .int (gI o0 22), .int (gI o0 23), .int (gI o0 24), .int (gI o0 25), .int (gI o0 26), .int (gI o0 27), .ref (q0 28), .long (gL o0 29), .int (gI o0 30), .ref (q0 31), .ref (q0 32), .ref (q0 33), .int (gI o0 34), .int (gI o0 35), .int (gI o0 36), .int (gI o0 37), .ref (q0 38), .ref (q0 39), .int ((gI o0 40) + (1 : Int32)), .ref (q0 41), .ref (q0 42), .ref (q0 43), .ref (q0 44)])), kI G (q0 1) 6100 (gA o0 1), kI G (q0 2) 6100 (gA o0 2), kJ G (q0 3) 2016 (gB o0 3), kJ G (q0 4) 2016 (gB o0 4), kI G (q0 5) 300 (gA o0 5), kI G (q0 6) 400 (gA o0 6), kJ G (q0 28) 10 (gB o0 28), kI G (q0 31) 969 (gA o0 31), kI G (q0 32) 969 (gA o0 32), kI G (q0 33) 969 (gA o0 33), kI G (q0 38) 5 (gA o0 38), kI G (q0 39) 5120 (gA o0 39), kI G (q0 41) 5 (gA o0 41), kZ G (q0 42) 1024 (gA o0 42), kI G (q0 43) 8192 (gA o0 43), kI G (q0 44) 8192 (gA o0 44)] := hD
      refine lv_goto (tgt := 14) hx hb d_Md_findShapes_158 (by decide) ?_
      have hl := lv_sub (l' := [(0, .ref h0), (1, .int x1)]) hl [0, 1] rfl
      have hP : va_P G.1 CL (cw_Md G h0 q0 (sI o0 40 ((gI o0 40) + (1 : Int32)))) H := hP
      have hD : va_D A (cw_Md G h0 q0 (sI o0 40 ((gI o0 40) + (1 : Int32)))) := hD
      exact hk14 x1 (sI o0 40 ((gI o0 40) + (1 : Int32))) ls H locs hl hP hD hS h
    · have h := h.2 c1
      refine lv_aload_n hx hb d_Md_findShapes_123 rfl (lv_at hl 0 rfl) ?_
      refine va_get (D := G.1) (ci := 11) (v := .ref (q0 39)) (C := R_Md) (T := T_Md) (N := 45) hx hb hts i_Md hown hK hP 0 rfl rfl 39 (by decide) (hts _ wf_Md_51) (fun _ h9 => h9) rfl d_Md_findShapes_124 ?_
      refine lv_iconst (v := (5 : Int32)) hx hb d_Md_findShapes_127 (by decide) ?_
      refine lv_aload_n hx hb d_Md_findShapes_128 rfl (lv_at hl 0 rfl) ?_
      refine va_get (D := G.1) (ci := 11) (v := .int (gI o0 40)) (C := R_Md) (T := T_Md) (N := 45) hx hb hts i_Md hown hK hP 0 rfl rfl 40 (by decide) (hts _ wf_Md_273) (fun _ h9 => h9) rfl d_Md_findShapes_129 ?_
      refine lv_imul hx hb d_Md_findShapes_132 ?_
      refine lv_iload_n hx hb d_Md_findShapes_133 rfl (lv_at hl 2 rfl) ?_
      refine lv_iadd hx hb d_Md_findShapes_134 ?_
      refine lv_aload_n hx hb d_Md_findShapes_135 rfl (lv_at hl 0 rfl) ?_
      refine va_get (D := G.1) (ci := 11) (v := .ref (q0 41)) (C := R_Md) (T := T_Md) (N := 45) hx hb hts i_Md hown hK hP 0 rfl rfl 41 (by decide) (hts _ wf_Md_54) (fun _ h9 => h9) rfl d_Md_findShapes_136 ?_
      refine lv_iload_n hx hb d_Md_findShapes_139 rfl (lv_at hl 2 rfl) ?_
      have g2 := h.1
      have h := h.2
      refine xa_iald hx hb hK hP 13 0 rfl rfl g2 (k := x2.toNatClampNeg) rfl d_Md_findShapes_140 ?_
      have g3 := h.1
      have h := h.2
      refine xa_iast hx hb hK hP hD hS 12 0 rfl rfl g3 (k := (((5 : Int32) * (gI o0 40)) + x2).toNatClampNeg) rfl d_Md_findShapes_141 (fun H locs hP hD hS => ?_)
      have hP : va_P G.1 CL [(h0, .inr (11, [.int (gI o0 0), .ref (q0 1), .ref (q0 2), .ref (q0 3), .ref (q0 4), .ref (q0 5), .ref (q0 6), .int (gI o0 7), .int (gI o0 8), .int (gI o0 9), .int (gI o0 10), .int (gI o0 11), .int (gI o0 12), .int (gI o0 13), .int (gI o0 14), .long (gL o0 15), .int (gI o0 16), .int (gI o0 17), .int (gI o0 18), .int (gI o0 19), .int (gI o0 20), .int (gI o0 21), .int (gI o0 22), .int (gI o0 23), .int (gI o0 24), .int (gI o0 25), .int (gI o0 26), .int (gI o0 27), .ref (q0 28), .long (gL o0 29), .int (gI o0 30), .ref (q0 31), .ref (q0 32), .ref (q0 33), .int (gI o0 34), .int (gI o0 35), .int (gI o0 36), .int (gI o0 37), .ref (q0 38), .ref (q0 39), .int (gI o0 40), .ref (q0 41), .ref (q0 42), .ref (q0 43), .ref (q0 44)])), kI G (q0 1) 6100 (gA o0 1), kI G (q0 2) 6100 (gA o0 2), kJ G (q0 3) 2016 (gB o0 3), kJ G (q0 4) 2016 (gB o0 4), kI G (q0 5) 300 (gA o0 5), kI G (q0 6) 400 (gA o0 6), kJ G (q0 28) 10 (gB o0 28), kI G (q0 31) 969 (gA o0 31), kI G (q0 32) 969 (gA o0 32), kI G (q0 33) 969 (gA o0 33), kI G (q0 38) 5 (gA o0 38), kI G (q0 39) 5120 (upd (gA o0 39) ((((5 : Int32) * (gI o0 40)) + x2).toNatClampNeg) ((gA o0 41) x2.toNatClampNeg)), kI G (q0 41) 5 (gA o0 41), kZ G (q0 42) 1024 (gA o0 42), kI G (q0 43) 8192 (gA o0 43), kI G (q0 44) 8192 (gA o0 44)] H := hP
      have hD : va_D A [(h0, .inr (11, [.int (gI o0 0), .ref (q0 1), .ref (q0 2), .ref (q0 3), .ref (q0 4), .ref (q0 5), .ref (q0 6), .int (gI o0 7), .int (gI o0 8), .int (gI o0 9), .int (gI o0 10), .int (gI o0 11), .int (gI o0 12), .int (gI o0 13), .int (gI o0 14), .long (gL o0 15), .int (gI o0 16), .int (gI o0 17), .int (gI o0 18), .int (gI o0 19), .int (gI o0 20), .int (gI o0 21), .int (gI o0 22), .int (gI o0 23), .int (gI o0 24), .int (gI o0 25), .int (gI o0 26), .int (gI o0 27), .ref (q0 28), .long (gL o0 29), .int (gI o0 30), .ref (q0 31), .ref (q0 32), .ref (q0 33), .int (gI o0 34), .int (gI o0 35), .int (gI o0 36), .int (gI o0 37), .ref (q0 38), .ref (q0 39), .int (gI o0 40), .ref (q0 41), .ref (q0 42), .ref (q0 43), .ref (q0 44)])), kI G (q0 1) 6100 (gA o0 1), kI G (q0 2) 6100 (gA o0 2), kJ G (q0 3) 2016 (gB o0 3), kJ G (q0 4) 2016 (gB o0 4), kI G (q0 5) 300 (gA o0 5), kI G (q0 6) 400 (gA o0 6), kJ G (q0 28) 10 (gB o0 28), kI G (q0 31) 969 (gA o0 31), kI G (q0 32) 969 (gA o0 32), kI G (q0 33) 969 (gA o0 33), kI G (q0 38) 5 (gA o0 38), kI G (q0 39) 5120 (upd (gA o0 39) ((((5 : Int32) * (gI o0 40)) + x2).toNatClampNeg) ((gA o0 41) x2.toNatClampNeg)), kI G (q0 41) 5 (gA o0 41), kZ G (q0 42) 1024 (gA o0 42), kI G (q0 43) 8192 (gA o0 43), kI G (q0 44) 8192 (gA o0 44)] := hD
      refine lv_iinc (v := (x2 + (1 : Int32))) (lv' := [(2, .int (x2 + (1 : Int32))), (0, .ref h0), (1, .int x1)]) hx hb d_Md_findShapes_142 hl (k := 2) rfl rfl (by decide) rfl (fun ls hl => ?_)
      refine lv_goto (tgt := 115) hx hb d_Md_findShapes_145 (by decide) ?_
      have hl := lv_sub (l' := [(0, .ref h0), (1, .int x1), (2, .int (x2 + (1 : Int32)))]) hl [1, 2, 0] rfl
      have hP : va_P G.1 CL (cw_Md G h0 q0 (sA o0 39 (upd (gA o0 39) ((((5 : Int32) * (gI o0 40)) + x2).toNatClampNeg) ((gA o0 41) x2.toNatClampNeg)))) H := hP
      have hD : va_D A (cw_Md G h0 q0 (sA o0 39 (upd (gA o0 39) ((((5 : Int32) * (gI o0 40)) + x2).toNatClampNeg) ((gA o0 41) x2.toNatClampNeg)))) := hD
      exact ih x1 (x2 + (1 : Int32)) (sA o0 39 (upd (gA o0 39) ((((5 : Int32) * (gI o0 40)) + x2).toNatClampNeg) ((gA o0 41) x2.toNatClampNeg))) ls H locs hl hP hD hS h
set_option maxHeartbeats 4000000 in
set_option maxRecDepth 100000 in
theorem t_Md_findShapes_73 {p : Program} {l : Launch} {e : Env} {s : State} {m : MethodId} {args : Array Value} {below : List Frame} {meth : Method} {c : Code} {A : Nat → Prop} {G : Gl} {h0 : Nat} {q0 : Nat → Nat} (k14 : Int32 → Ob → Prop) (Q : Ob → Prop) (C : Cx p s m args meth c R_Md b_Md_findShapes 3 none G A)
    (hk14 : ∀ (x1 : Int32) (o0 : Ob) (ls : Array Slot) (H : Heap) (locs : List Loc), lv_has ls 3 [(0, .ref h0), (1, .int x1)] → va_P G.1 CL (cw_Md G h0 q0 o0) H → va_D A (cw_Md G h0 q0 o0) → va_S A s.heap H locs → k14 x1 o0 → W p l e rm_Md_findShapes s m args below meth c H locs 0 0 (MQ below (va_Qv (fun (u : Ob) => Q u) (fun (u : Ob) t => BW G A (cw_Md G h0 q0 u) t) A) args s 0 0 A) (F0 m 14 ls [])) :
    ∀ (x1 : Int32) (o0 : Ob) (ls : Array Slot) (H : Heap) (locs : List Loc), lv_has ls 3 [(0, .ref h0), (1, .int x1)] → va_P G.1 CL (cw_Md G h0 q0 o0) H → va_D A (cw_Md G h0 q0 o0) → va_S A s.heap H locs → f_Md_findShapes_73 k14 Q x1 o0 → W p l e rm_Md_findShapes s m args below meth c H locs 0 0 (MQ below (va_Qv (fun (u : Ob) => Q u) (fun (u : Ob) t => BW G A (cw_Md G h0 q0 u) t) A) args s 0 0 A) (F0 m 73 ls []) := by
  obtain ⟨hx, hb, hml, hown, hr, hts, hK, hA, hlocks, hE⟩ := id C
  intro x1 o0 ls H locs hl hP hD hS h
  have hP : va_P G.1 CL [(h0, .inr (11, [.int (gI o0 0), .ref (q0 1), .ref (q0 2), .ref (q0 3), .ref (q0 4), .ref (q0 5), .ref (q0 6), .int (gI o0 7), .int (gI o0 8), .int (gI o0 9), .int (gI o0 10), .int (gI o0 11), .int (gI o0 12), .int (gI o0 13), .int (gI o0 14), .long (gL o0 15), .int (gI o0 16), .int (gI o0 17), .int (gI o0 18), .int (gI o0 19), .int (gI o0 20), .int (gI o0 21), .int (gI o0 22), .int (gI o0 23), .int (gI o0 24), .int (gI o0 25), .int (gI o0 26), .int (gI o0 27), .ref (q0 28), .long (gL o0 29), .int (gI o0 30), .ref (q0 31), .ref (q0 32), .ref (q0 33), .int (gI o0 34), .int (gI o0 35), .int (gI o0 36), .int (gI o0 37), .ref (q0 38), .ref (q0 39), .int (gI o0 40), .ref (q0 41), .ref (q0 42), .ref (q0 43), .ref (q0 44)])), kI G (q0 1) 6100 (gA o0 1), kI G (q0 2) 6100 (gA o0 2), kJ G (q0 3) 2016 (gB o0 3), kJ G (q0 4) 2016 (gB o0 4), kI G (q0 5) 300 (gA o0 5), kI G (q0 6) 400 (gA o0 6), kJ G (q0 28) 10 (gB o0 28), kI G (q0 31) 969 (gA o0 31), kI G (q0 32) 969 (gA o0 32), kI G (q0 33) 969 (gA o0 33), kI G (q0 38) 5 (gA o0 38), kI G (q0 39) 5120 (gA o0 39), kI G (q0 41) 5 (gA o0 41), kZ G (q0 42) 1024 (gA o0 42), kI G (q0 43) 8192 (gA o0 43), kI G (q0 44) 8192 (gA o0 44)] H := hP
  have hD : va_D A [(h0, .inr (11, [.int (gI o0 0), .ref (q0 1), .ref (q0 2), .ref (q0 3), .ref (q0 4), .ref (q0 5), .ref (q0 6), .int (gI o0 7), .int (gI o0 8), .int (gI o0 9), .int (gI o0 10), .int (gI o0 11), .int (gI o0 12), .int (gI o0 13), .int (gI o0 14), .long (gL o0 15), .int (gI o0 16), .int (gI o0 17), .int (gI o0 18), .int (gI o0 19), .int (gI o0 20), .int (gI o0 21), .int (gI o0 22), .int (gI o0 23), .int (gI o0 24), .int (gI o0 25), .int (gI o0 26), .int (gI o0 27), .ref (q0 28), .long (gL o0 29), .int (gI o0 30), .ref (q0 31), .ref (q0 32), .ref (q0 33), .int (gI o0 34), .int (gI o0 35), .int (gI o0 36), .int (gI o0 37), .ref (q0 38), .ref (q0 39), .int (gI o0 40), .ref (q0 41), .ref (q0 42), .ref (q0 43), .ref (q0 44)])), kI G (q0 1) 6100 (gA o0 1), kI G (q0 2) 6100 (gA o0 2), kJ G (q0 3) 2016 (gB o0 3), kJ G (q0 4) 2016 (gB o0 4), kI G (q0 5) 300 (gA o0 5), kI G (q0 6) 400 (gA o0 6), kJ G (q0 28) 10 (gB o0 28), kI G (q0 31) 969 (gA o0 31), kI G (q0 32) 969 (gA o0 32), kI G (q0 33) 969 (gA o0 33), kI G (q0 38) 5 (gA o0 38), kI G (q0 39) 5120 (gA o0 39), kI G (q0 41) 5 (gA o0 41), kZ G (q0 42) 1024 (gA o0 42), kI G (q0 43) 8192 (gA o0 43), kI G (q0 44) 8192 (gA o0 44)] := hD
  unfold f_Md_findShapes_73 at h
  refine lv_aload_n hx hb d_Md_findShapes_73 rfl (lv_at hl 0 rfl) ?_
  refine va_get (D := G.1) (ci := 11) (v := .ref (q0 41)) (C := R_Md) (T := T_Md) (N := 45) hx hb hts i_Md hown hK hP 0 rfl rfl 41 (by decide) (hts _ wf_Md_54) (fun _ h9 => h9) rfl d_Md_findShapes_74 ?_
  refine lv_iload_n hx hb d_Md_findShapes_77 rfl (lv_at hl 1 rfl) ?_
  have g4 := h.1
  have h := h.2
  refine xa_iald hx hb hK hP 13 0 rfl rfl g4 (k := x1.toNatClampNeg) rfl d_Md_findShapes_78 ?_
  refine lv_bipush (v := (12 : Int32)) hx hb d_Md_findShapes_79 (by decide) ?_
  refine lv_icmp_le (tgt := 90) hx hb d_Md_findShapes_81 (by decide) (fun c5 => ?_) (fun c5 => ?_)
  · have h := h.1 c5
    refine lv_iload_n hx hb d_Md_findShapes_90 rfl (lv_at hl 1 rfl) ?_
    refine lv_aload_n hx hb d_Md_findShapes_91 rfl (lv_at hl 0 rfl) ?_
    refine va_get (D := G.1) (ci := 11) (v := .int (gI o0 0)) (C := R_Md) (T := T_Md) (N := 45) hx hb hts i_Md hown hK hP 0 rfl rfl 0 (by decide) (hts _ wf_Md_67) (fun _ h9 => h9) rfl d_Md_findShapes_92 ?_
    refine lv_iconst (v := (1 : Int32)) hx hb d_Md_findShapes_95 (by decide) ?_
    refine lv_isub hx hb d_Md_findShapes_96 ?_
    refine lv_icmp_ge (tgt := 113) hx hb d_Md_findShapes_97 (by decide) (fun c6 => ?_) (fun c6 => ?_)
    · have h := h.1 c6
      refine lv_iconst (v := (0 : Int32)) hx hb d_Md_findShapes_113 (by decide) ?_
      refine lv_istore_n (lv' := [(2, .int (0 : Int32)), (0, .ref h0), (1, .int x1)]) hx hb d_Md_findShapes_114 rfl hl (by decide) rfl (fun ls hl => ?_)
      have hl := lv_sub (l' := [(0, .ref h0), (1, .int x1), (2, .int (0 : Int32))]) hl [1, 2, 0] rfl
      have hP : va_P G.1 CL (cw_Md G h0 q0 o0) H := hP
      have hD : va_D A (cw_Md G h0 q0 o0) := hD
      obtain ⟨w, h⟩ := h
      exact t_Md_findShapes_115 k14 Q C hk14 w x1 (0 : Int32) o0 ls _ locs hl hP hD hS h
    · have h := h.2 c6
      refine lv_iinc (v := (x1 + (1 : Int32))) (lv' := [(1, .int (x1 + (1 : Int32))), (0, .ref h0)]) hx hb d_Md_findShapes_100 hl (k := 1) rfl rfl (by decide) rfl (fun ls hl => ?_)
      refine lv_aload_n hx hb d_Md_findShapes_103 rfl (lv_at hl 1 rfl) ?_
      refine va_get (D := G.1) (ci := 11) (v := .ref (q0 41)) (C := R_Md) (T := T_Md) (N := 45) hx hb hts i_Md hown hK hP 0 rfl rfl 41 (by decide) (hts _ wf_Md_54) (fun _ h9 => h9) rfl d_Md_findShapes_104 ?_
      refine lv_iload_n hx hb d_Md_findShapes_107 rfl (lv_at hl 0 rfl) ?_
      refine lv_iconst (v := (0 : Int32)) hx hb d_Md_findShapes_108 (by decide) ?_
      have g7 := h.1
      have h := h.2
      refine xa_iast hx hb hK hP hD hS 13 0 rfl rfl g7 (k := (x1 + (1 : Int32)).toNatClampNeg) rfl d_Md_findShapes_109 (fun H locs hP hD hS => ?_)
      have hP : va_P G.1 CL [(h0, .inr (11, [.int (gI o0 0), .ref (q0 1), .ref (q0 2), .ref (q0 3), .ref (q0 4), .ref (q0 5), .ref (q0 6), .int (gI o0 7), .int (gI o0 8), .int (gI o0 9), .int (gI o0 10), .int (gI o0 11), .int (gI o0 12), .int (gI o0 13), .int (gI o0 14), .long (gL o0 15), .int (gI o0 16), .int (gI o0 17), .int (gI o0 18), .int (gI o0 19), .int (gI o0 20), .int (gI o0 21), .int (gI o0 22), .int (gI o0 23), .int (gI o0 24), .int (gI o0 25), .int (gI o0 26), .int (gI o0 27), .ref (q0 28), .long (gL o0 29), .int (gI o0 30), .ref (q0 31), .ref (q0 32), .ref (q0 33), .int (gI o0 34), .int (gI o0 35), .int (gI o0 36), .int (gI o0 37), .ref (q0 38), .ref (q0 39), .int (gI o0 40), .ref (q0 41), .ref (q0 42), .ref (q0 43), .ref (q0 44)])), kI G (q0 1) 6100 (gA o0 1), kI G (q0 2) 6100 (gA o0 2), kJ G (q0 3) 2016 (gB o0 3), kJ G (q0 4) 2016 (gB o0 4), kI G (q0 5) 300 (gA o0 5), kI G (q0 6) 400 (gA o0 6), kJ G (q0 28) 10 (gB o0 28), kI G (q0 31) 969 (gA o0 31), kI G (q0 32) 969 (gA o0 32), kI G (q0 33) 969 (gA o0 33), kI G (q0 38) 5 (gA o0 38), kI G (q0 39) 5120 (gA o0 39), kI G (q0 41) 5 (upd (gA o0 41) ((x1 + (1 : Int32)).toNatClampNeg) (0 : Int32)), kZ G (q0 42) 1024 (gA o0 42), kI G (q0 43) 8192 (gA o0 43), kI G (q0 44) 8192 (gA o0 44)] H := hP
      have hD : va_D A [(h0, .inr (11, [.int (gI o0 0), .ref (q0 1), .ref (q0 2), .ref (q0 3), .ref (q0 4), .ref (q0 5), .ref (q0 6), .int (gI o0 7), .int (gI o0 8), .int (gI o0 9), .int (gI o0 10), .int (gI o0 11), .int (gI o0 12), .int (gI o0 13), .int (gI o0 14), .long (gL o0 15), .int (gI o0 16), .int (gI o0 17), .int (gI o0 18), .int (gI o0 19), .int (gI o0 20), .int (gI o0 21), .int (gI o0 22), .int (gI o0 23), .int (gI o0 24), .int (gI o0 25), .int (gI o0 26), .int (gI o0 27), .ref (q0 28), .long (gL o0 29), .int (gI o0 30), .ref (q0 31), .ref (q0 32), .ref (q0 33), .int (gI o0 34), .int (gI o0 35), .int (gI o0 36), .int (gI o0 37), .ref (q0 38), .ref (q0 39), .int (gI o0 40), .ref (q0 41), .ref (q0 42), .ref (q0 43), .ref (q0 44)])), kI G (q0 1) 6100 (gA o0 1), kI G (q0 2) 6100 (gA o0 2), kJ G (q0 3) 2016 (gB o0 3), kJ G (q0 4) 2016 (gB o0 4), kI G (q0 5) 300 (gA o0 5), kI G (q0 6) 400 (gA o0 6), kJ G (q0 28) 10 (gB o0 28), kI G (q0 31) 969 (gA o0 31), kI G (q0 32) 969 (gA o0 32), kI G (q0 33) 969 (gA o0 33), kI G (q0 38) 5 (gA o0 38), kI G (q0 39) 5120 (gA o0 39), kI G (q0 41) 5 (upd (gA o0 41) ((x1 + (1 : Int32)).toNatClampNeg) (0 : Int32)), kZ G (q0 42) 1024 (gA o0 42), kI G (q0 43) 8192 (gA o0 43), kI G (q0 44) 8192 (gA o0 44)] := hD
      refine lv_goto (tgt := 14) hx hb d_Md_findShapes_110 (by decide) ?_
      have hl := lv_sub (l' := [(0, .ref h0), (1, .int (x1 + (1 : Int32)))]) hl [1, 0] rfl
      have hP : va_P G.1 CL (cw_Md G h0 q0 (sA o0 41 (upd (gA o0 41) ((x1 + (1 : Int32)).toNatClampNeg) (0 : Int32)))) H := hP
      have hD : va_D A (cw_Md G h0 q0 (sA o0 41 (upd (gA o0 41) ((x1 + (1 : Int32)).toNatClampNeg) (0 : Int32)))) := hD
      exact hk14 (x1 + (1 : Int32)) (sA o0 41 (upd (gA o0 41) ((x1 + (1 : Int32)).toNatClampNeg) (0 : Int32))) ls H locs hl hP hD hS h
  · have h := h.2 c5
    refine lv_iinc (v := (x1 + (-1 : Int32))) (lv' := [(1, .int (x1 + (-1 : Int32))), (0, .ref h0)]) hx hb d_Md_findShapes_84 hl (k := 1) rfl rfl (by decide) rfl (fun ls hl => ?_)
    refine lv_goto (tgt := 14) hx hb d_Md_findShapes_87 (by decide) ?_
    have hl := lv_sub (l' := [(0, .ref h0), (1, .int (x1 + (-1 : Int32)))]) hl [1, 0] rfl
    have hP : va_P G.1 CL (cw_Md G h0 q0 o0) H := hP
    have hD : va_D A (cw_Md G h0 q0 o0) := hD
    exact hk14 (x1 + (-1 : Int32)) o0 ls H locs hl hP hD hS h
set_option maxHeartbeats 4000000 in
set_option maxRecDepth 100000 in
theorem t_Md_findShapes_28 {p : Program} {l : Launch} {e : Env} {s : State} {m : MethodId} {args : Array Value} {below : List Frame} {meth : Method} {c : Code} {A : Nat → Prop} {G : Gl} {h0 : Nat} {q0 : Nat → Nat} (k14 : Int32 → Ob → Prop) (Q : Ob → Prop) (C : Cx p s m args meth c R_Md b_Md_findShapes 3 none G A)
    (hk14 : ∀ (x1 : Int32) (o0 : Ob) (ls : Array Slot) (H : Heap) (locs : List Loc), lv_has ls 3 [(0, .ref h0), (1, .int x1)] → va_P G.1 CL (cw_Md G h0 q0 o0) H → va_D A (cw_Md G h0 q0 o0) → va_S A s.heap H locs → k14 x1 o0 → W p l e rm_Md_findShapes s m args below meth c H locs 0 0 (MQ below (va_Qv (fun (u : Ob) => Q u) (fun (u : Ob) t => BW G A (cw_Md G h0 q0 u) t) A) args s 0 0 A) (F0 m 14 ls [])) :
    ∀ (n : Nat) (x1 : Int32) (o0 : Ob) (ls : Array Slot) (H : Heap) (locs : List Loc), lv_has ls 3 [(0, .ref h0), (1, .int x1)] → va_P G.1 CL (cw_Md G h0 q0 o0) H → va_D A (cw_Md G h0 q0 o0) → va_S A s.heap H locs → f_Md_findShapes_28 k14 Q n x1 o0 → W p l e rm_Md_findShapes s m args below meth c H locs 0 0 (MQ below (va_Qv (fun (u : Ob) => Q u) (fun (u : Ob) t => BW G A (cw_Md G h0 q0 u) t) A) args s 0 0 A) (F0 m 28 ls []) := by
  obtain ⟨hx, hb, hml, hown, hr, hts, hK, hA, hlocks, hE⟩ := id C
  intro n
  induction n with
  | zero => intro x1 o0 ls H locs hl hP hD hS h; exact absurd h id
  | succ n ih =>
    intro x1 o0 ls H locs hl hP hD hS h
    have hP : va_P G.1 CL [(h0, .inr (11, [.int (gI o0 0), .ref (q0 1), .ref (q0 2), .ref (q0 3), .ref (q0 4), .ref (q0 5), .ref (q0 6), .int (gI o0 7), .int (gI o0 8), .int (gI o0 9), .int (gI o0 10), .int (gI o0 11), .int (gI o0 12), .int (gI o0 13), .int (gI o0 14), .long (gL o0 15), .int (gI o0 16), .int (gI o0 17), .int (gI o0 18), .int (gI o0 19), .int (gI o0 20), .int (gI o0 21), .int (gI o0 22), .int (gI o0 23), .int (gI o0 24), .int (gI o0 25), .int (gI o0 26), .int (gI o0 27), .ref (q0 28), .long (gL o0 29), .int (gI o0 30), .ref (q0 31), .ref (q0 32), .ref (q0 33), .int (gI o0 34), .int (gI o0 35), .int (gI o0 36), .int (gI o0 37), .ref (q0 38), .ref (q0 39), .int (gI o0 40), .ref (q0 41), .ref (q0 42), .ref (q0 43), .ref (q0 44)])), kI G (q0 1) 6100 (gA o0 1), kI G (q0 2) 6100 (gA o0 2), kJ G (q0 3) 2016 (gB o0 3), kJ G (q0 4) 2016 (gB o0 4), kI G (q0 5) 300 (gA o0 5), kI G (q0 6) 400 (gA o0 6), kJ G (q0 28) 10 (gB o0 28), kI G (q0 31) 969 (gA o0 31), kI G (q0 32) 969 (gA o0 32), kI G (q0 33) 969 (gA o0 33), kI G (q0 38) 5 (gA o0 38), kI G (q0 39) 5120 (gA o0 39), kI G (q0 41) 5 (gA o0 41), kZ G (q0 42) 1024 (gA o0 42), kI G (q0 43) 8192 (gA o0 43), kI G (q0 44) 8192 (gA o0 44)] H := hP
    have hD : va_D A [(h0, .inr (11, [.int (gI o0 0), .ref (q0 1), .ref (q0 2), .ref (q0 3), .ref (q0 4), .ref (q0 5), .ref (q0 6), .int (gI o0 7), .int (gI o0 8), .int (gI o0 9), .int (gI o0 10), .int (gI o0 11), .int (gI o0 12), .int (gI o0 13), .int (gI o0 14), .long (gL o0 15), .int (gI o0 16), .int (gI o0 17), .int (gI o0 18), .int (gI o0 19), .int (gI o0 20), .int (gI o0 21), .int (gI o0 22), .int (gI o0 23), .int (gI o0 24), .int (gI o0 25), .int (gI o0 26), .int (gI o0 27), .ref (q0 28), .long (gL o0 29), .int (gI o0 30), .ref (q0 31), .ref (q0 32), .ref (q0 33), .int (gI o0 34), .int (gI o0 35), .int (gI o0 36), .int (gI o0 37), .ref (q0 38), .ref (q0 39), .int (gI o0 40), .ref (q0 41), .ref (q0 42), .ref (q0 43), .ref (q0 44)])), kI G (q0 1) 6100 (gA o0 1), kI G (q0 2) 6100 (gA o0 2), kJ G (q0 3) 2016 (gB o0 3), kJ G (q0 4) 2016 (gB o0 4), kI G (q0 5) 300 (gA o0 5), kI G (q0 6) 400 (gA o0 6), kJ G (q0 28) 10 (gB o0 28), kI G (q0 31) 969 (gA o0 31), kI G (q0 32) 969 (gA o0 32), kI G (q0 33) 969 (gA o0 33), kI G (q0 38) 5 (gA o0 38), kI G (q0 39) 5120 (gA o0 39), kI G (q0 41) 5 (gA o0 41), kZ G (q0 42) 1024 (gA o0 42), kI G (q0 43) 8192 (gA o0 43), kI G (q0 44) 8192 (gA o0 44)] := hD
    unfold f_Md_findShapes_28 at h
    refine lv_aload_n hx hb d_Md_findShapes_28 rfl (lv_at hl 0 rfl) ?_
    refine va_get (D := G.1) (ci := 11) (v := .ref (q0 41)) (C := R_Md) (T := T_Md) (N := 45) hx hb hts i_Md hown hK hP 0 rfl rfl 41 (by decide) (hts _ wf_Md_54) (fun _ h9 => h9) rfl d_Md_findShapes_29 ?_
    refine lv_iload_n hx hb d_Md_findShapes_32 rfl (lv_at hl 1 rfl) ?_
    have g8 := h.1
    have h := h.2
    refine xa_iald hx hb hK hP 13 0 rfl rfl g8 (k := x1.toNatClampNeg) rfl d_Md_findShapes_33 ?_
    refine lv_bipush (v := (13 : Int32)) hx hb d_Md_findShapes_34 (by decide) ?_
    refine lv_icmp_ge (tgt := 73) hx hb d_Md_findShapes_36 (by decide) (fun c9 => ?_) (fun c9 => ?_)
    · have h := h.1 c9
      have hl := lv_sub (l' := [(0, .ref h0), (1, .int x1)]) hl [0, 1] rfl
      have hP : va_P G.1 CL (cw_Md G h0 q0 o0) H := hP
      have hD : va_D A (cw_Md G h0 q0 o0) := hD
      exact t_Md_findShapes_73 k14 Q C hk14 x1 o0 ls _ locs hl hP hD hS h
    · have h := h.2 c9
      refine lv_aload_n hx hb d_Md_findShapes_39 rfl (lv_at hl 0 rfl) ?_
      refine va_get (D := G.1) (ci := 11) (v := .ref (q0 1)) (C := R_Md) (T := T_Md) (N := 45) hx hb hts i_Md hown hK hP 0 rfl rfl 1 (by decide) (hts _ wf_Md_7) (fun _ h9 => h9) rfl d_Md_findShapes_40 ?_
      refine lv_bipush (v := (30 : Int32)) hx hb d_Md_findShapes_43 (by decide) ?_
      refine lv_iload_n hx hb d_Md_findShapes_45 rfl (lv_at hl 1 rfl) ?_
      refine lv_iadd hx hb d_Md_findShapes_46 ?_
      have g10 := h.1
      have h := h.2
      refine xa_iald hx hb hK hP 1 0 rfl rfl g10 (k := ((30 : Int32) + x1).toNatClampNeg) rfl d_Md_findShapes_47 ?_
      refine lv_topi (fun y11 ey11 => ?_)
      have h := h y11 ey11
      refine lv_aload_n hx hb d_Md_findShapes_48 rfl (lv_at hl 0 rfl) ?_
      refine va_get (D := G.1) (ci := 11) (v := .ref (q0 41)) (C := R_Md) (T := T_Md) (N := 45) hx hb hts i_Md hown hK hP 0 rfl rfl 41 (by decide) (hts _ wf_Md_54) (fun _ h9 => h9) rfl d_Md_findShapes_49 ?_
      refine lv_iload_n hx hb d_Md_findShapes_52 rfl (lv_at hl 1 rfl) ?_
      have g12 := h.1
      have h := h.2
      refine xa_iald hx hb hK hP 13 0 rfl rfl g12 (k := x1.toNatClampNeg) rfl d_Md_findShapes_53 ?_
      refine lv_ishr hx hb d_Md_findShapes_54 ?_
      refine lv_topi (fun y13 ey13 => ?_)
      have h := h y13 ey13
      refine lv_iconst (v := (1 : Int32)) hx hb d_Md_findShapes_55 (by decide) ?_
      refine lv_iand hx hb d_Md_findShapes_56 ?_
      refine lv_if_ne (tgt := 73) hx hb d_Md_findShapes_57 (by decide) (fun c14 => ?_) (fun c14 => ?_)
      · have h := h.2 c14
        have hl := lv_sub (l' := [(0, .ref h0), (1, .int x1)]) hl [0, 1] rfl
        have hP : va_P G.1 CL (cw_Md G h0 q0 o0) H := hP
        have hD : va_D A (cw_Md G h0 q0 o0) := hD
        exact t_Md_findShapes_73 k14 Q C hk14 x1 o0 ls _ locs hl hP hD hS h
      · have h := h.1 c14
        refine lv_aload_n hx hb d_Md_findShapes_60 rfl (lv_at hl 0 rfl) ?_
        refine va_get (D := G.1) (ci := 11) (v := .ref (q0 41)) (C := R_Md) (T := T_Md) (N := 45) hx hb hts i_Md hown hK hP 0 rfl rfl 41 (by decide) (hts _ wf_Md_54) (fun _ h9 => h9) rfl d_Md_findShapes_61 ?_
        refine lv_iload_n hx hb d_Md_findShapes_64 rfl (lv_at hl 1 rfl) ?_
        refine lv_dup2_11 hx hb d_Md_findShapes_65 rfl rfl ?_
        have g15 := h.1
        have h := h.2
        refine xa_iald hx hb hK hP 13 0 rfl rfl g15 (k := x1.toNatClampNeg) rfl d_Md_findShapes_66 ?_
        refine lv_iconst (v := (1 : Int32)) hx hb d_Md_findShapes_67 (by decide) ?_
        refine lv_iadd hx hb d_Md_findShapes_68 ?_
        have g16 := h.1
        have h := h.2
        refine xa_iast hx hb hK hP hD hS 13 0 rfl rfl g16 (k := x1.toNatClampNeg) rfl d_Md_findShapes_69 (fun H locs hP hD hS => ?_)
        have hP : va_P G.1 CL [(h0, .inr (11, [.int (gI o0 0), .ref (q0 1), .ref (q0 2), .ref (q0 3), .ref (q0 4), .ref (q0 5), .ref (q0 6), .int (gI o0 7), .int (gI o0 8), .int (gI o0 9), .int (gI o0 10), .int (gI o0 11), .int (gI o0 12), .int (gI o0 13), .int (gI o0 14), .long (gL o0 15), .int (gI o0 16), .int (gI o0 17), .int (gI o0 18), .int (gI o0 19), .int (gI o0 20), .int (gI o0 21), .int (gI o0 22), .int (gI o0 23), .int (gI o0 24), .int (gI o0 25), .int (gI o0 26), .int (gI o0 27), .ref (q0 28), .long (gL o0 29), .int (gI o0 30), .ref (q0 31), .ref (q0 32), .ref (q0 33), .int (gI o0 34), .int (gI o0 35), .int (gI o0 36), .int (gI o0 37), .ref (q0 38), .ref (q0 39), .int (gI o0 40), .ref (q0 41), .ref (q0 42), .ref (q0 43), .ref (q0 44)])), kI G (q0 1) 6100 (gA o0 1), kI G (q0 2) 6100 (gA o0 2), kJ G (q0 3) 2016 (gB o0 3), kJ G (q0 4) 2016 (gB o0 4), kI G (q0 5) 300 (gA o0 5), kI G (q0 6) 400 (gA o0 6), kJ G (q0 28) 10 (gB o0 28), kI G (q0 31) 969 (gA o0 31), kI G (q0 32) 969 (gA o0 32), kI G (q0 33) 969 (gA o0 33), kI G (q0 38) 5 (gA o0 38), kI G (q0 39) 5120 (gA o0 39), kI G (q0 41) 5 (upd (gA o0 41) x1.toNatClampNeg (((gA o0 41) x1.toNatClampNeg) + (1 : Int32))), kZ G (q0 42) 1024 (gA o0 42), kI G (q0 43) 8192 (gA o0 43), kI G (q0 44) 8192 (gA o0 44)] H := hP
        have hD : va_D A [(h0, .inr (11, [.int (gI o0 0), .ref (q0 1), .ref (q0 2), .ref (q0 3), .ref (q0 4), .ref (q0 5), .ref (q0 6), .int (gI o0 7), .int (gI o0 8), .int (gI o0 9), .int (gI o0 10), .int (gI o0 11), .int (gI o0 12), .int (gI o0 13), .int (gI o0 14), .long (gL o0 15), .int (gI o0 16), .int (gI o0 17), .int (gI o0 18), .int (gI o0 19), .int (gI o0 20), .int (gI o0 21), .int (gI o0 22), .int (gI o0 23), .int (gI o0 24), .int (gI o0 25), .int (gI o0 26), .int (gI o0 27), .ref (q0 28), .long (gL o0 29), .int (gI o0 30), .ref (q0 31), .ref (q0 32), .ref (q0 33), .int (gI o0 34), .int (gI o0 35), .int (gI o0 36), .int (gI o0 37), .ref (q0 38), .ref (q0 39), .int (gI o0 40), .ref (q0 41), .ref (q0 42), .ref (q0 43), .ref (q0 44)])), kI G (q0 1) 6100 (gA o0 1), kI G (q0 2) 6100 (gA o0 2), kJ G (q0 3) 2016 (gB o0 3), kJ G (q0 4) 2016 (gB o0 4), kI G (q0 5) 300 (gA o0 5), kI G (q0 6) 400 (gA o0 6), kJ G (q0 28) 10 (gB o0 28), kI G (q0 31) 969 (gA o0 31), kI G (q0 32) 969 (gA o0 32), kI G (q0 33) 969 (gA o0 33), kI G (q0 38) 5 (gA o0 38), kI G (q0 39) 5120 (gA o0 39), kI G (q0 41) 5 (upd (gA o0 41) x1.toNatClampNeg (((gA o0 41) x1.toNatClampNeg) + (1 : Int32))), kZ G (q0 42) 1024 (gA o0 42), kI G (q0 43) 8192 (gA o0 43), kI G (q0 44) 8192 (gA o0 44)] := hD
        refine lv_goto (tgt := 28) hx hb d_Md_findShapes_70 (by decide) ?_
        have hl := lv_sub (l' := [(0, .ref h0), (1, .int x1)]) hl [0, 1] rfl
        have hP : va_P G.1 CL (cw_Md G h0 q0 (sA o0 41 (upd (gA o0 41) x1.toNatClampNeg (((gA o0 41) x1.toNatClampNeg) + (1 : Int32))))) H := hP
        have hD : va_D A (cw_Md G h0 q0 (sA o0 41 (upd (gA o0 41) x1.toNatClampNeg (((gA o0 41) x1.toNatClampNeg) + (1 : Int32))))) := hD
        exact ih x1 (sA o0 41 (upd (gA o0 41) x1.toNatClampNeg (((gA o0 41) x1.toNatClampNeg) + (1 : Int32)))) ls H locs hl hP hD hS h
set_option maxHeartbeats 4000000 in
set_option maxRecDepth 100000 in
theorem t_Md_findShapes_14 {p : Program} {l : Launch} {e : Env} {s : State} {m : MethodId} {args : Array Value} {below : List Frame} {meth : Method} {c : Code} {A : Nat → Prop} {G : Gl} {h0 : Nat} {q0 : Nat → Nat} (Q : Ob → Prop) (C : Cx p s m args meth c R_Md b_Md_findShapes 3 none G A) :
    ∀ (n : Nat) (x1 : Int32) (o0 : Ob) (ls : Array Slot) (H : Heap) (locs : List Loc), lv_has ls 3 [(0, .ref h0), (1, .int x1)] → va_P G.1 CL (cw_Md G h0 q0 o0) H → va_D A (cw_Md G h0 q0 o0) → va_S A s.heap H locs → f_Md_findShapes_14 Q n x1 o0 → W p l e rm_Md_findShapes s m args below meth c H locs 0 0 (MQ below (va_Qv (fun (u : Ob) => Q u) (fun (u : Ob) t => BW G A (cw_Md G h0 q0 u) t) A) args s 0 0 A) (F0 m 14 ls []) := by
  obtain ⟨hx, hb, hml, hown, hr, hts, hK, hA, hlocks, hE⟩ := id C
  intro n
  induction n with
  | zero => intro x1 o0 ls H locs hl hP hD hS h; exact absurd h id
  | succ n ih =>
    intro x1 o0 ls H locs hl hP hD hS h
    have hP : va_P G.1 CL [(h0, .inr (11, [.int (gI o0 0), .ref (q0 1), .ref (q0 2), .ref (q0 3), .ref (q0 4), .ref (q0 5), .ref (q0 6), .int (gI o0 7), .int (gI o0 8), .int (gI o0 9), .int (gI o0 10), .int (gI o0 11), .int (gI o0 12), .int (gI o0 13), .int (gI o0 14), .long (gL o0 15), .int (gI o0 16), .int (gI o0 17), .int (gI o0 18), .int (gI o0 19), .int (gI o0 20), .int (gI o0 21), .int (gI o0 22), .int (gI o0 23), .int (gI o0 24), .int (gI o0 25), .int (gI o0 26), .int (gI o0 27), .ref (q0 28), .long (gL o0 29), .int (gI o0 30), .ref (q0 31), .ref (q0 32), .ref (q0 33), .int (gI o0 34), .int (gI o0 35), .int (gI o0 36), .int (gI o0 37), .ref (q0 38), .ref (q0 39), .int (gI o0 40), .ref (q0 41), .ref (q0 42), .ref (q0 43), .ref (q0 44)])), kI G (q0 1) 6100 (gA o0 1), kI G (q0 2) 6100 (gA o0 2), kJ G (q0 3) 2016 (gB o0 3), kJ G (q0 4) 2016 (gB o0 4), kI G (q0 5) 300 (gA o0 5), kI G (q0 6) 400 (gA o0 6), kJ G (q0 28) 10 (gB o0 28), kI G (q0 31) 969 (gA o0 31), kI G (q0 32) 969 (gA o0 32), kI G (q0 33) 969 (gA o0 33), kI G (q0 38) 5 (gA o0 38), kI G (q0 39) 5120 (gA o0 39), kI G (q0 41) 5 (gA o0 41), kZ G (q0 42) 1024 (gA o0 42), kI G (q0 43) 8192 (gA o0 43), kI G (q0 44) 8192 (gA o0 44)] H := hP
    have hD : va_D A [(h0, .inr (11, [.int (gI o0 0), .ref (q0 1), .ref (q0 2), .ref (q0 3), .ref (q0 4), .ref (q0 5), .ref (q0 6), .int (gI o0 7), .int (gI o0 8), .int (gI o0 9), .int (gI o0 10), .int (gI o0 11), .int (gI o0 12), .int (gI o0 13), .int (gI o0 14), .long (gL o0 15), .int (gI o0 16), .int (gI o0 17), .int (gI o0 18), .int (gI o0 19), .int (gI o0 20), .int (gI o0 21), .int (gI o0 22), .int (gI o0 23), .int (gI o0 24), .int (gI o0 25), .int (gI o0 26), .int (gI o0 27), .ref (q0 28), .long (gL o0 29), .int (gI o0 30), .ref (q0 31), .ref (q0 32), .ref (q0 33), .int (gI o0 34), .int (gI o0 35), .int (gI o0 36), .int (gI o0 37), .ref (q0 38), .ref (q0 39), .int (gI o0 40), .ref (q0 41), .ref (q0 42), .ref (q0 43), .ref (q0 44)])), kI G (q0 1) 6100 (gA o0 1), kI G (q0 2) 6100 (gA o0 2), kJ G (q0 3) 2016 (gB o0 3), kJ G (q0 4) 2016 (gB o0 4), kI G (q0 5) 300 (gA o0 5), kI G (q0 6) 400 (gA o0 6), kJ G (q0 28) 10 (gB o0 28), kI G (q0 31) 969 (gA o0 31), kI G (q0 32) 969 (gA o0 32), kI G (q0 33) 969 (gA o0 33), kI G (q0 38) 5 (gA o0 38), kI G (q0 39) 5120 (gA o0 39), kI G (q0 41) 5 (gA o0 41), kZ G (q0 42) 1024 (gA o0 42), kI G (q0 43) 8192 (gA o0 43), kI G (q0 44) 8192 (gA o0 44)] := hD
    unfold f_Md_findShapes_14 at h
    refine lv_iload_n hx hb d_Md_findShapes_14 rfl (lv_at hl 1 rfl) ?_
    refine lv_if_lt (tgt := 161) hx hb d_Md_findShapes_15 (by decide) (fun c17 => ?_) (fun c17 => ?_)
    · have h := h.1 c17
      have hP : va_P G.1 CL (cw_Md G h0 q0 o0) H := hP
      have hD : va_D A (cw_Md G h0 q0 o0) := hD
      exact W.vret hx hb hr (fun t ht hW => ⟨⟨o0, rfl, h, by rw [ht]; exact hP, va_K.moved hW.alike hK, hD⟩, hS.F ht⟩) hS.2.2 d_Md_findShapes_161
    · have h := h.2 c17
      refine lv_aload_n hx hb d_Md_findShapes_18 rfl (lv_at hl 0 rfl) ?_
      refine va_get (D := G.1) (ci := 11) (v := .ref (q0 41)) (C := R_Md) (T := T_Md) (N := 45) hx hb hts i_Md hown hK hP 0 rfl rfl 41 (by decide) (hts _ wf_Md_54) (fun _ h9 => h9) rfl d_Md_findShapes_19 ?_
      refine lv_iload_n hx hb d_Md_findShapes_22 rfl (lv_at hl 1 rfl) ?_
      refine lv_dup2_11 hx hb d_Md_findShapes_23 rfl rfl ?_
      have g18 := h.1
      have h := h.2
      refine xa_iald hx hb hK hP 13 0 rfl rfl g18 (k := x1.toNatClampNeg) rfl d_Md_findShapes_24 ?_
      refine lv_iconst (v := (1 : Int32)) hx hb d_Md_findShapes_25 (by decide) ?_
      refine lv_iadd hx hb d_Md_findShapes_26 ?_
      have g19 := h.1
      have h := h.2
      refine xa_iast hx hb hK hP hD hS 13 0 rfl rfl g19 (k := x1.toNatClampNeg) rfl d_Md_findShapes_27 (fun H locs hP hD hS => ?_)
      have hP : va_P G.1 CL [(h0, .inr (11, [.int (gI o0 0), .ref (q0 1), .ref (q0 2), .ref (q0 3), .ref (q0 4), .ref (q0 5), .ref (q0 6), .int (gI o0 7), .int (gI o0 8), .int (gI o0 9), .int (gI o0 10), .int (gI o0 11), .int (gI o0 12), .int (gI o0 13), .int (gI o0 14), .long (gL o0 15), .int (gI o0 16), .int (gI o0 17), .int (gI o0 18), .int (gI o0 19), .int (gI o0 20), .int (gI o0 21), .int (gI o0 22), .int (gI o0 23), .int (gI o0 24), .int (gI o0 25), .int (gI o0 26), .int (gI o0 27), .ref (q0 28), .long (gL o0 29), .int (gI o0 30), .ref (q0 31), .ref (q0 32), .ref (q0 33), .int (gI o0 34), .int (gI o0 35), .int (gI o0 36), .int (gI o0 37), .ref (q0 38), .ref (q0 39), .int (gI o0 40), .ref (q0 41), .ref (q0 42), .ref (q0 43), .ref (q0 44)])), kI G (q0 1) 6100 (gA o0 1), kI G (q0 2) 6100 (gA o0 2), kJ G (q0 3) 2016 (gB o0 3), kJ G (q0 4) 2016 (gB o0 4), kI G (q0 5) 300 (gA o0 5), kI G (q0 6) 400 (gA o0 6), kJ G (q0 28) 10 (gB o0 28), kI G (q0 31) 969 (gA o0 31), kI G (q0 32) 969 (gA o0 32), kI G (q0 33) 969 (gA o0 33), kI G (q0 38) 5 (gA o0 38), kI G (q0 39) 5120 (gA o0 39), kI G (q0 41) 5 (upd (gA o0 41) x1.toNatClampNeg (((gA o0 41) x1.toNatClampNeg) + (1 : Int32))), kZ G (q0 42) 1024 (gA o0 42), kI G (q0 43) 8192 (gA o0 43), kI G (q0 44) 8192 (gA o0 44)] H := hP
      have hD : va_D A [(h0, .inr (11, [.int (gI o0 0), .ref (q0 1), .ref (q0 2), .ref (q0 3), .ref (q0 4), .ref (q0 5), .ref (q0 6), .int (gI o0 7), .int (gI o0 8), .int (gI o0 9), .int (gI o0 10), .int (gI o0 11), .int (gI o0 12), .int (gI o0 13), .int (gI o0 14), .long (gL o0 15), .int (gI o0 16), .int (gI o0 17), .int (gI o0 18), .int (gI o0 19), .int (gI o0 20), .int (gI o0 21), .int (gI o0 22), .int (gI o0 23), .int (gI o0 24), .int (gI o0 25), .int (gI o0 26), .int (gI o0 27), .ref (q0 28), .long (gL o0 29), .int (gI o0 30), .ref (q0 31), .ref (q0 32), .ref (q0 33), .int (gI o0 34), .int (gI o0 35), .int (gI o0 36), .int (gI o0 37), .ref (q0 38), .ref (q0 39), .int (gI o0 40), .ref (q0 41), .ref (q0 42), .ref (q0 43), .ref (q0 44)])), kI G (q0 1) 6100 (gA o0 1), kI G (q0 2) 6100 (gA o0 2), kJ G (q0 3) 2016 (gB o0 3), kJ G (q0 4) 2016 (gB o0 4), kI G (q0 5) 300 (gA o0 5), kI G (q0 6) 400 (gA o0 6), kJ G (q0 28) 10 (gB o0 28), kI G (q0 31) 969 (gA o0 31), kI G (q0 32) 969 (gA o0 32), kI G (q0 33) 969 (gA o0 33), kI G (q0 38) 5 (gA o0 38), kI G (q0 39) 5120 (gA o0 39), kI G (q0 41) 5 (upd (gA o0 41) x1.toNatClampNeg (((gA o0 41) x1.toNatClampNeg) + (1 : Int32))), kZ G (q0 42) 1024 (gA o0 42), kI G (q0 43) 8192 (gA o0 43), kI G (q0 44) 8192 (gA o0 44)] := hD
      have hl := lv_sub (l' := [(0, .ref h0), (1, .int x1)]) hl [0, 1] rfl
      have hP : va_P G.1 CL (cw_Md G h0 q0 (sA o0 41 (upd (gA o0 41) x1.toNatClampNeg (((gA o0 41) x1.toNatClampNeg) + (1 : Int32))))) H := hP
      have hD : va_D A (cw_Md G h0 q0 (sA o0 41 (upd (gA o0 41) x1.toNatClampNeg (((gA o0 41) x1.toNatClampNeg) + (1 : Int32))))) := hD
      obtain ⟨w, h⟩ := h
      exact t_Md_findShapes_28 (f_Md_findShapes_14 Q n) Q C ih w x1 (sA o0 41 (upd (gA o0 41) x1.toNatClampNeg (((gA o0 41) x1.toNatClampNeg) + (1 : Int32)))) ls _ locs hl hP hD hS h
set_option maxHeartbeats 4000000 in
set_option maxRecDepth 100000 in
theorem c_Md_findShapes {l : Launch} {G : Gl} {h0 : Nat} {q0 : Nat → Nat} {o0 : Ob} {Q : Ob → Prop} (sz : Nat) (h : f_Md_findShapes o0 Q) : Met l y_Md_findShapes w_Md_findShapes rm_Md_findShapes (PcW G [.ref h0] sz (cw_Md G h0 q0 o0)) (va_Qv (fun (u : Ob) => Q u) (fun (u : Ob) t => BW G (va_A (cw_Md G h0 q0 o0) sz) (cw_Md G h0 q0 u) t) (va_A (cw_Md G h0 q0 o0) sz)) 0 0 (va_A (cw_Md G h0 q0 o0) sz) := by
  refine Met.ofW (cc := b_Md_findShapes) (maxL := 3) (ret := none) (by decide +kernel) rfl ?_
  intro p e s m args below meth c s₁ B hml hv
  obtain ⟨rfl, hsz, hP, hK, hD0, hE⟩ := hv
  have hx := B.exec
  have hb := B.bytes
  have hr := B.returns
  have hts0 := atoms_spec (ws := w_Md_findShapes) B.pre
  have hts : ∀ w ∈ gw_tbl, w.before ([.ref h0]).toArray s = true := fun w hw => hts0 w (List.mem_cons_of_mem _ hw)
  have hown : s.vm.findClass R_Md = some m.cls := findClass_of_methodNamed B.named
  have hlocks := B.notSynchronized
  subst hsz
  have hD := hD0.self (sz := s.heap.size)
  generalize hAe : va_A (cw_Md G h0 q0 o0) s.heap.size = A at hD hE ⊢
  have hA : ∀ q : Nat, s.heap.size ≤ q → A q := fun q h => by rw [← hAe]; exact Or.inr h
  have hS : va_S A s.heap s.heap [] := va_S.rf
  have C : Cx p s m ([.ref h0]).toArray meth c R_Md b_Md_findShapes 3 none G A := ⟨hx, hb, hml, hown, hr, hts, hK, hA, hlocks, hE⟩
  have hl := lv_entry ([.ref h0]) (n := 3) (Nat.le_of_ble_eq_true rfl)
  rw [lg_entry_eq]
  generalize (lg_sl ([.ref h0]) ++ List.replicate (3 - (lg_sl ([.ref h0])).length) Slot.unset).toArray = ls at hl ⊢
  have hl : lv_has ls 3 [(0, .ref h0)] := hl
  have hD : va_D A [(h0, .inr (11, [.int (gI o0 0), .ref (q0 1), .ref (q0 2), .ref (q0 3), .ref (q0 4), .ref (q0 5), .ref (q0 6), .int (gI o0 7), .int (gI o0 8), .int (gI o0 9), .int (gI o0 10), .int (gI o0 11), .int (gI o0 12), .int (gI o0 13), .int (gI o0 14), .long (gL o0 15), .int (gI o0 16), .int (gI o0 17), .int (gI o0 18), .int (gI o0 19), .int (gI o0 20), .int (gI o0 21), .int (gI o0 22), .int (gI o0 23), .int (gI o0 24), .int (gI o0 25), .int (gI o0 26), .int (gI o0 27), .ref (q0 28), .long (gL o0 29), .int (gI o0 30), .ref (q0 31), .ref (q0 32), .ref (q0 33), .int (gI o0 34), .int (gI o0 35), .int (gI o0 36), .int (gI o0 37), .ref (q0 38), .ref (q0 39), .int (gI o0 40), .ref (q0 41), .ref (q0 42), .ref (q0 43), .ref (q0 44)])), kI G (q0 1) 6100 (gA o0 1), kI G (q0 2) 6100 (gA o0 2), kJ G (q0 3) 2016 (gB o0 3), kJ G (q0 4) 2016 (gB o0 4), kI G (q0 5) 300 (gA o0 5), kI G (q0 6) 400 (gA o0 6), kJ G (q0 28) 10 (gB o0 28), kI G (q0 31) 969 (gA o0 31), kI G (q0 32) 969 (gA o0 32), kI G (q0 33) 969 (gA o0 33), kI G (q0 38) 5 (gA o0 38), kI G (q0 39) 5120 (gA o0 39), kI G (q0 41) 5 (gA o0 41), kZ G (q0 42) 1024 (gA o0 42), kI G (q0 43) 8192 (gA o0 43), kI G (q0 44) 8192 (gA o0 44)] := hD
  unfold f_Md_findShapes at h
  suffices key : ∀ (H : Heap) (locs : List Loc), va_P G.1 CL [(h0, .inr (11, [.int (gI o0 0), .ref (q0 1), .ref (q0 2), .ref (q0 3), .ref (q0 4), .ref (q0 5), .ref (q0 6), .int (gI o0 7), .int (gI o0 8), .int (gI o0 9), .int (gI o0 10), .int (gI o0 11), .int (gI o0 12), .int (gI o0 13), .int (gI o0 14), .long (gL o0 15), .int (gI o0 16), .int (gI o0 17), .int (gI o0 18), .int (gI o0 19), .int (gI o0 20), .int (gI o0 21), .int (gI o0 22), .int (gI o0 23), .int (gI o0 24), .int (gI o0 25), .int (gI o0 26), .int (gI o0 27), .ref (q0 28), .long (gL o0 29), .int (gI o0 30), .ref (q0 31), .ref (q0 32), .ref (q0 33), .int (gI o0 34), .int (gI o0 35), .int (gI o0 36), .int (gI o0 37), .ref (q0 38), .ref (q0 39), .int (gI o0 40), .ref (q0 41), .ref (q0 42), .ref (q0 43), .ref (q0 44)])), kI G (q0 1) 6100 (gA o0 1), kI G (q0 2) 6100 (gA o0 2), kJ G (q0 3) 2016 (gB o0 3), kJ G (q0 4) 2016 (gB o0 4), kI G (q0 5) 300 (gA o0 5), kI G (q0 6) 400 (gA o0 6), kJ G (q0 28) 10 (gB o0 28), kI G (q0 31) 969 (gA o0 31), kI G (q0 32) 969 (gA o0 32), kI G (q0 33) 969 (gA o0 33), kI G (q0 38) 5 (gA o0 38), kI G (q0 39) 5120 (gA o0 39), kI G (q0 41) 5 (gA o0 41), kZ G (q0 42) 1024 (gA o0 42), kI G (q0 43) 8192 (gA o0 43), kI G (q0 44) 8192 (gA o0 44)] H → va_S A s.heap H locs → W p l e rm_Md_findShapes s m ([.ref h0]).toArray below meth c H locs 0 0 (MQ below (va_Qv (fun (u : Ob) => Q u) (fun (u : Ob) t => BW G A (cw_Md G h0 q0 u) t) A) ([.ref h0]).toArray s 0 0 A) (F0 m 0 ls []) from key s.heap [] hP hS
  intro H locs hP hS
  refine lv_aload_n hx hb d_Md_findShapes_0 rfl (lv_at hl 0 rfl) ?_
  refine lv_iconst (v := (0 : Int32)) hx hb d_Md_findShapes_1 (by decide) ?_
  refine va_put (D := G.1) (ci := 11) (v := .int (0 : Int32)) (ty := .int) (C := R_Md) (T := T_Md) (N := 45) hx hb hts i_Md ty_Md ty_Md_ok nm_Md hown hK hP hD hS 0 rfl rfl 40 (by decide) (hts _ wf_Md_273) (fun _ h9 => h9) rfl (ty_Md_ok 40 (by decide)) rfl rfl (Nat.le_of_ble_eq_true rfl) d_Md_findShapes_2 (fun H locs hP hD hS => ?_)
  have hP : va_P G.1 CL [(h0, .inr (11, [.int (gI o0 0), .ref (q0 1), .ref (q0 2), .ref (q0 3), .ref (q0 4), .ref (q0 5), .ref (q0 6), .int (gI o0 7), .int (gI o0 8), .int (gI o0 9), .int (gI o0 10), .int (gI o0 11), .int (gI o0 12), .int (gI o0 13), .int (gI o0 14), .long (gL o0 15), .int (gI o0 16), .int (gI o0 17), .int (gI o0 18), .int (gI o0 19), .int (gI o0 20), .int (gI o0 21), .int (gI o0 22), .int (gI o0 23), .int (gI o0 24), .int (gI o0 25), .int (gI o0 26), .int (gI o0 27), .ref (q0 28), .long (gL o0 29), .int (gI o0 30), .ref (q0 31), .ref (q0 32), .ref (q0 33), .int (gI o0 34), .int (gI o0 35), .int (gI o0 36), .int (gI o0 37), .ref (q0 38), .ref (q0 39), .int (0 : Int32), .ref (q0 41), .ref (q0 42), .ref (q0 43), .ref (q0 44)])), kI G (q0 1) 6100 (gA o0 1), kI G (q0 2) 6100 (gA o0 2), kJ G (q0 3) 2016 (gB o0 3), kJ G (q0 4) 2016 (gB o0 4), kI G (q0 5) 300 (gA o0 5), kI G (q0 6) 400 (gA o0 6), kJ G (q0 28) 10 (gB o0 28), kI G (q0 31) 969 (gA o0 31), kI G (q0 32) 969 (gA o0 32), kI G (q0 33) 969 (gA o0 33), kI G (q0 38) 5 (gA o0 38), kI G (q0 39) 5120 (gA o0 39), kI G (q0 41) 5 (gA o0 41), kZ G (q0 42) 1024 (gA o0 42), kI G (q0 43) 8192 (gA o0 43), kI G (q0 44) 8192 (gA o0 44)] H := hP
  have hD : va_D A [(h0, .inr (11, [.int (gI o0 0), .ref (q0 1), .ref (q0 2), .ref (q0 3), .ref (q0 4), .ref (q0 5), .ref (q0 6), .int (gI o0 7), .int (gI o0 8), .int (gI o0 9), .int (gI o0 10), .int (gI o0 11), .int (gI o0 12), .int (gI o0 13), .int (gI o0 14), .long (gL o0 15), .int (gI o0 16), .int (gI o0 17), .int (gI o0 18), .int (gI o0 19), .int (gI o0 20), .int (gI o0 21), .int (gI o0 22), .int (gI o0 23), .int (gI o0 24), .int (gI o0 25), .int (gI o0 26), .int (gI o0 27), .ref (q0 28), .long (gL o0 29), .int (gI o0 30), .ref (q0 31), .ref (q0 32), .ref (q0 33), .int (gI o0 34), .int (gI o0 35), .int (gI o0 36), .int (gI o0 37), .ref (q0 38), .ref (q0 39), .int (0 : Int32), .ref (q0 41), .ref (q0 42), .ref (q0 43), .ref (q0 44)])), kI G (q0 1) 6100 (gA o0 1), kI G (q0 2) 6100 (gA o0 2), kJ G (q0 3) 2016 (gB o0 3), kJ G (q0 4) 2016 (gB o0 4), kI G (q0 5) 300 (gA o0 5), kI G (q0 6) 400 (gA o0 6), kJ G (q0 28) 10 (gB o0 28), kI G (q0 31) 969 (gA o0 31), kI G (q0 32) 969 (gA o0 32), kI G (q0 33) 969 (gA o0 33), kI G (q0 38) 5 (gA o0 38), kI G (q0 39) 5120 (gA o0 39), kI G (q0 41) 5 (gA o0 41), kZ G (q0 42) 1024 (gA o0 42), kI G (q0 43) 8192 (gA o0 43), kI G (q0 44) 8192 (gA o0 44)] := hD
  refine lv_aload_n hx hb d_Md_findShapes_5 rfl (lv_at hl 0 rfl) ?_
  refine va_get (D := G.1) (ci := 11) (v := .ref (q0 41)) (C := R_Md) (T := T_Md) (N := 45) hx hb hts i_Md hown hK hP 0 rfl rfl 41 (by decide) (hts _ wf_Md_54) (fun _ h9 => h9) rfl d_Md_findShapes_6 ?_
  refine lv_iconst (v := (0 : Int32)) hx hb d_Md_findShapes_9 (by decide) ?_
  refine lv_iconst (v := (0 : Int32)) hx hb d_Md_findShapes_10 (by decide) ?_
  refine xa_iast hx hb hK hP hD hS 13 0 rfl rfl (vp_lit rfl) (k := 0) rfl d_Md_findShapes_11 (fun H locs hP hD hS => ?_)
  have hP : va_P G.1 CL [(h0, .inr (11, [.int (gI o0 0), .ref (q0 1), .ref (q0 2), .ref (q0 3), .ref (q0 4), .ref (q0 5), .ref (q0 6), .int (gI o0 7), .int (gI o0 8), .int (gI o0 9), .int (gI o0 10), .int (gI o0 11), .int (gI o0 12), .int (gI o0 13), .int (gI o0 14), .long (gL o0 15), .int (gI o0 16), .int (gI o0 17), .int (gI o0 18), .int (gI o0 19), .int (gI o0 20), .int (gI o0 21), .int (gI o0 22), .int (gI o0 23), .int (gI o0 24), .int (gI o0 25), .int (gI o0 26), .int (gI o0 27), .ref (q0 28), .long (gL o0 29), .int (gI o0 30), .ref (q0 31), .ref (q0 32), .ref (q0 33), .int (gI o0 34), .int (gI o0 35), .int (gI o0 36), .int (gI o0 37), .ref (q0 38), .ref (q0 39), .int (0 : Int32), .ref (q0 41), .ref (q0 42), .ref (q0 43), .ref (q0 44)])), kI G (q0 1) 6100 (gA o0 1), kI G (q0 2) 6100 (gA o0 2), kJ G (q0 3) 2016 (gB o0 3), kJ G (q0 4) 2016 (gB o0 4), kI G (q0 5) 300 (gA o0 5), kI G (q0 6) 400 (gA o0 6), kJ G (q0 28) 10 (gB o0 28), kI G (q0 31) 969 (gA o0 31), kI G (q0 32) 969 (gA o0 32), kI G (q0 33) 969 (gA o0 33), kI G (q0 38) 5 (gA o0 38), kI G (q0 39) 5120 (gA o0 39), kI G (q0 41) 5 (upd (gA o0 41) 0 (0 : Int32)), kZ G (q0 42) 1024 (gA o0 42), kI G (q0 43) 8192 (gA o0 43), kI G (q0 44) 8192 (gA o0 44)] H := hP
  have hD : va_D A [(h0, .inr (11, [.int (gI o0 0), .ref (q0 1), .ref (q0 2), .ref (q0 3), .ref (q0 4), .ref (q0 5), .ref (q0 6), .int (gI o0 7), .int (gI o0 8), .int (gI o0 9), .int (gI o0 10), .int (gI o0 11), .int (gI o0 12), .int (gI o0 13), .int (gI o0 14), .long (gL o0 15), .int (gI o0 16), .int (gI o0 17), .int (gI o0 18), .int (gI o0 19), .int (gI o0 20), .int (gI o0 21), .int (gI o0 22), .int (gI o0 23), .int (gI o0 24), .int (gI o0 25), .int (gI o0 26), .int (gI o0 27), .ref (q0 28), .long (gL o0 29), .int (gI o0 30), .ref (q0 31), .ref (q0 32), .ref (q0 33), .int (gI o0 34), .int (gI o0 35), .int (gI o0 36), .int (gI o0 37), .ref (q0 38), .ref (q0 39), .int (0 : Int32), .ref (q0 41), .ref (q0 42), .ref (q0 43), .ref (q0 44)])), kI G (q0 1) 6100 (gA o0 1), kI G (q0 2) 6100 (gA o0 2), kJ G (q0 3) 2016 (gB o0 3), kJ G (q0 4) 2016 (gB o0 4), kI G (q0 5) 300 (gA o0 5), kI G (q0 6) 400 (gA o0 6), kJ G (q0 28) 10 (gB o0 28), kI G (q0 31) 969 (gA o0 31), kI G (q0 32) 969 (gA o0 32), kI G (q0 33) 969 (gA o0 33), kI G (q0 38) 5 (gA o0 38), kI G (q0 39) 5120 (gA o0 39), kI G (q0 41) 5 (upd (gA o0 41) 0 (0 : Int32)), kZ G (q0 42) 1024 (gA o0 42), kI G (q0 43) 8192 (gA o0 43), kI G (q0 44) 8192 (gA o0 44)] := hD
  refine lv_iconst (v := (0 : Int32)) hx hb d_Md_findShapes_12 (by decide) ?_
  refine lv_istore_n (lv' := [(1, .int (0 : Int32)), (0, .ref h0)]) hx hb d_Md_findShapes_13 rfl hl (by decide) rfl (fun ls hl => ?_)
  have hl := lv_sub (l' := [(0, .ref h0), (1, .int (0 : Int32))]) hl [1, 0] rfl
  have hP : va_P G.1 CL (cw_Md G h0 q0 (sA (sI o0 40 (0 : Int32)) 41 (upd (gA o0 41) 0 (0 : Int32)))) H := hP
  have hD : va_D A (cw_Md G h0 q0 (sA (sI o0 40 (0 : Int32)) 41 (upd (gA o0 41) 0 (0 : Int32)))) := hD
  obtain ⟨w, h⟩ := h
  exact t_Md_findShapes_14 Q C w (0 : Int32) (sA (sI o0 40 (0 : Int32)) 41 (upd (gA o0 41) 0 (0 : Int32))) ls _ locs hl hP hD hS h
abbrev b_Md_grid : ByteArray := prog_14_method_53_code
def y_Md_grid : MethodName := ⟨R_Md, "grid", "(II)I"⟩
abbrev w_Md_grid : List Cond := Cond.code y_Md_grid b_Md_grid 5 (some .int) :: gw_tbl
theorem d_Md_grid_0 : decode b_Md_grid 0 = .ok (.aload_n 0, 1) := by decide +kernel
theorem d_Md_grid_1 : decode b_Md_grid 1 = .ok (.iload_n 1, 1) := by decide +kernel
theorem d_Md_grid_2 : decode b_Md_grid 2 = .ok (.invokevirtual 169, 3) := by decide +kernel
theorem d_Md_grid_5 : decode b_Md_grid 5 = .ok (.ifCond .eq 21, 3) := by decide +kernel
theorem d_Md_grid_8 : decode b_Md_grid 8 = .ok (.iload_n 2, 1) := by decide +kernel
theorem d_Md_grid_9 : decode b_Md_grid 9 = .ok (.iconst 1, 1) := by decide +kernel
theorem d_Md_grid_10 : decode b_Md_grid 10 = .ok (.sipush 8191, 3) := by decide +kernel
theorem d_Md_grid_13 : decode b_Md_grid 13 = .ok (.invokestatic 76, 3) := by decide +kernel
theorem d_Md_grid_16 : decode b_Md_grid 16 = .ok (.ifCond .eq 10, 3) := by decide +kernel
theorem d_Md_grid_19 : decode b_Md_grid 19 = .ok (.iload_n 2, 1) := by decide +kernel
theorem d_Md_grid_20 : decode b_Md_grid 20 = .ok (.iconst 1, 1) := by decide +kernel
theorem d_Md_grid_21 : decode b_Md_grid 21 = .ok (.iand, 1) := by decide +kernel
theorem d_Md_grid_22 : decode b_Md_grid 22 = .ok (.iconst 1, 1) := by decide +kernel
theorem d_Md_grid_23 : decode b_Md_grid 23 = .ok (.if_icmp .ne 5, 3) := by decide +kernel
theorem d_Md_grid_26 : decode b_Md_grid 26 = .ok (.iconst (-1), 1) := by decide +kernel
theorem d_Md_grid_27 : decode b_Md_grid 27 = .ok (.ireturn, 1) := by decide +kernel
theorem d_Md_grid_28 : decode b_Md_grid 28 = .ok (.iconst 0, 1) := by decide +kernel
theorem d_Md_grid_29 : decode b_Md_grid 29 = .ok (.istore_n 3, 1) := by decide +kernel
theorem d_Md_grid_30 : decode b_Md_grid 30 = .ok (.iconst 1, 1) := by decide +kernel
theorem d_Md_grid_31 : decode b_Md_grid 31 = .ok (.istore 4, 2) := by decide +kernel
theorem d_Md_grid_33 : decode b_Md_grid 33 = .ok (.iload 4, 2) := by decide +kernel
theorem d_Md_grid_35 : decode b_Md_grid 35 = .ok (.bipush 13, 2) := by decide +kernel
theorem d_Md_grid_37 : decode b_Md_grid 37 = .ok (.if_icmp .ge 18, 3) := by decide +kernel
theorem d_Md_grid_40 : decode b_Md_grid 40 = .ok (.iload_n 3, 1) := by decide +kernel
theorem d_Md_grid_41 : decode b_Md_grid 41 = .ok (.iload_n 2, 1) := by decide +kernel
theorem d_Md_grid_42 : decode b_Md_grid 42 = .ok (.iload 4, 2) := by decide +kernel
theorem d_Md_grid_44 : decode b_Md_grid 44 = .ok (.ishr, 1) := by decide +kernel
theorem d_Md_grid_45 : decode b_Md_grid 45 = .ok (.iconst 1, 1) := by decide +kernel
theorem d_Md_grid_46 : decode b_Md_grid 46 = .ok (.iand, 1) := by decide +kernel
theorem d_Md_grid_47 : decode b_Md_grid 47 = .ok (.iadd, 1) := by decide +kernel
theorem d_Md_grid_48 : decode b_Md_grid 48 = .ok (.istore_n 3, 1) := by decide +kernel
theorem d_Md_grid_49 : decode b_Md_grid 49 = .ok (.iinc 4 1, 3) := by decide +kernel
theorem d_Md_grid_52 : decode b_Md_grid 52 = .ok (.goto (-19), 3) := by decide +kernel
theorem d_Md_grid_55 : decode b_Md_grid 55 = .ok (.iload_n 3, 1) := by decide +kernel
theorem d_Md_grid_56 : decode b_Md_grid 56 = .ok (.iconst 4, 1) := by decide +kernel
theorem d_Md_grid_57 : decode b_Md_grid 57 = .ok (.if_icmp .le 5, 3) := by decide +kernel
theorem d_Md_grid_60 : decode b_Md_grid 60 = .ok (.iconst (-1), 1) := by decide +kernel
theorem d_Md_grid_61 : decode b_Md_grid 61 = .ok (.ireturn, 1) := by decide +kernel
theorem d_Md_grid_62 : decode b_Md_grid 62 = .ok (.aload_n 0, 1) := by decide +kernel
theorem d_Md_grid_63 : decode b_Md_grid 63 = .ok (.getfield 7, 3) := by decide +kernel
theorem d_Md_grid_66 : decode b_Md_grid 66 = .ok (.bipush 30, 2) := by decide +kernel
theorem d_Md_grid_68 : decode b_Md_grid 68 = .ok (.iload_n 1, 1) := by decide +kernel
theorem d_Md_grid_69 : decode b_Md_grid 69 = .ok (.iadd, 1) := by decide +kernel
theorem d_Md_grid_70 : decode b_Md_grid 70 = .ok (.iload_n 2, 1) := by decide +kernel
theorem d_Md_grid_71 : decode b_Md_grid 71 = .ok (.iastore, 1) := by decide +kernel
theorem d_Md_grid_72 : decode b_Md_grid 72 = .ok (.aload_n 0, 1) := by decide +kernel
theorem d_Md_grid_73 : decode b_Md_grid 73 = .ok (.invokevirtual 276, 3) := by decide +kernel
theorem d_Md_grid_76 : decode b_Md_grid 76 = .ok (.aload_n 0, 1) := by decide +kernel
theorem d_Md_grid_77 : decode b_Md_grid 77 = .ok (.getfield 273, 3) := by decide +kernel
theorem d_Md_grid_80 : decode b_Md_grid 80 = .ok (.ireturn, 1) := by decide +kernel
theorem wv_Md_276 : wV R_Md 276 y_Md_findShapes b_Md_findShapes 3 none 0 := ⟨⟨gw_tb (List.mem_of_getElem? (i := 1308) (by decide +kernel)) rfl, gw_tb (List.mem_of_getElem? (i := 13) (by decide +kernel)) rfl, gw_tb (List.mem_of_getElem? (i := 1311) (by decide +kernel)) rfl, by decide, by decide, by decide +kernel⟩, gw_tb (List.mem_of_getElem? (i := 1310) (by decide +kernel)) rfl, gw_of (List.mem_append_left _ (List.mem_of_getElem? (i := 56) (by decide +kernel))) rfl⟩
def f_Md_grid_33 (Q : Int32 → Ob → Prop) : Nat → Int32 → Int32 → Int32 → Int32 → Ob → Prop
  | 0, _, _, _, _, _ => False
  | n + 1, x1, x2, x3, x4, o0 => ((13 : Int32) ≤ x4 → ((x3 ≤ (4 : Int32) → ((vp_in ((30 : Int32) + x1) 6100) ∧ (f_Md_findShapes (sA o0 1 (upd (gA o0 1) (((30 : Int32) + x1).toNatClampNeg) x2)) (fun u4 => Q (gI u4 40) u4)))) ∧ (¬ x3 ≤ (4 : Int32) → (Q (-1 : Int32) o0)))) ∧ (¬ (13 : Int32) ≤ x4 → ((f_Md_grid_33 Q n) x1 x2 (x3 + ((x2 >>> (x4 &&& 31)) &&& (1 : Int32))) (x4 + (1 : Int32)) o0))
def f_Md_grid (a0 : Int32) (a1 : Int32) (o0 : Ob) (Q : Int32 → Ob → Prop) : Prop := f_Md_isPiece a0 o0 (fun z5 => (z5 = 0 → (Q (-1 : Int32) o0)) ∧ (¬ z5 = 0 → (f_Md_isIn a1 (1 : Int32) (8191 : Int32) (fun z7 => (z7 = 0 → (Q (-1 : Int32) o0)) ∧ (¬ z7 = 0 → (((a1 &&& (1 : Int32)) = (1 : Int32) → (Q (-1 : Int32) o0)) ∧ (¬ (a1 &&& (1 : Int32)) = (1 : Int32) → ((∃ w, f_Md_grid_33 Q w a0 a1 (0 : Int32) (1 : Int32) o0)))))))))
abbrev rm_Md_grid : Room := { frames := 2, cells := 0, slots := 0, locals := 43 }
set_option maxHeartbeats 4000000 in
set_option maxRecDepth 100000 in
theorem t_Md_grid_33 {p : Program} {l : Launch} {e : Env} {s : State} {m : MethodId} {args : Array Value} {below : List Frame} {meth : Method} {c : Code} {A : Nat → Prop} {G : Gl} {h0 : Nat} {q0 : Nat → Nat} (Q : Int32 → Ob → Prop) (C : Cx p s m args meth c R_Md b_Md_grid 5 (some .int) G A) :
    ∀ (n : Nat) (x1 : Int32) (x2 : Int32) (x3 : Int32) (x4 : Int32) (o0 : Ob) (ls : Array Slot) (H : Heap) (locs : List Loc), lv_has ls 5 [(0, .ref h0), (1, .int x1), (2, .int x2), (3, .int x3), (4, .int x4)] → va_P G.1 CL (cw_Md G h0 q0 o0) H → va_D A (cw_Md G h0 q0 o0) → va_S A s.heap H locs → f_Md_grid_33 Q n x1 x2 x3 x4 o0 → W p l e rm_Md_grid s m args below meth c H locs 0 0 (MQ below (va_Qi (fun (r : Int32) (u : Ob) => Q r u) (fun (u : Ob) t => BW G A (cw_Md G h0 q0 u) t) A) args s 0 0 A) (F0 m 33 ls []) := by
  obtain ⟨hx, hb, hml, hown, hr, hts, hK, hA, hlocks, hE⟩ := id C
  intro n
  induction n with
  | zero => intro x1 x2 x3 x4 o0 ls H locs hl hP hD hS h; exact absurd h id
  | succ n ih =>
    intro x1 x2 x3 x4 o0 ls H locs hl hP hD hS h
    have hP : va_P G.1 CL [(h0, .inr (11, [.int (gI o0 0), .ref (q0 1), .ref (q0 2), .ref (q0 3), .ref (q0 4), .ref (q0 5), .ref (q0 6), .int (gI o0 7), .int (gI o0 8), .int (gI o0 9), .int (gI o0 10), .int (gI o0 11), .int (gI o0 12), .int (gI o0 13), .int (gI o0 14), .long (gL o0 15), .int (gI o0 16), .int (gI o0 17), .int (gI o0 18), .int (gI o0 19), .int (gI o0 20), .int (gI o0 21), .int (gI o0 22), .int (gI o0 23), .int (gI o0 24), .int (gI o0 25), .int (gI o0 26), .int (gI o0 27), .ref (q0 28), .long (gL o0 29), .int (gI o0 30), .ref (q0 31), .ref (q0 32), .ref (q0 33), .int (gI o0 34), .int (gI o0 35), .int (gI o0 36), .int (gI o0 37), .ref (q0 38), .ref (q0 39), .int (gI o0 40), .ref (q0 41), .ref (q0 42), .ref (q0 43), .ref (q0 44)])), kI G (q0 1) 6100 (gA o0 1), kI G (q0 2) 6100 (gA o0 2), kJ G (q0 3) 2016 (gB o0 3), kJ G (q0 4) 2016 (gB o0 4), kI G (q0 5) 300 (gA o0 5), kI G (q0 6) 400 (gA o0 6), kJ G (q0 28) 10 (gB o0 28), kI G (q0 31) 969 (gA o0 31), kI G (q0 32) 969 (gA o0 32), kI G (q0 33) 969 (gA o0 33), kI G (q0 38) 5 (gA o0 38), kI G (q0 39) 5120 (gA o0 39), kI G (q0 41) 5 (gA o0 41), kZ G (q0 42) 1024 (gA o0 42), kI G (q0 43) 8192 (gA o0 43), kI G (q0 44) 8192 (gA o0 44)] H := hP
    have hD : va_D A [(h0, .inr (11, [.int (gI o0 0), .ref (q0 1), .ref (q0 2), .ref (q0 3), .ref (q0 4), .ref (q0 5), .ref (q0 6), .int (gI o0 7), .int (gI o0 8), .int (gI o0 9), .int (gI o0 10), .int (gI o0 11), .int (gI o0 12), .int (gI o0 13), .int (gI o0 14), .long (gL o0 15), .int (gI o0 16), .int (gI o0 17), .int (gI o0 18), .int (gI o0 19), .int (gI o0 20), .int (gI o0 21), .int (gI o0 22), .int (gI o0 23), .int (gI o0 24), .int (gI o0 25), .int (gI o0 26), .int (gI o0 27), .ref (q0 28), .long (gL o0 29), .int (gI o0 30), .ref (q0 31), .ref (q0 32), .ref (q0 33), .int (gI o0 34), .int (gI o0 35), .int (gI o0 36), .int (gI o0 37), .ref (q0 38), .ref (q0 39), .int (gI o0 40), .ref (q0 41), .ref (q0 42), .ref (q0 43), .ref (q0 44)])), kI G (q0 1) 6100 (gA o0 1), kI G (q0 2) 6100 (gA o0 2), kJ G (q0 3) 2016 (gB o0 3), kJ G (q0 4) 2016 (gB o0 4), kI G (q0 5) 300 (gA o0 5), kI G (q0 6) 400 (gA o0 6), kJ G (q0 28) 10 (gB o0 28), kI G (q0 31) 969 (gA o0 31), kI G (q0 32) 969 (gA o0 32), kI G (q0 33) 969 (gA o0 33), kI G (q0 38) 5 (gA o0 38), kI G (q0 39) 5120 (gA o0 39), kI G (q0 41) 5 (gA o0 41), kZ G (q0 42) 1024 (gA o0 42), kI G (q0 43) 8192 (gA o0 43), kI G (q0 44) 8192 (gA o0 44)] := hD
    unfold f_Md_grid_33 at h
    refine lv_iload hx hb d_Md_grid_33 (lv_at hl 4 rfl) ?_
    refine lv_bipush (v := (13 : Int32)) hx hb d_Md_grid_35 (by decide) ?_
    refine lv_icmp_ge (tgt := 55) hx hb d_Md_grid_37 (by decide) (fun c1 => ?_) (fun c1 => ?_)
    · have h := h.1 c1
      refine lv_iload_n hx hb d_Md_grid_55 rfl (lv_at hl 3 rfl) ?_
      refine lv_iconst (v := (4 : Int32)) hx hb d_Md_grid_56 (by decide) ?_
      refine lv_icmp_le (tgt := 62) hx hb d_Md_grid_57 (by decide) (fun c2 => ?_) (fun c2 => ?_)
      · have h := h.1 c2
        refine lv_aload_n hx hb d_Md_grid_62 rfl (lv_at hl 0 rfl) ?_
        refine va_get (D := G.1) (ci := 11) (v := .ref (q0 1)) (C := R_Md) (T := T_Md) (N := 45) hx hb hts i_Md hown hK hP 0 rfl rfl 1 (by decide) (hts _ wf_Md_7) (fun _ h9 => h9) rfl d_Md_grid_63 ?_
        refine lv_bipush (v := (30 : Int32)) hx hb d_Md_grid_66 (by decide) ?_
        refine lv_iload_n hx hb d_Md_grid_68 rfl (lv_at hl 1 rfl) ?_
        refine lv_iadd hx hb d_Md_grid_69 ?_
        refine lv_iload_n hx hb d_Md_grid_70 rfl (lv_at hl 2 rfl) ?_
        have g3 := h.1
        have h := h.2
        refine xa_iast hx hb hK hP hD hS 1 0 rfl rfl g3 (k := ((30 : Int32) + x1).toNatClampNeg) rfl d_Md_grid_71 (fun H locs hP hD hS => ?_)
        have hP : va_P G.1 CL [(h0, .inr (11, [.int (gI o0 0), .ref (q0 1), .ref (q0 2), .ref (q0 3), .ref (q0 4), .ref (q0 5), .ref (q0 6), .int (gI o0 7), .int (gI o0 8), .int (gI o0 9), .int (gI o0 10), .int (gI o0 11), .int (gI o0 12), .int (gI o0 13), .int (gI o0 14), .long (gL o0 15), .int (gI o0 16), .int (gI o0 17), .int (gI o0 18), .int (gI o0 19), .int (gI o0 20), .int (gI o0 21), .int (gI o0 22), .int (gI o0 23), .int (gI o0 24), .int (gI o0 25), .int (gI o0 26), .int (gI o0 27), .ref (q0 28), .long (gL o0 29), .int (gI o0 30), .ref (q0 31), .ref (q0 32), .ref (q0 33), .int (gI o0 34), .int (gI o0 35), .int (gI o0 36), .int (gI o0 37), .ref (q0 38), .ref (q0 39), .int (gI o0 40), .ref (q0 41), .ref (q0 42), .ref (q0 43), .ref (q0 44)])), kI G (q0 1) 6100 (upd (gA o0 1) (((30 : Int32) + x1).toNatClampNeg) x2), kI G (q0 2) 6100 (gA o0 2), kJ G (q0 3) 2016 (gB o0 3), kJ G (q0 4) 2016 (gB o0 4), kI G (q0 5) 300 (gA o0 5), kI G (q0 6) 400 (gA o0 6), kJ G (q0 28) 10 (gB o0 28), kI G (q0 31) 969 (gA o0 31), kI G (q0 32) 969 (gA o0 32), kI G (q0 33) 969 (gA o0 33), kI G (q0 38) 5 (gA o0 38), kI G (q0 39) 5120 (gA o0 39), kI G (q0 41) 5 (gA o0 41), kZ G (q0 42) 1024 (gA o0 42), kI G (q0 43) 8192 (gA o0 43), kI G (q0 44) 8192 (gA o0 44)] H := hP
        have hD : va_D A [(h0, .inr (11, [.int (gI o0 0), .ref (q0 1), .ref (q0 2), .ref (q0 3), .ref (q0 4), .ref (q0 5), .ref (q0 6), .int (gI o0 7), .int (gI o0 8), .int (gI o0 9), .int (gI o0 10), .int (gI o0 11), .int (gI o0 12), .int (gI o0 13), .int (gI o0 14), .long (gL o0 15), .int (gI o0 16), .int (gI o0 17), .int (gI o0 18), .int (gI o0 19), .int (gI o0 20), .int (gI o0 21), .int (gI o0 22), .int (gI o0 23), .int (gI o0 24), .int (gI o0 25), .int (gI o0 26), .int (gI o0 27), .ref (q0 28), .long (gL o0 29), .int (gI o0 30), .ref (q0 31), .ref (q0 32), .ref (q0 33), .int (gI o0 34), .int (gI o0 35), .int (gI o0 36), .int (gI o0 37), .ref (q0 38), .ref (q0 39), .int (gI o0 40), .ref (q0 41), .ref (q0 42), .ref (q0 43), .ref (q0 44)])), kI G (q0 1) 6100 (upd (gA o0 1) (((30 : Int32) + x1).toNatClampNeg) x2), kI G (q0 2) 6100 (gA o0 2), kJ G (q0 3) 2016 (gB o0 3), kJ G (q0 4) 2016 (gB o0 4), kI G (q0 5) 300 (gA o0 5), kI G (q0 6) 400 (gA o0 6), kJ G (q0 28) 10 (gB o0 28), kI G (q0 31) 969 (gA o0 31), kI G (q0 32) 969 (gA o0 32), kI G (q0 33) 969 (gA o0 33), kI G (q0 38) 5 (gA o0 38), kI G (q0 39) 5120 (gA o0 39), kI G (q0 41) 5 (gA o0 41), kZ G (q0 42) 1024 (gA o0 42), kI G (q0 43) 8192 (gA o0 43), kI G (q0 44) 8192 (gA o0 44)] := hD
        refine lv_aload_n hx hb d_Md_grid_72 rfl (lv_at hl 0 rfl) ?_
        refine cl_Vv (b := b_Md_grid) (As := []) (rest := []) (ws := [(h0, .inr (11, [.int (gI o0 0), .ref (q0 1), .ref (q0 2), .ref (q0 3), .ref (q0 4), .ref (q0 5), .ref (q0 6), .int (gI o0 7), .int (gI o0 8), .int (gI o0 9), .int (gI o0 10), .int (gI o0 11), .int (gI o0 12), .int (gI o0 13), .int (gI o0 14), .long (gL o0 15), .int (gI o0 16), .int (gI o0 17), .int (gI o0 18), .int (gI o0 19), .int (gI o0 20), .int (gI o0 21), .int (gI o0 22), .int (gI o0 23), .int (gI o0 24), .int (gI o0 25), .int (gI o0 26), .int (gI o0 27), .ref (q0 28), .long (gL o0 29), .int (gI o0 30), .ref (q0 31), .ref (q0 32), .ref (q0 33), .int (gI o0 34), .int (gI o0 35), .int (gI o0 36), .int (gI o0 37), .ref (q0 38), .ref (q0 39), .int (gI o0 40), .ref (q0 41), .ref (q0 42), .ref (q0 43), .ref (q0 44)])), kI G (q0 1) 6100 (upd (gA o0 1) (((30 : Int32) + x1).toNatClampNeg) x2), kI G (q0 2) 6100 (gA o0 2), kJ G (q0 3) 2016 (gB o0 3), kJ G (q0 4) 2016 (gB o0 4), kI G (q0 5) 300 (gA o0 5), kI G (q0 6) 400 (gA o0 6), kJ G (q0 28) 10 (gB o0 28), kI G (q0 31) 969 (gA o0 31), kI G (q0 32) 969 (gA o0 32), kI G (q0 33) 969 (gA o0 33), kI G (q0 38) 5 (gA o0 38), kI G (q0 39) 5120 (gA o0 39), kI G (q0 41) 5 (gA o0 41), kZ G (q0 42) 1024 (gA o0 42), kI G (q0 43) 8192 (gA o0 43), kI G (q0 44) 8192 (gA o0 44)]) (wr := []) (w2 := fun (u : Ob) => [(h0, .inr (11, [.int (gI u 0), .ref (q0 1), .ref (q0 2), .ref (q0 3), .ref (q0 4), .ref (q0 5), .ref (q0 6), .int (gI u 7), .int (gI u 8), .int (gI u 9), .int (gI u 10), .int (gI u 11), .int (gI u 12), .int (gI u 13), .int (gI u 14), .long (gL u 15), .int (gI u 16), .int (gI u 17), .int (gI u 18), .int (gI u 19), .int (gI u 20), .int (gI u 21), .int (gI u 22), .int (gI u 23), .int (gI u 24), .int (gI u 25), .int (gI u 26), .int (gI u 27), .ref (q0 28), .long (gL u 29), .int (gI u 30), .ref (q0 31), .ref (q0 32), .ref (q0 33), .int (gI u 34), .int (gI u 35), .int (gI u 36), .int (gI u 37), .ref (q0 38), .ref (q0 39), .int (gI u 40), .ref (q0 41), .ref (q0 42), .ref (q0 43), .ref (q0 44)])), kI G (q0 1) 6100 (gA u 1), kI G (q0 2) 6100 (gA u 2), kJ G (q0 3) 2016 (gB u 3), kJ G (q0 4) 2016 (gB u 4), kI G (q0 5) 300 (gA u 5), kI G (q0 6) 400 (gA u 6), kJ G (q0 28) 10 (gB u 28), kI G (q0 31) 969 (gA u 31), kI G (q0 32) 969 (gA u 32), kI G (q0 33) 969 (gA u 33), kI G (q0 38) 5 (gA u 38), kI G (q0 39) 5120 (gA u 39), kI G (q0 41) 5 (gA u 41), kZ G (q0 42) 1024 (gA u 42), kI G (q0 43) 8192 (gA u 43), kI G (q0 44) 8192 (gA u 44)]) C (c_Md_findShapes (h0 := h0) (q0 := q0) H.size h) wv_Md_276 ⟨Nat.le_of_ble_eq_true rfl, Nat.le_of_ble_eq_true rfl⟩ hP hD hS 0 rfl rfl [0, 1, 2, 3, 4, 5, 6, 7, 8, 9, 10, 11, 12, 13, 14, 15, 16] [] rfl rfl (by decide) (by decide) (by decide) [0, 1, 2, 3, 4, 5, 6, 7, 8, 9, 10, 11, 12, 13, 14, 15, 16] (by decide) (fun u => rfl) rfl hl.1 rfl (lv_room (Nat.le_of_ble_eq_true rfl)) d_Md_grid_73 ⟨Nat.le_of_ble_eq_true rfl, Nat.le_of_ble_eq_true rfl⟩ rfl rfl (fun u H locs h hP hD hS => ?_)
        generalize u = u4 at h hP hD
        have hP : va_P G.1 CL [(h0, .inr (11, [.int (gI u4 0), .ref (q0 1), .ref (q0 2), .ref (q0 3), .ref (q0 4), .ref (q0 5), .ref (q0 6), .int (gI u4 7), .int (gI u4 8), .int (gI u4 9), .int (gI u4 10), .int (gI u4 11), .int (gI u4 12), .int (gI u4 13), .int (gI u4 14), .long (gL u4 15), .int (gI u4 16), .int (gI u4 17), .int (gI u4 18), .int (gI u4 19), .int (gI u4 20), .int (gI u4 21), .int (gI u4 22), .int (gI u4 23), .int (gI u4 24), .int (gI u4 25), .int (gI u4 26), .int (gI u4 27), .ref (q0 28), .long (gL u4 29), .int (gI u4 30), .ref (q0 31), .ref (q0 32), .ref (q0 33), .int (gI u4 34), .int (gI u4 35), .int (gI u4 36), .int (gI u4 37), .ref (q0 38), .ref (q0 39), .int (gI u4 40), .ref (q0 41), .ref (q0 42), .ref (q0 43), .ref (q0 44)])), kI G (q0 1) 6100 (gA u4 1), kI G (q0 2) 6100 (gA u4 2), kJ G (q0 3) 2016 (gB u4 3), kJ G (q0 4) 2016 (gB u4 4), kI G (q0 5) 300 (gA u4 5), kI G (q0 6) 400 (gA u4 6), kJ G (q0 28) 10 (gB u4 28), kI G (q0 31) 969 (gA u4 31), kI G (q0 32) 969 (gA u4 32), kI G (q0 33) 969 (gA u4 33), kI G (q0 38) 5 (gA u4 38), kI G (q0 39) 5120 (gA u4 39), kI G (q0 41) 5 (gA u4 41), kZ G (q0 42) 1024 (gA u4 42), kI G (q0 43) 8192 (gA u4 43), kI G (q0 44) 8192 (gA u4 44)] H := hP
        have hD : va_D A [(h0, .inr (11, [.int (gI u4 0), .ref (q0 1), .ref (q0 2), .ref (q0 3), .ref (q0 4), .ref (q0 5), .ref (q0 6), .int (gI u4 7), .int (gI u4 8), .int (gI u4 9), .int (gI u4 10), .int (gI u4 11), .int (gI u4 12), .int (gI u4 13), .int (gI u4 14), .long (gL u4 15), .int (gI u4 16), .int (gI u4 17), .int (gI u4 18), .int (gI u4 19), .int (gI u4 20), .int (gI u4 21), .int (gI u4 22), .int (gI u4 23), .int (gI u4 24), .int (gI u4 25), .int (gI u4 26), .int (gI u4 27), .ref (q0 28), .long (gL u4 29), .int (gI u4 30), .ref (q0 31), .ref (q0 32), .ref (q0 33), .int (gI u4 34), .int (gI u4 35), .int (gI u4 36), .int (gI u4 37), .ref (q0 38), .ref (q0 39), .int (gI u4 40), .ref (q0 41), .ref (q0 42), .ref (q0 43), .ref (q0 44)])), kI G (q0 1) 6100 (gA u4 1), kI G (q0 2) 6100 (gA u4 2), kJ G (q0 3) 2016 (gB u4 3), kJ G (q0 4) 2016 (gB u4 4), kI G (q0 5) 300 (gA u4 5), kI G (q0 6) 400 (gA u4 6), kJ G (q0 28) 10 (gB u4 28), kI G (q0 31) 969 (gA u4 31), kI G (q0 32) 969 (gA u4 32), kI G (q0 33) 969 (gA u4 33), kI G (q0 38) 5 (gA u4 38), kI G (q0 39) 5120 (gA u4 39), kI G (q0 41) 5 (gA u4 41), kZ G (q0 42) 1024 (gA u4 42), kI G (q0 43) 8192 (gA u4 43), kI G (q0 44) 8192 (gA u4 44)] := hD
        refine lv_aload_n hx hb d_Md_grid_76 rfl (lv_at hl 0 rfl) ?_
        refine va_get (D := G.1) (ci := 11) (v := .int (gI u4 40)) (C := R_Md) (T := T_Md) (N := 45) hx hb hts i_Md hown hK hP 0 rfl rfl 40 (by decide) (hts _ wf_Md_273) (fun _ h9 => h9) rfl d_Md_grid_77 ?_
        have hP : va_P G.1 CL (cw_Md G h0 q0 u4) H := hP
        have hD : va_D A (cw_Md G h0 q0 u4) := hD
        exact W.iret (v := (gI u4 40)) hx hb hr (fun t ht hW => ⟨⟨(gI u4 40), u4, rfl, h, by rw [ht]; exact hP, va_K.moved hW.alike hK, hD⟩, hS.F ht⟩) hS.2.2 d_Md_grid_80
      · have h := h.2 c2
        refine lv_iconst (v := (-1 : Int32)) hx hb d_Md_grid_60 (by decide) ?_
        have hP : va_P G.1 CL (cw_Md G h0 q0 o0) H := hP
        have hD : va_D A (cw_Md G h0 q0 o0) := hD
        exact W.iret (v := (-1 : Int32)) hx hb hr (fun t ht hW => ⟨⟨(-1 : Int32), o0, rfl, h, by rw [ht]; exact hP, va_K.moved hW.alike hK, hD⟩, hS.F ht⟩) hS.2.2 d_Md_grid_61
    · have h := h.2 c1
      refine lv_iload_n hx hb d_Md_grid_40 rfl (lv_at hl 3 rfl) ?_
      refine lv_iload_n hx hb d_Md_grid_41 rfl (lv_at hl 2 rfl) ?_
      refine lv_iload hx hb d_Md_grid_42 (lv_at hl 4 rfl) ?_
      refine lv_ishr hx hb d_Md_grid_44 ?_
      refine lv_iconst (v := (1 : Int32)) hx hb d_Md_grid_45 (by decide) ?_
      refine lv_iand hx hb d_Md_grid_46 ?_
      refine lv_iadd hx hb d_Md_grid_47 ?_
      refine lv_istore_n (lv' := [(3, .int (x3 + ((x2 >>> (x4 &&& 31)) &&& (1 : Int32)))), (0, .ref h0), (1, .int x1), (2, .int x2), (4, .int x4)]) hx hb d_Md_grid_48 rfl hl (by decide) rfl (fun ls hl => ?_)
      refine lv_iinc (v := (x4 + (1 : Int32))) (lv' := [(4, .int (x4 + (1 : Int32))), (3, .int (x3 + ((x2 >>> (x4 &&& 31)) &&& (1 : Int32)))), (0, .ref h0), (1, .int x1), (2, .int x2)]) hx hb d_Md_grid_49 hl (k := 4) rfl rfl (by decide) rfl (fun ls hl => ?_)
      refine lv_goto (tgt := 33) hx hb d_Md_grid_52 (by decide) ?_
      have hl := lv_sub (l' := [(0, .ref h0), (1, .int x1), (2, .int x2), (3, .int (x3 + ((x2 >>> (x4 &&& 31)) &&& (1 : Int32)))), (4, .int (x4 + (1 : Int32)))]) hl [2, 3, 4, 1, 0] rfl
      have hP : va_P G.1 CL (cw_Md G h0 q0 o0) H := hP
      have hD : va_D A (cw_Md G h0 q0 o0) := hD
      exact ih x1 x2 (x3 + ((x2 >>> (x4 &&& 31)) &&& (1 : Int32))) (x4 + (1 : Int32)) o0 ls H locs hl hP hD hS h
set_option maxHeartbeats 4000000 in
set_option maxRecDepth 100000 in
theorem c_Md_grid {l : Launch} {G : Gl} {h0 : Nat} {q0 : Nat → Nat} {a0 : Int32} {a1 : Int32} {o0 : Ob} {Q : Int32 → Ob → Prop} (sz : Nat) (h : f_Md_grid a0 a1 o0 Q) : Met l y_Md_grid w_Md_grid rm_Md_grid (PcW G [.ref h0, .int a0, .int a1] sz (cw_Md G h0 q0 o0)) (va_Qi (fun (r : Int32) (u : Ob) => Q r u) (fun (u : Ob) t => BW G (va_A (cw_Md G h0 q0 o0) sz) (cw_Md G h0 q0 u) t) (va_A (cw_Md G h0 q0 o0) sz)) 0 0 (va_A (cw_Md G h0 q0 o0) sz) := by
  refine Met.ofW (cc := b_Md_grid) (maxL := 5) (ret := (some .int)) (by decide +kernel) rfl ?_
  intro p e s m args below meth c s₁ B hml hv
  obtain ⟨rfl, hsz, hP, hK, hD0, hE⟩ := hv
  have hx := B.exec
  have hb := B.bytes
  have hr := B.returns
  have hts0 := atoms_spec (ws := w_Md_grid) B.pre
  have hts : ∀ w ∈ gw_tbl, w.before ([.ref h0, .int a0, .int a1]).toArray s = true := fun w hw => hts0 w (List.mem_cons_of_mem _ hw)
  have hown : s.vm.findClass R_Md = some m.cls := findClass_of_methodNamed B.named
  have hlocks := B.notSynchronized
  subst hsz
  have hD := hD0.self (sz := s.heap.size)
  generalize hAe : va_A (cw_Md G h0 q0 o0) s.heap.size = A at hD hE ⊢
  have hA : ∀ q : Nat, s.heap.size ≤ q → A q := fun q h => by rw [← hAe]; exact Or.inr h
  have hS : va_S A s.heap s.heap [] := va_S.rf
  have C : Cx p s m ([.ref h0, .int a0, .int a1]).toArray meth c R_Md b_Md_grid 5 (some .int) G A := ⟨hx, hb, hml, hown, hr, hts, hK, hA, hlocks, hE⟩
  have hl := lv_entry ([.ref h0, .int a0, .int a1]) (n := 5) (Nat.le_of_ble_eq_true rfl)
  rw [lg_entry_eq]
  generalize (lg_sl ([.ref h0, .int a0, .int a1]) ++ List.replicate (5 - (lg_sl ([.ref h0, .int a0, .int a1])).length) Slot.unset).toArray = ls at hl ⊢
  have hl : lv_has ls 5 [(0, .ref h0), (1, .int a0), (2, .int a1)] := hl
  have hD : va_D A [(h0, .inr (11, [.int (gI o0 0), .ref (q0 1), .ref (q0 2), .ref (q0 3), .ref (q0 4), .ref (q0 5), .ref (q0 6), .int (gI o0 7), .int (gI o0 8), .int (gI o0 9), .int (gI o0 10), .int (gI o0 11), .int (gI o0 12), .int (gI o0 13), .int (gI o0 14), .long (gL o0 15), .int (gI o0 16), .int (gI o0 17), .int (gI o0 18), .int (gI o0 19), .int (gI o0 20), .int (gI o0 21), .int (gI o0 22), .int (gI o0 23), .int (gI o0 24), .int (gI o0 25), .int (gI o0 26), .int (gI o0 27), .ref (q0 28), .long (gL o0 29), .int (gI o0 30), .ref (q0 31), .ref (q0 32), .ref (q0 33), .int (gI o0 34), .int (gI o0 35), .int (gI o0 36), .int (gI o0 37), .ref (q0 38), .ref (q0 39), .int (gI o0 40), .ref (q0 41), .ref (q0 42), .ref (q0 43), .ref (q0 44)])), kI G (q0 1) 6100 (gA o0 1), kI G (q0 2) 6100 (gA o0 2), kJ G (q0 3) 2016 (gB o0 3), kJ G (q0 4) 2016 (gB o0 4), kI G (q0 5) 300 (gA o0 5), kI G (q0 6) 400 (gA o0 6), kJ G (q0 28) 10 (gB o0 28), kI G (q0 31) 969 (gA o0 31), kI G (q0 32) 969 (gA o0 32), kI G (q0 33) 969 (gA o0 33), kI G (q0 38) 5 (gA o0 38), kI G (q0 39) 5120 (gA o0 39), kI G (q0 41) 5 (gA o0 41), kZ G (q0 42) 1024 (gA o0 42), kI G (q0 43) 8192 (gA o0 43), kI G (q0 44) 8192 (gA o0 44)] := hD
  unfold f_Md_grid at h
  suffices key : ∀ (H : Heap) (locs : List Loc), va_P G.1 CL [(h0, .inr (11, [.int (gI o0 0), .ref (q0 1), .ref (q0 2), .ref (q0 3), .ref (q0 4), .ref (q0 5), .ref (q0 6), .int (gI o0 7), .int (gI o0 8), .int (gI o0 9), .int (gI o0 10), .int (gI o0 11), .int (gI o0 12), .int (gI o0 13), .int (gI o0 14), .long (gL o0 15), .int (gI o0 16), .int (gI o0 17), .int (gI o0 18), .int (gI o0 19), .int (gI o0 20), .int (gI o0 21), .int (gI o0 22), .int (gI o0 23), .int (gI o0 24), .int (gI o0 25), .int (gI o0 26), .int (gI o0 27), .ref (q0 28), .long (gL o0 29), .int (gI o0 30), .ref (q0 31), .ref (q0 32), .ref (q0 33), .int (gI o0 34), .int (gI o0 35), .int (gI o0 36), .int (gI o0 37), .ref (q0 38), .ref (q0 39), .int (gI o0 40), .ref (q0 41), .ref (q0 42), .ref (q0 43), .ref (q0 44)])), kI G (q0 1) 6100 (gA o0 1), kI G (q0 2) 6100 (gA o0 2), kJ G (q0 3) 2016 (gB o0 3), kJ G (q0 4) 2016 (gB o0 4), kI G (q0 5) 300 (gA o0 5), kI G (q0 6) 400 (gA o0 6), kJ G (q0 28) 10 (gB o0 28), kI G (q0 31) 969 (gA o0 31), kI G (q0 32) 969 (gA o0 32), kI G (q0 33) 969 (gA o0 33), kI G (q0 38) 5 (gA o0 38), kI G (q0 39) 5120 (gA o0 39), kI G (q0 41) 5 (gA o0 41), kZ G (q0 42) 1024 (gA o0 42), kI G (q0 43) 8192 (gA o0 43), kI G (q0 44) 8192 (gA o0 44)] H → va_S A s.heap H locs → W p l e rm_Md_grid s m ([.ref h0, .int a0, .int a1]).toArray below meth c H locs 0 0 (MQ below (va_Qi (fun (r : Int32) (u : Ob) => Q r u) (fun (u : Ob) t => BW G A (cw_Md G h0 q0 u) t) A) ([.ref h0, .int a0, .int a1]).toArray s 0 0 A) (F0 m 0 ls []) from key s.heap [] hP hS
  intro H locs hP hS
  refine lv_aload_n hx hb d_Md_grid_0 rfl (lv_at hl 0 rfl) ?_
  refine lv_iload_n hx hb d_Md_grid_1 rfl (lv_at hl 1 rfl) ?_
  refine cl_Vi (b := b_Md_grid) (As := [.int a0]) (rest := []) (ws := [(h0, .inr (11, [.int (gI o0 0), .ref (q0 1), .ref (q0 2), .ref (q0 3), .ref (q0 4), .ref (q0 5), .ref (q0 6), .int (gI o0 7), .int (gI o0 8), .int (gI o0 9), .int (gI o0 10), .int (gI o0 11), .int (gI o0 12), .int (gI o0 13), .int (gI o0 14), .long (gL o0 15), .int (gI o0 16), .int (gI o0 17), .int (gI o0 18), .int (gI o0 19), .int (gI o0 20), .int (gI o0 21), .int (gI o0 22), .int (gI o0 23), .int (gI o0 24), .int (gI o0 25), .int (gI o0 26), .int (gI o0 27), .ref (q0 28), .long (gL o0 29), .int (gI o0 30), .ref (q0 31), .ref (q0 32), .ref (q0 33), .int (gI o0 34), .int (gI o0 35), .int (gI o0 36), .int (gI o0 37), .ref (q0 38), .ref (q0 39), .int (gI o0 40), .ref (q0 41), .ref (q0 42), .ref (q0 43), .ref (q0 44)])), kI G (q0 1) 6100 (gA o0 1), kI G (q0 2) 6100 (gA o0 2), kJ G (q0 3) 2016 (gB o0 3), kJ G (q0 4) 2016 (gB o0 4), kI G (q0 5) 300 (gA o0 5), kI G (q0 6) 400 (gA o0 6), kJ G (q0 28) 10 (gB o0 28), kI G (q0 31) 969 (gA o0 31), kI G (q0 32) 969 (gA o0 32), kI G (q0 33) 969 (gA o0 33), kI G (q0 38) 5 (gA o0 38), kI G (q0 39) 5120 (gA o0 39), kI G (q0 41) 5 (gA o0 41), kZ G (q0 42) 1024 (gA o0 42), kI G (q0 43) 8192 (gA o0 43), kI G (q0 44) 8192 (gA o0 44)]) (wr := []) (w2 := fun (u : Unit) => [(h0, .inr (11, [.int (gI o0 0), .ref (q0 1), .ref (q0 2), .ref (q0 3), .ref (q0 4), .ref (q0 5), .ref (q0 6), .int (gI o0 7), .int (gI o0 8), .int (gI o0 9), .int (gI o0 10), .int (gI o0 11), .int (gI o0 12), .int (gI o0 13), .int (gI o0 14), .long (gL o0 15), .int (gI o0 16), .int (gI o0 17), .int (gI o0 18), .int (gI o0 19), .int (gI o0 20), .int (gI o0 21), .int (gI o0 22), .int (gI o0 23), .int (gI o0 24), .int (gI o0 25), .int (gI o0 26), .int (gI o0 27), .ref (q0 28), .long (gL o0 29), .int (gI o0 30), .ref (q0 31), .ref (q0 32), .ref (q0 33), .int (gI o0 34), .int (gI o0 35), .int (gI o0 36), .int (gI o0 37), .ref (q0 38), .ref (q0 39), .int (gI o0 40), .ref (q0 41), .ref (q0 42), .ref (q0 43), .ref (q0 44)])), kI G (q0 1) 6100 (gA o0 1), kI G (q0 2) 6100 (gA o0 2), kJ G (q0 3) 2016 (gB o0 3), kJ G (q0 4) 2016 (gB o0 4), kI G (q0 5) 300 (gA o0 5), kI G (q0 6) 400 (gA o0 6), kJ G (q0 28) 10 (gB o0 28), kI G (q0 31) 969 (gA o0 31), kI G (q0 32) 969 (gA o0 32), kI G (q0 33) 969 (gA o0 33), kI G (q0 38) 5 (gA o0 38), kI G (q0 39) 5120 (gA o0 39), kI G (q0 41) 5 (gA o0 41), kZ G (q0 42) 1024 (gA o0 42), kI G (q0 43) 8192 (gA o0 43), kI G (q0 44) 8192 (gA o0 44)]) C (c_Md_isPiece (h0 := h0) (q0 := q0) H.size h) wv_Md_169 ⟨Nat.le_of_ble_eq_true rfl, Nat.le_of_ble_eq_true rfl⟩ hP hD hS 0 rfl rfl [0, 1, 2, 3, 4, 5, 6, 7, 8, 9, 10, 11, 12, 13, 14, 15, 16] [] rfl rfl (by decide) (by decide) (by decide) [0, 1, 2, 3, 4, 5, 6, 7, 8, 9, 10, 11, 12, 13, 14, 15, 16] (by decide) (fun u => rfl) rfl hl.1 rfl (lv_room (Nat.le_of_ble_eq_true rfl)) d_Md_grid_2 ⟨Nat.le_of_ble_eq_true rfl, Nat.le_of_ble_eq_true rfl⟩ rfl rfl (fun z5 u H locs h hP hD hS => ?_)
  have hP : va_P G.1 CL [(h0, .inr (11, [.int (gI o0 0), .ref (q0 1), .ref (q0 2), .ref (q0 3), .ref (q0 4), .ref (q0 5), .ref (q0 6), .int (gI o0 7), .int (gI o0 8), .int (gI o0 9), .int (gI o0 10), .int (gI o0 11), .int (gI o0 12), .int (gI o0 13), .int (gI o0 14), .long (gL o0 15), .int (gI o0 16), .int (gI o0 17), .int (gI o0 18), .int (gI o0 19), .int (gI o0 20), .int (gI o0 21), .int (gI o0 22), .int (gI o0 23), .int (gI o0 24), .int (gI o0 25), .int (gI o0 26), .int (gI o0 27), .ref (q0 28), .long (gL o0 29), .int (gI o0 30), .ref (q0 31), .ref (q0 32), .ref (q0 33), .int (gI o0 34), .int (gI o0 35), .int (gI o0 36), .int (gI o0 37), .ref (q0 38), .ref (q0 39), .int (gI o0 40), .ref (q0 41), .ref (q0 42), .ref (q0 43), .ref (q0 44)])), kI G (q0 1) 6100 (gA o0 1), kI G (q0 2) 6100 (gA o0 2), kJ G (q0 3) 2016 (gB o0 3), kJ G (q0 4) 2016 (gB o0 4), kI G (q0 5) 300 (gA o0 5), kI G (q0 6) 400 (gA o0 6), kJ G (q0 28) 10 (gB o0 28), kI G (q0 31) 969 (gA o0 31), kI G (q0 32) 969 (gA o0 32), kI G (q0 33) 969 (gA o0 33), kI G (q0 38) 5 (gA o0 38), kI G (q0 39) 5120 (gA o0 39), kI G (q0 41) 5 (gA o0 41), kZ G (q0 42) 1024 (gA o0 42), kI G (q0 43) 8192 (gA o0 43), kI G (q0 44) 8192 (gA o0 44)] H := hP
  have hD : va_D A [(h0, .inr (11, [.int (gI o0 0), .ref (q0 1), .ref (q0 2), .ref (q0 3), .ref (q0 4), .ref (q0 5), .ref (q0 6), .int (gI o0 7), .int (gI o0 8), .int (gI o0 9), .int (gI o0 10), .int (gI o0 11), .int (gI o0 12), .int (gI o0 13), .int (gI o0 14), .long (gL o0 15), .int (gI o0 16), .int (gI o0 17), .int (gI o0 18), .int (gI o0 19), .int (gI o0 20), .int (gI o0 21), .int (gI o0 22), .int (gI o0 23), .int (gI o0 24), .int (gI o0 25), .int (gI o0 26), .int (gI o0 27), .ref (q0 28), .long (gL o0 29), .int (gI o0 30), .ref (q0 31), .ref (q0 32), .ref (q0 33), .int (gI o0 34), .int (gI o0 35), .int (gI o0 36), .int (gI o0 37), .ref (q0 38), .ref (q0 39), .int (gI o0 40), .ref (q0 41), .ref (q0 42), .ref (q0 43), .ref (q0 44)])), kI G (q0 1) 6100 (gA o0 1), kI G (q0 2) 6100 (gA o0 2), kJ G (q0 3) 2016 (gB o0 3), kJ G (q0 4) 2016 (gB o0 4), kI G (q0 5) 300 (gA o0 5), kI G (q0 6) 400 (gA o0 6), kJ G (q0 28) 10 (gB o0 28), kI G (q0 31) 969 (gA o0 31), kI G (q0 32) 969 (gA o0 32), kI G (q0 33) 969 (gA o0 33), kI G (q0 38) 5 (gA o0 38), kI G (q0 39) 5120 (gA o0 39), kI G (q0 41) 5 (gA o0 41), kZ G (q0 42) 1024 (gA o0 42), kI G (q0 43) 8192 (gA o0 43), kI G (q0 44) 8192 (gA o0 44)] := hD
  refine lv_if_eq (tgt := 26) hx hb d_Md_grid_5 (by decide) (fun c6 => ?_) (fun c6 => ?_)
  · have h := h.1 c6
    refine lv_iconst (v := (-1 : Int32)) hx hb d_Md_grid_26 (by decide) ?_
    have hP : va_P G.1 CL (cw_Md G h0 q0 o0) H := hP
    have hD : va_D A (cw_Md G h0 q0 o0) := hD
    exact W.iret (v := (-1 : Int32)) hx hb hr (fun t ht hW => ⟨⟨(-1 : Int32), o0, rfl, h, by rw [ht]; exact hP, va_K.moved hW.alike hK, hD⟩, hS.F ht⟩) hS.2.2 d_Md_grid_27
  · have h := h.2 c6
    refine lv_iload_n hx hb d_Md_grid_8 rfl (lv_at hl 2 rfl) ?_
    refine lv_iconst (v := (1 : Int32)) hx hb d_Md_grid_9 (by decide) ?_
    refine lv_sipush (v := (8191 : Int32)) hx hb d_Md_grid_10 (by decide) ?_
    refine cl_Si (b := b_Md_grid) (As := [.int a1, .int (1 : Int32), .int (8191 : Int32)]) (rest := []) (ws := [(h0, .inr (11, [.int (gI o0 0), .ref (q0 1), .ref (q0 2), .ref (q0 3), .ref (q0 4), .ref (q0 5), .ref (q0 6), .int (gI o0 7), .int (gI o0 8), .int (gI o0 9), .int (gI o0 10), .int (gI o0 11), .int (gI o0 12), .int (gI o0 13), .int (gI o0 14), .long (gL o0 15), .int (gI o0 16), .int (gI o0 17), .int (gI o0 18), .int (gI o0 19), .int (gI o0 20), .int (gI o0 21), .int (gI o0 22), .int (gI o0 23), .int (gI o0 24), .int (gI o0 25), .int (gI o0 26), .int (gI o0 27), .ref (q0 28), .long (gL o0 29), .int (gI o0 30), .ref (q0 31), .ref (q0 32), .ref (q0 33), .int (gI o0 34), .int (gI o0 35), .int (gI o0 36), .int (gI o0 37), .ref (q0 38), .ref (q0 39), .int (gI o0 40), .ref (q0 41), .ref (q0 42), .ref (q0 43), .ref (q0 44)])), kI G (q0 1) 6100 (gA o0 1), kI G (q0 2) 6100 (gA o0 2), kJ G (q0 3) 2016 (gB o0 3), kJ G (q0 4) 2016 (gB o0 4), kI G (q0 5) 300 (gA o0 5), kI G (q0 6) 400 (gA o0 6), kJ G (q0 28) 10 (gB o0 28), kI G (q0 31) 969 (gA o0 31), kI G (q0 32) 969 (gA o0 32), kI G (q0 33) 969 (gA o0 33), kI G (q0 38) 5 (gA o0 38), kI G (q0 39) 5120 (gA o0 39), kI G (q0 41) 5 (gA o0 41), kZ G (q0 42) 1024 (gA o0 42), kI G (q0 43) 8192 (gA o0 43), kI G (q0 44) 8192 (gA o0 44)]) (wr := [(h0, .inr (11, [.int (gI o0 0), .ref (q0 1), .ref (q0 2), .ref (q0 3), .ref (q0 4), .ref (q0 5), .ref (q0 6), .int (gI o0 7), .int (gI o0 8), .int (gI o0 9), .int (gI o0 10), .int (gI o0 11), .int (gI o0 12), .int (gI o0 13), .int (gI o0 14), .long (gL o0 15), .int (gI o0 16), .int (gI o0 17), .int (gI o0 18), .int (gI o0 19), .int (gI o0 20), .int (gI o0 21), .int (gI o0 22), .int (gI o0 23), .int (gI o0 24), .int (gI o0 25), .int (gI o0 26), .int (gI o0 27), .ref (q0 28), .long (gL o0 29), .int (gI o0 30), .ref (q0 31), .ref (q0 32), .ref (q0 33), .int (gI o0 34), .int (gI o0 35), .int (gI o0 36), .int (gI o0 37), .ref (q0 38), .ref (q0 39), .int (gI o0 40), .ref (q0 41), .ref (q0 42), .ref (q0 43), .ref (q0 44)])), kI G (q0 1) 6100 (gA o0 1), kI G (q0 2) 6100 (gA o0 2), kJ G (q0 3) 2016 (gB o0 3), kJ G (q0 4) 2016 (gB o0 4), kI G (q0 5) 300 (gA o0 5), kI G (q0 6) 400 (gA o0 6), kJ G (q0 28) 10 (gB o0 28), kI G (q0 31) 969 (gA o0 31), kI G (q0 32) 969 (gA o0 32), kI G (q0 33) 969 (gA o0 33), kI G (q0 38) 5 (gA o0 38), kI G (q0 39) 5120 (gA o0 39), kI G (q0 41) 5 (gA o0 41), kZ G (q0 42) 1024 (gA o0 42), kI G (q0 43) 8192 (gA o0 43), kI G (q0 44) 8192 (gA o0 44)]) (w2 := fun (u : Unit) => [(h0, .inr (11, [.int (gI o0 0), .ref (q0 1), .ref (q0 2), .ref (q0 3), .ref (q0 4), .ref (q0 5), .ref (q0 6), .int (gI o0 7), .int (gI o0 8), .int (gI o0 9), .int (gI o0 10), .int (gI o0 11), .int (gI o0 12), .int (gI o0 13), .int (gI o0 14), .long (gL o0 15), .int (gI o0 16), .int (gI o0 17), .int (gI o0 18), .int (gI o0 19), .int (gI o0 20), .int (gI o0 21), .int (gI o0 22), .int (gI o0 23), .int (gI o0 24), .int (gI o0 25), .int (gI o0 26), .int (gI o0 27), .ref (q0 28), .long (gL o0 29), .int (gI o0 30), .ref (q0 31), .ref (q0 32), .ref (q0 33), .int (gI o0 34), .int (gI o0 35), .int (gI o0 36), .int (gI o0 37), .ref (q0 38), .ref (q0 39), .int (gI o0 40), .ref (q0 41), .ref (q0 42), .ref (q0 43), .ref (q0 44)])), kI G (q0 1) 6100 (gA o0 1), kI G (q0 2) 6100 (gA o0 2), kJ G (q0 3) 2016 (gB o0 3), kJ G (q0 4) 2016 (gB o0 4), kI G (q0 5) 300 (gA o0 5), kI G (q0 6) 400 (gA o0 6), kJ G (q0 28) 10 (gB o0 28), kI G (q0 31) 969 (gA o0 31), kI G (q0 32) 969 (gA o0 32), kI G (q0 33) 969 (gA o0 33), kI G (q0 38) 5 (gA o0 38), kI G (q0 39) 5120 (gA o0 39), kI G (q0 41) 5 (gA o0 41), kZ G (q0 42) 1024 (gA o0 42), kI G (q0 43) 8192 (gA o0 43), kI G (q0 44) 8192 (gA o0 44)]) C (c_Md_isIn H.size h) ws_Md_76 ⟨Nat.le_of_ble_eq_true rfl, Nat.le_of_ble_eq_true rfl⟩ hP hD hS [] [0, 1, 2, 3, 4, 5, 6, 7, 8, 9, 10, 11, 12, 13, 14, 15, 16] rfl rfl (by decide) (by decide) (by decide) [0, 1, 2, 3, 4, 5, 6, 7, 8, 9, 10, 11, 12, 13, 14, 15, 16] (by decide) (fun u => rfl) rfl hl.1 rfl (lv_room (Nat.le_of_ble_eq_true rfl)) d_Md_grid_13 ⟨Nat.le_of_ble_eq_true rfl, Nat.le_of_ble_eq_true rfl⟩ rfl rfl (fun z7 u H locs h hP hD hS => ?_)
    have hP : va_P G.1 CL [(h0, .inr (11, [.int (gI o0 0), .ref (q0 1), .ref (q0 2), .ref (q0 3), .ref (q0 4), .ref (q0 5), .ref (q0 6), .int (gI o0 7), .int (gI o0 8), .int (gI o0 9), .int (gI o0 10), .int (gI o0 11), .int (gI o0 12), .int (gI o0 13), .int (gI o0 14), .long (gL o0 15), .int (gI o0 16), .int (gI o0 17), .int (gI o0 18), .int (gI o0 19), .int (gI o0 20), .int (gI o0 21), .int (gI o0 22), .int (gI o0 23), .int (gI o0 24), .int (gI o0 25), .int (gI o0 26), .int (gI o0 27), .ref (q0 28), .long (gL o0 29), .int (gI o0 30), .ref (q0 31), .ref (q0 32), .ref (q0 33), .int (gI o0 34), .int (gI o0 35), .int (gI o0 36), .int (gI o0 37), .ref (q0 38), .ref (q0 39), .int (gI o0 40), .ref (q0 41), .ref (q0 42), .ref (q0 43), .ref (q0 44)])), kI G (q0 1) 6100 (gA o0 1), kI G (q0 2) 6100 (gA o0 2), kJ G (q0 3) 2016 (gB o0 3), kJ G (q0 4) 2016 (gB o0 4), kI G (q0 5) 300 (gA o0 5), kI G (q0 6) 400 (gA o0 6), kJ G (q0 28) 10 (gB o0 28), kI G (q0 31) 969 (gA o0 31), kI G (q0 32) 969 (gA o0 32), kI G (q0 33) 969 (gA o0 33), kI G (q0 38) 5 (gA o0 38), kI G (q0 39) 5120 (gA o0 39), kI G (q0 41) 5 (gA o0 41), kZ G (q0 42) 1024 (gA o0 42), kI G (q0 43) 8192 (gA o0 43), kI G (q0 44) 8192 (gA o0 44)] H := hP
    have hD : va_D A [(h0, .inr (11, [.int (gI o0 0), .ref (q0 1), .ref (q0 2), .ref (q0 3), .ref (q0 4), .ref (q0 5), .ref (q0 6), .int (gI o0 7), .int (gI o0 8), .int (gI o0 9), .int (gI o0 10), .int (gI o0 11), .int (gI o0 12), .int (gI o0 13), .int (gI o0 14), .long (gL o0 15), .int (gI o0 16), .int (gI o0 17), .int (gI o0 18), .int (gI o0 19), .int (gI o0 20), .int (gI o0 21), .int (gI o0 22), .int (gI o0 23), .int (gI o0 24), .int (gI o0 25), .int (gI o0 26), .int (gI o0 27), .ref (q0 28), .long (gL o0 29), .int (gI o0 30), .ref (q0 31), .ref (q0 32), .ref (q0 33), .int (gI o0 34), .int (gI o0 35), .int (gI o0 36), .int (gI o0 37), .ref (q0 38), .ref (q0 39), .int (gI o0 40), .ref (q0 41), .ref (q0 42), .ref (q0 43), .ref (q0 44)])), kI G (q0 1) 6100 (gA o0 1), kI G (q0 2) 6100 (gA o0 2), kJ G (q0 3) 2016 (gB o0 3), kJ G (q0 4) 2016 (gB o0 4), kI G (q0 5) 300 (gA o0 5), kI G (q0 6) 400 (gA o0 6), kJ G (q0 28) 10 (gB o0 28), kI G (q0 31) 969 (gA o0 31), kI G (q0 32) 969 (gA o0 32), kI G (q0 33) 969 (gA o0 33), kI G (q0 38) 5 (gA o0 38), kI G (q0 39) 5120 (gA o0 39), kI G (q0 41) 5 (gA o0 41), kZ G (q0 42) 1024 (gA o0 42), kI G (q0 43) 8192 (gA o0 43), kI G (q0 44) 8192 (gA o0 44)] := hD
    refine lv_if_eq (tgt := 26) hx hb d_Md_grid_16 (by decide) (fun c8 => ?_) (fun c8 => ?_)
    · have h := h.1 c8
      refine lv_iconst (v := (-1 : Int32)) hx hb d_Md_grid_26 (by decide) ?_
      have hP : va_P G.1 CL (cw_Md G h0 q0 o0) H := hP
      have hD : va_D A (cw_Md G h0 q0 o0) := hD
      exact W.iret (v := (-1 : Int32)) hx hb hr (fun t ht hW => ⟨⟨(-1 : Int32), o0, rfl, h, by rw [ht]; exact hP, va_K.moved hW.alike hK, hD⟩, hS.F ht⟩) hS.2.2 d_Md_grid_27
    · have h := h.2 c8
      refine lv_iload_n hx hb d_Md_grid_19 rfl (lv_at hl 2 rfl) ?_
      refine lv_iconst (v := (1 : Int32)) hx hb d_Md_grid_20 (by decide) ?_
      refine lv_iand hx hb d_Md_grid_21 ?_
      refine lv_iconst (v := (1 : Int32)) hx hb d_Md_grid_22 (by decide) ?_
      refine lv_icmp_ne (tgt := 28) hx hb d_Md_grid_23 (by decide) (fun c9 => ?_) (fun c9 => ?_)
      · have h := h.2 c9
        refine lv_iconst (v := (0 : Int32)) hx hb d_Md_grid_28 (by decide) ?_
        refine lv_istore_n (lv' := [(3, .int (0 : Int32)), (0, .ref h0), (1, .int a0), (2, .int a1)]) hx hb d_Md_grid_29 rfl hl (by decide) rfl (fun ls hl => ?_)
        refine lv_iconst (v := (1 : Int32)) hx hb d_Md_grid_30 (by decide) ?_
        refine lv_istore (lv' := [(4, .int (1 : Int32)), (3, .int (0 : Int32)), (0, .ref h0), (1, .int a0), (2, .int a1)]) hx hb d_Md_grid_31 hl (by decide) rfl (fun ls hl => ?_)
        have hl := lv_sub (l' := [(0, .ref h0), (1, .int a0), (2, .int a1), (3, .int (0 : Int32)), (4, .int (1 : Int32))]) hl [2, 3, 4, 1, 0] rfl
        have hP : va_P G.1 CL (cw_Md G h0 q0 o0) H := hP
        have hD : va_D A (cw_Md G h0 q0 o0) := hD
        obtain ⟨w, h⟩ := h
        exact t_Md_grid_33 Q C w a0 a1 (0 : Int32) (1 : Int32) o0 ls _ locs hl hP hD hS h
      · have h := h.1 c9
        refine lv_iconst (v := (-1 : Int32)) hx hb d_Md_grid_26 (by decide) ?_
        have hP : va_P G.1 CL (cw_Md G h0 q0 o0) H := hP
        have hD : va_D A (cw_Md G h0 q0 o0) := hD
        exact W.iret (v := (-1 : Int32)) hx hb hr (fun t ht hW => ⟨⟨(-1 : Int32), o0, rfl, h, by rw [ht]; exact hP, va_K.moved hW.alike hK, hD⟩, hS.F ht⟩) hS.2.2 d_Md_grid_27
abbrev b_Md_hear : ByteArray := prog_14_method_54_code
def y_Md_hear : MethodName := ⟨R_Md, "hear", "(IIII)I"⟩
abbrev w_Md_hear : List Cond := Cond.code y_Md_hear b_Md_hear 6 (some .int) :: gw_tbl
theorem d_Md_hear_0 : decode b_Md_hear 0 = .ok (.iload_n 1, 1) := by decide +kernel
theorem d_Md_hear_1 : decode b_Md_hear 1 = .ok (.iconst 0, 1) := by decide +kernel
theorem d_Md_hear_2 : decode b_Md_hear 2 = .ok (.bipush 7, 2) := by decide +kernel
theorem d_Md_hear_4 : decode b_Md_hear 4 = .ok (.invokestatic 76, 3) := by decide +kernel
theorem d_Md_hear_7 : decode b_Md_hear 7 = .ok (.ifCond .eq 45, 3) := by decide +kernel
theorem d_Md_hear_10 : decode b_Md_hear 10 = .ok (.iload_n 2, 1) := by decide +kernel
theorem d_Md_hear_11 : decode b_Md_hear 11 = .ok (.iconst 0, 1) := by decide +kernel
theorem d_Md_hear_12 : decode b_Md_hear 12 = .ok (.iconst 4, 1) := by decide +kernel
theorem d_Md_hear_13 : decode b_Md_hear 13 = .ok (.invokestatic 76, 3) := by decide +kernel
theorem d_Md_hear_16 : decode b_Md_hear 16 = .ok (.ifCond .eq 36, 3) := by decide +kernel
theorem d_Md_hear_19 : decode b_Md_hear 19 = .ok (.iload_n 3, 1) := by decide +kernel
theorem d_Md_hear_20 : decode b_Md_hear 20 = .ok (.bipush (-20), 2) := by decide +kernel
theorem d_Md_hear_22 : decode b_Md_hear 22 = .ok (.bipush 19, 2) := by decide +kernel
theorem d_Md_hear_24 : decode b_Md_hear 24 = .ok (.invokestatic 76, 3) := by decide +kernel
theorem d_Md_hear_27 : decode b_Md_hear 27 = .ok (.ifCond .eq 25, 3) := by decide +kernel
theorem d_Md_hear_30 : decode b_Md_hear 30 = .ok (.iload 4, 2) := by decide +kernel
theorem d_Md_hear_32 : decode b_Md_hear 32 = .ok (.iload_n 3, 1) := by decide +kernel
theorem d_Md_hear_33 : decode b_Md_hear 33 = .ok (.bipush 19, 2) := by decide +kernel
theorem d_Md_hear_35 : decode b_Md_hear 35 = .ok (.invokestatic 76, 3) := by decide +kernel
theorem d_Md_hear_38 : decode b_Md_hear 38 = .ok (.ifCond .eq 14, 3) := by decide +kernel
theorem d_Md_hear_41 : decode b_Md_hear 41 = .ok (.aload_n 0, 1) := by decide +kernel
theorem d_Md_hear_42 : decode b_Md_hear 42 = .ok (.getfield 7, 3) := by decide +kernel
theorem d_Md_hear_45 : decode b_Md_hear 45 = .ok (.iconst 1, 1) := by decide +kernel
theorem d_Md_hear_46 : decode b_Md_hear 46 = .ok (.iaload, 1) := by decide +kernel
theorem d_Md_hear_47 : decode b_Md_hear 47 = .ok (.bipush 100, 2) := by decide +kernel
theorem d_Md_hear_49 : decode b_Md_hear 49 = .ok (.if_icmp .ne 5, 3) := by decide +kernel
theorem d_Md_hear_52 : decode b_Md_hear 52 = .ok (.iconst (-1), 1) := by decide +kernel
theorem d_Md_hear_53 : decode b_Md_hear 53 = .ok (.ireturn, 1) := by decide +kernel
theorem d_Md_hear_54 : decode b_Md_hear 54 = .ok (.bipush 100, 2) := by decide +kernel
theorem d_Md_hear_56 : decode b_Md_hear 56 = .ok (.iconst 4, 1) := by decide +kernel
theorem d_Md_hear_57 : decode b_Md_hear 57 = .ok (.aload_n 0, 1) := by decide +kernel
theorem d_Md_hear_58 : decode b_Md_hear 58 = .ok (.getfield 7, 3) := by decide +kernel
theorem d_Md_hear_61 : decode b_Md_hear 61 = .ok (.iconst 1, 1) := by decide +kernel
theorem d_Md_hear_62 : decode b_Md_hear 62 = .ok (.iaload, 1) := by decide +kernel
theorem d_Md_hear_63 : decode b_Md_hear 63 = .ok (.imul, 1) := by decide +kernel
theorem d_Md_hear_64 : decode b_Md_hear 64 = .ok (.iadd, 1) := by decide +kernel
theorem d_Md_hear_65 : decode b_Md_hear 65 = .ok (.istore 5, 2) := by decide +kernel
theorem d_Md_hear_67 : decode b_Md_hear 67 = .ok (.aload_n 0, 1) := by decide +kernel
theorem d_Md_hear_68 : decode b_Md_hear 68 = .ok (.getfield 7, 3) := by decide +kernel
theorem d_Md_hear_71 : decode b_Md_hear 71 = .ok (.iload 5, 2) := by decide +kernel
theorem d_Md_hear_73 : decode b_Md_hear 73 = .ok (.iload_n 1, 1) := by decide +kernel
theorem d_Md_hear_74 : decode b_Md_hear 74 = .ok (.iastore, 1) := by decide +kernel
theorem d_Md_hear_75 : decode b_Md_hear 75 = .ok (.aload_n 0, 1) := by decide +kernel
theorem d_Md_hear_76 : decode b_Md_hear 76 = .ok (.getfield 7, 3) := by decide +kernel
theorem d_Md_hear_79 : decode b_Md_hear 79 = .ok (.iload 5, 2) := by decide +kernel
theorem d_Md_hear_81 : decode b_Md_hear 81 = .ok (.iconst 1, 1) := by decide +kernel
theorem d_Md_hear_82 : decode b_Md_hear 82 = .ok (.iadd, 1) := by decide +kernel
theorem d_Md_hear_83 : decode b_Md_hear 83 = .ok (.iload_n 2, 1) := by decide +kernel
theorem d_Md_hear_84 : decode b_Md_hear 84 = .ok (.iastore, 1) := by decide +kernel
theorem d_Md_hear_85 : decode b_Md_hear 85 = .ok (.aload_n 0, 1) := by decide +kernel
theorem d_Md_hear_86 : decode b_Md_hear 86 = .ok (.getfield 7, 3) := by decide +kernel
theorem d_Md_hear_89 : decode b_Md_hear 89 = .ok (.iload 5, 2) := by decide +kernel
theorem d_Md_hear_91 : decode b_Md_hear 91 = .ok (.iconst 2, 1) := by decide +kernel
theorem d_Md_hear_92 : decode b_Md_hear 92 = .ok (.iadd, 1) := by decide +kernel
theorem d_Md_hear_93 : decode b_Md_hear 93 = .ok (.iload_n 3, 1) := by decide +kernel
theorem d_Md_hear_94 : decode b_Md_hear 94 = .ok (.iastore, 1) := by decide +kernel
theorem d_Md_hear_95 : decode b_Md_hear 95 = .ok (.aload_n 0, 1) := by decide +kernel
theorem d_Md_hear_96 : decode b_Md_hear 96 = .ok (.getfield 7, 3) := by decide +kernel
theorem d_Md_hear_99 : decode b_Md_hear 99 = .ok (.iload 5, 2) := by decide +kernel
theorem d_Md_hear_101 : decode b_Md_hear 101 = .ok (.iconst 3, 1) := by decide +kernel
theorem d_Md_hear_102 : decode b_Md_hear 102 = .ok (.iadd, 1) := by decide +kernel
theorem d_Md_hear_103 : decode b_Md_hear 103 = .ok (.iload 4, 2) := by decide +kernel
theorem d_Md_hear_105 : decode b_Md_hear 105 = .ok (.iastore, 1) := by decide +kernel
theorem d_Md_hear_106 : decode b_Md_hear 106 = .ok (.aload_n 0, 1) := by decide +kernel
theorem d_Md_hear_107 : decode b_Md_hear 107 = .ok (.getfield 7, 3) := by decide +kernel
theorem d_Md_hear_110 : decode b_Md_hear 110 = .ok (.iconst 1, 1) := by decide +kernel
theorem d_Md_hear_111 : decode b_Md_hear 111 = .ok (.dup2, 1) := by decide +kernel
theorem d_Md_hear_112 : decode b_Md_hear 112 = .ok (.iaload, 1) := by decide +kernel
theorem d_Md_hear_113 : decode b_Md_hear 113 = .ok (.iconst 1, 1) := by decide +kernel
theorem d_Md_hear_114 : decode b_Md_hear 114 = .ok (.iadd, 1) := by decide +kernel
theorem d_Md_hear_115 : decode b_Md_hear 115 = .ok (.iastore, 1) := by decide +kernel
theorem d_Md_hear_116 : decode b_Md_hear 116 = .ok (.aload_n 0, 1) := by decide +kernel
theorem d_Md_hear_117 : decode b_Md_hear 117 = .ok (.getfield 7, 3) := by decide +kernel
theorem d_Md_hear_120 : decode b_Md_hear 120 = .ok (.iconst 2, 1) := by decide +kernel
theorem d_Md_hear_121 : decode b_Md_hear 121 = .ok (.aload_n 0, 1) := by decide +kernel
theorem d_Md_hear_122 : decode b_Md_hear 122 = .ok (.getfield 7, 3) := by decide +kernel
theorem d_Md_hear_125 : decode b_Md_hear 125 = .ok (.iconst 1, 1) := by decide +kernel
theorem d_Md_hear_126 : decode b_Md_hear 126 = .ok (.iaload, 1) := by decide +kernel
theorem d_Md_hear_127 : decode b_Md_hear 127 = .ok (.iastore, 1) := by decide +kernel
theorem d_Md_hear_128 : decode b_Md_hear 128 = .ok (.aload_n 0, 1) := by decide +kernel
theorem d_Md_hear_129 : decode b_Md_hear 129 = .ok (.getfield 7, 3) := by decide +kernel
theorem d_Md_hear_132 : decode b_Md_hear 132 = .ok (.iconst 1, 1) := by decide +kernel
theorem d_Md_hear_133 : decode b_Md_hear 133 = .ok (.iaload, 1) := by decide +kernel
theorem d_Md_hear_134 : decode b_Md_hear 134 = .ok (.ireturn, 1) := by decide +kernel
def f_Md_hear (a0 : Int32) (a1 : Int32) (a2 : Int32) (a3 : Int32) (o0 : Ob) (Q : Int32 → Ob → Prop) : Prop := f_Md_isIn a0 (0 : Int32) (7 : Int32) (fun z1 => (z1 = 0 → (Q (-1 : Int32) o0)) ∧ (¬ z1 = 0 → (f_Md_isIn a1 (0 : Int32) (4 : Int32) (fun z3 => (z3 = 0 → (Q (-1 : Int32) o0)) ∧ (¬ z3 = 0 → (f_Md_isIn a2 (-20 : Int32) (19 : Int32) (fun z5 => (z5 = 0 → (Q (-1 : Int32) o0)) ∧ (¬ z5 = 0 → (f_Md_isIn a3 a2 (19 : Int32) (fun z7 => (z7 = 0 → (Q (-1 : Int32) o0)) ∧ (¬ z7 = 0 → ((((gA o0 1) 1) = (100 : Int32) → (Q (-1 : Int32) o0)) ∧ (¬ ((gA o0 1) 1) = (100 : Int32) → (∀ y10 : Int32, y10 = ((100 : Int32) + ((4 : Int32) * ((gA o0 1) 1))) → ((vp_in y10 6100) ∧ ((vp_in (y10 + (1 : Int32)) 6100) ∧ ((vp_in (y10 + (2 : Int32)) 6100) ∧ ((vp_in (y10 + (3 : Int32)) 6100) ∧ (∀ y15 : Int32, y15 = ((upd (upd (upd (upd (gA o0 1) y10.toNatClampNeg a0) ((y10 + (1 : Int32)).toNatClampNeg) a1) ((y10 + (2 : Int32)).toNatClampNeg) a2) ((y10 + (3 : Int32)).toNatClampNeg) a3) 1) → (∀ y16 : Int32, y16 = ((upd (upd (upd (upd (upd (gA o0 1) y10.toNatClampNeg a0) ((y10 + (1 : Int32)).toNatClampNeg) a1) ((y10 + (2 : Int32)).toNatClampNeg) a2) ((y10 + (3 : Int32)).toNatClampNeg) a3) 1 (y15 + (1 : Int32))) 1) → (∀ y17 : Int32, y17 = ((upd (upd (upd (upd (upd (upd (gA o0 1) y10.toNatClampNeg a0) ((y10 + (1 : Int32)).toNatClampNeg) a1) ((y10 + (2 : Int32)).toNatClampNeg) a2) ((y10 + (3 : Int32)).toNatClampNeg) a3) 1 (y15 + (1 : Int32))) 2 y16) 1) → (Q y17 (sA o0 1 (upd (upd (upd (upd (upd (upd (gA o0 1) y10.toNatClampNeg a0) ((y10 + (1 : Int32)).toNatClampNeg) a1) ((y10 + (2 : Int32)).toNatClampNeg) a2) ((y10 + (3 : Int32)).toNatClampNeg) a3) 1 (y15 + (1 : Int32))) 2 y16))))))))))))))))))))))))
abbrev rm_Md_hear : Room := { frames := 1, cells := 0, slots := 0, locals := 22 }
set_option maxHeartbeats 4000000 in
set_option maxRecDepth 100000 in
theorem c_Md_hear {l : Launch} {G : Gl} {h0 : Nat} {q0 : Nat → Nat} {a0 : Int32} {a1 : Int32} {a2 : Int32} {a3 : Int32} {o0 : Ob} {Q : Int32 → Ob → Prop} (sz : Nat) (h : f_Md_hear a0 a1 a2 a3 o0 Q) : Met l y_Md_hear w_Md_hear rm_Md_hear (PcW G [.ref h0, .int a0, .int a1, .int a2, .int a3] sz (cw_Md G h0 q0 o0)) (va_Qi (fun (r : Int32) (u : Ob) => Q r u) (fun (u : Ob) t => BW G (va_A (cw_Md G h0 q0 o0) sz) (cw_Md G h0 q0 u) t) (va_A (cw_Md G h0 q0 o0) sz)) 0 0 (va_A (cw_Md G h0 q0 o0) sz) := by
  refine Met.ofW (cc := b_Md_hear) (maxL := 6) (ret := (some .int)) (by decide +kernel) rfl ?_
  intro p e s m args below meth c s₁ B hml hv
  obtain ⟨rfl, hsz, hP, hK, hD0, hE⟩ := hv
  have hx := B.exec
  have hb := B.bytes
  have hr := B.returns
  have hts0 := atoms_spec (ws := w_Md_hear) B.pre
  have hts : ∀ w ∈ gw_tbl, w.before ([.ref h0, .int a0, .int a1, .int a2, .int a3]).toArray s = true := fun w hw => hts0 w (List.mem_cons_of_mem _ hw)
  have hown : s.vm.findClass R_Md = some m.cls := findClass_of_methodNamed B.named
  have hlocks := B.notSynchronized
  subst hsz
  have hD := hD0.self (sz := s.heap.size)
  generalize hAe : va_A (cw_Md G h0 q0 o0) s.heap.size = A at hD hE ⊢
  have hA : ∀ q : Nat, s.heap.size ≤ q → A q := fun q h => by rw [← hAe]; exact Or.inr h
  have hS : va_S A s.heap s.heap [] := va_S.rf
  have C : Cx p s m ([.ref h0, .int a0, .int a1, .int a2, .int a3]).toArray meth c R_Md b_Md_hear 6 (some .int) G A := ⟨hx, hb, hml, hown, hr, hts, hK, hA, hlocks, hE⟩
  have hl := lv_entry ([.ref h0, .int a0, .int a1, .int a2, .int a3]) (n := 6) (Nat.le_of_ble_eq_true rfl)
  rw [lg_entry_eq]
  generalize (lg_sl ([.ref h0, .int a0, .int a1, .int a2, .int a3]) ++ List.replicate (6 - (lg_sl ([.ref h0, .int a0, .int a1, .int a2, .int a3])).length) Slot.unset).toArray = ls at hl ⊢
  have hl : lv_has ls 6 [(0, .ref h0), (1, .int a0), (2, .int a1), (3, .int a2), (4, .int a3)] := hl
  have hD : va_D A [(h0, .inr (11, [.int (gI o0 0), .ref (q0 1), .ref (q0 2), .ref (q0 3), .ref (q0 4), .ref (q0 5), .ref (q0 6), .int (gI o0 7), .int (gI o0 8), .int (gI o0 9), .int (gI o0 10), .int (gI o0 11), .int (gI o0 12), .int (gI o0 13), .int (gI o0 14), .long (gL o0 15), .int (gI o0 16), .int (gI o0 17), .int (gI o0 18), .int (gI o0 19), .int (gI o0 20), .int (gI o0 21), .int (gI o0 22), .int (gI o0 23), .int (gI o0 24), .int (gI o0 25), .int (gI o0 26), .int (gI o0 27), .ref (q0 28), .long (gL o0 29), .int (gI o0 30), .ref (q0 31), .ref (q0 32), .ref (q0 33), .int (gI o0 34), .int (gI o0 35), .int (gI o0 36), .int (gI o0 37), .ref (q0 38), .ref (q0 39), .int (gI o0 40), .ref (q0 41), .ref (q0 42), .ref (q0 43), .ref (q0 44)])), kI G (q0 1) 6100 (gA o0 1), kI G (q0 2) 6100 (gA o0 2), kJ G (q0 3) 2016 (gB o0 3), kJ G (q0 4) 2016 (gB o0 4), kI G (q0 5) 300 (gA o0 5), kI G (q0 6) 400 (gA o0 6), kJ G (q0 28) 10 (gB o0 28), kI G (q0 31) 969 (gA o0 31), kI G (q0 32) 969 (gA o0 32), kI G (q0 33) 969 (gA o0 33), kI G (q0 38) 5 (gA o0 38), kI G (q0 39) 5120 (gA o0 39), kI G (q0 41) 5 (gA o0 41), kZ G (q0 42) 1024 (gA o0 42), kI G (q0 43) 8192 (gA o0 43), kI G (q0 44) 8192 (gA o0 44)] := hD
  unfold f_Md_hear at h
  suffices key : ∀ (H : Heap) (locs : List Loc), va_P G.1 CL [(h0, .inr (11, [.int (gI o0 0), .ref (q0 1), .ref (q0 2), .ref (q0 3), .ref (q0 4), .ref (q0 5), .ref (q0 6), .int (gI o0 7), .int (gI o0 8), .int (gI o0 9), .int (gI o0 10), .int (gI o0 11), .int (gI o0 12), .int (gI o0 13), .int (gI o0 14), .long (gL o0 15), .int (gI o0 16), .int (gI o0 17), .int (gI o0 18), .int (gI o0 19), .int (gI o0 20), .int (gI o0 21), .int (gI o0 22), .int (gI o0 23), .int (gI o0 24), .int (gI o0 25), .int (gI o0 26), .int (gI o0 27), .ref (q0 28), .long (gL o0 29), .int (gI o0 30), .ref (q0 31), .ref (q0 32), .ref (q0 33), .int (gI o0 34), .int (gI o0 35), .int (gI o0 36), .int (gI o0 37), .ref (q0 38), .ref (q0 39), .int (gI o0 40), .ref (q0 41), .ref (q0 42), .ref (q0 43), .ref (q0 44)])), kI G (q0 1) 6100 (gA o0 1), kI G (q0 2) 6100 (gA o0 2), kJ G (q0 3) 2016 (gB o0 3), kJ G (q0 4) 2016 (gB o0 4), kI G (q0 5) 300 (gA o0 5), kI G (q0 6) 400 (gA o0 6), kJ G (q0 28) 10 (gB o0 28), kI G (q0 31) 969 (gA o0 31), kI G (q0 32) 969 (gA o0 32), kI G (q0 33) 969 (gA o0 33), kI G (q0 38) 5 (gA o0 38), kI G (q0 39) 5120 (gA o0 39), kI G (q0 41) 5 (gA o0 41), kZ G (q0 42) 1024 (gA o0 42), kI G (q0 43) 8192 (gA o0 43), kI G (q0 44) 8192 (gA o0 44)] H → va_S A s.heap H locs → W p l e rm_Md_hear s m ([.ref h0, .int a0, .int a1, .int a2, .int a3]).toArray below meth c H locs 0 0 (MQ below (va_Qi (fun (r : Int32) (u : Ob) => Q r u) (fun (u : Ob) t => BW G A (cw_Md G h0 q0 u) t) A) ([.ref h0, .int a0, .int a1, .int a2, .int a3]).toArray s 0 0 A) (F0 m 0 ls []) from key s.heap [] hP hS
  intro H locs hP hS
  refine lv_iload_n hx hb d_Md_hear_0 rfl (lv_at hl 1 rfl) ?_
  refine lv_iconst (v := (0 : Int32)) hx hb d_Md_hear_1 (by decide) ?_
  refine lv_bipush (v := (7 : Int32)) hx hb d_Md_hear_2 (by decide) ?_
  refine cl_Si (b := b_Md_hear) (As := [.int a0, .int (0 : Int32), .int (7 : Int32)]) (rest := []) (ws := [(h0, .inr (11, [.int (gI o0 0), .ref (q0 1), .ref (q0 2), .ref (q0 3), .ref (q0 4), .ref (q0 5), .ref (q0 6), .int (gI o0 7), .int (gI o0 8), .int (gI o0 9), .int (gI o0 10), .int (gI o0 11), .int (gI o0 12), .int (gI o0 13), .int (gI o0 14), .long (gL o0 15), .int (gI o0 16), .int (gI o0 17), .int (gI o0 18), .int (gI o0 19), .int (gI o0 20), .int (gI o0 21), .int (gI o0 22), .int (gI o0 23), .int (gI o0 24), .int (gI o0 25), .int (gI o0 26), .int (gI o0 27), .ref (q0 28), .long (gL o0 29), .int (gI o0 30), .ref (q0 31), .ref (q0 32), .ref (q0 33), .int (gI o0 34), .int (gI o0 35), .int (gI o0 36), .int (gI o0 37), .ref (q0 38), .ref (q0 39), .int (gI o0 40), .ref (q0 41), .ref (q0 42), .ref (q0 43), .ref (q0 44)])), kI G (q0 1) 6100 (gA o0 1), kI G (q0 2) 6100 (gA o0 2), kJ G (q0 3) 2016 (gB o0 3), kJ G (q0 4) 2016 (gB o0 4), kI G (q0 5) 300 (gA o0 5), kI G (q0 6) 400 (gA o0 6), kJ G (q0 28) 10 (gB o0 28), kI G (q0 31) 969 (gA o0 31), kI G (q0 32) 969 (gA o0 32), kI G (q0 33) 969 (gA o0 33), kI G (q0 38) 5 (gA o0 38), kI G (q0 39) 5120 (gA o0 39), kI G (q0 41) 5 (gA o0 41), kZ G (q0 42) 1024 (gA o0 42), kI G (q0 43) 8192 (gA o0 43), kI G (q0 44) 8192 (gA o0 44)]) (wr := [(h0, .inr (11, [.int (gI o0 0), .ref (q0 1), .ref (q0 2), .ref (q0 3), .ref (q0 4), .ref (q0 5), .ref (q0 6), .int (gI o0 7), .int (gI o0 8), .int (gI o0 9), .int (gI o0 10), .int (gI o0 11), .int (gI o0 12), .int (gI o0 13), .int (gI o0 14), .long (gL o0 15), .int (gI o0 16), .int (gI o0 17), .int (gI o0 18), .int (gI o0 19), .int (gI o0 20), .int (gI o0 21), .int (gI o0 22), .int (gI o0 23), .int (gI o0 24), .int (gI o0 25), .int (gI o0 26), .int (gI o0 27), .ref (q0 28), .long (gL o0 29), .int (gI o0 30), .ref (q0 31), .ref (q0 32), .ref (q0 33), .int (gI o0 34), .int (gI o0 35), .int (gI o0 36), .int (gI o0 37), .ref (q0 38), .ref (q0 39), .int (gI o0 40), .ref (q0 41), .ref (q0 42), .ref (q0 43), .ref (q0 44)])), kI G (q0 1) 6100 (gA o0 1), kI G (q0 2) 6100 (gA o0 2), kJ G (q0 3) 2016 (gB o0 3), kJ G (q0 4) 2016 (gB o0 4), kI G (q0 5) 300 (gA o0 5), kI G (q0 6) 400 (gA o0 6), kJ G (q0 28) 10 (gB o0 28), kI G (q0 31) 969 (gA o0 31), kI G (q0 32) 969 (gA o0 32), kI G (q0 33) 969 (gA o0 33), kI G (q0 38) 5 (gA o0 38), kI G (q0 39) 5120 (gA o0 39), kI G (q0 41) 5 (gA o0 41), kZ G (q0 42) 1024 (gA o0 42), kI G (q0 43) 8192 (gA o0 43), kI G (q0 44) 8192 (gA o0 44)]) (w2 := fun (u : Unit) => [(h0, .inr (11, [.int (gI o0 0), .ref (q0 1), .ref (q0 2), .ref (q0 3), .ref (q0 4), .ref (q0 5), .ref (q0 6), .int (gI o0 7), .int (gI o0 8), .int (gI o0 9), .int (gI o0 10), .int (gI o0 11), .int (gI o0 12), .int (gI o0 13), .int (gI o0 14), .long (gL o0 15), .int (gI o0 16), .int (gI o0 17), .int (gI o0 18), .int (gI o0 19), .int (gI o0 20), .int (gI o0 21), .int (gI o0 22), .int (gI o0 23), .int (gI o0 24), .int (gI o0 25), .int (gI o0 26), .int (gI o0 27), .ref (q0 28), .long (gL o0 29), .int (gI o0 30), .ref (q0 31), .ref (q0 32), .ref (q0 33), .int (gI o0 34), .int (gI o0 35), .int (gI o0 36), .int (gI o0 37), .ref (q0 38), .ref (q0 39), .int (gI o0 40), .ref (q0 41), .ref (q0 42), .ref (q0 43), .ref (q0 44)])), kI G (q0 1) 6100 (gA o0 1), kI G (q0 2) 6100 (gA o0 2), kJ G (q0 3) 2016 (gB o0 3), kJ G (q0 4) 2016 (gB o0 4), kI G (q0 5) 300 (gA o0 5), kI G (q0 6) 400 (gA o0 6), kJ G (q0 28) 10 (gB o0 28), kI G (q0 31) 969 (gA o0 31), kI G (q0 32) 969 (gA o0 32), kI G (q0 33) 969 (gA o0 33), kI G (q0 38) 5 (gA o0 38), kI G (q0 39) 5120 (gA o0 39), kI G (q0 41) 5 (gA o0 41), kZ G (q0 42) 1024 (gA o0 42), kI G (q0 43) 8192 (gA o0 43), kI G (q0 44) 8192 (gA o0 44)]) C (c_Md_isIn H.size h) ws_Md_76 ⟨Nat.le_of_ble_eq_true rfl, Nat.le_of_ble_eq_true rfl⟩ hP hD hS [] [0, 1, 2, 3, 4, 5, 6, 7, 8, 9, 10, 11, 12, 13, 14, 15, 16] rfl rfl (by decide) (by decide) (by decide) [0, 1, 2, 3, 4, 5, 6, 7, 8, 9, 10, 11, 12, 13, 14, 15, 16] (by decide) (fun u => rfl) rfl hl.1 rfl (lv_room (Nat.le_of_ble_eq_true rfl)) d_Md_hear_4 ⟨Nat.le_of_ble_eq_true rfl, Nat.le_of_ble_eq_true rfl⟩ rfl rfl (fun z1 u H locs h hP hD hS => ?_)
  have hP : va_P G.1 CL [(h0, .inr (11, [.int (gI o0 0), .ref (q0 1), .ref (q0 2), .ref (q0 3), .ref (q0 4), .ref (q0 5), .ref (q0 6), .int (gI o0 7), .int (gI o0 8), .int (gI o0 9), .int (gI o0 10), .int (gI o0 11), .int (gI o0 12), .int (gI o0 13), .int (gI o0 14), .long (gL o0 15), .int (gI o0 16), .int (gI o0 17), .int (gI o0 18), .int (gI o0 19), .int (gI o0 20), .int (gI o0 21), .int (gI o0 22), .int (gI o0 23), .int (gI o0 24), .int (gI o0 25), .int (gI o0 26), .int (gI o0 27), .ref (q0 28), .long (gL o0 29), .int (gI o0 30), .ref (q0 31), .ref (q0 32), .ref (q0 33), .int (gI o0 34), .int (gI o0 35), .int (gI o0 36), .int (gI o0 37), .ref (q0 38), .ref (q0 39), .int (gI o0 40), .ref (q0 41), .ref (q0 42), .ref (q0 43), .ref (q0 44)])), kI G (q0 1) 6100 (gA o0 1), kI G (q0 2) 6100 (gA o0 2), kJ G (q0 3) 2016 (gB o0 3), kJ G (q0 4) 2016 (gB o0 4), kI G (q0 5) 300 (gA o0 5), kI G (q0 6) 400 (gA o0 6), kJ G (q0 28) 10 (gB o0 28), kI G (q0 31) 969 (gA o0 31), kI G (q0 32) 969 (gA o0 32), kI G (q0 33) 969 (gA o0 33), kI G (q0 38) 5 (gA o0 38), kI G (q0 39) 5120 (gA o0 39), kI G (q0 41) 5 (gA o0 41), kZ G (q0 42) 1024 (gA o0 42), kI G (q0 43) 8192 (gA o0 43), kI G (q0 44) 8192 (gA o0 44)] H := hP
  have hD : va_D A [(h0, .inr (11, [.int (gI o0 0), .ref (q0 1), .ref (q0 2), .ref (q0 3), .ref (q0 4), .ref (q0 5), .ref (q0 6), .int (gI o0 7), .int (gI o0 8), .int (gI o0 9), .int (gI o0 10), .int (gI o0 11), .int (gI o0 12), .int (gI o0 13), .int (gI o0 14), .long (gL o0 15), .int (gI o0 16), .int (gI o0 17), .int (gI o0 18), .int (gI o0 19), .int (gI o0 20), .int (gI o0 21), .int (gI o0 22), .int (gI o0 23), .int (gI o0 24), .int (gI o0 25), .int (gI o0 26), .int (gI o0 27), .ref (q0 28), .long (gL o0 29), .int (gI o0 30), .ref (q0 31), .ref (q0 32), .ref (q0 33), .int (gI o0 34), .int (gI o0 35), .int (gI o0 36), .int (gI o0 37), .ref (q0 38), .ref (q0 39), .int (gI o0 40), .ref (q0 41), .ref (q0 42), .ref (q0 43), .ref (q0 44)])), kI G (q0 1) 6100 (gA o0 1), kI G (q0 2) 6100 (gA o0 2), kJ G (q0 3) 2016 (gB o0 3), kJ G (q0 4) 2016 (gB o0 4), kI G (q0 5) 300 (gA o0 5), kI G (q0 6) 400 (gA o0 6), kJ G (q0 28) 10 (gB o0 28), kI G (q0 31) 969 (gA o0 31), kI G (q0 32) 969 (gA o0 32), kI G (q0 33) 969 (gA o0 33), kI G (q0 38) 5 (gA o0 38), kI G (q0 39) 5120 (gA o0 39), kI G (q0 41) 5 (gA o0 41), kZ G (q0 42) 1024 (gA o0 42), kI G (q0 43) 8192 (gA o0 43), kI G (q0 44) 8192 (gA o0 44)] := hD
  refine lv_if_eq (tgt := 52) hx hb d_Md_hear_7 (by decide) (fun c2 => ?_) (fun c2 => ?_)
  · have h := h.1 c2
    refine lv_iconst (v := (-1 : Int32)) hx hb d_Md_hear_52 (by decide) ?_
    have hP : va_P G.1 CL (cw_Md G h0 q0 o0) H := hP
    have hD : va_D A (cw_Md G h0 q0 o0) := hD
    exact W.iret (v := (-1 : Int32)) hx hb hr (fun t ht hW => ⟨⟨(-1 : Int32), o0, rfl, h, by rw [ht]; exact hP, va_K.moved hW.alike hK, hD⟩, hS.F ht⟩) hS.2.2 d_Md_hear_53
  · have h := h.2 c2
    refine lv_iload_n hx hb d_Md_hear_10 rfl (lv_at hl 2 rfl) ?_
    refine lv_iconst (v := (0 : Int32)) hx hb d_Md_hear_11 (by decide) ?_
    refine lv_iconst (v := (4 : Int32)) hx hb d_Md_hear_12 (by decide) ?_
    refine cl_Si (b := b_Md_hear) (As := [.int a1, .int (0 : Int32), .int (4 : Int32)]) (rest := []) (ws := [(h0, .inr (11, [.int (gI o0 0), .ref (q0 1), .ref (q0 2), .ref (q0 3), .ref (q0 4), .ref (q0 5), .ref (q0 6), .int (gI o0 7), .int (gI o0 8), .int (gI o0 9), .int (gI o0 10), .int (gI o0 11), .int (gI o0 12), .int (gI o0 13), .int (gI o0 14), .long (gL o0 15), .int (gI o0 16), .int (gI o0 17), .int (gI o0 18), .int (gI o0 19), .int (gI o0 20), .int (gI o0 21), .int (gI o0 22), .int (gI o0 23), .int (gI o0 24), .int (gI o0 25), .int (gI o0 26), .int (gI o0 27), .ref (q0 28), .long (gL o0 29), .int (gI o0 30), .ref (q0 31), .ref (q0 32), .ref (q0 33), .int (gI o0 34), .int (gI o0 35), .int (gI o0 36), .int (gI o0 37), .ref (q0 38), .ref (q0 39), .int (gI o0 40), .ref (q0 41), .ref (q0 42), .ref (q0 43), .ref (q0 44)])), kI G (q0 1) 6100 (gA o0 1), kI G (q0 2) 6100 (gA o0 2), kJ G (q0 3) 2016 (gB o0 3), kJ G (q0 4) 2016 (gB o0 4), kI G (q0 5) 300 (gA o0 5), kI G (q0 6) 400 (gA o0 6), kJ G (q0 28) 10 (gB o0 28), kI G (q0 31) 969 (gA o0 31), kI G (q0 32) 969 (gA o0 32), kI G (q0 33) 969 (gA o0 33), kI G (q0 38) 5 (gA o0 38), kI G (q0 39) 5120 (gA o0 39), kI G (q0 41) 5 (gA o0 41), kZ G (q0 42) 1024 (gA o0 42), kI G (q0 43) 8192 (gA o0 43), kI G (q0 44) 8192 (gA o0 44)]) (wr := [(h0, .inr (11, [.int (gI o0 0), .ref (q0 1), .ref (q0 2), .ref (q0 3), .ref (q0 4), .ref (q0 5), .ref (q0 6), .int (gI o0 7), .int (gI o0 8), .int (gI o0 9), .int (gI o0 10), .int (gI o0 11), .int (gI o0 12), .int (gI o0 13), .int (gI o0 14), .long (gL o0 15), .int (gI o0 16), .int (gI o0 17), .int (gI o0 18), .int (gI o0 19), .int (gI o0 20), .int (gI o0 21), .int (gI o0 22), .int (gI o0 23), .int (gI o0 24), .int (gI o0 25), .int (gI o0 26), .int (gI o0 27), .ref (q0 28), .long (gL o0 29), .int (gI o0 30), .ref (q0 31), .ref (q0 32), .ref (q0 33), .int (gI o0 34), .int (gI o0 35), .int (gI o0 36), .int (gI o0 37), .ref (q0 38), .ref (q0 39), .int (gI o0 40), .ref (q0 41), .ref (q0 42), .ref (q0 43), .ref (q0 44)])), kI G (q0 1) 6100 (gA o0 1), kI G (q0 2) 6100 (gA o0 2), kJ G (q0 3) 2016 (gB o0 3), kJ G (q0 4) 2016 (gB o0 4), kI G (q0 5) 300 (gA o0 5), kI G (q0 6) 400 (gA o0 6), kJ G (q0 28) 10 (gB o0 28), kI G (q0 31) 969 (gA o0 31), kI G (q0 32) 969 (gA o0 32), kI G (q0 33) 969 (gA o0 33), kI G (q0 38) 5 (gA o0 38), kI G (q0 39) 5120 (gA o0 39), kI G (q0 41) 5 (gA o0 41), kZ G (q0 42) 1024 (gA o0 42), kI G (q0 43) 8192 (gA o0 43), kI G (q0 44) 8192 (gA o0 44)]) (w2 := fun (u : Unit) => [(h0, .inr (11, [.int (gI o0 0), .ref (q0 1), .ref (q0 2), .ref (q0 3), .ref (q0 4), .ref (q0 5), .ref (q0 6), .int (gI o0 7), .int (gI o0 8), .int (gI o0 9), .int (gI o0 10), .int (gI o0 11), .int (gI o0 12), .int (gI o0 13), .int (gI o0 14), .long (gL o0 15), .int (gI o0 16), .int (gI o0 17), .int (gI o0 18), .int (gI o0 19), .int (gI o0 20), .int (gI o0 21), .int (gI o0 22), .int (gI o0 23), .int (gI o0 24), .int (gI o0 25), .int (gI o0 26), .int (gI o0 27), .ref (q0 28), .long (gL o0 29), .int (gI o0 30), .ref (q0 31), .ref (q0 32), .ref (q0 33), .int (gI o0 34), .int (gI o0 35), .int (gI o0 36), .int (gI o0 37), .ref (q0 38), .ref (q0 39), .int (gI o0 40), .ref (q0 41), .ref (q0 42), .ref (q0 43), .ref (q0 44)])), kI G (q0 1) 6100 (gA o0 1), kI G (q0 2) 6100 (gA o0 2), kJ G (q0 3) 2016 (gB o0 3), kJ G (q0 4) 2016 (gB o0 4), kI G (q0 5) 300 (gA o0 5), kI G (q0 6) 400 (gA o0 6), kJ G (q0 28) 10 (gB o0 28), kI G (q0 31) 969 (gA o0 31), kI G (q0 32) 969 (gA o0 32), kI G (q0 33) 969 (gA o0 33), kI G (q0 38) 5 (gA o0 38), kI G (q0 39) 5120 (gA o0 39), kI G (q0 41) 5 (gA o0 41), kZ G (q0 42) 1024 (gA o0 42), kI G (q0 43) 8192 (gA o0 43), kI G (q0 44) 8192 (gA o0 44)]) C (c_Md_isIn H.size h) ws_Md_76 ⟨Nat.le_of_ble_eq_true rfl, Nat.le_of_ble_eq_true rfl⟩ hP hD hS [] [0, 1, 2, 3, 4, 5, 6, 7, 8, 9, 10, 11, 12, 13, 14, 15, 16] rfl rfl (by decide) (by decide) (by decide) [0, 1, 2, 3, 4, 5, 6, 7, 8, 9, 10, 11, 12, 13, 14, 15, 16] (by decide) (fun u => rfl) rfl hl.1 rfl (lv_room (Nat.le_of_ble_eq_true rfl)) d_Md_hear_13 ⟨Nat.le_of_ble_eq_true rfl, Nat.le_of_ble_eq_true rfl⟩ rfl rfl (fun z3 u H locs h hP hD hS => ?_)
    have hP : va_P G.1 CL [(h0, .inr (11, [.int (gI o0 0), .ref (q0 1), .ref (q0 2), .ref (q0 3), .ref (q0 4), .ref (q0 5), .ref (q0 6), .int (gI o0 7), .int (gI o0 8), .int (gI o0 9), .int (gI o0 10), .int (gI o0 11), .int (gI o0 12), .int (gI o0 13), .int (gI o0 14), .long (gL o0 15), .int (gI o0 16), .int (gI o0 17), .int (gI o0 18), .int (gI o0 19), .int (gI o0 20), .int (gI o0 21), .int (gI o0 22), .int (gI o0 23), .int (gI o0 24), .int (gI o0 25), .int (gI o0 26), .int (gI o0 27), .ref (q0 28), .long (gL o0 29), .int (gI o0 30), .ref (q0 31), .ref (q0 32), .ref (q0 33), .int (gI o0 34), .int (gI o0 35), .int (gI o0 36), .int (gI o0 37), .ref (q0 38), .ref (q0 39), .int (gI o0 40), .ref (q0 41), .ref (q0 42), .ref (q0 43), .ref (q0 44)])), kI G (q0 1) 6100 (gA o0 1), kI G (q0 2) 6100 (gA o0 2), kJ G (q0 3) 2016 (gB o0 3), kJ G (q0 4) 2016 (gB o0 4), kI G (q0 5) 300 (gA o0 5), kI G (q0 6) 400 (gA o0 6), kJ G (q0 28) 10 (gB o0 28), kI G (q0 31) 969 (gA o0 31), kI G (q0 32) 969 (gA o0 32), kI G (q0 33) 969 (gA o0 33), kI G (q0 38) 5 (gA o0 38), kI G (q0 39) 5120 (gA o0 39), kI G (q0 41) 5 (gA o0 41), kZ G (q0 42) 1024 (gA o0 42), kI G (q0 43) 8192 (gA o0 43), kI G (q0 44) 8192 (gA o0 44)] H := hP
    have hD : va_D A [(h0, .inr (11, [.int (gI o0 0), .ref (q0 1), .ref (q0 2), .ref (q0 3), .ref (q0 4), .ref (q0 5), .ref (q0 6), .int (gI o0 7), .int (gI o0 8), .int (gI o0 9), .int (gI o0 10), .int (gI o0 11), .int (gI o0 12), .int (gI o0 13), .int (gI o0 14), .long (gL o0 15), .int (gI o0 16), .int (gI o0 17), .int (gI o0 18), .int (gI o0 19), .int (gI o0 20), .int (gI o0 21), .int (gI o0 22), .int (gI o0 23), .int (gI o0 24), .int (gI o0 25), .int (gI o0 26), .int (gI o0 27), .ref (q0 28), .long (gL o0 29), .int (gI o0 30), .ref (q0 31), .ref (q0 32), .ref (q0 33), .int (gI o0 34), .int (gI o0 35), .int (gI o0 36), .int (gI o0 37), .ref (q0 38), .ref (q0 39), .int (gI o0 40), .ref (q0 41), .ref (q0 42), .ref (q0 43), .ref (q0 44)])), kI G (q0 1) 6100 (gA o0 1), kI G (q0 2) 6100 (gA o0 2), kJ G (q0 3) 2016 (gB o0 3), kJ G (q0 4) 2016 (gB o0 4), kI G (q0 5) 300 (gA o0 5), kI G (q0 6) 400 (gA o0 6), kJ G (q0 28) 10 (gB o0 28), kI G (q0 31) 969 (gA o0 31), kI G (q0 32) 969 (gA o0 32), kI G (q0 33) 969 (gA o0 33), kI G (q0 38) 5 (gA o0 38), kI G (q0 39) 5120 (gA o0 39), kI G (q0 41) 5 (gA o0 41), kZ G (q0 42) 1024 (gA o0 42), kI G (q0 43) 8192 (gA o0 43), kI G (q0 44) 8192 (gA o0 44)] := hD
    refine lv_if_eq (tgt := 52) hx hb d_Md_hear_16 (by decide) (fun c4 => ?_) (fun c4 => ?_)
    · have h := h.1 c4
      refine lv_iconst (v := (-1 : Int32)) hx hb d_Md_hear_52 (by decide) ?_
      have hP : va_P G.1 CL (cw_Md G h0 q0 o0) H := hP
      have hD : va_D A (cw_Md G h0 q0 o0) := hD
      exact W.iret (v := (-1 : Int32)) hx hb hr (fun t ht hW => ⟨⟨(-1 : Int32), o0, rfl, h, by rw [ht]; exact hP, va_K.moved hW.alike hK, hD⟩, hS.F ht⟩) hS.2.2 d_Md_hear_53
    · have h := h.2 c4
      refine lv_iload_n hx hb d_Md_hear_19 rfl (lv_at hl 3 rfl) ?_
      refine lv_bipush (v := (-20 : Int32)) hx hb d_Md_hear_20 (by decide) ?_
      refine lv_bipush (v := (19 : Int32)) hx hb d_Md_hear_22 (by decide) ?_
      refine cl_Si (b := b_Md_hear) (As := [.int a2, .int (-20 : Int32), .int (19 : Int32)]) (rest := []) (ws := [(h0, .inr (11, [.int (gI o0 0), .ref (q0 1), .ref (q0 2), .ref (q0 3), .ref (q0 4), .ref (q0 5), .ref (q0 6), .int (gI o0 7), .int (gI o0 8), .int (gI o0 9), .int (gI o0 10), .int (gI o0 11), .int (gI o0 12), .int (gI o0 13), .int (gI o0 14), .long (gL o0 15), .int (gI o0 16), .int (gI o0 17), .int (gI o0 18), .int (gI o0 19), .int (gI o0 20), .int (gI o0 21), .int (gI o0 22), .int (gI o0 23), .int (gI o0 24), .int (gI o0 25), .int (gI o0 26), .int (gI o0 27), .ref (q0 28), .long (gL o0 29), .int (gI o0 30), .ref (q0 31), .ref (q0 32), .ref (q0 33), .int (gI o0 34), .int (gI o0 35), .int (gI o0 36), .int (gI o0 37), .ref (q0 38), .ref (q0 39), .int (gI o0 40), .ref (q0 41), .ref (q0 42), .ref (q0 43), .ref (q0 44)])), kI G (q0 1) 6100 (gA o0 1), kI G (q0 2) 6100 (gA o0 2), kJ G (q0 3) 2016 (gB o0 3), kJ G (q0 4) 2016 (gB o0 4), kI G (q0 5) 300 (gA o0 5), kI G (q0 6) 400 (gA o0 6), kJ G (q0 28) 10 (gB o0 28), kI G (q0 31) 969 (gA o0 31), kI G (q0 32) 969 (gA o0 32), kI G (q0 33) 969 (gA o0 33), kI G (q0 38) 5 (gA o0 38), kI G (q0 39) 5120 (gA o0 39), kI G (q0 41) 5 (gA o0 41), kZ G (q0 42) 1024 (gA o0 42), kI G (q0 43) 8192 (gA o0 43), kI G (q0 44) 8192 (gA o0 44)]) (wr := [(h0, .inr (11, [.int (gI o0 0), .ref (q0 1), .ref (q0 2), .ref (q0 3), .ref (q0 4), .ref (q0 5), .ref (q0 6), .int (gI o0 7), .int (gI o0 8), .int (gI o0 9), .int (gI o0 10), .int (gI o0 11), .int (gI o0 12), .int (gI o0 13), .int (gI o0 14), .long (gL o0 15), .int (gI o0 16), .int (gI o0 17), .int (gI o0 18), .int (gI o0 19), .int (gI o0 20), .int (gI o0 21), .int (gI o0 22), .int (gI o0 23), .int (gI o0 24), .int (gI o0 25), .int (gI o0 26), .int (gI o0 27), .ref (q0 28), .long (gL o0 29), .int (gI o0 30), .ref (q0 31), .ref (q0 32), .ref (q0 33), .int (gI o0 34), .int (gI o0 35), .int (gI o0 36), .int (gI o0 37), .ref (q0 38), .ref (q0 39), .int (gI o0 40), .ref (q0 41), .ref (q0 42), .ref (q0 43), .ref (q0 44)])), kI G (q0 1) 6100 (gA o0 1), kI G (q0 2) 6100 (gA o0 2), kJ G (q0 3) 2016 (gB o0 3), kJ G (q0 4) 2016 (gB o0 4), kI G (q0 5) 300 (gA o0 5), kI G (q0 6) 400 (gA o0 6), kJ G (q0 28) 10 (gB o0 28), kI G (q0 31) 969 (gA o0 31), kI G (q0 32) 969 (gA o0 32), kI G (q0 33) 969 (gA o0 33), kI G (q0 38) 5 (gA o0 38), kI G (q0 39) 5120 (gA o0 39), kI G (q0 41) 5 (gA o0 41), kZ G (q0 42) 1024 (gA o0 42), kI G (q0 43) 8192 (gA o0 43), kI G (q0 44) 8192 (gA o0 44)]) (w2 := fun (u : Unit) => [(h0, .inr (11, [.int (gI o0 0), .ref (q0 1), .ref (q0 2), .ref (q0 3), .ref (q0 4), .ref (q0 5), .ref (q0 6), .int (gI o0 7), .int (gI o0 8), .int (gI o0 9), .int (gI o0 10), .int (gI o0 11), .int (gI o0 12), .int (gI o0 13), .int (gI o0 14), .long (gL o0 15), .int (gI o0 16), .int (gI o0 17), .int (gI o0 18), .int (gI o0 19), .int (gI o0 20), .int (gI o0 21), .int (gI o0 22), .int (gI o0 23), .int (gI o0 24), .int (gI o0 25), .int (gI o0 26), .int (gI o0 27), .ref (q0 28), .long (gL o0 29), .int (gI o0 30), .ref (q0 31), .ref (q0 32), .ref (q0 33), .int (gI o0 34), .int (gI o0 35), .int (gI o0 36), .int (gI o0 37), .ref (q0 38), .ref (q0 39), .int (gI o0 40), .ref (q0 41), .ref (q0 42), .ref (q0 43), .ref (q0 44)])), kI G (q0 1) 6100 (gA o0 1), kI G (q0 2) 6100 (gA o0 2), kJ G (q0 3) 2016 (gB o0 3), kJ G (q0 4) 2016 (gB o0 4), kI G (q0 5) 300 (gA o0 5), kI G (q0 6) 400 (gA o0 6), kJ G (q0 28) 10 (gB o0 28), kI G (q0 31) 969 (gA o0 31), kI G (q0 32) 969 (gA o0 32), kI G (q0 33) 969 (gA o0 33), kI G (q0 38) 5 (gA o0 38), kI G (q0 39) 5120 (gA o0 39), kI G (q0 41) 5 (gA o0 41), kZ G (q0 42) 1024 (gA o0 42), kI G (q0 43) 8192 (gA o0 43), kI G (q0 44) 8192 (gA o0 44)]) C (c_Md_isIn H.size h) ws_Md_76 ⟨Nat.le_of_ble_eq_true rfl, Nat.le_of_ble_eq_true rfl⟩ hP hD hS [] [0, 1, 2, 3, 4, 5, 6, 7, 8, 9, 10, 11, 12, 13, 14, 15, 16] rfl rfl (by decide) (by decide) (by decide) [0, 1, 2, 3, 4, 5, 6, 7, 8, 9, 10, 11, 12, 13, 14, 15, 16] (by decide) (fun u => rfl) rfl hl.1 rfl (lv_room (Nat.le_of_ble_eq_true rfl)) d_Md_hear_24 ⟨Nat.le_of_ble_eq_true rfl, Nat.le_of_ble_eq_true rfl⟩ rfl rfl (fun z5 u H locs h hP hD hS => ?_)
      have hP : va_P G.1 CL [(h0, .inr (11, [.int (gI o0 0), .ref (q0 1), .ref (q0 2), .ref (q0 3), .ref (q0 4), .ref (q0 5), .ref (q0 6), .int (gI o0 7), .int (gI o0 8), .int (gI o0 9), .int (gI o0 10), .int (gI o0 11), .int (gI o0 12), .int (gI o0 13), .int (gI o0 14), .long (gL o0 15), .int (gI o0 16), .int (gI o0 17), .int (gI o0 18), .int (gI o0 19), .int (gI o0 20), .int (gI o0 21), .int (gI o0 22), .int (gI o0 23), .int (gI o0 24), .int (gI o0 25), .int (gI o0 26), .int (gI o0 27), .ref (q0 28), .long (gL o0 29), .int (gI o0 30), .ref (q0 31), .ref (q0 32), .ref (q0 33), .int (gI o0 34), .int (gI o0 35), .int (gI o0 36), .int (gI o0 37), .ref (q0 38), .ref (q0 39), .int (gI o0 40), .ref (q0 41), .ref (q0 42), .ref (q0 43), .ref (q0 44)])), kI G (q0 1) 6100 (gA o0 1), kI G (q0 2) 6100 (gA o0 2), kJ G (q0 3) 2016 (gB o0 3), kJ G (q0 4) 2016 (gB o0 4), kI G (q0 5) 300 (gA o0 5), kI G (q0 6) 400 (gA o0 6), kJ G (q0 28) 10 (gB o0 28), kI G (q0 31) 969 (gA o0 31), kI G (q0 32) 969 (gA o0 32), kI G (q0 33) 969 (gA o0 33), kI G (q0 38) 5 (gA o0 38), kI G (q0 39) 5120 (gA o0 39), kI G (q0 41) 5 (gA o0 41), kZ G (q0 42) 1024 (gA o0 42), kI G (q0 43) 8192 (gA o0 43), kI G (q0 44) 8192 (gA o0 44)] H := hP
      have hD : va_D A [(h0, .inr (11, [.int (gI o0 0), .ref (q0 1), .ref (q0 2), .ref (q0 3), .ref (q0 4), .ref (q0 5), .ref (q0 6), .int (gI o0 7), .int (gI o0 8), .int (gI o0 9), .int (gI o0 10), .int (gI o0 11), .int (gI o0 12), .int (gI o0 13), .int (gI o0 14), .long (gL o0 15), .int (gI o0 16), .int (gI o0 17), .int (gI o0 18), .int (gI o0 19), .int (gI o0 20), .int (gI o0 21), .int (gI o0 22), .int (gI o0 23), .int (gI o0 24), .int (gI o0 25), .int (gI o0 26), .int (gI o0 27), .ref (q0 28), .long (gL o0 29), .int (gI o0 30), .ref (q0 31), .ref (q0 32), .ref (q0 33), .int (gI o0 34), .int (gI o0 35), .int (gI o0 36), .int (gI o0 37), .ref (q0 38), .ref (q0 39), .int (gI o0 40), .ref (q0 41), .ref (q0 42), .ref (q0 43), .ref (q0 44)])), kI G (q0 1) 6100 (gA o0 1), kI G (q0 2) 6100 (gA o0 2), kJ G (q0 3) 2016 (gB o0 3), kJ G (q0 4) 2016 (gB o0 4), kI G (q0 5) 300 (gA o0 5), kI G (q0 6) 400 (gA o0 6), kJ G (q0 28) 10 (gB o0 28), kI G (q0 31) 969 (gA o0 31), kI G (q0 32) 969 (gA o0 32), kI G (q0 33) 969 (gA o0 33), kI G (q0 38) 5 (gA o0 38), kI G (q0 39) 5120 (gA o0 39), kI G (q0 41) 5 (gA o0 41), kZ G (q0 42) 1024 (gA o0 42), kI G (q0 43) 8192 (gA o0 43), kI G (q0 44) 8192 (gA o0 44)] := hD
      refine lv_if_eq (tgt := 52) hx hb d_Md_hear_27 (by decide) (fun c6 => ?_) (fun c6 => ?_)
      · have h := h.1 c6
        refine lv_iconst (v := (-1 : Int32)) hx hb d_Md_hear_52 (by decide) ?_
        have hP : va_P G.1 CL (cw_Md G h0 q0 o0) H := hP
        have hD : va_D A (cw_Md G h0 q0 o0) := hD
        exact W.iret (v := (-1 : Int32)) hx hb hr (fun t ht hW => ⟨⟨(-1 : Int32), o0, rfl, h, by rw [ht]; exact hP, va_K.moved hW.alike hK, hD⟩, hS.F ht⟩) hS.2.2 d_Md_hear_53
      · have h := h.2 c6
        refine lv_iload hx hb d_Md_hear_30 (lv_at hl 4 rfl) ?_
        refine lv_iload_n hx hb d_Md_hear_32 rfl (lv_at hl 3 rfl) ?_
        refine lv_bipush (v := (19 : Int32)) hx hb d_Md_hear_33 (by decide) ?_
        refine cl_Si (b := b_Md_hear) (As := [.int a3, .int a2, .int (19 : Int32)]) (rest := []) (ws := [(h0, .inr (11, [.int (gI o0 0), .ref (q0 1), .ref (q0 2), .ref (q0 3), .ref (q0 4), .ref (q0 5), .ref (q0 6), .int (gI o0 7), .int (gI o0 8), .int (gI o0 9), .int (gI o0 10), .int (gI o0 11), .int (gI o0 12), .int (gI o0 13), .int (gI o0 14), .long (gL o0 15), .int (gI o0 16), .int (gI o0 17), .int (gI o0 18), .int (gI o0 19), .int (gI o0 20), .int (gI o0 21), .int (gI o0 22), .int (gI o0 23), .int (gI o0 24), .int (gI o0 25), .int (gI o0 26), .int (gI o0 27), .ref (q0 28), .long (gL o0 29), .int (gI o0 30), .ref (q0 31), .ref (q0 32), .ref (q0 33), .int (gI o0 34), .int (gI o0 35), .int (gI o0 36), .int (gI o0 37), .ref (q0 38), .ref (q0 39), .int (gI o0 40), .ref (q0 41), .ref (q0 42), .ref (q0 43), .ref (q0 44)])), kI G (q0 1) 6100 (gA o0 1), kI G (q0 2) 6100 (gA o0 2), kJ G (q0 3) 2016 (gB o0 3), kJ G (q0 4) 2016 (gB o0 4), kI G (q0 5) 300 (gA o0 5), kI G (q0 6) 400 (gA o0 6), kJ G (q0 28) 10 (gB o0 28), kI G (q0 31) 969 (gA o0 31), kI G (q0 32) 969 (gA o0 32), kI G (q0 33) 969 (gA o0 33), kI G (q0 38) 5 (gA o0 38), kI G (q0 39) 5120 (gA o0 39), kI G (q0 41) 5 (gA o0 41), kZ G (q0 42) 1024 (gA o0 42), kI G (q0 43) 8192 (gA o0 43), kI G (q0 44) 8192 (gA o0 44)]) (wr := [(h0, .inr (11, [.int (gI o0 0), .ref (q0 1), .ref (q0 2), .ref (q0 3), .ref (q0 4), .ref (q0 5), .ref (q0 6), .int (gI o0 7), .int (gI o0 8), .int (gI o0 9), .int (gI o0 10), .int (gI o0 11), .int (gI o0 12), .int (gI o0 13), .int (gI o0 14), .long (gL o0 15), .int (gI o0 16), .int (gI o0 17), .int (gI o0 18), .int (gI o0 19), .int (gI o0 20), .int (gI o0 21), .int (gI o0 22), .int (gI o0 23), .int (gI o0 24), .int (gI o0 25), .int (gI o0 26), .int (gI o0 27), .ref (q0 28), .long (gL o0 29), .int (gI o0 30), .ref (q0 31), .ref (q0 32), .ref (q0 33), .int (gI o0 34), .int (gI o0 35), .int (gI o0 36), .int (gI o0 37), .ref (q0 38), .ref (q0 39), .int (gI o0 40), .ref (q0 41), .ref (q0 42), .ref (q0 43), .ref (q0 44)])), kI G (q0 1) 6100 (gA o0 1), kI G (q0 2) 6100 (gA o0 2), kJ G (q0 3) 2016 (gB o0 3), kJ G (q0 4) 2016 (gB o0 4), kI G (q0 5) 300 (gA o0 5), kI G (q0 6) 400 (gA o0 6), kJ G (q0 28) 10 (gB o0 28), kI G (q0 31) 969 (gA o0 31), kI G (q0 32) 969 (gA o0 32), kI G (q0 33) 969 (gA o0 33), kI G (q0 38) 5 (gA o0 38), kI G (q0 39) 5120 (gA o0 39), kI G (q0 41) 5 (gA o0 41), kZ G (q0 42) 1024 (gA o0 42), kI G (q0 43) 8192 (gA o0 43), kI G (q0 44) 8192 (gA o0 44)]) (w2 := fun (u : Unit) => [(h0, .inr (11, [.int (gI o0 0), .ref (q0 1), .ref (q0 2), .ref (q0 3), .ref (q0 4), .ref (q0 5), .ref (q0 6), .int (gI o0 7), .int (gI o0 8), .int (gI o0 9), .int (gI o0 10), .int (gI o0 11), .int (gI o0 12), .int (gI o0 13), .int (gI o0 14), .long (gL o0 15), .int (gI o0 16), .int (gI o0 17), .int (gI o0 18), .int (gI o0 19), .int (gI o0 20), .int (gI o0 21), .int (gI o0 22), .int (gI o0 23), .int (gI o0 24), .int (gI o0 25), .int (gI o0 26), .int (gI o0 27), .ref (q0 28), .long (gL o0 29), .int (gI o0 30), .ref (q0 31), .ref (q0 32), .ref (q0 33), .int (gI o0 34), .int (gI o0 35), .int (gI o0 36), .int (gI o0 37), .ref (q0 38), .ref (q0 39), .int (gI o0 40), .ref (q0 41), .ref (q0 42), .ref (q0 43), .ref (q0 44)])), kI G (q0 1) 6100 (gA o0 1), kI G (q0 2) 6100 (gA o0 2), kJ G (q0 3) 2016 (gB o0 3), kJ G (q0 4) 2016 (gB o0 4), kI G (q0 5) 300 (gA o0 5), kI G (q0 6) 400 (gA o0 6), kJ G (q0 28) 10 (gB o0 28), kI G (q0 31) 969 (gA o0 31), kI G (q0 32) 969 (gA o0 32), kI G (q0 33) 969 (gA o0 33), kI G (q0 38) 5 (gA o0 38), kI G (q0 39) 5120 (gA o0 39), kI G (q0 41) 5 (gA o0 41), kZ G (q0 42) 1024 (gA o0 42), kI G (q0 43) 8192 (gA o0 43), kI G (q0 44) 8192 (gA o0 44)]) C (c_Md_isIn H.size h) ws_Md_76 ⟨Nat.le_of_ble_eq_true rfl, Nat.le_of_ble_eq_true rfl⟩ hP hD hS [] [0, 1, 2, 3, 4, 5, 6, 7, 8, 9, 10, 11, 12, 13, 14, 15, 16] rfl rfl (by decide) (by decide) (by decide) [0, 1, 2, 3, 4, 5, 6, 7, 8, 9, 10, 11, 12, 13, 14, 15, 16] (by decide) (fun u => rfl) rfl hl.1 rfl (lv_room (Nat.le_of_ble_eq_true rfl)) d_Md_hear_35 ⟨Nat.le_of_ble_eq_true rfl, Nat.le_of_ble_eq_true rfl⟩ rfl rfl (fun z7 u H locs h hP hD hS => ?_)
        have hP : va_P G.1 CL [(h0, .inr (11, [.int (gI o0 0), .ref (q0 1), .ref (q0 2), .ref (q0 3), .ref (q0 4), .ref (q0 5), .ref (q0 6), .int (gI o0 7), .int (gI o0 8), .int (gI o0 9), .int (gI o0 10), .int (gI o0 11), .int (gI o0 12), .int (gI o0 13), .int (gI o0 14), .long (gL o0 15), .int (gI o0 16), .int (gI o0 17), .int (gI o0 18), .int (gI o0 19), .int (gI o0 20), .int (gI o0 21), .int (gI o0 22), .int (gI o0 23), .int (gI o0 24), .int (gI o0 25), .int (gI o0 26), .int (gI o0 27), .ref (q0 28), .long (gL o0 29), .int (gI o0 30), .ref (q0 31), .ref (q0 32), .ref (q0 33), .int (gI o0 34), .int (gI o0 35), .int (gI o0 36), .int (gI o0 37), .ref (q0 38), .ref (q0 39), .int (gI o0 40), .ref (q0 41), .ref (q0 42), .ref (q0 43), .ref (q0 44)])), kI G (q0 1) 6100 (gA o0 1), kI G (q0 2) 6100 (gA o0 2), kJ G (q0 3) 2016 (gB o0 3), kJ G (q0 4) 2016 (gB o0 4), kI G (q0 5) 300 (gA o0 5), kI G (q0 6) 400 (gA o0 6), kJ G (q0 28) 10 (gB o0 28), kI G (q0 31) 969 (gA o0 31), kI G (q0 32) 969 (gA o0 32), kI G (q0 33) 969 (gA o0 33), kI G (q0 38) 5 (gA o0 38), kI G (q0 39) 5120 (gA o0 39), kI G (q0 41) 5 (gA o0 41), kZ G (q0 42) 1024 (gA o0 42), kI G (q0 43) 8192 (gA o0 43), kI G (q0 44) 8192 (gA o0 44)] H := hP
        have hD : va_D A [(h0, .inr (11, [.int (gI o0 0), .ref (q0 1), .ref (q0 2), .ref (q0 3), .ref (q0 4), .ref (q0 5), .ref (q0 6), .int (gI o0 7), .int (gI o0 8), .int (gI o0 9), .int (gI o0 10), .int (gI o0 11), .int (gI o0 12), .int (gI o0 13), .int (gI o0 14), .long (gL o0 15), .int (gI o0 16), .int (gI o0 17), .int (gI o0 18), .int (gI o0 19), .int (gI o0 20), .int (gI o0 21), .int (gI o0 22), .int (gI o0 23), .int (gI o0 24), .int (gI o0 25), .int (gI o0 26), .int (gI o0 27), .ref (q0 28), .long (gL o0 29), .int (gI o0 30), .ref (q0 31), .ref (q0 32), .ref (q0 33), .int (gI o0 34), .int (gI o0 35), .int (gI o0 36), .int (gI o0 37), .ref (q0 38), .ref (q0 39), .int (gI o0 40), .ref (q0 41), .ref (q0 42), .ref (q0 43), .ref (q0 44)])), kI G (q0 1) 6100 (gA o0 1), kI G (q0 2) 6100 (gA o0 2), kJ G (q0 3) 2016 (gB o0 3), kJ G (q0 4) 2016 (gB o0 4), kI G (q0 5) 300 (gA o0 5), kI G (q0 6) 400 (gA o0 6), kJ G (q0 28) 10 (gB o0 28), kI G (q0 31) 969 (gA o0 31), kI G (q0 32) 969 (gA o0 32), kI G (q0 33) 969 (gA o0 33), kI G (q0 38) 5 (gA o0 38), kI G (q0 39) 5120 (gA o0 39), kI G (q0 41) 5 (gA o0 41), kZ G (q0 42) 1024 (gA o0 42), kI G (q0 43) 8192 (gA o0 43), kI G (q0 44) 8192 (gA o0 44)] := hD
        refine lv_if_eq (tgt := 52) hx hb d_Md_hear_38 (by decide) (fun c8 => ?_) (fun c8 => ?_)
        · have h := h.1 c8
          refine lv_iconst (v := (-1 : Int32)) hx hb d_Md_hear_52 (by decide) ?_
          have hP : va_P G.1 CL (cw_Md G h0 q0 o0) H := hP
          have hD : va_D A (cw_Md G h0 q0 o0) := hD
          exact W.iret (v := (-1 : Int32)) hx hb hr (fun t ht hW => ⟨⟨(-1 : Int32), o0, rfl, h, by rw [ht]; exact hP, va_K.moved hW.alike hK, hD⟩, hS.F ht⟩) hS.2.2 d_Md_hear_53
        · have h := h.2 c8
          refine lv_aload_n hx hb d_Md_hear_41 rfl (lv_at hl 0 rfl) ?_
          refine va_get (D := G.1) (ci := 11) (v := .ref (q0 1)) (C := R_Md) (T := T_Md) (N := 45) hx hb hts i_Md hown hK hP 0 rfl rfl 1 (by decide) (hts _ wf_Md_7) (fun _ h9 => h9) rfl d_Md_hear_42 ?_
          refine lv_iconst (v := (1 : Int32)) hx hb d_Md_hear_45 (by decide) ?_
          refine xa_iald hx hb hK hP 1 0 rfl rfl (vp_lit rfl) (k := 1) rfl d_Md_hear_46 ?_
          refine lv_bipush (v := (100 : Int32)) hx hb d_Md_hear_47 (by decide) ?_
          refine lv_icmp_ne (tgt := 54) hx hb d_Md_hear_49 (by decide) (fun c9 => ?_) (fun c9 => ?_)
          · have h := h.2 c9
            refine lv_bipush (v := (100 : Int32)) hx hb d_Md_hear_54 (by decide) ?_
            refine lv_iconst (v := (4 : Int32)) hx hb d_Md_hear_56 (by decide) ?_
            refine lv_aload_n hx hb d_Md_hear_57 rfl (lv_at hl 0 rfl) ?_
            refine va_get (D := G.1) (ci := 11) (v := .ref (q0 1)) (C := R_Md) (T := T_Md) (N := 45) hx hb hts i_Md hown hK hP 0 rfl rfl 1 (by decide) (hts _ wf_Md_7) (fun _ h9 => h9) rfl d_Md_hear_58 ?_
            refine lv_iconst (v := (1 : Int32)) hx hb d_Md_hear_61 (by decide) ?_
            refine xa_iald hx hb hK hP 1 0 rfl rfl (vp_lit rfl) (k := 1) rfl d_Md_hear_62 ?_
            refine lv_imul hx hb d_Md_hear_63 ?_
            refine lv_iadd hx hb d_Md_hear_64 ?_
            refine lv_topi (fun y10 ey10 => ?_)
            have h := h y10 ey10
            refine lv_istore (lv' := [(5, .int y10), (0, .ref h0), (1, .int a0), (2, .int a1), (3, .int a2), (4, .int a3)]) hx hb d_Md_hear_65 hl (by decide) rfl (fun ls hl => ?_)
            refine lv_aload_n hx hb d_Md_hear_67 rfl (lv_at hl 1 rfl) ?_
            refine va_get (D := G.1) (ci := 11) (v := .ref (q0 1)) (C := R_Md) (T := T_Md) (N := 45) hx hb hts i_Md hown hK hP 0 rfl rfl 1 (by decide) (hts _ wf_Md_7) (fun _ h9 => h9) rfl d_Md_hear_68 ?_
            refine lv_iload hx hb d_Md_hear_71 (lv_at hl 0 rfl) ?_
            refine lv_iload_n hx hb d_Md_hear_73 rfl (lv_at hl 2 rfl) ?_
            have g11 := h.1
            have h := h.2
            refine xa_iast hx hb hK hP hD hS 1 0 rfl rfl g11 (k := y10.toNatClampNeg) rfl d_Md_hear_74 (fun H locs hP hD hS => ?_)
            have hP : va_P G.1 CL [(h0, .inr (11, [.int (gI o0 0), .ref (q0 1), .ref (q0 2), .ref (q0 3), .ref (q0 4), .ref (q0 5), .ref (q0 6), .int (gI o0 7), .int (gI o0 8), .int (gI o0 9), .int (gI o0 10), .int (gI o0 11), .int (gI o0 12), .int (gI o0 13), .int (gI o0 14), .long (gL o0 15), .int (gI o0 16), .int (gI o0 17), .int (gI o0 18), .int (gI o0 19), .int (gI o0 20), .int (gI o0 21), .int (gI o0 22), .int (gI o0 23), .int (gI o0 24), .int (gI o0 25), .int (gI o0 26), .int (gI o0 27), .ref (q0 28), .long (gL o0 29), .int (gI o0 30), .ref (q0 31), .ref (q0 32), .ref (q0 33), .int (gI o0 34), .int (gI o0 35), .int (gI o0 36), .int (gI o0 37), .ref (q0 38), .ref (q0 39), .int (gI o0 40), .ref (q0 41), .ref (q0 42), .ref (q0 43), .ref (q0 44)])), kI G (q0 1) 6100 (upd (gA o0 1) y10.toNatClampNeg a0), kI G (q0 2) 6100 (gA o0 2), kJ G (q0 3) 2016 (gB o0 3), kJ G (q0 4) 2016 (gB o0 4), kI G (q0 5) 300 (gA o0 5), kI G (q0 6) 400 (gA o0 6), kJ G (q0 28) 10 (gB o0 28), kI G (q0 31) 969 (gA o0 31), kI G (q0 32) 969 (gA o0 32), kI G (q0 33) 969 (gA o0 33), kI G (q0 38) 5 (gA o0 38), kI G (q0 39) 5120 (gA o0 39), kI G (q0 41) 5 (gA o0 41), kZ G (q0 42) 1024 (gA o0 42), kI G (q0 43) 8192 (gA o0 43), kI G (q0 44) 8192 (gA o0 44)] H := hP
            have hD : va_D A [(h0, .inr (11, [.int (gI o0 0), .ref (q0 1), .ref (q0 2), .ref (q0 3), .ref (q0 4), .ref (q0 5), .ref (q0 6), .int (gI o0 7), .int (gI o0 8), .int (gI o0 9), .int (gI o0 10), .int (gI o0 11), .int (gI o0 12), .int (gI o0 13), .int (gI o0 14), .long (gL o0 15), .int (gI o0 16), .int (gI o0 17), .int (gI o0 18), .int (gI o0 19), .int (gI o0 20), .int (gI o0 21), .int (gI o0 22), .int (gI o0 23), .int (gI o0 24), .int (gI o0 25), .int (gI o0 26), .int (gI o0 27), .ref (q0 28), .long (gL o0 29), .int (gI o0 30), .ref (q0 31), .ref (q0 32), .ref (q0 33), .int (gI o0 34), .int (gI o0 35), .int (gI o0 36), .int (gI o0 37), .ref (q0 38), .ref (q0 39), .int (gI o0 40), .ref (q0 41), .ref (q0 42), .ref (q0 43), .ref (q0 44)])), kI G (q0 1) 6100 (upd (gA o0 1) y10.toNatClampNeg a0), kI G (q0 2) 6100 (gA o0 2), kJ G (q0 3) 2016 (gB o0 3), kJ G (q0 4) 2016 (gB o0 4), kI G (q0 5) 300 (gA o0 5), kI G (q0 6) 400 (gA o0 6), kJ G (q0 28) 10 (gB o0 28), kI G (q0 31) 969 (gA o0 31), kI G (q0 32) 969 (gA o0 32), kI G (q0 33) 969 (gA o0 33), kI G (q0 38) 5 (gA o0 38), kI G (q0 39) 5120 (gA o0 39), kI G (q0 41) 5 (gA o0 41), kZ G (q0 42) 1024 (gA o0 42), kI G (q0 43) 8192 (gA o0 43), kI G (q0 44) 8192 (gA o0 44)] := hD
            refine lv_aload_n hx hb d_Md_hear_75 rfl (lv_at hl 1 rfl) ?_
            refine va_get (D := G.1) (ci := 11) (v := .ref (q0 1)) (C := R_Md) (T := T_Md) (N := 45) hx hb hts i_Md hown hK hP 0 rfl rfl 1 (by decide) (hts _ wf_Md_7) (fun _ h9 => h9) rfl d_Md_hear_76 ?_
            refine lv_iload hx hb d_Md_hear_79 (lv_at hl 0 rfl) ?_
            refine lv_iconst (v := (1 : Int32)) hx hb d_Md_hear_81 (by decide) ?_
            refine lv_iadd hx hb d_Md_hear_82 ?_
            refine lv_iload_n hx hb d_Md_hear_83 rfl (lv_at hl 3 rfl) ?_
            have g12 := h.1
            have h := h.2
            refine xa_iast hx hb hK hP hD hS 1 0 rfl rfl g12 (k := (y10 + (1 : Int32)).toNatClampNeg) rfl d_Md_hear_84 (fun H locs hP hD hS => ?_)
            have hP : va_P G.1 CL [(h0, .inr (11, [.int (gI o0 0), .ref (q0 1), .ref (q0 2), .ref (q0 3), .ref (q0 4), .ref (q0 5), .ref (q0 6), .int (gI o0 7), .int (gI o0 8), .int (gI o0 9), .int (gI o0 10), .int (gI o0 11), .int (gI o0 12), .int (gI o0 13), .int (gI o0 14), .long (gL o0 15), .int (gI o0 16), .int (gI o0 17), .int (gI o0 18), .int (gI o0 19), .int (gI o0 20), .int (gI o0 21), .int (gI o0 22), .int (gI o0 23), .int (gI o0 24), .int (gI o0 25), .int (gI o0 26), .int (gI o0 27), .ref (q0 28), .long (gL o0 29), .int (gI o0 30), .ref (q0 31), .ref (q0 32), .ref (q0 33), .int (gI o0 34), .int (gI o0 35), .int (gI o0 36), .int (gI o0 37), .ref (q0 38), .ref (q0 39), .int (gI o0 40), .ref (q0 41), .ref (q0 42), .ref (q0 43), .ref (q0 44)])), kI G (q0 1) 6100 (upd (upd (gA o0 1) y10.toNatClampNeg a0) ((y10 + (1 : Int32)).toNatClampNeg) a1), kI G (q0 2) 6100 (gA o0 2), kJ G (q0 3) 2016 (gB o0 3), kJ G (q0 4) 2016 (gB o0 4), kI G (q0 5) 300 (gA o0 5), kI G (q0 6) 400 (gA o0 6), kJ G (q0 28) 10 (gB o0 28), kI G (q0 31) 969 (gA o0 31), kI G (q0 32) 969 (gA o0 32), kI G (q0 33) 969 (gA o0 33), kI G (q0 38) 5 (gA o0 38), kI G (q0 39) 5120 (gA o0 39), kI G (q0 41) 5 (gA o0 41), kZ G (q0 42) 1024 (gA o0 42), kI G (q0 43) 8192 (gA o0 43), kI G (q0 44) 8192 (gA o0 44)] H := hP
            have hD : va_D A [(h0, .inr (11, [.int (gI o0 0), .ref (q0 1), .ref (q0 2), .ref (q0 3), .ref (q0 4), .ref (q0 5), .ref (q0 6), .int (gI o0 7), .int (gI o0 8), .int (gI o0 9), .int (gI o0 10), .int (gI o0 11), .int (gI o0 12), .int (gI o0 13), .int (gI o0 14), .long (gL o0 15), .int (gI o0 16), .int (gI o0 17), .int (gI o0 18), .int (gI o0 19), .int (gI o0 20), .int (gI o0 21), .int (gI o0 22), .int (gI o0 23), .int (gI o0 24), .int (gI o0 25), .int (gI o0 26), .int (gI o0 27), .ref (q0 28), .long (gL o0 29), .int (gI o0 30), .ref (q0 31), .ref (q0 32), .ref (q0 33), .int (gI o0 34), .int (gI o0 35), .int (gI o0 36), .int (gI o0 37), .ref (q0 38), .ref (q0 39), .int (gI o0 40), .ref (q0 41), .ref (q0 42), .ref (q0 43), .ref (q0 44)])), kI G (q0 1) 6100 (upd (upd (gA o0 1) y10.toNatClampNeg a0) ((y10 + (1 : Int32)).toNatClampNeg) a1), kI G (q0 2) 6100 (gA o0 2), kJ G (q0 3) 2016 (gB o0 3), kJ G (q0 4) 2016 (gB o0 4), kI G (q0 5) 300 (gA o0 5), kI G (q0 6) 400 (gA o0 6), kJ G (q0 28) 10 (gB o0 28), kI G (q0 31) 969 (gA o0 31), kI G (q0 32) 969 (gA o0 32), kI G (q0 33) 969 (gA o0 33), kI G (q0 38) 5 (gA o0 38), kI G (q0 39) 5120 (gA o0 39), kI G (q0 41) 5 (gA o0 41), kZ G (q0 42) 1024 (gA o0 42), kI G (q0 43) 8192 (gA o0 43), kI G (q0 44) 8192 (gA o0 44)] := hD
            refine lv_aload_n hx hb d_Md_hear_85 rfl (lv_at hl 1 rfl) ?_
            refine va_get (D := G.1) (ci := 11) (v := .ref (q0 1)) (C := R_Md) (T := T_Md) (N := 45) hx hb hts i_Md hown hK hP 0 rfl rfl 1 (by decide) (hts _ wf_Md_7) (fun _ h9 => h9) rfl d_Md_hear_86 ?_
            refine lv_iload hx hb d_Md_hear_89 (lv_at hl 0 rfl) ?_
            refine lv_iconst (v := (2 : Int32)) hx hb d_Md_hear_91 (by decide) ?_
            refine lv_iadd hx hb d_Md_hear_92 ?_
            refine lv_iload_n hx hb d_Md_hear_93 rfl (lv_at hl 4 rfl) ?_
            have g13 := h.1
            have h := h.2
            refine xa_iast hx hb hK hP hD hS 1 0 rfl rfl g13 (k := (y10 + (2 : Int32)).toNatClampNeg) rfl d_Md_hear_94 (fun H locs hP hD hS => ?_)
            have hP : va_P G.1 CL [(h0, .inr (11, [.int (gI o0 0), .ref (q0 1), .ref (q0 2), .ref (q0 3), .ref (q0 4), .ref (q0 5), .ref (q0 6), .int (gI o0 7), .int (gI o0 8), .int (gI o0 9), .int (gI o0 10), .int (gI o0 11), .int (gI o0 12), .int (gI o0 13), .int (gI o0 14), .long (gL o0 15), .int (gI o0 16), .int (gI o0 17), .int (gI o0 18), .int (gI o0 19), .int (gI o0 20), .int (gI o0 21), .int (gI o0 22), .int (gI o0 23), .int (gI o0 24), .int (gI o0 25), .int (gI o0 26), .int (gI o0 27), .ref (q0 28), .long (gL o0 29), .int (gI o0 30), .ref (q0 31), .ref (q0 32), .ref (q0 33), .int (gI o0 34), .int (gI o0 35), .int (gI o0 36), .int (gI o0 37), .ref (q0 38), .ref (q0 39), .int (gI o0 40), .ref (q0 41), .ref (q0 42), .ref (q0 43), .ref (q0 44)])), kI G (q0 1) 6100 (upd (upd (upd (gA o0 1) y10.toNatClampNeg a0) ((y10 + (1 : Int32)).toNatClampNeg) a1) ((y10 + (2 : Int32)).toNatClampNeg) a2), kI G (q0 2) 6100 (gA o0 2), kJ G (q0 3) 2016 (gB o0 3), kJ G (q0 4) 2016 (gB o0 4), kI G (q0 5) 300 (gA o0 5), kI G (q0 6) 400 (gA o0 6), kJ G (q0 28) 10 (gB o0 28), kI G (q0 31) 969 (gA o0 31), kI G (q0 32) 969 (gA o0 32), kI G (q0 33) 969 (gA o0 33), kI G (q0 38) 5 (gA o0 38), kI G (q0 39) 5120 (gA o0 39), kI G (q0 41) 5 (gA o0 41), kZ G (q0 42) 1024 (gA o0 42), kI G (q0 43) 8192 (gA o0 43), kI G (q0 44) 8192 (gA o0 44)] H := hP
            have hD : va_D A [(h0, .inr (11, [.int (gI o0 0), .ref (q0 1), .ref (q0 2), .ref (q0 3), .ref (q0 4), .ref (q0 5), .ref (q0 6), .int (gI o0 7), .int (gI o0 8), .int (gI o0 9), .int (gI o0 10), .int (gI o0 11), .int (gI o0 12), .int (gI o0 13), .int (gI o0 14), .long (gL o0 15), .int (gI o0 16), .int (gI o0 17), .int (gI o0 18), .int (gI o0 19), .int (gI o0 20), .int (gI o0 21), .int (gI o0 22), .int (gI o0 23), .int (gI o0 24), .int (gI o0 25), .int (gI o0 26), .int (gI o0 27), .ref (q0 28), .long (gL o0 29), .int (gI o0 30), .ref (q0 31), .ref (q0 32), .ref (q0 33), .int (gI o0 34), .int (gI o0 35), .int (gI o0 36), .int (gI o0 37), .ref (q0 38), .ref (q0 39), .int (gI o0 40), .ref (q0 41), .ref (q0 42), .ref (q0 43), .ref (q0 44)])), kI G (q0 1) 6100 (upd (upd (upd (gA o0 1) y10.toNatClampNeg a0) ((y10 + (1 : Int32)).toNatClampNeg) a1) ((y10 + (2 : Int32)).toNatClampNeg) a2), kI G (q0 2) 6100 (gA o0 2), kJ G (q0 3) 2016 (gB o0 3), kJ G (q0 4) 2016 (gB o0 4), kI G (q0 5) 300 (gA o0 5), kI G (q0 6) 400 (gA o0 6), kJ G (q0 28) 10 (gB o0 28), kI G (q0 31) 969 (gA o0 31), kI G (q0 32) 969 (gA o0 32), kI G (q0 33) 969 (gA o0 33), kI G (q0 38) 5 (gA o0 38), kI G (q0 39) 5120 (gA o0 39), kI G (q0 41) 5 (gA o0 41), kZ G (q0 42) 1024 (gA o0 42), kI G (q0 43) 8192 (gA o0 43), kI G (q0 44) 8192 (gA o0 44)] := hD
            refine lv_aload_n hx hb d_Md_hear_95 rfl (lv_at hl 1 rfl) ?_
            refine va_get (D := G.1) (ci := 11) (v := .ref (q0 1)) (C := R_Md) (T := T_Md) (N := 45) hx hb hts i_Md hown hK hP 0 rfl rfl 1 (by decide) (hts _ wf_Md_7) (fun _ h9 => h9) rfl d_Md_hear_96 ?_
            refine lv_iload hx hb d_Md_hear_99 (lv_at hl 0 rfl) ?_
            refine lv_iconst (v := (3 : Int32)) hx hb d_Md_hear_101 (by decide) ?_
            refine lv_iadd hx hb d_Md_hear_102 ?_
            refine lv_iload hx hb d_Md_hear_103 (lv_at hl 5 rfl) ?_
            have g14 := h.1
            have h := h.2
            refine xa_iast hx hb hK hP hD hS 1 0 rfl rfl g14 (k := (y10 + (3 : Int32)).toNatClampNeg) rfl d_Md_hear_105 (fun H locs hP hD hS => ?_)
            have hP : va_P G.1 CL [(h0, .inr (11, [.int (gI o0 0), .ref (q0 1), .ref (q0 2), .ref (q0 3), .ref (q0 4), .ref (q0 5), .ref (q0 6), .int (gI o0 7), .int (gI o0 8), .int (gI o0 9), .int (gI o0 10), .int (gI o0 11), .int (gI o0 12), .int (gI o0 13), .int (gI o0 14), .long (gL o0 15), .int (gI o0 16), .int (gI o0 17), .int (gI o0 18), .int (gI o0 19), .int (gI o0 20), .int (gI o0 21), .int (gI o0 22), .int (gI o0 23), .int (gI o0 24), .int (gI o0 25), .int (gI o0 26), .int (gI o0 27), .ref (q0 28), .long (gL o0 29), .int (gI o0 30), .ref (q0 31), .ref (q0 32), .ref (q0 33), .int (gI o0 34), .int (gI o0 35), .int (gI o0 36), .int (gI o0 37), .ref (q0 38), .ref (q0 39), .int (gI o0 40), .ref (q0 41), .ref (q0 42), .ref (q0 43), .ref (q0 44)])), kI G (q0 1) 6100 (upd (upd (upd (upd (gA o0 1) y10.toNatClampNeg a0) ((y10 + (1 : Int32)).toNatClampNeg) a1) ((y10 + (2 : Int32)).toNatClampNeg) a2) ((y10 + (3 : Int32)).toNatClampNeg) a3), kI G (q0 2) 6100 (gA o0 2), kJ G (q0 3) 2016 (gB o0 3), kJ G (q0 4) 2016 (gB o0 4), kI G (q0 5) 300 (gA o0 5), kI G (q0 6) 400 (gA o0 6), kJ G (q0 28) 10 (gB o0 28), kI G (q0 31) 969 (gA o0 31), kI G (q0 32) 969 (gA o0 32), kI G (q0 33) 969 (gA o0 33), kI G (q0 38) 5 (gA o0 38), kI G (q0 39) 5120 (gA o0 39), kI G (q0 41) 5 (gA o0 41), kZ G (q0 42) 1024 (gA o0 42), kI G (q0 43) 8192 (gA o0 43), kI G (q0 44) 8192 (gA o0 44)] H := hP
            have hD : va_D A [(h0, .inr (11, [.int (gI o0 0), .ref (q0 1), .ref (q0 2), .ref (q0 3), .ref (q0 4), .ref (q0 5), .ref (q0 6), .int (gI o0 7), .int (gI o0 8), .int (gI o0 9), .int (gI o0 10), .int (gI o0 11), .int (gI o0 12), .int (gI o0 13), .int (gI o0 14), .long (gL o0 15), .int (gI o0 16), .int (gI o0 17), .int (gI o0 18), .int (gI o0 19), .int (gI o0 20), .int (gI o0 21), .int (gI o0 22), .int (gI o0 23), .int (gI o0 24), .int (gI o0 25), .int (gI o0 26), .int (gI o0 27), .ref (q0 28), .long (gL o0 29), .int (gI o0 30), .ref (q0 31), .ref (q0 32), .ref (q0 33), .int (gI o0 34), .int (gI o0 35), .int (gI o0 36), .int (gI o0 37), .ref (q0 38), .ref (q0 39), .int (gI o0 40), .ref (q0 41), .ref (q0 42), .ref (q0 43), .ref (q0 44)])), kI G (q0 1) 6100 (upd (upd (upd (upd (gA o0 1) y10.toNatClampNeg a0) ((y10 + (1 : Int32)).toNatClampNeg) a1) ((y10 + (2 : Int32)).toNatClampNeg) a2) ((y10 + (3 : Int32)).toNatClampNeg) a3), kI G (q0 2) 6100 (gA o0 2), kJ G (q0 3) 2016 (gB o0 3), kJ G (q0 4) 2016 (gB o0 4), kI G (q0 5) 300 (gA o0 5), kI G (q0 6) 400 (gA o0 6), kJ G (q0 28) 10 (gB o0 28), kI G (q0 31) 969 (gA o0 31), kI G (q0 32) 969 (gA o0 32), kI G (q0 33) 969 (gA o0 33), kI G (q0 38) 5 (gA o0 38), kI G (q0 39) 5120 (gA o0 39), kI G (q0 41) 5 (gA o0 41), kZ G (q0 42) 1024 (gA o0 42), kI G (q0 43) 8192 (gA o0 43), kI G (q0 44) 8192 (gA o0 44)] := hD
            refine lv_aload_n hx hb d_Md_hear_106 rfl (lv_at hl 1 rfl) ?_
            refine va_get (D := G.1) (ci := 11) (v := .ref (q0 1)) (C := R_Md) (T := T_Md) (N := 45) hx hb hts i_Md hown hK hP 0 rfl rfl 1 (by decide) (hts _ wf_Md_7) (fun _ h9 => h9) rfl d_Md_hear_107 ?_
            refine lv_iconst (v := (1 : Int32)) hx hb d_Md_hear_110 (by decide) ?_
            refine lv_dup2_11 hx hb d_Md_hear_111 rfl rfl ?_
            refine xa_iald hx hb hK hP 1 0 rfl rfl (vp_lit rfl) (k := 1) rfl d_Md_hear_112 ?_
            refine lv_topi (fun y15 ey15 => ?_)
            have h := h y15 ey15
            refine lv_iconst (v := (1 : Int32)) hx hb d_Md_hear_113 (by decide) ?_
            refine lv_iadd hx hb d_Md_hear_114 ?_
            refine xa_iast hx hb hK hP hD hS 1 0 rfl rfl (vp_lit rfl) (k := 1) rfl d_Md_hear_115 (fun H locs hP hD hS => ?_)
            have hP : va_P G.1 CL [(h0, .inr (11, [.int (gI o0 0), .ref (q0 1), .ref (q0 2), .ref (q0 3), .ref (q0 4), .ref (q0 5), .ref (q0 6), .int (gI o0 7), .int (gI o0 8), .int (gI o0 9), .int (gI o0 10), .int (gI o0 11), .int (gI o0 12), .int (gI o0 13), .int (gI o0 14), .long (gL o0 15), .int (gI o0 16), .int (gI o0 17), .int (gI o0 18), .int (gI o0 19), .int (gI o0 20), .int (gI o0 21), .int (gI o0 22), .int (gI o0 23), .int (gI o0 24), .int (gI o0 25), .int (gI o0 26), .int (gI o0 27), .ref (q0 28), .long (gL o0 29), .int (gI o0 30), .ref (q0 31), .ref (q0 32), .ref (q0 33), .int (gI o0 34), .int (gI o0 35), .int (gI o0 36), .int (gI o0 37), .ref (q0 38), .ref (q0 39), .int (gI o0 40), .ref (q0 41), .ref (q0 42), .ref (q0 43), .ref (q0 44)])), kI G (q0 1) 6100 (upd (upd (upd (upd (upd (gA o0 1) y10.toNatClampNeg a0) ((y10 + (1 : Int32)).toNatClampNeg) a1) ((y10 + (2 : Int32)).toNatClampNeg) a2) ((y10 + (3 : Int32)).toNatClampNeg) a3) 1 (y15 + (1 : Int32))), kI G (q0 2) 6100 (gA o0 2), kJ G (q0 3) 2016 (gB o0 3), kJ G (q0 4) 2016 (gB o0 4), kI G (q0 5) 300 (gA o0 5), kI G (q0 6) 400 (gA o0 6), kJ G (q0 28) 10 (gB o0 28), kI G (q0 31) 969 (gA o0 31), kI G (q0 32) 969 (gA o0 32), kI G (q0 33) 969 (gA o0 33), kI G (q0 38) 5 (gA o0 38), kI G (q0 39) 5120 (gA o0 39), kI G (q0 41) 5 (gA o0 41), kZ G (q0 42) 1024 (gA o0 42), kI G (q0 43) 8192 (gA o0 43), kI G (q0 44) 8192 (gA o0 44)] H := hP
            have hD : va_D A [(h0, .inr (11, [.int (gI o0 0), .ref (q0 1), .ref (q0 2), .ref (q0 3), .ref (q0 4), .ref (q0 5), .ref (q0 6), .int (gI o0 7), .int (gI o0 8), .int (gI o0 9), .int (gI o0 10), .int (gI o0 11), .int (gI o0 12), .int (gI o0 13), .int (gI o0 14), .long (gL o0 15), .int (gI o0 16), .int (gI o0 17), .int (gI o0 18), .int (gI o0 19), .int (gI o0 20), .int (gI o0 21), .int (gI o0 22), .int (gI o0 23), .int (gI o0 24), .int (gI o0 25), .int (gI o0 26), .int (gI o0 27), .ref (q0 28), .long (gL o0 29), .int (gI o0 30), .ref (q0 31), .ref (q0 32), .ref (q0 33), .int (gI o0 34), .int (gI o0 35), .int (gI o0 36), .int (gI o0 37), .ref (q0 38), .ref (q0 39), .int (gI o0 40), .ref (q0 41), .ref (q0 42), .ref (q0 43), .ref (q0 44)])), kI G (q0 1) 6100 (upd (upd (upd (upd (upd (gA o0 1) y10.toNatClampNeg a0) ((y10 + (1 : Int32)).toNatClampNeg) a1) ((y10 + (2 : Int32)).toNatClampNeg) a2) ((y10 + (3 : Int32)).toNatClampNeg) a3) 1 (y15 + (1 : Int32))), kI G (q0 2) 6100 (gA o0 2), kJ G (q0 3) 2016 (gB o0 3), kJ G (q0 4) 2016 (gB o0 4), kI G (q0 5) 300 (gA o0 5), kI G (q0 6) 400 (gA o0 6), kJ G (q0 28) 10 (gB o0 28), kI G (q0 31) 969 (gA o0 31), kI G (q0 32) 969 (gA o0 32), kI G (q0 33) 969 (gA o0 33), kI G (q0 38) 5 (gA o0 38), kI G (q0 39) 5120 (gA o0 39), kI G (q0 41) 5 (gA o0 41), kZ G (q0 42) 1024 (gA o0 42), kI G (q0 43) 8192 (gA o0 43), kI G (q0 44) 8192 (gA o0 44)] := hD
            refine lv_aload_n hx hb d_Md_hear_116 rfl (lv_at hl 1 rfl) ?_
            refine va_get (D := G.1) (ci := 11) (v := .ref (q0 1)) (C := R_Md) (T := T_Md) (N := 45) hx hb hts i_Md hown hK hP 0 rfl rfl 1 (by decide) (hts _ wf_Md_7) (fun _ h9 => h9) rfl d_Md_hear_117 ?_
            refine lv_iconst (v := (2 : Int32)) hx hb d_Md_hear_120 (by decide) ?_
            refine lv_aload_n hx hb d_Md_hear_121 rfl (lv_at hl 1 rfl) ?_
            refine va_get (D := G.1) (ci := 11) (v := .ref (q0 1)) (C := R_Md) (T := T_Md) (N := 45) hx hb hts i_Md hown hK hP 0 rfl rfl 1 (by decide) (hts _ wf_Md_7) (fun _ h9 => h9) rfl d_Md_hear_122 ?_
            refine lv_iconst (v := (1 : Int32)) hx hb d_Md_hear_125 (by decide) ?_
            refine xa_iald hx hb hK hP 1 0 rfl rfl (vp_lit rfl) (k := 1) rfl d_Md_hear_126 ?_
            refine lv_topi (fun y16 ey16 => ?_)
            have h := h y16 ey16
            refine xa_iast hx hb hK hP hD hS 1 0 rfl rfl (vp_lit rfl) (k := 2) rfl d_Md_hear_127 (fun H locs hP hD hS => ?_)
            have hP : va_P G.1 CL [(h0, .inr (11, [.int (gI o0 0), .ref (q0 1), .ref (q0 2), .ref (q0 3), .ref (q0 4), .ref (q0 5), .ref (q0 6), .int (gI o0 7), .int (gI o0 8), .int (gI o0 9), .int (gI o0 10), .int (gI o0 11), .int (gI o0 12), .int (gI o0 13), .int (gI o0 14), .long (gL o0 15), .int (gI o0 16), .int (gI o0 17), .int (gI o0 18), .int (gI o0 19), .int (gI o0 20), .int (gI o0 21), .int (gI o0 22), .int (gI o0 23), .int (gI o0 24), .int (gI o0 25), .int (gI o0 26), .int (gI o0 27), .ref (q0 28), .long (gL o0 29), .int (gI o0 30), .ref (q0 31), .ref (q0 32), .ref (q0 33), .int (gI o0 34), .int (gI o0 35), .int (gI o0 36), .int (gI o0 37), .ref (q0 38), .ref (q0 39), .int (gI o0 40), .ref (q0 41), .ref (q0 42), .ref (q0 43), .ref (q0 44)])), kI G (q0 1) 6100 (upd (upd (upd (upd (upd (upd (gA o0 1) y10.toNatClampNeg a0) ((y10 + (1 : Int32)).toNatClampNeg) a1) ((y10 + (2 : Int32)).toNatClampNeg) a2) ((y10 + (3 : Int32)).toNatClampNeg) a3) 1 (y15 + (1 : Int32))) 2 y16), kI G (q0 2) 6100 (gA o0 2), kJ G (q0 3) 2016 (gB o0 3), kJ G (q0 4) 2016 (gB o0 4), kI G (q0 5) 300 (gA o0 5), kI G (q0 6) 400 (gA o0 6), kJ G (q0 28) 10 (gB o0 28), kI G (q0 31) 969 (gA o0 31), kI G (q0 32) 969 (gA o0 32), kI G (q0 33) 969 (gA o0 33), kI G (q0 38) 5 (gA o0 38), kI G (q0 39) 5120 (gA o0 39), kI G (q0 41) 5 (gA o0 41), kZ G (q0 42) 1024 (gA o0 42), kI G (q0 43) 8192 (gA o0 43), kI G (q0 44) 8192 (gA o0 44)] H := hP
            have hD : va_D A [(h0, .inr (11, [.int (gI o0 0), .ref (q0 1), .ref (q0 2), .ref (q0 3), .ref (q0 4), .ref (q0 5), .ref (q0 6), .int (gI o0 7), .int (gI o0 8), .int (gI o0 9), .int (gI o0 10), .int (gI o0 11), .int (gI o0 12), .int (gI o0 13), .int (gI o0 14), .long (gL o0 15), .int (gI o0 16), .int (gI o0 17), .int (gI o0 18), .int (gI o0 19), .int (gI o0 20), .int (gI o0 21), .int (gI o0 22), .int (gI o0 23), .int (gI o0 24), .int (gI o0 25), .int (gI o0 26), .int (gI o0 27), .ref (q0 28), .long (gL o0 29), .int (gI o0 30), .ref (q0 31), .ref (q0 32), .ref (q0 33), .int (gI o0 34), .int (gI o0 35), .int (gI o0 36), .int (gI o0 37), .ref (q0 38), .ref (q0 39), .int (gI o0 40), .ref (q0 41), .ref (q0 42), .ref (q0 43), .ref (q0 44)])), kI G (q0 1) 6100 (upd (upd (upd (upd (upd (upd (gA o0 1) y10.toNatClampNeg a0) ((y10 + (1 : Int32)).toNatClampNeg) a1) ((y10 + (2 : Int32)).toNatClampNeg) a2) ((y10 + (3 : Int32)).toNatClampNeg) a3) 1 (y15 + (1 : Int32))) 2 y16), kI G (q0 2) 6100 (gA o0 2), kJ G (q0 3) 2016 (gB o0 3), kJ G (q0 4) 2016 (gB o0 4), kI G (q0 5) 300 (gA o0 5), kI G (q0 6) 400 (gA o0 6), kJ G (q0 28) 10 (gB o0 28), kI G (q0 31) 969 (gA o0 31), kI G (q0 32) 969 (gA o0 32), kI G (q0 33) 969 (gA o0 33), kI G (q0 38) 5 (gA o0 38), kI G (q0 39) 5120 (gA o0 39), kI G (q0 41) 5 (gA o0 41), kZ G (q0 42) 1024 (gA o0 42), kI G (q0 43) 8192 (gA o0 43), kI G (q0 44) 8192 (gA o0 44)] := hD
            refine lv_aload_n hx hb d_Md_hear_128 rfl (lv_at hl 1 rfl) ?_
            refine va_get (D := G.1) (ci := 11) (v := .ref (q0 1)) (C := R_Md) (T := T_Md) (N := 45) hx hb hts i_Md hown hK hP 0 rfl rfl 1 (by decide) (hts _ wf_Md_7) (fun _ h9 => h9) rfl d_Md_hear_129 ?_
            refine lv_iconst (v := (1 : Int32)) hx hb d_Md_hear_132 (by decide) ?_
            refine xa_iald hx hb hK hP 1 0 rfl rfl (vp_lit rfl) (k := 1) rfl d_Md_hear_133 ?_
            refine lv_topi (fun y17 ey17 => ?_)
            have h := h y17 ey17
            have hP : va_P G.1 CL (cw_Md G h0 q0 (sA o0 1 (upd (upd (upd (upd (upd (upd (gA o0 1) y10.toNatClampNeg a0) ((y10 + (1 : Int32)).toNatClampNeg) a1) ((y10 + (2 : Int32)).toNatClampNeg) a2) ((y10 + (3 : Int32)).toNatClampNeg) a3) 1 (y15 + (1 : Int32))) 2 y16))) H := hP
            have hD : va_D A (cw_Md G h0 q0 (sA o0 1 (upd (upd (upd (upd (upd (upd (gA o0 1) y10.toNatClampNeg a0) ((y10 + (1 : Int32)).toNatClampNeg) a1) ((y10 + (2 : Int32)).toNatClampNeg) a2) ((y10 + (3 : Int32)).toNatClampNeg) a3) 1 (y15 + (1 : Int32))) 2 y16))) := hD
            exact W.iret (v := y17) hx hb hr (fun t ht hW => ⟨⟨y17, (sA o0 1 (upd (upd (upd (upd (upd (upd (gA o0 1) y10.toNatClampNeg a0) ((y10 + (1 : Int32)).toNatClampNeg) a1) ((y10 + (2 : Int32)).toNatClampNeg) a2) ((y10 + (3 : Int32)).toNatClampNeg) a3) 1 (y15 + (1 : Int32))) 2 y16)), rfl, h, by rw [ht]; exact hP, va_K.moved hW.alike hK, hD⟩, hS.F ht⟩) hS.2.2 d_Md_hear_134
          · have h := h.1 c9
            refine lv_iconst (v := (-1 : Int32)) hx hb d_Md_hear_52 (by decide) ?_
            have hP : va_P G.1 CL (cw_Md G h0 q0 o0) H := hP
            have hD : va_D A (cw_Md G h0 q0 o0) := hD
            exact W.iret (v := (-1 : Int32)) hx hb hr (fun t ht hW => ⟨⟨(-1 : Int32), o0, rfl, h, by rw [ht]; exact hP, va_K.moved hW.alike hK, hD⟩, hS.F ht⟩) hS.2.2 d_Md_hear_53
abbrev b_Md_look : ByteArray := prog_14_method_55_code
def y_Md_look : MethodName := ⟨R_Md, "look", "(I)Z"⟩
abbrev w_Md_look : List Cond := Cond.code y_Md_look b_Md_look 2 (some .boolean) :: gw_tbl
theorem d_Md_look_0 : decode b_Md_look 0 = .ok (.iload_n 1, 1) := by decide +kernel
theorem d_Md_look_1 : decode b_Md_look 1 = .ok (.iconst 0, 1) := by decide +kernel
theorem d_Md_look_2 : decode b_Md_look 2 = .ok (.aload_n 0, 1) := by decide +kernel
theorem d_Md_look_3 : decode b_Md_look 3 = .ok (.getfield 7, 3) := by decide +kernel
theorem d_Md_look_6 : decode b_Md_look 6 = .ok (.iconst 1, 1) := by decide +kernel
theorem d_Md_look_7 : decode b_Md_look 7 = .ok (.iaload, 1) := by decide +kernel
theorem d_Md_look_8 : decode b_Md_look 8 = .ok (.invokestatic 76, 3) := by decide +kernel
theorem d_Md_look_11 : decode b_Md_look 11 = .ok (.ifCond .ne 5, 3) := by decide +kernel
theorem d_Md_look_14 : decode b_Md_look 14 = .ok (.iconst 0, 1) := by decide +kernel
theorem d_Md_look_15 : decode b_Md_look 15 = .ok (.ireturn, 1) := by decide +kernel
theorem d_Md_look_16 : decode b_Md_look 16 = .ok (.aload_n 0, 1) := by decide +kernel
theorem d_Md_look_17 : decode b_Md_look 17 = .ok (.getfield 7, 3) := by decide +kernel
theorem d_Md_look_20 : decode b_Md_look 20 = .ok (.iconst 2, 1) := by decide +kernel
theorem d_Md_look_21 : decode b_Md_look 21 = .ok (.iload_n 1, 1) := by decide +kernel
theorem d_Md_look_22 : decode b_Md_look 22 = .ok (.iastore, 1) := by decide +kernel
theorem d_Md_look_23 : decode b_Md_look 23 = .ok (.iconst 1, 1) := by decide +kernel
theorem d_Md_look_24 : decode b_Md_look 24 = .ok (.ireturn, 1) := by decide +kernel
def f_Md_look (a0 : Int32) (o0 : Ob) (Q : Int32 → Ob → Prop) : Prop := f_Md_isIn a0 (0 : Int32) ((gA o0 1) 1) (fun z1 => (z1 = 0 → (Q (0 : Int32) o0)) ∧ (¬ z1 = 0 → (Q (1 : Int32) (sA o0 1 (upd (gA o0 1) 2 a0)))))
abbrev rm_Md_look : Room := { frames := 1, cells := 0, slots := 0, locals := 22 }
set_option maxHeartbeats 4000000 in
set_option maxRecDepth 100000 in
theorem c_Md_look {l : Launch} {G : Gl} {h0 : Nat} {q0 : Nat → Nat} {a0 : Int32} {o0 : Ob} {Q : Int32 → Ob → Prop} (sz : Nat) (h : f_Md_look a0 o0 Q) : Met l y_Md_look w_Md_look rm_Md_look (PcW G [.ref h0, .int a0] sz (cw_Md G h0 q0 o0)) (va_Qi (fun (r : Int32) (u : Ob) => Q r u) (fun (u : Ob) t => BW G (va_A (cw_Md G h0 q0 o0) sz) (cw_Md G h0 q0 u) t) (va_A (cw_Md G h0 q0 o0) sz)) 0 0 (va_A (cw_Md G h0 q0 o0) sz) := by
  refine Met.ofW (cc := b_Md_look) (maxL := 2) (ret := (some .boolean)) (by decide +kernel) rfl ?_
  intro p e s m args below meth c s₁ B hml hv
  obtain ⟨rfl, hsz, hP, hK, hD0, hE⟩ := hv
  have hx := B.exec
  have hb := B.bytes
  have hr := B.returns
  have hts0 := atoms_spec (ws := w_Md_look) B.pre
  have hts : ∀ w ∈ gw_tbl, w.before ([.ref h0, .int a0]).toArray s = true := fun w hw => hts0 w (List.mem_cons_of_mem _ hw)
  have hown : s.vm.findClass R_Md = some m.cls := findClass_of_methodNamed B.named
  have hlocks := B.notSynchronized
  subst hsz
  have hD := hD0.self (sz := s.heap.size)
  generalize hAe : va_A (cw_Md G h0 q0 o0) s.heap.size = A at hD hE ⊢
  have hA : ∀ q : Nat, s.heap.size ≤ q → A q := fun q h => by rw [← hAe]; exact Or.inr h
  have hS : va_S A s.heap s.heap [] := va_S.rf
  have C : Cx p s m ([.ref h0, .int a0]).toArray meth c R_Md b_Md_look 2 (some .boolean) G A := ⟨hx, hb, hml, hown, hr, hts, hK, hA, hlocks, hE⟩
  have hl := lv_entry ([.ref h0, .int a0]) (n := 2) (Nat.le_of_ble_eq_true rfl)
  rw [lg_entry_eq]
  generalize (lg_sl ([.ref h0, .int a0]) ++ List.replicate (2 - (lg_sl ([.ref h0, .int a0])).length) Slot.unset).toArray = ls at hl ⊢
  have hl : lv_has ls 2 [(0, .ref h0), (1, .int a0)] := hl
  have hD : va_D A [(h0, .inr (11, [.int (gI o0 0), .ref (q0 1), .ref (q0 2), .ref (q0 3), .ref (q0 4), .ref (q0 5), .ref (q0 6), .int (gI o0 7), .int (gI o0 8), .int (gI o0 9), .int (gI o0 10), .int (gI o0 11), .int (gI o0 12), .int (gI o0 13), .int (gI o0 14), .long (gL o0 15), .int (gI o0 16), .int (gI o0 17), .int (gI o0 18), .int (gI o0 19), .int (gI o0 20), .int (gI o0 21), .int (gI o0 22), .int (gI o0 23), .int (gI o0 24), .int (gI o0 25), .int (gI o0 26), .int (gI o0 27), .ref (q0 28), .long (gL o0 29), .int (gI o0 30), .ref (q0 31), .ref (q0 32), .ref (q0 33), .int (gI o0 34), .int (gI o0 35), .int (gI o0 36), .int (gI o0 37), .ref (q0 38), .ref (q0 39), .int (gI o0 40), .ref (q0 41), .ref (q0 42), .ref (q0 43), .ref (q0 44)])), kI G (q0 1) 6100 (gA o0 1), kI G (q0 2) 6100 (gA o0 2), kJ G (q0 3) 2016 (gB o0 3), kJ G (q0 4) 2016 (gB o0 4), kI G (q0 5) 300 (gA o0 5), kI G (q0 6) 400 (gA o0 6), kJ G (q0 28) 10 (gB o0 28), kI G (q0 31) 969 (gA o0 31), kI G (q0 32) 969 (gA o0 32), kI G (q0 33) 969 (gA o0 33), kI G (q0 38) 5 (gA o0 38), kI G (q0 39) 5120 (gA o0 39), kI G (q0 41) 5 (gA o0 41), kZ G (q0 42) 1024 (gA o0 42), kI G (q0 43) 8192 (gA o0 43), kI G (q0 44) 8192 (gA o0 44)] := hD
  unfold f_Md_look at h
  suffices key : ∀ (H : Heap) (locs : List Loc), va_P G.1 CL [(h0, .inr (11, [.int (gI o0 0), .ref (q0 1), .ref (q0 2), .ref (q0 3), .ref (q0 4), .ref (q0 5), .ref (q0 6), .int (gI o0 7), .int (gI o0 8), .int (gI o0 9), .int (gI o0 10), .int (gI o0 11), .int (gI o0 12), .int (gI o0 13), .int (gI o0 14), .long (gL o0 15), .int (gI o0 16), .int (gI o0 17), .int (gI o0 18), .int (gI o0 19), .int (gI o0 20), .int (gI o0 21), .int (gI o0 22), .int (gI o0 23), .int (gI o0 24), .int (gI o0 25), .int (gI o0 26), .int (gI o0 27), .ref (q0 28), .long (gL o0 29), .int (gI o0 30), .ref (q0 31), .ref (q0 32), .ref (q0 33), .int (gI o0 34), .int (gI o0 35), .int (gI o0 36), .int (gI o0 37), .ref (q0 38), .ref (q0 39), .int (gI o0 40), .ref (q0 41), .ref (q0 42), .ref (q0 43), .ref (q0 44)])), kI G (q0 1) 6100 (gA o0 1), kI G (q0 2) 6100 (gA o0 2), kJ G (q0 3) 2016 (gB o0 3), kJ G (q0 4) 2016 (gB o0 4), kI G (q0 5) 300 (gA o0 5), kI G (q0 6) 400 (gA o0 6), kJ G (q0 28) 10 (gB o0 28), kI G (q0 31) 969 (gA o0 31), kI G (q0 32) 969 (gA o0 32), kI G (q0 33) 969 (gA o0 33), kI G (q0 38) 5 (gA o0 38), kI G (q0 39) 5120 (gA o0 39), kI G (q0 41) 5 (gA o0 41), kZ G (q0 42) 1024 (gA o0 42), kI G (q0 43) 8192 (gA o0 43), kI G (q0 44) 8192 (gA o0 44)] H → va_S A s.heap H locs → W p l e rm_Md_look s m ([.ref h0, .int a0]).toArray below meth c H locs 0 0 (MQ below (va_Qi (fun (r : Int32) (u : Ob) => Q r u) (fun (u : Ob) t => BW G A (cw_Md G h0 q0 u) t) A) ([.ref h0, .int a0]).toArray s 0 0 A) (F0 m 0 ls []) from key s.heap [] hP hS
  intro H locs hP hS
  refine lv_iload_n hx hb d_Md_look_0 rfl (lv_at hl 1 rfl) ?_
  refine lv_iconst (v := (0 : Int32)) hx hb d_Md_look_1 (by decide) ?_
  refine lv_aload_n hx hb d_Md_look_2 rfl (lv_at hl 0 rfl) ?_
  refine va_get (D := G.1) (ci := 11) (v := .ref (q0 1)) (C := R_Md) (T := T_Md) (N := 45) hx hb hts i_Md hown hK hP 0 rfl rfl 1 (by decide) (hts _ wf_Md_7) (fun _ h9 => h9) rfl d_Md_look_3 ?_
  refine lv_iconst (v := (1 : Int32)) hx hb d_Md_look_6 (by decide) ?_
  refine xa_iald hx hb hK hP 1 0 rfl rfl (vp_lit rfl) (k := 1) rfl d_Md_look_7 ?_
  refine cl_Si (b := b_Md_look) (As := [.int a0, .int (0 : Int32), .int ((gA o0 1) 1)]) (rest := []) (ws := [(h0, .inr (11, [.int (gI o0 0), .ref (q0 1), .ref (q0 2), .ref (q0 3), .ref (q0 4), .ref (q0 5), .ref (q0 6), .int (gI o0 7), .int (gI o0 8), .int (gI o0 9), .int (gI o0 10), .int (gI o0 11), .int (gI o0 12), .int (gI o0 13), .int (gI o0 14), .long (gL o0 15), .int (gI o0 16), .int (gI o0 17), .int (gI o0 18), .int (gI o0 19), .int (gI o0 20), .int (gI o0 21), .int (gI o0 22), .int (gI o0 23), .int (gI o0 24), .int (gI o0 25), .int (gI o0 26), .int (gI o0 27), .ref (q0 28), .long (gL o0 29), .int (gI o0 30), .ref (q0 31), .ref (q0 32), .ref (q0 33), .int (gI o0 34), .int (gI o0 35), .int (gI o0 36), .int (gI o0 37), .ref (q0 38), .ref (q0 39), .int (gI o0 40), .ref (q0 41), .ref (q0 42), .ref (q0 43), .ref (q0 44)])), kI G (q0 1) 6100 (gA o0 1), kI G (q0 2) 6100 (gA o0 2), kJ G (q0 3) 2016 (gB o0 3), kJ G (q0 4) 2016 (gB o0 4), kI G (q0 5) 300 (gA o0 5), kI G (q0 6) 400 (gA o0 6), kJ G (q0 28) 10 (gB o0 28), kI G (q0 31) 969 (gA o0 31), kI G (q0 32) 969 (gA o0 32), kI G (q0 33) 969 (gA o0 33), kI G (q0 38) 5 (gA o0 38), kI G (q0 39) 5120 (gA o0 39), kI G (q0 41) 5 (gA o0 41), kZ G (q0 42) 1024 (gA o0 42), kI G (q0 43) 8192 (gA o0 43), kI G (q0 44) 8192 (gA o0 44)]) (wr := [(h0, .inr (11, [.int (gI o0 0), .ref (q0 1), .ref (q0 2), .ref (q0 3), .ref (q0 4), .ref (q0 5), .ref (q0 6), .int (gI o0 7), .int (gI o0 8), .int (gI o0 9), .int (gI o0 10), .int (gI o0 11), .int (gI o0 12), .int (gI o0 13), .int (gI o0 14), .long (gL o0 15), .int (gI o0 16), .int (gI o0 17), .int (gI o0 18), .int (gI o0 19), .int (gI o0 20), .int (gI o0 21), .int (gI o0 22), .int (gI o0 23), .int (gI o0 24), .int (gI o0 25), .int (gI o0 26), .int (gI o0 27), .ref (q0 28), .long (gL o0 29), .int (gI o0 30), .ref (q0 31), .ref (q0 32), .ref (q0 33), .int (gI o0 34), .int (gI o0 35), .int (gI o0 36), .int (gI o0 37), .ref (q0 38), .ref (q0 39), .int (gI o0 40), .ref (q0 41), .ref (q0 42), .ref (q0 43), .ref (q0 44)])), kI G (q0 1) 6100 (gA o0 1), kI G (q0 2) 6100 (gA o0 2), kJ G (q0 3) 2016 (gB o0 3), kJ G (q0 4) 2016 (gB o0 4), kI G (q0 5) 300 (gA o0 5), kI G (q0 6) 400 (gA o0 6), kJ G (q0 28) 10 (gB o0 28), kI G (q0 31) 969 (gA o0 31), kI G (q0 32) 969 (gA o0 32), kI G (q0 33) 969 (gA o0 33), kI G (q0 38) 5 (gA o0 38), kI G (q0 39) 5120 (gA o0 39), kI G (q0 41) 5 (gA o0 41), kZ G (q0 42) 1024 (gA o0 42), kI G (q0 43) 8192 (gA o0 43), kI G (q0 44) 8192 (gA o0 44)]) (w2 := fun (u : Unit) => [(h0, .inr (11, [.int (gI o0 0), .ref (q0 1), .ref (q0 2), .ref (q0 3), .ref (q0 4), .ref (q0 5), .ref (q0 6), .int (gI o0 7), .int (gI o0 8), .int (gI o0 9), .int (gI o0 10), .int (gI o0 11), .int (gI o0 12), .int (gI o0 13), .int (gI o0 14), .long (gL o0 15), .int (gI o0 16), .int (gI o0 17), .int (gI o0 18), .int (gI o0 19), .int (gI o0 20), .int (gI o0 21), .int (gI o0 22), .int (gI o0 23), .int (gI o0 24), .int (gI o0 25), .int (gI o0 26), .int (gI o0 27), .ref (q0 28), .long (gL o0 29), .int (gI o0 30), .ref (q0 31), .ref (q0 32), .ref (q0 33), .int (gI o0 34), .int (gI o0 35), .int (gI o0 36), .int (gI o0 37), .ref (q0 38), .ref (q0 39), .int (gI o0 40), .ref (q0 41), .ref (q0 42), .ref (q0 43), .ref (q0 44)])), kI G (q0 1) 6100 (gA o0 1), kI G (q0 2) 6100 (gA o0 2), kJ G (q0 3) 2016 (gB o0 3), kJ G (q0 4) 2016 (gB o0 4), kI G (q0 5) 300 (gA o0 5), kI G (q0 6) 400 (gA o0 6), kJ G (q0 28) 10 (gB o0 28), kI G (q0 31) 969 (gA o0 31), kI G (q0 32) 969 (gA o0 32), kI G (q0 33) 969 (gA o0 33), kI G (q0 38) 5 (gA o0 38), kI G (q0 39) 5120 (gA o0 39), kI G (q0 41) 5 (gA o0 41), kZ G (q0 42) 1024 (gA o0 42), kI G (q0 43) 8192 (gA o0 43), kI G (q0 44) 8192 (gA o0 44)]) C (c_Md_isIn H.size h) ws_Md_76 ⟨Nat.le_of_ble_eq_true rfl, Nat.le_of_ble_eq_true rfl⟩ hP hD hS [] [0, 1, 2, 3, 4, 5, 6, 7, 8, 9, 10, 11, 12, 13, 14, 15, 16] rfl rfl (by decide) (by decide) (by decide) [0, 1, 2, 3, 4, 5, 6, 7, 8, 9, 10, 11, 12, 13, 14, 15, 16] (by decide) (fun u => rfl) rfl hl.1 rfl (lv_room (Nat.le_of_ble_eq_true rfl)) d_Md_look_8 ⟨Nat.le_of_ble_eq_true rfl, Nat.le_of_ble_eq_true rfl⟩ rfl rfl (fun z1 u H locs h hP hD hS => ?_)
  have hP : va_P G.1 CL [(h0, .inr (11, [.int (gI o0 0), .ref (q0 1), .ref (q0 2), .ref (q0 3), .ref (q0 4), .ref (q0 5), .ref (q0 6), .int (gI o0 7), .int (gI o0 8), .int (gI o0 9), .int (gI o0 10), .int (gI o0 11), .int (gI o0 12), .int (gI o0 13), .int (gI o0 14), .long (gL o0 15), .int (gI o0 16), .int (gI o0 17), .int (gI o0 18), .int (gI o0 19), .int (gI o0 20), .int (gI o0 21), .int (gI o0 22), .int (gI o0 23), .int (gI o0 24), .int (gI o0 25), .int (gI o0 26), .int (gI o0 27), .ref (q0 28), .long (gL o0 29), .int (gI o0 30), .ref (q0 31), .ref (q0 32), .ref (q0 33), .int (gI o0 34), .int (gI o0 35), .int (gI o0 36), .int (gI o0 37), .ref (q0 38), .ref (q0 39), .int (gI o0 40), .ref (q0 41), .ref (q0 42), .ref (q0 43), .ref (q0 44)])), kI G (q0 1) 6100 (gA o0 1), kI G (q0 2) 6100 (gA o0 2), kJ G (q0 3) 2016 (gB o0 3), kJ G (q0 4) 2016 (gB o0 4), kI G (q0 5) 300 (gA o0 5), kI G (q0 6) 400 (gA o0 6), kJ G (q0 28) 10 (gB o0 28), kI G (q0 31) 969 (gA o0 31), kI G (q0 32) 969 (gA o0 32), kI G (q0 33) 969 (gA o0 33), kI G (q0 38) 5 (gA o0 38), kI G (q0 39) 5120 (gA o0 39), kI G (q0 41) 5 (gA o0 41), kZ G (q0 42) 1024 (gA o0 42), kI G (q0 43) 8192 (gA o0 43), kI G (q0 44) 8192 (gA o0 44)] H := hP
  have hD : va_D A [(h0, .inr (11, [.int (gI o0 0), .ref (q0 1), .ref (q0 2), .ref (q0 3), .ref (q0 4), .ref (q0 5), .ref (q0 6), .int (gI o0 7), .int (gI o0 8), .int (gI o0 9), .int (gI o0 10), .int (gI o0 11), .int (gI o0 12), .int (gI o0 13), .int (gI o0 14), .long (gL o0 15), .int (gI o0 16), .int (gI o0 17), .int (gI o0 18), .int (gI o0 19), .int (gI o0 20), .int (gI o0 21), .int (gI o0 22), .int (gI o0 23), .int (gI o0 24), .int (gI o0 25), .int (gI o0 26), .int (gI o0 27), .ref (q0 28), .long (gL o0 29), .int (gI o0 30), .ref (q0 31), .ref (q0 32), .ref (q0 33), .int (gI o0 34), .int (gI o0 35), .int (gI o0 36), .int (gI o0 37), .ref (q0 38), .ref (q0 39), .int (gI o0 40), .ref (q0 41), .ref (q0 42), .ref (q0 43), .ref (q0 44)])), kI G (q0 1) 6100 (gA o0 1), kI G (q0 2) 6100 (gA o0 2), kJ G (q0 3) 2016 (gB o0 3), kJ G (q0 4) 2016 (gB o0 4), kI G (q0 5) 300 (gA o0 5), kI G (q0 6) 400 (gA o0 6), kJ G (q0 28) 10 (gB o0 28), kI G (q0 31) 969 (gA o0 31), kI G (q0 32) 969 (gA o0 32), kI G (q0 33) 969 (gA o0 33), kI G (q0 38) 5 (gA o0 38), kI G (q0 39) 5120 (gA o0 39), kI G (q0 41) 5 (gA o0 41), kZ G (q0 42) 1024 (gA o0 42), kI G (q0 43) 8192 (gA o0 43), kI G (q0 44) 8192 (gA o0 44)] := hD
  refine lv_if_ne (tgt := 16) hx hb d_Md_look_11 (by decide) (fun c2 => ?_) (fun c2 => ?_)
  · have h := h.2 c2
    refine lv_aload_n hx hb d_Md_look_16 rfl (lv_at hl 0 rfl) ?_
    refine va_get (D := G.1) (ci := 11) (v := .ref (q0 1)) (C := R_Md) (T := T_Md) (N := 45) hx hb hts i_Md hown hK hP 0 rfl rfl 1 (by decide) (hts _ wf_Md_7) (fun _ h9 => h9) rfl d_Md_look_17 ?_
    refine lv_iconst (v := (2 : Int32)) hx hb d_Md_look_20 (by decide) ?_
    refine lv_iload_n hx hb d_Md_look_21 rfl (lv_at hl 1 rfl) ?_
    refine xa_iast hx hb hK hP hD hS 1 0 rfl rfl (vp_lit rfl) (k := 2) rfl d_Md_look_22 (fun H locs hP hD hS => ?_)
    have hP : va_P G.1 CL [(h0, .inr (11, [.int (gI o0 0), .ref (q0 1), .ref (q0 2), .ref (q0 3), .ref (q0 4), .ref (q0 5), .ref (q0 6), .int (gI o0 7), .int (gI o0 8), .int (gI o0 9), .int (gI o0 10), .int (gI o0 11), .int (gI o0 12), .int (gI o0 13), .int (gI o0 14), .long (gL o0 15), .int (gI o0 16), .int (gI o0 17), .int (gI o0 18), .int (gI o0 19), .int (gI o0 20), .int (gI o0 21), .int (gI o0 22), .int (gI o0 23), .int (gI o0 24), .int (gI o0 25), .int (gI o0 26), .int (gI o0 27), .ref (q0 28), .long (gL o0 29), .int (gI o0 30), .ref (q0 31), .ref (q0 32), .ref (q0 33), .int (gI o0 34), .int (gI o0 35), .int (gI o0 36), .int (gI o0 37), .ref (q0 38), .ref (q0 39), .int (gI o0 40), .ref (q0 41), .ref (q0 42), .ref (q0 43), .ref (q0 44)])), kI G (q0 1) 6100 (upd (gA o0 1) 2 a0), kI G (q0 2) 6100 (gA o0 2), kJ G (q0 3) 2016 (gB o0 3), kJ G (q0 4) 2016 (gB o0 4), kI G (q0 5) 300 (gA o0 5), kI G (q0 6) 400 (gA o0 6), kJ G (q0 28) 10 (gB o0 28), kI G (q0 31) 969 (gA o0 31), kI G (q0 32) 969 (gA o0 32), kI G (q0 33) 969 (gA o0 33), kI G (q0 38) 5 (gA o0 38), kI G (q0 39) 5120 (gA o0 39), kI G (q0 41) 5 (gA o0 41), kZ G (q0 42) 1024 (gA o0 42), kI G (q0 43) 8192 (gA o0 43), kI G (q0 44) 8192 (gA o0 44)] H := hP
    have hD : va_D A [(h0, .inr (11, [.int (gI o0 0), .ref (q0 1), .ref (q0 2), .ref (q0 3), .ref (q0 4), .ref (q0 5), .ref (q0 6), .int (gI o0 7), .int (gI o0 8), .int (gI o0 9), .int (gI o0 10), .int (gI o0 11), .int (gI o0 12), .int (gI o0 13), .int (gI o0 14), .long (gL o0 15), .int (gI o0 16), .int (gI o0 17), .int (gI o0 18), .int (gI o0 19), .int (gI o0 20), .int (gI o0 21), .int (gI o0 22), .int (gI o0 23), .int (gI o0 24), .int (gI o0 25), .int (gI o0 26), .int (gI o0 27), .ref (q0 28), .long (gL o0 29), .int (gI o0 30), .ref (q0 31), .ref (q0 32), .ref (q0 33), .int (gI o0 34), .int (gI o0 35), .int (gI o0 36), .int (gI o0 37), .ref (q0 38), .ref (q0 39), .int (gI o0 40), .ref (q0 41), .ref (q0 42), .ref (q0 43), .ref (q0 44)])), kI G (q0 1) 6100 (upd (gA o0 1) 2 a0), kI G (q0 2) 6100 (gA o0 2), kJ G (q0 3) 2016 (gB o0 3), kJ G (q0 4) 2016 (gB o0 4), kI G (q0 5) 300 (gA o0 5), kI G (q0 6) 400 (gA o0 6), kJ G (q0 28) 10 (gB o0 28), kI G (q0 31) 969 (gA o0 31), kI G (q0 32) 969 (gA o0 32), kI G (q0 33) 969 (gA o0 33), kI G (q0 38) 5 (gA o0 38), kI G (q0 39) 5120 (gA o0 39), kI G (q0 41) 5 (gA o0 41), kZ G (q0 42) 1024 (gA o0 42), kI G (q0 43) 8192 (gA o0 43), kI G (q0 44) 8192 (gA o0 44)] := hD
    refine lv_iconst (v := (1 : Int32)) hx hb d_Md_look_23 (by decide) ?_
    have hP : va_P G.1 CL (cw_Md G h0 q0 (sA o0 1 (upd (gA o0 1) 2 a0))) H := hP
    have hD : va_D A (cw_Md G h0 q0 (sA o0 1 (upd (gA o0 1) 2 a0))) := hD
    exact W.zret (v := (1 : Int32)) hx hb hr rfl (fun t ht hW => ⟨⟨(1 : Int32), (sA o0 1 (upd (gA o0 1) 2 a0)), rfl, h, by rw [ht]; exact hP, va_K.moved hW.alike hK, hD⟩, hS.F ht⟩) hS.2.2 d_Md_look_24
  · have h := h.1 c2
    refine lv_iconst (v := (0 : Int32)) hx hb d_Md_look_14 (by decide) ?_
    have hP : va_P G.1 CL (cw_Md G h0 q0 o0) H := hP
    have hD : va_D A (cw_Md G h0 q0 o0) := hD
    exact W.zret (v := (0 : Int32)) hx hb hr rfl (fun t ht hW => ⟨⟨(0 : Int32), o0, rfl, h, by rw [ht]; exact hP, va_K.moved hW.alike hK, hD⟩, hS.F ht⟩) hS.2.2 d_Md_look_15
abbrev b_Md_heardOf : ByteArray := prog_14_method_56_code
def y_Md_heardOf : MethodName := ⟨R_Md, "heardOf", "(II)I"⟩
abbrev w_Md_heardOf : List Cond := Cond.code y_Md_heardOf b_Md_heardOf 4 (some .int) :: gw_tbl
theorem d_Md_heardOf_0 : decode b_Md_heardOf 0 = .ok (.aload_n 0, 1) := by decide +kernel
theorem d_Md_heardOf_1 : decode b_Md_heardOf 1 = .ok (.getfield 7, 3) := by decide +kernel
theorem d_Md_heardOf_4 : decode b_Md_heardOf 4 = .ok (.iconst 2, 1) := by decide +kernel
theorem d_Md_heardOf_5 : decode b_Md_heardOf 5 = .ok (.iaload, 1) := by decide +kernel
theorem d_Md_heardOf_6 : decode b_Md_heardOf 6 = .ok (.iconst 1, 1) := by decide +kernel
theorem d_Md_heardOf_7 : decode b_Md_heardOf 7 = .ok (.isub, 1) := by decide +kernel
theorem d_Md_heardOf_8 : decode b_Md_heardOf 8 = .ok (.istore_n 3, 1) := by decide +kernel
theorem d_Md_heardOf_9 : decode b_Md_heardOf 9 = .ok (.iload_n 3, 1) := by decide +kernel
theorem d_Md_heardOf_10 : decode b_Md_heardOf 10 = .ok (.ifCond .lt 48, 3) := by decide +kernel
theorem d_Md_heardOf_13 : decode b_Md_heardOf 13 = .ok (.aload_n 0, 1) := by decide +kernel
theorem d_Md_heardOf_14 : decode b_Md_heardOf 14 = .ok (.getfield 7, 3) := by decide +kernel
theorem d_Md_heardOf_17 : decode b_Md_heardOf 17 = .ok (.bipush 100, 2) := by decide +kernel
theorem d_Md_heardOf_19 : decode b_Md_heardOf 19 = .ok (.iconst 4, 1) := by decide +kernel
theorem d_Md_heardOf_20 : decode b_Md_heardOf 20 = .ok (.iload_n 3, 1) := by decide +kernel
theorem d_Md_heardOf_21 : decode b_Md_heardOf 21 = .ok (.imul, 1) := by decide +kernel
theorem d_Md_heardOf_22 : decode b_Md_heardOf 22 = .ok (.iadd, 1) := by decide +kernel
theorem d_Md_heardOf_23 : decode b_Md_heardOf 23 = .ok (.iaload, 1) := by decide +kernel
theorem d_Md_heardOf_24 : decode b_Md_heardOf 24 = .ok (.iload_n 1, 1) := by decide +kernel
theorem d_Md_heardOf_25 : decode b_Md_heardOf 25 = .ok (.if_icmp .ne 27, 3) := by decide +kernel
theorem d_Md_heardOf_28 : decode b_Md_heardOf 28 = .ok (.aload_n 0, 1) := by decide +kernel
theorem d_Md_heardOf_29 : decode b_Md_heardOf 29 = .ok (.getfield 7, 3) := by decide +kernel
theorem d_Md_heardOf_32 : decode b_Md_heardOf 32 = .ok (.bipush 100, 2) := by decide +kernel
theorem d_Md_heardOf_34 : decode b_Md_heardOf 34 = .ok (.iconst 4, 1) := by decide +kernel
theorem d_Md_heardOf_35 : decode b_Md_heardOf 35 = .ok (.iload_n 3, 1) := by decide +kernel
theorem d_Md_heardOf_36 : decode b_Md_heardOf 36 = .ok (.imul, 1) := by decide +kernel
theorem d_Md_heardOf_37 : decode b_Md_heardOf 37 = .ok (.iadd, 1) := by decide +kernel
theorem d_Md_heardOf_38 : decode b_Md_heardOf 38 = .ok (.iconst 1, 1) := by decide +kernel
theorem d_Md_heardOf_39 : decode b_Md_heardOf 39 = .ok (.iadd, 1) := by decide +kernel
theorem d_Md_heardOf_40 : decode b_Md_heardOf 40 = .ok (.iaload, 1) := by decide +kernel
theorem d_Md_heardOf_41 : decode b_Md_heardOf 41 = .ok (.iload_n 2, 1) := by decide +kernel
theorem d_Md_heardOf_42 : decode b_Md_heardOf 42 = .ok (.if_icmp .ne 10, 3) := by decide +kernel
theorem d_Md_heardOf_45 : decode b_Md_heardOf 45 = .ok (.bipush 100, 2) := by decide +kernel
theorem d_Md_heardOf_47 : decode b_Md_heardOf 47 = .ok (.iconst 4, 1) := by decide +kernel
theorem d_Md_heardOf_48 : decode b_Md_heardOf 48 = .ok (.iload_n 3, 1) := by decide +kernel
theorem d_Md_heardOf_49 : decode b_Md_heardOf 49 = .ok (.imul, 1) := by decide +kernel
theorem d_Md_heardOf_50 : decode b_Md_heardOf 50 = .ok (.iadd, 1) := by decide +kernel
theorem d_Md_heardOf_51 : decode b_Md_heardOf 51 = .ok (.ireturn, 1) := by decide +kernel
theorem d_Md_heardOf_52 : decode b_Md_heardOf 52 = .ok (.iinc 3 (-1), 3) := by decide +kernel
theorem d_Md_heardOf_55 : decode b_Md_heardOf 55 = .ok (.goto (-46), 3) := by decide +kernel
theorem d_Md_heardOf_58 : decode b_Md_heardOf 58 = .ok (.iconst (-1), 1) := by decide +kernel
theorem d_Md_heardOf_59 : decode b_Md_heardOf 59 = .ok (.ireturn, 1) := by decide +kernel
def f_Md_heardOf_9 (o0 : Ob) (Q : Int32 → Prop) : Nat → Int32 → Int32 → Int32 → Prop
  | 0, _, _, _ => False
  | n + 1, x1, x2, x3 => (x3 < 0 → (Q (-1 : Int32))) ∧ (¬ x3 < 0 → ((vp_in ((100 : Int32) + ((4 : Int32) * x3)) 6100) ∧ (∀ y3 : Int32, y3 = ((gA o0 1) (((100 : Int32) + ((4 : Int32) * x3)).toNatClampNeg)) → ((y3 = x1 → (∀ y5 : Int32, y5 = (((100 : Int32) + ((4 : Int32) * x3)) + (1 : Int32)) → ((vp_in y5 6100) ∧ ((((gA o0 1) y5.toNatClampNeg) = x2 → (Q ((100 : Int32) + ((4 : Int32) * x3)))) ∧ (¬ ((gA o0 1) y5.toNatClampNeg) = x2 → ((f_Md_heardOf_9 o0 Q n) x1 x2 (x3 + (-1 : Int32)))))))) ∧ (¬ y3 = x1 → ((f_Md_heardOf_9 o0 Q n) x1 x2 (x3 + (-1 : Int32))))))))
def f_Md_heardOf (a0 : Int32) (a1 : Int32) (o0 : Ob) (Q : Int32 → Prop) : Prop := (∃ w, f_Md_heardOf_9 o0 Q w a0 a1 (((gA o0 1) 2) - (1 : Int32)))
abbrev rm_Md_heardOf : Room := { frames := 0, cells := 0, slots := 0, locals := 0 }
set_option maxHeartbeats 4000000 in
set_option maxRecDepth 100000 in
theorem t_Md_heardOf_9 {p : Program} {l : Launch} {e : Env} {s : State} {m : MethodId} {args : Array Value} {below : List Frame} {meth : Method} {c : Code} {A : Nat → Prop} {G : Gl} {h0 : Nat} {q0 : Nat → Nat} (o0 : Ob) (Q : Int32 → Prop) (C : Cx p s m args meth c R_Md b_Md_heardOf 4 (some .int) G A) :
    ∀ (n : Nat) (x1 : Int32) (x2 : Int32) (x3 : Int32) (ls : Array Slot) (H : Heap) (locs : List Loc), lv_has ls 4 [(0, .ref h0), (1, .int x1), (2, .int x2), (3, .int x3)] → va_P G.1 CL (cw_Md G h0 q0 o0) H → va_D A (cw_Md G h0 q0 o0) → va_S A s.heap H locs → f_Md_heardOf_9 o0 Q n x1 x2 x3 → W p l e rm_Md_heardOf s m args below meth c H locs 0 0 (MQ below (va_Qi (fun (r : Int32) (u : Unit) => Q r) (fun (u : Unit) t => BW G A (cw_Md G h0 q0 o0) t) A) args s 0 0 A) (F0 m 9 ls []) := by
  obtain ⟨hx, hb, hml, hown, hr, hts, hK, hA, hlocks, hE⟩ := id C
  intro n
  induction n with
  | zero => intro x1 x2 x3 ls H locs hl hP hD hS h; exact absurd h id
  | succ n ih =>
    intro x1 x2 x3 ls H locs hl hP hD hS h
    have hP : va_P G.1 CL [(h0, .inr (11, [.int (gI o0 0), .ref (q0 1), .ref (q0 2), .ref (q0 3), .ref (q0 4), .ref (q0 5), .ref (q0 6), .int (gI o0 7), .int (gI o0 8), .int (gI o0 9), .int (gI o0 10), .int (gI o0 11), .int (gI o0 12), .int (gI o0 13), .int (gI o0 14), .long (gL o0 15), .int (gI o0 16), .int (gI o0 17), .int (gI o0 18), .int (gI o0 19), .int (gI o0 20), .int (gI o0 21), .int (gI o0 22), .int (gI o0 23), .int (gI o0 24), .int (gI o0 25), .int (gI o0 26), .int (gI o0 27), .ref (q0 28), .long (gL o0 29), .int (gI o0 30), .ref (q0 31), .ref (q0 32), .ref (q0 33), .int (gI o0 34), .int (gI o0 35), .int (gI o0 36), .int (gI o0 37), .ref (q0 38), .ref (q0 39), .int (gI o0 40), .ref (q0 41), .ref (q0 42), .ref (q0 43), .ref (q0 44)])), kI G (q0 1) 6100 (gA o0 1), kI G (q0 2) 6100 (gA o0 2), kJ G (q0 3) 2016 (gB o0 3), kJ G (q0 4) 2016 (gB o0 4), kI G (q0 5) 300 (gA o0 5), kI G (q0 6) 400 (gA o0 6), kJ G (q0 28) 10 (gB o0 28), kI G (q0 31) 969 (gA o0 31), kI G (q0 32) 969 (gA o0 32), kI G (q0 33) 969 (gA o0 33), kI G (q0 38) 5 (gA o0 38), kI G (q0 39) 5120 (gA o0 39), kI G (q0 41) 5 (gA o0 41), kZ G (q0 42) 1024 (gA o0 42), kI G (q0 43) 8192 (gA o0 43), kI G (q0 44) 8192 (gA o0 44)] H := hP
    have hD : va_D A [(h0, .inr (11, [.int (gI o0 0), .ref (q0 1), .ref (q0 2), .ref (q0 3), .ref (q0 4), .ref (q0 5), .ref (q0 6), .int (gI o0 7), .int (gI o0 8), .int (gI o0 9), .int (gI o0 10), .int (gI o0 11), .int (gI o0 12), .int (gI o0 13), .int (gI o0 14), .long (gL o0 15), .int (gI o0 16), .int (gI o0 17), .int (gI o0 18), .int (gI o0 19), .int (gI o0 20), .int (gI o0 21), .int (gI o0 22), .int (gI o0 23), .int (gI o0 24), .int (gI o0 25), .int (gI o0 26), .int (gI o0 27), .ref (q0 28), .long (gL o0 29), .int (gI o0 30), .ref (q0 31), .ref (q0 32), .ref (q0 33), .int (gI o0 34), .int (gI o0 35), .int (gI o0 36), .int (gI o0 37), .ref (q0 38), .ref (q0 39), .int (gI o0 40), .ref (q0 41), .ref (q0 42), .ref (q0 43), .ref (q0 44)])), kI G (q0 1) 6100 (gA o0 1), kI G (q0 2) 6100 (gA o0 2), kJ G (q0 3) 2016 (gB o0 3), kJ G (q0 4) 2016 (gB o0 4), kI G (q0 5) 300 (gA o0 5), kI G (q0 6) 400 (gA o0 6), kJ G (q0 28) 10 (gB o0 28), kI G (q0 31) 969 (gA o0 31), kI G (q0 32) 969 (gA o0 32), kI G (q0 33) 969 (gA o0 33), kI G (q0 38) 5 (gA o0 38), kI G (q0 39) 5120 (gA o0 39), kI G (q0 41) 5 (gA o0 41), kZ G (q0 42) 1024 (gA o0 42), kI G (q0 43) 8192 (gA o0 43), kI G (q0 44) 8192 (gA o0 44)] := hD
    unfold f_Md_heardOf_9 at h
    refine lv_iload_n hx hb d_Md_heardOf_9 rfl (lv_at hl 3 rfl) ?_
    refine lv_if_lt (tgt := 58) hx hb d_Md_heardOf_10 (by decide) (fun c1 => ?_) (fun c1 => ?_)
    · have h := h.1 c1
      refine lv_iconst (v := (-1 : Int32)) hx hb d_Md_heardOf_58 (by decide) ?_
      have hP : va_P G.1 CL (cw_Md G h0 q0 o0) H := hP
      have hD : va_D A (cw_Md G h0 q0 o0) := hD
      exact W.iret (v := (-1 : Int32)) hx hb hr (fun t ht hW => ⟨⟨(-1 : Int32), (), rfl, h, by rw [ht]; exact hP, va_K.moved hW.alike hK, hD⟩, hS.F ht⟩) hS.2.2 d_Md_heardOf_59
    · have h := h.2 c1
      refine lv_aload_n hx hb d_Md_heardOf_13 rfl (lv_at hl 0 rfl) ?_
      refine va_get (D := G.1) (ci := 11) (v := .ref (q0 1)) (C := R_Md) (T := T_Md) (N := 45) hx hb hts i_Md hown hK hP 0 rfl rfl 1 (by decide) (hts _ wf_Md_7) (fun _ h9 => h9) rfl d_Md_heardOf_14 ?_
      refine lv_bipush (v := (100 : Int32)) hx hb d_Md_heardOf_17 (by decide) ?_
      refine lv_iconst (v := (4 : Int32)) hx hb d_Md_heardOf_19 (by decide) ?_
      refine lv_iload_n hx hb d_Md_heardOf_20 rfl (lv_at hl 3 rfl) ?_
      refine lv_imul hx hb d_Md_heardOf_21 ?_
      refine lv_iadd hx hb d_Md_heardOf_22 ?_
      have g2 := h.1
      have h := h.2
      refine xa_iald hx hb hK hP 1 0 rfl rfl g2 (k := ((100 : Int32) + ((4 : Int32) * x3)).toNatClampNeg) rfl d_Md_heardOf_23 ?_
      refine lv_topi (fun y3 ey3 => ?_)
      have h := h y3 ey3
      refine lv_iload_n hx hb d_Md_heardOf_24 rfl (lv_at hl 1 rfl) ?_
      refine lv_icmp_ne (tgt := 52) hx hb d_Md_heardOf_25 (by decide) (fun c4 => ?_) (fun c4 => ?_)
      · have h := h.2 c4
        refine lv_iinc (v := (x3 + (-1 : Int32))) (lv' := [(3, .int (x3 + (-1 : Int32))), (0, .ref h0), (1, .int x1), (2, .int x2)]) hx hb d_Md_heardOf_52 hl (k := 3) rfl rfl (by decide) rfl (fun ls hl => ?_)
        refine lv_goto (tgt := 9) hx hb d_Md_heardOf_55 (by decide) ?_
        have hl := lv_sub (l' := [(0, .ref h0), (1, .int x1), (2, .int x2), (3, .int (x3 + (-1 : Int32)))]) hl [1, 2, 3, 0] rfl
        have hP : va_P G.1 CL (cw_Md G h0 q0 o0) H := hP
        have hD : va_D A (cw_Md G h0 q0 o0) := hD
        exact ih x1 x2 (x3 + (-1 : Int32)) ls H locs hl hP hD hS h
      · have h := h.1 c4
        refine lv_aload_n hx hb d_Md_heardOf_28 rfl (lv_at hl 0 rfl) ?_
        refine va_get (D := G.1) (ci := 11) (v := .ref (q0 1)) (C := R_Md) (T := T_Md) (N := 45) hx hb hts i_Md hown hK hP 0 rfl rfl 1 (by decide) (hts _ wf_Md_7) (fun _ h9 => h9) rfl d_Md_heardOf_29 ?_
        refine lv_bipush (v := (100 : Int32)) hx hb d_Md_heardOf_32 (by decide) ?_
        refine lv_iconst (v := (4 : Int32)) hx hb d_Md_heardOf_34 (by decide) ?_
        refine lv_iload_n hx hb d_Md_heardOf_35 rfl (lv_at hl 3 rfl) ?_
        refine lv_imul hx hb d_Md_heardOf_36 ?_
        refine lv_iadd hx hb d_Md_heardOf_37 ?_
        refine lv_iconst (v := (1 : Int32)) hx hb d_Md_heardOf_38 (by decide) ?_
        refine lv_iadd hx hb d_Md_heardOf_39 ?_
        refine lv_topi (fun y5 ey5 => ?_)
        have h := h y5 ey5
        have g6 := h.1
        have h := h.2
        refine xa_iald hx hb hK hP 1 0 rfl rfl g6 (k := y5.toNatClampNeg) rfl d_Md_heardOf_40 ?_
        refine lv_iload_n hx hb d_Md_heardOf_41 rfl (lv_at hl 2 rfl) ?_
        refine lv_icmp_ne (tgt := 52) hx hb d_Md_heardOf_42 (by decide) (fun c7 => ?_) (fun c7 => ?_)
        · have h := h.2 c7
          refine lv_iinc (v := (x3 + (-1 : Int32))) (lv' := [(3, .int (x3 + (-1 : Int32))), (0, .ref h0), (1, .int x1), (2, .int x2)]) hx hb d_Md_heardOf_52 hl (k := 3) rfl rfl (by decide) rfl (fun ls hl => ?_)
          refine lv_goto (tgt := 9) hx hb d_Md_heardOf_55 (by decide) ?_
          have hl := lv_sub (l' := [(0, .ref h0), (1, .int x1), (2, .int x2), (3, .int (x3 + (-1 : Int32)))]) hl [1, 2, 3, 0] rfl
          have hP : va_P G.1 CL (cw_Md G h0 q0 o0) H := hP
          have hD : va_D A (cw_Md G h0 q0 o0) := hD
          exact ih x1 x2 (x3 + (-1 : Int32)) ls H locs hl hP hD hS h
        · have h := h.1 c7
          refine lv_bipush (v := (100 : Int32)) hx hb d_Md_heardOf_45 (by decide) ?_
          refine lv_iconst (v := (4 : Int32)) hx hb d_Md_heardOf_47 (by decide) ?_
          refine lv_iload_n hx hb d_Md_heardOf_48 rfl (lv_at hl 3 rfl) ?_
          refine lv_imul hx hb d_Md_heardOf_49 ?_
          refine lv_iadd hx hb d_Md_heardOf_50 ?_
          have hP : va_P G.1 CL (cw_Md G h0 q0 o0) H := hP
          have hD : va_D A (cw_Md G h0 q0 o0) := hD
          exact W.iret (v := ((100 : Int32) + ((4 : Int32) * x3))) hx hb hr (fun t ht hW => ⟨⟨((100 : Int32) + ((4 : Int32) * x3)), (), rfl, h, by rw [ht]; exact hP, va_K.moved hW.alike hK, hD⟩, hS.F ht⟩) hS.2.2 d_Md_heardOf_51
set_option maxHeartbeats 4000000 in
set_option maxRecDepth 100000 in
theorem c_Md_heardOf {l : Launch} {G : Gl} {h0 : Nat} {q0 : Nat → Nat} {a0 : Int32} {a1 : Int32} {o0 : Ob} {Q : Int32 → Prop} (sz : Nat) (h : f_Md_heardOf a0 a1 o0 Q) : Met l y_Md_heardOf w_Md_heardOf rm_Md_heardOf (PcW G [.ref h0, .int a0, .int a1] sz (cw_Md G h0 q0 o0)) (va_Qi (fun (r : Int32) (u : Unit) => Q r) (fun (u : Unit) t => BW G (va_A (cw_Md G h0 q0 o0) sz) (cw_Md G h0 q0 o0) t) (va_A (cw_Md G h0 q0 o0) sz)) 0 0 (va_A (cw_Md G h0 q0 o0) sz) := by
  refine Met.ofW (cc := b_Md_heardOf) (maxL := 4) (ret := (some .int)) (by decide +kernel) rfl ?_
  intro p e s m args below meth c s₁ B hml hv
  obtain ⟨rfl, hsz, hP, hK, hD0, hE⟩ := hv
  have hx := B.exec
  have hb := B.bytes
  have hr := B.returns
  have hts0 := atoms_spec (ws := w_Md_heardOf) B.pre
  have hts : ∀ w ∈ gw_tbl, w.before ([.ref h0, .int a0, .int a1]).toArray s = true := fun w hw => hts0 w (List.mem_cons_of_mem _ hw)
  have hown : s.vm.findClass R_Md = some m.cls := findClass_of_methodNamed B.named
  have hlocks := B.notSynchronized
  subst hsz
  have hD := hD0.self (sz := s.heap.size)
  generalize hAe : va_A (cw_Md G h0 q0 o0) s.heap.size = A at hD hE ⊢
  have hA : ∀ q : Nat, s.heap.size ≤ q → A q := fun q h => by rw [← hAe]; exact Or.inr h
  have hS : va_S A s.heap s.heap [] := va_S.rf
  have C : Cx p s m ([.ref h0, .int a0, .int a1]).toArray meth c R_Md b_Md_heardOf 4 (some .int) G A := ⟨hx, hb, hml, hown, hr, hts, hK, hA, hlocks, hE⟩
  have hl := lv_entry ([.ref h0, .int a0, .int a1]) (n := 4) (Nat.le_of_ble_eq_true rfl)
  rw [lg_entry_eq]
  generalize (lg_sl ([.ref h0, .int a0, .int a1]) ++ List.replicate (4 - (lg_sl ([.ref h0, .int a0, .int a1])).length) Slot.unset).toArray = ls at hl ⊢
  have hl : lv_has ls 4 [(0, .ref h0), (1, .int a0), (2, .int a1)] := hl
  have hD : va_D A [(h0, .inr (11, [.int (gI o0 0), .ref (q0 1), .ref (q0 2), .ref (q0 3), .ref (q0 4), .ref (q0 5), .ref (q0 6), .int (gI o0 7), .int (gI o0 8), .int (gI o0 9), .int (gI o0 10), .int (gI o0 11), .int (gI o0 12), .int (gI o0 13), .int (gI o0 14), .long (gL o0 15), .int (gI o0 16), .int (gI o0 17), .int (gI o0 18), .int (gI o0 19), .int (gI o0 20), .int (gI o0 21), .int (gI o0 22), .int (gI o0 23), .int (gI o0 24), .int (gI o0 25), .int (gI o0 26), .int (gI o0 27), .ref (q0 28), .long (gL o0 29), .int (gI o0 30), .ref (q0 31), .ref (q0 32), .ref (q0 33), .int (gI o0 34), .int (gI o0 35), .int (gI o0 36), .int (gI o0 37), .ref (q0 38), .ref (q0 39), .int (gI o0 40), .ref (q0 41), .ref (q0 42), .ref (q0 43), .ref (q0 44)])), kI G (q0 1) 6100 (gA o0 1), kI G (q0 2) 6100 (gA o0 2), kJ G (q0 3) 2016 (gB o0 3), kJ G (q0 4) 2016 (gB o0 4), kI G (q0 5) 300 (gA o0 5), kI G (q0 6) 400 (gA o0 6), kJ G (q0 28) 10 (gB o0 28), kI G (q0 31) 969 (gA o0 31), kI G (q0 32) 969 (gA o0 32), kI G (q0 33) 969 (gA o0 33), kI G (q0 38) 5 (gA o0 38), kI G (q0 39) 5120 (gA o0 39), kI G (q0 41) 5 (gA o0 41), kZ G (q0 42) 1024 (gA o0 42), kI G (q0 43) 8192 (gA o0 43), kI G (q0 44) 8192 (gA o0 44)] := hD
  unfold f_Md_heardOf at h
  suffices key : ∀ (H : Heap) (locs : List Loc), va_P G.1 CL [(h0, .inr (11, [.int (gI o0 0), .ref (q0 1), .ref (q0 2), .ref (q0 3), .ref (q0 4), .ref (q0 5), .ref (q0 6), .int (gI o0 7), .int (gI o0 8), .int (gI o0 9), .int (gI o0 10), .int (gI o0 11), .int (gI o0 12), .int (gI o0 13), .int (gI o0 14), .long (gL o0 15), .int (gI o0 16), .int (gI o0 17), .int (gI o0 18), .int (gI o0 19), .int (gI o0 20), .int (gI o0 21), .int (gI o0 22), .int (gI o0 23), .int (gI o0 24), .int (gI o0 25), .int (gI o0 26), .int (gI o0 27), .ref (q0 28), .long (gL o0 29), .int (gI o0 30), .ref (q0 31), .ref (q0 32), .ref (q0 33), .int (gI o0 34), .int (gI o0 35), .int (gI o0 36), .int (gI o0 37), .ref (q0 38), .ref (q0 39), .int (gI o0 40), .ref (q0 41), .ref (q0 42), .ref (q0 43), .ref (q0 44)])), kI G (q0 1) 6100 (gA o0 1), kI G (q0 2) 6100 (gA o0 2), kJ G (q0 3) 2016 (gB o0 3), kJ G (q0 4) 2016 (gB o0 4), kI G (q0 5) 300 (gA o0 5), kI G (q0 6) 400 (gA o0 6), kJ G (q0 28) 10 (gB o0 28), kI G (q0 31) 969 (gA o0 31), kI G (q0 32) 969 (gA o0 32), kI G (q0 33) 969 (gA o0 33), kI G (q0 38) 5 (gA o0 38), kI G (q0 39) 5120 (gA o0 39), kI G (q0 41) 5 (gA o0 41), kZ G (q0 42) 1024 (gA o0 42), kI G (q0 43) 8192 (gA o0 43), kI G (q0 44) 8192 (gA o0 44)] H → va_S A s.heap H locs → W p l e rm_Md_heardOf s m ([.ref h0, .int a0, .int a1]).toArray below meth c H locs 0 0 (MQ below (va_Qi (fun (r : Int32) (u : Unit) => Q r) (fun (u : Unit) t => BW G A (cw_Md G h0 q0 o0) t) A) ([.ref h0, .int a0, .int a1]).toArray s 0 0 A) (F0 m 0 ls []) from key s.heap [] hP hS
  intro H locs hP hS
  refine lv_aload_n hx hb d_Md_heardOf_0 rfl (lv_at hl 0 rfl) ?_
  refine va_get (D := G.1) (ci := 11) (v := .ref (q0 1)) (C := R_Md) (T := T_Md) (N := 45) hx hb hts i_Md hown hK hP 0 rfl rfl 1 (by decide) (hts _ wf_Md_7) (fun _ h9 => h9) rfl d_Md_heardOf_1 ?_
  refine lv_iconst (v := (2 : Int32)) hx hb d_Md_heardOf_4 (by decide) ?_
  refine xa_iald hx hb hK hP 1 0 rfl rfl (vp_lit rfl) (k := 2) rfl d_Md_heardOf_5 ?_
  refine lv_iconst (v := (1 : Int32)) hx hb d_Md_heardOf_6 (by decide) ?_
  refine lv_isub hx hb d_Md_heardOf_7 ?_
  refine lv_istore_n (lv' := [(3, .int (((gA o0 1) 2) - (1 : Int32))), (0, .ref h0), (1, .int a0), (2, .int a1)]) hx hb d_Md_heardOf_8 rfl hl (by decide) rfl (fun ls hl => ?_)
  have hl := lv_sub (l' := [(0, .ref h0), (1, .int a0), (2, .int a1), (3, .int (((gA o0 1) 2) - (1 : Int32)))]) hl [1, 2, 3, 0] rfl
  have hP : va_P G.1 CL (cw_Md G h0 q0 o0) H := hP
  have hD : va_D A (cw_Md G h0 q0 o0) := hD
  obtain ⟨w, h⟩ := h
  exact t_Md_heardOf_9 o0 Q C w a0 a1 (((gA o0 1) 2) - (1 : Int32)) ls _ locs hl hP hD hS h
abbrev b_Md_isMaker : ByteArray := prog_14_method_57_code
def y_Md_isMaker : MethodName := ⟨R_Md, "isMaker", "(II)Z"⟩
abbrev w_Md_isMaker : List Cond := Cond.code y_Md_isMaker b_Md_isMaker 6 (some .boolean) :: gw_tbl
theorem d_Md_isMaker_0 : decode b_Md_isMaker 0 = .ok (.iconst 0, 1) := by decide +kernel
theorem d_Md_isMaker_1 : decode b_Md_isMaker 1 = .ok (.istore_n 3, 1) := by decide +kernel
theorem d_Md_isMaker_2 : decode b_Md_isMaker 2 = .ok (.iload_n 3, 1) := by decide +kernel
theorem d_Md_isMaker_3 : decode b_Md_isMaker 3 = .ok (.aload_n 0, 1) := by decide +kernel
theorem d_Md_isMaker_4 : decode b_Md_isMaker 4 = .ok (.getfield 67, 3) := by decide +kernel
theorem d_Md_isMaker_7 : decode b_Md_isMaker 7 = .ok (.if_icmp .ge 25, 3) := by decide +kernel
theorem d_Md_isMaker_10 : decode b_Md_isMaker 10 = .ok (.aload_n 0, 1) := by decide +kernel
theorem d_Md_isMaker_11 : decode b_Md_isMaker 11 = .ok (.getfield 48, 3) := by decide +kernel
theorem d_Md_isMaker_14 : decode b_Md_isMaker 14 = .ok (.iload_n 3, 1) := by decide +kernel
theorem d_Md_isMaker_15 : decode b_Md_isMaker 15 = .ok (.aload_n 0, 1) := by decide +kernel
theorem d_Md_isMaker_16 : decode b_Md_isMaker 16 = .ok (.getfield 51, 3) := by decide +kernel
theorem d_Md_isMaker_19 : decode b_Md_isMaker 19 = .ok (.iconst 5, 1) := by decide +kernel
theorem d_Md_isMaker_20 : decode b_Md_isMaker 20 = .ok (.iload_n 1, 1) := by decide +kernel
theorem d_Md_isMaker_21 : decode b_Md_isMaker 21 = .ok (.imul, 1) := by decide +kernel
theorem d_Md_isMaker_22 : decode b_Md_isMaker 22 = .ok (.iload_n 3, 1) := by decide +kernel
theorem d_Md_isMaker_23 : decode b_Md_isMaker 23 = .ok (.iadd, 1) := by decide +kernel
theorem d_Md_isMaker_24 : decode b_Md_isMaker 24 = .ok (.iaload, 1) := by decide +kernel
theorem d_Md_isMaker_25 : decode b_Md_isMaker 25 = .ok (.iastore, 1) := by decide +kernel
theorem d_Md_isMaker_26 : decode b_Md_isMaker 26 = .ok (.iinc 3 1, 3) := by decide +kernel
theorem d_Md_isMaker_29 : decode b_Md_isMaker 29 = .ok (.goto (-27), 3) := by decide +kernel
theorem d_Md_isMaker_32 : decode b_Md_isMaker 32 = .ok (.iconst 0, 1) := by decide +kernel
theorem d_Md_isMaker_33 : decode b_Md_isMaker 33 = .ok (.istore_n 3, 1) := by decide +kernel
theorem d_Md_isMaker_34 : decode b_Md_isMaker 34 = .ok (.iload_n 3, 1) := by decide +kernel
theorem d_Md_isMaker_35 : decode b_Md_isMaker 35 = .ok (.iconst 5, 1) := by decide +kernel
theorem d_Md_isMaker_36 : decode b_Md_isMaker 36 = .ok (.if_icmp .ge 77, 3) := by decide +kernel
theorem d_Md_isMaker_39 : decode b_Md_isMaker 39 = .ok (.aload_n 0, 1) := by decide +kernel
theorem d_Md_isMaker_40 : decode b_Md_isMaker 40 = .ok (.iload_n 2, 1) := by decide +kernel
theorem d_Md_isMaker_41 : decode b_Md_isMaker 41 = .ok (.iload_n 3, 1) := by decide +kernel
theorem d_Md_isMaker_42 : decode b_Md_isMaker 42 = .ok (.invokevirtual 279, 3) := by decide +kernel
theorem d_Md_isMaker_45 : decode b_Md_isMaker 45 = .ok (.istore 4, 2) := by decide +kernel
theorem d_Md_isMaker_47 : decode b_Md_isMaker 47 = .ok (.iload 4, 2) := by decide +kernel
theorem d_Md_isMaker_49 : decode b_Md_isMaker 49 = .ok (.ifCond .ge 6, 3) := by decide +kernel
theorem d_Md_isMaker_52 : decode b_Md_isMaker 52 = .ok (.goto 55, 3) := by decide +kernel
theorem d_Md_isMaker_55 : decode b_Md_isMaker 55 = .ok (.iload_n 3, 1) := by decide +kernel
theorem d_Md_isMaker_56 : decode b_Md_isMaker 56 = .ok (.aload_n 0, 1) := by decide +kernel
theorem d_Md_isMaker_57 : decode b_Md_isMaker 57 = .ok (.getfield 67, 3) := by decide +kernel
theorem d_Md_isMaker_60 : decode b_Md_isMaker 60 = .ok (.if_icmp .lt 5, 3) := by decide +kernel
theorem d_Md_isMaker_63 : decode b_Md_isMaker 63 = .ok (.iconst 0, 1) := by decide +kernel
theorem d_Md_isMaker_64 : decode b_Md_isMaker 64 = .ok (.ireturn, 1) := by decide +kernel
theorem d_Md_isMaker_65 : decode b_Md_isMaker 65 = .ok (.aload_n 0, 1) := by decide +kernel
theorem d_Md_isMaker_66 : decode b_Md_isMaker 66 = .ok (.iload_n 3, 1) := by decide +kernel
theorem d_Md_isMaker_67 : decode b_Md_isMaker 67 = .ok (.invokevirtual 270, 3) := by decide +kernel
theorem d_Md_isMaker_70 : decode b_Md_isMaker 70 = .ok (.istore 5, 2) := by decide +kernel
theorem d_Md_isMaker_72 : decode b_Md_isMaker 72 = .ok (.iload 5, 2) := by decide +kernel
theorem d_Md_isMaker_74 : decode b_Md_isMaker 74 = .ok (.bipush (-100), 2) := by decide +kernel
theorem d_Md_isMaker_76 : decode b_Md_isMaker 76 = .ok (.if_icmp .eq 29, 3) := by decide +kernel
theorem d_Md_isMaker_79 : decode b_Md_isMaker 79 = .ok (.iload 5, 2) := by decide +kernel
theorem d_Md_isMaker_81 : decode b_Md_isMaker 81 = .ok (.aload_n 0, 1) := by decide +kernel
theorem d_Md_isMaker_82 : decode b_Md_isMaker 82 = .ok (.getfield 7, 3) := by decide +kernel
theorem d_Md_isMaker_85 : decode b_Md_isMaker 85 = .ok (.iload 4, 2) := by decide +kernel
theorem d_Md_isMaker_87 : decode b_Md_isMaker 87 = .ok (.iconst 2, 1) := by decide +kernel
theorem d_Md_isMaker_88 : decode b_Md_isMaker 88 = .ok (.iadd, 1) := by decide +kernel
theorem d_Md_isMaker_89 : decode b_Md_isMaker 89 = .ok (.iaload, 1) := by decide +kernel
theorem d_Md_isMaker_90 : decode b_Md_isMaker 90 = .ok (.aload_n 0, 1) := by decide +kernel
theorem d_Md_isMaker_91 : decode b_Md_isMaker 91 = .ok (.getfield 7, 3) := by decide +kernel
theorem d_Md_isMaker_94 : decode b_Md_isMaker 94 = .ok (.iload 4, 2) := by decide +kernel
theorem d_Md_isMaker_96 : decode b_Md_isMaker 96 = .ok (.iconst 3, 1) := by decide +kernel
theorem d_Md_isMaker_97 : decode b_Md_isMaker 97 = .ok (.iadd, 1) := by decide +kernel
theorem d_Md_isMaker_98 : decode b_Md_isMaker 98 = .ok (.iaload, 1) := by decide +kernel
theorem d_Md_isMaker_99 : decode b_Md_isMaker 99 = .ok (.invokestatic 76, 3) := by decide +kernel
theorem d_Md_isMaker_102 : decode b_Md_isMaker 102 = .ok (.ifCond .ne 5, 3) := by decide +kernel
theorem d_Md_isMaker_105 : decode b_Md_isMaker 105 = .ok (.iconst 0, 1) := by decide +kernel
theorem d_Md_isMaker_106 : decode b_Md_isMaker 106 = .ok (.ireturn, 1) := by decide +kernel
theorem d_Md_isMaker_107 : decode b_Md_isMaker 107 = .ok (.iinc 3 1, 3) := by decide +kernel
theorem d_Md_isMaker_110 : decode b_Md_isMaker 110 = .ok (.goto (-76), 3) := by decide +kernel
theorem d_Md_isMaker_113 : decode b_Md_isMaker 113 = .ok (.iconst 1, 1) := by decide +kernel
theorem d_Md_isMaker_114 : decode b_Md_isMaker 114 = .ok (.ireturn, 1) := by decide +kernel
theorem wv_Md_279 : wV R_Md 279 y_Md_heardOf b_Md_heardOf 4 (some .int) 2 := ⟨⟨gw_tb (List.mem_of_getElem? (i := 1332) (by decide +kernel)) rfl, gw_tb (List.mem_of_getElem? (i := 13) (by decide +kernel)) rfl, gw_tb (List.mem_of_getElem? (i := 1335) (by decide +kernel)) rfl, by decide, by decide, by decide +kernel⟩, gw_tb (List.mem_of_getElem? (i := 1334) (by decide +kernel)) rfl, gw_of (List.mem_append_left _ (List.mem_of_getElem? (i := 59) (by decide +kernel))) rfl⟩
def f_Md_isMaker_34 (Q : Int32 → Ob → Prop) : Nat → Int32 → Int32 → Ob → Prop
  | 0, _, _, _ => False
  | n + 1, x2, x3, o0 => ((5 : Int32) ≤ x3 → (Q (1 : Int32) o0)) ∧ (¬ (5 : Int32) ≤ x3 → (f_Md_heardOf x2 x3 o0 (fun z2 => (0 ≤ z2 → ((x3 < (gI o0 0) → (f_Md_boxOf x3 o0 (fun z5 => (z5 = (-100 : Int32) → (Q (0 : Int32) o0)) ∧ (¬ z5 = (-100 : Int32) → ((vp_in (z2 + (2 : Int32)) 6100) ∧ ((vp_in (z2 + (3 : Int32)) 6100) ∧ (f_Md_isIn z5 ((gA o0 1) ((z2 + (2 : Int32)).toNatClampNeg)) ((gA o0 1) ((z2 + (3 : Int32)).toNatClampNeg)) (fun z9 => (z9 = 0 → (Q (0 : Int32) o0)) ∧ (¬ z9 = 0 → ((f_Md_isMaker_34 Q n) x2 (x3 + (1 : Int32)) o0)))))))))) ∧ (¬ x3 < (gI o0 0) → (Q (0 : Int32) o0)))) ∧ (¬ 0 ≤ z2 → ((f_Md_isMaker_34 Q n) x2 (x3 + (1 : Int32)) o0)))))
def f_Md_isMaker_2 (Q : Int32 → Ob → Prop) : Nat → Int32 → Int32 → Int32 → Ob → Prop
  | 0, _, _, _, _ => False
  | n + 1, x1, x2, x3, o0 => ((gI o0 0) ≤ x3 → ((∃ w, f_Md_isMaker_34 Q w x2 (0 : Int32) o0))) ∧ (¬ (gI o0 0) ≤ x3 → ((vp_in (((5 : Int32) * x1) + x3) 5120) ∧ (∀ y13 : Int32, y13 = ((gA o0 39) ((((5 : Int32) * x1) + x3).toNatClampNeg)) → ((vp_in x3 5) ∧ ((f_Md_isMaker_2 Q n) x1 x2 (x3 + (1 : Int32)) (sA o0 38 (upd (gA o0 38) x3.toNatClampNeg y13)))))))
def f_Md_isMaker (a0 : Int32) (a1 : Int32) (o0 : Ob) (Q : Int32 → Ob → Prop) : Prop := (∃ w, f_Md_isMaker_2 Q w a0 a1 (0 : Int32) o0)
abbrev rm_Md_isMaker : Room := { frames := 2, cells := 0, slots := 0, locals := 54 }
set_option maxHeartbeats 4000000 in
set_option maxRecDepth 100000 in
theorem t_Md_isMaker_34 {p : Program} {l : Launch} {e : Env} {s : State} {m : MethodId} {args : Array Value} {below : List Frame} {meth : Method} {c : Code} {A : Nat → Prop} {G : Gl} {h0 : Nat} {q0 : Nat → Nat} (Q : Int32 → Ob → Prop) (C : Cx p s m args meth c R_Md b_Md_isMaker 6 (some .boolean) G A) :
    ∀ (n : Nat) (x2 : Int32) (x3 : Int32) (o0 : Ob) (ls : Array Slot) (H : Heap) (locs : List Loc), lv_has ls 6 [(0, .ref h0), (2, .int x2), (3, .int x3)] → va_P G.1 CL (cw_Md G h0 q0 o0) H → va_D A (cw_Md G h0 q0 o0) → va_S A s.heap H locs → f_Md_isMaker_34 Q n x2 x3 o0 → W p l e rm_Md_isMaker s m args below meth c H locs 0 0 (MQ below (va_Qi (fun (r : Int32) (u : Ob) => Q r u) (fun (u : Ob) t => BW G A (cw_Md G h0 q0 u) t) A) args s 0 0 A) (F0 m 34 ls []) := by
  obtain ⟨hx, hb, hml, hown, hr, hts, hK, hA, hlocks, hE⟩ := id C
  intro n
  induction n with
  | zero => intro x2 x3 o0 ls H locs hl hP hD hS h; exact absurd h id
  | succ n ih =>
    intro x2 x3 o0 ls H locs hl hP hD hS h
    have hP : va_P G.1 CL [(h0, .inr (11, [.int (gI o0 0), .ref (q0 1), .ref (q0 2), .ref (q0 3), .ref (q0 4), .ref (q0 5), .ref (q0 6), .int (gI o0 7), .int (gI o0 8), .int (gI o0 9), .int (gI o0 10), .int (gI o0 11), .int (gI o0 12), .int (gI o0 13), .int (gI o0 14), .long (gL o0 15), .int (gI o0 16), .int (gI o0 17), .int (gI o0 18), .int (gI o0 19), .int (gI o0 20), .int (gI o0 21), .int (gI o0 22), .int (gI o0 23), .int (gI o0 24), .int (gI o0 25), .int (gI o0 26), .int (gI o0 27), .ref (q0 28), .long (gL o0 29), .int (gI o0 30), .ref (q0 31), .ref (q0 32), .ref (q0 33), .int (gI o0 34), .int (gI o0 35), .int (gI o0 36), .int (gI o0 37), .ref (q0 38), .ref (q0 39), .int (gI o0 40), .ref (q0 41), .ref (q0 42), .ref (q0 43), .ref (q0 44)])), kI G (q0 1) 6100 (gA o0 1), kI G (q0 2) 6100 (gA o0 2), kJ G (q0 3) 2016 (gB o0 3), kJ G (q0 4) 2016 (gB o0 4), kI G (q0 5) 300 (gA o0 5), kI G (q0 6) 400 (gA o0 6), kJ G (q0 28) 10 (gB o0 28), kI G (q0 31) 969 (gA o0 31), kI G (q0 32) 969 (gA o0 32), kI G (q0 33) 969 (gA o0 33), kI G (q0 38) 5 (gA o0 38), kI G (q0 39) 5120 (gA o0 39), kI G (q0 41) 5 (gA o0 41), kZ G (q0 42) 1024 (gA o0 42), kI G (q0 43) 8192 (gA o0 43), kI G (q0 44) 8192 (gA o0 44)] H := hP
    have hD : va_D A [(h0, .inr (11, [.int (gI o0 0), .ref (q0 1), .ref (q0 2), .ref (q0 3), .ref (q0 4), .ref (q0 5), .ref (q0 6), .int (gI o0 7), .int (gI o0 8), .int (gI o0 9), .int (gI o0 10), .int (gI o0 11), .int (gI o0 12), .int (gI o0 13), .int (gI o0 14), .long (gL o0 15), .int (gI o0 16), .int (gI o0 17), .int (gI o0 18), .int (gI o0 19), .int (gI o0 20), .int (gI o0 21), .int (gI o0 22), .int (gI o0 23), .int (gI o0 24), .int (gI o0 25), .int (gI o0 26), .int (gI o0 27), .ref (q0 28), .long (gL o0 29), .int (gI o0 30), .ref (q0 31), .ref (q0 32), .ref (q0 33), .int (gI o0 34), .int (gI o0 35), .int (gI o0 36), .int (gI o0 37), .ref (q0 38), .ref (q0 39), .int (gI o0 40), .ref (q0 41), .ref (q0 42), .ref (q0 43), .ref (q0 44)])), kI G (q0 1) 6100 (gA o0 1), kI G (q0 2) 6100 (gA o0 2), kJ G (q0 3) 2016 (gB o0 3), kJ G (q0 4) 2016 (gB o0 4), kI G (q0 5) 300 (gA o0 5), kI G (q0 6) 400 (gA o0 6), kJ G (q0 28) 10 (gB o0 28), kI G (q0 31) 969 (gA o0 31), kI G (q0 32) 969 (gA o0 32), kI G (q0 33) 969 (gA o0 33), kI G (q0 38) 5 (gA o0 38), kI G (q0 39) 5120 (gA o0 39), kI G (q0 41) 5 (gA o0 41), kZ G (q0 42) 1024 (gA o0 42), kI G (q0 43) 8192 (gA o0 43), kI G (q0 44) 8192 (gA o0 44)] := hD
    unfold f_Md_isMaker_34 at h
    refine lv_iload_n hx hb d_Md_isMaker_34 rfl (lv_at hl 2 rfl) ?_
    refine lv_iconst (v := (5 : Int32)) hx hb d_Md_isMaker_35 (by decide) ?_
    refine lv_icmp_ge (tgt := 113) hx hb d_Md_isMaker_36 (by decide) (fun c1 => ?_) (fun c1 => ?_)
    · have h := h.1 c1
      refine lv_iconst (v := (1 : Int32)) hx hb d_Md_isMaker_113 (by decide) ?_
      have hP : va_P G.1 CL (cw_Md G h0 q0 o0) H := hP
      have hD : va_D A (cw_Md G h0 q0 o0) := hD
      exact W.zret (v := (1 : Int32)) hx hb hr rfl (fun t ht hW => ⟨⟨(1 : Int32), o0, rfl, h, by rw [ht]; exact hP, va_K.moved hW.alike hK, hD⟩, hS.F ht⟩) hS.2.2 d_Md_isMaker_114
    · have h := h.2 c1
      refine lv_aload_n hx hb d_Md_isMaker_39 rfl (lv_at hl 0 rfl) ?_
      refine lv_iload_n hx hb d_Md_isMaker_40 rfl (lv_at hl 1 rfl) ?_
      refine lv_iload_n hx hb d_Md_isMaker_41 rfl (lv_at hl 2 rfl) ?_
      refine cl_Vi (b := b_Md_isMaker) (As := [.int x2, .int x3]) (rest := []) (ws := [(h0, .inr (11, [.int (gI o0 0), .ref (q0 1), .ref (q0 2), .ref (q0 3), .ref (q0 4), .ref (q0 5), .ref (q0 6), .int (gI o0 7), .int (gI o0 8), .int (gI o0 9), .int (gI o0 10), .int (gI o0 11), .int (gI o0 12), .int (gI o0 13), .int (gI o0 14), .long (gL o0 15), .int (gI o0 16), .int (gI o0 17), .int (gI o0 18), .int (gI o0 19), .int (gI o0 20), .int (gI o0 21), .int (gI o0 22), .int (gI o0 23), .int (gI o0 24), .int (gI o0 25), .int (gI o0 26), .int (gI o0 27), .ref (q0 28), .long (gL o0 29), .int (gI o0 30), .ref (q0 31), .ref (q0 32), .ref (q0 33), .int (gI o0 34), .int (gI o0 35), .int (gI o0 36), .int (gI o0 37), .ref (q0 38), .ref (q0 39), .int (gI o0 40), .ref (q0 41), .ref (q0 42), .ref (q0 43), .ref (q0 44)])), kI G (q0 1) 6100 (gA o0 1), kI G (q0 2) 6100 (gA o0 2), kJ G (q0 3) 2016 (gB o0 3), kJ G (q0 4) 2016 (gB o0 4), kI G (q0 5) 300 (gA o0 5), kI G (q0 6) 400 (gA o0 6), kJ G (q0 28) 10 (gB o0 28), kI G (q0 31) 969 (gA o0 31), kI G (q0 32) 969 (gA o0 32), kI G (q0 33) 969 (gA o0 33), kI G (q0 38) 5 (gA o0 38), kI G (q0 39) 5120 (gA o0 39), kI G (q0 41) 5 (gA o0 41), kZ G (q0 42) 1024 (gA o0 42), kI G (q0 43) 8192 (gA o0 43), kI G (q0 44) 8192 (gA o0 44)]) (wr := []) (w2 := fun (u : Unit) => [(h0, .inr (11, [.int (gI o0 0), .ref (q0 1), .ref (q0 2), .ref (q0 3), .ref (q0 4), .ref (q0 5), .ref (q0 6), .int (gI o0 7), .int (gI o0 8), .int (gI o0 9), .int (gI o0 10), .int (gI o0 11), .int (gI o0 12), .int (gI o0 13), .int (gI o0 14), .long (gL o0 15), .int (gI o0 16), .int (gI o0 17), .int (gI o0 18), .int (gI o0 19), .int (gI o0 20), .int (gI o0 21), .int (gI o0 22), .int (gI o0 23), .int (gI o0 24), .int (gI o0 25), .int (gI o0 26), .int (gI o0 27), .ref (q0 28), .long (gL o0 29), .int (gI o0 30), .ref (q0 31), .ref (q0 32), .ref (q0 33), .int (gI o0 34), .int (gI o0 35), .int (gI o0 36), .int (gI o0 37), .ref (q0 38), .ref (q0 39), .int (gI o0 40), .ref (q0 41), .ref (q0 42), .ref (q0 43), .ref (q0 44)])), kI G (q0 1) 6100 (gA o0 1), kI G (q0 2) 6100 (gA o0 2), kJ G (q0 3) 2016 (gB o0 3), kJ G (q0 4) 2016 (gB o0 4), kI G (q0 5) 300 (gA o0 5), kI G (q0 6) 400 (gA o0 6), kJ G (q0 28) 10 (gB o0 28), kI G (q0 31) 969 (gA o0 31), kI G (q0 32) 969 (gA o0 32), kI G (q0 33) 969 (gA o0 33), kI G (q0 38) 5 (gA o0 38), kI G (q0 39) 5120 (gA o0 39), kI G (q0 41) 5 (gA o0 41), kZ G (q0 42) 1024 (gA o0 42), kI G (q0 43) 8192 (gA o0 43), kI G (q0 44) 8192 (gA o0 44)]) C (c_Md_heardOf (h0 := h0) (q0 := q0) H.size h) wv_Md_279 ⟨Nat.le_of_ble_eq_true rfl, Nat.le_of_ble_eq_true rfl⟩ hP hD hS 0 rfl rfl [0, 1, 2, 3, 4, 5, 6, 7, 8, 9, 10, 11, 12, 13, 14, 15, 16] [] rfl rfl (by decide) (by decide) (by decide) [0, 1, 2, 3, 4, 5, 6, 7, 8, 9, 10, 11, 12, 13, 14, 15, 16] (by decide) (fun u => rfl) rfl hl.1 rfl (lv_room (Nat.le_of_ble_eq_true rfl)) d_Md_isMaker_42 ⟨Nat.le_of_ble_eq_true rfl, Nat.le_of_ble_eq_true rfl⟩ rfl rfl (fun z2 u H locs h hP hD hS => ?_)
      have hP : va_P G.1 CL [(h0, .inr (11, [.int (gI o0 0), .ref (q0 1), .ref (q0 2), .ref (q0 3), .ref (q0 4), .ref (q0 5), .ref (q0 6), .int (gI o0 7), .int (gI o0 8), .int (gI o0 9), .int (gI o0 10), .int (gI o0 11), .int (gI o0 12), .int (gI o0 13), .int (gI o0 14), .long (gL o0 15), .int (gI o0 16), .int (gI o0 17), .int (gI o0 18), .int (gI o0 19), .int (gI o0 20), .int (gI o0 21), .int (gI o0 22), .int (gI o0 23), .int (gI o0 24), .int (gI o0 25), .int (gI o0 26), .int (gI o0 27), .ref (q0 28), .long (gL o0 29), .int (gI o0 30), .ref (q0 31), .ref (q0 32), .ref (q0 33), .int (gI o0 34), .int (gI o0 35), .int (gI o0 36), .int (gI o0 37), .ref (q0 38), .ref (q0 39), .int (gI o0 40), .ref (q0 41), .ref (q0 42), .ref (q0 43), .ref (q0 44)])), kI G (q0 1) 6100 (gA o0 1), kI G (q0 2) 6100 (gA o0 2), kJ G (q0 3) 2016 (gB o0 3), kJ G (q0 4) 2016 (gB o0 4), kI G (q0 5) 300 (gA o0 5), kI G (q0 6) 400 (gA o0 6), kJ G (q0 28) 10 (gB o0 28), kI G (q0 31) 969 (gA o0 31), kI G (q0 32) 969 (gA o0 32), kI G (q0 33) 969 (gA o0 33), kI G (q0 38) 5 (gA o0 38), kI G (q0 39) 5120 (gA o0 39), kI G (q0 41) 5 (gA o0 41), kZ G (q0 42) 1024 (gA o0 42), kI G (q0 43) 8192 (gA o0 43), kI G (q0 44) 8192 (gA o0 44)] H := hP
      have hD : va_D A [(h0, .inr (11, [.int (gI o0 0), .ref (q0 1), .ref (q0 2), .ref (q0 3), .ref (q0 4), .ref (q0 5), .ref (q0 6), .int (gI o0 7), .int (gI o0 8), .int (gI o0 9), .int (gI o0 10), .int (gI o0 11), .int (gI o0 12), .int (gI o0 13), .int (gI o0 14), .long (gL o0 15), .int (gI o0 16), .int (gI o0 17), .int (gI o0 18), .int (gI o0 19), .int (gI o0 20), .int (gI o0 21), .int (gI o0 22), .int (gI o0 23), .int (gI o0 24), .int (gI o0 25), .int (gI o0 26), .int (gI o0 27), .ref (q0 28), .long (gL o0 29), .int (gI o0 30), .ref (q0 31), .ref (q0 32), .ref (q0 33), .int (gI o0 34), .int (gI o0 35), .int (gI o0 36), .int (gI o0 37), .ref (q0 38), .ref (q0 39), .int (gI o0 40), .ref (q0 41), .ref (q0 42), .ref (q0 43), .ref (q0 44)])), kI G (q0 1) 6100 (gA o0 1), kI G (q0 2) 6100 (gA o0 2), kJ G (q0 3) 2016 (gB o0 3), kJ G (q0 4) 2016 (gB o0 4), kI G (q0 5) 300 (gA o0 5), kI G (q0 6) 400 (gA o0 6), kJ G (q0 28) 10 (gB o0 28), kI G (q0 31) 969 (gA o0 31), kI G (q0 32) 969 (gA o0 32), kI G (q0 33) 969 (gA o0 33), kI G (q0 38) 5 (gA o0 38), kI G (q0 39) 5120 (gA o0 39), kI G (q0 41) 5 (gA o0 41), kZ G (q0 42) 1024 (gA o0 42), kI G (q0 43) 8192 (gA o0 43), kI G (q0 44) 8192 (gA o0 44)] := hD
      refine lv_istore (lv' := [(4, .int z2), (0, .ref h0), (2, .int x2), (3, .int x3)]) hx hb d_Md_isMaker_45 hl (by decide) rfl (fun ls hl => ?_)
      refine lv_iload hx hb d_Md_isMaker_47 (lv_at hl 0 rfl) ?_
      refine lv_if_ge (tgt := 55) hx hb d_Md_isMaker_49 (by decide) (fun c3 => ?_) (fun c3 => ?_)
      · have h := h.1 c3
        refine lv_iload_n hx hb d_Md_isMaker_55 rfl (lv_at hl 3 rfl) ?_
        refine lv_aload_n hx hb d_Md_isMaker_56 rfl (lv_at hl 1 rfl) ?_
        refine va_get (D := G.1) (ci := 11) (v := .int (gI o0 0)) (C := R_Md) (T := T_Md) (N := 45) hx hb hts i_Md hown hK hP 0 rfl rfl 0 (by decide) (hts _ wf_Md_67) (fun _ h9 => h9) rfl d_Md_isMaker_57 ?_
        refine lv_icmp_lt (tgt := 65) hx hb d_Md_isMaker_60 (by decide) (fun c4 => ?_) (fun c4 => ?_)
        · have h := h.1 c4
          refine lv_aload_n hx hb d_Md_isMaker_65 rfl (lv_at hl 1 rfl) ?_
          refine lv_iload_n hx hb d_Md_isMaker_66 rfl (lv_at hl 3 rfl) ?_
          refine cl_Vi (b := b_Md_isMaker) (As := [.int x3]) (rest := []) (ws := [(h0, .inr (11, [.int (gI o0 0), .ref (q0 1), .ref (q0 2), .ref (q0 3), .ref (q0 4), .ref (q0 5), .ref (q0 6), .int (gI o0 7), .int (gI o0 8), .int (gI o0 9), .int (gI o0 10), .int (gI o0 11), .int (gI o0 12), .int (gI o0 13), .int (gI o0 14), .long (gL o0 15), .int (gI o0 16), .int (gI o0 17), .int (gI o0 18), .int (gI o0 19), .int (gI o0 20), .int (gI o0 21), .int (gI o0 22), .int (gI o0 23), .int (gI o0 24), .int (gI o0 25), .int (gI o0 26), .int (gI o0 27), .ref (q0 28), .long (gL o0 29), .int (gI o0 30), .ref (q0 31), .ref (q0 32), .ref (q0 33), .int (gI o0 34), .int (gI o0 35), .int (gI o0 36), .int (gI o0 37), .ref (q0 38), .ref (q0 39), .int (gI o0 40), .ref (q0 41), .ref (q0 42), .ref (q0 43), .ref (q0 44)])), kI G (q0 1) 6100 (gA o0 1), kI G (q0 2) 6100 (gA o0 2), kJ G (q0 3) 2016 (gB o0 3), kJ G (q0 4) 2016 (gB o0 4), kI G (q0 5) 300 (gA o0 5), kI G (q0 6) 400 (gA o0 6), kJ G (q0 28) 10 (gB o0 28), kI G (q0 31) 969 (gA o0 31), kI G (q0 32) 969 (gA o0 32), kI G (q0 33) 969 (gA o0 33), kI G (q0 38) 5 (gA o0 38), kI G (q0 39) 5120 (gA o0 39), kI G (q0 41) 5 (gA o0 41), kZ G (q0 42) 1024 (gA o0 42), kI G (q0 43) 8192 (gA o0 43), kI G (q0 44) 8192 (gA o0 44)]) (wr := []) (w2 := fun (u : Unit) => [(h0, .inr (11, [.int (gI o0 0), .ref (q0 1), .ref (q0 2), .ref (q0 3), .ref (q0 4), .ref (q0 5), .ref (q0 6), .int (gI o0 7), .int (gI o0 8), .int (gI o0 9), .int (gI o0 10), .int (gI o0 11), .int (gI o0 12), .int (gI o0 13), .int (gI o0 14), .long (gL o0 15), .int (gI o0 16), .int (gI o0 17), .int (gI o0 18), .int (gI o0 19), .int (gI o0 20), .int (gI o0 21), .int (gI o0 22), .int (gI o0 23), .int (gI o0 24), .int (gI o0 25), .int (gI o0 26), .int (gI o0 27), .ref (q0 28), .long (gL o0 29), .int (gI o0 30), .ref (q0 31), .ref (q0 32), .ref (q0 33), .int (gI o0 34), .int (gI o0 35), .int (gI o0 36), .int (gI o0 37), .ref (q0 38), .ref (q0 39), .int (gI o0 40), .ref (q0 41), .ref (q0 42), .ref (q0 43), .ref (q0 44)])), kI G (q0 1) 6100 (gA o0 1), kI G (q0 2) 6100 (gA o0 2), kJ G (q0 3) 2016 (gB o0 3), kJ G (q0 4) 2016 (gB o0 4), kI G (q0 5) 300 (gA o0 5), kI G (q0 6) 400 (gA o0 6), kJ G (q0 28) 10 (gB o0 28), kI G (q0 31) 969 (gA o0 31), kI G (q0 32) 969 (gA o0 32), kI G (q0 33) 969 (gA o0 33), kI G (q0 38) 5 (gA o0 38), kI G (q0 39) 5120 (gA o0 39), kI G (q0 41) 5 (gA o0 41), kZ G (q0 42) 1024 (gA o0 42), kI G (q0 43) 8192 (gA o0 43), kI G (q0 44) 8192 (gA o0 44)]) C (c_Md_boxOf (h0 := h0) (q0 := q0) H.size h) wv_Md_270 ⟨Nat.le_of_ble_eq_true rfl, Nat.le_of_ble_eq_true rfl⟩ hP hD hS 0 rfl rfl [0, 1, 2, 3, 4, 5, 6, 7, 8, 9, 10, 11, 12, 13, 14, 15, 16] [] rfl rfl (by decide) (by decide) (by decide) [0, 1, 2, 3, 4, 5, 6, 7, 8, 9, 10, 11, 12, 13, 14, 15, 16] (by decide) (fun u => rfl) rfl hl.1 rfl (lv_room (Nat.le_of_ble_eq_true rfl)) d_Md_isMaker_67 ⟨Nat.le_of_ble_eq_true rfl, Nat.le_of_ble_eq_true rfl⟩ rfl rfl (fun z5 u H locs h hP hD hS => ?_)
          have hP : va_P G.1 CL [(h0, .inr (11, [.int (gI o0 0), .ref (q0 1), .ref (q0 2), .ref (q0 3), .ref (q0 4), .ref (q0 5), .ref (q0 6), .int (gI o0 7), .int (gI o0 8), .int (gI o0 9), .int (gI o0 10), .int (gI o0 11), .int (gI o0 12), .int (gI o0 13), .int (gI o0 14), .long (gL o0 15), .int (gI o0 16), .int (gI o0 17), .int (gI o0 18), .int (gI o0 19), .int (gI o0 20), .int (gI o0 21), .int (gI o0 22), .int (gI o0 23), .int (gI o0 24), .int (gI o0 25), .int (gI o0 26), .int (gI o0 27), .ref (q0 28), .long (gL o0 29), .int (gI o0 30), .ref (q0 31), .ref (q0 32), .ref (q0 33), .int (gI o0 34), .int (gI o0 35), .int (gI o0 36), .int (gI o0 37), .ref (q0 38), .ref (q0 39), .int (gI o0 40), .ref (q0 41), .ref (q0 42), .ref (q0 43), .ref (q0 44)])), kI G (q0 1) 6100 (gA o0 1), kI G (q0 2) 6100 (gA o0 2), kJ G (q0 3) 2016 (gB o0 3), kJ G (q0 4) 2016 (gB o0 4), kI G (q0 5) 300 (gA o0 5), kI G (q0 6) 400 (gA o0 6), kJ G (q0 28) 10 (gB o0 28), kI G (q0 31) 969 (gA o0 31), kI G (q0 32) 969 (gA o0 32), kI G (q0 33) 969 (gA o0 33), kI G (q0 38) 5 (gA o0 38), kI G (q0 39) 5120 (gA o0 39), kI G (q0 41) 5 (gA o0 41), kZ G (q0 42) 1024 (gA o0 42), kI G (q0 43) 8192 (gA o0 43), kI G (q0 44) 8192 (gA o0 44)] H := hP
          have hD : va_D A [(h0, .inr (11, [.int (gI o0 0), .ref (q0 1), .ref (q0 2), .ref (q0 3), .ref (q0 4), .ref (q0 5), .ref (q0 6), .int (gI o0 7), .int (gI o0 8), .int (gI o0 9), .int (gI o0 10), .int (gI o0 11), .int (gI o0 12), .int (gI o0 13), .int (gI o0 14), .long (gL o0 15), .int (gI o0 16), .int (gI o0 17), .int (gI o0 18), .int (gI o0 19), .int (gI o0 20), .int (gI o0 21), .int (gI o0 22), .int (gI o0 23), .int (gI o0 24), .int (gI o0 25), .int (gI o0 26), .int (gI o0 27), .ref (q0 28), .long (gL o0 29), .int (gI o0 30), .ref (q0 31), .ref (q0 32), .ref (q0 33), .int (gI o0 34), .int (gI o0 35), .int (gI o0 36), .int (gI o0 37), .ref (q0 38), .ref (q0 39), .int (gI o0 40), .ref (q0 41), .ref (q0 42), .ref (q0 43), .ref (q0 44)])), kI G (q0 1) 6100 (gA o0 1), kI G (q0 2) 6100 (gA o0 2), kJ G (q0 3) 2016 (gB o0 3), kJ G (q0 4) 2016 (gB o0 4), kI G (q0 5) 300 (gA o0 5), kI G (q0 6) 400 (gA o0 6), kJ G (q0 28) 10 (gB o0 28), kI G (q0 31) 969 (gA o0 31), kI G (q0 32) 969 (gA o0 32), kI G (q0 33) 969 (gA o0 33), kI G (q0 38) 5 (gA o0 38), kI G (q0 39) 5120 (gA o0 39), kI G (q0 41) 5 (gA o0 41), kZ G (q0 42) 1024 (gA o0 42), kI G (q0 43) 8192 (gA o0 43), kI G (q0 44) 8192 (gA o0 44)] := hD
          refine lv_istore (lv' := [(5, .int z5), (4, .int z2), (0, .ref h0), (2, .int x2), (3, .int x3)]) hx hb d_Md_isMaker_70 hl (by decide) rfl (fun ls hl => ?_)
          refine lv_iload hx hb d_Md_isMaker_72 (lv_at hl 0 rfl) ?_
          refine lv_bipush (v := (-100 : Int32)) hx hb d_Md_isMaker_74 (by decide) ?_
          refine lv_icmp_eq (tgt := 105) hx hb d_Md_isMaker_76 (by decide) (fun c6 => ?_) (fun c6 => ?_)
          · have h := h.1 c6
            refine lv_iconst (v := (0 : Int32)) hx hb d_Md_isMaker_105 (by decide) ?_
            have hP : va_P G.1 CL (cw_Md G h0 q0 o0) H := hP
            have hD : va_D A (cw_Md G h0 q0 o0) := hD
            exact W.zret (v := (0 : Int32)) hx hb hr rfl (fun t ht hW => ⟨⟨(0 : Int32), o0, rfl, h, by rw [ht]; exact hP, va_K.moved hW.alike hK, hD⟩, hS.F ht⟩) hS.2.2 d_Md_isMaker_106
          · have h := h.2 c6
            refine lv_iload hx hb d_Md_isMaker_79 (lv_at hl 0 rfl) ?_
            refine lv_aload_n hx hb d_Md_isMaker_81 rfl (lv_at hl 2 rfl) ?_
            refine va_get (D := G.1) (ci := 11) (v := .ref (q0 1)) (C := R_Md) (T := T_Md) (N := 45) hx hb hts i_Md hown hK hP 0 rfl rfl 1 (by decide) (hts _ wf_Md_7) (fun _ h9 => h9) rfl d_Md_isMaker_82 ?_
            refine lv_iload hx hb d_Md_isMaker_85 (lv_at hl 1 rfl) ?_
            refine lv_iconst (v := (2 : Int32)) hx hb d_Md_isMaker_87 (by decide) ?_
            refine lv_iadd hx hb d_Md_isMaker_88 ?_
            have g7 := h.1
            have h := h.2
            refine xa_iald hx hb hK hP 1 0 rfl rfl g7 (k := (z2 + (2 : Int32)).toNatClampNeg) rfl d_Md_isMaker_89 ?_
            refine lv_aload_n hx hb d_Md_isMaker_90 rfl (lv_at hl 2 rfl) ?_
            refine va_get (D := G.1) (ci := 11) (v := .ref (q0 1)) (C := R_Md) (T := T_Md) (N := 45) hx hb hts i_Md hown hK hP 0 rfl rfl 1 (by decide) (hts _ wf_Md_7) (fun _ h9 => h9) rfl d_Md_isMaker_91 ?_
            refine lv_iload hx hb d_Md_isMaker_94 (lv_at hl 1 rfl) ?_
            refine lv_iconst (v := (3 : Int32)) hx hb d_Md_isMaker_96 (by decide) ?_
            refine lv_iadd hx hb d_Md_isMaker_97 ?_
            have g8 := h.1
            have h := h.2
            refine xa_iald hx hb hK hP 1 0 rfl rfl g8 (k := (z2 + (3 : Int32)).toNatClampNeg) rfl d_Md_isMaker_98 ?_
            refine cl_Si (b := b_Md_isMaker) (As := [.int z5, .int ((gA o0 1) ((z2 + (2 : Int32)).toNatClampNeg)), .int ((gA o0 1) ((z2 + (3 : Int32)).toNatClampNeg))]) (rest := []) (ws := [(h0, .inr (11, [.int (gI o0 0), .ref (q0 1), .ref (q0 2), .ref (q0 3), .ref (q0 4), .ref (q0 5), .ref (q0 6), .int (gI o0 7), .int (gI o0 8), .int (gI o0 9), .int (gI o0 10), .int (gI o0 11), .int (gI o0 12), .int (gI o0 13), .int (gI o0 14), .long (gL o0 15), .int (gI o0 16), .int (gI o0 17), .int (gI o0 18), .int (gI o0 19), .int (gI o0 20), .int (gI o0 21), .int (gI o0 22), .int (gI o0 23), .int (gI o0 24), .int (gI o0 25), .int (gI o0 26), .int (gI o0 27), .ref (q0 28), .long (gL o0 29), .int (gI o0 30), .ref (q0 31), .ref (q0 32), .ref (q0 33), .int (gI o0 34), .int (gI o0 35), .int (gI o0 36), .int (gI o0 37), .ref (q0 38), .ref (q0 39), .int (gI o0 40), .ref (q0 41), .ref (q0 42), .ref (q0 43), .ref (q0 44)])), kI G (q0 1) 6100 (gA o0 1), kI G (q0 2) 6100 (gA o0 2), kJ G (q0 3) 2016 (gB o0 3), kJ G (q0 4) 2016 (gB o0 4), kI G (q0 5) 300 (gA o0 5), kI G (q0 6) 400 (gA o0 6), kJ G (q0 28) 10 (gB o0 28), kI G (q0 31) 969 (gA o0 31), kI G (q0 32) 969 (gA o0 32), kI G (q0 33) 969 (gA o0 33), kI G (q0 38) 5 (gA o0 38), kI G (q0 39) 5120 (gA o0 39), kI G (q0 41) 5 (gA o0 41), kZ G (q0 42) 1024 (gA o0 42), kI G (q0 43) 8192 (gA o0 43), kI G (q0 44) 8192 (gA o0 44)]) (wr := [(h0, .inr (11, [.int (gI o0 0), .ref (q0 1), .ref (q0 2), .ref (q0 3), .ref (q0 4), .ref (q0 5), .ref (q0 6), .int (gI o0 7), .int (gI o0 8), .int (gI o0 9), .int (gI o0 10), .int (gI o0 11), .int (gI o0 12), .int (gI o0 13), .int (gI o0 14), .long (gL o0 15), .int (gI o0 16), .int (gI o0 17), .int (gI o0 18), .int (gI o0 19), .int (gI o0 20), .int (gI o0 21), .int (gI o0 22), .int (gI o0 23), .int (gI o0 24), .int (gI o0 25), .int (gI o0 26), .int (gI o0 27), .ref (q0 28), .long (gL o0 29), .int (gI o0 30), .ref (q0 31), .ref (q0 32), .ref (q0 33), .int (gI o0 34), .int (gI o0 35), .int (gI o0 36), .int (gI o0 37), .ref (q0 38), .ref (q0 39), .int (gI o0 40), .ref (q0 41), .ref (q0 42), .ref (q0 43), .ref (q0 44)])), kI G (q0 1) 6100 (gA o0 1), kI G (q0 2) 6100 (gA o0 2), kJ G (q0 3) 2016 (gB o0 3), kJ G (q0 4) 2016 (gB o0 4), kI G (q0 5) 300 (gA o0 5), kI G (q0 6) 400 (gA o0 6), kJ G (q0 28) 10 (gB o0 28), kI G (q0 31) 969 (gA o0 31), kI G (q0 32) 969 (gA o0 32), kI G (q0 33) 969 (gA o0 33), kI G (q0 38) 5 (gA o0 38), kI G (q0 39) 5120 (gA o0 39), kI G (q0 41) 5 (gA o0 41), kZ G (q0 42) 1024 (gA o0 42), kI G (q0 43) 8192 (gA o0 43), kI G (q0 44) 8192 (gA o0 44)]) (w2 := fun (u : Unit) => [(h0, .inr (11, [.int (gI o0 0), .ref (q0 1), .ref (q0 2), .ref (q0 3), .ref (q0 4), .ref (q0 5), .ref (q0 6), .int (gI o0 7), .int (gI o0 8), .int (gI o0 9), .int (gI o0 10), .int (gI o0 11), .int (gI o0 12), .int (gI o0 13), .int (gI o0 14), .long (gL o0 15), .int (gI o0 16), .int (gI o0 17), .int (gI o0 18), .int (gI o0 19), .int (gI o0 20), .int (gI o0 21), .int (gI o0 22), .int (gI o0 23), .int (gI o0 24), .int (gI o0 25), .int (gI o0 26), .int (gI o0 27), .ref (q0 28), .long (gL o0 29), .int (gI o0 30), .ref (q0 31), .ref (q0 32), .ref (q0 33), .int (gI o0 34), .int (gI o0 35), .int (gI o0 36), .int (gI o0 37), .ref (q0 38), .ref (q0 39), .int (gI o0 40), .ref (q0 41), .ref (q0 42), .ref (q0 43), .ref (q0 44)])), kI G (q0 1) 6100 (gA o0 1), kI G (q0 2) 6100 (gA o0 2), kJ G (q0 3) 2016 (gB o0 3), kJ G (q0 4) 2016 (gB o0 4), kI G (q0 5) 300 (gA o0 5), kI G (q0 6) 400 (gA o0 6), kJ G (q0 28) 10 (gB o0 28), kI G (q0 31) 969 (gA o0 31), kI G (q0 32) 969 (gA o0 32), kI G (q0 33) 969 (gA o0 33), kI G (q0 38) 5 (gA o0 38), kI G (q0 39) 5120 (gA o0 39), kI G (q0 41) 5 (gA o0 41), kZ G (q0 42) 1024 (gA o0 42), kI G (q0 43) 8192 (gA o0 43), kI G (q0 44) 8192 (gA o0 44)]) C (c_Md_isIn H.size h) ws_Md_76 ⟨Nat.le_of_ble_eq_true rfl, Nat.le_of_ble_eq_true rfl⟩ hP hD hS [] [0, 1, 2, 3, 4, 5, 6, 7, 8, 9, 10, 11, 12, 13, 14, 15, 16] rfl rfl (by decide) (by decide) (by decide) [0, 1, 2, 3, 4, 5, 6, 7, 8, 9, 10, 11, 12, 13, 14, 15, 16] (by decide) (fun u => rfl) rfl hl.1 rfl (lv_room (Nat.le_of_ble_eq_true rfl)) d_Md_isMaker_99 ⟨Nat.le_of_ble_eq_true rfl, Nat.le_of_ble_eq_true rfl⟩ rfl rfl (fun z9 u H locs h hP hD hS => ?_)
            have hP : va_P G.1 CL [(h0, .inr (11, [.int (gI o0 0), .ref (q0 1), .ref (q0 2), .ref (q0 3), .ref (q0 4), .ref (q0 5), .ref (q0 6), .int (gI o0 7), .int (gI o0 8), .int (gI o0 9), .int (gI o0 10), .int (gI o0 11), .int (gI o0 12), .int (gI o0 13), .int (gI o0 14), .long (gL o0 15), .int (gI o0 16), .int (gI o0 17), .int (gI o0 18), .int (gI o0 19), .int (gI o0 20), .int (gI o0 21), .int (gI o0 22), .int (gI o0 23), .int (gI o0 24), .int (gI o0 25), .int (gI o0 26), .int (gI o0 27), .ref (q0 28), .long (gL o0 29), .int (gI o0 30), .ref (q0 31), .ref (q0 32), .ref (q0 33), .int (gI o0 34), .int (gI o0 35), .int (gI o0 36), .int (gI o0 37), .ref (q0 38), .ref (q0 39), .int (gI o0 40), .ref (q0 41), .ref (q0 42), .ref (q0 43), .ref (q0 44)])), kI G (q0 1) 6100 (gA o0 1), kI G (q0 2) 6100 (gA o0 2), kJ G (q0 3) 2016 (gB o0 3), kJ G (q0 4) 2016 (gB o0 4), kI G (q0 5) 300 (gA o0 5), kI G (q0 6) 400 (gA o0 6), kJ G (q0 28) 10 (gB o0 28), kI G (q0 31) 969 (gA o0 31), kI G (q0 32) 969 (gA o0 32), kI G (q0 33) 969 (gA o0 33), kI G (q0 38) 5 (gA o0 38), kI G (q0 39) 5120 (gA o0 39), kI G (q0 41) 5 (gA o0 41), kZ G (q0 42) 1024 (gA o0 42), kI G (q0 43) 8192 (gA o0 43), kI G (q0 44) 8192 (gA o0 44)] H := hP
            have hD : va_D A [(h0, .inr (11, [.int (gI o0 0), .ref (q0 1), .ref (q0 2), .ref (q0 3), .ref (q0 4), .ref (q0 5), .ref (q0 6), .int (gI o0 7), .int (gI o0 8), .int (gI o0 9), .int (gI o0 10), .int (gI o0 11), .int (gI o0 12), .int (gI o0 13), .int (gI o0 14), .long (gL o0 15), .int (gI o0 16), .int (gI o0 17), .int (gI o0 18), .int (gI o0 19), .int (gI o0 20), .int (gI o0 21), .int (gI o0 22), .int (gI o0 23), .int (gI o0 24), .int (gI o0 25), .int (gI o0 26), .int (gI o0 27), .ref (q0 28), .long (gL o0 29), .int (gI o0 30), .ref (q0 31), .ref (q0 32), .ref (q0 33), .int (gI o0 34), .int (gI o0 35), .int (gI o0 36), .int (gI o0 37), .ref (q0 38), .ref (q0 39), .int (gI o0 40), .ref (q0 41), .ref (q0 42), .ref (q0 43), .ref (q0 44)])), kI G (q0 1) 6100 (gA o0 1), kI G (q0 2) 6100 (gA o0 2), kJ G (q0 3) 2016 (gB o0 3), kJ G (q0 4) 2016 (gB o0 4), kI G (q0 5) 300 (gA o0 5), kI G (q0 6) 400 (gA o0 6), kJ G (q0 28) 10 (gB o0 28), kI G (q0 31) 969 (gA o0 31), kI G (q0 32) 969 (gA o0 32), kI G (q0 33) 969 (gA o0 33), kI G (q0 38) 5 (gA o0 38), kI G (q0 39) 5120 (gA o0 39), kI G (q0 41) 5 (gA o0 41), kZ G (q0 42) 1024 (gA o0 42), kI G (q0 43) 8192 (gA o0 43), kI G (q0 44) 8192 (gA o0 44)] := hD
            refine lv_if_ne (tgt := 107) hx hb d_Md_isMaker_102 (by decide) (fun c10 => ?_) (fun c10 => ?_)
            · have h := h.2 c10
              refine lv_iinc (v := (x3 + (1 : Int32))) (lv' := [(3, .int (x3 + (1 : Int32))), (5, .int z5), (4, .int z2), (0, .ref h0), (2, .int x2)]) hx hb d_Md_isMaker_107 hl (k := 4) rfl rfl (by decide) rfl (fun ls hl => ?_)
              refine lv_goto (tgt := 34) hx hb d_Md_isMaker_110 (by decide) ?_
              have hl := lv_sub (l' := [(0, .ref h0), (2, .int x2), (3, .int (x3 + (1 : Int32)))]) hl [3, 4, 0] rfl
              have hP : va_P G.1 CL (cw_Md G h0 q0 o0) H := hP
              have hD : va_D A (cw_Md G h0 q0 o0) := hD
              exact ih x2 (x3 + (1 : Int32)) o0 ls H locs hl hP hD hS h
            · have h := h.1 c10
              refine lv_iconst (v := (0 : Int32)) hx hb d_Md_isMaker_105 (by decide) ?_
              have hP : va_P G.1 CL (cw_Md G h0 q0 o0) H := hP
              have hD : va_D A (cw_Md G h0 q0 o0) := hD
              exact W.zret (v := (0 : Int32)) hx hb hr rfl (fun t ht hW => ⟨⟨(0 : Int32), o0, rfl, h, by rw [ht]; exact hP, va_K.moved hW.alike hK, hD⟩, hS.F ht⟩) hS.2.2 d_Md_isMaker_106
        · have h := h.2 c4
          refine lv_iconst (v := (0 : Int32)) hx hb d_Md_isMaker_63 (by decide) ?_
          have hP : va_P G.1 CL (cw_Md G h0 q0 o0) H := hP
          have hD : va_D A (cw_Md G h0 q0 o0) := hD
          exact W.zret (v := (0 : Int32)) hx hb hr rfl (fun t ht hW => ⟨⟨(0 : Int32), o0, rfl, h, by rw [ht]; exact hP, va_K.moved hW.alike hK, hD⟩, hS.F ht⟩) hS.2.2 d_Md_isMaker_64
      · have h := h.2 c3
        refine lv_goto (tgt := 107) hx hb d_Md_isMaker_52 (by decide) ?_
        refine lv_iinc (v := (x3 + (1 : Int32))) (lv' := [(3, .int (x3 + (1 : Int32))), (4, .int z2), (0, .ref h0), (2, .int x2)]) hx hb d_Md_isMaker_107 hl (k := 3) rfl rfl (by decide) rfl (fun ls hl => ?_)
        refine lv_goto (tgt := 34) hx hb d_Md_isMaker_110 (by decide) ?_
        have hl := lv_sub (l' := [(0, .ref h0), (2, .int x2), (3, .int (x3 + (1 : Int32)))]) hl [2, 3, 0] rfl
        have hP : va_P G.1 CL (cw_Md G h0 q0 o0) H := hP
        have hD : va_D A (cw_Md G h0 q0 o0) := hD
        exact ih x2 (x3 + (1 : Int32)) o0 ls H locs hl hP hD hS h
set_option maxHeartbeats 4000000 in
set_option maxRecDepth 100000 in
theorem t_Md_isMaker_2 {p : Program} {l : Launch} {e : Env} {s : State} {m : MethodId} {args : Array Value} {below : List Frame} {meth : Method} {c : Code} {A : Nat → Prop} {G : Gl} {h0 : Nat} {q0 : Nat → Nat} (Q : Int32 → Ob → Prop) (C : Cx p s m args meth c R_Md b_Md_isMaker 6 (some .boolean) G A) :
    ∀ (n : Nat) (x1 : Int32) (x2 : Int32) (x3 : Int32) (o0 : Ob) (ls : Array Slot) (H : Heap) (locs : List Loc), lv_has ls 6 [(0, .ref h0), (1, .int x1), (2, .int x2), (3, .int x3)] → va_P G.1 CL (cw_Md G h0 q0 o0) H → va_D A (cw_Md G h0 q0 o0) → va_S A s.heap H locs → f_Md_isMaker_2 Q n x1 x2 x3 o0 → W p l e rm_Md_isMaker s m args below meth c H locs 0 0 (MQ below (va_Qi (fun (r : Int32) (u : Ob) => Q r u) (fun (u : Ob) t => BW G A (cw_Md G h0 q0 u) t) A) args s 0 0 A) (F0 m 2 ls []) := by
  obtain ⟨hx, hb, hml, hown, hr, hts, hK, hA, hlocks, hE⟩ := id C
  intro n
  induction n with
  | zero => intro x1 x2 x3 o0 ls H locs hl hP hD hS h; exact absurd h id
  | succ n ih =>
    intro x1 x2 x3 o0 ls H locs hl hP hD hS h
    have hP : va_P G.1 CL [(h0, .inr (11, [.int (gI o0 0), .ref (q0 1), .ref (q0 2), .ref (q0 3), .ref (q0 4), .ref (q0 5), .ref (q0 6), .int (gI o0 7), .int (gI o0 8), .int (gI o0 9), .int (gI o0 10), .int (gI o0 11), .int (gI o0 12), .int (gI o0 13), .int (gI o0 14), .long (gL o0 15), .int (gI o0 16), .int (gI o0 17), .int (gI o0 18), .int (gI o0 19), .int (gI o0 20), .int (gI o0 21), .int (gI o0 22), .int (gI o0 23), .int (gI o0 24), .int (gI o0 25), .int (gI o0 26), .int (gI o0 27), .ref (q0 28), .long (gL o0 29), .int (gI o0 30), .ref (q0 31), .ref (q0 32), .ref (q0 33), .int (gI o0 34), .int (gI o0 35), .int (gI o0 36), .int (gI o0 37), .ref (q0 38), .ref (q0 39), .int (gI o0 40), .ref (q0 41), .ref (q0 42), .ref (q0 43), .ref (q0 44)])), kI G (q0 1) 6100 (gA o0 1), kI G (q0 2) 6100 (gA o0 2), kJ G (q0 3) 2016 (gB o0 3), kJ G (q0 4) 2016 (gB o0 4), kI G (q0 5) 300 (gA o0 5), kI G (q0 6) 400 (gA o0 6), kJ G (q0 28) 10 (gB o0 28), kI G (q0 31) 969 (gA o0 31), kI G (q0 32) 969 (gA o0 32), kI G (q0 33) 969 (gA o0 33), kI G (q0 38) 5 (gA o0 38), kI G (q0 39) 5120 (gA o0 39), kI G (q0 41) 5 (gA o0 41), kZ G (q0 42) 1024 (gA o0 42), kI G (q0 43) 8192 (gA o0 43), kI G (q0 44) 8192 (gA o0 44)] H := hP
    have hD : va_D A [(h0, .inr (11, [.int (gI o0 0), .ref (q0 1), .ref (q0 2), .ref (q0 3), .ref (q0 4), .ref (q0 5), .ref (q0 6), .int (gI o0 7), .int (gI o0 8), .int (gI o0 9), .int (gI o0 10), .int (gI o0 11), .int (gI o0 12), .int (gI o0 13), .int (gI o0 14), .long (gL o0 15), .int (gI o0 16), .int (gI o0 17), .int (gI o0 18), .int (gI o0 19), .int (gI o0 20), .int (gI o0 21), .int (gI o0 22), .int (gI o0 23), .int (gI o0 24), .int (gI o0 25), .int (gI o0 26), .int (gI o0 27), .ref (q0 28), .long (gL o0 29), .int (gI o0 30), .ref (q0 31), .ref (q0 32), .ref (q0 33), .int (gI o0 34), .int (gI o0 35), .int (gI o0 36), .int (gI o0 37), .ref (q0 38), .ref (q0 39), .int (gI o0 40), .ref (q0 41), .ref (q0 42), .ref (q0 43), .ref (q0 44)])), kI G (q0 1) 6100 (gA o0 1), kI G (q0 2) 6100 (gA o0 2), kJ G (q0 3) 2016 (gB o0 3), kJ G (q0 4) 2016 (gB o0 4), kI G (q0 5) 300 (gA o0 5), kI G (q0 6) 400 (gA o0 6), kJ G (q0 28) 10 (gB o0 28), kI G (q0 31) 969 (gA o0 31), kI G (q0 32) 969 (gA o0 32), kI G (q0 33) 969 (gA o0 33), kI G (q0 38) 5 (gA o0 38), kI G (q0 39) 5120 (gA o0 39), kI G (q0 41) 5 (gA o0 41), kZ G (q0 42) 1024 (gA o0 42), kI G (q0 43) 8192 (gA o0 43), kI G (q0 44) 8192 (gA o0 44)] := hD
    unfold f_Md_isMaker_2 at h
    refine lv_iload_n hx hb d_Md_isMaker_2 rfl (lv_at hl 3 rfl) ?_
    refine lv_aload_n hx hb d_Md_isMaker_3 rfl (lv_at hl 0 rfl) ?_
    refine va_get (D := G.1) (ci := 11) (v := .int (gI o0 0)) (C := R_Md) (T := T_Md) (N := 45) hx hb hts i_Md hown hK hP 0 rfl rfl 0 (by decide) (hts _ wf_Md_67) (fun _ h9 => h9) rfl d_Md_isMaker_4 ?_
    refine lv_icmp_ge (tgt := 32) hx hb d_Md_isMaker_7 (by decide) (fun c11 => ?_) (fun c11 => ?_)
    · have h := h.1 c11
      refine lv_iconst (v := (0 : Int32)) hx hb d_Md_isMaker_32 (by decide) ?_
      refine lv_istore_n (lv' := [(3, .int (0 : Int32)), (0, .ref h0), (1, .int x1), (2, .int x2)]) hx hb d_Md_isMaker_33 rfl hl (by decide) rfl (fun ls hl => ?_)
      have hl := lv_sub (l' := [(0, .ref h0), (2, .int x2), (3, .int (0 : Int32))]) hl [1, 3, 0] rfl
      have hP : va_P G.1 CL (cw_Md G h0 q0 o0) H := hP
      have hD : va_D A (cw_Md G h0 q0 o0) := hD
      obtain ⟨w, h⟩ := h
      exact t_Md_isMaker_34 Q C w x2 (0 : Int32) o0 ls _ locs hl hP hD hS h
    · have h := h.2 c11
      refine lv_aload_n hx hb d_Md_isMaker_10 rfl (lv_at hl 0 rfl) ?_
      refine va_get (D := G.1) (ci := 11) (v := .ref (q0 38)) (C := R_Md) (T := T_Md) (N := 45) hx hb hts i_Md hown hK hP 0 rfl rfl 38 (by decide) (hts _ wf_Md_48) (fun _ h9 => h9) rfl d_Md_isMaker_11 ?_
      refine lv_iload_n hx hb d_Md_isMaker_14 rfl (lv_at hl 3 rfl) ?_
      refine lv_aload_n hx hb d_Md_isMaker_15 rfl (lv_at hl 0 rfl) ?_
      refine va_get (D := G.1) (ci := 11) (v := .ref (q0 39)) (C := R_Md) (T := T_Md) (N := 45) hx hb hts i_Md hown hK hP 0 rfl rfl 39 (by decide) (hts _ wf_Md_51) (fun _ h9 => h9) rfl d_Md_isMaker_16 ?_
      refine lv_iconst (v := (5 : Int32)) hx hb d_Md_isMaker_19 (by decide) ?_
      refine lv_iload_n hx hb d_Md_isMaker_20 rfl (lv_at hl 1 rfl) ?_
      refine lv_imul hx hb d_Md_isMaker_21 ?_
      refine lv_iload_n hx hb d_Md_isMaker_22 rfl (lv_at hl 3 rfl) ?_
      refine lv_iadd hx hb d_Md_isMaker_23 ?_
      have g12 := h.1
      have h := h.2
      refine xa_iald hx hb hK hP 12 0 rfl rfl g12 (k := (((5 : Int32) * x1) + x3).toNatClampNeg) rfl d_Md_isMaker_24 ?_
      refine lv_topi (fun y13 ey13 => ?_)
      have h := h y13 ey13
      have g14 := h.1
      have h := h.2
      refine xa_iast hx hb hK hP hD hS 11 0 rfl rfl g14 (k := x3.toNatClampNeg) rfl d_Md_isMaker_25 (fun H locs hP hD hS => ?_)
      have hP : va_P G.1 CL [(h0, .inr (11, [.int (gI o0 0), .ref (q0 1), .ref (q0 2), .ref (q0 3), .ref (q0 4), .ref (q0 5), .ref (q0 6), .int (gI o0 7), .int (gI o0 8), .int (gI o0 9), .int (gI o0 10), .int (gI o0 11), .int (gI o0 12), .int (gI o0 13), .int (gI o0 14), .long (gL o0 15), .int (gI o0 16), .int (gI o0 17), .int (gI o0 18), .int (gI o0 19), .int (gI o0 20), .int (gI o0 21), .int (gI o0 22), .int (gI o0 23), .int (gI o0 24), .int (gI o0 25), .int (gI o0 26), .int (gI o0 27), .ref (q0 28), .long (gL o0 29), .int (gI o0 30), .ref (q0 31), .ref (q0 32), .ref (q0 33), .int (gI o0 34), .int (gI o0 35), .int (gI o0 36), .int (gI o0 37), .ref (q0 38), .ref (q0 39), .int (gI o0 40), .ref (q0 41), .ref (q0 42), .ref (q0 43), .ref (q0 44)])), kI G (q0 1) 6100 (gA o0 1), kI G (q0 2) 6100 (gA o0 2), kJ G (q0 3) 2016 (gB o0 3), kJ G (q0 4) 2016 (gB o0 4), kI G (q0 5) 300 (gA o0 5), kI G (q0 6) 400 (gA o0 6), kJ G (q0 28) 10 (gB o0 28), kI G (q0 31) 969 (gA o0 31), kI G (q0 32) 969 (gA o0 32), kI G (q0 33) 969 (gA o0 33), kI G (q0 38) 5 (upd (gA o0 38) x3.toNatClampNeg y13), kI G (q0 39) 5120 (gA o0 39), kI G (q0 41) 5 (gA o0 41), kZ G (q0 42) 1024 (gA o0 42), kI G (q0 43) 8192 (gA o0 43), kI G (q0 44) 8192 (gA o0 44)] H := hP
      have hD : va_D A [(h0, .inr (11, [.int (gI o0 0), .ref (q0 1), .ref (q0 2), .ref (q0 3), .ref (q0 4), .ref (q0 5), .ref (q0 6), .int (gI o0 7), .int (gI o0 8), .int (gI o0 9), .int (gI o0 10), .int (gI o0 11), .int (gI o0 12), .int (gI o0 13), .int (gI o0 14), .long (gL o0 15), .int (gI o0 16), .int (gI o0 17), .int (gI o0 18), .int (gI o0 19), .int (gI o0 20), .int (gI o0 21), .int (gI o0 22), .int (gI o0 23), .int (gI o0 24), .int (gI o0 25), .int (gI o0 26), .int (gI o0 27), .ref (q0 28), .long (gL o0 29), .int (gI o0 30), .ref (q0 31), .ref (q0 32), .ref (q0 33), .int (gI o0 34), .int (gI o0 35), .int (gI o0 36), .int (gI o0 37), .ref (q0 38), .ref (q0 39), .int (gI o0 40), .ref (q0 41), .ref (q0 42), .ref (q0 43), .ref (q0 44)])), kI G (q0 1) 6100 (gA o0 1), kI G (q0 2) 6100 (gA o0 2), kJ G (q0 3) 2016 (gB o0 3), kJ G (q0 4) 2016 (gB o0 4), kI G (q0 5) 300 (gA o0 5), kI G (q0 6) 400 (gA o0 6), kJ G (q0 28) 10 (gB o0 28), kI G (q0 31) 969 (gA o0 31), kI G (q0 32) 969 (gA o0 32), kI G (q0 33) 969 (gA o0 33), kI G (q0 38) 5 (upd (gA o0 38) x3.toNatClampNeg y13), kI G (q0 39) 5120 (gA o0 39), kI G (q0 41) 5 (gA o0 41), kZ G (q0 42) 1024 (gA o0 42), kI G (q0 43) 8192 (gA o0 43), kI G (q0 44) 8192 (gA o0 44)] := hD
      refine lv_iinc (v := (x3 + (1 : Int32))) (lv' := [(3, .int (x3 + (1 : Int32))), (0, .ref h0), (1, .int x1), (2, .int x2)]) hx hb d_Md_isMaker_26 hl (k := 3) rfl rfl (by decide) rfl (fun ls hl => ?_)
      refine lv_goto (tgt := 2) hx hb d_Md_isMaker_29 (by decide) ?_
      have hl := lv_sub (l' := [(0, .ref h0), (1, .int x1), (2, .int x2), (3, .int (x3 + (1 : Int32)))]) hl [1, 2, 3, 0] rfl
      have hP : va_P G.1 CL (cw_Md G h0 q0 (sA o0 38 (upd (gA o0 38) x3.toNatClampNeg y13))) H := hP
      have hD : va_D A (cw_Md G h0 q0 (sA o0 38 (upd (gA o0 38) x3.toNatClampNeg y13))) := hD
      exact ih x1 x2 (x3 + (1 : Int32)) (sA o0 38 (upd (gA o0 38) x3.toNatClampNeg y13)) ls H locs hl hP hD hS h
set_option maxHeartbeats 4000000 in
set_option maxRecDepth 100000 in
theorem c_Md_isMaker {l : Launch} {G : Gl} {h0 : Nat} {q0 : Nat → Nat} {a0 : Int32} {a1 : Int32} {o0 : Ob} {Q : Int32 → Ob → Prop} (sz : Nat) (h : f_Md_isMaker a0 a1 o0 Q) : Met l y_Md_isMaker w_Md_isMaker rm_Md_isMaker (PcW G [.ref h0, .int a0, .int a1] sz (cw_Md G h0 q0 o0)) (va_Qi (fun (r : Int32) (u : Ob) => Q r u) (fun (u : Ob) t => BW G (va_A (cw_Md G h0 q0 o0) sz) (cw_Md G h0 q0 u) t) (va_A (cw_Md G h0 q0 o0) sz)) 0 0 (va_A (cw_Md G h0 q0 o0) sz) := by
  refine Met.ofW (cc := b_Md_isMaker) (maxL := 6) (ret := (some .boolean)) (by decide +kernel) rfl ?_
  intro p e s m args below meth c s₁ B hml hv
  obtain ⟨rfl, hsz, hP, hK, hD0, hE⟩ := hv
  have hx := B.exec
  have hb := B.bytes
  have hr := B.returns
  have hts0 := atoms_spec (ws := w_Md_isMaker) B.pre
  have hts : ∀ w ∈ gw_tbl, w.before ([.ref h0, .int a0, .int a1]).toArray s = true := fun w hw => hts0 w (List.mem_cons_of_mem _ hw)
  have hown : s.vm.findClass R_Md = some m.cls := findClass_of_methodNamed B.named
  have hlocks := B.notSynchronized
  subst hsz
  have hD := hD0.self (sz := s.heap.size)
  generalize hAe : va_A (cw_Md G h0 q0 o0) s.heap.size = A at hD hE ⊢
  have hA : ∀ q : Nat, s.heap.size ≤ q → A q := fun q h => by rw [← hAe]; exact Or.inr h
  have hS : va_S A s.heap s.heap [] := va_S.rf
  have C : Cx p s m ([.ref h0, .int a0, .int a1]).toArray meth c R_Md b_Md_isMaker 6 (some .boolean) G A := ⟨hx, hb, hml, hown, hr, hts, hK, hA, hlocks, hE⟩
  have hl := lv_entry ([.ref h0, .int a0, .int a1]) (n := 6) (Nat.le_of_ble_eq_true rfl)
  rw [lg_entry_eq]
  generalize (lg_sl ([.ref h0, .int a0, .int a1]) ++ List.replicate (6 - (lg_sl ([.ref h0, .int a0, .int a1])).length) Slot.unset).toArray = ls at hl ⊢
  have hl : lv_has ls 6 [(0, .ref h0), (1, .int a0), (2, .int a1)] := hl
  have hD : va_D A [(h0, .inr (11, [.int (gI o0 0), .ref (q0 1), .ref (q0 2), .ref (q0 3), .ref (q0 4), .ref (q0 5), .ref (q0 6), .int (gI o0 7), .int (gI o0 8), .int (gI o0 9), .int (gI o0 10), .int (gI o0 11), .int (gI o0 12), .int (gI o0 13), .int (gI o0 14), .long (gL o0 15), .int (gI o0 16), .int (gI o0 17), .int (gI o0 18), .int (gI o0 19), .int (gI o0 20), .int (gI o0 21), .int (gI o0 22), .int (gI o0 23), .int (gI o0 24), .int (gI o0 25), .int (gI o0 26), .int (gI o0 27), .ref (q0 28), .long (gL o0 29), .int (gI o0 30), .ref (q0 31), .ref (q0 32), .ref (q0 33), .int (gI o0 34), .int (gI o0 35), .int (gI o0 36), .int (gI o0 37), .ref (q0 38), .ref (q0 39), .int (gI o0 40), .ref (q0 41), .ref (q0 42), .ref (q0 43), .ref (q0 44)])), kI G (q0 1) 6100 (gA o0 1), kI G (q0 2) 6100 (gA o0 2), kJ G (q0 3) 2016 (gB o0 3), kJ G (q0 4) 2016 (gB o0 4), kI G (q0 5) 300 (gA o0 5), kI G (q0 6) 400 (gA o0 6), kJ G (q0 28) 10 (gB o0 28), kI G (q0 31) 969 (gA o0 31), kI G (q0 32) 969 (gA o0 32), kI G (q0 33) 969 (gA o0 33), kI G (q0 38) 5 (gA o0 38), kI G (q0 39) 5120 (gA o0 39), kI G (q0 41) 5 (gA o0 41), kZ G (q0 42) 1024 (gA o0 42), kI G (q0 43) 8192 (gA o0 43), kI G (q0 44) 8192 (gA o0 44)] := hD
  unfold f_Md_isMaker at h
  suffices key : ∀ (H : Heap) (locs : List Loc), va_P G.1 CL [(h0, .inr (11, [.int (gI o0 0), .ref (q0 1), .ref (q0 2), .ref (q0 3), .ref (q0 4), .ref (q0 5), .ref (q0 6), .int (gI o0 7), .int (gI o0 8), .int (gI o0 9), .int (gI o0 10), .int (gI o0 11), .int (gI o0 12), .int (gI o0 13), .int (gI o0 14), .long (gL o0 15), .int (gI o0 16), .int (gI o0 17), .int (gI o0 18), .int (gI o0 19), .int (gI o0 20), .int (gI o0 21), .int (gI o0 22), .int (gI o0 23), .int (gI o0 24), .int (gI o0 25), .int (gI o0 26), .int (gI o0 27), .ref (q0 28), .long (gL o0 29), .int (gI o0 30), .ref (q0 31), .ref (q0 32), .ref (q0 33), .int (gI o0 34), .int (gI o0 35), .int (gI o0 36), .int (gI o0 37), .ref (q0 38), .ref (q0 39), .int (gI o0 40), .ref (q0 41), .ref (q0 42), .ref (q0 43), .ref (q0 44)])), kI G (q0 1) 6100 (gA o0 1), kI G (q0 2) 6100 (gA o0 2), kJ G (q0 3) 2016 (gB o0 3), kJ G (q0 4) 2016 (gB o0 4), kI G (q0 5) 300 (gA o0 5), kI G (q0 6) 400 (gA o0 6), kJ G (q0 28) 10 (gB o0 28), kI G (q0 31) 969 (gA o0 31), kI G (q0 32) 969 (gA o0 32), kI G (q0 33) 969 (gA o0 33), kI G (q0 38) 5 (gA o0 38), kI G (q0 39) 5120 (gA o0 39), kI G (q0 41) 5 (gA o0 41), kZ G (q0 42) 1024 (gA o0 42), kI G (q0 43) 8192 (gA o0 43), kI G (q0 44) 8192 (gA o0 44)] H → va_S A s.heap H locs → W p l e rm_Md_isMaker s m ([.ref h0, .int a0, .int a1]).toArray below meth c H locs 0 0 (MQ below (va_Qi (fun (r : Int32) (u : Ob) => Q r u) (fun (u : Ob) t => BW G A (cw_Md G h0 q0 u) t) A) ([.ref h0, .int a0, .int a1]).toArray s 0 0 A) (F0 m 0 ls []) from key s.heap [] hP hS
  intro H locs hP hS
  refine lv_iconst (v := (0 : Int32)) hx hb d_Md_isMaker_0 (by decide) ?_
  refine lv_istore_n (lv' := [(3, .int (0 : Int32)), (0, .ref h0), (1, .int a0), (2, .int a1)]) hx hb d_Md_isMaker_1 rfl hl (by decide) rfl (fun ls hl => ?_)
  have hl := lv_sub (l' := [(0, .ref h0), (1, .int a0), (2, .int a1), (3, .int (0 : Int32))]) hl [1, 2, 3, 0] rfl
  have hP : va_P G.1 CL (cw_Md G h0 q0 o0) H := hP
  have hD : va_D A (cw_Md G h0 q0 o0) := hD
  obtain ⟨w, h⟩ := h
  exact t_Md_isMaker_2 Q C w a0 a1 (0 : Int32) o0 ls _ locs hl hP hD hS h
abbrev b_Md_findMakers : ByteArray := prog_14_method_58_code
def y_Md_findMakers : MethodName := ⟨R_Md, "findMakers", "(I)I"⟩
abbrev w_Md_findMakers : List Cond := Cond.code y_Md_findMakers b_Md_findMakers 4 (some .int) :: gw_tbl
theorem d_Md_findMakers_0 : decode b_Md_findMakers 0 = .ok (.aload_n 0, 1) := by decide +kernel
theorem d_Md_findMakers_1 : decode b_Md_findMakers 1 = .ok (.invokevirtual 276, 3) := by decide +kernel
theorem d_Md_findMakers_4 : decode b_Md_findMakers 4 = .ok (.iconst 0, 1) := by decide +kernel
theorem d_Md_findMakers_5 : decode b_Md_findMakers 5 = .ok (.istore_n 2, 1) := by decide +kernel
theorem d_Md_findMakers_6 : decode b_Md_findMakers 6 = .ok (.iconst 0, 1) := by decide +kernel
theorem d_Md_findMakers_7 : decode b_Md_findMakers 7 = .ok (.istore_n 3, 1) := by decide +kernel
theorem d_Md_findMakers_8 : decode b_Md_findMakers 8 = .ok (.iload_n 3, 1) := by decide +kernel
theorem d_Md_findMakers_9 : decode b_Md_findMakers 9 = .ok (.aload_n 0, 1) := by decide +kernel
theorem d_Md_findMakers_10 : decode b_Md_findMakers 10 = .ok (.getfield 273, 3) := by decide +kernel
theorem d_Md_findMakers_13 : decode b_Md_findMakers 13 = .ok (.if_icmp .ge 38, 3) := by decide +kernel
theorem d_Md_findMakers_16 : decode b_Md_findMakers 16 = .ok (.aload_n 0, 1) := by decide +kernel
theorem d_Md_findMakers_17 : decode b_Md_findMakers 17 = .ok (.getfield 57, 3) := by decide +kernel
theorem d_Md_findMakers_20 : decode b_Md_findMakers 20 = .ok (.iload_n 3, 1) := by decide +kernel
theorem d_Md_findMakers_21 : decode b_Md_findMakers 21 = .ok (.aload_n 0, 1) := by decide +kernel
theorem d_Md_findMakers_22 : decode b_Md_findMakers 22 = .ok (.iload_n 3, 1) := by decide +kernel
theorem d_Md_findMakers_23 : decode b_Md_findMakers 23 = .ok (.iload_n 1, 1) := by decide +kernel
theorem d_Md_findMakers_24 : decode b_Md_findMakers 24 = .ok (.invokevirtual 282, 3) := by decide +kernel
theorem d_Md_findMakers_27 : decode b_Md_findMakers 27 = .ok (.bastore, 1) := by decide +kernel
theorem d_Md_findMakers_28 : decode b_Md_findMakers 28 = .ok (.iload_n 2, 1) := by decide +kernel
theorem d_Md_findMakers_29 : decode b_Md_findMakers 29 = .ok (.aload_n 0, 1) := by decide +kernel
theorem d_Md_findMakers_30 : decode b_Md_findMakers 30 = .ok (.getfield 57, 3) := by decide +kernel
theorem d_Md_findMakers_33 : decode b_Md_findMakers 33 = .ok (.iload_n 3, 1) := by decide +kernel
theorem d_Md_findMakers_34 : decode b_Md_findMakers 34 = .ok (.baload, 1) := by decide +kernel
theorem d_Md_findMakers_35 : decode b_Md_findMakers 35 = .ok (.ifCond .eq 7, 3) := by decide +kernel
theorem d_Md_findMakers_38 : decode b_Md_findMakers 38 = .ok (.iconst 1, 1) := by decide +kernel
theorem d_Md_findMakers_39 : decode b_Md_findMakers 39 = .ok (.goto 4, 3) := by decide +kernel
theorem d_Md_findMakers_42 : decode b_Md_findMakers 42 = .ok (.iconst 0, 1) := by decide +kernel
theorem d_Md_findMakers_43 : decode b_Md_findMakers 43 = .ok (.iadd, 1) := by decide +kernel
theorem d_Md_findMakers_44 : decode b_Md_findMakers 44 = .ok (.istore_n 2, 1) := by decide +kernel
theorem d_Md_findMakers_45 : decode b_Md_findMakers 45 = .ok (.iinc 3 1, 3) := by decide +kernel
theorem d_Md_findMakers_48 : decode b_Md_findMakers 48 = .ok (.goto (-40), 3) := by decide +kernel
theorem d_Md_findMakers_51 : decode b_Md_findMakers 51 = .ok (.iload_n 2, 1) := by decide +kernel
theorem d_Md_findMakers_52 : decode b_Md_findMakers 52 = .ok (.ireturn, 1) := by decide +kernel
theorem wf_Md_57 : Cond.fieldLink R_Md 57 R_Md "is" "[Z" ∈ gw_tbl := gw_tb (List.mem_of_getElem? (i := 1013) (by decide +kernel)) rfl
theorem wv_Md_282 : wV R_Md 282 y_Md_isMaker b_Md_isMaker 6 (some .boolean) 2 := ⟨⟨gw_tb (List.mem_of_getElem? (i := 1328) (by decide +kernel)) rfl, gw_tb (List.mem_of_getElem? (i := 13) (by decide +kernel)) rfl, gw_tb (List.mem_of_getElem? (i := 1331) (by decide +kernel)) rfl, by decide, by decide, by decide +kernel⟩, gw_tb (List.mem_of_getElem? (i := 1330) (by decide +kernel)) rfl, gw_of (List.mem_append_left _ (List.mem_of_getElem? (i := 58) (by decide +kernel))) rfl⟩
def f_Md_findMakers_8 (Q : Int32 → Ob → Prop) : Nat → Int32 → Int32 → Int32 → Ob → Prop
  | 0, _, _, _, _ => False
  | n + 1, x1, x2, x3, o0 => ((gI o0 40) ≤ x3 → (Q x2 o0)) ∧ (¬ (gI o0 40) ≤ x3 → (f_Md_isMaker x3 x1 o0 (fun z2 u3 => (vp_in x3 1024) ∧ ((vp_in x3 1024) ∧ (∀ y6 : Int32, y6 = ((upd (gA u3 42) x3.toNatClampNeg (vp_nar .boolean z2)) x3.toNatClampNeg) → ((y6 = 0 → ((f_Md_findMakers_8 Q n) x1 (x2 + (0 : Int32)) (x3 + (1 : Int32)) (sA u3 42 (upd (gA u3 42) x3.toNatClampNeg (vp_nar .boolean z2))))) ∧ (¬ y6 = 0 → ((f_Md_findMakers_8 Q n) x1 (x2 + (1 : Int32)) (x3 + (1 : Int32)) (sA u3 42 (upd (gA u3 42) x3.toNatClampNeg (vp_nar .boolean z2)))))))))))
def f_Md_findMakers (a0 : Int32) (o0 : Ob) (Q : Int32 → Ob → Prop) : Prop := f_Md_findShapes o0 (fun u8 => (∃ w, f_Md_findMakers_8 Q w a0 (0 : Int32) (0 : Int32) u8))
abbrev rm_Md_findMakers : Room := { frames := 3, cells := 0, slots := 0, locals := 79 }
set_option maxHeartbeats 4000000 in
set_option maxRecDepth 100000 in
theorem t_Md_findMakers_8 {p : Program} {l : Launch} {e : Env} {s : State} {m : MethodId} {args : Array Value} {below : List Frame} {meth : Method} {c : Code} {A : Nat → Prop} {G : Gl} {h0 : Nat} {q0 : Nat → Nat} (Q : Int32 → Ob → Prop) (C : Cx p s m args meth c R_Md b_Md_findMakers 4 (some .int) G A) :
    ∀ (n : Nat) (x1 : Int32) (x2 : Int32) (x3 : Int32) (o0 : Ob) (ls : Array Slot) (H : Heap) (locs : List Loc), lv_has ls 4 [(0, .ref h0), (1, .int x1), (2, .int x2), (3, .int x3)] → va_P G.1 CL (cw_Md G h0 q0 o0) H → va_D A (cw_Md G h0 q0 o0) → va_S A s.heap H locs → f_Md_findMakers_8 Q n x1 x2 x3 o0 → W p l e rm_Md_findMakers s m args below meth c H locs 0 0 (MQ below (va_Qi (fun (r : Int32) (u : Ob) => Q r u) (fun (u : Ob) t => BW G A (cw_Md G h0 q0 u) t) A) args s 0 0 A) (F0 m 8 ls []) := by
  obtain ⟨hx, hb, hml, hown, hr, hts, hK, hA, hlocks, hE⟩ := id C
  intro n
  induction n with
  | zero => intro x1 x2 x3 o0 ls H locs hl hP hD hS h; exact absurd h id
  | succ n ih =>
    intro x1 x2 x3 o0 ls H locs hl hP hD hS h
    have hP : va_P G.1 CL [(h0, .inr (11, [.int (gI o0 0), .ref (q0 1), .ref (q0 2), .ref (q0 3), .ref (q0 4), .ref (q0 5), .ref (q0 6), .int (gI o0 7), .int (gI o0 8), .int (gI o0 9), .int (gI o0 10), .int (gI o0 11), .int (gI o0 12), .int (gI o0 13), .int (gI o0 14), .long (gL o0 15), .int (gI o0 16), .int (gI o0 17), .int (gI o0 18), .int (gI o0 19), .int (gI o0 20), .int (gI o0 21), .int (gI o0 22), .int (gI o0 23), .int (gI o0 24), .int (gI o0 25), .int (gI o0 26), .int (gI o0 27), .ref (q0 28), .long (gL o0 29), .int (gI o0 30), .ref (q0 31), .ref (q0 32), .ref (q0 33), .int (gI o0 34), .int (gI o0 35), .int (gI o0 36), .int (gI o0 37), .ref (q0 38), .ref (q0 39), .int (gI o0 40), .ref (q0 41), .ref (q0 42), .ref (q0 43), .ref (q0 44)])), kI G (q0 1) 6100 (gA o0 1), kI G (q0 2) 6100 (gA o0 2), kJ G (q0 3) 2016 (gB o0 3), kJ G (q0 4) 2016 (gB o0 4), kI G (q0 5) 300 (gA o0 5), kI G (q0 6) 400 (gA o0 6), kJ G (q0 28) 10 (gB o0 28), kI G (q0 31) 969 (gA o0 31), kI G (q0 32) 969 (gA o0 32), kI G (q0 33) 969 (gA o0 33), kI G (q0 38) 5 (gA o0 38), kI G (q0 39) 5120 (gA o0 39), kI G (q0 41) 5 (gA o0 41), kZ G (q0 42) 1024 (gA o0 42), kI G (q0 43) 8192 (gA o0 43), kI G (q0 44) 8192 (gA o0 44)] H := hP
    have hD : va_D A [(h0, .inr (11, [.int (gI o0 0), .ref (q0 1), .ref (q0 2), .ref (q0 3), .ref (q0 4), .ref (q0 5), .ref (q0 6), .int (gI o0 7), .int (gI o0 8), .int (gI o0 9), .int (gI o0 10), .int (gI o0 11), .int (gI o0 12), .int (gI o0 13), .int (gI o0 14), .long (gL o0 15), .int (gI o0 16), .int (gI o0 17), .int (gI o0 18), .int (gI o0 19), .int (gI o0 20), .int (gI o0 21), .int (gI o0 22), .int (gI o0 23), .int (gI o0 24), .int (gI o0 25), .int (gI o0 26), .int (gI o0 27), .ref (q0 28), .long (gL o0 29), .int (gI o0 30), .ref (q0 31), .ref (q0 32), .ref (q0 33), .int (gI o0 34), .int (gI o0 35), .int (gI o0 36), .int (gI o0 37), .ref (q0 38), .ref (q0 39), .int (gI o0 40), .ref (q0 41), .ref (q0 42), .ref (q0 43), .ref (q0 44)])), kI G (q0 1) 6100 (gA o0 1), kI G (q0 2) 6100 (gA o0 2), kJ G (q0 3) 2016 (gB o0 3), kJ G (q0 4) 2016 (gB o0 4), kI G (q0 5) 300 (gA o0 5), kI G (q0 6) 400 (gA o0 6), kJ G (q0 28) 10 (gB o0 28), kI G (q0 31) 969 (gA o0 31), kI G (q0 32) 969 (gA o0 32), kI G (q0 33) 969 (gA o0 33), kI G (q0 38) 5 (gA o0 38), kI G (q0 39) 5120 (gA o0 39), kI G (q0 41) 5 (gA o0 41), kZ G (q0 42) 1024 (gA o0 42), kI G (q0 43) 8192 (gA o0 43), kI G (q0 44) 8192 (gA o0 44)] := hD
    unfold f_Md_findMakers_8 at h
    refine lv_iload_n hx hb d_Md_findMakers_8 rfl (lv_at hl 3 rfl) ?_
    refine lv_aload_n hx hb d_Md_findMakers_9 rfl (lv_at hl 0 rfl) ?_
    refine va_get (D := G.1) (ci := 11) (v := .int (gI o0 40)) (C := R_Md) (T := T_Md) (N := 45) hx hb hts i_Md hown hK hP 0 rfl rfl 40 (by decide) (hts _ wf_Md_273) (fun _ h9 => h9) rfl d_Md_findMakers_10 ?_
    refine lv_icmp_ge (tgt := 51) hx hb d_Md_findMakers_13 (by decide) (fun c1 => ?_) (fun c1 => ?_)
    · have h := h.1 c1
      refine lv_iload_n hx hb d_Md_findMakers_51 rfl (lv_at hl 2 rfl) ?_
      have hP : va_P G.1 CL (cw_Md G h0 q0 o0) H := hP
      have hD : va_D A (cw_Md G h0 q0 o0) := hD
      exact W.iret (v := x2) hx hb hr (fun t ht hW => ⟨⟨x2, o0, rfl, h, by rw [ht]; exact hP, va_K.moved hW.alike hK, hD⟩, hS.F ht⟩) hS.2.2 d_Md_findMakers_52
    · have h := h.2 c1
      refine lv_aload_n hx hb d_Md_findMakers_16 rfl (lv_at hl 0 rfl) ?_
      refine va_get (D := G.1) (ci := 11) (v := .ref (q0 42)) (C := R_Md) (T := T_Md) (N := 45) hx hb hts i_Md hown hK hP 0 rfl rfl 42 (by decide) (hts _ wf_Md_57) (fun _ h9 => h9) rfl d_Md_findMakers_17 ?_
      refine lv_iload_n hx hb d_Md_findMakers_20 rfl (lv_at hl 3 rfl) ?_
      refine lv_aload_n hx hb d_Md_findMakers_21 rfl (lv_at hl 0 rfl) ?_
      refine lv_iload_n hx hb d_Md_findMakers_22 rfl (lv_at hl 3 rfl) ?_
      refine lv_iload_n hx hb d_Md_findMakers_23 rfl (lv_at hl 1 rfl) ?_
      refine cl_Vi (b := b_Md_findMakers) (As := [.int x3, .int x1]) (rest := [.int x3, .ref (q0 42)]) (ws := [(h0, .inr (11, [.int (gI o0 0), .ref (q0 1), .ref (q0 2), .ref (q0 3), .ref (q0 4), .ref (q0 5), .ref (q0 6), .int (gI o0 7), .int (gI o0 8), .int (gI o0 9), .int (gI o0 10), .int (gI o0 11), .int (gI o0 12), .int (gI o0 13), .int (gI o0 14), .long (gL o0 15), .int (gI o0 16), .int (gI o0 17), .int (gI o0 18), .int (gI o0 19), .int (gI o0 20), .int (gI o0 21), .int (gI o0 22), .int (gI o0 23), .int (gI o0 24), .int (gI o0 25), .int (gI o0 26), .int (gI o0 27), .ref (q0 28), .long (gL o0 29), .int (gI o0 30), .ref (q0 31), .ref (q0 32), .ref (q0 33), .int (gI o0 34), .int (gI o0 35), .int (gI o0 36), .int (gI o0 37), .ref (q0 38), .ref (q0 39), .int (gI o0 40), .ref (q0 41), .ref (q0 42), .ref (q0 43), .ref (q0 44)])), kI G (q0 1) 6100 (gA o0 1), kI G (q0 2) 6100 (gA o0 2), kJ G (q0 3) 2016 (gB o0 3), kJ G (q0 4) 2016 (gB o0 4), kI G (q0 5) 300 (gA o0 5), kI G (q0 6) 400 (gA o0 6), kJ G (q0 28) 10 (gB o0 28), kI G (q0 31) 969 (gA o0 31), kI G (q0 32) 969 (gA o0 32), kI G (q0 33) 969 (gA o0 33), kI G (q0 38) 5 (gA o0 38), kI G (q0 39) 5120 (gA o0 39), kI G (q0 41) 5 (gA o0 41), kZ G (q0 42) 1024 (gA o0 42), kI G (q0 43) 8192 (gA o0 43), kI G (q0 44) 8192 (gA o0 44)]) (wr := []) (w2 := fun (u : Ob) => [(h0, .inr (11, [.int (gI u 0), .ref (q0 1), .ref (q0 2), .ref (q0 3), .ref (q0 4), .ref (q0 5), .ref (q0 6), .int (gI u 7), .int (gI u 8), .int (gI u 9), .int (gI u 10), .int (gI u 11), .int (gI u 12), .int (gI u 13), .int (gI u 14), .long (gL u 15), .int (gI u 16), .int (gI u 17), .int (gI u 18), .int (gI u 19), .int (gI u 20), .int (gI u 21), .int (gI u 22), .int (gI u 23), .int (gI u 24), .int (gI u 25), .int (gI u 26), .int (gI u 27), .ref (q0 28), .long (gL u 29), .int (gI u 30), .ref (q0 31), .ref (q0 32), .ref (q0 33), .int (gI u 34), .int (gI u 35), .int (gI u 36), .int (gI u 37), .ref (q0 38), .ref (q0 39), .int (gI u 40), .ref (q0 41), .ref (q0 42), .ref (q0 43), .ref (q0 44)])), kI G (q0 1) 6100 (gA u 1), kI G (q0 2) 6100 (gA u 2), kJ G (q0 3) 2016 (gB u 3), kJ G (q0 4) 2016 (gB u 4), kI G (q0 5) 300 (gA u 5), kI G (q0 6) 400 (gA u 6), kJ G (q0 28) 10 (gB u 28), kI G (q0 31) 969 (gA u 31), kI G (q0 32) 969 (gA u 32), kI G (q0 33) 969 (gA u 33), kI G (q0 38) 5 (gA u 38), kI G (q0 39) 5120 (gA u 39), kI G (q0 41) 5 (gA u 41), kZ G (q0 42) 1024 (gA u 42), kI G (q0 43) 8192 (gA u 43), kI G (q0 44) 8192 (gA u 44)]) C (c_Md_isMaker (h0 := h0) (q0 := q0) H.size h) wv_Md_282 ⟨Nat.le_of_ble_eq_true rfl, Nat.le_of_ble_eq_true rfl⟩ hP hD hS 0 rfl rfl [0, 1, 2, 3, 4, 5, 6, 7, 8, 9, 10, 11, 12, 13, 14, 15, 16] [] rfl rfl (by decide) (by decide) (by decide) [0, 1, 2, 3, 4, 5, 6, 7, 8, 9, 10, 11, 12, 13, 14, 15, 16] (by decide) (fun u => rfl) rfl hl.1 rfl (lv_room (Nat.le_of_ble_eq_true rfl)) d_Md_findMakers_24 ⟨Nat.le_of_ble_eq_true rfl, Nat.le_of_ble_eq_true rfl⟩ rfl rfl (fun z2 u H locs h hP hD hS => ?_)
      generalize u = u3 at h hP hD
      have hP : va_P G.1 CL [(h0, .inr (11, [.int (gI u3 0), .ref (q0 1), .ref (q0 2), .ref (q0 3), .ref (q0 4), .ref (q0 5), .ref (q0 6), .int (gI u3 7), .int (gI u3 8), .int (gI u3 9), .int (gI u3 10), .int (gI u3 11), .int (gI u3 12), .int (gI u3 13), .int (gI u3 14), .long (gL u3 15), .int (gI u3 16), .int (gI u3 17), .int (gI u3 18), .int (gI u3 19), .int (gI u3 20), .int (gI u3 21), .int (gI u3 22), .int (gI u3 23), .int (gI u3 24), .int (gI u3 25), .int (gI u3 26), .int (gI u3 27), .ref (q0 28), .long (gL u3 29), .int (gI u3 30), .ref (q0 31), .ref (q0 32), .ref (q0 33), .int (gI u3 34), .int (gI u3 35), .int (gI u3 36), .int (gI u3 37), .ref (q0 38), .ref (q0 39), .int (gI u3 40), .ref (q0 41), .ref (q0 42), .ref (q0 43), .ref (q0 44)])), kI G (q0 1) 6100 (gA u3 1), kI G (q0 2) 6100 (gA u3 2), kJ G (q0 3) 2016 (gB u3 3), kJ G (q0 4) 2016 (gB u3 4), kI G (q0 5) 300 (gA u3 5), kI G (q0 6) 400 (gA u3 6), kJ G (q0 28) 10 (gB u3 28), kI G (q0 31) 969 (gA u3 31), kI G (q0 32) 969 (gA u3 32), kI G (q0 33) 969 (gA u3 33), kI G (q0 38) 5 (gA u3 38), kI G (q0 39) 5120 (gA u3 39), kI G (q0 41) 5 (gA u3 41), kZ G (q0 42) 1024 (gA u3 42), kI G (q0 43) 8192 (gA u3 43), kI G (q0 44) 8192 (gA u3 44)] H := hP
      have hD : va_D A [(h0, .inr (11, [.int (gI u3 0), .ref (q0 1), .ref (q0 2), .ref (q0 3), .ref (q0 4), .ref (q0 5), .ref (q0 6), .int (gI u3 7), .int (gI u3 8), .int (gI u3 9), .int (gI u3 10), .int (gI u3 11), .int (gI u3 12), .int (gI u3 13), .int (gI u3 14), .long (gL u3 15), .int (gI u3 16), .int (gI u3 17), .int (gI u3 18), .int (gI u3 19), .int (gI u3 20), .int (gI u3 21), .int (gI u3 22), .int (gI u3 23), .int (gI u3 24), .int (gI u3 25), .int (gI u3 26), .int (gI u3 27), .ref (q0 28), .long (gL u3 29), .int (gI u3 30), .ref (q0 31), .ref (q0 32), .ref (q0 33), .int (gI u3 34), .int (gI u3 35), .int (gI u3 36), .int (gI u3 37), .ref (q0 38), .ref (q0 39), .int (gI u3 40), .ref (q0 41), .ref (q0 42), .ref (q0 43), .ref (q0 44)])), kI G (q0 1) 6100 (gA u3 1), kI G (q0 2) 6100 (gA u3 2), kJ G (q0 3) 2016 (gB u3 3), kJ G (q0 4) 2016 (gB u3 4), kI G (q0 5) 300 (gA u3 5), kI G (q0 6) 400 (gA u3 6), kJ G (q0 28) 10 (gB u3 28), kI G (q0 31) 969 (gA u3 31), kI G (q0 32) 969 (gA u3 32), kI G (q0 33) 969 (gA u3 33), kI G (q0 38) 5 (gA u3 38), kI G (q0 39) 5120 (gA u3 39), kI G (q0 41) 5 (gA u3 41), kZ G (q0 42) 1024 (gA u3 42), kI G (q0 43) 8192 (gA u3 43), kI G (q0 44) 8192 (gA u3 44)] := hD
      have g4 := h.1
      have h := h.2
      refine xa_zast hx hb hK hP hD hS 14 3 rfl rfl g4 (k := x3.toNatClampNeg) rfl d_Md_findMakers_27 (fun H locs hP hD hS => ?_)
      have hP : va_P G.1 CL [(h0, .inr (11, [.int (gI u3 0), .ref (q0 1), .ref (q0 2), .ref (q0 3), .ref (q0 4), .ref (q0 5), .ref (q0 6), .int (gI u3 7), .int (gI u3 8), .int (gI u3 9), .int (gI u3 10), .int (gI u3 11), .int (gI u3 12), .int (gI u3 13), .int (gI u3 14), .long (gL u3 15), .int (gI u3 16), .int (gI u3 17), .int (gI u3 18), .int (gI u3 19), .int (gI u3 20), .int (gI u3 21), .int (gI u3 22), .int (gI u3 23), .int (gI u3 24), .int (gI u3 25), .int (gI u3 26), .int (gI u3 27), .ref (q0 28), .long (gL u3 29), .int (gI u3 30), .ref (q0 31), .ref (q0 32), .ref (q0 33), .int (gI u3 34), .int (gI u3 35), .int (gI u3 36), .int (gI u3 37), .ref (q0 38), .ref (q0 39), .int (gI u3 40), .ref (q0 41), .ref (q0 42), .ref (q0 43), .ref (q0 44)])), kI G (q0 1) 6100 (gA u3 1), kI G (q0 2) 6100 (gA u3 2), kJ G (q0 3) 2016 (gB u3 3), kJ G (q0 4) 2016 (gB u3 4), kI G (q0 5) 300 (gA u3 5), kI G (q0 6) 400 (gA u3 6), kJ G (q0 28) 10 (gB u3 28), kI G (q0 31) 969 (gA u3 31), kI G (q0 32) 969 (gA u3 32), kI G (q0 33) 969 (gA u3 33), kI G (q0 38) 5 (gA u3 38), kI G (q0 39) 5120 (gA u3 39), kI G (q0 41) 5 (gA u3 41), kZ G (q0 42) 1024 (upd (gA u3 42) x3.toNatClampNeg (vp_nar .boolean z2)), kI G (q0 43) 8192 (gA u3 43), kI G (q0 44) 8192 (gA u3 44)] H := hP
      have hD : va_D A [(h0, .inr (11, [.int (gI u3 0), .ref (q0 1), .ref (q0 2), .ref (q0 3), .ref (q0 4), .ref (q0 5), .ref (q0 6), .int (gI u3 7), .int (gI u3 8), .int (gI u3 9), .int (gI u3 10), .int (gI u3 11), .int (gI u3 12), .int (gI u3 13), .int (gI u3 14), .long (gL u3 15), .int (gI u3 16), .int (gI u3 17), .int (gI u3 18), .int (gI u3 19), .int (gI u3 20), .int (gI u3 21), .int (gI u3 22), .int (gI u3 23), .int (gI u3 24), .int (gI u3 25), .int (gI u3 26), .int (gI u3 27), .ref (q0 28), .long (gL u3 29), .int (gI u3 30), .ref (q0 31), .ref (q0 32), .ref (q0 33), .int (gI u3 34), .int (gI u3 35), .int (gI u3 36), .int (gI u3 37), .ref (q0 38), .ref (q0 39), .int (gI u3 40), .ref (q0 41), .ref (q0 42), .ref (q0 43), .ref (q0 44)])), kI G (q0 1) 6100 (gA u3 1), kI G (q0 2) 6100 (gA u3 2), kJ G (q0 3) 2016 (gB u3 3), kJ G (q0 4) 2016 (gB u3 4), kI G (q0 5) 300 (gA u3 5), kI G (q0 6) 400 (gA u3 6), kJ G (q0 28) 10 (gB u3 28), kI G (q0 31) 969 (gA u3 31), kI G (q0 32) 969 (gA u3 32), kI G (q0 33) 969 (gA u3 33), kI G (q0 38) 5 (gA u3 38), kI G (q0 39) 5120 (gA u3 39), kI G (q0 41) 5 (gA u3 41), kZ G (q0 42) 1024 (upd (gA u3 42) x3.toNatClampNeg (vp_nar .boolean z2)), kI G (q0 43) 8192 (gA u3 43), kI G (q0 44) 8192 (gA u3 44)] := hD
      refine lv_iload_n hx hb d_Md_findMakers_28 rfl (lv_at hl 2 rfl) ?_
      refine lv_aload_n hx hb d_Md_findMakers_29 rfl (lv_at hl 0 rfl) ?_
      refine va_get (D := G.1) (ci := 11) (v := .ref (q0 42)) (C := R_Md) (T := T_Md) (N := 45) hx hb hts i_Md hown hK hP 0 rfl rfl 42 (by decide) (hts _ wf_Md_57) (fun _ h9 => h9) rfl d_Md_findMakers_30 ?_
      refine lv_iload_n hx hb d_Md_findMakers_33 rfl (lv_at hl 3 rfl) ?_
      have g5 := h.1
      have h := h.2
      refine xa_zald hx hb hK hP 14 3 rfl rfl g5 (k := x3.toNatClampNeg) rfl d_Md_findMakers_34 ?_
      refine lv_topi (fun y6 ey6 => ?_)
      have h := h y6 ey6
      refine lv_if_eq (tgt := 42) hx hb d_Md_findMakers_35 (by decide) (fun c7 => ?_) (fun c7 => ?_)
      · have h := h.1 c7
        refine lv_iconst (v := (0 : Int32)) hx hb d_Md_findMakers_42 (by decide) ?_
        refine lv_iadd hx hb d_Md_findMakers_43 ?_
        refine lv_istore_n (lv' := [(2, .int (x2 + (0 : Int32))), (0, .ref h0), (1, .int x1), (3, .int x3)]) hx hb d_Md_findMakers_44 rfl hl (by decide) rfl (fun ls hl => ?_)
        refine lv_iinc (v := (x3 + (1 : Int32))) (lv' := [(3, .int (x3 + (1 : Int32))), (2, .int (x2 + (0 : Int32))), (0, .ref h0), (1, .int x1)]) hx hb d_Md_findMakers_45 hl (k := 3) rfl rfl (by decide) rfl (fun ls hl => ?_)
        refine lv_goto (tgt := 8) hx hb d_Md_findMakers_48 (by decide) ?_
        have hl := lv_sub (l' := [(0, .ref h0), (1, .int x1), (2, .int (x2 + (0 : Int32))), (3, .int (x3 + (1 : Int32)))]) hl [2, 3, 1, 0] rfl
        have hP : va_P G.1 CL (cw_Md G h0 q0 (sA u3 42 (upd (gA u3 42) x3.toNatClampNeg (vp_nar .boolean z2)))) H := hP
        have hD : va_D A (cw_Md G h0 q0 (sA u3 42 (upd (gA u3 42) x3.toNatClampNeg (vp_nar .boolean z2)))) := hD
        exact ih x1 (x2 + (0 : Int32)) (x3 + (1 : Int32)) (sA u3 42 (upd (gA u3 42) x3.toNatClampNeg (vp_nar .boolean z2))) ls H locs hl hP hD hS h
      · have h := h.2 c7
        refine lv_iconst (v := (1 : Int32)) hx hb d_Md_findMakers_38 (by decide) ?_
        refine lv_goto (tgt := 43) hx hb d_Md_findMakers_39 (by decide) ?_
        refine lv_iadd hx hb d_Md_findMakers_43 ?_
        refine lv_istore_n (lv' := [(2, .int (x2 + (1 : Int32))), (0, .ref h0), (1, .int x1), (3, .int x3)]) hx hb d_Md_findMakers_44 rfl hl (by decide) rfl (fun ls hl => ?_)
        refine lv_iinc (v := (x3 + (1 : Int32))) (lv' := [(3, .int (x3 + (1 : Int32))), (2, .int (x2 + (1 : Int32))), (0, .ref h0), (1, .int x1)]) hx hb d_Md_findMakers_45 hl (k := 3) rfl rfl (by decide) rfl (fun ls hl => ?_)
        refine lv_goto (tgt := 8) hx hb d_Md_findMakers_48 (by decide) ?_
        have hl := lv_sub (l' := [(0, .ref h0), (1, .int x1), (2, .int (x2 + (1 : Int32))), (3, .int (x3 + (1 : Int32)))]) hl [2, 3, 1, 0] rfl
        have hP : va_P G.1 CL (cw_Md G h0 q0 (sA u3 42 (upd (gA u3 42) x3.toNatClampNeg (vp_nar .boolean z2)))) H := hP
        have hD : va_D A (cw_Md G h0 q0 (sA u3 42 (upd (gA u3 42) x3.toNatClampNeg (vp_nar .boolean z2)))) := hD
        exact ih x1 (x2 + (1 : Int32)) (x3 + (1 : Int32)) (sA u3 42 (upd (gA u3 42) x3.toNatClampNeg (vp_nar .boolean z2))) ls H locs hl hP hD hS h
set_option maxHeartbeats 4000000 in
set_option maxRecDepth 100000 in
theorem c_Md_findMakers {l : Launch} {G : Gl} {h0 : Nat} {q0 : Nat → Nat} {a0 : Int32} {o0 : Ob} {Q : Int32 → Ob → Prop} (sz : Nat) (h : f_Md_findMakers a0 o0 Q) : Met l y_Md_findMakers w_Md_findMakers rm_Md_findMakers (PcW G [.ref h0, .int a0] sz (cw_Md G h0 q0 o0)) (va_Qi (fun (r : Int32) (u : Ob) => Q r u) (fun (u : Ob) t => BW G (va_A (cw_Md G h0 q0 o0) sz) (cw_Md G h0 q0 u) t) (va_A (cw_Md G h0 q0 o0) sz)) 0 0 (va_A (cw_Md G h0 q0 o0) sz) := by
  refine Met.ofW (cc := b_Md_findMakers) (maxL := 4) (ret := (some .int)) (by decide +kernel) rfl ?_
  intro p e s m args below meth c s₁ B hml hv
  obtain ⟨rfl, hsz, hP, hK, hD0, hE⟩ := hv
  have hx := B.exec
  have hb := B.bytes
  have hr := B.returns
  have hts0 := atoms_spec (ws := w_Md_findMakers) B.pre
  have hts : ∀ w ∈ gw_tbl, w.before ([.ref h0, .int a0]).toArray s = true := fun w hw => hts0 w (List.mem_cons_of_mem _ hw)
  have hown : s.vm.findClass R_Md = some m.cls := findClass_of_methodNamed B.named
  have hlocks := B.notSynchronized
  subst hsz
  have hD := hD0.self (sz := s.heap.size)
  generalize hAe : va_A (cw_Md G h0 q0 o0) s.heap.size = A at hD hE ⊢
  have hA : ∀ q : Nat, s.heap.size ≤ q → A q := fun q h => by rw [← hAe]; exact Or.inr h
  have hS : va_S A s.heap s.heap [] := va_S.rf
  have C : Cx p s m ([.ref h0, .int a0]).toArray meth c R_Md b_Md_findMakers 4 (some .int) G A := ⟨hx, hb, hml, hown, hr, hts, hK, hA, hlocks, hE⟩
  have hl := lv_entry ([.ref h0, .int a0]) (n := 4) (Nat.le_of_ble_eq_true rfl)
  rw [lg_entry_eq]
  generalize (lg_sl ([.ref h0, .int a0]) ++ List.replicate (4 - (lg_sl ([.ref h0, .int a0])).length) Slot.unset).toArray = ls at hl ⊢
  have hl : lv_has ls 4 [(0, .ref h0), (1, .int a0)] := hl
  have hD : va_D A [(h0, .inr (11, [.int (gI o0 0), .ref (q0 1), .ref (q0 2), .ref (q0 3), .ref (q0 4), .ref (q0 5), .ref (q0 6), .int (gI o0 7), .int (gI o0 8), .int (gI o0 9), .int (gI o0 10), .int (gI o0 11), .int (gI o0 12), .int (gI o0 13), .int (gI o0 14), .long (gL o0 15), .int (gI o0 16), .int (gI o0 17), .int (gI o0 18), .int (gI o0 19), .int (gI o0 20), .int (gI o0 21), .int (gI o0 22), .int (gI o0 23), .int (gI o0 24), .int (gI o0 25), .int (gI o0 26), .int (gI o0 27), .ref (q0 28), .long (gL o0 29), .int (gI o0 30), .ref (q0 31), .ref (q0 32), .ref (q0 33), .int (gI o0 34), .int (gI o0 35), .int (gI o0 36), .int (gI o0 37), .ref (q0 38), .ref (q0 39), .int (gI o0 40), .ref (q0 41), .ref (q0 42), .ref (q0 43), .ref (q0 44)])), kI G (q0 1) 6100 (gA o0 1), kI G (q0 2) 6100 (gA o0 2), kJ G (q0 3) 2016 (gB o0 3), kJ G (q0 4) 2016 (gB o0 4), kI G (q0 5) 300 (gA o0 5), kI G (q0 6) 400 (gA o0 6), kJ G (q0 28) 10 (gB o0 28), kI G (q0 31) 969 (gA o0 31), kI G (q0 32) 969 (gA o0 32), kI G (q0 33) 969 (gA o0 33), kI G (q0 38) 5 (gA o0 38), kI G (q0 39) 5120 (gA o0 39), kI G (q0 41) 5 (gA o0 41), kZ G (q0 42) 1024 (gA o0 42), kI G (q0 43) 8192 (gA o0 43), kI G (q0 44) 8192 (gA o0 44)] := hD
  unfold f_Md_findMakers at h
  suffices key : ∀ (H : Heap) (locs : List Loc), va_P G.1 CL [(h0, .inr (11, [.int (gI o0 0), .ref (q0 1), .ref (q0 2), .ref (q0 3), .ref (q0 4), .ref (q0 5), .ref (q0 6), .int (gI o0 7), .int (gI o0 8), .int (gI o0 9), .int (gI o0 10), .int (gI o0 11), .int (gI o0 12), .int (gI o0 13), .int (gI o0 14), .long (gL o0 15), .int (gI o0 16), .int (gI o0 17), .int (gI o0 18), .int (gI o0 19), .int (gI o0 20), .int (gI o0 21), .int (gI o0 22), .int (gI o0 23), .int (gI o0 24), .int (gI o0 25), .int (gI o0 26), .int (gI o0 27), .ref (q0 28), .long (gL o0 29), .int (gI o0 30), .ref (q0 31), .ref (q0 32), .ref (q0 33), .int (gI o0 34), .int (gI o0 35), .int (gI o0 36), .int (gI o0 37), .ref (q0 38), .ref (q0 39), .int (gI o0 40), .ref (q0 41), .ref (q0 42), .ref (q0 43), .ref (q0 44)])), kI G (q0 1) 6100 (gA o0 1), kI G (q0 2) 6100 (gA o0 2), kJ G (q0 3) 2016 (gB o0 3), kJ G (q0 4) 2016 (gB o0 4), kI G (q0 5) 300 (gA o0 5), kI G (q0 6) 400 (gA o0 6), kJ G (q0 28) 10 (gB o0 28), kI G (q0 31) 969 (gA o0 31), kI G (q0 32) 969 (gA o0 32), kI G (q0 33) 969 (gA o0 33), kI G (q0 38) 5 (gA o0 38), kI G (q0 39) 5120 (gA o0 39), kI G (q0 41) 5 (gA o0 41), kZ G (q0 42) 1024 (gA o0 42), kI G (q0 43) 8192 (gA o0 43), kI G (q0 44) 8192 (gA o0 44)] H → va_S A s.heap H locs → W p l e rm_Md_findMakers s m ([.ref h0, .int a0]).toArray below meth c H locs 0 0 (MQ below (va_Qi (fun (r : Int32) (u : Ob) => Q r u) (fun (u : Ob) t => BW G A (cw_Md G h0 q0 u) t) A) ([.ref h0, .int a0]).toArray s 0 0 A) (F0 m 0 ls []) from key s.heap [] hP hS
  intro H locs hP hS
  refine lv_aload_n hx hb d_Md_findMakers_0 rfl (lv_at hl 0 rfl) ?_
  refine cl_Vv (b := b_Md_findMakers) (As := []) (rest := []) (ws := [(h0, .inr (11, [.int (gI o0 0), .ref (q0 1), .ref (q0 2), .ref (q0 3), .ref (q0 4), .ref (q0 5), .ref (q0 6), .int (gI o0 7), .int (gI o0 8), .int (gI o0 9), .int (gI o0 10), .int (gI o0 11), .int (gI o0 12), .int (gI o0 13), .int (gI o0 14), .long (gL o0 15), .int (gI o0 16), .int (gI o0 17), .int (gI o0 18), .int (gI o0 19), .int (gI o0 20), .int (gI o0 21), .int (gI o0 22), .int (gI o0 23), .int (gI o0 24), .int (gI o0 25), .int (gI o0 26), .int (gI o0 27), .ref (q0 28), .long (gL o0 29), .int (gI o0 30), .ref (q0 31), .ref (q0 32), .ref (q0 33), .int (gI o0 34), .int (gI o0 35), .int (gI o0 36), .int (gI o0 37), .ref (q0 38), .ref (q0 39), .int (gI o0 40), .ref (q0 41), .ref (q0 42), .ref (q0 43), .ref (q0 44)])), kI G (q0 1) 6100 (gA o0 1), kI G (q0 2) 6100 (gA o0 2), kJ G (q0 3) 2016 (gB o0 3), kJ G (q0 4) 2016 (gB o0 4), kI G (q0 5) 300 (gA o0 5), kI G (q0 6) 400 (gA o0 6), kJ G (q0 28) 10 (gB o0 28), kI G (q0 31) 969 (gA o0 31), kI G (q0 32) 969 (gA o0 32), kI G (q0 33) 969 (gA o0 33), kI G (q0 38) 5 (gA o0 38), kI G (q0 39) 5120 (gA o0 39), kI G (q0 41) 5 (gA o0 41), kZ G (q0 42) 1024 (gA o0 42), kI G (q0 43) 8192 (gA o0 43), kI G (q0 44) 8192 (gA o0 44)]) (wr := []) (w2 := fun (u : Ob) => [(h0, .inr (11, [.int (gI u 0), .ref (q0 1), .ref (q0 2), .ref (q0 3), .ref (q0 4), .ref (q0 5), .ref (q0 6), .int (gI u 7), .int (gI u 8), .int (gI u 9), .int (gI u 10), .int (gI u 11), .int (gI u 12), .int (gI u 13), .int (gI u 14), .long (gL u 15), .int (gI u 16), .int (gI u 17), .int (gI u 18), .int (gI u 19), .int (gI u 20), .int (gI u 21), .int (gI u 22), .int (gI u 23), .int (gI u 24), .int (gI u 25), .int (gI u 26), .int (gI u 27), .ref (q0 28), .long (gL u 29), .int (gI u 30), .ref (q0 31), .ref (q0 32), .ref (q0 33), .int (gI u 34), .int (gI u 35), .int (gI u 36), .int (gI u 37), .ref (q0 38), .ref (q0 39), .int (gI u 40), .ref (q0 41), .ref (q0 42), .ref (q0 43), .ref (q0 44)])), kI G (q0 1) 6100 (gA u 1), kI G (q0 2) 6100 (gA u 2), kJ G (q0 3) 2016 (gB u 3), kJ G (q0 4) 2016 (gB u 4), kI G (q0 5) 300 (gA u 5), kI G (q0 6) 400 (gA u 6), kJ G (q0 28) 10 (gB u 28), kI G (q0 31) 969 (gA u 31), kI G (q0 32) 969 (gA u 32), kI G (q0 33) 969 (gA u 33), kI G (q0 38) 5 (gA u 38), kI G (q0 39) 5120 (gA u 39), kI G (q0 41) 5 (gA u 41), kZ G (q0 42) 1024 (gA u 42), kI G (q0 43) 8192 (gA u 43), kI G (q0 44) 8192 (gA u 44)]) C (c_Md_findShapes (h0 := h0) (q0 := q0) H.size h) wv_Md_276 ⟨Nat.le_of_ble_eq_true rfl, Nat.le_of_ble_eq_true rfl⟩ hP hD hS 0 rfl rfl [0, 1, 2, 3, 4, 5, 6, 7, 8, 9, 10, 11, 12, 13, 14, 15, 16] [] rfl rfl (by decide) (by decide) (by decide) [0, 1, 2, 3, 4, 5, 6, 7, 8, 9, 10, 11, 12, 13, 14, 15, 16] (by decide) (fun u => rfl) rfl hl.1 rfl (lv_room (Nat.le_of_ble_eq_true rfl)) d_Md_findMakers_1 ⟨Nat.le_of_ble_eq_true rfl, Nat.le_of_ble_eq_true rfl⟩ rfl rfl (fun u H locs h hP hD hS => ?_)
  generalize u = u8 at h hP hD
  have hP : va_P G.1 CL [(h0, .inr (11, [.int (gI u8 0), .ref (q0 1), .ref (q0 2), .ref (q0 3), .ref (q0 4), .ref (q0 5), .ref (q0 6), .int (gI u8 7), .int (gI u8 8), .int (gI u8 9), .int (gI u8 10), .int (gI u8 11), .int (gI u8 12), .int (gI u8 13), .int (gI u8 14), .long (gL u8 15), .int (gI u8 16), .int (gI u8 17), .int (gI u8 18), .int (gI u8 19), .int (gI u8 20), .int (gI u8 21), .int (gI u8 22), .int (gI u8 23), .int (gI u8 24), .int (gI u8 25), .int (gI u8 26), .int (gI u8 27), .ref (q0 28), .long (gL u8 29), .int (gI u8 30), .ref (q0 31), .ref (q0 32), .ref (q0 33), .int (gI u8 34), .int (gI u8 35), .int (gI u8 36), .int (gI u8 37), .ref (q0 38), .ref (q0 39), .int (gI u8 40), .ref (q0 41), .ref (q0 42), .ref (q0 43), .ref (q0 44)])), kI G (q0 1) 6100 (gA u8 1), kI G (q0 2) 6100 (gA u8 2), kJ G (q0 3) 2016 (gB u8 3), kJ G (q0 4) 2016 (gB u8 4), kI G (q0 5) 300 (gA u8 5), kI G (q0 6) 400 (gA u8 6), kJ G (q0 28) 10 (gB u8 28), kI G (q0 31) 969 (gA u8 31), kI G (q0 32) 969 (gA u8 32), kI G (q0 33) 969 (gA u8 33), kI G (q0 38) 5 (gA u8 38), kI G (q0 39) 5120 (gA u8 39), kI G (q0 41) 5 (gA u8 41), kZ G (q0 42) 1024 (gA u8 42), kI G (q0 43) 8192 (gA u8 43), kI G (q0 44) 8192 (gA u8 44)] H := hP
  have hD : va_D A [(h0, .inr (11, [.int (gI u8 0), .ref (q0 1), .ref (q0 2), .ref (q0 3), .ref (q0 4), .ref (q0 5), .ref (q0 6), .int (gI u8 7), .int (gI u8 8), .int (gI u8 9), .int (gI u8 10), .int (gI u8 11), .int (gI u8 12), .int (gI u8 13), .int (gI u8 14), .long (gL u8 15), .int (gI u8 16), .int (gI u8 17), .int (gI u8 18), .int (gI u8 19), .int (gI u8 20), .int (gI u8 21), .int (gI u8 22), .int (gI u8 23), .int (gI u8 24), .int (gI u8 25), .int (gI u8 26), .int (gI u8 27), .ref (q0 28), .long (gL u8 29), .int (gI u8 30), .ref (q0 31), .ref (q0 32), .ref (q0 33), .int (gI u8 34), .int (gI u8 35), .int (gI u8 36), .int (gI u8 37), .ref (q0 38), .ref (q0 39), .int (gI u8 40), .ref (q0 41), .ref (q0 42), .ref (q0 43), .ref (q0 44)])), kI G (q0 1) 6100 (gA u8 1), kI G (q0 2) 6100 (gA u8 2), kJ G (q0 3) 2016 (gB u8 3), kJ G (q0 4) 2016 (gB u8 4), kI G (q0 5) 300 (gA u8 5), kI G (q0 6) 400 (gA u8 6), kJ G (q0 28) 10 (gB u8 28), kI G (q0 31) 969 (gA u8 31), kI G (q0 32) 969 (gA u8 32), kI G (q0 33) 969 (gA u8 33), kI G (q0 38) 5 (gA u8 38), kI G (q0 39) 5120 (gA u8 39), kI G (q0 41) 5 (gA u8 41), kZ G (q0 42) 1024 (gA u8 42), kI G (q0 43) 8192 (gA u8 43), kI G (q0 44) 8192 (gA u8 44)] := hD
  refine lv_iconst (v := (0 : Int32)) hx hb d_Md_findMakers_4 (by decide) ?_
  refine lv_istore_n (lv' := [(2, .int (0 : Int32)), (0, .ref h0), (1, .int a0)]) hx hb d_Md_findMakers_5 rfl hl (by decide) rfl (fun ls hl => ?_)
  refine lv_iconst (v := (0 : Int32)) hx hb d_Md_findMakers_6 (by decide) ?_
  refine lv_istore_n (lv' := [(3, .int (0 : Int32)), (2, .int (0 : Int32)), (0, .ref h0), (1, .int a0)]) hx hb d_Md_findMakers_7 rfl hl (by decide) rfl (fun ls hl => ?_)
  have hl := lv_sub (l' := [(0, .ref h0), (1, .int a0), (2, .int (0 : Int32)), (3, .int (0 : Int32))]) hl [2, 3, 1, 0] rfl
  have hP : va_P G.1 CL (cw_Md G h0 q0 u8) H := hP
  have hD : va_D A (cw_Md G h0 q0 u8) := hD
  obtain ⟨w, h⟩ := h
  exact t_Md_findMakers_8 Q C w a0 (0 : Int32) (0 : Int32) u8 ls _ locs hl hP hD hS h
abbrev b_Md_makes : ByteArray := prog_14_method_59_code
def y_Md_makes : MethodName := ⟨R_Md, "makes", "(I)I"⟩
abbrev w_Md_makes : List Cond := Cond.code y_Md_makes b_Md_makes 2 (some .int) :: gw_tbl
theorem d_Md_makes_0 : decode b_Md_makes 0 = .ok (.iload_n 1, 1) := by decide +kernel
theorem d_Md_makes_1 : decode b_Md_makes 1 = .ok (.iconst 0, 1) := by decide +kernel
theorem d_Md_makes_2 : decode b_Md_makes 2 = .ok (.bipush 7, 2) := by decide +kernel
theorem d_Md_makes_4 : decode b_Md_makes 4 = .ok (.invokestatic 76, 3) := by decide +kernel
theorem d_Md_makes_7 : decode b_Md_makes 7 = .ok (.ifCond .eq 11, 3) := by decide +kernel
theorem d_Md_makes_10 : decode b_Md_makes 10 = .ok (.aload_n 0, 1) := by decide +kernel
theorem d_Md_makes_11 : decode b_Md_makes 11 = .ok (.iload_n 1, 1) := by decide +kernel
theorem d_Md_makes_12 : decode b_Md_makes 12 = .ok (.invokevirtual 286, 3) := by decide +kernel
theorem d_Md_makes_15 : decode b_Md_makes 15 = .ok (.goto 4, 3) := by decide +kernel
theorem d_Md_makes_18 : decode b_Md_makes 18 = .ok (.iconst (-1), 1) := by decide +kernel
theorem d_Md_makes_19 : decode b_Md_makes 19 = .ok (.ireturn, 1) := by decide +kernel
theorem wv_Md_286 : wV R_Md 286 y_Md_findMakers b_Md_findMakers 4 (some .int) 1 := ⟨⟨gw_tb (List.mem_of_getElem? (i := 1324) (by decide +kernel)) rfl, gw_tb (List.mem_of_getElem? (i := 13) (by decide +kernel)) rfl, gw_tb (List.mem_of_getElem? (i := 1327) (by decide +kernel)) rfl, by decide, by decide, by decide +kernel⟩, gw_tb (List.mem_of_getElem? (i := 1326) (by decide +kernel)) rfl, gw_of (List.mem_append_left _ (List.mem_of_getElem? (i := 57) (by decide +kernel))) rfl⟩
def f_Md_makes (a0 : Int32) (o0 : Ob) (Q : Int32 → Ob → Prop) : Prop := f_Md_isIn a0 (0 : Int32) (7 : Int32) (fun z1 => (z1 = 0 → (Q (-1 : Int32) o0)) ∧ (¬ z1 = 0 → (f_Md_findMakers a0 o0 (fun z3 u4 => Q z3 u4))))
abbrev rm_Md_makes : Room := { frames := 4, cells := 0, slots := 0, locals := 102 }
set_option maxHeartbeats 4000000 in
set_option maxRecDepth 100000 in
theorem c_Md_makes {l : Launch} {G : Gl} {h0 : Nat} {q0 : Nat → Nat} {a0 : Int32} {o0 : Ob} {Q : Int32 → Ob → Prop} (sz : Nat) (h : f_Md_makes a0 o0 Q) : Met l y_Md_makes w_Md_makes rm_Md_makes (PcW G [.ref h0, .int a0] sz (cw_Md G h0 q0 o0)) (va_Qi (fun (r : Int32) (u : Ob) => Q r u) (fun (u : Ob) t => BW G (va_A (cw_Md G h0 q0 o0) sz) (cw_Md G h0 q0 u) t) (va_A (cw_Md G h0 q0 o0) sz)) 0 0 (va_A (cw_Md G h0 q0 o0) sz) := by
  refine Met.ofW (cc := b_Md_makes) (maxL := 2) (ret := (some .int)) (by decide +kernel) rfl ?_
  intro p e s m args below meth c s₁ B hml hv
  obtain ⟨rfl, hsz, hP, hK, hD0, hE⟩ := hv
  have hx := B.exec
  have hb := B.bytes
  have hr := B.returns
  have hts0 := atoms_spec (ws := w_Md_makes) B.pre
  have hts : ∀ w ∈ gw_tbl, w.before ([.ref h0, .int a0]).toArray s = true := fun w hw => hts0 w (List.mem_cons_of_mem _ hw)
  have hown : s.vm.findClass R_Md = some m.cls := findClass_of_methodNamed B.named
  have hlocks := B.notSynchronized
  subst hsz
  have hD := hD0.self (sz := s.heap.size)
  generalize hAe : va_A (cw_Md G h0 q0 o0) s.heap.size = A at hD hE ⊢
  have hA : ∀ q : Nat, s.heap.size ≤ q → A q := fun q h => by rw [← hAe]; exact Or.inr h
  have hS : va_S A s.heap s.heap [] := va_S.rf
  have C : Cx p s m ([.ref h0, .int a0]).toArray meth c R_Md b_Md_makes 2 (some .int) G A := ⟨hx, hb, hml, hown, hr, hts, hK, hA, hlocks, hE⟩
  have hl := lv_entry ([.ref h0, .int a0]) (n := 2) (Nat.le_of_ble_eq_true rfl)
  rw [lg_entry_eq]
  generalize (lg_sl ([.ref h0, .int a0]) ++ List.replicate (2 - (lg_sl ([.ref h0, .int a0])).length) Slot.unset).toArray = ls at hl ⊢
  have hl : lv_has ls 2 [(0, .ref h0), (1, .int a0)] := hl
  have hD : va_D A [(h0, .inr (11, [.int (gI o0 0), .ref (q0 1), .ref (q0 2), .ref (q0 3), .ref (q0 4), .ref (q0 5), .ref (q0 6), .int (gI o0 7), .int (gI o0 8), .int (gI o0 9), .int (gI o0 10), .int (gI o0 11), .int (gI o0 12), .int (gI o0 13), .int (gI o0 14), .long (gL o0 15), .int (gI o0 16), .int (gI o0 17), .int (gI o0 18), .int (gI o0 19), .int (gI o0 20), .int (gI o0 21), .int (gI o0 22), .int (gI o0 23), .int (gI o0 24), .int (gI o0 25), .int (gI o0 26), .int (gI o0 27), .ref (q0 28), .long (gL o0 29), .int (gI o0 30), .ref (q0 31), .ref (q0 32), .ref (q0 33), .int (gI o0 34), .int (gI o0 35), .int (gI o0 36), .int (gI o0 37), .ref (q0 38), .ref (q0 39), .int (gI o0 40), .ref (q0 41), .ref (q0 42), .ref (q0 43), .ref (q0 44)])), kI G (q0 1) 6100 (gA o0 1), kI G (q0 2) 6100 (gA o0 2), kJ G (q0 3) 2016 (gB o0 3), kJ G (q0 4) 2016 (gB o0 4), kI G (q0 5) 300 (gA o0 5), kI G (q0 6) 400 (gA o0 6), kJ G (q0 28) 10 (gB o0 28), kI G (q0 31) 969 (gA o0 31), kI G (q0 32) 969 (gA o0 32), kI G (q0 33) 969 (gA o0 33), kI G (q0 38) 5 (gA o0 38), kI G (q0 39) 5120 (gA o0 39), kI G (q0 41) 5 (gA o0 41), kZ G (q0 42) 1024 (gA o0 42), kI G (q0 43) 8192 (gA o0 43), kI G (q0 44) 8192 (gA o0 44)] := hD
  unfold f_Md_makes at h
  suffices key : ∀ (H : Heap) (locs : List Loc), va_P G.1 CL [(h0, .inr (11, [.int (gI o0 0), .ref (q0 1), .ref (q0 2), .ref (q0 3), .ref (q0 4), .ref (q0 5), .ref (q0 6), .int (gI o0 7), .int (gI o0 8), .int (gI o0 9), .int (gI o0 10), .int (gI o0 11), .int (gI o0 12), .int (gI o0 13), .int (gI o0 14), .long (gL o0 15), .int (gI o0 16), .int (gI o0 17), .int (gI o0 18), .int (gI o0 19), .int (gI o0 20), .int (gI o0 21), .int (gI o0 22), .int (gI o0 23), .int (gI o0 24), .int (gI o0 25), .int (gI o0 26), .int (gI o0 27), .ref (q0 28), .long (gL o0 29), .int (gI o0 30), .ref (q0 31), .ref (q0 32), .ref (q0 33), .int (gI o0 34), .int (gI o0 35), .int (gI o0 36), .int (gI o0 37), .ref (q0 38), .ref (q0 39), .int (gI o0 40), .ref (q0 41), .ref (q0 42), .ref (q0 43), .ref (q0 44)])), kI G (q0 1) 6100 (gA o0 1), kI G (q0 2) 6100 (gA o0 2), kJ G (q0 3) 2016 (gB o0 3), kJ G (q0 4) 2016 (gB o0 4), kI G (q0 5) 300 (gA o0 5), kI G (q0 6) 400 (gA o0 6), kJ G (q0 28) 10 (gB o0 28), kI G (q0 31) 969 (gA o0 31), kI G (q0 32) 969 (gA o0 32), kI G (q0 33) 969 (gA o0 33), kI G (q0 38) 5 (gA o0 38), kI G (q0 39) 5120 (gA o0 39), kI G (q0 41) 5 (gA o0 41), kZ G (q0 42) 1024 (gA o0 42), kI G (q0 43) 8192 (gA o0 43), kI G (q0 44) 8192 (gA o0 44)] H → va_S A s.heap H locs → W p l e rm_Md_makes s m ([.ref h0, .int a0]).toArray below meth c H locs 0 0 (MQ below (va_Qi (fun (r : Int32) (u : Ob) => Q r u) (fun (u : Ob) t => BW G A (cw_Md G h0 q0 u) t) A) ([.ref h0, .int a0]).toArray s 0 0 A) (F0 m 0 ls []) from key s.heap [] hP hS
  intro H locs hP hS
  refine lv_iload_n hx hb d_Md_makes_0 rfl (lv_at hl 1 rfl) ?_
  refine lv_iconst (v := (0 : Int32)) hx hb d_Md_makes_1 (by decide) ?_
  refine lv_bipush (v := (7 : Int32)) hx hb d_Md_makes_2 (by decide) ?_
  refine cl_Si (b := b_Md_makes) (As := [.int a0, .int (0 : Int32), .int (7 : Int32)]) (rest := []) (ws := [(h0, .inr (11, [.int (gI o0 0), .ref (q0 1), .ref (q0 2), .ref (q0 3), .ref (q0 4), .ref (q0 5), .ref (q0 6), .int (gI o0 7), .int (gI o0 8), .int (gI o0 9), .int (gI o0 10), .int (gI o0 11), .int (gI o0 12), .int (gI o0 13), .int (gI o0 14), .long (gL o0 15), .int (gI o0 16), .int (gI o0 17), .int (gI o0 18), .int (gI o0 19), .int (gI o0 20), .int (gI o0 21), .int (gI o0 22), .int (gI o0 23), .int (gI o0 24), .int (gI o0 25), .int (gI o0 26), .int (gI o0 27), .ref (q0 28), .long (gL o0 29), .int (gI o0 30), .ref (q0 31), .ref (q0 32), .ref (q0 33), .int (gI o0 34), .int (gI o0 35), .int (gI o0 36), .int (gI o0 37), .ref (q0 38), .ref (q0 39), .int (gI o0 40), .ref (q0 41), .ref (q0 42), .ref (q0 43), .ref (q0 44)])), kI G (q0 1) 6100 (gA o0 1), kI G (q0 2) 6100 (gA o0 2), kJ G (q0 3) 2016 (gB o0 3), kJ G (q0 4) 2016 (gB o0 4), kI G (q0 5) 300 (gA o0 5), kI G (q0 6) 400 (gA o0 6), kJ G (q0 28) 10 (gB o0 28), kI G (q0 31) 969 (gA o0 31), kI G (q0 32) 969 (gA o0 32), kI G (q0 33) 969 (gA o0 33), kI G (q0 38) 5 (gA o0 38), kI G (q0 39) 5120 (gA o0 39), kI G (q0 41) 5 (gA o0 41), kZ G (q0 42) 1024 (gA o0 42), kI G (q0 43) 8192 (gA o0 43), kI G (q0 44) 8192 (gA o0 44)]) (wr := [(h0, .inr (11, [.int (gI o0 0), .ref (q0 1), .ref (q0 2), .ref (q0 3), .ref (q0 4), .ref (q0 5), .ref (q0 6), .int (gI o0 7), .int (gI o0 8), .int (gI o0 9), .int (gI o0 10), .int (gI o0 11), .int (gI o0 12), .int (gI o0 13), .int (gI o0 14), .long (gL o0 15), .int (gI o0 16), .int (gI o0 17), .int (gI o0 18), .int (gI o0 19), .int (gI o0 20), .int (gI o0 21), .int (gI o0 22), .int (gI o0 23), .int (gI o0 24), .int (gI o0 25), .int (gI o0 26), .int (gI o0 27), .ref (q0 28), .long (gL o0 29), .int (gI o0 30), .ref (q0 31), .ref (q0 32), .ref (q0 33), .int (gI o0 34), .int (gI o0 35), .int (gI o0 36), .int (gI o0 37), .ref (q0 38), .ref (q0 39), .int (gI o0 40), .ref (q0 41), .ref (q0 42), .ref (q0 43), .ref (q0 44)])), kI G (q0 1) 6100 (gA o0 1), kI G (q0 2) 6100 (gA o0 2), kJ G (q0 3) 2016 (gB o0 3), kJ G (q0 4) 2016 (gB o0 4), kI G (q0 5) 300 (gA o0 5), kI G (q0 6) 400 (gA o0 6), kJ G (q0 28) 10 (gB o0 28), kI G (q0 31) 969 (gA o0 31), kI G (q0 32) 969 (gA o0 32), kI G (q0 33) 969 (gA o0 33), kI G (q0 38) 5 (gA o0 38), kI G (q0 39) 5120 (gA o0 39), kI G (q0 41) 5 (gA o0 41), kZ G (q0 42) 1024 (gA o0 42), kI G (q0 43) 8192 (gA o0 43), kI G (q0 44) 8192 (gA o0 44)]) (w2 := fun (u : Unit) => [(h0, .inr (11, [.int (gI o0 0), .ref (q0 1), .ref (q0 2), .ref (q0 3), .ref (q0 4), .ref (q0 5), .ref (q0 6), .int (gI o0 7), .int (gI o0 8), .int (gI o0 9), .int (gI o0 10), .int (gI o0 11), .int (gI o0 12), .int (gI o0 13), .int (gI o0 14), .long (gL o0 15), .int (gI o0 16), .int (gI o0 17), .int (gI o0 18), .int (gI o0 19), .int (gI o0 20), .int (gI o0 21), .int (gI o0 22), .int (gI o0 23), .int (gI o0 24), .int (gI o0 25), .int (gI o0 26), .int (gI o0 27), .ref (q0 28), .long (gL o0 29), .int (gI o0 30), .ref (q0 31), .ref (q0 32), .ref (q0 33), .int (gI o0 34), .int (gI o0 35), .int (gI o0 36), .int (gI o0 37), .ref (q0 38), .ref (q0 39), .int (gI o0 40), .ref (q0 41), .ref (q0 42), .ref (q0 43), .ref (q0 44)])), kI G (q0 1) 6100 (gA o0 1), kI G (q0 2) 6100 (gA o0 2), kJ G (q0 3) 2016 (gB o0 3), kJ G (q0 4) 2016 (gB o0 4), kI G (q0 5) 300 (gA o0 5), kI G (q0 6) 400 (gA o0 6), kJ G (q0 28) 10 (gB o0 28), kI G (q0 31) 969 (gA o0 31), kI G (q0 32) 969 (gA o0 32), kI G (q0 33) 969 (gA o0 33), kI G (q0 38) 5 (gA o0 38), kI G (q0 39) 5120 (gA o0 39), kI G (q0 41) 5 (gA o0 41), kZ G (q0 42) 1024 (gA o0 42), kI G (q0 43) 8192 (gA o0 43), kI G (q0 44) 8192 (gA o0 44)]) C (c_Md_isIn H.size h) ws_Md_76 ⟨Nat.le_of_ble_eq_true rfl, Nat.le_of_ble_eq_true rfl⟩ hP hD hS [] [0, 1, 2, 3, 4, 5, 6, 7, 8, 9, 10, 11, 12, 13, 14, 15, 16] rfl rfl (by decide) (by decide) (by decide) [0, 1, 2, 3, 4, 5, 6, 7, 8, 9, 10, 11, 12, 13, 14, 15, 16] (by decide) (fun u => rfl) rfl hl.1 rfl (lv_room (Nat.le_of_ble_eq_true rfl)) d_Md_makes_4 ⟨Nat.le_of_ble_eq_true rfl, Nat.le_of_ble_eq_true rfl⟩ rfl rfl (fun z1 u H locs h hP hD hS => ?_)
  have hP : va_P G.1 CL [(h0, .inr (11, [.int (gI o0 0), .ref (q0 1), .ref (q0 2), .ref (q0 3), .ref (q0 4), .ref (q0 5), .ref (q0 6), .int (gI o0 7), .int (gI o0 8), .int (gI o0 9), .int (gI o0 10), .int (gI o0 11), .int (gI o0 12), .int (gI o0 13), .int (gI o0 14), .long (gL o0 15), .int (gI o0 16), .int (gI o0 17), .int (gI o0 18), .int (gI o0 19), .int (gI o0 20), .int (gI o0 21), .int (gI o0 22), .int (gI o0 23), .int (gI o0 24), .int (gI o0 25), .int (gI o0 26), .int (gI o0 27), .ref (q0 28), .long (gL o0 29), .int (gI o0 30), .ref (q0 31), .ref (q0 32), .ref (q0 33), .int (gI o0 34), .int (gI o0 35), .int (gI o0 36), .int (gI o0 37), .ref (q0 38), .ref (q0 39), .int (gI o0 40), .ref (q0 41), .ref (q0 42), .ref (q0 43), .ref (q0 44)])), kI G (q0 1) 6100 (gA o0 1), kI G (q0 2) 6100 (gA o0 2), kJ G (q0 3) 2016 (gB o0 3), kJ G (q0 4) 2016 (gB o0 4), kI G (q0 5) 300 (gA o0 5), kI G (q0 6) 400 (gA o0 6), kJ G (q0 28) 10 (gB o0 28), kI G (q0 31) 969 (gA o0 31), kI G (q0 32) 969 (gA o0 32), kI G (q0 33) 969 (gA o0 33), kI G (q0 38) 5 (gA o0 38), kI G (q0 39) 5120 (gA o0 39), kI G (q0 41) 5 (gA o0 41), kZ G (q0 42) 1024 (gA o0 42), kI G (q0 43) 8192 (gA o0 43), kI G (q0 44) 8192 (gA o0 44)] H := hP
  have hD : va_D A [(h0, .inr (11, [.int (gI o0 0), .ref (q0 1), .ref (q0 2), .ref (q0 3), .ref (q0 4), .ref (q0 5), .ref (q0 6), .int (gI o0 7), .int (gI o0 8), .int (gI o0 9), .int (gI o0 10), .int (gI o0 11), .int (gI o0 12), .int (gI o0 13), .int (gI o0 14), .long (gL o0 15), .int (gI o0 16), .int (gI o0 17), .int (gI o0 18), .int (gI o0 19), .int (gI o0 20), .int (gI o0 21), .int (gI o0 22), .int (gI o0 23), .int (gI o0 24), .int (gI o0 25), .int (gI o0 26), .int (gI o0 27), .ref (q0 28), .long (gL o0 29), .int (gI o0 30), .ref (q0 31), .ref (q0 32), .ref (q0 33), .int (gI o0 34), .int (gI o0 35), .int (gI o0 36), .int (gI o0 37), .ref (q0 38), .ref (q0 39), .int (gI o0 40), .ref (q0 41), .ref (q0 42), .ref (q0 43), .ref (q0 44)])), kI G (q0 1) 6100 (gA o0 1), kI G (q0 2) 6100 (gA o0 2), kJ G (q0 3) 2016 (gB o0 3), kJ G (q0 4) 2016 (gB o0 4), kI G (q0 5) 300 (gA o0 5), kI G (q0 6) 400 (gA o0 6), kJ G (q0 28) 10 (gB o0 28), kI G (q0 31) 969 (gA o0 31), kI G (q0 32) 969 (gA o0 32), kI G (q0 33) 969 (gA o0 33), kI G (q0 38) 5 (gA o0 38), kI G (q0 39) 5120 (gA o0 39), kI G (q0 41) 5 (gA o0 41), kZ G (q0 42) 1024 (gA o0 42), kI G (q0 43) 8192 (gA o0 43), kI G (q0 44) 8192 (gA o0 44)] := hD
  refine lv_if_eq (tgt := 18) hx hb d_Md_makes_7 (by decide) (fun c2 => ?_) (fun c2 => ?_)
  · have h := h.1 c2
    refine lv_iconst (v := (-1 : Int32)) hx hb d_Md_makes_18 (by decide) ?_
    have hP : va_P G.1 CL (cw_Md G h0 q0 o0) H := hP
    have hD : va_D A (cw_Md G h0 q0 o0) := hD
    exact W.iret (v := (-1 : Int32)) hx hb hr (fun t ht hW => ⟨⟨(-1 : Int32), o0, rfl, h, by rw [ht]; exact hP, va_K.moved hW.alike hK, hD⟩, hS.F ht⟩) hS.2.2 d_Md_makes_19
  · have h := h.2 c2
    refine lv_aload_n hx hb d_Md_makes_10 rfl (lv_at hl 0 rfl) ?_
    refine lv_iload_n hx hb d_Md_makes_11 rfl (lv_at hl 1 rfl) ?_
    refine cl_Vi (b := b_Md_makes) (As := [.int a0]) (rest := []) (ws := [(h0, .inr (11, [.int (gI o0 0), .ref (q0 1), .ref (q0 2), .ref (q0 3), .ref (q0 4), .ref (q0 5), .ref (q0 6), .int (gI o0 7), .int (gI o0 8), .int (gI o0 9), .int (gI o0 10), .int (gI o0 11), .int (gI o0 12), .int (gI o0 13), .int (gI o0 14), .long (gL o0 15), .int (gI o0 16), .int (gI o0 17), .int (gI o0 18), .int (gI o0 19), .int (gI o0 20), .int (gI o0 21), .int (gI o0 22), .int (gI o0 23), .int (gI o0 24), .int (gI o0 25), .int (gI o0 26), .int (gI o0 27), .ref (q0 28), .long (gL o0 29), .int (gI o0 30), .ref (q0 31), .ref (q0 32), .ref (q0 33), .int (gI o0 34), .int (gI o0 35), .int (gI o0 36), .int (gI o0 37), .ref (q0 38), .ref (q0 39), .int (gI o0 40), .ref (q0 41), .ref (q0 42), .ref (q0 43), .ref (q0 44)])), kI G (q0 1) 6100 (gA o0 1), kI G (q0 2) 6100 (gA o0 2), kJ G (q0 3) 2016 (gB o0 3), kJ G (q0 4) 2016 (gB o0 4), kI G (q0 5) 300 (gA o0 5), kI G (q0 6) 400 (gA o0 6), kJ G (q0 28) 10 (gB o0 28), kI G (q0 31) 969 (gA o0 31), kI G (q0 32) 969 (gA o0 32), kI G (q0 33) 969 (gA o0 33), kI G (q0 38) 5 (gA o0 38), kI G (q0 39) 5120 (gA o0 39), kI G (q0 41) 5 (gA o0 41), kZ G (q0 42) 1024 (gA o0 42), kI G (q0 43) 8192 (gA o0 43), kI G (q0 44) 8192 (gA o0 44)]) (wr := []) (w2 := fun (u : Ob) => [(h0, .inr (11, [.int (gI u 0), .ref (q0 1), .ref (q0 2), .ref (q0 3), .ref (q0 4), .ref (q0 5), .ref (q0 6), .int (gI u 7), .int (gI u 8), .int (gI u 9), .int (gI u 10), .int (gI u 11), .int (gI u 12), .int (gI u 13), .int (gI u 14), .long (gL u 15), .int (gI u 16), .int (gI u 17), .int (gI u 18), .int (gI u 19), .int (gI u 20), .int (gI u 21), .int (gI u 22), .int (gI u 23), .int (gI u 24), .int (gI u 25), .int (gI u 26), .int (gI u 27), .ref (q0 28), .long (gL u 29), .int (gI u 30), .ref (q0 31), .ref (q0 32), .ref (q0 33), .int (gI u 34), .int (gI u 35), .int (gI u 36), .int (gI u 37), .ref (q0 38), .ref (q0 39), .int (gI u 40), .ref (q0 41), .ref (q0 42), .ref (q0 43), .ref (q0 44)])), kI G (q0 1) 6100 (gA u 1), kI G (q0 2) 6100 (gA u 2), kJ G (q0 3) 2016 (gB u 3), kJ G (q0 4) 2016 (gB u 4), kI G (q0 5) 300 (gA u 5), kI G (q0 6) 400 (gA u 6), kJ G (q0 28) 10 (gB u 28), kI G (q0 31) 969 (gA u 31), kI G (q0 32) 969 (gA u 32), kI G (q0 33) 969 (gA u 33), kI G (q0 38) 5 (gA u 38), kI G (q0 39) 5120 (gA u 39), kI G (q0 41) 5 (gA u 41), kZ G (q0 42) 1024 (gA u 42), kI G (q0 43) 8192 (gA u 43), kI G (q0 44) 8192 (gA u 44)]) C (c_Md_findMakers (h0 := h0) (q0 := q0) H.size h) wv_Md_286 ⟨Nat.le_of_ble_eq_true rfl, Nat.le_of_ble_eq_true rfl⟩ hP hD hS 0 rfl rfl [0, 1, 2, 3, 4, 5, 6, 7, 8, 9, 10, 11, 12, 13, 14, 15, 16] [] rfl rfl (by decide) (by decide) (by decide) [0, 1, 2, 3, 4, 5, 6, 7, 8, 9, 10, 11, 12, 13, 14, 15, 16] (by decide) (fun u => rfl) rfl hl.1 rfl (lv_room (Nat.le_of_ble_eq_true rfl)) d_Md_makes_12 ⟨Nat.le_of_ble_eq_true rfl, Nat.le_of_ble_eq_true rfl⟩ rfl rfl (fun z3 u H locs h hP hD hS => ?_)
    generalize u = u4 at h hP hD
    have hP : va_P G.1 CL [(h0, .inr (11, [.int (gI u4 0), .ref (q0 1), .ref (q0 2), .ref (q0 3), .ref (q0 4), .ref (q0 5), .ref (q0 6), .int (gI u4 7), .int (gI u4 8), .int (gI u4 9), .int (gI u4 10), .int (gI u4 11), .int (gI u4 12), .int (gI u4 13), .int (gI u4 14), .long (gL u4 15), .int (gI u4 16), .int (gI u4 17), .int (gI u4 18), .int (gI u4 19), .int (gI u4 20), .int (gI u4 21), .int (gI u4 22), .int (gI u4 23), .int (gI u4 24), .int (gI u4 25), .int (gI u4 26), .int (gI u4 27), .ref (q0 28), .long (gL u4 29), .int (gI u4 30), .ref (q0 31), .ref (q0 32), .ref (q0 33), .int (gI u4 34), .int (gI u4 35), .int (gI u4 36), .int (gI u4 37), .ref (q0 38), .ref (q0 39), .int (gI u4 40), .ref (q0 41), .ref (q0 42), .ref (q0 43), .ref (q0 44)])), kI G (q0 1) 6100 (gA u4 1), kI G (q0 2) 6100 (gA u4 2), kJ G (q0 3) 2016 (gB u4 3), kJ G (q0 4) 2016 (gB u4 4), kI G (q0 5) 300 (gA u4 5), kI G (q0 6) 400 (gA u4 6), kJ G (q0 28) 10 (gB u4 28), kI G (q0 31) 969 (gA u4 31), kI G (q0 32) 969 (gA u4 32), kI G (q0 33) 969 (gA u4 33), kI G (q0 38) 5 (gA u4 38), kI G (q0 39) 5120 (gA u4 39), kI G (q0 41) 5 (gA u4 41), kZ G (q0 42) 1024 (gA u4 42), kI G (q0 43) 8192 (gA u4 43), kI G (q0 44) 8192 (gA u4 44)] H := hP
    have hD : va_D A [(h0, .inr (11, [.int (gI u4 0), .ref (q0 1), .ref (q0 2), .ref (q0 3), .ref (q0 4), .ref (q0 5), .ref (q0 6), .int (gI u4 7), .int (gI u4 8), .int (gI u4 9), .int (gI u4 10), .int (gI u4 11), .int (gI u4 12), .int (gI u4 13), .int (gI u4 14), .long (gL u4 15), .int (gI u4 16), .int (gI u4 17), .int (gI u4 18), .int (gI u4 19), .int (gI u4 20), .int (gI u4 21), .int (gI u4 22), .int (gI u4 23), .int (gI u4 24), .int (gI u4 25), .int (gI u4 26), .int (gI u4 27), .ref (q0 28), .long (gL u4 29), .int (gI u4 30), .ref (q0 31), .ref (q0 32), .ref (q0 33), .int (gI u4 34), .int (gI u4 35), .int (gI u4 36), .int (gI u4 37), .ref (q0 38), .ref (q0 39), .int (gI u4 40), .ref (q0 41), .ref (q0 42), .ref (q0 43), .ref (q0 44)])), kI G (q0 1) 6100 (gA u4 1), kI G (q0 2) 6100 (gA u4 2), kJ G (q0 3) 2016 (gB u4 3), kJ G (q0 4) 2016 (gB u4 4), kI G (q0 5) 300 (gA u4 5), kI G (q0 6) 400 (gA u4 6), kJ G (q0 28) 10 (gB u4 28), kI G (q0 31) 969 (gA u4 31), kI G (q0 32) 969 (gA u4 32), kI G (q0 33) 969 (gA u4 33), kI G (q0 38) 5 (gA u4 38), kI G (q0 39) 5120 (gA u4 39), kI G (q0 41) 5 (gA u4 41), kZ G (q0 42) 1024 (gA u4 42), kI G (q0 43) 8192 (gA u4 43), kI G (q0 44) 8192 (gA u4 44)] := hD
    refine lv_goto (tgt := 19) hx hb d_Md_makes_15 (by decide) ?_
    have hP : va_P G.1 CL (cw_Md G h0 q0 u4) H := hP
    have hD : va_D A (cw_Md G h0 q0 u4) := hD
    exact W.iret (v := z3) hx hb hr (fun t ht hW => ⟨⟨z3, u4, rfl, h, by rw [ht]; exact hP, va_K.moved hW.alike hK, hD⟩, hS.F ht⟩) hS.2.2 d_Md_makes_19
abbrev b_Md_maker : ByteArray := prog_14_method_60_code
def y_Md_maker : MethodName := ⟨R_Md, "maker", "(III)I"⟩
abbrev w_Md_maker : List Cond := Cond.code y_Md_maker b_Md_maker 6 (some .int) :: gw_tbl
theorem d_Md_maker_0 : decode b_Md_maker 0 = .ok (.iload_n 1, 1) := by decide +kernel
theorem d_Md_maker_1 : decode b_Md_maker 1 = .ok (.iconst 0, 1) := by decide +kernel
theorem d_Md_maker_2 : decode b_Md_maker 2 = .ok (.bipush 7, 2) := by decide +kernel
theorem d_Md_maker_4 : decode b_Md_maker 4 = .ok (.invokestatic 76, 3) := by decide +kernel
theorem d_Md_maker_7 : decode b_Md_maker 7 = .ok (.ifCond .eq 24, 3) := by decide +kernel
theorem d_Md_maker_10 : decode b_Md_maker 10 = .ok (.aload_n 0, 1) := by decide +kernel
theorem d_Md_maker_11 : decode b_Md_maker 11 = .ok (.iload_n 3, 1) := by decide +kernel
theorem d_Md_maker_12 : decode b_Md_maker 12 = .ok (.invokevirtual 169, 3) := by decide +kernel
theorem d_Md_maker_15 : decode b_Md_maker 15 = .ok (.ifCond .eq 16, 3) := by decide +kernel
theorem d_Md_maker_18 : decode b_Md_maker 18 = .ok (.iload_n 2, 1) := by decide +kernel
theorem d_Md_maker_19 : decode b_Md_maker 19 = .ok (.ifCond .lt 12, 3) := by decide +kernel
theorem d_Md_maker_22 : decode b_Md_maker 22 = .ok (.iload_n 2, 1) := by decide +kernel
theorem d_Md_maker_23 : decode b_Md_maker 23 = .ok (.aload_n 0, 1) := by decide +kernel
theorem d_Md_maker_24 : decode b_Md_maker 24 = .ok (.iload_n 1, 1) := by decide +kernel
theorem d_Md_maker_25 : decode b_Md_maker 25 = .ok (.invokevirtual 286, 3) := by decide +kernel
theorem d_Md_maker_28 : decode b_Md_maker 28 = .ok (.if_icmp .lt 5, 3) := by decide +kernel
theorem d_Md_maker_31 : decode b_Md_maker 31 = .ok (.iconst (-1), 1) := by decide +kernel
theorem d_Md_maker_32 : decode b_Md_maker 32 = .ok (.ireturn, 1) := by decide +kernel
theorem d_Md_maker_33 : decode b_Md_maker 33 = .ok (.iload_n 2, 1) := by decide +kernel
theorem d_Md_maker_34 : decode b_Md_maker 34 = .ok (.istore 4, 2) := by decide +kernel
theorem d_Md_maker_36 : decode b_Md_maker 36 = .ok (.iconst 0, 1) := by decide +kernel
theorem d_Md_maker_37 : decode b_Md_maker 37 = .ok (.istore 5, 2) := by decide +kernel
theorem d_Md_maker_39 : decode b_Md_maker 39 = .ok (.aload_n 0, 1) := by decide +kernel
theorem d_Md_maker_40 : decode b_Md_maker 40 = .ok (.getfield 57, 3) := by decide +kernel
theorem d_Md_maker_43 : decode b_Md_maker 43 = .ok (.iload 5, 2) := by decide +kernel
theorem d_Md_maker_45 : decode b_Md_maker 45 = .ok (.baload, 1) := by decide +kernel
theorem d_Md_maker_46 : decode b_Md_maker 46 = .ok (.ifCond .eq 8, 3) := by decide +kernel
theorem d_Md_maker_49 : decode b_Md_maker 49 = .ok (.iload 4, 2) := by decide +kernel
theorem d_Md_maker_51 : decode b_Md_maker 51 = .ok (.ifCond .le 29, 3) := by decide +kernel
theorem d_Md_maker_54 : decode b_Md_maker 54 = .ok (.iload 4, 2) := by decide +kernel
theorem d_Md_maker_56 : decode b_Md_maker 56 = .ok (.aload_n 0, 1) := by decide +kernel
theorem d_Md_maker_57 : decode b_Md_maker 57 = .ok (.getfield 57, 3) := by decide +kernel
theorem d_Md_maker_60 : decode b_Md_maker 60 = .ok (.iload 5, 2) := by decide +kernel
theorem d_Md_maker_62 : decode b_Md_maker 62 = .ok (.baload, 1) := by decide +kernel
theorem d_Md_maker_63 : decode b_Md_maker 63 = .ok (.ifCond .eq 7, 3) := by decide +kernel
theorem d_Md_maker_66 : decode b_Md_maker 66 = .ok (.iconst 1, 1) := by decide +kernel
theorem d_Md_maker_67 : decode b_Md_maker 67 = .ok (.goto 4, 3) := by decide +kernel
theorem d_Md_maker_70 : decode b_Md_maker 70 = .ok (.iconst 0, 1) := by decide +kernel
theorem d_Md_maker_71 : decode b_Md_maker 71 = .ok (.isub, 1) := by decide +kernel
theorem d_Md_maker_72 : decode b_Md_maker 72 = .ok (.istore 4, 2) := by decide +kernel
theorem d_Md_maker_74 : decode b_Md_maker 74 = .ok (.iinc 5 1, 3) := by decide +kernel
theorem d_Md_maker_77 : decode b_Md_maker 77 = .ok (.goto (-38), 3) := by decide +kernel
theorem d_Md_maker_80 : decode b_Md_maker 80 = .ok (.aload_n 0, 1) := by decide +kernel
theorem d_Md_maker_81 : decode b_Md_maker 81 = .ok (.getfield 51, 3) := by decide +kernel
theorem d_Md_maker_84 : decode b_Md_maker 84 = .ok (.iconst 5, 1) := by decide +kernel
theorem d_Md_maker_85 : decode b_Md_maker 85 = .ok (.iload 5, 2) := by decide +kernel
theorem d_Md_maker_87 : decode b_Md_maker 87 = .ok (.imul, 1) := by decide +kernel
theorem d_Md_maker_88 : decode b_Md_maker 88 = .ok (.iload_n 3, 1) := by decide +kernel
theorem d_Md_maker_89 : decode b_Md_maker 89 = .ok (.iadd, 1) := by decide +kernel
theorem d_Md_maker_90 : decode b_Md_maker 90 = .ok (.iaload, 1) := by decide +kernel
theorem d_Md_maker_91 : decode b_Md_maker 91 = .ok (.ireturn, 1) := by decide +kernel
def f_Md_maker_54 (k39 : Int32 → Int32 → Int32 → Ob → Prop) (Q : Int32 → Ob → Prop) (x3 : Int32) (x4 : Int32) (x5 : Int32) (o0 : Ob) : Prop := (vp_in x5 1024) ∧ ((((gA o0 42) x5.toNatClampNeg) = 0 → (k39 x3 (x4 - (0 : Int32)) (x5 + (1 : Int32)) o0)) ∧ (¬ ((gA o0 42) x5.toNatClampNeg) = 0 → (k39 x3 (x4 - (1 : Int32)) (x5 + (1 : Int32)) o0)))
def f_Md_maker_39 (Q : Int32 → Ob → Prop) : Nat → Int32 → Int32 → Int32 → Ob → Prop
  | 0, _, _, _, _ => False
  | n + 1, x3, x4, x5, o0 => (vp_in x5 1024) ∧ ((((gA o0 42) x5.toNatClampNeg) = 0 → (f_Md_maker_54 (f_Md_maker_39 Q n) Q x3 x4 x5 o0)) ∧ (¬ ((gA o0 42) x5.toNatClampNeg) = 0 → ((x4 ≤ 0 → ((vp_in (((5 : Int32) * x5) + x3) 5120) ∧ (∀ y7 : Int32, y7 = ((gA o0 39) ((((5 : Int32) * x5) + x3).toNatClampNeg)) → (Q y7 o0)))) ∧ (¬ x4 ≤ 0 → (f_Md_maker_54 (f_Md_maker_39 Q n) Q x3 x4 x5 o0)))))
def f_Md_maker (a0 : Int32) (a1 : Int32) (a2 : Int32) (o0 : Ob) (Q : Int32 → Ob → Prop) : Prop := f_Md_isIn a0 (0 : Int32) (7 : Int32) (fun z8 => (z8 = 0 → (Q (-1 : Int32) o0)) ∧ (¬ z8 = 0 → (f_Md_isPiece a2 o0 (fun z10 => (z10 = 0 → (Q (-1 : Int32) o0)) ∧ (¬ z10 = 0 → ((a1 < 0 → (Q (-1 : Int32) o0)) ∧ (¬ a1 < 0 → (f_Md_findMakers a0 o0 (fun z13 u14 => (a1 < z13 → ((∃ w, f_Md_maker_39 Q w a2 a1 (0 : Int32) u14))) ∧ (¬ a1 < z13 → (Q (-1 : Int32) u14)))))))))))
abbrev rm_Md_maker : Room := { frames := 4, cells := 0, slots := 0, locals := 102 }
set_option maxHeartbeats 4000000 in
set_option maxRecDepth 100000 in
theorem t_Md_maker_54 {p : Program} {l : Launch} {e : Env} {s : State} {m : MethodId} {args : Array Value} {below : List Frame} {meth : Method} {c : Code} {A : Nat → Prop} {G : Gl} {h0 : Nat} {q0 : Nat → Nat} (k39 : Int32 → Int32 → Int32 → Ob → Prop) (Q : Int32 → Ob → Prop) (C : Cx p s m args meth c R_Md b_Md_maker 6 (some .int) G A)
    (hk39 : ∀ (x3 : Int32) (x4 : Int32) (x5 : Int32) (o0 : Ob) (ls : Array Slot) (H : Heap) (locs : List Loc), lv_has ls 6 [(0, .ref h0), (3, .int x3), (4, .int x4), (5, .int x5)] → va_P G.1 CL (cw_Md G h0 q0 o0) H → va_D A (cw_Md G h0 q0 o0) → va_S A s.heap H locs → k39 x3 x4 x5 o0 → W p l e rm_Md_maker s m args below meth c H locs 0 0 (MQ below (va_Qi (fun (r : Int32) (u : Ob) => Q r u) (fun (u : Ob) t => BW G A (cw_Md G h0 q0 u) t) A) args s 0 0 A) (F0 m 39 ls [])) :
    ∀ (x3 : Int32) (x4 : Int32) (x5 : Int32) (o0 : Ob) (ls : Array Slot) (H : Heap) (locs : List Loc), lv_has ls 6 [(0, .ref h0), (3, .int x3), (4, .int x4), (5, .int x5)] → va_P G.1 CL (cw_Md G h0 q0 o0) H → va_D A (cw_Md G h0 q0 o0) → va_S A s.heap H locs → f_Md_maker_54 k39 Q x3 x4 x5 o0 → W p l e rm_Md_maker s m args below meth c H locs 0 0 (MQ below (va_Qi (fun (r : Int32) (u : Ob) => Q r u) (fun (u : Ob) t => BW G A (cw_Md G h0 q0 u) t) A) args s 0 0 A) (F0 m 54 ls []) := by
  obtain ⟨hx, hb, hml, hown, hr, hts, hK, hA, hlocks, hE⟩ := id C
  intro x3 x4 x5 o0 ls H locs hl hP hD hS h
  have hP : va_P G.1 CL [(h0, .inr (11, [.int (gI o0 0), .ref (q0 1), .ref (q0 2), .ref (q0 3), .ref (q0 4), .ref (q0 5), .ref (q0 6), .int (gI o0 7), .int (gI o0 8), .int (gI o0 9), .int (gI o0 10), .int (gI o0 11), .int (gI o0 12), .int (gI o0 13), .int (gI o0 14), .long (gL o0 15), .int (gI o0 16), .int (gI o0 17), .int (gI o0 18), .int (gI o0 19), .int (gI o0 20), .int (gI o0 21), .int (gI o0 22), .int (gI o0 23), .int (gI o0 24), .int (gI o0 25), .int (gI o0 26), .int (gI o0 27), .ref (q0 28), .long (gL o0 29), .int (gI o0 30), .ref (q0 31), .ref (q0 32), .ref (q0 33), .int (gI o0 34), .int (gI o0 35), .int (gI o0 36), .int (gI o0 37), .ref (q0 38), .ref (q0 39), .int (gI o0 40), .ref (q0 41), .ref (q0 42), .ref (q0 43), .ref (q0 44)])), kI G (q0 1) 6100 (gA o0 1), kI G (q0 2) 6100 (gA o0 2), kJ G (q0 3) 2016 (gB o0 3), kJ G (q0 4) 2016 (gB o0 4), kI G (q0 5) 300 (gA o0 5), kI G (q0 6) 400 (gA o0 6), kJ G (q0 28) 10 (gB o0 28), kI G (q0 31) 969 (gA o0 31), kI G (q0 32) 969 (gA o0 32), kI G (q0 33) 969 (gA o0 33), kI G (q0 38) 5 (gA o0 38), kI G (q0 39) 5120 (gA o0 39), kI G (q0 41) 5 (gA o0 41), kZ G (q0 42) 1024 (gA o0 42), kI G (q0 43) 8192 (gA o0 43), kI G (q0 44) 8192 (gA o0 44)] H := hP
  have hD : va_D A [(h0, .inr (11, [.int (gI o0 0), .ref (q0 1), .ref (q0 2), .ref (q0 3), .ref (q0 4), .ref (q0 5), .ref (q0 6), .int (gI o0 7), .int (gI o0 8), .int (gI o0 9), .int (gI o0 10), .int (gI o0 11), .int (gI o0 12), .int (gI o0 13), .int (gI o0 14), .long (gL o0 15), .int (gI o0 16), .int (gI o0 17), .int (gI o0 18), .int (gI o0 19), .int (gI o0 20), .int (gI o0 21), .int (gI o0 22), .int (gI o0 23), .int (gI o0 24), .int (gI o0 25), .int (gI o0 26), .int (gI o0 27), .ref (q0 28), .long (gL o0 29), .int (gI o0 30), .ref (q0 31), .ref (q0 32), .ref (q0 33), .int (gI o0 34), .int (gI o0 35), .int (gI o0 36), .int (gI o0 37), .ref (q0 38), .ref (q0 39), .int (gI o0 40), .ref (q0 41), .ref (q0 42), .ref (q0 43), .ref (q0 44)])), kI G (q0 1) 6100 (gA o0 1), kI G (q0 2) 6100 (gA o0 2), kJ G (q0 3) 2016 (gB o0 3), kJ G (q0 4) 2016 (gB o0 4), kI G (q0 5) 300 (gA o0 5), kI G (q0 6) 400 (gA o0 6), kJ G (q0 28) 10 (gB o0 28), kI G (q0 31) 969 (gA o0 31), kI G (q0 32) 969 (gA o0 32), kI G (q0 33) 969 (gA o0 33), kI G (q0 38) 5 (gA o0 38), kI G (q0 39) 5120 (gA o0 39), kI G (q0 41) 5 (gA o0 41), kZ G (q0 42) 1024 (gA o0 42), kI G (q0 43) 8192 (gA o0 43), kI G (q0 44) 8192 (gA o0 44)] := hD
  unfold f_Md_maker_54 at h
  refine lv_iload hx hb d_Md_maker_54 (lv_at hl 2 rfl) ?_
  refine lv_aload_n hx hb d_Md_maker_56 rfl (lv_at hl 0 rfl) ?_
  refine va_get (D := G.1) (ci := 11) (v := .ref (q0 42)) (C := R_Md) (T := T_Md) (N := 45) hx hb hts i_Md hown hK hP 0 rfl rfl 42 (by decide) (hts _ wf_Md_57) (fun _ h9 => h9) rfl d_Md_maker_57 ?_
  refine lv_iload hx hb d_Md_maker_60 (lv_at hl 3 rfl) ?_
  have g1 := h.1
  have h := h.2
  refine xa_zald hx hb hK hP 14 3 rfl rfl g1 (k := x5.toNatClampNeg) rfl d_Md_maker_62 ?_
  refine lv_if_eq (tgt := 70) hx hb d_Md_maker_63 (by decide) (fun c2 => ?_) (fun c2 => ?_)
  · have h := h.1 c2
    refine lv_iconst (v := (0 : Int32)) hx hb d_Md_maker_70 (by decide) ?_
    refine lv_isub hx hb d_Md_maker_71 ?_
    refine lv_istore (lv' := [(4, .int (x4 - (0 : Int32))), (0, .ref h0), (3, .int x3), (5, .int x5)]) hx hb d_Md_maker_72 hl (by decide) rfl (fun ls hl => ?_)
    refine lv_iinc (v := (x5 + (1 : Int32))) (lv' := [(5, .int (x5 + (1 : Int32))), (4, .int (x4 - (0 : Int32))), (0, .ref h0), (3, .int x3)]) hx hb d_Md_maker_74 hl (k := 3) rfl rfl (by decide) rfl (fun ls hl => ?_)
    refine lv_goto (tgt := 39) hx hb d_Md_maker_77 (by decide) ?_
    have hl := lv_sub (l' := [(0, .ref h0), (3, .int x3), (4, .int (x4 - (0 : Int32))), (5, .int (x5 + (1 : Int32)))]) hl [2, 3, 1, 0] rfl
    have hP : va_P G.1 CL (cw_Md G h0 q0 o0) H := hP
    have hD : va_D A (cw_Md G h0 q0 o0) := hD
    exact hk39 x3 (x4 - (0 : Int32)) (x5 + (1 : Int32)) o0 ls H locs hl hP hD hS h
  · have h := h.2 c2
    refine lv_iconst (v := (1 : Int32)) hx hb d_Md_maker_66 (by decide) ?_
    refine lv_goto (tgt := 71) hx hb d_Md_maker_67 (by decide) ?_
    refine lv_isub hx hb d_Md_maker_71 ?_
    refine lv_istore (lv' := [(4, .int (x4 - (1 : Int32))), (0, .ref h0), (3, .int x3), (5, .int x5)]) hx hb d_Md_maker_72 hl (by decide) rfl (fun ls hl => ?_)
    refine lv_iinc (v := (x5 + (1 : Int32))) (lv' := [(5, .int (x5 + (1 : Int32))), (4, .int (x4 - (1 : Int32))), (0, .ref h0), (3, .int x3)]) hx hb d_Md_maker_74 hl (k := 3) rfl rfl (by decide) rfl (fun ls hl => ?_)
    refine lv_goto (tgt := 39) hx hb d_Md_maker_77 (by decide) ?_
    have hl := lv_sub (l' := [(0, .ref h0), (3, .int x3), (4, .int (x4 - (1 : Int32))), (5, .int (x5 + (1 : Int32)))]) hl [2, 3, 1, 0] rfl
    have hP : va_P G.1 CL (cw_Md G h0 q0 o0) H := hP
    have hD : va_D A (cw_Md G h0 q0 o0) := hD
    exact hk39 x3 (x4 - (1 : Int32)) (x5 + (1 : Int32)) o0 ls H locs hl hP hD hS h
set_option maxHeartbeats 4000000 in
set_option maxRecDepth 100000 in
theorem t_Md_maker_39 {p : Program} {l : Launch} {e : Env} {s : State} {m : MethodId} {args : Array Value} {below : List Frame} {meth : Method} {c : Code} {A : Nat → Prop} {G : Gl} {h0 : Nat} {q0 : Nat → Nat} (Q : Int32 → Ob → Prop) (C : Cx p s m args meth c R_Md b_Md_maker 6 (some .int) G A) :
    ∀ (n : Nat) (x3 : Int32) (x4 : Int32) (x5 : Int32) (o0 : Ob) (ls : Array Slot) (H : Heap) (locs : List Loc), lv_has ls 6 [(0, .ref h0), (3, .int x3), (4, .int x4), (5, .int x5)] → va_P G.1 CL (cw_Md G h0 q0 o0) H → va_D A (cw_Md G h0 q0 o0) → va_S A s.heap H locs → f_Md_maker_39 Q n x3 x4 x5 o0 → W p l e rm_Md_maker s m args below meth c H locs 0 0 (MQ below (va_Qi (fun (r : Int32) (u : Ob) => Q r u) (fun (u : Ob) t => BW G A (cw_Md G h0 q0 u) t) A) args s 0 0 A) (F0 m 39 ls []) := by
  obtain ⟨hx, hb, hml, hown, hr, hts, hK, hA, hlocks, hE⟩ := id C
  intro n
  induction n with
  | zero => intro x3 x4 x5 o0 ls H locs hl hP hD hS h; exact absurd h id
  | succ n ih =>
    intro x3 x4 x5 o0 ls H locs hl hP hD hS h
    have hP : va_P G.1 CL [(h0, .inr (11, [.int (gI o0 0), .ref (q0 1), .ref (q0 2), .ref (q0 3), .ref (q0 4), .ref (q0 5), .ref (q0 6), .int (gI o0 7), .int (gI o0 8), .int (gI o0 9), .int (gI o0 10), .int (gI o0 11), .int (gI o0 12), .int (gI o0 13), .int (gI o0 14), .long (gL o0 15), .int (gI o0 16), .int (gI o0 17), .int (gI o0 18), .int (gI o0 19), .int (gI o0 20), .int (gI o0 21), .int (gI o0 22), .int (gI o0 23), .int (gI o0 24), .int (gI o0 25), .int (gI o0 26), .int (gI o0 27), .ref (q0 28), .long (gL o0 29), .int (gI o0 30), .ref (q0 31), .ref (q0 32), .ref (q0 33), .int (gI o0 34), .int (gI o0 35), .int (gI o0 36), .int (gI o0 37), .ref (q0 38), .ref (q0 39), .int (gI o0 40), .ref (q0 41), .ref (q0 42), .ref (q0 43), .ref (q0 44)])), kI G (q0 1) 6100 (gA o0 1), kI G (q0 2) 6100 (gA o0 2), kJ G (q0 3) 2016 (gB o0 3), kJ G (q0 4) 2016 (gB o0 4), kI G (q0 5) 300 (gA o0 5), kI G (q0 6) 400 (gA o0 6), kJ G (q0 28) 10 (gB o0 28), kI G (q0 31) 969 (gA o0 31), kI G (q0 32) 969 (gA o0 32), kI G (q0 33) 969 (gA o0 33), kI G (q0 38) 5 (gA o0 38), kI G (q0 39) 5120 (gA o0 39), kI G (q0 41) 5 (gA o0 41), kZ G (q0 42) 1024 (gA o0 42), kI G (q0 43) 8192 (gA o0 43), kI G (q0 44) 8192 (gA o0 44)] H := hP
    have hD : va_D A [(h0, .inr (11, [.int (gI o0 0), .ref (q0 1), .ref (q0 2), .ref (q0 3), .ref (q0 4), .ref (q0 5), .ref (q0 6), .int (gI o0 7), .int (gI o0 8), .int (gI o0 9), .int (gI o0 10), .int (gI o0 11), .int (gI o0 12), .int (gI o0 13), .int (gI o0 14), .long (gL o0 15), .int (gI o0 16), .int (gI o0 17), .int (gI o0 18), .int (gI o0 19), .int (gI o0 20), .int (gI o0 21), .int (gI o0 22), .int (gI o0 23), .int (gI o0 24), .int (gI o0 25), .int (gI o0 26), .int (gI o0 27), .ref (q0 28), .long (gL o0 29), .int (gI o0 30), .ref (q0 31), .ref (q0 32), .ref (q0 33), .int (gI o0 34), .int (gI o0 35), .int (gI o0 36), .int (gI o0 37), .ref (q0 38), .ref (q0 39), .int (gI o0 40), .ref (q0 41), .ref (q0 42), .ref (q0 43), .ref (q0 44)])), kI G (q0 1) 6100 (gA o0 1), kI G (q0 2) 6100 (gA o0 2), kJ G (q0 3) 2016 (gB o0 3), kJ G (q0 4) 2016 (gB o0 4), kI G (q0 5) 300 (gA o0 5), kI G (q0 6) 400 (gA o0 6), kJ G (q0 28) 10 (gB o0 28), kI G (q0 31) 969 (gA o0 31), kI G (q0 32) 969 (gA o0 32), kI G (q0 33) 969 (gA o0 33), kI G (q0 38) 5 (gA o0 38), kI G (q0 39) 5120 (gA o0 39), kI G (q0 41) 5 (gA o0 41), kZ G (q0 42) 1024 (gA o0 42), kI G (q0 43) 8192 (gA o0 43), kI G (q0 44) 8192 (gA o0 44)] := hD
    unfold f_Md_maker_39 at h
    refine lv_aload_n hx hb d_Md_maker_39 rfl (lv_at hl 0 rfl) ?_
    refine va_get (D := G.1) (ci := 11) (v := .ref (q0 42)) (C := R_Md) (T := T_Md) (N := 45) hx hb hts i_Md hown hK hP 0 rfl rfl 42 (by decide) (hts _ wf_Md_57) (fun _ h9 => h9) rfl d_Md_maker_40 ?_
    refine lv_iload hx hb d_Md_maker_43 (lv_at hl 3 rfl) ?_
    have g3 := h.1
    have h := h.2
    refine xa_zald hx hb hK hP 14 3 rfl rfl g3 (k := x5.toNatClampNeg) rfl d_Md_maker_45 ?_
    refine lv_if_eq (tgt := 54) hx hb d_Md_maker_46 (by decide) (fun c4 => ?_) (fun c4 => ?_)
    · have h := h.1 c4
      have hl := lv_sub (l' := [(0, .ref h0), (3, .int x3), (4, .int x4), (5, .int x5)]) hl [0, 1, 2, 3] rfl
      have hP : va_P G.1 CL (cw_Md G h0 q0 o0) H := hP
      have hD : va_D A (cw_Md G h0 q0 o0) := hD
      exact t_Md_maker_54 (f_Md_maker_39 Q n) Q C ih x3 x4 x5 o0 ls _ locs hl hP hD hS h
    · have h := h.2 c4
      refine lv_iload hx hb d_Md_maker_49 (lv_at hl 2 rfl) ?_
      refine lv_if_le (tgt := 80) hx hb d_Md_maker_51 (by decide) (fun c5 => ?_) (fun c5 => ?_)
      · have h := h.1 c5
        refine lv_aload_n hx hb d_Md_maker_80 rfl (lv_at hl 0 rfl) ?_
        refine va_get (D := G.1) (ci := 11) (v := .ref (q0 39)) (C := R_Md) (T := T_Md) (N := 45) hx hb hts i_Md hown hK hP 0 rfl rfl 39 (by decide) (hts _ wf_Md_51) (fun _ h9 => h9) rfl d_Md_maker_81 ?_
        refine lv_iconst (v := (5 : Int32)) hx hb d_Md_maker_84 (by decide) ?_
        refine lv_iload hx hb d_Md_maker_85 (lv_at hl 3 rfl) ?_
        refine lv_imul hx hb d_Md_maker_87 ?_
        refine lv_iload_n hx hb d_Md_maker_88 rfl (lv_at hl 1 rfl) ?_
        refine lv_iadd hx hb d_Md_maker_89 ?_
        have g6 := h.1
        have h := h.2
        refine xa_iald hx hb hK hP 12 0 rfl rfl g6 (k := (((5 : Int32) * x5) + x3).toNatClampNeg) rfl d_Md_maker_90 ?_
        refine lv_topi (fun y7 ey7 => ?_)
        have h := h y7 ey7
        have hP : va_P G.1 CL (cw_Md G h0 q0 o0) H := hP
        have hD : va_D A (cw_Md G h0 q0 o0) := hD
        exact W.iret (v := y7) hx hb hr (fun t ht hW => ⟨⟨y7, o0, rfl, h, by rw [ht]; exact hP, va_K.moved hW.alike hK, hD⟩, hS.F ht⟩) hS.2.2 d_Md_maker_91
      · have h := h.2 c5
        have hl := lv_sub (l' := [(0, .ref h0), (3, .int x3), (4, .int x4), (5, .int x5)]) hl [0, 1, 2, 3] rfl
        have hP : va_P G.1 CL (cw_Md G h0 q0 o0) H := hP
        have hD : va_D A (cw_Md G h0 q0 o0) := hD
        exact t_Md_maker_54 (f_Md_maker_39 Q n) Q C ih x3 x4 x5 o0 ls _ locs hl hP hD hS h
set_option maxHeartbeats 4000000 in
set_option maxRecDepth 100000 in
theorem c_Md_maker {l : Launch} {G : Gl} {h0 : Nat} {q0 : Nat → Nat} {a0 : Int32} {a1 : Int32} {a2 : Int32} {o0 : Ob} {Q : Int32 → Ob → Prop} (sz : Nat) (h : f_Md_maker a0 a1 a2 o0 Q) : Met l y_Md_maker w_Md_maker rm_Md_maker (PcW G [.ref h0, .int a0, .int a1, .int a2] sz (cw_Md G h0 q0 o0)) (va_Qi (fun (r : Int32) (u : Ob) => Q r u) (fun (u : Ob) t => BW G (va_A (cw_Md G h0 q0 o0) sz) (cw_Md G h0 q0 u) t) (va_A (cw_Md G h0 q0 o0) sz)) 0 0 (va_A (cw_Md G h0 q0 o0) sz) := by
  refine Met.ofW (cc := b_Md_maker) (maxL := 6) (ret := (some .int)) (by decide +kernel) rfl ?_
  intro p e s m args below meth c s₁ B hml hv
  obtain ⟨rfl, hsz, hP, hK, hD0, hE⟩ := hv
  have hx := B.exec
  have hb := B.bytes
  have hr := B.returns
  have hts0 := atoms_spec (ws := w_Md_maker) B.pre
  have hts : ∀ w ∈ gw_tbl, w.before ([.ref h0, .int a0, .int a1, .int a2]).toArray s = true := fun w hw => hts0 w (List.mem_cons_of_mem _ hw)
  have hown : s.vm.findClass R_Md = some m.cls := findClass_of_methodNamed B.named
  have hlocks := B.notSynchronized
  subst hsz
  have hD := hD0.self (sz := s.heap.size)
  generalize hAe : va_A (cw_Md G h0 q0 o0) s.heap.size = A at hD hE ⊢
  have hA : ∀ q : Nat, s.heap.size ≤ q → A q := fun q h => by rw [← hAe]; exact Or.inr h
  have hS : va_S A s.heap s.heap [] := va_S.rf
  have C : Cx p s m ([.ref h0, .int a0, .int a1, .int a2]).toArray meth c R_Md b_Md_maker 6 (some .int) G A := ⟨hx, hb, hml, hown, hr, hts, hK, hA, hlocks, hE⟩
  have hl := lv_entry ([.ref h0, .int a0, .int a1, .int a2]) (n := 6) (Nat.le_of_ble_eq_true rfl)
  rw [lg_entry_eq]
  generalize (lg_sl ([.ref h0, .int a0, .int a1, .int a2]) ++ List.replicate (6 - (lg_sl ([.ref h0, .int a0, .int a1, .int a2])).length) Slot.unset).toArray = ls at hl ⊢
  have hl : lv_has ls 6 [(0, .ref h0), (1, .int a0), (2, .int a1), (3, .int a2)] := hl
  have hD : va_D A [(h0, .inr (11, [.int (gI o0 0), .ref (q0 1), .ref (q0 2), .ref (q0 3), .ref (q0 4), .ref (q0 5), .ref (q0 6), .int (gI o0 7), .int (gI o0 8), .int (gI o0 9), .int (gI o0 10), .int (gI o0 11), .int (gI o0 12), .int (gI o0 13), .int (gI o0 14), .long (gL o0 15), .int (gI o0 16), .int (gI o0 17), .int (gI o0 18), .int (gI o0 19), .int (gI o0 20), .int (gI o0 21), .int (gI o0 22), .int (gI o0 23), .int (gI o0 24), .int (gI o0 25), .int (gI o0 26), .int (gI o0 27), .ref (q0 28), .long (gL o0 29), .int (gI o0 30), .ref (q0 31), .ref (q0 32), .ref (q0 33), .int (gI o0 34), .int (gI o0 35), .int (gI o0 36), .int (gI o0 37), .ref (q0 38), .ref (q0 39), .int (gI o0 40), .ref (q0 41), .ref (q0 42), .ref (q0 43), .ref (q0 44)])), kI G (q0 1) 6100 (gA o0 1), kI G (q0 2) 6100 (gA o0 2), kJ G (q0 3) 2016 (gB o0 3), kJ G (q0 4) 2016 (gB o0 4), kI G (q0 5) 300 (gA o0 5), kI G (q0 6) 400 (gA o0 6), kJ G (q0 28) 10 (gB o0 28), kI G (q0 31) 969 (gA o0 31), kI G (q0 32) 969 (gA o0 32), kI G (q0 33) 969 (gA o0 33), kI G (q0 38) 5 (gA o0 38), kI G (q0 39) 5120 (gA o0 39), kI G (q0 41) 5 (gA o0 41), kZ G (q0 42) 1024 (gA o0 42), kI G (q0 43) 8192 (gA o0 43), kI G (q0 44) 8192 (gA o0 44)] := hD
  unfold f_Md_maker at h
  suffices key : ∀ (H : Heap) (locs : List Loc), va_P G.1 CL [(h0, .inr (11, [.int (gI o0 0), .ref (q0 1), .ref (q0 2), .ref (q0 3), .ref (q0 4), .ref (q0 5), .ref (q0 6), .int (gI o0 7), .int (gI o0 8), .int (gI o0 9), .int (gI o0 10), .int (gI o0 11), .int (gI o0 12), .int (gI o0 13), .int (gI o0 14), .long (gL o0 15), .int (gI o0 16), .int (gI o0 17), .int (gI o0 18), .int (gI o0 19), .int (gI o0 20), .int (gI o0 21), .int (gI o0 22), .int (gI o0 23), .int (gI o0 24), .int (gI o0 25), .int (gI o0 26), .int (gI o0 27), .ref (q0 28), .long (gL o0 29), .int (gI o0 30), .ref (q0 31), .ref (q0 32), .ref (q0 33), .int (gI o0 34), .int (gI o0 35), .int (gI o0 36), .int (gI o0 37), .ref (q0 38), .ref (q0 39), .int (gI o0 40), .ref (q0 41), .ref (q0 42), .ref (q0 43), .ref (q0 44)])), kI G (q0 1) 6100 (gA o0 1), kI G (q0 2) 6100 (gA o0 2), kJ G (q0 3) 2016 (gB o0 3), kJ G (q0 4) 2016 (gB o0 4), kI G (q0 5) 300 (gA o0 5), kI G (q0 6) 400 (gA o0 6), kJ G (q0 28) 10 (gB o0 28), kI G (q0 31) 969 (gA o0 31), kI G (q0 32) 969 (gA o0 32), kI G (q0 33) 969 (gA o0 33), kI G (q0 38) 5 (gA o0 38), kI G (q0 39) 5120 (gA o0 39), kI G (q0 41) 5 (gA o0 41), kZ G (q0 42) 1024 (gA o0 42), kI G (q0 43) 8192 (gA o0 43), kI G (q0 44) 8192 (gA o0 44)] H → va_S A s.heap H locs → W p l e rm_Md_maker s m ([.ref h0, .int a0, .int a1, .int a2]).toArray below meth c H locs 0 0 (MQ below (va_Qi (fun (r : Int32) (u : Ob) => Q r u) (fun (u : Ob) t => BW G A (cw_Md G h0 q0 u) t) A) ([.ref h0, .int a0, .int a1, .int a2]).toArray s 0 0 A) (F0 m 0 ls []) from key s.heap [] hP hS
  intro H locs hP hS
  refine lv_iload_n hx hb d_Md_maker_0 rfl (lv_at hl 1 rfl) ?_
  refine lv_iconst (v := (0 : Int32)) hx hb d_Md_maker_1 (by decide) ?_
  refine lv_bipush (v := (7 : Int32)) hx hb d_Md_maker_2 (by decide) ?_
  refine cl_Si (b := b_Md_maker) (As := [.int a0, .int (0 : Int32), .int (7 : Int32)]) (rest := []) (ws := [(h0, .inr (11, [.int (gI o0 0), .ref (q0 1), .ref (q0 2), .ref (q0 3), .ref (q0 4), .ref (q0 5), .ref (q0 6), .int (gI o0 7), .int (gI o0 8), .int (gI o0 9), .int (gI o0 10), .int (gI o0 11), .int (gI o0 12), .int (gI o0 13), .int (gI o0 14), .long (gL o0 15), .int (gI o0 16), .int (gI o0 17), .int (gI o0 18), .int (gI o0 19), .int (gI o0 20), .int (gI o0 21), .int (gI o0 22), .int (gI o0 23), .int (gI o0 24), .int (gI o0 25), .int (gI o0 26), .int (gI o0 27), .ref (q0 28), .long (gL o0 29), .int (gI o0 30), .ref (q0 31), .ref (q0 32), .ref (q0 33), .int (gI o0 34), .int (gI o0 35), .int (gI o0 36), .int (gI o0 37), .ref (q0 38), .ref (q0 39), .int (gI o0 40), .ref (q0 41), .ref (q0 42), .ref (q0 43), .ref (q0 44)])), kI G (q0 1) 6100 (gA o0 1), kI G (q0 2) 6100 (gA o0 2), kJ G (q0 3) 2016 (gB o0 3), kJ G (q0 4) 2016 (gB o0 4), kI G (q0 5) 300 (gA o0 5), kI G (q0 6) 400 (gA o0 6), kJ G (q0 28) 10 (gB o0 28), kI G (q0 31) 969 (gA o0 31), kI G (q0 32) 969 (gA o0 32), kI G (q0 33) 969 (gA o0 33), kI G (q0 38) 5 (gA o0 38), kI G (q0 39) 5120 (gA o0 39), kI G (q0 41) 5 (gA o0 41), kZ G (q0 42) 1024 (gA o0 42), kI G (q0 43) 8192 (gA o0 43), kI G (q0 44) 8192 (gA o0 44)]) (wr := [(h0, .inr (11, [.int (gI o0 0), .ref (q0 1), .ref (q0 2), .ref (q0 3), .ref (q0 4), .ref (q0 5), .ref (q0 6), .int (gI o0 7), .int (gI o0 8), .int (gI o0 9), .int (gI o0 10), .int (gI o0 11), .int (gI o0 12), .int (gI o0 13), .int (gI o0 14), .long (gL o0 15), .int (gI o0 16), .int (gI o0 17), .int (gI o0 18), .int (gI o0 19), .int (gI o0 20), .int (gI o0 21), .int (gI o0 22), .int (gI o0 23), .int (gI o0 24), .int (gI o0 25), .int (gI o0 26), .int (gI o0 27), .ref (q0 28), .long (gL o0 29), .int (gI o0 30), .ref (q0 31), .ref (q0 32), .ref (q0 33), .int (gI o0 34), .int (gI o0 35), .int (gI o0 36), .int (gI o0 37), .ref (q0 38), .ref (q0 39), .int (gI o0 40), .ref (q0 41), .ref (q0 42), .ref (q0 43), .ref (q0 44)])), kI G (q0 1) 6100 (gA o0 1), kI G (q0 2) 6100 (gA o0 2), kJ G (q0 3) 2016 (gB o0 3), kJ G (q0 4) 2016 (gB o0 4), kI G (q0 5) 300 (gA o0 5), kI G (q0 6) 400 (gA o0 6), kJ G (q0 28) 10 (gB o0 28), kI G (q0 31) 969 (gA o0 31), kI G (q0 32) 969 (gA o0 32), kI G (q0 33) 969 (gA o0 33), kI G (q0 38) 5 (gA o0 38), kI G (q0 39) 5120 (gA o0 39), kI G (q0 41) 5 (gA o0 41), kZ G (q0 42) 1024 (gA o0 42), kI G (q0 43) 8192 (gA o0 43), kI G (q0 44) 8192 (gA o0 44)]) (w2 := fun (u : Unit) => [(h0, .inr (11, [.int (gI o0 0), .ref (q0 1), .ref (q0 2), .ref (q0 3), .ref (q0 4), .ref (q0 5), .ref (q0 6), .int (gI o0 7), .int (gI o0 8), .int (gI o0 9), .int (gI o0 10), .int (gI o0 11), .int (gI o0 12), .int (gI o0 13), .int (gI o0 14), .long (gL o0 15), .int (gI o0 16), .int (gI o0 17), .int (gI o0 18), .int (gI o0 19), .int (gI o0 20), .int (gI o0 21), .int (gI o0 22), .int (gI o0 23), .int (gI o0 24), .int (gI o0 25), .int (gI o0 26), .int (gI o0 27), .ref (q0 28), .long (gL o0 29), .int (gI o0 30), .ref (q0 31), .ref (q0 32), .ref (q0 33), .int (gI o0 34), .int (gI o0 35), .int (gI o0 36), .int (gI o0 37), .ref (q0 38), .ref (q0 39), .int (gI o0 40), .ref (q0 41), .ref (q0 42), .ref (q0 43), .ref (q0 44)])), kI G (q0 1) 6100 (gA o0 1), kI G (q0 2) 6100 (gA o0 2), kJ G (q0 3) 2016 (gB o0 3), kJ G (q0 4) 2016 (gB o0 4), kI G (q0 5) 300 (gA o0 5), kI G (q0 6) 400 (gA o0 6), kJ G (q0 28) 10 (gB o0 28), kI G (q0 31) 969 (gA o0 31), kI G (q0 32) 969 (gA o0 32), kI G (q0 33) 969 (gA o0 33), kI G (q0 38) 5 (gA o0 38), kI G (q0 39) 5120 (gA o0 39), kI G (q0 41) 5 (gA o0 41), kZ G (q0 42) 1024 (gA o0 42), kI G (q0 43) 8192 (gA o0 43), kI G (q0 44) 8192 (gA o0 44)]) C (c_Md_isIn H.size h) ws_Md_76 ⟨Nat.le_of_ble_eq_true rfl, Nat.le_of_ble_eq_true rfl⟩ hP hD hS [] [0, 1, 2, 3, 4, 5, 6, 7, 8, 9, 10, 11, 12, 13, 14, 15, 16] rfl rfl (by decide) (by decide) (by decide) [0, 1, 2, 3, 4, 5, 6, 7, 8, 9, 10, 11, 12, 13, 14, 15, 16] (by decide) (fun u => rfl) rfl hl.1 rfl (lv_room (Nat.le_of_ble_eq_true rfl)) d_Md_maker_4 ⟨Nat.le_of_ble_eq_true rfl, Nat.le_of_ble_eq_true rfl⟩ rfl rfl (fun z8 u H locs h hP hD hS => ?_)
  have hP : va_P G.1 CL [(h0, .inr (11, [.int (gI o0 0), .ref (q0 1), .ref (q0 2), .ref (q0 3), .ref (q0 4), .ref (q0 5), .ref (q0 6), .int (gI o0 7), .int (gI o0 8), .int (gI o0 9), .int (gI o0 10), .int (gI o0 11), .int (gI o0 12), .int (gI o0 13), .int (gI o0 14), .long (gL o0 15), .int (gI o0 16), .int (gI o0 17), .int (gI o0 18), .int (gI o0 19), .int (gI o0 20), .int (gI o0 21), .int (gI o0 22), .int (gI o0 23), .int (gI o0 24), .int (gI o0 25), .int (gI o0 26), .int (gI o0 27), .ref (q0 28), .long (gL o0 29), .int (gI o0 30), .ref (q0 31), .ref (q0 32), .ref (q0 33), .int (gI o0 34), .int (gI o0 35), .int (gI o0 36), .int (gI o0 37), .ref (q0 38), .ref (q0 39), .int (gI o0 40), .ref (q0 41), .ref (q0 42), .ref (q0 43), .ref (q0 44)])), kI G (q0 1) 6100 (gA o0 1), kI G (q0 2) 6100 (gA o0 2), kJ G (q0 3) 2016 (gB o0 3), kJ G (q0 4) 2016 (gB o0 4), kI G (q0 5) 300 (gA o0 5), kI G (q0 6) 400 (gA o0 6), kJ G (q0 28) 10 (gB o0 28), kI G (q0 31) 969 (gA o0 31), kI G (q0 32) 969 (gA o0 32), kI G (q0 33) 969 (gA o0 33), kI G (q0 38) 5 (gA o0 38), kI G (q0 39) 5120 (gA o0 39), kI G (q0 41) 5 (gA o0 41), kZ G (q0 42) 1024 (gA o0 42), kI G (q0 43) 8192 (gA o0 43), kI G (q0 44) 8192 (gA o0 44)] H := hP
  have hD : va_D A [(h0, .inr (11, [.int (gI o0 0), .ref (q0 1), .ref (q0 2), .ref (q0 3), .ref (q0 4), .ref (q0 5), .ref (q0 6), .int (gI o0 7), .int (gI o0 8), .int (gI o0 9), .int (gI o0 10), .int (gI o0 11), .int (gI o0 12), .int (gI o0 13), .int (gI o0 14), .long (gL o0 15), .int (gI o0 16), .int (gI o0 17), .int (gI o0 18), .int (gI o0 19), .int (gI o0 20), .int (gI o0 21), .int (gI o0 22), .int (gI o0 23), .int (gI o0 24), .int (gI o0 25), .int (gI o0 26), .int (gI o0 27), .ref (q0 28), .long (gL o0 29), .int (gI o0 30), .ref (q0 31), .ref (q0 32), .ref (q0 33), .int (gI o0 34), .int (gI o0 35), .int (gI o0 36), .int (gI o0 37), .ref (q0 38), .ref (q0 39), .int (gI o0 40), .ref (q0 41), .ref (q0 42), .ref (q0 43), .ref (q0 44)])), kI G (q0 1) 6100 (gA o0 1), kI G (q0 2) 6100 (gA o0 2), kJ G (q0 3) 2016 (gB o0 3), kJ G (q0 4) 2016 (gB o0 4), kI G (q0 5) 300 (gA o0 5), kI G (q0 6) 400 (gA o0 6), kJ G (q0 28) 10 (gB o0 28), kI G (q0 31) 969 (gA o0 31), kI G (q0 32) 969 (gA o0 32), kI G (q0 33) 969 (gA o0 33), kI G (q0 38) 5 (gA o0 38), kI G (q0 39) 5120 (gA o0 39), kI G (q0 41) 5 (gA o0 41), kZ G (q0 42) 1024 (gA o0 42), kI G (q0 43) 8192 (gA o0 43), kI G (q0 44) 8192 (gA o0 44)] := hD
  refine lv_if_eq (tgt := 31) hx hb d_Md_maker_7 (by decide) (fun c9 => ?_) (fun c9 => ?_)
  · have h := h.1 c9
    refine lv_iconst (v := (-1 : Int32)) hx hb d_Md_maker_31 (by decide) ?_
    have hP : va_P G.1 CL (cw_Md G h0 q0 o0) H := hP
    have hD : va_D A (cw_Md G h0 q0 o0) := hD
    exact W.iret (v := (-1 : Int32)) hx hb hr (fun t ht hW => ⟨⟨(-1 : Int32), o0, rfl, h, by rw [ht]; exact hP, va_K.moved hW.alike hK, hD⟩, hS.F ht⟩) hS.2.2 d_Md_maker_32
  · have h := h.2 c9
    refine lv_aload_n hx hb d_Md_maker_10 rfl (lv_at hl 0 rfl) ?_
    refine lv_iload_n hx hb d_Md_maker_11 rfl (lv_at hl 3 rfl) ?_
    refine cl_Vi (b := b_Md_maker) (As := [.int a2]) (rest := []) (ws := [(h0, .inr (11, [.int (gI o0 0), .ref (q0 1), .ref (q0 2), .ref (q0 3), .ref (q0 4), .ref (q0 5), .ref (q0 6), .int (gI o0 7), .int (gI o0 8), .int (gI o0 9), .int (gI o0 10), .int (gI o0 11), .int (gI o0 12), .int (gI o0 13), .int (gI o0 14), .long (gL o0 15), .int (gI o0 16), .int (gI o0 17), .int (gI o0 18), .int (gI o0 19), .int (gI o0 20), .int (gI o0 21), .int (gI o0 22), .int (gI o0 23), .int (gI o0 24), .int (gI o0 25), .int (gI o0 26), .int (gI o0 27), .ref (q0 28), .long (gL o0 29), .int (gI o0 30), .ref (q0 31), .ref (q0 32), .ref (q0 33), .int (gI o0 34), .int (gI o0 35), .int (gI o0 36), .int (gI o0 37), .ref (q0 38), .ref (q0 39), .int (gI o0 40), .ref (q0 41), .ref (q0 42), .ref (q0 43), .ref (q0 44)])), kI G (q0 1) 6100 (gA o0 1), kI G (q0 2) 6100 (gA o0 2), kJ G (q0 3) 2016 (gB o0 3), kJ G (q0 4) 2016 (gB o0 4), kI G (q0 5) 300 (gA o0 5), kI G (q0 6) 400 (gA o0 6), kJ G (q0 28) 10 (gB o0 28), kI G (q0 31) 969 (gA o0 31), kI G (q0 32) 969 (gA o0 32), kI G (q0 33) 969 (gA o0 33), kI G (q0 38) 5 (gA o0 38), kI G (q0 39) 5120 (gA o0 39), kI G (q0 41) 5 (gA o0 41), kZ G (q0 42) 1024 (gA o0 42), kI G (q0 43) 8192 (gA o0 43), kI G (q0 44) 8192 (gA o0 44)]) (wr := []) (w2 := fun (u : Unit) => [(h0, .inr (11, [.int (gI o0 0), .ref (q0 1), .ref (q0 2), .ref (q0 3), .ref (q0 4), .ref (q0 5), .ref (q0 6), .int (gI o0 7), .int (gI o0 8), .int (gI o0 9), .int (gI o0 10), .int (gI o0 11), .int (gI o0 12), .int (gI o0 13), .int (gI o0 14), .long (gL o0 15), .int (gI o0 16), .int (gI o0 17), .int (gI o0 18), .int (gI o0 19), .int (gI o0 20), .int (gI o0 21), .int (gI o0 22), .int (gI o0 23), .int (gI o0 24), .int (gI o0 25), .int (gI o0 26), .int (gI o0 27), .ref (q0 28), .long (gL o0 29), .int (gI o0 30), .ref (q0 31), .ref (q0 32), .ref (q0 33), .int (gI o0 34), .int (gI o0 35), .int (gI o0 36), .int (gI o0 37), .ref (q0 38), .ref (q0 39), .int (gI o0 40), .ref (q0 41), .ref (q0 42), .ref (q0 43), .ref (q0 44)])), kI G (q0 1) 6100 (gA o0 1), kI G (q0 2) 6100 (gA o0 2), kJ G (q0 3) 2016 (gB o0 3), kJ G (q0 4) 2016 (gB o0 4), kI G (q0 5) 300 (gA o0 5), kI G (q0 6) 400 (gA o0 6), kJ G (q0 28) 10 (gB o0 28), kI G (q0 31) 969 (gA o0 31), kI G (q0 32) 969 (gA o0 32), kI G (q0 33) 969 (gA o0 33), kI G (q0 38) 5 (gA o0 38), kI G (q0 39) 5120 (gA o0 39), kI G (q0 41) 5 (gA o0 41), kZ G (q0 42) 1024 (gA o0 42), kI G (q0 43) 8192 (gA o0 43), kI G (q0 44) 8192 (gA o0 44)]) C (c_Md_isPiece (h0 := h0) (q0 := q0) H.size h) wv_Md_169 ⟨Nat.le_of_ble_eq_true rfl, Nat.le_of_ble_eq_true rfl⟩ hP hD hS 0 rfl rfl [0, 1, 2, 3, 4, 5, 6, 7, 8, 9, 10, 11, 12, 13, 14, 15, 16] [] rfl rfl (by decide) (by decide) (by decide) [0, 1, 2, 3, 4, 5, 6, 7, 8, 9, 10, 11, 12, 13, 14, 15, 16] (by decide) (fun u => rfl) rfl hl.1 rfl (lv_room (Nat.le_of_ble_eq_true rfl)) d_Md_maker_12 ⟨Nat.le_of_ble_eq_true rfl, Nat.le_of_ble_eq_true rfl⟩ rfl rfl (fun z10 u H locs h hP hD hS => ?_)
    have hP : va_P G.1 CL [(h0, .inr (11, [.int (gI o0 0), .ref (q0 1), .ref (q0 2), .ref (q0 3), .ref (q0 4), .ref (q0 5), .ref (q0 6), .int (gI o0 7), .int (gI o0 8), .int (gI o0 9), .int (gI o0 10), .int (gI o0 11), .int (gI o0 12), .int (gI o0 13), .int (gI o0 14), .long (gL o0 15), .int (gI o0 16), .int (gI o0 17), .int (gI o0 18), .int (gI o0 19), .int (gI o0 20), .int (gI o0 21), .int (gI o0 22), .int (gI o0 23), .int (gI o0 24), .int (gI o0 25), .int (gI o0 26), .int (gI o0 27), .ref (q0 28), .long (gL o0 29), .int (gI o0 30), .ref (q0 31), .ref (q0 32), .ref (q0 33), .int (gI o0 34), .int (gI o0 35), .int (gI o0 36), .int (gI o0 37), .ref (q0 38), .ref (q0 39), .int (gI o0 40), .ref (q0 41), .ref (q0 42), .ref (q0 43), .ref (q0 44)])), kI G (q0 1) 6100 (gA o0 1), kI G (q0 2) 6100 (gA o0 2), kJ G (q0 3) 2016 (gB o0 3), kJ G (q0 4) 2016 (gB o0 4), kI G (q0 5) 300 (gA o0 5), kI G (q0 6) 400 (gA o0 6), kJ G (q0 28) 10 (gB o0 28), kI G (q0 31) 969 (gA o0 31), kI G (q0 32) 969 (gA o0 32), kI G (q0 33) 969 (gA o0 33), kI G (q0 38) 5 (gA o0 38), kI G (q0 39) 5120 (gA o0 39), kI G (q0 41) 5 (gA o0 41), kZ G (q0 42) 1024 (gA o0 42), kI G (q0 43) 8192 (gA o0 43), kI G (q0 44) 8192 (gA o0 44)] H := hP
    have hD : va_D A [(h0, .inr (11, [.int (gI o0 0), .ref (q0 1), .ref (q0 2), .ref (q0 3), .ref (q0 4), .ref (q0 5), .ref (q0 6), .int (gI o0 7), .int (gI o0 8), .int (gI o0 9), .int (gI o0 10), .int (gI o0 11), .int (gI o0 12), .int (gI o0 13), .int (gI o0 14), .long (gL o0 15), .int (gI o0 16), .int (gI o0 17), .int (gI o0 18), .int (gI o0 19), .int (gI o0 20), .int (gI o0 21), .int (gI o0 22), .int (gI o0 23), .int (gI o0 24), .int (gI o0 25), .int (gI o0 26), .int (gI o0 27), .ref (q0 28), .long (gL o0 29), .int (gI o0 30), .ref (q0 31), .ref (q0 32), .ref (q0 33), .int (gI o0 34), .int (gI o0 35), .int (gI o0 36), .int (gI o0 37), .ref (q0 38), .ref (q0 39), .int (gI o0 40), .ref (q0 41), .ref (q0 42), .ref (q0 43), .ref (q0 44)])), kI G (q0 1) 6100 (gA o0 1), kI G (q0 2) 6100 (gA o0 2), kJ G (q0 3) 2016 (gB o0 3), kJ G (q0 4) 2016 (gB o0 4), kI G (q0 5) 300 (gA o0 5), kI G (q0 6) 400 (gA o0 6), kJ G (q0 28) 10 (gB o0 28), kI G (q0 31) 969 (gA o0 31), kI G (q0 32) 969 (gA o0 32), kI G (q0 33) 969 (gA o0 33), kI G (q0 38) 5 (gA o0 38), kI G (q0 39) 5120 (gA o0 39), kI G (q0 41) 5 (gA o0 41), kZ G (q0 42) 1024 (gA o0 42), kI G (q0 43) 8192 (gA o0 43), kI G (q0 44) 8192 (gA o0 44)] := hD
    refine lv_if_eq (tgt := 31) hx hb d_Md_maker_15 (by decide) (fun c11 => ?_) (fun c11 => ?_)
    · have h := h.1 c11
      refine lv_iconst (v := (-1 : Int32)) hx hb d_Md_maker_31 (by decide) ?_
      have hP : va_P G.1 CL (cw_Md G h0 q0 o0) H := hP
      have hD : va_D A (cw_Md G h0 q0 o0) := hD
      exact W.iret (v := (-1 : Int32)) hx hb hr (fun t ht hW => ⟨⟨(-1 : Int32), o0, rfl, h, by rw [ht]; exact hP, va_K.moved hW.alike hK, hD⟩, hS.F ht⟩) hS.2.2 d_Md_maker_32
    · have h := h.2 c11
      refine lv_iload_n hx hb d_Md_maker_18 rfl (lv_at hl 2 rfl) ?_
      refine lv_if_lt (tgt := 31) hx hb d_Md_maker_19 (by decide) (fun c12 => ?_) (fun c12 => ?_)
      · have h := h.1 c12
        refine lv_iconst (v := (-1 : Int32)) hx hb d_Md_maker_31 (by decide) ?_
        have hP : va_P G.1 CL (cw_Md G h0 q0 o0) H := hP
        have hD : va_D A (cw_Md G h0 q0 o0) := hD
        exact W.iret (v := (-1 : Int32)) hx hb hr (fun t ht hW => ⟨⟨(-1 : Int32), o0, rfl, h, by rw [ht]; exact hP, va_K.moved hW.alike hK, hD⟩, hS.F ht⟩) hS.2.2 d_Md_maker_32
      · have h := h.2 c12
        refine lv_iload_n hx hb d_Md_maker_22 rfl (lv_at hl 2 rfl) ?_
        refine lv_aload_n hx hb d_Md_maker_23 rfl (lv_at hl 0 rfl) ?_
        refine lv_iload_n hx hb d_Md_maker_24 rfl (lv_at hl 1 rfl) ?_
        refine cl_Vi (b := b_Md_maker) (As := [.int a0]) (rest := [.int a1]) (ws := [(h0, .inr (11, [.int (gI o0 0), .ref (q0 1), .ref (q0 2), .ref (q0 3), .ref (q0 4), .ref (q0 5), .ref (q0 6), .int (gI o0 7), .int (gI o0 8), .int (gI o0 9), .int (gI o0 10), .int (gI o0 11), .int (gI o0 12), .int (gI o0 13), .int (gI o0 14), .long (gL o0 15), .int (gI o0 16), .int (gI o0 17), .int (gI o0 18), .int (gI o0 19), .int (gI o0 20), .int (gI o0 21), .int (gI o0 22), .int (gI o0 23), .int (gI o0 24), .int (gI o0 25), .int (gI o0 26), .int (gI o0 27), .ref (q0 28), .long (gL o0 29), .int (gI o0 30), .ref (q0 31), .ref (q0 32), .ref (q0 33), .int (gI o0 34), .int (gI o0 35), .int (gI o0 36), .int (gI o0 37), .ref (q0 38), .ref (q0 39), .int (gI o0 40), .ref (q0 41), .ref (q0 42), .ref (q0 43), .ref (q0 44)])), kI G (q0 1) 6100 (gA o0 1), kI G (q0 2) 6100 (gA o0 2), kJ G (q0 3) 2016 (gB o0 3), kJ G (q0 4) 2016 (gB o0 4), kI G (q0 5) 300 (gA o0 5), kI G (q0 6) 400 (gA o0 6), kJ G (q0 28) 10 (gB o0 28), kI G (q0 31) 969 (gA o0 31), kI G (q0 32) 969 (gA o0 32), kI G (q0 33) 969 (gA o0 33), kI G (q0 38) 5 (gA o0 38), kI G (q0 39) 5120 (gA o0 39), kI G (q0 41) 5 (gA o0 41), kZ G (q0 42) 1024 (gA o0 42), kI G (q0 43) 8192 (gA o0 43), kI G (q0 44) 8192 (gA o0 44)]) (wr := []) (w2 := fun (u : Ob) => [(h0, .inr (11, [.int (gI u 0), .ref (q0 1), .ref (q0 2), .ref (q0 3), .ref (q0 4), .ref (q0 5), .ref (q0 6), .int (gI u 7), .int (gI u 8), .int (gI u 9), .int (gI u 10), .int (gI u 11), .int (gI u 12), .int (gI u 13), .int (gI u 14), .long (gL u 15), .int (gI u 16), .int (gI u 17), .int (gI u 18), .int (gI u 19), .int (gI u 20), .int (gI u 21), .int (gI u 22), .int (gI u 23), .int (gI u 24), .int (gI u 25), .int (gI u 26), .int (gI u 27), .ref (q0 28), .long (gL u 29), .int (gI u 30), .ref (q0 31), .ref (q0 32), .ref (q0 33), .int (gI u 34), .int (gI u 35), .int (gI u 36), .int (gI u 37), .ref (q0 38), .ref (q0 39), .int (gI u 40), .ref (q0 41), .ref (q0 42), .ref (q0 43), .ref (q0 44)])), kI G (q0 1) 6100 (gA u 1), kI G (q0 2) 6100 (gA u 2), kJ G (q0 3) 2016 (gB u 3), kJ G (q0 4) 2016 (gB u 4), kI G (q0 5) 300 (gA u 5), kI G (q0 6) 400 (gA u 6), kJ G (q0 28) 10 (gB u 28), kI G (q0 31) 969 (gA u 31), kI G (q0 32) 969 (gA u 32), kI G (q0 33) 969 (gA u 33), kI G (q0 38) 5 (gA u 38), kI G (q0 39) 5120 (gA u 39), kI G (q0 41) 5 (gA u 41), kZ G (q0 42) 1024 (gA u 42), kI G (q0 43) 8192 (gA u 43), kI G (q0 44) 8192 (gA u 44)]) C (c_Md_findMakers (h0 := h0) (q0 := q0) H.size h) wv_Md_286 ⟨Nat.le_of_ble_eq_true rfl, Nat.le_of_ble_eq_true rfl⟩ hP hD hS 0 rfl rfl [0, 1, 2, 3, 4, 5, 6, 7, 8, 9, 10, 11, 12, 13, 14, 15, 16] [] rfl rfl (by decide) (by decide) (by decide) [0, 1, 2, 3, 4, 5, 6, 7, 8, 9, 10, 11, 12, 13, 14, 15, 16] (by decide) (fun u => rfl) rfl hl.1 rfl (lv_room (Nat.le_of_ble_eq_true rfl)) d_Md_maker_25 ⟨Nat.le_of_ble_eq_true rfl, Nat.le_of_ble_eq_true rfl⟩ rfl rfl (fun z13 u H locs h hP hD hS => ?_)
        generalize u = u14 at h hP hD
        have hP : va_P G.1 CL [(h0, .inr (11, [.int (gI u14 0), .ref (q0 1), .ref (q0 2), .ref (q0 3), .ref (q0 4), .ref (q0 5), .ref (q0 6), .int (gI u14 7), .int (gI u14 8), .int (gI u14 9), .int (gI u14 10), .int (gI u14 11), .int (gI u14 12), .int (gI u14 13), .int (gI u14 14), .long (gL u14 15), .int (gI u14 16), .int (gI u14 17), .int (gI u14 18), .int (gI u14 19), .int (gI u14 20), .int (gI u14 21), .int (gI u14 22), .int (gI u14 23), .int (gI u14 24), .int (gI u14 25), .int (gI u14 26), .int (gI u14 27), .ref (q0 28), .long (gL u14 29), .int (gI u14 30), .ref (q0 31), .ref (q0 32), .ref (q0 33), .int (gI u14 34), .int (gI u14 35), .int (gI u14 36), .int (gI u14 37), .ref (q0 38), .ref (q0 39), .int (gI u14 40), .ref (q0 41), .ref (q0 42), .ref (q0 43), .ref (q0 44)])), kI G (q0 1) 6100 (gA u14 1), kI G (q0 2) 6100 (gA u14 2), kJ G (q0 3) 2016 (gB u14 3), kJ G (q0 4) 2016 (gB u14 4), kI G (q0 5) 300 (gA u14 5), kI G (q0 6) 400 (gA u14 6), kJ G (q0 28) 10 (gB u14 28), kI G (q0 31) 969 (gA u14 31), kI G (q0 32) 969 (gA u14 32), kI G (q0 33) 969 (gA u14 33), kI G (q0 38) 5 (gA u14 38), kI G (q0 39) 5120 (gA u14 39), kI G (q0 41) 5 (gA u14 41), kZ G (q0 42) 1024 (gA u14 42), kI G (q0 43) 8192 (gA u14 43), kI G (q0 44) 8192 (gA u14 44)] H := hP
        have hD : va_D A [(h0, .inr (11, [.int (gI u14 0), .ref (q0 1), .ref (q0 2), .ref (q0 3), .ref (q0 4), .ref (q0 5), .ref (q0 6), .int (gI u14 7), .int (gI u14 8), .int (gI u14 9), .int (gI u14 10), .int (gI u14 11), .int (gI u14 12), .int (gI u14 13), .int (gI u14 14), .long (gL u14 15), .int (gI u14 16), .int (gI u14 17), .int (gI u14 18), .int (gI u14 19), .int (gI u14 20), .int (gI u14 21), .int (gI u14 22), .int (gI u14 23), .int (gI u14 24), .int (gI u14 25), .int (gI u14 26), .int (gI u14 27), .ref (q0 28), .long (gL u14 29), .int (gI u14 30), .ref (q0 31), .ref (q0 32), .ref (q0 33), .int (gI u14 34), .int (gI u14 35), .int (gI u14 36), .int (gI u14 37), .ref (q0 38), .ref (q0 39), .int (gI u14 40), .ref (q0 41), .ref (q0 42), .ref (q0 43), .ref (q0 44)])), kI G (q0 1) 6100 (gA u14 1), kI G (q0 2) 6100 (gA u14 2), kJ G (q0 3) 2016 (gB u14 3), kJ G (q0 4) 2016 (gB u14 4), kI G (q0 5) 300 (gA u14 5), kI G (q0 6) 400 (gA u14 6), kJ G (q0 28) 10 (gB u14 28), kI G (q0 31) 969 (gA u14 31), kI G (q0 32) 969 (gA u14 32), kI G (q0 33) 969 (gA u14 33), kI G (q0 38) 5 (gA u14 38), kI G (q0 39) 5120 (gA u14 39), kI G (q0 41) 5 (gA u14 41), kZ G (q0 42) 1024 (gA u14 42), kI G (q0 43) 8192 (gA u14 43), kI G (q0 44) 8192 (gA u14 44)] := hD
        refine lv_icmp_lt (tgt := 33) hx hb d_Md_maker_28 (by decide) (fun c15 => ?_) (fun c15 => ?_)
        · have h := h.1 c15
          refine lv_iload_n hx hb d_Md_maker_33 rfl (lv_at hl 2 rfl) ?_
          refine lv_istore (lv' := [(4, .int a1), (0, .ref h0), (1, .int a0), (2, .int a1), (3, .int a2)]) hx hb d_Md_maker_34 hl (by decide) rfl (fun ls hl => ?_)
          refine lv_iconst (v := (0 : Int32)) hx hb d_Md_maker_36 (by decide) ?_
          refine lv_istore (lv' := [(5, .int (0 : Int32)), (4, .int a1), (0, .ref h0), (1, .int a0), (2, .int a1), (3, .int a2)]) hx hb d_Md_maker_37 hl (by decide) rfl (fun ls hl => ?_)
          have hl := lv_sub (l' := [(0, .ref h0), (3, .int a2), (4, .int a1), (5, .int (0 : Int32))]) hl [2, 5, 1, 0] rfl
          have hP : va_P G.1 CL (cw_Md G h0 q0 u14) H := hP
          have hD : va_D A (cw_Md G h0 q0 u14) := hD
          obtain ⟨w, h⟩ := h
          exact t_Md_maker_39 Q C w a2 a1 (0 : Int32) u14 ls _ locs hl hP hD hS h
        · have h := h.2 c15
          refine lv_iconst (v := (-1 : Int32)) hx hb d_Md_maker_31 (by decide) ?_
          have hP : va_P G.1 CL (cw_Md G h0 q0 u14) H := hP
          have hD : va_D A (cw_Md G h0 q0 u14) := hD
          exact W.iret (v := (-1 : Int32)) hx hb hr (fun t ht hW => ⟨⟨(-1 : Int32), u14, rfl, h, by rw [ht]; exact hP, va_K.moved hW.alike hK, hD⟩, hS.F ht⟩) hS.2.2 d_Md_maker_32
abbrev b_Md_apart : ByteArray := prog_14_method_61_code
def y_Md_apart : MethodName := ⟨R_Md, "apart", "(II)I"⟩
abbrev w_Md_apart : List Cond := Cond.code y_Md_apart b_Md_apart 6 (some .int) :: gw_tbl
theorem d_Md_apart_0 : decode b_Md_apart 0 = .ok (.iconst 0, 1) := by decide +kernel
theorem d_Md_apart_1 : decode b_Md_apart 1 = .ok (.istore_n 3, 1) := by decide +kernel
theorem d_Md_apart_2 : decode b_Md_apart 2 = .ok (.iconst 0, 1) := by decide +kernel
theorem d_Md_apart_3 : decode b_Md_apart 3 = .ok (.istore 4, 2) := by decide +kernel
theorem d_Md_apart_5 : decode b_Md_apart 5 = .ok (.iload 4, 2) := by decide +kernel
theorem d_Md_apart_7 : decode b_Md_apart 7 = .ok (.aload_n 0, 1) := by decide +kernel
theorem d_Md_apart_8 : decode b_Md_apart 8 = .ok (.getfield 67, 3) := by decide +kernel
theorem d_Md_apart_11 : decode b_Md_apart 11 = .ok (.if_icmp .ge 50, 3) := by decide +kernel
theorem d_Md_apart_14 : decode b_Md_apart 14 = .ok (.aload_n 0, 1) := by decide +kernel
theorem d_Md_apart_15 : decode b_Md_apart 15 = .ok (.getfield 51, 3) := by decide +kernel
theorem d_Md_apart_18 : decode b_Md_apart 18 = .ok (.iconst 5, 1) := by decide +kernel
theorem d_Md_apart_19 : decode b_Md_apart 19 = .ok (.iload_n 1, 1) := by decide +kernel
theorem d_Md_apart_20 : decode b_Md_apart 20 = .ok (.imul, 1) := by decide +kernel
theorem d_Md_apart_21 : decode b_Md_apart 21 = .ok (.iload 4, 2) := by decide +kernel
theorem d_Md_apart_23 : decode b_Md_apart 23 = .ok (.iadd, 1) := by decide +kernel
theorem d_Md_apart_24 : decode b_Md_apart 24 = .ok (.iaload, 1) := by decide +kernel
theorem d_Md_apart_25 : decode b_Md_apart 25 = .ok (.aload_n 0, 1) := by decide +kernel
theorem d_Md_apart_26 : decode b_Md_apart 26 = .ok (.getfield 51, 3) := by decide +kernel
theorem d_Md_apart_29 : decode b_Md_apart 29 = .ok (.iconst 5, 1) := by decide +kernel
theorem d_Md_apart_30 : decode b_Md_apart 30 = .ok (.iload_n 2, 1) := by decide +kernel
theorem d_Md_apart_31 : decode b_Md_apart 31 = .ok (.imul, 1) := by decide +kernel
theorem d_Md_apart_32 : decode b_Md_apart 32 = .ok (.iload 4, 2) := by decide +kernel
theorem d_Md_apart_34 : decode b_Md_apart 34 = .ok (.iadd, 1) := by decide +kernel
theorem d_Md_apart_35 : decode b_Md_apart 35 = .ok (.iaload, 1) := by decide +kernel
theorem d_Md_apart_36 : decode b_Md_apart 36 = .ok (.isub, 1) := by decide +kernel
theorem d_Md_apart_37 : decode b_Md_apart 37 = .ok (.istore 5, 2) := by decide +kernel
theorem d_Md_apart_39 : decode b_Md_apart 39 = .ok (.iload_n 3, 1) := by decide +kernel
theorem d_Md_apart_40 : decode b_Md_apart 40 = .ok (.iload 5, 2) := by decide +kernel
theorem d_Md_apart_42 : decode b_Md_apart 42 = .ok (.ifCond .ge 9, 3) := by decide +kernel
theorem d_Md_apart_45 : decode b_Md_apart 45 = .ok (.iload 5, 2) := by decide +kernel
theorem d_Md_apart_47 : decode b_Md_apart 47 = .ok (.ineg, 1) := by decide +kernel
theorem d_Md_apart_48 : decode b_Md_apart 48 = .ok (.goto 5, 3) := by decide +kernel
theorem d_Md_apart_51 : decode b_Md_apart 51 = .ok (.iload 5, 2) := by decide +kernel
theorem d_Md_apart_53 : decode b_Md_apart 53 = .ok (.iadd, 1) := by decide +kernel
theorem d_Md_apart_54 : decode b_Md_apart 54 = .ok (.istore_n 3, 1) := by decide +kernel
theorem d_Md_apart_55 : decode b_Md_apart 55 = .ok (.iinc 4 1, 3) := by decide +kernel
theorem d_Md_apart_58 : decode b_Md_apart 58 = .ok (.goto (-53), 3) := by decide +kernel
theorem d_Md_apart_61 : decode b_Md_apart 61 = .ok (.iload_n 3, 1) := by decide +kernel
theorem d_Md_apart_62 : decode b_Md_apart 62 = .ok (.ireturn, 1) := by decide +kernel
def f_Md_apart_5 (o0 : Ob) (Q : Int32 → Prop) : Nat → Int32 → Int32 → Int32 → Int32 → Prop
  | 0, _, _, _, _ => False
  | n + 1, x1, x2, x3, x4 => ((gI o0 0) ≤ x4 → (Q x3)) ∧ (¬ (gI o0 0) ≤ x4 → ((vp_in (((5 : Int32) * x1) + x4) 5120) ∧ (∀ y3 : Int32, y3 = ((gA o0 39) ((((5 : Int32) * x1) + x4).toNatClampNeg)) → ((vp_in (((5 : Int32) * x2) + x4) 5120) ∧ (∀ y5 : Int32, y5 = ((gA o0 39) ((((5 : Int32) * x2) + x4).toNatClampNeg)) → ((0 ≤ (y3 - y5) → ((f_Md_apart_5 o0 Q n) x1 x2 (x3 + (y3 - y5)) (x4 + (1 : Int32)))) ∧ (¬ 0 ≤ (y3 - y5) → ((f_Md_apart_5 o0 Q n) x1 x2 (x3 + (-(y3 - y5))) (x4 + (1 : Int32))))))))))
def f_Md_apart (a0 : Int32) (a1 : Int32) (o0 : Ob) (Q : Int32 → Prop) : Prop := (∃ w, f_Md_apart_5 o0 Q w a0 a1 (0 : Int32) (0 : Int32))
abbrev rm_Md_apart : Room := { frames := 0, cells := 0, slots := 0, locals := 0 }
set_option maxHeartbeats 4000000 in
set_option maxRecDepth 100000 in
theorem t_Md_apart_5 {p : Program} {l : Launch} {e : Env} {s : State} {m : MethodId} {args : Array Value} {below : List Frame} {meth : Method} {c : Code} {A : Nat → Prop} {G : Gl} {h0 : Nat} {q0 : Nat → Nat} (o0 : Ob) (Q : Int32 → Prop) (C : Cx p s m args meth c R_Md b_Md_apart 6 (some .int) G A) :
    ∀ (n : Nat) (x1 : Int32) (x2 : Int32) (x3 : Int32) (x4 : Int32) (ls : Array Slot) (H : Heap) (locs : List Loc), lv_has ls 6 [(0, .ref h0), (1, .int x1), (2, .int x2), (3, .int x3), (4, .int x4)] → va_P G.1 CL (cw_Md G h0 q0 o0) H → va_D A (cw_Md G h0 q0 o0) → va_S A s.heap H locs → f_Md_apart_5 o0 Q n x1 x2 x3 x4 → W p l e rm_Md_apart s m args below meth c H locs 0 0 (MQ below (va_Qi (fun (r : Int32) (u : Unit) => Q r) (fun (u : Unit) t => BW G A (cw_Md G h0 q0 o0) t) A) args s 0 0 A) (F0 m 5 ls []) := by
  obtain ⟨hx, hb, hml, hown, hr, hts, hK, hA, hlocks, hE⟩ := id C
  intro n
  induction n with
  | zero => intro x1 x2 x3 x4 ls H locs hl hP hD hS h; exact absurd h id
  | succ n ih =>
    intro x1 x2 x3 x4 ls H locs hl hP hD hS h
    have hP : va_P G.1 CL [(h0, .inr (11, [.int (gI o0 0), .ref (q0 1), .ref (q0 2), .ref (q0 3), .ref (q0 4), .ref (q0 5), .ref (q0 6), .int (gI o0 7), .int (gI o0 8), .int (gI o0 9), .int (gI o0 10), .int (gI o0 11), .int (gI o0 12), .int (gI o0 13), .int (gI o0 14), .long (gL o0 15), .int (gI o0 16), .int (gI o0 17), .int (gI o0 18), .int (gI o0 19), .int (gI o0 20), .int (gI o0 21), .int (gI o0 22), .int (gI o0 23), .int (gI o0 24), .int (gI o0 25), .int (gI o0 26), .int (gI o0 27), .ref (q0 28), .long (gL o0 29), .int (gI o0 30), .ref (q0 31), .ref (q0 32), .ref (q0 33), .int (gI o0 34), .int (gI o0 35), .int (gI o0 36), .int (gI o0 37), .ref (q0 38), .ref (q0 39), .int (gI o0 40), .ref (q0 41), .ref (q0 42), .ref (q0 43), .ref (q0 44)])), kI G (q0 1) 6100 (gA o0 1), kI G (q0 2) 6100 (gA o0 2), kJ G (q0 3) 2016 (gB o0 3), kJ G (q0 4) 2016 (gB o0 4), kI G (q0 5) 300 (gA o0 5), kI G (q0 6) 400 (gA o0 6), kJ G (q0 28) 10 (gB o0 28), kI G (q0 31) 969 (gA o0 31), kI G (q0 32) 969 (gA o0 32), kI G (q0 33) 969 (gA o0 33), kI G (q0 38) 5 (gA o0 38), kI G (q0 39) 5120 (gA o0 39), kI G (q0 41) 5 (gA o0 41), kZ G (q0 42) 1024 (gA o0 42), kI G (q0 43) 8192 (gA o0 43), kI G (q0 44) 8192 (gA o0 44)] H := hP
    have hD : va_D A [(h0, .inr (11, [.int (gI o0 0), .ref (q0 1), .ref (q0 2), .ref (q0 3), .ref (q0 4), .ref (q0 5), .ref (q0 6), .int (gI o0 7), .int (gI o0 8), .int (gI o0 9), .int (gI o0 10), .int (gI o0 11), .int (gI o0 12), .int (gI o0 13), .int (gI o0 14), .long (gL o0 15), .int (gI o0 16), .int (gI o0 17), .int (gI o0 18), .int (gI o0 19), .int (gI o0 20), .int (gI o0 21), .int (gI o0 22), .int (gI o0 23), .int (gI o0 24), .int (gI o0 25), .int (gI o0 26), .int (gI o0 27), .ref (q0 28), .long (gL o0 29), .int (gI o0 30), .ref (q0 31), .ref (q0 32), .ref (q0 33), .int (gI o0 34), .int (gI o0 35), .int (gI o0 36), .int (gI o0 37), .ref (q0 38), .ref (q0 39), .int (gI o0 40), .ref (q0 41), .ref (q0 42), .ref (q0 43), .ref (q0 44)])), kI G (q0 1) 6100 (gA o0 1), kI G (q0 2) 6100 (gA o0 2), kJ G (q0 3) 2016 (gB o0 3), kJ G (q0 4) 2016 (gB o0 4), kI G (q0 5) 300 (gA o0 5), kI G (q0 6) 400 (gA o0 6), kJ G (q0 28) 10 (gB o0 28), kI G (q0 31) 969 (gA o0 31), kI G (q0 32) 969 (gA o0 32), kI G (q0 33) 969 (gA o0 33), kI G (q0 38) 5 (gA o0 38), kI G (q0 39) 5120 (gA o0 39), kI G (q0 41) 5 (gA o0 41), kZ G (q0 42) 1024 (gA o0 42), kI G (q0 43) 8192 (gA o0 43), kI G (q0 44) 8192 (gA o0 44)] := hD
    unfold f_Md_apart_5 at h
    refine lv_iload hx hb d_Md_apart_5 (lv_at hl 4 rfl) ?_
    refine lv_aload_n hx hb d_Md_apart_7 rfl (lv_at hl 0 rfl) ?_
    refine va_get (D := G.1) (ci := 11) (v := .int (gI o0 0)) (C := R_Md) (T := T_Md) (N := 45) hx hb hts i_Md hown hK hP 0 rfl rfl 0 (by decide) (hts _ wf_Md_67) (fun _ h9 => h9) rfl d_Md_apart_8 ?_
    refine lv_icmp_ge (tgt := 61) hx hb d_Md_apart_11 (by decide) (fun c1 => ?_) (fun c1 => ?_)
    · have h := h.1 c1
      refine lv_iload_n hx hb d_Md_apart_61 rfl (lv_at hl 3 rfl) ?_
      have hP : va_P G.1 CL (cw_Md G h0 q0 o0) H := hP
      have hD : va_D A (cw_Md G h0 q0 o0) := hD
      exact W.iret (v := x3) hx hb hr (fun t ht hW => ⟨⟨x3, (), rfl, h, by rw [ht]; exact hP, va_K.moved hW.alike hK, hD⟩, hS.F ht⟩) hS.2.2 d_Md_apart_62
    · have h := h.2 c1
      refine lv_aload_n hx hb d_Md_apart_14 rfl (lv_at hl 0 rfl) ?_
      refine va_get (D := G.1) (ci := 11) (v := .ref (q0 39)) (C := R_Md) (T := T_Md) (N := 45) hx hb hts i_Md hown hK hP 0 rfl rfl 39 (by decide) (hts _ wf_Md_51) (fun _ h9 => h9) rfl d_Md_apart_15 ?_
      refine lv_iconst (v := (5 : Int32)) hx hb d_Md_apart_18 (by decide) ?_
      refine lv_iload_n hx hb d_Md_apart_19 rfl (lv_at hl 1 rfl) ?_
      refine lv_imul hx hb d_Md_apart_20 ?_
      refine lv_iload hx hb d_Md_apart_21 (lv_at hl 4 rfl) ?_
      refine lv_iadd hx hb d_Md_apart_23 ?_
      have g2 := h.1
      have h := h.2
      refine xa_iald hx hb hK hP 12 0 rfl rfl g2 (k := (((5 : Int32) * x1) + x4).toNatClampNeg) rfl d_Md_apart_24 ?_
      refine lv_topi (fun y3 ey3 => ?_)
      have h := h y3 ey3
      refine lv_aload_n hx hb d_Md_apart_25 rfl (lv_at hl 0 rfl) ?_
      refine va_get (D := G.1) (ci := 11) (v := .ref (q0 39)) (C := R_Md) (T := T_Md) (N := 45) hx hb hts i_Md hown hK hP 0 rfl rfl 39 (by decide) (hts _ wf_Md_51) (fun _ h9 => h9) rfl d_Md_apart_26 ?_
      refine lv_iconst (v := (5 : Int32)) hx hb d_Md_apart_29 (by decide) ?_
      refine lv_iload_n hx hb d_Md_apart_30 rfl (lv_at hl 2 rfl) ?_
      refine lv_imul hx hb d_Md_apart_31 ?_
      refine lv_iload hx hb d_Md_apart_32 (lv_at hl 4 rfl) ?_
      refine lv_iadd hx hb d_Md_apart_34 ?_
      have g4 := h.1
      have h := h.2
      refine xa_iald hx hb hK hP 12 0 rfl rfl g4 (k := (((5 : Int32) * x2) + x4).toNatClampNeg) rfl d_Md_apart_35 ?_
      refine lv_topi (fun y5 ey5 => ?_)
      have h := h y5 ey5
      refine lv_isub hx hb d_Md_apart_36 ?_
      refine lv_istore (lv' := [(5, .int (y3 - y5)), (0, .ref h0), (1, .int x1), (2, .int x2), (3, .int x3), (4, .int x4)]) hx hb d_Md_apart_37 hl (by decide) rfl (fun ls hl => ?_)
      refine lv_iload_n hx hb d_Md_apart_39 rfl (lv_at hl 4 rfl) ?_
      refine lv_iload hx hb d_Md_apart_40 (lv_at hl 0 rfl) ?_
      refine lv_if_ge (tgt := 51) hx hb d_Md_apart_42 (by decide) (fun c6 => ?_) (fun c6 => ?_)
      · have h := h.1 c6
        refine lv_iload hx hb d_Md_apart_51 (lv_at hl 0 rfl) ?_
        refine lv_iadd hx hb d_Md_apart_53 ?_
        refine lv_istore_n (lv' := [(3, .int (x3 + (y3 - y5))), (5, .int (y3 - y5)), (0, .ref h0), (1, .int x1), (2, .int x2), (4, .int x4)]) hx hb d_Md_apart_54 rfl hl (by decide) rfl (fun ls hl => ?_)
        refine lv_iinc (v := (x4 + (1 : Int32))) (lv' := [(4, .int (x4 + (1 : Int32))), (3, .int (x3 + (y3 - y5))), (5, .int (y3 - y5)), (0, .ref h0), (1, .int x1), (2, .int x2)]) hx hb d_Md_apart_55 hl (k := 5) rfl rfl (by decide) rfl (fun ls hl => ?_)
        refine lv_goto (tgt := 5) hx hb d_Md_apart_58 (by decide) ?_
        have hl := lv_sub (l' := [(0, .ref h0), (1, .int x1), (2, .int x2), (3, .int (x3 + (y3 - y5))), (4, .int (x4 + (1 : Int32)))]) hl [3, 4, 5, 1, 0] rfl
        have hP : va_P G.1 CL (cw_Md G h0 q0 o0) H := hP
        have hD : va_D A (cw_Md G h0 q0 o0) := hD
        exact ih x1 x2 (x3 + (y3 - y5)) (x4 + (1 : Int32)) ls H locs hl hP hD hS h
      · have h := h.2 c6
        refine lv_iload hx hb d_Md_apart_45 (lv_at hl 0 rfl) ?_
        refine lv_ineg hx hb d_Md_apart_47 ?_
        refine lv_goto (tgt := 53) hx hb d_Md_apart_48 (by decide) ?_
        refine lv_iadd hx hb d_Md_apart_53 ?_
        refine lv_istore_n (lv' := [(3, .int (x3 + (-(y3 - y5)))), (5, .int (y3 - y5)), (0, .ref h0), (1, .int x1), (2, .int x2), (4, .int x4)]) hx hb d_Md_apart_54 rfl hl (by decide) rfl (fun ls hl => ?_)
        refine lv_iinc (v := (x4 + (1 : Int32))) (lv' := [(4, .int (x4 + (1 : Int32))), (3, .int (x3 + (-(y3 - y5)))), (5, .int (y3 - y5)), (0, .ref h0), (1, .int x1), (2, .int x2)]) hx hb d_Md_apart_55 hl (k := 5) rfl rfl (by decide) rfl (fun ls hl => ?_)
        refine lv_goto (tgt := 5) hx hb d_Md_apart_58 (by decide) ?_
        have hl := lv_sub (l' := [(0, .ref h0), (1, .int x1), (2, .int x2), (3, .int (x3 + (-(y3 - y5)))), (4, .int (x4 + (1 : Int32)))]) hl [3, 4, 5, 1, 0] rfl
        have hP : va_P G.1 CL (cw_Md G h0 q0 o0) H := hP
        have hD : va_D A (cw_Md G h0 q0 o0) := hD
        exact ih x1 x2 (x3 + (-(y3 - y5))) (x4 + (1 : Int32)) ls H locs hl hP hD hS h
set_option maxHeartbeats 4000000 in
set_option maxRecDepth 100000 in
theorem c_Md_apart {l : Launch} {G : Gl} {h0 : Nat} {q0 : Nat → Nat} {a0 : Int32} {a1 : Int32} {o0 : Ob} {Q : Int32 → Prop} (sz : Nat) (h : f_Md_apart a0 a1 o0 Q) : Met l y_Md_apart w_Md_apart rm_Md_apart (PcW G [.ref h0, .int a0, .int a1] sz (cw_Md G h0 q0 o0)) (va_Qi (fun (r : Int32) (u : Unit) => Q r) (fun (u : Unit) t => BW G (va_A (cw_Md G h0 q0 o0) sz) (cw_Md G h0 q0 o0) t) (va_A (cw_Md G h0 q0 o0) sz)) 0 0 (va_A (cw_Md G h0 q0 o0) sz) := by
  refine Met.ofW (cc := b_Md_apart) (maxL := 6) (ret := (some .int)) (by decide +kernel) rfl ?_
  intro p e s m args below meth c s₁ B hml hv
  obtain ⟨rfl, hsz, hP, hK, hD0, hE⟩ := hv
  have hx := B.exec
  have hb := B.bytes
  have hr := B.returns
  have hts0 := atoms_spec (ws := w_Md_apart) B.pre
  have hts : ∀ w ∈ gw_tbl, w.before ([.ref h0, .int a0, .int a1]).toArray s = true := fun w hw => hts0 w (List.mem_cons_of_mem _ hw)
  have hown : s.vm.findClass R_Md = some m.cls := findClass_of_methodNamed B.named
  have hlocks := B.notSynchronized
  subst hsz
  have hD := hD0.self (sz := s.heap.size)
  generalize hAe : va_A (cw_Md G h0 q0 o0) s.heap.size = A at hD hE ⊢
  have hA : ∀ q : Nat, s.heap.size ≤ q → A q := fun q h => by rw [← hAe]; exact Or.inr h
  have hS : va_S A s.heap s.heap [] := va_S.rf
  have C : Cx p s m ([.ref h0, .int a0, .int a1]).toArray meth c R_Md b_Md_apart 6 (some .int) G A := ⟨hx, hb, hml, hown, hr, hts, hK, hA, hlocks, hE⟩
  have hl := lv_entry ([.ref h0, .int a0, .int a1]) (n := 6) (Nat.le_of_ble_eq_true rfl)
  rw [lg_entry_eq]
  generalize (lg_sl ([.ref h0, .int a0, .int a1]) ++ List.replicate (6 - (lg_sl ([.ref h0, .int a0, .int a1])).length) Slot.unset).toArray = ls at hl ⊢
  have hl : lv_has ls 6 [(0, .ref h0), (1, .int a0), (2, .int a1)] := hl
  have hD : va_D A [(h0, .inr (11, [.int (gI o0 0), .ref (q0 1), .ref (q0 2), .ref (q0 3), .ref (q0 4), .ref (q0 5), .ref (q0 6), .int (gI o0 7), .int (gI o0 8), .int (gI o0 9), .int (gI o0 10), .int (gI o0 11), .int (gI o0 12), .int (gI o0 13), .int (gI o0 14), .long (gL o0 15), .int (gI o0 16), .int (gI o0 17), .int (gI o0 18), .int (gI o0 19), .int (gI o0 20), .int (gI o0 21), .int (gI o0 22), .int (gI o0 23), .int (gI o0 24), .int (gI o0 25), .int (gI o0 26), .int (gI o0 27), .ref (q0 28), .long (gL o0 29), .int (gI o0 30), .ref (q0 31), .ref (q0 32), .ref (q0 33), .int (gI o0 34), .int (gI o0 35), .int (gI o0 36), .int (gI o0 37), .ref (q0 38), .ref (q0 39), .int (gI o0 40), .ref (q0 41), .ref (q0 42), .ref (q0 43), .ref (q0 44)])), kI G (q0 1) 6100 (gA o0 1), kI G (q0 2) 6100 (gA o0 2), kJ G (q0 3) 2016 (gB o0 3), kJ G (q0 4) 2016 (gB o0 4), kI G (q0 5) 300 (gA o0 5), kI G (q0 6) 400 (gA o0 6), kJ G (q0 28) 10 (gB o0 28), kI G (q0 31) 969 (gA o0 31), kI G (q0 32) 969 (gA o0 32), kI G (q0 33) 969 (gA o0 33), kI G (q0 38) 5 (gA o0 38), kI G (q0 39) 5120 (gA o0 39), kI G (q0 41) 5 (gA o0 41), kZ G (q0 42) 1024 (gA o0 42), kI G (q0 43) 8192 (gA o0 43), kI G (q0 44) 8192 (gA o0 44)] := hD
  unfold f_Md_apart at h
  suffices key : ∀ (H : Heap) (locs : List Loc), va_P G.1 CL [(h0, .inr (11, [.int (gI o0 0), .ref (q0 1), .ref (q0 2), .ref (q0 3), .ref (q0 4), .ref (q0 5), .ref (q0 6), .int (gI o0 7), .int (gI o0 8), .int (gI o0 9), .int (gI o0 10), .int (gI o0 11), .int (gI o0 12), .int (gI o0 13), .int (gI o0 14), .long (gL o0 15), .int (gI o0 16), .int (gI o0 17), .int (gI o0 18), .int (gI o0 19), .int (gI o0 20), .int (gI o0 21), .int (gI o0 22), .int (gI o0 23), .int (gI o0 24), .int (gI o0 25), .int (gI o0 26), .int (gI o0 27), .ref (q0 28), .long (gL o0 29), .int (gI o0 30), .ref (q0 31), .ref (q0 32), .ref (q0 33), .int (gI o0 34), .int (gI o0 35), .int (gI o0 36), .int (gI o0 37), .ref (q0 38), .ref (q0 39), .int (gI o0 40), .ref (q0 41), .ref (q0 42), .ref (q0 43), .ref (q0 44)])), kI G (q0 1) 6100 (gA o0 1), kI G (q0 2) 6100 (gA o0 2), kJ G (q0 3) 2016 (gB o0 3), kJ G (q0 4) 2016 (gB o0 4), kI G (q0 5) 300 (gA o0 5), kI G (q0 6) 400 (gA o0 6), kJ G (q0 28) 10 (gB o0 28), kI G (q0 31) 969 (gA o0 31), kI G (q0 32) 969 (gA o0 32), kI G (q0 33) 969 (gA o0 33), kI G (q0 38) 5 (gA o0 38), kI G (q0 39) 5120 (gA o0 39), kI G (q0 41) 5 (gA o0 41), kZ G (q0 42) 1024 (gA o0 42), kI G (q0 43) 8192 (gA o0 43), kI G (q0 44) 8192 (gA o0 44)] H → va_S A s.heap H locs → W p l e rm_Md_apart s m ([.ref h0, .int a0, .int a1]).toArray below meth c H locs 0 0 (MQ below (va_Qi (fun (r : Int32) (u : Unit) => Q r) (fun (u : Unit) t => BW G A (cw_Md G h0 q0 o0) t) A) ([.ref h0, .int a0, .int a1]).toArray s 0 0 A) (F0 m 0 ls []) from key s.heap [] hP hS
  intro H locs hP hS
  refine lv_iconst (v := (0 : Int32)) hx hb d_Md_apart_0 (by decide) ?_
  refine lv_istore_n (lv' := [(3, .int (0 : Int32)), (0, .ref h0), (1, .int a0), (2, .int a1)]) hx hb d_Md_apart_1 rfl hl (by decide) rfl (fun ls hl => ?_)
  refine lv_iconst (v := (0 : Int32)) hx hb d_Md_apart_2 (by decide) ?_
  refine lv_istore (lv' := [(4, .int (0 : Int32)), (3, .int (0 : Int32)), (0, .ref h0), (1, .int a0), (2, .int a1)]) hx hb d_Md_apart_3 hl (by decide) rfl (fun ls hl => ?_)
  have hl := lv_sub (l' := [(0, .ref h0), (1, .int a0), (2, .int a1), (3, .int (0 : Int32)), (4, .int (0 : Int32))]) hl [2, 3, 4, 1, 0] rfl
  have hP : va_P G.1 CL (cw_Md G h0 q0 o0) H := hP
  have hD : va_D A (cw_Md G h0 q0 o0) := hD
  obtain ⟨w, h⟩ := h
  exact t_Md_apart_5 o0 Q C w a0 a1 (0 : Int32) (0 : Int32) ls _ locs hl hP hD hS h
abbrev b_Md_nearest : ByteArray := prog_14_method_62_code
def y_Md_nearest : MethodName := ⟨R_Md, "nearest", "(II)I"⟩
abbrev w_Md_nearest : List Cond := Cond.code y_Md_nearest b_Md_nearest 9 (some .int) :: gw_tbl
theorem d_Md_nearest_0 : decode b_Md_nearest 0 = .ok (.iload_n 1, 1) := by decide +kernel
theorem d_Md_nearest_1 : decode b_Md_nearest 1 = .ok (.iconst 0, 1) := by decide +kernel
theorem d_Md_nearest_2 : decode b_Md_nearest 2 = .ok (.bipush 7, 2) := by decide +kernel
theorem d_Md_nearest_4 : decode b_Md_nearest 4 = .ok (.invokestatic 76, 3) := by decide +kernel
theorem d_Md_nearest_7 : decode b_Md_nearest 7 = .ok (.ifCond .eq 24, 3) := by decide +kernel
theorem d_Md_nearest_10 : decode b_Md_nearest 10 = .ok (.iload_n 2, 1) := by decide +kernel
theorem d_Md_nearest_11 : decode b_Md_nearest 11 = .ok (.iconst (-1), 1) := by decide +kernel
theorem d_Md_nearest_12 : decode b_Md_nearest 12 = .ok (.if_icmp .eq 11, 3) := by decide +kernel
theorem d_Md_nearest_15 : decode b_Md_nearest 15 = .ok (.aload_n 0, 1) := by decide +kernel
theorem d_Md_nearest_16 : decode b_Md_nearest 16 = .ok (.iload_n 2, 1) := by decide +kernel
theorem d_Md_nearest_17 : decode b_Md_nearest 17 = .ok (.invokevirtual 169, 3) := by decide +kernel
theorem d_Md_nearest_20 : decode b_Md_nearest 20 = .ok (.ifCond .eq 11, 3) := by decide +kernel
theorem d_Md_nearest_23 : decode b_Md_nearest 23 = .ok (.aload_n 0, 1) := by decide +kernel
theorem d_Md_nearest_24 : decode b_Md_nearest 24 = .ok (.iload_n 1, 1) := by decide +kernel
theorem d_Md_nearest_25 : decode b_Md_nearest 25 = .ok (.invokevirtual 286, 3) := by decide +kernel
theorem d_Md_nearest_28 : decode b_Md_nearest 28 = .ok (.ifCond .ne 5, 3) := by decide +kernel
theorem d_Md_nearest_31 : decode b_Md_nearest 31 = .ok (.iconst (-1), 1) := by decide +kernel
theorem d_Md_nearest_32 : decode b_Md_nearest 32 = .ok (.ireturn, 1) := by decide +kernel
theorem d_Md_nearest_33 : decode b_Md_nearest 33 = .ok (.iconst (-1), 1) := by decide +kernel
theorem d_Md_nearest_34 : decode b_Md_nearest 34 = .ok (.istore_n 3, 1) := by decide +kernel
theorem d_Md_nearest_35 : decode b_Md_nearest 35 = .ok (.iconst 0, 1) := by decide +kernel
theorem d_Md_nearest_36 : decode b_Md_nearest 36 = .ok (.istore 4, 2) := by decide +kernel
theorem d_Md_nearest_38 : decode b_Md_nearest 38 = .ok (.iconst 0, 1) := by decide +kernel
theorem d_Md_nearest_39 : decode b_Md_nearest 39 = .ok (.istore 5, 2) := by decide +kernel
theorem d_Md_nearest_41 : decode b_Md_nearest 41 = .ok (.iload 5, 2) := by decide +kernel
theorem d_Md_nearest_43 : decode b_Md_nearest 43 = .ok (.aload_n 0, 1) := by decide +kernel
theorem d_Md_nearest_44 : decode b_Md_nearest 44 = .ok (.getfield 273, 3) := by decide +kernel
theorem d_Md_nearest_47 : decode b_Md_nearest 47 = .ok (.if_icmp .ge 107, 3) := by decide +kernel
theorem d_Md_nearest_50 : decode b_Md_nearest 50 = .ok (.aload_n 0, 1) := by decide +kernel
theorem d_Md_nearest_51 : decode b_Md_nearest 51 = .ok (.getfield 57, 3) := by decide +kernel
theorem d_Md_nearest_54 : decode b_Md_nearest 54 = .ok (.iload 5, 2) := by decide +kernel
theorem d_Md_nearest_56 : decode b_Md_nearest 56 = .ok (.baload, 1) := by decide +kernel
theorem d_Md_nearest_57 : decode b_Md_nearest 57 = .ok (.ifCond .ne 6, 3) := by decide +kernel
theorem d_Md_nearest_60 : decode b_Md_nearest 60 = .ok (.goto 88, 3) := by decide +kernel
theorem d_Md_nearest_63 : decode b_Md_nearest 63 = .ok (.iconst 0, 1) := by decide +kernel
theorem d_Md_nearest_64 : decode b_Md_nearest 64 = .ok (.istore 6, 2) := by decide +kernel
theorem d_Md_nearest_66 : decode b_Md_nearest 66 = .ok (.iconst 0, 1) := by decide +kernel
theorem d_Md_nearest_67 : decode b_Md_nearest 67 = .ok (.istore 7, 2) := by decide +kernel
theorem d_Md_nearest_69 : decode b_Md_nearest 69 = .ok (.iload 7, 2) := by decide +kernel
theorem d_Md_nearest_71 : decode b_Md_nearest 71 = .ok (.aload_n 0, 1) := by decide +kernel
theorem d_Md_nearest_72 : decode b_Md_nearest 72 = .ok (.getfield 67, 3) := by decide +kernel
theorem d_Md_nearest_75 : decode b_Md_nearest 75 = .ok (.if_icmp .ge 52, 3) := by decide +kernel
theorem d_Md_nearest_78 : decode b_Md_nearest 78 = .ok (.aload_n 0, 1) := by decide +kernel
theorem d_Md_nearest_79 : decode b_Md_nearest 79 = .ok (.getfield 51, 3) := by decide +kernel
theorem d_Md_nearest_82 : decode b_Md_nearest 82 = .ok (.iconst 5, 1) := by decide +kernel
theorem d_Md_nearest_83 : decode b_Md_nearest 83 = .ok (.iload 5, 2) := by decide +kernel
theorem d_Md_nearest_85 : decode b_Md_nearest 85 = .ok (.imul, 1) := by decide +kernel
theorem d_Md_nearest_86 : decode b_Md_nearest 86 = .ok (.iload 7, 2) := by decide +kernel
theorem d_Md_nearest_88 : decode b_Md_nearest 88 = .ok (.iadd, 1) := by decide +kernel
theorem d_Md_nearest_89 : decode b_Md_nearest 89 = .ok (.iaload, 1) := by decide +kernel
theorem d_Md_nearest_90 : decode b_Md_nearest 90 = .ok (.aload_n 0, 1) := by decide +kernel
theorem d_Md_nearest_91 : decode b_Md_nearest 91 = .ok (.getfield 7, 3) := by decide +kernel
theorem d_Md_nearest_94 : decode b_Md_nearest 94 = .ok (.bipush 20, 2) := by decide +kernel
theorem d_Md_nearest_96 : decode b_Md_nearest 96 = .ok (.iload 7, 2) := by decide +kernel
theorem d_Md_nearest_98 : decode b_Md_nearest 98 = .ok (.iadd, 1) := by decide +kernel
theorem d_Md_nearest_99 : decode b_Md_nearest 99 = .ok (.iaload, 1) := by decide +kernel
theorem d_Md_nearest_100 : decode b_Md_nearest 100 = .ok (.isub, 1) := by decide +kernel
theorem d_Md_nearest_101 : decode b_Md_nearest 101 = .ok (.istore 8, 2) := by decide +kernel
theorem d_Md_nearest_103 : decode b_Md_nearest 103 = .ok (.iload 6, 2) := by decide +kernel
theorem d_Md_nearest_105 : decode b_Md_nearest 105 = .ok (.iload 8, 2) := by decide +kernel
theorem d_Md_nearest_107 : decode b_Md_nearest 107 = .ok (.ifCond .ge 9, 3) := by decide +kernel
theorem d_Md_nearest_110 : decode b_Md_nearest 110 = .ok (.iload 8, 2) := by decide +kernel
theorem d_Md_nearest_112 : decode b_Md_nearest 112 = .ok (.ineg, 1) := by decide +kernel
theorem d_Md_nearest_113 : decode b_Md_nearest 113 = .ok (.goto 5, 3) := by decide +kernel
theorem d_Md_nearest_116 : decode b_Md_nearest 116 = .ok (.iload 8, 2) := by decide +kernel
theorem d_Md_nearest_118 : decode b_Md_nearest 118 = .ok (.iadd, 1) := by decide +kernel
theorem d_Md_nearest_119 : decode b_Md_nearest 119 = .ok (.istore 6, 2) := by decide +kernel
theorem d_Md_nearest_121 : decode b_Md_nearest 121 = .ok (.iinc 7 1, 3) := by decide +kernel
theorem d_Md_nearest_124 : decode b_Md_nearest 124 = .ok (.goto (-55), 3) := by decide +kernel
theorem d_Md_nearest_127 : decode b_Md_nearest 127 = .ok (.iload_n 3, 1) := by decide +kernel
theorem d_Md_nearest_128 : decode b_Md_nearest 128 = .ok (.ifCond .lt 13, 3) := by decide +kernel
theorem d_Md_nearest_131 : decode b_Md_nearest 131 = .ok (.iload 6, 2) := by decide +kernel
theorem d_Md_nearest_133 : decode b_Md_nearest 133 = .ok (.iload 4, 2) := by decide +kernel
theorem d_Md_nearest_135 : decode b_Md_nearest 135 = .ok (.if_icmp .lt 6, 3) := by decide +kernel
theorem d_Md_nearest_138 : decode b_Md_nearest 138 = .ok (.goto 10, 3) := by decide +kernel
theorem d_Md_nearest_141 : decode b_Md_nearest 141 = .ok (.iload 5, 2) := by decide +kernel
theorem d_Md_nearest_143 : decode b_Md_nearest 143 = .ok (.istore_n 3, 1) := by decide +kernel
theorem d_Md_nearest_144 : decode b_Md_nearest 144 = .ok (.iload 6, 2) := by decide +kernel
theorem d_Md_nearest_146 : decode b_Md_nearest 146 = .ok (.istore 4, 2) := by decide +kernel
theorem d_Md_nearest_148 : decode b_Md_nearest 148 = .ok (.iinc 5 1, 3) := by decide +kernel
theorem d_Md_nearest_151 : decode b_Md_nearest 151 = .ok (.goto (-110), 3) := by decide +kernel
theorem d_Md_nearest_154 : decode b_Md_nearest 154 = .ok (.iload_n 2, 1) := by decide +kernel
theorem d_Md_nearest_155 : decode b_Md_nearest 155 = .ok (.iconst (-1), 1) := by decide +kernel
theorem d_Md_nearest_156 : decode b_Md_nearest 156 = .ok (.if_icmp .ne 8, 3) := by decide +kernel
theorem d_Md_nearest_159 : decode b_Md_nearest 159 = .ok (.iload 4, 2) := by decide +kernel
theorem d_Md_nearest_161 : decode b_Md_nearest 161 = .ok (.goto 13, 3) := by decide +kernel
theorem d_Md_nearest_164 : decode b_Md_nearest 164 = .ok (.aload_n 0, 1) := by decide +kernel
theorem d_Md_nearest_165 : decode b_Md_nearest 165 = .ok (.getfield 51, 3) := by decide +kernel
theorem d_Md_nearest_168 : decode b_Md_nearest 168 = .ok (.iconst 5, 1) := by decide +kernel
theorem d_Md_nearest_169 : decode b_Md_nearest 169 = .ok (.iload_n 3, 1) := by decide +kernel
theorem d_Md_nearest_170 : decode b_Md_nearest 170 = .ok (.imul, 1) := by decide +kernel
theorem d_Md_nearest_171 : decode b_Md_nearest 171 = .ok (.iload_n 2, 1) := by decide +kernel
theorem d_Md_nearest_172 : decode b_Md_nearest 172 = .ok (.iadd, 1) := by decide +kernel
theorem d_Md_nearest_173 : decode b_Md_nearest 173 = .ok (.iaload, 1) := by decide +kernel
theorem d_Md_nearest_174 : decode b_Md_nearest 174 = .ok (.ireturn, 1) := by decide +kernel
def f_Md_nearest_69 (k41 : Int32 → Int32 → Int32 → Int32 → Ob → Prop) (Q : Int32 → Ob → Prop) : Nat → Int32 → Int32 → Int32 → Int32 → Int32 → Int32 → Ob → Prop
  | 0, _, _, _, _, _, _, _ => False
  | n + 1, x2, x3, x4, x5, x6, x7, o0 => ((gI o0 0) ≤ x7 → ((x3 < 0 → (k41 x2 x5 x6 (x5 + (1 : Int32)) o0)) ∧ (¬ x3 < 0 → ((x6 < x4 → (k41 x2 x5 x6 (x5 + (1 : Int32)) o0)) ∧ (¬ x6 < x4 → (k41 x2 x3 x4 (x5 + (1 : Int32)) o0)))))) ∧ (¬ (gI o0 0) ≤ x7 → ((vp_in (((5 : Int32) * x5) + x7) 5120) ∧ (∀ y5 : Int32, y5 = ((gA o0 39) ((((5 : Int32) * x5) + x7).toNatClampNeg)) → ((vp_in ((20 : Int32) + x7) 6100) ∧ (∀ y7 : Int32, y7 = ((gA o0 1) (((20 : Int32) + x7).toNatClampNeg)) → ((0 ≤ (y5 - y7) → ((f_Md_nearest_69 k41 Q n) x2 x3 x4 x5 (x6 + (y5 - y7)) (x7 + (1 : Int32)) o0)) ∧ (¬ 0 ≤ (y5 - y7) → ((f_Md_nearest_69 k41 Q n) x2 x3 x4 x5 (x6 + (-(y5 - y7))) (x7 + (1 : Int32)) o0))))))))
def f_Md_nearest_41 (Q : Int32 → Ob → Prop) : Nat → Int32 → Int32 → Int32 → Int32 → Ob → Prop
  | 0, _, _, _, _, _ => False
  | n + 1, x2, x3, x4, x5, o0 => ((gI o0 40) ≤ x5 → ((x2 = (-1 : Int32) → (Q x4 o0)) ∧ (¬ x2 = (-1 : Int32) → ((vp_in (((5 : Int32) * x3) + x2) 5120) ∧ (∀ y12 : Int32, y12 = ((gA o0 39) ((((5 : Int32) * x3) + x2).toNatClampNeg)) → (Q y12 o0)))))) ∧ (¬ (gI o0 40) ≤ x5 → ((vp_in x5 1024) ∧ ((((gA o0 42) x5.toNatClampNeg) = 0 → ((f_Md_nearest_41 Q n) x2 x3 x4 (x5 + (1 : Int32)) o0)) ∧ (¬ ((gA o0 42) x5.toNatClampNeg) = 0 → ((∃ w, f_Md_nearest_69 (f_Md_nearest_41 Q n) Q w x2 x3 x4 x5 (0 : Int32) (0 : Int32) o0))))))
def f_Md_nearest_23 (Q : Int32 → Ob → Prop) (x1 : Int32) (x2 : Int32) (o0 : Ob) : Prop := f_Md_findMakers x1 o0 (fun z15 u16 => (z15 = 0 → (Q (-1 : Int32) u16)) ∧ (¬ z15 = 0 → ((∃ w, f_Md_nearest_41 Q w x2 (-1 : Int32) (0 : Int32) (0 : Int32) u16))))
def f_Md_nearest (a0 : Int32) (a1 : Int32) (o0 : Ob) (Q : Int32 → Ob → Prop) : Prop := f_Md_isIn a0 (0 : Int32) (7 : Int32) (fun z18 => (z18 = 0 → (Q (-1 : Int32) o0)) ∧ (¬ z18 = 0 → ((a1 = (-1 : Int32) → (f_Md_nearest_23 Q a0 a1 o0)) ∧ (¬ a1 = (-1 : Int32) → (f_Md_isPiece a1 o0 (fun z21 => (z21 = 0 → (Q (-1 : Int32) o0)) ∧ (¬ z21 = 0 → (f_Md_nearest_23 Q a0 a1 o0))))))))
abbrev rm_Md_nearest : Room := { frames := 4, cells := 0, slots := 0, locals := 102 }
set_option maxHeartbeats 4000000 in
set_option maxRecDepth 100000 in
theorem t_Md_nearest_69 {p : Program} {l : Launch} {e : Env} {s : State} {m : MethodId} {args : Array Value} {below : List Frame} {meth : Method} {c : Code} {A : Nat → Prop} {G : Gl} {h0 : Nat} {q0 : Nat → Nat} (k41 : Int32 → Int32 → Int32 → Int32 → Ob → Prop) (Q : Int32 → Ob → Prop) (C : Cx p s m args meth c R_Md b_Md_nearest 9 (some .int) G A)
    (hk41 : ∀ (x2 : Int32) (x3 : Int32) (x4 : Int32) (x5 : Int32) (o0 : Ob) (ls : Array Slot) (H : Heap) (locs : List Loc), lv_has ls 9 [(0, .ref h0), (2, .int x2), (3, .int x3), (4, .int x4), (5, .int x5)] → va_P G.1 CL (cw_Md G h0 q0 o0) H → va_D A (cw_Md G h0 q0 o0) → va_S A s.heap H locs → k41 x2 x3 x4 x5 o0 → W p l e rm_Md_nearest s m args below meth c H locs 0 0 (MQ below (va_Qi (fun (r : Int32) (u : Ob) => Q r u) (fun (u : Ob) t => BW G A (cw_Md G h0 q0 u) t) A) args s 0 0 A) (F0 m 41 ls [])) :
    ∀ (n : Nat) (x2 : Int32) (x3 : Int32) (x4 : Int32) (x5 : Int32) (x6 : Int32) (x7 : Int32) (o0 : Ob) (ls : Array Slot) (H : Heap) (locs : List Loc), lv_has ls 9 [(0, .ref h0), (2, .int x2), (3, .int x3), (4, .int x4), (5, .int x5), (6, .int x6), (7, .int x7)] → va_P G.1 CL (cw_Md G h0 q0 o0) H → va_D A (cw_Md G h0 q0 o0) → va_S A s.heap H locs → f_Md_nearest_69 k41 Q n x2 x3 x4 x5 x6 x7 o0 → W p l e rm_Md_nearest s m args below meth c H locs 0 0 (MQ below (va_Qi (fun (r : Int32) (u : Ob) => Q r u) (fun (u : Ob) t => BW G A (cw_Md G h0 q0 u) t) A) args s 0 0 A) (F0 m 69 ls []) := by
  obtain ⟨hx, hb, hml, hown, hr, hts, hK, hA, hlocks, hE⟩ := id C
  intro n
  induction n with
  | zero => intro x2 x3 x4 x5 x6 x7 o0 ls H locs hl hP hD hS h; exact absurd h id
  | succ n ih =>
    intro x2 x3 x4 x5 x6 x7 o0 ls H locs hl hP hD hS h
    have hP : va_P G.1 CL [(h0, .inr (11, [.int (gI o0 0), .ref (q0 1), .ref (q0 2), .ref (q0 3), .ref (q0 4), .ref (q0 5), .ref (q0 6), .int (gI o0 7), .int (gI o0 8), .int (gI o0 9), .int (gI o0 10), .int (gI o0 11), .int (gI o0 12), .int (gI o0 13), .int (gI o0 14), .long (gL o0 15), .int (gI o0 16), .int (gI o0 17), .int (gI o0 18), .int (gI o0 19), .int (gI o0 20), .int (gI o0 21), .int (gI o0 22), .int (gI o0 23), .int (gI o0 24), .int (gI o0 25), .int (gI o0 26), .int (gI o0 27), .ref (q0 28), .long (gL o0 29), .int (gI o0 30), .ref (q0 31), .ref (q0 32), .ref (q0 33), .int (gI o0 34), .int (gI o0 35), .int (gI o0 36), .int (gI o0 37), .ref (q0 38), .ref (q0 39), .int (gI o0 40), .ref (q0 41), .ref (q0 42), .ref (q0 43), .ref (q0 44)])), kI G (q0 1) 6100 (gA o0 1), kI G (q0 2) 6100 (gA o0 2), kJ G (q0 3) 2016 (gB o0 3), kJ G (q0 4) 2016 (gB o0 4), kI G (q0 5) 300 (gA o0 5), kI G (q0 6) 400 (gA o0 6), kJ G (q0 28) 10 (gB o0 28), kI G (q0 31) 969 (gA o0 31), kI G (q0 32) 969 (gA o0 32), kI G (q0 33) 969 (gA o0 33), kI G (q0 38) 5 (gA o0 38), kI G (q0 39) 5120 (gA o0 39), kI G (q0 41) 5 (gA o0 41), kZ G (q0 42) 1024 (gA o0 42), kI G (q0 43) 8192 (gA o0 43), kI G (q0 44) 8192 (gA o0 44)] H := hP
    have hD : va_D A [(h0, .inr (11, [.int (gI o0 0), .ref (q0 1), .ref (q0 2), .ref (q0 3), .ref (q0 4), .ref (q0 5), .ref (q0 6), .int (gI o0 7), .int (gI o0 8), .int (gI o0 9), .int (gI o0 10), .int (gI o0 11), .int (gI o0 12), .int (gI o0 13), .int (gI o0 14), .long (gL o0 15), .int (gI o0 16), .int (gI o0 17), .int (gI o0 18), .int (gI o0 19), .int (gI o0 20), .int (gI o0 21), .int (gI o0 22), .int (gI o0 23), .int (gI o0 24), .int (gI o0 25), .int (gI o0 26), .int (gI o0 27), .ref (q0 28), .long (gL o0 29), .int (gI o0 30), .ref (q0 31), .ref (q0 32), .ref (q0 33), .int (gI o0 34), .int (gI o0 35), .int (gI o0 36), .int (gI o0 37), .ref (q0 38), .ref (q0 39), .int (gI o0 40), .ref (q0 41), .ref (q0 42), .ref (q0 43), .ref (q0 44)])), kI G (q0 1) 6100 (gA o0 1), kI G (q0 2) 6100 (gA o0 2), kJ G (q0 3) 2016 (gB o0 3), kJ G (q0 4) 2016 (gB o0 4), kI G (q0 5) 300 (gA o0 5), kI G (q0 6) 400 (gA o0 6), kJ G (q0 28) 10 (gB o0 28), kI G (q0 31) 969 (gA o0 31), kI G (q0 32) 969 (gA o0 32), kI G (q0 33) 969 (gA o0 33), kI G (q0 38) 5 (gA o0 38), kI G (q0 39) 5120 (gA o0 39), kI G (q0 41) 5 (gA o0 41), kZ G (q0 42) 1024 (gA o0 42), kI G (q0 43) 8192 (gA o0 43), kI G (q0 44) 8192 (gA o0 44)] := hD
    unfold f_Md_nearest_69 at h
    refine lv_iload hx hb d_Md_nearest_69 (lv_at hl 6 rfl) ?_
    refine lv_aload_n hx hb d_Md_nearest_71 rfl (lv_at hl 0 rfl) ?_
    refine va_get (D := G.1) (ci := 11) (v := .int (gI o0 0)) (C := R_Md) (T := T_Md) (N := 45) hx hb hts i_Md hown hK hP 0 rfl rfl 0 (by decide) (hts _ wf_Md_67) (fun _ h9 => h9) rfl d_Md_nearest_72 ?_
    refine lv_icmp_ge (tgt := 127) hx hb d_Md_nearest_75 (by decide) (fun c1 => ?_) (fun c1 => ?_)
    · have h := h.1 c1
      refine lv_iload_n hx hb d_Md_nearest_127 rfl (lv_at hl 2 rfl) ?_
      refine lv_if_lt (tgt := 141) hx hb d_Md_nearest_128 (by decide) (fun c2 => ?_) (fun c2 => ?_)
      · have h := h.1 c2
        refine lv_iload hx hb d_Md_nearest_141 (lv_at hl 4 rfl) ?_
        refine lv_istore_n (lv' := [(3, .int x5), (0, .ref h0), (2, .int x2), (4, .int x4), (5, .int x5), (6, .int x6), (7, .int x7)]) hx hb d_Md_nearest_143 rfl hl (by decide) rfl (fun ls hl => ?_)
        refine lv_iload hx hb d_Md_nearest_144 (lv_at hl 5 rfl) ?_
        refine lv_istore (lv' := [(4, .int x6), (3, .int x5), (0, .ref h0), (2, .int x2), (5, .int x5), (6, .int x6), (7, .int x7)]) hx hb d_Md_nearest_146 hl (by decide) rfl (fun ls hl => ?_)
        refine lv_iinc (v := (x5 + (1 : Int32))) (lv' := [(5, .int (x5 + (1 : Int32))), (4, .int x6), (3, .int x5), (0, .ref h0), (2, .int x2), (6, .int x6), (7, .int x7)]) hx hb d_Md_nearest_148 hl (k := 4) rfl rfl (by decide) rfl (fun ls hl => ?_)
        refine lv_goto (tgt := 41) hx hb d_Md_nearest_151 (by decide) ?_
        have hl := lv_sub (l' := [(0, .ref h0), (2, .int x2), (3, .int x5), (4, .int x6), (5, .int (x5 + (1 : Int32)))]) hl [3, 4, 2, 1, 0] rfl
        have hP : va_P G.1 CL (cw_Md G h0 q0 o0) H := hP
        have hD : va_D A (cw_Md G h0 q0 o0) := hD
        exact hk41 x2 x5 x6 (x5 + (1 : Int32)) o0 ls H locs hl hP hD hS h
      · have h := h.2 c2
        refine lv_iload hx hb d_Md_nearest_131 (lv_at hl 5 rfl) ?_
        refine lv_iload hx hb d_Md_nearest_133 (lv_at hl 3 rfl) ?_
        refine lv_icmp_lt (tgt := 141) hx hb d_Md_nearest_135 (by decide) (fun c3 => ?_) (fun c3 => ?_)
        · have h := h.1 c3
          refine lv_iload hx hb d_Md_nearest_141 (lv_at hl 4 rfl) ?_
          refine lv_istore_n (lv' := [(3, .int x5), (0, .ref h0), (2, .int x2), (4, .int x4), (5, .int x5), (6, .int x6), (7, .int x7)]) hx hb d_Md_nearest_143 rfl hl (by decide) rfl (fun ls hl => ?_)
          refine lv_iload hx hb d_Md_nearest_144 (lv_at hl 5 rfl) ?_
          refine lv_istore (lv' := [(4, .int x6), (3, .int x5), (0, .ref h0), (2, .int x2), (5, .int x5), (6, .int x6), (7, .int x7)]) hx hb d_Md_nearest_146 hl (by decide) rfl (fun ls hl => ?_)
          refine lv_iinc (v := (x5 + (1 : Int32))) (lv' := [(5, .int (x5 + (1 : Int32))), (4, .int x6), (3, .int x5), (0, .ref h0), (2, .int x2), (6, .int x6), (7, .int x7)]) hx hb d_Md_nearest_148 hl (k := 4) rfl rfl (by decide) rfl (fun ls hl => ?_)
          refine lv_goto (tgt := 41) hx hb d_Md_nearest_151 (by decide) ?_
          have hl := lv_sub (l' := [(0, .ref h0), (2, .int x2), (3, .int x5), (4, .int x6), (5, .int (x5 + (1 : Int32)))]) hl [3, 4, 2, 1, 0] rfl
          have hP : va_P G.1 CL (cw_Md G h0 q0 o0) H := hP
          have hD : va_D A (cw_Md G h0 q0 o0) := hD
          exact hk41 x2 x5 x6 (x5 + (1 : Int32)) o0 ls H locs hl hP hD hS h
        · have h := h.2 c3
          refine lv_goto (tgt := 148) hx hb d_Md_nearest_138 (by decide) ?_
          refine lv_iinc (v := (x5 + (1 : Int32))) (lv' := [(5, .int (x5 + (1 : Int32))), (0, .ref h0), (2, .int x2), (3, .int x3), (4, .int x4), (6, .int x6), (7, .int x7)]) hx hb d_Md_nearest_148 hl (k := 4) rfl rfl (by decide) rfl (fun ls hl => ?_)
          refine lv_goto (tgt := 41) hx hb d_Md_nearest_151 (by decide) ?_
          have hl := lv_sub (l' := [(0, .ref h0), (2, .int x2), (3, .int x3), (4, .int x4), (5, .int (x5 + (1 : Int32)))]) hl [1, 2, 3, 4, 0] rfl
          have hP : va_P G.1 CL (cw_Md G h0 q0 o0) H := hP
          have hD : va_D A (cw_Md G h0 q0 o0) := hD
          exact hk41 x2 x3 x4 (x5 + (1 : Int32)) o0 ls H locs hl hP hD hS h
    · have h := h.2 c1
      refine lv_aload_n hx hb d_Md_nearest_78 rfl (lv_at hl 0 rfl) ?_
      refine va_get (D := G.1) (ci := 11) (v := .ref (q0 39)) (C := R_Md) (T := T_Md) (N := 45) hx hb hts i_Md hown hK hP 0 rfl rfl 39 (by decide) (hts _ wf_Md_51) (fun _ h9 => h9) rfl d_Md_nearest_79 ?_
      refine lv_iconst (v := (5 : Int32)) hx hb d_Md_nearest_82 (by decide) ?_
      refine lv_iload hx hb d_Md_nearest_83 (lv_at hl 4 rfl) ?_
      refine lv_imul hx hb d_Md_nearest_85 ?_
      refine lv_iload hx hb d_Md_nearest_86 (lv_at hl 6 rfl) ?_
      refine lv_iadd hx hb d_Md_nearest_88 ?_
      have g4 := h.1
      have h := h.2
      refine xa_iald hx hb hK hP 12 0 rfl rfl g4 (k := (((5 : Int32) * x5) + x7).toNatClampNeg) rfl d_Md_nearest_89 ?_
      refine lv_topi (fun y5 ey5 => ?_)
      have h := h y5 ey5
      refine lv_aload_n hx hb d_Md_nearest_90 rfl (lv_at hl 0 rfl) ?_
      refine va_get (D := G.1) (ci := 11) (v := .ref (q0 1)) (C := R_Md) (T := T_Md) (N := 45) hx hb hts i_Md hown hK hP 0 rfl rfl 1 (by decide) (hts _ wf_Md_7) (fun _ h9 => h9) rfl d_Md_nearest_91 ?_
      refine lv_bipush (v := (20 : Int32)) hx hb d_Md_nearest_94 (by decide) ?_
      refine lv_iload hx hb d_Md_nearest_96 (lv_at hl 6 rfl) ?_
      refine lv_iadd hx hb d_Md_nearest_98 ?_
      have g6 := h.1
      have h := h.2
      refine xa_iald hx hb hK hP 1 0 rfl rfl g6 (k := ((20 : Int32) + x7).toNatClampNeg) rfl d_Md_nearest_99 ?_
      refine lv_topi (fun y7 ey7 => ?_)
      have h := h y7 ey7
      refine lv_isub hx hb d_Md_nearest_100 ?_
      refine lv_istore (lv' := [(8, .int (y5 - y7)), (0, .ref h0), (2, .int x2), (3, .int x3), (4, .int x4), (5, .int x5), (6, .int x6), (7, .int x7)]) hx hb d_Md_nearest_101 hl (by decide) rfl (fun ls hl => ?_)
      refine lv_iload hx hb d_Md_nearest_103 (lv_at hl 6 rfl) ?_
      refine lv_iload hx hb d_Md_nearest_105 (lv_at hl 0 rfl) ?_
      refine lv_if_ge (tgt := 116) hx hb d_Md_nearest_107 (by decide) (fun c8 => ?_) (fun c8 => ?_)
      · have h := h.1 c8
        refine lv_iload hx hb d_Md_nearest_116 (lv_at hl 0 rfl) ?_
        refine lv_iadd hx hb d_Md_nearest_118 ?_
        refine lv_istore (lv' := [(6, .int (x6 + (y5 - y7))), (8, .int (y5 - y7)), (0, .ref h0), (2, .int x2), (3, .int x3), (4, .int x4), (5, .int x5), (7, .int x7)]) hx hb d_Md_nearest_119 hl (by decide) rfl (fun ls hl => ?_)
        refine lv_iinc (v := (x7 + (1 : Int32))) (lv' := [(7, .int (x7 + (1 : Int32))), (6, .int (x6 + (y5 - y7))), (8, .int (y5 - y7)), (0, .ref h0), (2, .int x2), (3, .int x3), (4, .int x4), (5, .int x5)]) hx hb d_Md_nearest_121 hl (k := 7) rfl rfl (by decide) rfl (fun ls hl => ?_)
        refine lv_goto (tgt := 69) hx hb d_Md_nearest_124 (by decide) ?_
        have hl := lv_sub (l' := [(0, .ref h0), (2, .int x2), (3, .int x3), (4, .int x4), (5, .int x5), (6, .int (x6 + (y5 - y7))), (7, .int (x7 + (1 : Int32)))]) hl [3, 4, 5, 6, 7, 1, 0] rfl
        have hP : va_P G.1 CL (cw_Md G h0 q0 o0) H := hP
        have hD : va_D A (cw_Md G h0 q0 o0) := hD
        exact ih x2 x3 x4 x5 (x6 + (y5 - y7)) (x7 + (1 : Int32)) o0 ls H locs hl hP hD hS h
      · have h := h.2 c8
        refine lv_iload hx hb d_Md_nearest_110 (lv_at hl 0 rfl) ?_
        refine lv_ineg hx hb d_Md_nearest_112 ?_
        refine lv_goto (tgt := 118) hx hb d_Md_nearest_113 (by decide) ?_
        refine lv_iadd hx hb d_Md_nearest_118 ?_
        refine lv_istore (lv' := [(6, .int (x6 + (-(y5 - y7)))), (8, .int (y5 - y7)), (0, .ref h0), (2, .int x2), (3, .int x3), (4, .int x4), (5, .int x5), (7, .int x7)]) hx hb d_Md_nearest_119 hl (by decide) rfl (fun ls hl => ?_)
        refine lv_iinc (v := (x7 + (1 : Int32))) (lv' := [(7, .int (x7 + (1 : Int32))), (6, .int (x6 + (-(y5 - y7)))), (8, .int (y5 - y7)), (0, .ref h0), (2, .int x2), (3, .int x3), (4, .int x4), (5, .int x5)]) hx hb d_Md_nearest_121 hl (k := 7) rfl rfl (by decide) rfl (fun ls hl => ?_)
        refine lv_goto (tgt := 69) hx hb d_Md_nearest_124 (by decide) ?_
        have hl := lv_sub (l' := [(0, .ref h0), (2, .int x2), (3, .int x3), (4, .int x4), (5, .int x5), (6, .int (x6 + (-(y5 - y7)))), (7, .int (x7 + (1 : Int32)))]) hl [3, 4, 5, 6, 7, 1, 0] rfl
        have hP : va_P G.1 CL (cw_Md G h0 q0 o0) H := hP
        have hD : va_D A (cw_Md G h0 q0 o0) := hD
        exact ih x2 x3 x4 x5 (x6 + (-(y5 - y7))) (x7 + (1 : Int32)) o0 ls H locs hl hP hD hS h
set_option maxHeartbeats 4000000 in
set_option maxRecDepth 100000 in
theorem t_Md_nearest_41 {p : Program} {l : Launch} {e : Env} {s : State} {m : MethodId} {args : Array Value} {below : List Frame} {meth : Method} {c : Code} {A : Nat → Prop} {G : Gl} {h0 : Nat} {q0 : Nat → Nat} (Q : Int32 → Ob → Prop) (C : Cx p s m args meth c R_Md b_Md_nearest 9 (some .int) G A) :
    ∀ (n : Nat) (x2 : Int32) (x3 : Int32) (x4 : Int32) (x5 : Int32) (o0 : Ob) (ls : Array Slot) (H : Heap) (locs : List Loc), lv_has ls 9 [(0, .ref h0), (2, .int x2), (3, .int x3), (4, .int x4), (5, .int x5)] → va_P G.1 CL (cw_Md G h0 q0 o0) H → va_D A (cw_Md G h0 q0 o0) → va_S A s.heap H locs → f_Md_nearest_41 Q n x2 x3 x4 x5 o0 → W p l e rm_Md_nearest s m args below meth c H locs 0 0 (MQ below (va_Qi (fun (r : Int32) (u : Ob) => Q r u) (fun (u : Ob) t => BW G A (cw_Md G h0 q0 u) t) A) args s 0 0 A) (F0 m 41 ls []) := by
  obtain ⟨hx, hb, hml, hown, hr, hts, hK, hA, hlocks, hE⟩ := id C
  intro n
  induction n with
  | zero => intro x2 x3 x4 x5 o0 ls H locs hl hP hD hS h; exact absurd h id
  | succ n ih =>
    intro x2 x3 x4 x5 o0 ls H locs hl hP hD hS h
    have hP : va_P G.1 CL [(h0, .inr (11, [.int (gI o0 0), .ref (q0 1), .ref (q0 2), .ref (q0 3), .ref (q0 4), .ref (q0 5), .ref (q0 6), .int (gI o0 7), .int (gI o0 8), .int (gI o0 9), .int (gI o0 10), .int (gI o0 11), .int (gI o0 12), .int (gI o0 13), .int (gI o0 14), .long (gL o0 15), .int (gI o0 16), .int (gI o0 17), .int (gI o0 18), .int (gI o0 19), .int (gI o0 20), .int (gI o0 21), .int (gI o0 22), .int (gI o0 23), .int (gI o0 24), .int (gI o0 25), .int (gI o0 26), .int (gI o0 27), .ref (q0 28), .long (gL o0 29), .int (gI o0 30), .ref (q0 31), .ref (q0 32), .ref (q0 33), .int (gI o0 34), .int (gI o0 35), .int (gI o0 36), .int (gI o0 37), .ref (q0 38), .ref (q0 39), .int (gI o0 40), .ref (q0 41), .ref (q0 42), .ref (q0 43), .ref (q0 44)])), kI G (q0 1) 6100 (gA o0 1), kI G (q0 2) 6100 (gA o0 2), kJ G (q0 3) 2016 (gB o0 3), kJ G (q0 4) 2016 (gB o0 4), kI G (q0 5) 300 (gA o0 5), kI G (q0 6) 400 (gA o0 6), kJ G (q0 28) 10 (gB o0 28), kI G (q0 31) 969 (gA o0 31), kI G (q0 32) 969 (gA o0 32), kI G (q0 33) 969 (gA o0 33), kI G (q0 38) 5 (gA o0 38), kI G (q0 39) 5120 (gA o0 39), kI G (q0 41) 5 (gA o0 41), kZ G (q0 42) 1024 (gA o0 42), kI G (q0 43) 8192 (gA o0 43), kI G (q0 44) 8192 (gA o0 44)] H := hP
    have hD : va_D A [(h0, .inr (11, [.int (gI o0 0), .ref (q0 1), .ref (q0 2), .ref (q0 3), .ref (q0 4), .ref (q0 5), .ref (q0 6), .int (gI o0 7), .int (gI o0 8), .int (gI o0 9), .int (gI o0 10), .int (gI o0 11), .int (gI o0 12), .int (gI o0 13), .int (gI o0 14), .long (gL o0 15), .int (gI o0 16), .int (gI o0 17), .int (gI o0 18), .int (gI o0 19), .int (gI o0 20), .int (gI o0 21), .int (gI o0 22), .int (gI o0 23), .int (gI o0 24), .int (gI o0 25), .int (gI o0 26), .int (gI o0 27), .ref (q0 28), .long (gL o0 29), .int (gI o0 30), .ref (q0 31), .ref (q0 32), .ref (q0 33), .int (gI o0 34), .int (gI o0 35), .int (gI o0 36), .int (gI o0 37), .ref (q0 38), .ref (q0 39), .int (gI o0 40), .ref (q0 41), .ref (q0 42), .ref (q0 43), .ref (q0 44)])), kI G (q0 1) 6100 (gA o0 1), kI G (q0 2) 6100 (gA o0 2), kJ G (q0 3) 2016 (gB o0 3), kJ G (q0 4) 2016 (gB o0 4), kI G (q0 5) 300 (gA o0 5), kI G (q0 6) 400 (gA o0 6), kJ G (q0 28) 10 (gB o0 28), kI G (q0 31) 969 (gA o0 31), kI G (q0 32) 969 (gA o0 32), kI G (q0 33) 969 (gA o0 33), kI G (q0 38) 5 (gA o0 38), kI G (q0 39) 5120 (gA o0 39), kI G (q0 41) 5 (gA o0 41), kZ G (q0 42) 1024 (gA o0 42), kI G (q0 43) 8192 (gA o0 43), kI G (q0 44) 8192 (gA o0 44)] := hD
    unfold f_Md_nearest_41 at h
    refine lv_iload hx hb d_Md_nearest_41 (lv_at hl 4 rfl) ?_
    refine lv_aload_n hx hb d_Md_nearest_43 rfl (lv_at hl 0 rfl) ?_
    refine va_get (D := G.1) (ci := 11) (v := .int (gI o0 40)) (C := R_Md) (T := T_Md) (N := 45) hx hb hts i_Md hown hK hP 0 rfl rfl 40 (by decide) (hts _ wf_Md_273) (fun _ h9 => h9) rfl d_Md_nearest_44 ?_
    refine lv_icmp_ge (tgt := 154) hx hb d_Md_nearest_47 (by decide) (fun c9 => ?_) (fun c9 => ?_)
    · have h := h.1 c9
      refine lv_iload_n hx hb d_Md_nearest_154 rfl (lv_at hl 1 rfl) ?_
      refine lv_iconst (v := (-1 : Int32)) hx hb d_Md_nearest_155 (by decide) ?_
      refine lv_icmp_ne (tgt := 164) hx hb d_Md_nearest_156 (by decide) (fun c10 => ?_) (fun c10 => ?_)
      · have h := h.2 c10
        refine lv_aload_n hx hb d_Md_nearest_164 rfl (lv_at hl 0 rfl) ?_
        refine va_get (D := G.1) (ci := 11) (v := .ref (q0 39)) (C := R_Md) (T := T_Md) (N := 45) hx hb hts i_Md hown hK hP 0 rfl rfl 39 (by decide) (hts _ wf_Md_51) (fun _ h9 => h9) rfl d_Md_nearest_165 ?_
        refine lv_iconst (v := (5 : Int32)) hx hb d_Md_nearest_168 (by decide) ?_
        refine lv_iload_n hx hb d_Md_nearest_169 rfl (lv_at hl 2 rfl) ?_
        refine lv_imul hx hb d_Md_nearest_170 ?_
        refine lv_iload_n hx hb d_Md_nearest_171 rfl (lv_at hl 1 rfl) ?_
        refine lv_iadd hx hb d_Md_nearest_172 ?_
        have g11 := h.1
        have h := h.2
        refine xa_iald hx hb hK hP 12 0 rfl rfl g11 (k := (((5 : Int32) * x3) + x2).toNatClampNeg) rfl d_Md_nearest_173 ?_
        refine lv_topi (fun y12 ey12 => ?_)
        have h := h y12 ey12
        have hP : va_P G.1 CL (cw_Md G h0 q0 o0) H := hP
        have hD : va_D A (cw_Md G h0 q0 o0) := hD
        exact W.iret (v := y12) hx hb hr (fun t ht hW => ⟨⟨y12, o0, rfl, h, by rw [ht]; exact hP, va_K.moved hW.alike hK, hD⟩, hS.F ht⟩) hS.2.2 d_Md_nearest_174
      · have h := h.1 c10
        refine lv_iload hx hb d_Md_nearest_159 (lv_at hl 3 rfl) ?_
        refine lv_goto (tgt := 174) hx hb d_Md_nearest_161 (by decide) ?_
        have hP : va_P G.1 CL (cw_Md G h0 q0 o0) H := hP
        have hD : va_D A (cw_Md G h0 q0 o0) := hD
        exact W.iret (v := x4) hx hb hr (fun t ht hW => ⟨⟨x4, o0, rfl, h, by rw [ht]; exact hP, va_K.moved hW.alike hK, hD⟩, hS.F ht⟩) hS.2.2 d_Md_nearest_174
    · have h := h.2 c9
      refine lv_aload_n hx hb d_Md_nearest_50 rfl (lv_at hl 0 rfl) ?_
      refine va_get (D := G.1) (ci := 11) (v := .ref (q0 42)) (C := R_Md) (T := T_Md) (N := 45) hx hb hts i_Md hown hK hP 0 rfl rfl 42 (by decide) (hts _ wf_Md_57) (fun _ h9 => h9) rfl d_Md_nearest_51 ?_
      refine lv_iload hx hb d_Md_nearest_54 (lv_at hl 4 rfl) ?_
      have g13 := h.1
      have h := h.2
      refine xa_zald hx hb hK hP 14 3 rfl rfl g13 (k := x5.toNatClampNeg) rfl d_Md_nearest_56 ?_
      refine lv_if_ne (tgt := 63) hx hb d_Md_nearest_57 (by decide) (fun c14 => ?_) (fun c14 => ?_)
      · have h := h.2 c14
        refine lv_iconst (v := (0 : Int32)) hx hb d_Md_nearest_63 (by decide) ?_
        refine lv_istore (lv' := [(6, .int (0 : Int32)), (0, .ref h0), (2, .int x2), (3, .int x3), (4, .int x4), (5, .int x5)]) hx hb d_Md_nearest_64 hl (by decide) rfl (fun ls hl => ?_)
        refine lv_iconst (v := (0 : Int32)) hx hb d_Md_nearest_66 (by decide) ?_
        refine lv_istore (lv' := [(7, .int (0 : Int32)), (6, .int (0 : Int32)), (0, .ref h0), (2, .int x2), (3, .int x3), (4, .int x4), (5, .int x5)]) hx hb d_Md_nearest_67 hl (by decide) rfl (fun ls hl => ?_)
        have hl := lv_sub (l' := [(0, .ref h0), (2, .int x2), (3, .int x3), (4, .int x4), (5, .int x5), (6, .int (0 : Int32)), (7, .int (0 : Int32))]) hl [2, 3, 4, 5, 6, 1, 0] rfl
        have hP : va_P G.1 CL (cw_Md G h0 q0 o0) H := hP
        have hD : va_D A (cw_Md G h0 q0 o0) := hD
        obtain ⟨w, h⟩ := h
        exact t_Md_nearest_69 (f_Md_nearest_41 Q n) Q C ih w x2 x3 x4 x5 (0 : Int32) (0 : Int32) o0 ls _ locs hl hP hD hS h
      · have h := h.1 c14
        refine lv_goto (tgt := 148) hx hb d_Md_nearest_60 (by decide) ?_
        refine lv_iinc (v := (x5 + (1 : Int32))) (lv' := [(5, .int (x5 + (1 : Int32))), (0, .ref h0), (2, .int x2), (3, .int x3), (4, .int x4)]) hx hb d_Md_nearest_148 hl (k := 4) rfl rfl (by decide) rfl (fun ls hl => ?_)
        refine lv_goto (tgt := 41) hx hb d_Md_nearest_151 (by decide) ?_
        have hl := lv_sub (l' := [(0, .ref h0), (2, .int x2), (3, .int x3), (4, .int x4), (5, .int (x5 + (1 : Int32)))]) hl [1, 2, 3, 4, 0] rfl
        have hP : va_P G.1 CL (cw_Md G h0 q0 o0) H := hP
        have hD : va_D A (cw_Md G h0 q0 o0) := hD
        exact ih x2 x3 x4 (x5 + (1 : Int32)) o0 ls H locs hl hP hD hS h
set_option maxHeartbeats 4000000 in
set_option maxRecDepth 100000 in
theorem t_Md_nearest_23 {p : Program} {l : Launch} {e : Env} {s : State} {m : MethodId} {args : Array Value} {below : List Frame} {meth : Method} {c : Code} {A : Nat → Prop} {G : Gl} {h0 : Nat} {q0 : Nat → Nat} (Q : Int32 → Ob → Prop) (C : Cx p s m args meth c R_Md b_Md_nearest 9 (some .int) G A) :
    ∀ (x1 : Int32) (x2 : Int32) (o0 : Ob) (ls : Array Slot) (H : Heap) (locs : List Loc), lv_has ls 9 [(0, .ref h0), (1, .int x1), (2, .int x2)] → va_P G.1 CL (cw_Md G h0 q0 o0) H → va_D A (cw_Md G h0 q0 o0) → va_S A s.heap H locs → f_Md_nearest_23 Q x1 x2 o0 → W p l e rm_Md_nearest s m args below meth c H locs 0 0 (MQ below (va_Qi (fun (r : Int32) (u : Ob) => Q r u) (fun (u : Ob) t => BW G A (cw_Md G h0 q0 u) t) A) args s 0 0 A) (F0 m 23 ls []) := by
  obtain ⟨hx, hb, hml, hown, hr, hts, hK, hA, hlocks, hE⟩ := id C
  intro x1 x2 o0 ls H locs hl hP hD hS h
  have hP : va_P G.1 CL [(h0, .inr (11, [.int (gI o0 0), .ref (q0 1), .ref (q0 2), .ref (q0 3), .ref (q0 4), .ref (q0 5), .ref (q0 6), .int (gI o0 7), .int (gI o0 8), .int (gI o0 9), .int (gI o0 10), .int (gI o0 11), .int (gI o0 12), .int (gI o0 13), .int (gI o0 14), .long (gL o0 15), .int (gI o0 16), .int (gI o0 17), .int (gI o0 18), .int (gI o0 19), .int (gI o0 20), .int (gI o0 21), .int (gI o0 22), .int (gI o0 23), .int (gI o0 24), .int (gI o0 25), .int (gI o0 26), .int (gI o0 27), .ref (q0 28), .long (gL o0 29), .int (gI o0 30), .ref (q0 31), .ref (q0 32), .ref (q0 33), .int (gI o0 34), .int (gI o0 35), .int (gI o0 36), .int (gI o0 37), .ref (q0 38), .ref (q0 39), .int (gI o0 40), .ref (q0 41), .ref (q0 42), .ref (q0 43), .ref (q0 44)])), kI G (q0 1) 6100 (gA o0 1), kI G (q0 2) 6100 (gA o0 2), kJ G (q0 3) 2016 (gB o0 3), kJ G (q0 4) 2016 (gB o0 4), kI G (q0 5) 300 (gA o0 5), kI G (q0 6) 400 (gA o0 6), kJ G (q0 28) 10 (gB o0 28), kI G (q0 31) 969 (gA o0 31), kI G (q0 32) 969 (gA o0 32), kI G (q0 33) 969 (gA o0 33), kI G (q0 38) 5 (gA o0 38), kI G (q0 39) 5120 (gA o0 39), kI G (q0 41) 5 (gA o0 41), kZ G (q0 42) 1024 (gA o0 42), kI G (q0 43) 8192 (gA o0 43), kI G (q0 44) 8192 (gA o0 44)] H := hP
  have hD : va_D A [(h0, .inr (11, [.int (gI o0 0), .ref (q0 1), .ref (q0 2), .ref (q0 3), .ref (q0 4), .ref (q0 5), .ref (q0 6), .int (gI o0 7), .int (gI o0 8), .int (gI o0 9), .int (gI o0 10), .int (gI o0 11), .int (gI o0 12), .int (gI o0 13), .int (gI o0 14), .long (gL o0 15), .int (gI o0 16), .int (gI o0 17), .int (gI o0 18), .int (gI o0 19), .int (gI o0 20), .int (gI o0 21), .int (gI o0 22), .int (gI o0 23), .int (gI o0 24), .int (gI o0 25), .int (gI o0 26), .int (gI o0 27), .ref (q0 28), .long (gL o0 29), .int (gI o0 30), .ref (q0 31), .ref (q0 32), .ref (q0 33), .int (gI o0 34), .int (gI o0 35), .int (gI o0 36), .int (gI o0 37), .ref (q0 38), .ref (q0 39), .int (gI o0 40), .ref (q0 41), .ref (q0 42), .ref (q0 43), .ref (q0 44)])), kI G (q0 1) 6100 (gA o0 1), kI G (q0 2) 6100 (gA o0 2), kJ G (q0 3) 2016 (gB o0 3), kJ G (q0 4) 2016 (gB o0 4), kI G (q0 5) 300 (gA o0 5), kI G (q0 6) 400 (gA o0 6), kJ G (q0 28) 10 (gB o0 28), kI G (q0 31) 969 (gA o0 31), kI G (q0 32) 969 (gA o0 32), kI G (q0 33) 969 (gA o0 33), kI G (q0 38) 5 (gA o0 38), kI G (q0 39) 5120 (gA o0 39), kI G (q0 41) 5 (gA o0 41), kZ G (q0 42) 1024 (gA o0 42), kI G (q0 43) 8192 (gA o0 43), kI G (q0 44) 8192 (gA o0 44)] := hD
  unfold f_Md_nearest_23 at h
  refine lv_aload_n hx hb d_Md_nearest_23 rfl (lv_at hl 0 rfl) ?_
  refine lv_iload_n hx hb d_Md_nearest_24 rfl (lv_at hl 1 rfl) ?_
  refine cl_Vi (b := b_Md_nearest) (As := [.int x1]) (rest := []) (ws := [(h0, .inr (11, [.int (gI o0 0), .ref (q0 1), .ref (q0 2), .ref (q0 3), .ref (q0 4), .ref (q0 5), .ref (q0 6), .int (gI o0 7), .int (gI o0 8), .int (gI o0 9), .int (gI o0 10), .int (gI o0 11), .int (gI o0 12), .int (gI o0 13), .int (gI o0 14), .long (gL o0 15), .int (gI o0 16), .int (gI o0 17), .int (gI o0 18), .int (gI o0 19), .int (gI o0 20), .int (gI o0 21), .int (gI o0 22), .int (gI o0 23), .int (gI o0 24), .int (gI o0 25), .int (gI o0 26), .int (gI o0 27), .ref (q0 28), .long (gL o0 29), .int (gI o0 30), .ref (q0 31), .ref (q0 32), .ref (q0 33), .int (gI o0 34), .int (gI o0 35), .int (gI o0 36), .int (gI o0 37), .ref (q0 38), .ref (q0 39), .int (gI o0 40), .ref (q0 41), .ref (q0 42), .ref (q0 43), .ref (q0 44)])), kI G (q0 1) 6100 (gA o0 1), kI G (q0 2) 6100 (gA o0 2), kJ G (q0 3) 2016 (gB o0 3), kJ G (q0 4) 2016 (gB o0 4), kI G (q0 5) 300 (gA o0 5), kI G (q0 6) 400 (gA o0 6), kJ G (q0 28) 10 (gB o0 28), kI G (q0 31) 969 (gA o0 31), kI G (q0 32) 969 (gA o0 32), kI G (q0 33) 969 (gA o0 33), kI G (q0 38) 5 (gA o0 38), kI G (q0 39) 5120 (gA o0 39), kI G (q0 41) 5 (gA o0 41), kZ G (q0 42) 1024 (gA o0 42), kI G (q0 43) 8192 (gA o0 43), kI G (q0 44) 8192 (gA o0 44)]) (wr := []) (w2 := fun (u : Ob) => [(h0, .inr (11, [.int (gI u 0), .ref (q0 1), .ref (q0 2), .ref (q0 3), .ref (q0 4), .ref (q0 5), .ref (q0 6), .int (gI u 7), .int (gI u 8), .int (gI u 9), .int (gI u 10), .int (gI u 11), .int (gI u 12), .int (gI u 13), .int (gI u 14), .long (gL u 15), .int (gI u 16), .int (gI u 17), .int (gI u 18), .int (gI u 19), .int (gI u 20), .int (gI u 21), .int (gI u 22), .int (gI u 23), .int (gI u 24), .int (gI u 25), .int (gI u 26), .int (gI u 27), .ref (q0 28), .long (gL u 29), .int (gI u 30), .ref (q0 31), .ref (q0 32), .ref (q0 33), .int (gI u 34), .int (gI u 35), .int (gI u 36), .int (gI u 37), .ref (q0 38), .ref (q0 39), .int (gI u 40), .ref (q0 41), .ref (q0 42), .ref (q0 43), .ref (q0 44)])), kI G (q0 1) 6100 (gA u 1), kI G (q0 2) 6100 (gA u 2), kJ G (q0 3) 2016 (gB u 3), kJ G (q0 4) 2016 (gB u 4), kI G (q0 5) 300 (gA u 5), kI G (q0 6) 400 (gA u 6), kJ G (q0 28) 10 (gB u 28), kI G (q0 31) 969 (gA u 31), kI G (q0 32) 969 (gA u 32), kI G (q0 33) 969 (gA u 33), kI G (q0 38) 5 (gA u 38), kI G (q0 39) 5120 (gA u 39), kI G (q0 41) 5 (gA u 41), kZ G (q0 42) 1024 (gA u 42), kI G (q0 43) 8192 (gA u 43), kI G (q0 44) 8192 (gA u 44)]) C (c_Md_findMakers (h0 := h0) (q0 := q0) H.size h) wv_Md_286 ⟨Nat.le_of_ble_eq_true rfl, Nat.le_of_ble_eq_true rfl⟩ hP hD hS 0 rfl rfl [0, 1, 2, 3, 4, 5, 6, 7, 8, 9, 10, 11, 12, 13, 14, 15, 16] [] rfl rfl (by decide) (by decide) (by decide) [0, 1, 2, 3, 4, 5, 6, 7, 8, 9, 10, 11, 12, 13, 14, 15, 16] (by decide) (fun u => rfl) rfl hl.1 rfl (lv_room (Nat.le_of_ble_eq_true rfl)) d_Md_nearest_25 ⟨Nat.le_of_ble_eq_true rfl, Nat.le_of_ble_eq_true rfl⟩ rfl rfl (fun z15 u H locs h hP hD hS => ?_)
  generalize u = u16 at h hP hD
  have hP : va_P G.1 CL [(h0, .inr (11, [.int (gI u16 0), .ref (q0 1), .ref (q0 2), .ref (q0 3), .ref (q0 4), .ref (q0 5), .ref (q0 6), .int (gI u16 7), .int (gI u16 8), .int (gI u16 9), .int (gI u16 10), .int (gI u16 11), .int (gI u16 12), .int (gI u16 13), .int (gI u16 14), .long (gL u16 15), .int (gI u16 16), .int (gI u16 17), .int (gI u16 18), .int (gI u16 19), .int (gI u16 20), .int (gI u16 21), .int (gI u16 22), .int (gI u16 23), .int (gI u16 24), .int (gI u16 25), .int (gI u16 26), .int (gI u16 27), .ref (q0 28), .long (gL u16 29), .int (gI u16 30), .ref (q0 31), .ref (q0 32), .ref (q0 33), .int (gI u16 34), .int (gI u16 35), .int (gI u16 36), .int (gI u16 37), .ref (q0 38), .ref (q0 39), .int (gI u16 40), .ref (q0 41), .ref (q0 42), .ref (q0 43), .ref (q0 44)])), kI G (q0 1) 6100 (gA u16 1), kI G (q0 2) 6100 (gA u16 2), kJ G (q0 3) 2016 (gB u16 3), kJ G (q0 4) 2016 (gB u16 4), kI G (q0 5) 300 (gA u16 5), kI G (q0 6) 400 (gA u16 6), kJ G (q0 28) 10 (gB u16 28), kI G (q0 31) 969 (gA u16 31), kI G (q0 32) 969 (gA u16 32), kI G (q0 33) 969 (gA u16 33), kI G (q0 38) 5 (gA u16 38), kI G (q0 39) 5120 (gA u16 39), kI G (q0 41) 5 (gA u16 41), kZ G (q0 42) 1024 (gA u16 42), kI G (q0 43) 8192 (gA u16 43), kI G (q0 44) 8192 (gA u16 44)] H := hP
  have hD : va_D A [(h0, .inr (11, [.int (gI u16 0), .ref (q0 1), .ref (q0 2), .ref (q0 3), .ref (q0 4), .ref (q0 5), .ref (q0 6), .int (gI u16 7), .int (gI u16 8), .int (gI u16 9), .int (gI u16 10), .int (gI u16 11), .int (gI u16 12), .int (gI u16 13), .int (gI u16 14), .long (gL u16 15), .int (gI u16 16), .int (gI u16 17), .int (gI u16 18), .int (gI u16 19), .int (gI u16 20), .int (gI u16 21), .int (gI u16 22), .int (gI u16 23), .int (gI u16 24), .int (gI u16 25), .int (gI u16 26), .int (gI u16 27), .ref (q0 28), .long (gL u16 29), .int (gI u16 30), .ref (q0 31), .ref (q0 32), .ref (q0 33), .int (gI u16 34), .int (gI u16 35), .int (gI u16 36), .int (gI u16 37), .ref (q0 38), .ref (q0 39), .int (gI u16 40), .ref (q0 41), .ref (q0 42), .ref (q0 43), .ref (q0 44)])), kI G (q0 1) 6100 (gA u16 1), kI G (q0 2) 6100 (gA u16 2), kJ G (q0 3) 2016 (gB u16 3), kJ G (q0 4) 2016 (gB u16 4), kI G (q0 5) 300 (gA u16 5), kI G (q0 6) 400 (gA u16 6), kJ G (q0 28) 10 (gB u16 28), kI G (q0 31) 969 (gA u16 31), kI G (q0 32) 969 (gA u16 32), kI G (q0 33) 969 (gA u16 33), kI G (q0 38) 5 (gA u16 38), kI G (q0 39) 5120 (gA u16 39), kI G (q0 41) 5 (gA u16 41), kZ G (q0 42) 1024 (gA u16 42), kI G (q0 43) 8192 (gA u16 43), kI G (q0 44) 8192 (gA u16 44)] := hD
  refine lv_if_ne (tgt := 33) hx hb d_Md_nearest_28 (by decide) (fun c17 => ?_) (fun c17 => ?_)
  · have h := h.2 c17
    refine lv_iconst (v := (-1 : Int32)) hx hb d_Md_nearest_33 (by decide) ?_
    refine lv_istore_n (lv' := [(3, .int (-1 : Int32)), (0, .ref h0), (1, .int x1), (2, .int x2)]) hx hb d_Md_nearest_34 rfl hl (by decide) rfl (fun ls hl => ?_)
    refine lv_iconst (v := (0 : Int32)) hx hb d_Md_nearest_35 (by decide) ?_
    refine lv_istore (lv' := [(4, .int (0 : Int32)), (3, .int (-1 : Int32)), (0, .ref h0), (1, .int x1), (2, .int x2)]) hx hb d_Md_nearest_36 hl (by decide) rfl (fun ls hl => ?_)
    refine lv_iconst (v := (0 : Int32)) hx hb d_Md_nearest_38 (by decide) ?_
    refine lv_istore (lv' := [(5, .int (0 : Int32)), (4, .int (0 : Int32)), (3, .int (-1 : Int32)), (0, .ref h0), (1, .int x1), (2, .int x2)]) hx hb d_Md_nearest_39 hl (by decide) rfl (fun ls hl => ?_)
    have hl := lv_sub (l' := [(0, .ref h0), (2, .int x2), (3, .int (-1 : Int32)), (4, .int (0 : Int32)), (5, .int (0 : Int32))]) hl [3, 5, 2, 1, 0] rfl
    have hP : va_P G.1 CL (cw_Md G h0 q0 u16) H := hP
    have hD : va_D A (cw_Md G h0 q0 u16) := hD
    obtain ⟨w, h⟩ := h
    exact t_Md_nearest_41 Q C w x2 (-1 : Int32) (0 : Int32) (0 : Int32) u16 ls _ locs hl hP hD hS h
  · have h := h.1 c17
    refine lv_iconst (v := (-1 : Int32)) hx hb d_Md_nearest_31 (by decide) ?_
    have hP : va_P G.1 CL (cw_Md G h0 q0 u16) H := hP
    have hD : va_D A (cw_Md G h0 q0 u16) := hD
    exact W.iret (v := (-1 : Int32)) hx hb hr (fun t ht hW => ⟨⟨(-1 : Int32), u16, rfl, h, by rw [ht]; exact hP, va_K.moved hW.alike hK, hD⟩, hS.F ht⟩) hS.2.2 d_Md_nearest_32
set_option maxHeartbeats 4000000 in
set_option maxRecDepth 100000 in
theorem c_Md_nearest {l : Launch} {G : Gl} {h0 : Nat} {q0 : Nat → Nat} {a0 : Int32} {a1 : Int32} {o0 : Ob} {Q : Int32 → Ob → Prop} (sz : Nat) (h : f_Md_nearest a0 a1 o0 Q) : Met l y_Md_nearest w_Md_nearest rm_Md_nearest (PcW G [.ref h0, .int a0, .int a1] sz (cw_Md G h0 q0 o0)) (va_Qi (fun (r : Int32) (u : Ob) => Q r u) (fun (u : Ob) t => BW G (va_A (cw_Md G h0 q0 o0) sz) (cw_Md G h0 q0 u) t) (va_A (cw_Md G h0 q0 o0) sz)) 0 0 (va_A (cw_Md G h0 q0 o0) sz) := by
  refine Met.ofW (cc := b_Md_nearest) (maxL := 9) (ret := (some .int)) (by decide +kernel) rfl ?_
  intro p e s m args below meth c s₁ B hml hv
  obtain ⟨rfl, hsz, hP, hK, hD0, hE⟩ := hv
  have hx := B.exec
  have hb := B.bytes
  have hr := B.returns
  have hts0 := atoms_spec (ws := w_Md_nearest) B.pre
  have hts : ∀ w ∈ gw_tbl, w.before ([.ref h0, .int a0, .int a1]).toArray s = true := fun w hw => hts0 w (List.mem_cons_of_mem _ hw)
  have hown : s.vm.findClass R_Md = some m.cls := findClass_of_methodNamed B.named
  have hlocks := B.notSynchronized
  subst hsz
  have hD := hD0.self (sz := s.heap.size)
  generalize hAe : va_A (cw_Md G h0 q0 o0) s.heap.size = A at hD hE ⊢
  have hA : ∀ q : Nat, s.heap.size ≤ q → A q := fun q h => by rw [← hAe]; exact Or.inr h
  have hS : va_S A s.heap s.heap [] := va_S.rf
  have C : Cx p s m ([.ref h0, .int a0, .int a1]).toArray meth c R_Md b_Md_nearest 9 (some .int) G A := ⟨hx, hb, hml, hown, hr, hts, hK, hA, hlocks, hE⟩
  have hl := lv_entry ([.ref h0, .int a0, .int a1]) (n := 9) (Nat.le_of_ble_eq_true rfl)
  rw [lg_entry_eq]
  generalize (lg_sl ([.ref h0, .int a0, .int a1]) ++ List.replicate (9 - (lg_sl ([.ref h0, .int a0, .int a1])).length) Slot.unset).toArray = ls at hl ⊢
  have hl : lv_has ls 9 [(0, .ref h0), (1, .int a0), (2, .int a1)] := hl
  have hD : va_D A [(h0, .inr (11, [.int (gI o0 0), .ref (q0 1), .ref (q0 2), .ref (q0 3), .ref (q0 4), .ref (q0 5), .ref (q0 6), .int (gI o0 7), .int (gI o0 8), .int (gI o0 9), .int (gI o0 10), .int (gI o0 11), .int (gI o0 12), .int (gI o0 13), .int (gI o0 14), .long (gL o0 15), .int (gI o0 16), .int (gI o0 17), .int (gI o0 18), .int (gI o0 19), .int (gI o0 20), .int (gI o0 21), .int (gI o0 22), .int (gI o0 23), .int (gI o0 24), .int (gI o0 25), .int (gI o0 26), .int (gI o0 27), .ref (q0 28), .long (gL o0 29), .int (gI o0 30), .ref (q0 31), .ref (q0 32), .ref (q0 33), .int (gI o0 34), .int (gI o0 35), .int (gI o0 36), .int (gI o0 37), .ref (q0 38), .ref (q0 39), .int (gI o0 40), .ref (q0 41), .ref (q0 42), .ref (q0 43), .ref (q0 44)])), kI G (q0 1) 6100 (gA o0 1), kI G (q0 2) 6100 (gA o0 2), kJ G (q0 3) 2016 (gB o0 3), kJ G (q0 4) 2016 (gB o0 4), kI G (q0 5) 300 (gA o0 5), kI G (q0 6) 400 (gA o0 6), kJ G (q0 28) 10 (gB o0 28), kI G (q0 31) 969 (gA o0 31), kI G (q0 32) 969 (gA o0 32), kI G (q0 33) 969 (gA o0 33), kI G (q0 38) 5 (gA o0 38), kI G (q0 39) 5120 (gA o0 39), kI G (q0 41) 5 (gA o0 41), kZ G (q0 42) 1024 (gA o0 42), kI G (q0 43) 8192 (gA o0 43), kI G (q0 44) 8192 (gA o0 44)] := hD
  unfold f_Md_nearest at h
  suffices key : ∀ (H : Heap) (locs : List Loc), va_P G.1 CL [(h0, .inr (11, [.int (gI o0 0), .ref (q0 1), .ref (q0 2), .ref (q0 3), .ref (q0 4), .ref (q0 5), .ref (q0 6), .int (gI o0 7), .int (gI o0 8), .int (gI o0 9), .int (gI o0 10), .int (gI o0 11), .int (gI o0 12), .int (gI o0 13), .int (gI o0 14), .long (gL o0 15), .int (gI o0 16), .int (gI o0 17), .int (gI o0 18), .int (gI o0 19), .int (gI o0 20), .int (gI o0 21), .int (gI o0 22), .int (gI o0 23), .int (gI o0 24), .int (gI o0 25), .int (gI o0 26), .int (gI o0 27), .ref (q0 28), .long (gL o0 29), .int (gI o0 30), .ref (q0 31), .ref (q0 32), .ref (q0 33), .int (gI o0 34), .int (gI o0 35), .int (gI o0 36), .int (gI o0 37), .ref (q0 38), .ref (q0 39), .int (gI o0 40), .ref (q0 41), .ref (q0 42), .ref (q0 43), .ref (q0 44)])), kI G (q0 1) 6100 (gA o0 1), kI G (q0 2) 6100 (gA o0 2), kJ G (q0 3) 2016 (gB o0 3), kJ G (q0 4) 2016 (gB o0 4), kI G (q0 5) 300 (gA o0 5), kI G (q0 6) 400 (gA o0 6), kJ G (q0 28) 10 (gB o0 28), kI G (q0 31) 969 (gA o0 31), kI G (q0 32) 969 (gA o0 32), kI G (q0 33) 969 (gA o0 33), kI G (q0 38) 5 (gA o0 38), kI G (q0 39) 5120 (gA o0 39), kI G (q0 41) 5 (gA o0 41), kZ G (q0 42) 1024 (gA o0 42), kI G (q0 43) 8192 (gA o0 43), kI G (q0 44) 8192 (gA o0 44)] H → va_S A s.heap H locs → W p l e rm_Md_nearest s m ([.ref h0, .int a0, .int a1]).toArray below meth c H locs 0 0 (MQ below (va_Qi (fun (r : Int32) (u : Ob) => Q r u) (fun (u : Ob) t => BW G A (cw_Md G h0 q0 u) t) A) ([.ref h0, .int a0, .int a1]).toArray s 0 0 A) (F0 m 0 ls []) from key s.heap [] hP hS
  intro H locs hP hS
  refine lv_iload_n hx hb d_Md_nearest_0 rfl (lv_at hl 1 rfl) ?_
  refine lv_iconst (v := (0 : Int32)) hx hb d_Md_nearest_1 (by decide) ?_
  refine lv_bipush (v := (7 : Int32)) hx hb d_Md_nearest_2 (by decide) ?_
  refine cl_Si (b := b_Md_nearest) (As := [.int a0, .int (0 : Int32), .int (7 : Int32)]) (rest := []) (ws := [(h0, .inr (11, [.int (gI o0 0), .ref (q0 1), .ref (q0 2), .ref (q0 3), .ref (q0 4), .ref (q0 5), .ref (q0 6), .int (gI o0 7), .int (gI o0 8), .int (gI o0 9), .int (gI o0 10), .int (gI o0 11), .int (gI o0 12), .int (gI o0 13), .int (gI o0 14), .long (gL o0 15), .int (gI o0 16), .int (gI o0 17), .int (gI o0 18), .int (gI o0 19), .int (gI o0 20), .int (gI o0 21), .int (gI o0 22), .int (gI o0 23), .int (gI o0 24), .int (gI o0 25), .int (gI o0 26), .int (gI o0 27), .ref (q0 28), .long (gL o0 29), .int (gI o0 30), .ref (q0 31), .ref (q0 32), .ref (q0 33), .int (gI o0 34), .int (gI o0 35), .int (gI o0 36), .int (gI o0 37), .ref (q0 38), .ref (q0 39), .int (gI o0 40), .ref (q0 41), .ref (q0 42), .ref (q0 43), .ref (q0 44)])), kI G (q0 1) 6100 (gA o0 1), kI G (q0 2) 6100 (gA o0 2), kJ G (q0 3) 2016 (gB o0 3), kJ G (q0 4) 2016 (gB o0 4), kI G (q0 5) 300 (gA o0 5), kI G (q0 6) 400 (gA o0 6), kJ G (q0 28) 10 (gB o0 28), kI G (q0 31) 969 (gA o0 31), kI G (q0 32) 969 (gA o0 32), kI G (q0 33) 969 (gA o0 33), kI G (q0 38) 5 (gA o0 38), kI G (q0 39) 5120 (gA o0 39), kI G (q0 41) 5 (gA o0 41), kZ G (q0 42) 1024 (gA o0 42), kI G (q0 43) 8192 (gA o0 43), kI G (q0 44) 8192 (gA o0 44)]) (wr := [(h0, .inr (11, [.int (gI o0 0), .ref (q0 1), .ref (q0 2), .ref (q0 3), .ref (q0 4), .ref (q0 5), .ref (q0 6), .int (gI o0 7), .int (gI o0 8), .int (gI o0 9), .int (gI o0 10), .int (gI o0 11), .int (gI o0 12), .int (gI o0 13), .int (gI o0 14), .long (gL o0 15), .int (gI o0 16), .int (gI o0 17), .int (gI o0 18), .int (gI o0 19), .int (gI o0 20), .int (gI o0 21), .int (gI o0 22), .int (gI o0 23), .int (gI o0 24), .int (gI o0 25), .int (gI o0 26), .int (gI o0 27), .ref (q0 28), .long (gL o0 29), .int (gI o0 30), .ref (q0 31), .ref (q0 32), .ref (q0 33), .int (gI o0 34), .int (gI o0 35), .int (gI o0 36), .int (gI o0 37), .ref (q0 38), .ref (q0 39), .int (gI o0 40), .ref (q0 41), .ref (q0 42), .ref (q0 43), .ref (q0 44)])), kI G (q0 1) 6100 (gA o0 1), kI G (q0 2) 6100 (gA o0 2), kJ G (q0 3) 2016 (gB o0 3), kJ G (q0 4) 2016 (gB o0 4), kI G (q0 5) 300 (gA o0 5), kI G (q0 6) 400 (gA o0 6), kJ G (q0 28) 10 (gB o0 28), kI G (q0 31) 969 (gA o0 31), kI G (q0 32) 969 (gA o0 32), kI G (q0 33) 969 (gA o0 33), kI G (q0 38) 5 (gA o0 38), kI G (q0 39) 5120 (gA o0 39), kI G (q0 41) 5 (gA o0 41), kZ G (q0 42) 1024 (gA o0 42), kI G (q0 43) 8192 (gA o0 43), kI G (q0 44) 8192 (gA o0 44)]) (w2 := fun (u : Unit) => [(h0, .inr (11, [.int (gI o0 0), .ref (q0 1), .ref (q0 2), .ref (q0 3), .ref (q0 4), .ref (q0 5), .ref (q0 6), .int (gI o0 7), .int (gI o0 8), .int (gI o0 9), .int (gI o0 10), .int (gI o0 11), .int (gI o0 12), .int (gI o0 13), .int (gI o0 14), .long (gL o0 15), .int (gI o0 16), .int (gI o0 17), .int (gI o0 18), .int (gI o0 19), .int (gI o0 20), .int (gI o0 21), .int (gI o0 22), .int (gI o0 23), .int (gI o0 24), .int (gI o0 25), .int (gI o0 26), .int (gI o0 27), .ref (q0 28), .long (gL o0 29), .int (gI o0 30), .ref (q0 31), .ref (q0 32), .ref (q0 33), .int (gI o0 34), .int (gI o0 35), .int (gI o0 36), .int (gI o0 37), .ref (q0 38), .ref (q0 39), .int (gI o0 40), .ref (q0 41), .ref (q0 42), .ref (q0 43), .ref (q0 44)])), kI G (q0 1) 6100 (gA o0 1), kI G (q0 2) 6100 (gA o0 2), kJ G (q0 3) 2016 (gB o0 3), kJ G (q0 4) 2016 (gB o0 4), kI G (q0 5) 300 (gA o0 5), kI G (q0 6) 400 (gA o0 6), kJ G (q0 28) 10 (gB o0 28), kI G (q0 31) 969 (gA o0 31), kI G (q0 32) 969 (gA o0 32), kI G (q0 33) 969 (gA o0 33), kI G (q0 38) 5 (gA o0 38), kI G (q0 39) 5120 (gA o0 39), kI G (q0 41) 5 (gA o0 41), kZ G (q0 42) 1024 (gA o0 42), kI G (q0 43) 8192 (gA o0 43), kI G (q0 44) 8192 (gA o0 44)]) C (c_Md_isIn H.size h) ws_Md_76 ⟨Nat.le_of_ble_eq_true rfl, Nat.le_of_ble_eq_true rfl⟩ hP hD hS [] [0, 1, 2, 3, 4, 5, 6, 7, 8, 9, 10, 11, 12, 13, 14, 15, 16] rfl rfl (by decide) (by decide) (by decide) [0, 1, 2, 3, 4, 5, 6, 7, 8, 9, 10, 11, 12, 13, 14, 15, 16] (by decide) (fun u => rfl) rfl hl.1 rfl (lv_room (Nat.le_of_ble_eq_true rfl)) d_Md_nearest_4 ⟨Nat.le_of_ble_eq_true rfl, Nat.le_of_ble_eq_true rfl⟩ rfl rfl (fun z18 u H locs h hP hD hS => ?_)
  have hP : va_P G.1 CL [(h0, .inr (11, [.int (gI o0 0), .ref (q0 1), .ref (q0 2), .ref (q0 3), .ref (q0 4), .ref (q0 5), .ref (q0 6), .int (gI o0 7), .int (gI o0 8), .int (gI o0 9), .int (gI o0 10), .int (gI o0 11), .int (gI o0 12), .int (gI o0 13), .int (gI o0 14), .long (gL o0 15), .int (gI o0 16), .int (gI o0 17), .int (gI o0 18), .int (gI o0 19), .int (gI o0 20), .int (gI o0 21), .int (gI o0 22), .int (gI o0 23), .int (gI o0 24), .int (gI o0 25), .int (gI o0 26), .int (gI o0 27), .ref (q0 28), .long (gL o0 29), .int (gI o0 30), .ref (q0 31), .ref (q0 32), .ref (q0 33), .int (gI o0 34), .int (gI o0 35), .int (gI o0 36), .int (gI o0 37), .ref (q0 38), .ref (q0 39), .int (gI o0 40), .ref (q0 41), .ref (q0 42), .ref (q0 43), .ref (q0 44)])), kI G (q0 1) 6100 (gA o0 1), kI G (q0 2) 6100 (gA o0 2), kJ G (q0 3) 2016 (gB o0 3), kJ G (q0 4) 2016 (gB o0 4), kI G (q0 5) 300 (gA o0 5), kI G (q0 6) 400 (gA o0 6), kJ G (q0 28) 10 (gB o0 28), kI G (q0 31) 969 (gA o0 31), kI G (q0 32) 969 (gA o0 32), kI G (q0 33) 969 (gA o0 33), kI G (q0 38) 5 (gA o0 38), kI G (q0 39) 5120 (gA o0 39), kI G (q0 41) 5 (gA o0 41), kZ G (q0 42) 1024 (gA o0 42), kI G (q0 43) 8192 (gA o0 43), kI G (q0 44) 8192 (gA o0 44)] H := hP
  have hD : va_D A [(h0, .inr (11, [.int (gI o0 0), .ref (q0 1), .ref (q0 2), .ref (q0 3), .ref (q0 4), .ref (q0 5), .ref (q0 6), .int (gI o0 7), .int (gI o0 8), .int (gI o0 9), .int (gI o0 10), .int (gI o0 11), .int (gI o0 12), .int (gI o0 13), .int (gI o0 14), .long (gL o0 15), .int (gI o0 16), .int (gI o0 17), .int (gI o0 18), .int (gI o0 19), .int (gI o0 20), .int (gI o0 21), .int (gI o0 22), .int (gI o0 23), .int (gI o0 24), .int (gI o0 25), .int (gI o0 26), .int (gI o0 27), .ref (q0 28), .long (gL o0 29), .int (gI o0 30), .ref (q0 31), .ref (q0 32), .ref (q0 33), .int (gI o0 34), .int (gI o0 35), .int (gI o0 36), .int (gI o0 37), .ref (q0 38), .ref (q0 39), .int (gI o0 40), .ref (q0 41), .ref (q0 42), .ref (q0 43), .ref (q0 44)])), kI G (q0 1) 6100 (gA o0 1), kI G (q0 2) 6100 (gA o0 2), kJ G (q0 3) 2016 (gB o0 3), kJ G (q0 4) 2016 (gB o0 4), kI G (q0 5) 300 (gA o0 5), kI G (q0 6) 400 (gA o0 6), kJ G (q0 28) 10 (gB o0 28), kI G (q0 31) 969 (gA o0 31), kI G (q0 32) 969 (gA o0 32), kI G (q0 33) 969 (gA o0 33), kI G (q0 38) 5 (gA o0 38), kI G (q0 39) 5120 (gA o0 39), kI G (q0 41) 5 (gA o0 41), kZ G (q0 42) 1024 (gA o0 42), kI G (q0 43) 8192 (gA o0 43), kI G (q0 44) 8192 (gA o0 44)] := hD
  refine lv_if_eq (tgt := 31) hx hb d_Md_nearest_7 (by decide) (fun c19 => ?_) (fun c19 => ?_)
  · have h := h.1 c19
    refine lv_iconst (v := (-1 : Int32)) hx hb d_Md_nearest_31 (by decide) ?_
    have hP : va_P G.1 CL (cw_Md G h0 q0 o0) H := hP
    have hD : va_D A (cw_Md G h0 q0 o0) := hD
    exact W.iret (v := (-1 : Int32)) hx hb hr (fun t ht hW => ⟨⟨(-1 : Int32), o0, rfl, h, by rw [ht]; exact hP, va_K.moved hW.alike hK, hD⟩, hS.F ht⟩) hS.2.2 d_Md_nearest_32
  · have h := h.2 c19
    refine lv_iload_n hx hb d_Md_nearest_10 rfl (lv_at hl 2 rfl) ?_
    refine lv_iconst (v := (-1 : Int32)) hx hb d_Md_nearest_11 (by decide) ?_
    refine lv_icmp_eq (tgt := 23) hx hb d_Md_nearest_12 (by decide) (fun c20 => ?_) (fun c20 => ?_)
    · have h := h.1 c20
      have hl := lv_sub (l' := [(0, .ref h0), (1, .int a0), (2, .int a1)]) hl [0, 1, 2] rfl
      have hP : va_P G.1 CL (cw_Md G h0 q0 o0) H := hP
      have hD : va_D A (cw_Md G h0 q0 o0) := hD
      exact t_Md_nearest_23 Q C a0 a1 o0 ls _ locs hl hP hD hS h
    · have h := h.2 c20
      refine lv_aload_n hx hb d_Md_nearest_15 rfl (lv_at hl 0 rfl) ?_
      refine lv_iload_n hx hb d_Md_nearest_16 rfl (lv_at hl 2 rfl) ?_
      refine cl_Vi (b := b_Md_nearest) (As := [.int a1]) (rest := []) (ws := [(h0, .inr (11, [.int (gI o0 0), .ref (q0 1), .ref (q0 2), .ref (q0 3), .ref (q0 4), .ref (q0 5), .ref (q0 6), .int (gI o0 7), .int (gI o0 8), .int (gI o0 9), .int (gI o0 10), .int (gI o0 11), .int (gI o0 12), .int (gI o0 13), .int (gI o0 14), .long (gL o0 15), .int (gI o0 16), .int (gI o0 17), .int (gI o0 18), .int (gI o0 19), .int (gI o0 20), .int (gI o0 21), .int (gI o0 22), .int (gI o0 23), .int (gI o0 24), .int (gI o0 25), .int (gI o0 26), .int (gI o0 27), .ref (q0 28), .long (gL o0 29), .int (gI o0 30), .ref (q0 31), .ref (q0 32), .ref (q0 33), .int (gI o0 34), .int (gI o0 35), .int (gI o0 36), .int (gI o0 37), .ref (q0 38), .ref (q0 39), .int (gI o0 40), .ref (q0 41), .ref (q0 42), .ref (q0 43), .ref (q0 44)])), kI G (q0 1) 6100 (gA o0 1), kI G (q0 2) 6100 (gA o0 2), kJ G (q0 3) 2016 (gB o0 3), kJ G (q0 4) 2016 (gB o0 4), kI G (q0 5) 300 (gA o0 5), kI G (q0 6) 400 (gA o0 6), kJ G (q0 28) 10 (gB o0 28), kI G (q0 31) 969 (gA o0 31), kI G (q0 32) 969 (gA o0 32), kI G (q0 33) 969 (gA o0 33), kI G (q0 38) 5 (gA o0 38), kI G (q0 39) 5120 (gA o0 39), kI G (q0 41) 5 (gA o0 41), kZ G (q0 42) 1024 (gA o0 42), kI G (q0 43) 8192 (gA o0 43), kI G (q0 44) 8192 (gA o0 44)]) (wr := []) (w2 := fun (u : Unit) => [(h0, .inr (11, [.int (gI o0 0), .ref (q0 1), .ref (q0 2), .ref (q0 3), .ref (q0 4), .ref (q0 5), .ref (q0 6), .int (gI o0 7), .int (gI o0 8), .int (gI o0 9), .int (gI o0 10), .int (gI o0 11), .int (gI o0 12), .int (gI o0 13), .int (gI o0 14), .long (gL o0 15), .int (gI o0 16), .int (gI o0 17), .int (gI o0 18), .int (gI o0 19), .int (gI o0 20), .int (gI o0 21), .int (gI o0 22), .int (gI o0 23), .int (gI o0 24), .int (gI o0 25), .int (gI o0 26), .int (gI o0 27), .ref (q0 28), .long (gL o0 29), .int (gI o0 30), .ref (q0 31), .ref (q0 32), .ref (q0 33), .int (gI o0 34), .int (gI o0 35), .int (gI o0 36), .int (gI o0 37), .ref (q0 38), .ref (q0 39), .int (gI o0 40), .ref (q0 41), .ref (q0 42), .ref (q0 43), .ref (q0 44)])), kI G (q0 1) 6100 (gA o0 1), kI G (q0 2) 6100 (gA o0 2), kJ G (q0 3) 2016 (gB o0 3), kJ G (q0 4) 2016 (gB o0 4), kI G (q0 5) 300 (gA o0 5), kI G (q0 6) 400 (gA o0 6), kJ G (q0 28) 10 (gB o0 28), kI G (q0 31) 969 (gA o0 31), kI G (q0 32) 969 (gA o0 32), kI G (q0 33) 969 (gA o0 33), kI G (q0 38) 5 (gA o0 38), kI G (q0 39) 5120 (gA o0 39), kI G (q0 41) 5 (gA o0 41), kZ G (q0 42) 1024 (gA o0 42), kI G (q0 43) 8192 (gA o0 43), kI G (q0 44) 8192 (gA o0 44)]) C (c_Md_isPiece (h0 := h0) (q0 := q0) H.size h) wv_Md_169 ⟨Nat.le_of_ble_eq_true rfl, Nat.le_of_ble_eq_true rfl⟩ hP hD hS 0 rfl rfl [0, 1, 2, 3, 4, 5, 6, 7, 8, 9, 10, 11, 12, 13, 14, 15, 16] [] rfl rfl (by decide) (by decide) (by decide) [0, 1, 2, 3, 4, 5, 6, 7, 8, 9, 10, 11, 12, 13, 14, 15, 16] (by decide) (fun u => rfl) rfl hl.1 rfl (lv_room (Nat.le_of_ble_eq_true rfl)) d_Md_nearest_17 ⟨Nat.le_of_ble_eq_true rfl, Nat.le_of_ble_eq_true rfl⟩ rfl rfl (fun z21 u H locs h hP hD hS => ?_)
      have hP : va_P G.1 CL [(h0, .inr (11, [.int (gI o0 0), .ref (q0 1), .ref (q0 2), .ref (q0 3), .ref (q0 4), .ref (q0 5), .ref (q0 6), .int (gI o0 7), .int (gI o0 8), .int (gI o0 9), .int (gI o0 10), .int (gI o0 11), .int (gI o0 12), .int (gI o0 13), .int (gI o0 14), .long (gL o0 15), .int (gI o0 16), .int (gI o0 17), .int (gI o0 18), .int (gI o0 19), .int (gI o0 20), .int (gI o0 21), .int (gI o0 22), .int (gI o0 23), .int (gI o0 24), .int (gI o0 25), .int (gI o0 26), .int (gI o0 27), .ref (q0 28), .long (gL o0 29), .int (gI o0 30), .ref (q0 31), .ref (q0 32), .ref (q0 33), .int (gI o0 34), .int (gI o0 35), .int (gI o0 36), .int (gI o0 37), .ref (q0 38), .ref (q0 39), .int (gI o0 40), .ref (q0 41), .ref (q0 42), .ref (q0 43), .ref (q0 44)])), kI G (q0 1) 6100 (gA o0 1), kI G (q0 2) 6100 (gA o0 2), kJ G (q0 3) 2016 (gB o0 3), kJ G (q0 4) 2016 (gB o0 4), kI G (q0 5) 300 (gA o0 5), kI G (q0 6) 400 (gA o0 6), kJ G (q0 28) 10 (gB o0 28), kI G (q0 31) 969 (gA o0 31), kI G (q0 32) 969 (gA o0 32), kI G (q0 33) 969 (gA o0 33), kI G (q0 38) 5 (gA o0 38), kI G (q0 39) 5120 (gA o0 39), kI G (q0 41) 5 (gA o0 41), kZ G (q0 42) 1024 (gA o0 42), kI G (q0 43) 8192 (gA o0 43), kI G (q0 44) 8192 (gA o0 44)] H := hP
      have hD : va_D A [(h0, .inr (11, [.int (gI o0 0), .ref (q0 1), .ref (q0 2), .ref (q0 3), .ref (q0 4), .ref (q0 5), .ref (q0 6), .int (gI o0 7), .int (gI o0 8), .int (gI o0 9), .int (gI o0 10), .int (gI o0 11), .int (gI o0 12), .int (gI o0 13), .int (gI o0 14), .long (gL o0 15), .int (gI o0 16), .int (gI o0 17), .int (gI o0 18), .int (gI o0 19), .int (gI o0 20), .int (gI o0 21), .int (gI o0 22), .int (gI o0 23), .int (gI o0 24), .int (gI o0 25), .int (gI o0 26), .int (gI o0 27), .ref (q0 28), .long (gL o0 29), .int (gI o0 30), .ref (q0 31), .ref (q0 32), .ref (q0 33), .int (gI o0 34), .int (gI o0 35), .int (gI o0 36), .int (gI o0 37), .ref (q0 38), .ref (q0 39), .int (gI o0 40), .ref (q0 41), .ref (q0 42), .ref (q0 43), .ref (q0 44)])), kI G (q0 1) 6100 (gA o0 1), kI G (q0 2) 6100 (gA o0 2), kJ G (q0 3) 2016 (gB o0 3), kJ G (q0 4) 2016 (gB o0 4), kI G (q0 5) 300 (gA o0 5), kI G (q0 6) 400 (gA o0 6), kJ G (q0 28) 10 (gB o0 28), kI G (q0 31) 969 (gA o0 31), kI G (q0 32) 969 (gA o0 32), kI G (q0 33) 969 (gA o0 33), kI G (q0 38) 5 (gA o0 38), kI G (q0 39) 5120 (gA o0 39), kI G (q0 41) 5 (gA o0 41), kZ G (q0 42) 1024 (gA o0 42), kI G (q0 43) 8192 (gA o0 43), kI G (q0 44) 8192 (gA o0 44)] := hD
      refine lv_if_eq (tgt := 31) hx hb d_Md_nearest_20 (by decide) (fun c22 => ?_) (fun c22 => ?_)
      · have h := h.1 c22
        refine lv_iconst (v := (-1 : Int32)) hx hb d_Md_nearest_31 (by decide) ?_
        have hP : va_P G.1 CL (cw_Md G h0 q0 o0) H := hP
        have hD : va_D A (cw_Md G h0 q0 o0) := hD
        exact W.iret (v := (-1 : Int32)) hx hb hr (fun t ht hW => ⟨⟨(-1 : Int32), o0, rfl, h, by rw [ht]; exact hP, va_K.moved hW.alike hK, hD⟩, hS.F ht⟩) hS.2.2 d_Md_nearest_32
      · have h := h.2 c22
        have hl := lv_sub (l' := [(0, .ref h0), (1, .int a0), (2, .int a1)]) hl [0, 1, 2] rfl
        have hP : va_P G.1 CL (cw_Md G h0 q0 o0) H := hP
        have hD : va_D A (cw_Md G h0 q0 o0) := hD
        exact t_Md_nearest_23 Q C a0 a1 o0 ls _ locs hl hP hD hS h
abbrev b_Md_findRow : ByteArray := prog_14_method_63_code
def y_Md_findRow : MethodName := ⟨R_Md, "findRow", "(I)V"⟩
abbrev w_Md_findRow : List Cond := Cond.code y_Md_findRow b_Md_findRow 7 none :: gw_tbl
theorem d_Md_findRow_0 : decode b_Md_findRow 0 = .ok (.iload_n 1, 1) := by decide +kernel
theorem d_Md_findRow_1 : decode b_Md_findRow 1 = .ok (.iconst 1, 1) := by decide +kernel
theorem d_Md_findRow_2 : decode b_Md_findRow 2 = .ok (.isub, 1) := by decide +kernel
theorem d_Md_findRow_3 : decode b_Md_findRow 3 = .ok (.istore_n 2, 1) := by decide +kernel
theorem d_Md_findRow_4 : decode b_Md_findRow 4 = .ok (.iload_n 2, 1) := by decide +kernel
theorem d_Md_findRow_5 : decode b_Md_findRow 5 = .ok (.ifCond .lt 195, 3) := by decide +kernel
theorem d_Md_findRow_8 : decode b_Md_findRow 8 = .ok (.aload_n 0, 1) := by decide +kernel
theorem d_Md_findRow_9 : decode b_Md_findRow 9 = .ok (.iload_n 2, 1) := by decide +kernel
theorem d_Md_findRow_10 : decode b_Md_findRow 10 = .ok (.invokevirtual 286, 3) := by decide +kernel
theorem d_Md_findRow_13 : decode b_Md_findRow 13 = .ok (.pop, 1) := by decide +kernel
theorem d_Md_findRow_14 : decode b_Md_findRow 14 = .ok (.iconst 0, 1) := by decide +kernel
theorem d_Md_findRow_15 : decode b_Md_findRow 15 = .ok (.istore_n 3, 1) := by decide +kernel
theorem d_Md_findRow_16 : decode b_Md_findRow 16 = .ok (.iload_n 3, 1) := by decide +kernel
theorem d_Md_findRow_17 : decode b_Md_findRow 17 = .ok (.aload_n 0, 1) := by decide +kernel
theorem d_Md_findRow_18 : decode b_Md_findRow 18 = .ok (.getfield 273, 3) := by decide +kernel
theorem d_Md_findRow_21 : decode b_Md_findRow 21 = .ok (.if_icmp .ge 173, 3) := by decide +kernel
theorem d_Md_findRow_24 : decode b_Md_findRow 24 = .ok (.sipush 1024, 3) := by decide +kernel
theorem d_Md_findRow_27 : decode b_Md_findRow 27 = .ok (.iload_n 2, 1) := by decide +kernel
theorem d_Md_findRow_28 : decode b_Md_findRow 28 = .ok (.imul, 1) := by decide +kernel
theorem d_Md_findRow_29 : decode b_Md_findRow 29 = .ok (.iload_n 3, 1) := by decide +kernel
theorem d_Md_findRow_30 : decode b_Md_findRow 30 = .ok (.iadd, 1) := by decide +kernel
theorem d_Md_findRow_31 : decode b_Md_findRow 31 = .ok (.istore 4, 2) := by decide +kernel
theorem d_Md_findRow_33 : decode b_Md_findRow 33 = .ok (.aload_n 0, 1) := by decide +kernel
theorem d_Md_findRow_34 : decode b_Md_findRow 34 = .ok (.getfield 61, 3) := by decide +kernel
theorem d_Md_findRow_37 : decode b_Md_findRow 37 = .ok (.iload 4, 2) := by decide +kernel
theorem d_Md_findRow_39 : decode b_Md_findRow 39 = .ok (.iconst (-1), 1) := by decide +kernel
theorem d_Md_findRow_40 : decode b_Md_findRow 40 = .ok (.iastore, 1) := by decide +kernel
theorem d_Md_findRow_41 : decode b_Md_findRow 41 = .ok (.aload_n 0, 1) := by decide +kernel
theorem d_Md_findRow_42 : decode b_Md_findRow 42 = .ok (.getfield 64, 3) := by decide +kernel
theorem d_Md_findRow_45 : decode b_Md_findRow 45 = .ok (.iload 4, 2) := by decide +kernel
theorem d_Md_findRow_47 : decode b_Md_findRow 47 = .ok (.iconst (-1), 1) := by decide +kernel
theorem d_Md_findRow_48 : decode b_Md_findRow 48 = .ok (.iastore, 1) := by decide +kernel
theorem d_Md_findRow_49 : decode b_Md_findRow 49 = .ok (.aload_n 0, 1) := by decide +kernel
theorem d_Md_findRow_50 : decode b_Md_findRow 50 = .ok (.getfield 57, 3) := by decide +kernel
theorem d_Md_findRow_53 : decode b_Md_findRow 53 = .ok (.iload_n 3, 1) := by decide +kernel
theorem d_Md_findRow_54 : decode b_Md_findRow 54 = .ok (.baload, 1) := by decide +kernel
theorem d_Md_findRow_55 : decode b_Md_findRow 55 = .ok (.ifCond .eq 18, 3) := by decide +kernel
theorem d_Md_findRow_58 : decode b_Md_findRow 58 = .ok (.iload_n 2, 1) := by decide +kernel
theorem d_Md_findRow_59 : decode b_Md_findRow 59 = .ok (.iload_n 1, 1) := by decide +kernel
theorem d_Md_findRow_60 : decode b_Md_findRow 60 = .ok (.iconst 1, 1) := by decide +kernel
theorem d_Md_findRow_61 : decode b_Md_findRow 61 = .ok (.isub, 1) := by decide +kernel
theorem d_Md_findRow_62 : decode b_Md_findRow 62 = .ok (.if_icmp .ne 11, 3) := by decide +kernel
theorem d_Md_findRow_65 : decode b_Md_findRow 65 = .ok (.aload_n 0, 1) := by decide +kernel
theorem d_Md_findRow_66 : decode b_Md_findRow 66 = .ok (.getfield 61, 3) := by decide +kernel
theorem d_Md_findRow_69 : decode b_Md_findRow 69 = .ok (.iload 4, 2) := by decide +kernel
theorem d_Md_findRow_71 : decode b_Md_findRow 71 = .ok (.iconst 0, 1) := by decide +kernel
theorem d_Md_findRow_72 : decode b_Md_findRow 72 = .ok (.iastore, 1) := by decide +kernel
theorem d_Md_findRow_73 : decode b_Md_findRow 73 = .ok (.iconst 0, 1) := by decide +kernel
theorem d_Md_findRow_74 : decode b_Md_findRow 74 = .ok (.istore 5, 2) := by decide +kernel
theorem d_Md_findRow_76 : decode b_Md_findRow 76 = .ok (.iload 5, 2) := by decide +kernel
theorem d_Md_findRow_78 : decode b_Md_findRow 78 = .ok (.aload_n 0, 1) := by decide +kernel
theorem d_Md_findRow_79 : decode b_Md_findRow 79 = .ok (.getfield 273, 3) := by decide +kernel
theorem d_Md_findRow_82 : decode b_Md_findRow 82 = .ok (.if_icmp .ge 106, 3) := by decide +kernel
theorem d_Md_findRow_85 : decode b_Md_findRow 85 = .ok (.aload_n 0, 1) := by decide +kernel
theorem d_Md_findRow_86 : decode b_Md_findRow 86 = .ok (.getfield 57, 3) := by decide +kernel
theorem d_Md_findRow_89 : decode b_Md_findRow 89 = .ok (.iload_n 3, 1) := by decide +kernel
theorem d_Md_findRow_90 : decode b_Md_findRow 90 = .ok (.baload, 1) := by decide +kernel
theorem d_Md_findRow_91 : decode b_Md_findRow 91 = .ok (.ifCond .eq 97, 3) := by decide +kernel
theorem d_Md_findRow_94 : decode b_Md_findRow 94 = .ok (.iload_n 2, 1) := by decide +kernel
theorem d_Md_findRow_95 : decode b_Md_findRow 95 = .ok (.iload_n 1, 1) := by decide +kernel
theorem d_Md_findRow_96 : decode b_Md_findRow 96 = .ok (.iconst 1, 1) := by decide +kernel
theorem d_Md_findRow_97 : decode b_Md_findRow 97 = .ok (.isub, 1) := by decide +kernel
theorem d_Md_findRow_98 : decode b_Md_findRow 98 = .ok (.if_icmp .ge 90, 3) := by decide +kernel
theorem d_Md_findRow_101 : decode b_Md_findRow 101 = .ok (.aload_n 0, 1) := by decide +kernel
theorem d_Md_findRow_102 : decode b_Md_findRow 102 = .ok (.getfield 61, 3) := by decide +kernel
theorem d_Md_findRow_105 : decode b_Md_findRow 105 = .ok (.sipush 1024, 3) := by decide +kernel
theorem d_Md_findRow_108 : decode b_Md_findRow 108 = .ok (.iload_n 2, 1) := by decide +kernel
theorem d_Md_findRow_109 : decode b_Md_findRow 109 = .ok (.iconst 1, 1) := by decide +kernel
theorem d_Md_findRow_110 : decode b_Md_findRow 110 = .ok (.iadd, 1) := by decide +kernel
theorem d_Md_findRow_111 : decode b_Md_findRow 111 = .ok (.imul, 1) := by decide +kernel
theorem d_Md_findRow_112 : decode b_Md_findRow 112 = .ok (.iload 5, 2) := by decide +kernel
theorem d_Md_findRow_114 : decode b_Md_findRow 114 = .ok (.iadd, 1) := by decide +kernel
theorem d_Md_findRow_115 : decode b_Md_findRow 115 = .ok (.iaload, 1) := by decide +kernel
theorem d_Md_findRow_116 : decode b_Md_findRow 116 = .ok (.istore 6, 2) := by decide +kernel
theorem d_Md_findRow_118 : decode b_Md_findRow 118 = .ok (.iload 6, 2) := by decide +kernel
theorem d_Md_findRow_120 : decode b_Md_findRow 120 = .ok (.ifCond .lt 62, 3) := by decide +kernel
theorem d_Md_findRow_123 : decode b_Md_findRow 123 = .ok (.aload_n 0, 1) := by decide +kernel
theorem d_Md_findRow_124 : decode b_Md_findRow 124 = .ok (.getfield 61, 3) := by decide +kernel
theorem d_Md_findRow_127 : decode b_Md_findRow 127 = .ok (.iload 4, 2) := by decide +kernel
theorem d_Md_findRow_129 : decode b_Md_findRow 129 = .ok (.iaload, 1) := by decide +kernel
theorem d_Md_findRow_130 : decode b_Md_findRow 130 = .ok (.ifCond .lt 26, 3) := by decide +kernel
theorem d_Md_findRow_133 : decode b_Md_findRow 133 = .ok (.iload 6, 2) := by decide +kernel
theorem d_Md_findRow_135 : decode b_Md_findRow 135 = .ok (.aload_n 0, 1) := by decide +kernel
theorem d_Md_findRow_136 : decode b_Md_findRow 136 = .ok (.iload_n 3, 1) := by decide +kernel
theorem d_Md_findRow_137 : decode b_Md_findRow 137 = .ok (.iload 5, 2) := by decide +kernel
theorem d_Md_findRow_139 : decode b_Md_findRow 139 = .ok (.invokevirtual 289, 3) := by decide +kernel
theorem d_Md_findRow_142 : decode b_Md_findRow 142 = .ok (.iadd, 1) := by decide +kernel
theorem d_Md_findRow_143 : decode b_Md_findRow 143 = .ok (.aload_n 0, 1) := by decide +kernel
theorem d_Md_findRow_144 : decode b_Md_findRow 144 = .ok (.getfield 61, 3) := by decide +kernel
theorem d_Md_findRow_147 : decode b_Md_findRow 147 = .ok (.iload 4, 2) := by decide +kernel
theorem d_Md_findRow_149 : decode b_Md_findRow 149 = .ok (.iaload, 1) := by decide +kernel
theorem d_Md_findRow_150 : decode b_Md_findRow 150 = .ok (.if_icmp .lt 6, 3) := by decide +kernel
theorem d_Md_findRow_153 : decode b_Md_findRow 153 = .ok (.goto 29, 3) := by decide +kernel
theorem d_Md_findRow_156 : decode b_Md_findRow 156 = .ok (.aload_n 0, 1) := by decide +kernel
theorem d_Md_findRow_157 : decode b_Md_findRow 157 = .ok (.getfield 61, 3) := by decide +kernel
theorem d_Md_findRow_160 : decode b_Md_findRow 160 = .ok (.iload 4, 2) := by decide +kernel
theorem d_Md_findRow_162 : decode b_Md_findRow 162 = .ok (.iload 6, 2) := by decide +kernel
theorem d_Md_findRow_164 : decode b_Md_findRow 164 = .ok (.aload_n 0, 1) := by decide +kernel
theorem d_Md_findRow_165 : decode b_Md_findRow 165 = .ok (.iload_n 3, 1) := by decide +kernel
theorem d_Md_findRow_166 : decode b_Md_findRow 166 = .ok (.iload 5, 2) := by decide +kernel
theorem d_Md_findRow_168 : decode b_Md_findRow 168 = .ok (.invokevirtual 289, 3) := by decide +kernel
theorem d_Md_findRow_171 : decode b_Md_findRow 171 = .ok (.iadd, 1) := by decide +kernel
theorem d_Md_findRow_172 : decode b_Md_findRow 172 = .ok (.iastore, 1) := by decide +kernel
theorem d_Md_findRow_173 : decode b_Md_findRow 173 = .ok (.aload_n 0, 1) := by decide +kernel
theorem d_Md_findRow_174 : decode b_Md_findRow 174 = .ok (.getfield 64, 3) := by decide +kernel
theorem d_Md_findRow_177 : decode b_Md_findRow 177 = .ok (.iload 4, 2) := by decide +kernel
theorem d_Md_findRow_179 : decode b_Md_findRow 179 = .ok (.iload 5, 2) := by decide +kernel
theorem d_Md_findRow_181 : decode b_Md_findRow 181 = .ok (.iastore, 1) := by decide +kernel
theorem d_Md_findRow_182 : decode b_Md_findRow 182 = .ok (.iinc 5 1, 3) := by decide +kernel
theorem d_Md_findRow_185 : decode b_Md_findRow 185 = .ok (.goto (-109), 3) := by decide +kernel
theorem d_Md_findRow_188 : decode b_Md_findRow 188 = .ok (.iinc 3 1, 3) := by decide +kernel
theorem d_Md_findRow_191 : decode b_Md_findRow 191 = .ok (.goto (-175), 3) := by decide +kernel
theorem d_Md_findRow_194 : decode b_Md_findRow 194 = .ok (.iinc 2 (-1), 3) := by decide +kernel
theorem d_Md_findRow_197 : decode b_Md_findRow 197 = .ok (.goto (-193), 3) := by decide +kernel
theorem d_Md_findRow_200 : decode b_Md_findRow 200 = .ok (.return_, 1) := by decide +kernel
theorem wf_Md_61 : Cond.fieldLink R_Md 61 R_Md "onward" "[I" ∈ gw_tbl := gw_tb (List.mem_of_getElem? (i := 1014) (by decide +kernel)) rfl
theorem wf_Md_64 : Cond.fieldLink R_Md 64 R_Md "nextOne" "[I" ∈ gw_tbl := gw_tb (List.mem_of_getElem? (i := 1015) (by decide +kernel)) rfl
theorem wv_Md_289 : wV R_Md 289 y_Md_apart b_Md_apart 6 (some .int) 2 := ⟨⟨gw_tb (List.mem_of_getElem? (i := 1352) (by decide +kernel)) rfl, gw_tb (List.mem_of_getElem? (i := 13) (by decide +kernel)) rfl, gw_tb (List.mem_of_getElem? (i := 1355) (by decide +kernel)) rfl, by decide, by decide, by decide +kernel⟩, gw_tb (List.mem_of_getElem? (i := 1354) (by decide +kernel)) rfl, gw_of (List.mem_append_left _ (List.mem_of_getElem? (i := 61) (by decide +kernel))) rfl⟩
def f_Md_findRow_156 (k76 : Int32 → Int32 → Int32 → Int32 → Int32 → Ob → Prop) (Q : Ob → Prop) (x1 : Int32) (x2 : Int32) (x3 : Int32) (x4 : Int32) (x5 : Int32) (x6 : Int32) (o0 : Ob) : Prop := f_Md_apart x3 x5 o0 (fun z1 => (vp_in x4 8192) ∧ ((vp_in x4 8192) ∧ (k76 x1 x2 x3 x4 (x5 + (1 : Int32)) (sA (sA o0 43 (upd (gA o0 43) x4.toNatClampNeg (x6 + z1))) 44 (upd (gA o0 44) x4.toNatClampNeg x5)))))
def f_Md_findRow_76 (k16 : Int32 → Int32 → Int32 → Ob → Prop) (Q : Ob → Prop) : Nat → Int32 → Int32 → Int32 → Int32 → Int32 → Ob → Prop
  | 0, _, _, _, _, _, _ => False
  | n + 1, x1, x2, x3, x4, x5, o0 => ((gI o0 40) ≤ x5 → (k16 x1 x2 (x3 + (1 : Int32)) o0)) ∧ (¬ (gI o0 40) ≤ x5 → ((vp_in x3 1024) ∧ ((((gA o0 42) x3.toNatClampNeg) = 0 → (k16 x1 x2 (x3 + (1 : Int32)) o0)) ∧ (¬ ((gA o0 42) x3.toNatClampNeg) = 0 → (((x1 - (1 : Int32)) ≤ x2 → (k16 x1 x2 (x3 + (1 : Int32)) o0)) ∧ (¬ (x1 - (1 : Int32)) ≤ x2 → ((vp_in (((1024 : Int32) * (x2 + (1 : Int32))) + x5) 8192) ∧ (∀ y9 : Int32, y9 = ((gA o0 43) ((((1024 : Int32) * (x2 + (1 : Int32))) + x5).toNatClampNeg)) → ((y9 < 0 → ((f_Md_findRow_76 k16 Q n) x1 x2 x3 x4 (x5 + (1 : Int32)) o0)) ∧ (¬ y9 < 0 → ((vp_in x4 8192) ∧ ((((gA o0 43) x4.toNatClampNeg) < 0 → (f_Md_findRow_156 (f_Md_findRow_76 k16 Q n) Q x1 x2 x3 x4 x5 y9 o0)) ∧ (¬ ((gA o0 43) x4.toNatClampNeg) < 0 → (f_Md_apart x3 x5 o0 (fun z13 => (vp_in x4 8192) ∧ (((y9 + z13) < ((gA o0 43) x4.toNatClampNeg) → (f_Md_findRow_156 (f_Md_findRow_76 k16 Q n) Q x1 x2 x3 x4 x5 y9 o0)) ∧ (¬ (y9 + z13) < ((gA o0 43) x4.toNatClampNeg) → ((f_Md_findRow_76 k16 Q n) x1 x2 x3 x4 (x5 + (1 : Int32)) o0))))))))))))))))))
def f_Md_findRow_16 (k4 : Int32 → Int32 → Ob → Prop) (Q : Ob → Prop) : Nat → Int32 → Int32 → Int32 → Ob → Prop
  | 0, _, _, _, _ => False
  | n + 1, x1, x2, x3, o0 => ((gI o0 40) ≤ x3 → (k4 x1 (x2 + (-1 : Int32)) o0)) ∧ (¬ (gI o0 40) ≤ x3 → ((vp_in (((1024 : Int32) * x2) + x3) 8192) ∧ ((vp_in (((1024 : Int32) * x2) + x3) 8192) ∧ ((vp_in x3 1024) ∧ ((((gA o0 42) x3.toNatClampNeg) = 0 → ((∃ w, f_Md_findRow_76 (f_Md_findRow_16 k4 Q n) Q w x1 x2 x3 (((1024 : Int32) * x2) + x3) (0 : Int32) (sA (sA o0 43 (upd (gA o0 43) ((((1024 : Int32) * x2) + x3).toNatClampNeg) (-1 : Int32))) 44 (upd (gA o0 44) ((((1024 : Int32) * x2) + x3).toNatClampNeg) (-1 : Int32)))))) ∧ (¬ ((gA o0 42) x3.toNatClampNeg) = 0 → ((x2 = (x1 - (1 : Int32)) → ((vp_in (((1024 : Int32) * x2) + x3) 8192) ∧ ((∃ w, f_Md_findRow_76 (f_Md_findRow_16 k4 Q n) Q w x1 x2 x3 (((1024 : Int32) * x2) + x3) (0 : Int32) (sA (sA o0 43 (upd (upd (gA o0 43) ((((1024 : Int32) * x2) + x3).toNatClampNeg) (-1 : Int32)) ((((1024 : Int32) * x2) + x3).toNatClampNeg) (0 : Int32))) 44 (upd (gA o0 44) ((((1024 : Int32) * x2) + x3).toNatClampNeg) (-1 : Int32))))))) ∧ (¬ x2 = (x1 - (1 : Int32)) → ((∃ w, f_Md_findRow_76 (f_Md_findRow_16 k4 Q n) Q w x1 x2 x3 (((1024 : Int32) * x2) + x3) (0 : Int32) (sA (sA o0 43 (upd (gA o0 43) ((((1024 : Int32) * x2) + x3).toNatClampNeg) (-1 : Int32))) 44 (upd (gA o0 44) ((((1024 : Int32) * x2) + x3).toNatClampNeg) (-1 : Int32)))))))))))))
def f_Md_findRow_4 (Q : Ob → Prop) : Nat → Int32 → Int32 → Ob → Prop
  | 0, _, _, _ => False
  | n + 1, x1, x2, o0 => (x2 < 0 → (Q o0)) ∧ (¬ x2 < 0 → (f_Md_findMakers x2 o0 (fun z24 u25 => (∃ w, f_Md_findRow_16 (f_Md_findRow_4 Q n) Q w x1 x2 (0 : Int32) u25))))
def f_Md_findRow (a0 : Int32) (o0 : Ob) (Q : Ob → Prop) : Prop := (∃ w, f_Md_findRow_4 Q w a0 (a0 - (1 : Int32)) o0)
abbrev rm_Md_findRow : Room := { frames := 4, cells := 0, slots := 0, locals := 102 }
set_option maxHeartbeats 4000000 in
set_option maxRecDepth 100000 in
theorem t_Md_findRow_156 {p : Program} {l : Launch} {e : Env} {s : State} {m : MethodId} {args : Array Value} {below : List Frame} {meth : Method} {c : Code} {A : Nat → Prop} {G : Gl} {h0 : Nat} {q0 : Nat → Nat} (k76 : Int32 → Int32 → Int32 → Int32 → Int32 → Ob → Prop) (Q : Ob → Prop) (C : Cx p s m args meth c R_Md b_Md_findRow 7 none G A)
    (hk76 : ∀ (x1 : Int32) (x2 : Int32) (x3 : Int32) (x4 : Int32) (x5 : Int32) (o0 : Ob) (ls : Array Slot) (H : Heap) (locs : List Loc), lv_has ls 7 [(0, .ref h0), (1, .int x1), (2, .int x2), (3, .int x3), (4, .int x4), (5, .int x5)] → va_P G.1 CL (cw_Md G h0 q0 o0) H → va_D A (cw_Md G h0 q0 o0) → va_S A s.heap H locs → k76 x1 x2 x3 x4 x5 o0 → W p l e rm_Md_findRow s m args below meth c H locs 0 0 (MQ below (va_Qv (fun (u : Ob) => Q u) (fun (u : Ob) t => BW G A (cw_Md G h0 q0 u) t) A) args s 0 0 A) (F0 m 76 ls [])) :
    ∀ (x1 : Int32) (x2 : Int32) (x3 : Int32) (x4 : Int32) (x5 : Int32) (x6 : Int32) (o0 : Ob) (ls : Array Slot) (H : Heap) (locs : List Loc), lv_has ls 7 [(0, .ref h0), (1, .int x1), (2, .int x2), (3, .int x3), (4, .int x4), (5, .int x5), (6, .int x6)] → va_P G.1 CL (cw_Md G h0 q0 o0) H → va_D A (cw_Md G h0 q0 o0) → va_S A s.heap H locs → f_Md_findRow_156 k76 Q x1 x2 x3 x4 x5 x6 o0 → W p l e rm_Md_findRow s m args below meth c H locs 0 0 (MQ below (va_Qv (fun (u : Ob) => Q u) (fun (u : Ob) t => BW G A (cw_Md G h0 q0 u) t) A) args s 0 0 A) (F0 m 156 ls []) := by
  obtain ⟨hx, hb, hml, hown, hr, hts, hK, hA, hlocks, hE⟩ := id C
  intro x1 x2 x3 x4 x5 x6 o0 ls H locs hl hP hD hS h
  have hP : va_P G.1 CL [(h0, .inr (11, [.int (gI o0 0), .ref (q0 1), .ref (q0 2), .ref (q0 3), .ref (q0 4), .ref (q0 5), .ref (q0 6), .int (gI o0 7), .int (gI o0 8), .int (gI o0 9), .int (gI o0 10), .int (gI o0 11), .int (gI o0 12), .int (gI o0 13), .int (gI o0 14), .long (gL o0 15), .int (gI o0 16), .int (gI o0 17), .int (gI o0 18), .int (gI o0 19), .int (gI o0 20), .int (gI o0 21), .int (gI o0 22), .int (gI o0 23), .int (gI o0 24), .int (gI o0 25), .int (gI o0 26), .int (gI o0 27), .ref (q0 28), .long (gL o0 29), .int (gI o0 30), .ref (q0 31), .ref (q0 32), .ref (q0 33), .int (gI o0 34), .int (gI o0 35), .int (gI o0 36), .int (gI o0 37), .ref (q0 38), .ref (q0 39), .int (gI o0 40), .ref (q0 41), .ref (q0 42), .ref (q0 43), .ref (q0 44)])), kI G (q0 1) 6100 (gA o0 1), kI G (q0 2) 6100 (gA o0 2), kJ G (q0 3) 2016 (gB o0 3), kJ G (q0 4) 2016 (gB o0 4), kI G (q0 5) 300 (gA o0 5), kI G (q0 6) 400 (gA o0 6), kJ G (q0 28) 10 (gB o0 28), kI G (q0 31) 969 (gA o0 31), kI G (q0 32) 969 (gA o0 32), kI G (q0 33) 969 (gA o0 33), kI G (q0 38) 5 (gA o0 38), kI G (q0 39) 5120 (gA o0 39), kI G (q0 41) 5 (gA o0 41), kZ G (q0 42) 1024 (gA o0 42), kI G (q0 43) 8192 (gA o0 43), kI G (q0 44) 8192 (gA o0 44)] H := hP
  have hD : va_D A [(h0, .inr (11, [.int (gI o0 0), .ref (q0 1), .ref (q0 2), .ref (q0 3), .ref (q0 4), .ref (q0 5), .ref (q0 6), .int (gI o0 7), .int (gI o0 8), .int (gI o0 9), .int (gI o0 10), .int (gI o0 11), .int (gI o0 12), .int (gI o0 13), .int (gI o0 14), .long (gL o0 15), .int (gI o0 16), .int (gI o0 17), .int (gI o0 18), .int (gI o0 19), .int (gI o0 20), .int (gI o0 21), .int (gI o0 22), .int (gI o0 23), .int (gI o0 24), .int (gI o0 25), .int (gI o0 26), .int (gI o0 27), .ref (q0 28), .long (gL o0 29), .int (gI o0 30), .ref (q0 31), .ref (q0 32), .ref (q0 33), .int (gI o0 34), .int (gI o0 35), .int (gI o0 36), .int (gI o0 37), .ref (q0 38), .ref (q0 39), .int (gI o0 40), .ref (q0 41), .ref (q0 42), .ref (q0 43), .ref (q0 44)])), kI G (q0 1) 6100 (gA o0 1), kI G (q0 2) 6100 (gA o0 2), kJ G (q0 3) 2016 (gB o0 3), kJ G (q0 4) 2016 (gB o0 4), kI G (q0 5) 300 (gA o0 5), kI G (q0 6) 400 (gA o0 6), kJ G (q0 28) 10 (gB o0 28), kI G (q0 31) 969 (gA o0 31), kI G (q0 32) 969 (gA o0 32), kI G (q0 33) 969 (gA o0 33), kI G (q0 38) 5 (gA o0 38), kI G (q0 39) 5120 (gA o0 39), kI G (q0 41) 5 (gA o0 41), kZ G (q0 42) 1024 (gA o0 42), kI G (q0 43) 8192 (gA o0 43), kI G (q0 44) 8192 (gA o0 44)] := hD
  unfold f_Md_findRow_156 at h
  refine lv_aload_n hx hb d_Md_findRow_156 rfl (lv_at hl 0 rfl) ?_
  refine va_get (D := G.1) (ci := 11) (v := .ref (q0 43)) (C := R_Md) (T := T_Md) (N := 45) hx hb hts i_Md hown hK hP 0 rfl rfl 43 (by decide) (hts _ wf_Md_61) (fun _ h9 => h9) rfl d_Md_findRow_157 ?_
  refine lv_iload hx hb d_Md_findRow_160 (lv_at hl 4 rfl) ?_
  refine lv_iload hx hb d_Md_findRow_162 (lv_at hl 6 rfl) ?_
  refine lv_aload_n hx hb d_Md_findRow_164 rfl (lv_at hl 0 rfl) ?_
  refine lv_iload_n hx hb d_Md_findRow_165 rfl (lv_at hl 3 rfl) ?_
  refine lv_iload hx hb d_Md_findRow_166 (lv_at hl 5 rfl) ?_
  refine cl_Vi (b := b_Md_findRow) (As := [.int x3, .int x5]) (rest := [.int x6, .int x4, .ref (q0 43)]) (ws := [(h0, .inr (11, [.int (gI o0 0), .ref (q0 1), .ref (q0 2), .ref (q0 3), .ref (q0 4), .ref (q0 5), .ref (q0 6), .int (gI o0 7), .int (gI o0 8), .int (gI o0 9), .int (gI o0 10), .int (gI o0 11), .int (gI o0 12), .int (gI o0 13), .int (gI o0 14), .long (gL o0 15), .int (gI o0 16), .int (gI o0 17), .int (gI o0 18), .int (gI o0 19), .int (gI o0 20), .int (gI o0 21), .int (gI o0 22), .int (gI o0 23), .int (gI o0 24), .int (gI o0 25), .int (gI o0 26), .int (gI o0 27), .ref (q0 28), .long (gL o0 29), .int (gI o0 30), .ref (q0 31), .ref (q0 32), .ref (q0 33), .int (gI o0 34), .int (gI o0 35), .int (gI o0 36), .int (gI o0 37), .ref (q0 38), .ref (q0 39), .int (gI o0 40), .ref (q0 41), .ref (q0 42), .ref (q0 43), .ref (q0 44)])), kI G (q0 1) 6100 (gA o0 1), kI G (q0 2) 6100 (gA o0 2), kJ G (q0 3) 2016 (gB o0 3), kJ G (q0 4) 2016 (gB o0 4), kI G (q0 5) 300 (gA o0 5), kI G (q0 6) 400 (gA o0 6), kJ G (q0 28) 10 (gB o0 28), kI G (q0 31) 969 (gA o0 31), kI G (q0 32) 969 (gA o0 32), kI G (q0 33) 969 (gA o0 33), kI G (q0 38) 5 (gA o0 38), kI G (q0 39) 5120 (gA o0 39), kI G (q0 41) 5 (gA o0 41), kZ G (q0 42) 1024 (gA o0 42), kI G (q0 43) 8192 (gA o0 43), kI G (q0 44) 8192 (gA o0 44)]) (wr := []) (w2 := fun (u : Unit) => [(h0, .inr (11, [.int (gI o0 0), .ref (q0 1), .ref (q0 2), .ref (q0 3), .ref (q0 4), .ref (q0 5), .ref (q0 6), .int (gI o0 7), .int (gI o0 8), .int (gI o0 9), .int (gI o0 10), .int (gI o0 11), .int (gI o0 12), .int (gI o0 13), .int (gI o0 14), .long (gL o0 15), .int (gI o0 16), .int (gI o0 17), .int (gI o0 18), .int (gI o0 19), .int (gI o0 20), .int (gI o0 21), .int (gI o0 22), .int (gI o0 23), .int (gI o0 24), .int (gI o0 25), .int (gI o0 26), .int (gI o0 27), .ref (q0 28), .long (gL o0 29), .int (gI o0 30), .ref (q0 31), .ref (q0 32), .ref (q0 33), .int (gI o0 34), .int (gI o0 35), .int (gI o0 36), .int (gI o0 37), .ref (q0 38), .ref (q0 39), .int (gI o0 40), .ref (q0 41), .ref (q0 42), .ref (q0 43), .ref (q0 44)])), kI G (q0 1) 6100 (gA o0 1), kI G (q0 2) 6100 (gA o0 2), kJ G (q0 3) 2016 (gB o0 3), kJ G (q0 4) 2016 (gB o0 4), kI G (q0 5) 300 (gA o0 5), kI G (q0 6) 400 (gA o0 6), kJ G (q0 28) 10 (gB o0 28), kI G (q0 31) 969 (gA o0 31), kI G (q0 32) 969 (gA o0 32), kI G (q0 33) 969 (gA o0 33), kI G (q0 38) 5 (gA o0 38), kI G (q0 39) 5120 (gA o0 39), kI G (q0 41) 5 (gA o0 41), kZ G (q0 42) 1024 (gA o0 42), kI G (q0 43) 8192 (gA o0 43), kI G (q0 44) 8192 (gA o0 44)]) C (c_Md_apart (h0 := h0) (q0 := q0) H.size h) wv_Md_289 ⟨Nat.le_of_ble_eq_true rfl, Nat.le_of_ble_eq_true rfl⟩ hP hD hS 0 rfl rfl [0, 1, 2, 3, 4, 5, 6, 7, 8, 9, 10, 11, 12, 13, 14, 15, 16] [] rfl rfl (by decide) (by decide) (by decide) [0, 1, 2, 3, 4, 5, 6, 7, 8, 9, 10, 11, 12, 13, 14, 15, 16] (by decide) (fun u => rfl) rfl hl.1 rfl (lv_room (Nat.le_of_ble_eq_true rfl)) d_Md_findRow_168 ⟨Nat.le_of_ble_eq_true rfl, Nat.le_of_ble_eq_true rfl⟩ rfl rfl (fun z1 u H locs h hP hD hS => ?_)
  have hP : va_P G.1 CL [(h0, .inr (11, [.int (gI o0 0), .ref (q0 1), .ref (q0 2), .ref (q0 3), .ref (q0 4), .ref (q0 5), .ref (q0 6), .int (gI o0 7), .int (gI o0 8), .int (gI o0 9), .int (gI o0 10), .int (gI o0 11), .int (gI o0 12), .int (gI o0 13), .int (gI o0 14), .long (gL o0 15), .int (gI o0 16), .int (gI o0 17), .int (gI o0 18), .int (gI o0 19), .int (gI o0 20), .int (gI o0 21), .int (gI o0 22), .int (gI o0 23), .int (gI o0 24), .int (gI o0 25), .int (gI o0 26), .int (gI o0 27), .ref (q0 28), .long (gL o0 29), .int (gI o0 30), .ref (q0 31), .ref (q0 32), .ref (q0 33), .int (gI o0 34), .int (gI o0 35), .int (gI o0 36), .int (gI o0 37), .ref (q0 38), .ref (q0 39), .int (gI o0 40), .ref (q0 41), .ref (q0 42), .ref (q0 43), .ref (q0 44)])), kI G (q0 1) 6100 (gA o0 1), kI G (q0 2) 6100 (gA o0 2), kJ G (q0 3) 2016 (gB o0 3), kJ G (q0 4) 2016 (gB o0 4), kI G (q0 5) 300 (gA o0 5), kI G (q0 6) 400 (gA o0 6), kJ G (q0 28) 10 (gB o0 28), kI G (q0 31) 969 (gA o0 31), kI G (q0 32) 969 (gA o0 32), kI G (q0 33) 969 (gA o0 33), kI G (q0 38) 5 (gA o0 38), kI G (q0 39) 5120 (gA o0 39), kI G (q0 41) 5 (gA o0 41), kZ G (q0 42) 1024 (gA o0 42), kI G (q0 43) 8192 (gA o0 43), kI G (q0 44) 8192 (gA o0 44)] H := hP
  have hD : va_D A [(h0, .inr (11, [.int (gI o0 0), .ref (q0 1), .ref (q0 2), .ref (q0 3), .ref (q0 4), .ref (q0 5), .ref (q0 6), .int (gI o0 7), .int (gI o0 8), .int (gI o0 9), .int (gI o0 10), .int (gI o0 11), .int (gI o0 12), .int (gI o0 13), .int (gI o0 14), .long (gL o0 15), .int (gI o0 16), .int (gI o0 17), .int (gI o0 18), .int (gI o0 19), .int (gI o0 20), .int (gI o0 21), .int (gI o0 22), .int (gI o0 23), .int (gI o0 24), .int (gI o0 25), .int (gI o0 26), .int (gI o0 27), .ref (q0 28), .long (gL o0 29), .int (gI o0 30), .ref (q0 31), .ref (q0 32), .ref (q0 33), .int (gI o0 34), .int (gI o0 35), .int (gI o0 36), .int (gI o0 37), .ref (q0 38), .ref (q0 39), .int (gI o0 40), .ref (q0 41), .ref (q0 42), .ref (q0 43), .ref (q0 44)])), kI G (q0 1) 6100 (gA o0 1), kI G (q0 2) 6100 (gA o0 2), kJ G (q0 3) 2016 (gB o0 3), kJ G (q0 4) 2016 (gB o0 4), kI G (q0 5) 300 (gA o0 5), kI G (q0 6) 400 (gA o0 6), kJ G (q0 28) 10 (gB o0 28), kI G (q0 31) 969 (gA o0 31), kI G (q0 32) 969 (gA o0 32), kI G (q0 33) 969 (gA o0 33), kI G (q0 38) 5 (gA o0 38), kI G (q0 39) 5120 (gA o0 39), kI G (q0 41) 5 (gA o0 41), kZ G (q0 42) 1024 (gA o0 42), kI G (q0 43) 8192 (gA o0 43), kI G (q0 44) 8192 (gA o0 44)] := hD
  refine lv_iadd hx hb d_Md_findRow_171 ?_
  have g2 := h.1
  have h := h.2
  refine xa_iast hx hb hK hP hD hS 15 0 rfl rfl g2 (k := x4.toNatClampNeg) rfl d_Md_findRow_172 (fun H locs hP hD hS => ?_)
  have hP : va_P G.1 CL [(h0, .inr (11, [.int (gI o0 0), .ref (q0 1), .ref (q0 2), .ref (q0 3), .ref (q0 4), .ref (q0 5), .ref (q0 6), .int (gI o0 7), .int (gI o0 8), .int (gI o0 9), .int (gI o0 10), .int (gI o0 11), .int (gI o0 12), .int (gI o0 13), .int (gI o0 14), .long (gL o0 15), .int (gI o0 16), .int (gI o0 17), .int (gI o0 18), .int (gI o0 19), .int (gI o0 20), .int (gI o0 21), .int (gI o0 22), .int (gI o0 23), .int (gI o0 24), .int (gI o0 25), .int (gI o0 26), .int (gI o0 27), .ref (q0 28), .long (gL o0 29), .int (gI o0 30), .ref (q0 31), .ref (q0 32), .ref (q0 33), .int (gI o0 34), .int (gI o0 35), .int (gI o0 36), .int (gI o0 37), .ref (q0 38), .ref (q0 39), .int (gI o0 40), .ref (q0 41), .ref (q0 42), .ref (q0 43), .ref (q0 44)])), kI G (q0 1) 6100 (gA o0 1), kI G (q0 2) 6100 (gA o0 2), kJ G (q0 3) 2016 (gB o0 3), kJ G (q0 4) 2016 (gB o0 4), kI G (q0 5) 300 (gA o0 5), kI G (q0 6) 400 (gA o0 6), kJ G (q0 28) 10 (gB o0 28), kI G (q0 31) 969 (gA o0 31), kI G (q0 32) 969 (gA o0 32), kI G (q0 33) 969 (gA o0 33), kI G (q0 38) 5 (gA o0 38), kI G (q0 39) 5120 (gA o0 39), kI G (q0 41) 5 (gA o0 41), kZ G (q0 42) 1024 (gA o0 42), kI G (q0 43) 8192 (upd (gA o0 43) x4.toNatClampNeg (x6 + z1)), kI G (q0 44) 8192 (gA o0 44)] H := hP
  have hD : va_D A [(h0, .inr (11, [.int (gI o0 0), .ref (q0 1), .ref (q0 2), .ref (q0 3), .ref (q0 4), .ref (q0 5), .ref (q0 6), .int (gI o0 7), .int (gI o0 8), .int (gI o0 9), .int (gI o0 10), .int (gI o0 11), .int (gI o0 12), .int (gI o0 13), .int (gI o0 14), .long (gL o0 15), .int (gI o0 16), .int (gI o0 17), .int (gI o0 18), .int (gI o0 19), .int (gI o0 20), .int (gI o0 21), .int (gI o0 22), .int (gI o0 23), .int (gI o0 24), .int (gI o0 25), .int (gI o0 26), .int (gI o0 27), .ref (q0 28), .long (gL o0 29), .int (gI o0 30), .ref (q0 31), .ref (q0 32), .ref (q0 33), .int (gI o0 34), .int (gI o0 35), .int (gI o0 36), .int (gI o0 37), .ref (q0 38), .ref (q0 39), .int (gI o0 40), .ref (q0 41), .ref (q0 42), .ref (q0 43), .ref (q0 44)])), kI G (q0 1) 6100 (gA o0 1), kI G (q0 2) 6100 (gA o0 2), kJ G (q0 3) 2016 (gB o0 3), kJ G (q0 4) 2016 (gB o0 4), kI G (q0 5) 300 (gA o0 5), kI G (q0 6) 400 (gA o0 6), kJ G (q0 28) 10 (gB o0 28), kI G (q0 31) 969 (gA o0 31), kI G (q0 32) 969 (gA o0 32), kI G (q0 33) 969 (gA o0 33), kI G (q0 38) 5 (gA o0 38), kI G (q0 39) 5120 (gA o0 39), kI G (q0 41) 5 (gA o0 41), kZ G (q0 42) 1024 (gA o0 42), kI G (q0 43) 8192 (upd (gA o0 43) x4.toNatClampNeg (x6 + z1)), kI G (q0 44) 8192 (gA o0 44)] := hD
  refine lv_aload_n hx hb d_Md_findRow_173 rfl (lv_at hl 0 rfl) ?_
  refine va_get (D := G.1) (ci := 11) (v := .ref (q0 44)) (C := R_Md) (T := T_Md) (N := 45) hx hb hts i_Md hown hK hP 0 rfl rfl 44 (by decide) (hts _ wf_Md_64) (fun _ h9 => h9) rfl d_Md_findRow_174 ?_
  refine lv_iload hx hb d_Md_findRow_177 (lv_at hl 4 rfl) ?_
  refine lv_iload hx hb d_Md_findRow_179 (lv_at hl 5 rfl) ?_
  have g3 := h.1
  have h := h.2
  refine xa_iast hx hb hK hP hD hS 16 0 rfl rfl g3 (k := x4.toNatClampNeg) rfl d_Md_findRow_181 (fun H locs hP hD hS => ?_)
  have hP : va_P G.1 CL [(h0, .inr (11, [.int (gI o0 0), .ref (q0 1), .ref (q0 2), .ref (q0 3), .ref (q0 4), .ref (q0 5), .ref (q0 6), .int (gI o0 7), .int (gI o0 8), .int (gI o0 9), .int (gI o0 10), .int (gI o0 11), .int (gI o0 12), .int (gI o0 13), .int (gI o0 14), .long (gL o0 15), .int (gI o0 16), .int (gI o0 17), .int (gI o0 18), .int (gI o0 19), .int (gI o0 20), .int (gI o0 21), .int (gI o0 22), .int (gI o0 23), .int (gI o0 24), .int (gI o0 25), .int (gI o0 26), .int (gI o0 27), .ref (q0 28), .long (gL o0 29), .int (gI o0 30), .ref (q0 31), .ref (q0 32), .ref (q0 33), .int (gI o0 34), .int (gI o0 35), .int (gI o0 36), .int (gI o0 37), .ref (q0 38), .ref (q0 39), .int (gI o0 40), .ref (q0 41), .ref (q0 42), .ref (q0 43), .ref (q0 44)])), kI G (q0 1) 6100 (gA o0 1), kI G (q0 2) 6100 (gA o0 2), kJ G (q0 3) 2016 (gB o0 3), kJ G (q0 4) 2016 (gB o0 4), kI G (q0 5) 300 (gA o0 5), kI G (q0 6) 400 (gA o0 6), kJ G (q0 28) 10 (gB o0 28), kI G (q0 31) 969 (gA o0 31), kI G (q0 32) 969 (gA o0 32), kI G (q0 33) 969 (gA o0 33), kI G (q0 38) 5 (gA o0 38), kI G (q0 39) 5120 (gA o0 39), kI G (q0 41) 5 (gA o0 41), kZ G (q0 42) 1024 (gA o0 42), kI G (q0 43) 8192 (upd (gA o0 43) x4.toNatClampNeg (x6 + z1)), kI G (q0 44) 8192 (upd (gA o0 44) x4.toNatClampNeg x5)] H := hP
  have hD : va_D A [(h0, .inr (11, [.int (gI o0 0), .ref (q0 1), .ref (q0 2), .ref (q0 3), .ref (q0 4), .ref (q0 5), .ref (q0 6), .int (gI o0 7), .int (gI o0 8), .int (gI o0 9), .int (gI o0 10), .int (gI o0 11), .int (gI o0 12), .int (gI o0 13), .int (gI o0 14), .long (gL o0 15), .int (gI o0 16), .int (gI o0 17), .int (gI o0 18), .int (gI o0 19), .int (gI o0 20), .int (gI o0 21), .int (gI o0 22), .int (gI o0 23), .int (gI o0 24), .int (gI o0 25), .int (gI o0 26), .int (gI o0 27), .ref (q0 28), .long (gL o0 29), .int (gI o0 30), .ref (q0 31), .ref (q0 32), .ref (q0 33), .int (gI o0 34), .int (gI o0 35), .int (gI o0 36), .int (gI o0 37), .ref (q0 38), .ref (q0 39), .int (gI o0 40), .ref (q0 41), .ref (q0 42), .ref (q0 43), .ref (q0 44)])), kI G (q0 1) 6100 (gA o0 1), kI G (q0 2) 6100 (gA o0 2), kJ G (q0 3) 2016 (gB o0 3), kJ G (q0 4) 2016 (gB o0 4), kI G (q0 5) 300 (gA o0 5), kI G (q0 6) 400 (gA o0 6), kJ G (q0 28) 10 (gB o0 28), kI G (q0 31) 969 (gA o0 31), kI G (q0 32) 969 (gA o0 32), kI G (q0 33) 969 (gA o0 33), kI G (q0 38) 5 (gA o0 38), kI G (q0 39) 5120 (gA o0 39), kI G (q0 41) 5 (gA o0 41), kZ G (q0 42) 1024 (gA o0 42), kI G (q0 43) 8192 (upd (gA o0 43) x4.toNatClampNeg (x6 + z1)), kI G (q0 44) 8192 (upd (gA o0 44) x4.toNatClampNeg x5)] := hD
  refine lv_iinc (v := (x5 + (1 : Int32))) (lv' := [(5, .int (x5 + (1 : Int32))), (0, .ref h0), (1, .int x1), (2, .int x2), (3, .int x3), (4, .int x4), (6, .int x6)]) hx hb d_Md_findRow_182 hl (k := 5) rfl rfl (by decide) rfl (fun ls hl => ?_)
  refine lv_goto (tgt := 76) hx hb d_Md_findRow_185 (by decide) ?_
  have hl := lv_sub (l' := [(0, .ref h0), (1, .int x1), (2, .int x2), (3, .int x3), (4, .int x4), (5, .int (x5 + (1 : Int32)))]) hl [1, 2, 3, 4, 5, 0] rfl
  have hP : va_P G.1 CL (cw_Md G h0 q0 (sA (sA o0 43 (upd (gA o0 43) x4.toNatClampNeg (x6 + z1))) 44 (upd (gA o0 44) x4.toNatClampNeg x5))) H := hP
  have hD : va_D A (cw_Md G h0 q0 (sA (sA o0 43 (upd (gA o0 43) x4.toNatClampNeg (x6 + z1))) 44 (upd (gA o0 44) x4.toNatClampNeg x5))) := hD
  exact hk76 x1 x2 x3 x4 (x5 + (1 : Int32)) (sA (sA o0 43 (upd (gA o0 43) x4.toNatClampNeg (x6 + z1))) 44 (upd (gA o0 44) x4.toNatClampNeg x5)) ls H locs hl hP hD hS h
set_option maxHeartbeats 4000000 in
set_option maxRecDepth 100000 in
theorem t_Md_findRow_76 {p : Program} {l : Launch} {e : Env} {s : State} {m : MethodId} {args : Array Value} {below : List Frame} {meth : Method} {c : Code} {A : Nat → Prop} {G : Gl} {h0 : Nat} {q0 : Nat → Nat} (k16 : Int32 → Int32 → Int32 → Ob → Prop) (Q : Ob → Prop) (C : Cx p s m args meth c R_Md b_Md_findRow 7 none G A)
    (hk16 : ∀ (x1 : Int32) (x2 : Int32) (x3 : Int32) (o0 : Ob) (ls : Array Slot) (H : Heap) (locs : List Loc), lv_has ls 7 [(0, .ref h0), (1, .int x1), (2, .int x2), (3, .int x3)] → va_P G.1 CL (cw_Md G h0 q0 o0) H → va_D A (cw_Md G h0 q0 o0) → va_S A s.heap H locs → k16 x1 x2 x3 o0 → W p l e rm_Md_findRow s m args below meth c H locs 0 0 (MQ below (va_Qv (fun (u : Ob) => Q u) (fun (u : Ob) t => BW G A (cw_Md G h0 q0 u) t) A) args s 0 0 A) (F0 m 16 ls [])) :
    ∀ (n : Nat) (x1 : Int32) (x2 : Int32) (x3 : Int32) (x4 : Int32) (x5 : Int32) (o0 : Ob) (ls : Array Slot) (H : Heap) (locs : List Loc), lv_has ls 7 [(0, .ref h0), (1, .int x1), (2, .int x2), (3, .int x3), (4, .int x4), (5, .int x5)] → va_P G.1 CL (cw_Md G h0 q0 o0) H → va_D A (cw_Md G h0 q0 o0) → va_S A s.heap H locs → f_Md_findRow_76 k16 Q n x1 x2 x3 x4 x5 o0 → W p l e rm_Md_findRow s m args below meth c H locs 0 0 (MQ below (va_Qv (fun (u : Ob) => Q u) (fun (u : Ob) t => BW G A (cw_Md G h0 q0 u) t) A) args s 0 0 A) (F0 m 76 ls []) := by
  obtain ⟨hx, hb, hml, hown, hr, hts, hK, hA, hlocks, hE⟩ := id C
  intro n
  induction n with
  | zero => intro x1 x2 x3 x4 x5 o0 ls H locs hl hP hD hS h; exact absurd h id
  | succ n ih =>
    intro x1 x2 x3 x4 x5 o0 ls H locs hl hP hD hS h
    have hP : va_P G.1 CL [(h0, .inr (11, [.int (gI o0 0), .ref (q0 1), .ref (q0 2), .ref (q0 3), .ref (q0 4), .ref (q0 5), .ref (q0 6), .int (gI o0 7), .int (gI o0 8), .int (gI o0 9), .int (gI o0 10), .int (gI o0 11), .int (gI o0 12), .int (gI o0 13), .int (gI o0 14), .long (gL o0 15), .int (gI o0 16), .int (gI o0 17), .int (gI o0 18), .int (gI o0 19), .int (gI o0 20), .int (gI o0 21), .int (gI o0 22), .int (gI o0 23), .int (gI o0 24), .int (gI o0 25), .int (gI o0 26), .int (gI o0 27), .ref (q0 28), .long (gL o0 29), .int (gI o0 30), .ref (q0 31), .ref (q0 32), .ref (q0 33), .int (gI o0 34), .int (gI o0 35), .int (gI o0 36), .int (gI o0 37), .ref (q0 38), .ref (q0 39), .int (gI o0 40), .ref (q0 41), .ref (q0 42), .ref (q0 43), .ref (q0 44)])), kI G (q0 1) 6100 (gA o0 1), kI G (q0 2) 6100 (gA o0 2), kJ G (q0 3) 2016 (gB o0 3), kJ G (q0 4) 2016 (gB o0 4), kI G (q0 5) 300 (gA o0 5), kI G (q0 6) 400 (gA o0 6), kJ G (q0 28) 10 (gB o0 28), kI G (q0 31) 969 (gA o0 31), kI G (q0 32) 969 (gA o0 32), kI G (q0 33) 969 (gA o0 33), kI G (q0 38) 5 (gA o0 38), kI G (q0 39) 5120 (gA o0 39), kI G (q0 41) 5 (gA o0 41), kZ G (q0 42) 1024 (gA o0 42), kI G (q0 43) 8192 (gA o0 43), kI G (q0 44) 8192 (gA o0 44)] H := hP
    have hD : va_D A [(h0, .inr (11, [.int (gI o0 0), .ref (q0 1), .ref (q0 2), .ref (q0 3), .ref (q0 4), .ref (q0 5), .ref (q0 6), .int (gI o0 7), .int (gI o0 8), .int (gI o0 9), .int (gI o0 10), .int (gI o0 11), .int (gI o0 12), .int (gI o0 13), .int (gI o0 14), .long (gL o0 15), .int (gI o0 16), .int (gI o0 17), .int (gI o0 18), .int (gI o0 19), .int (gI o0 20), .int (gI o0 21), .int (gI o0 22), .int (gI o0 23), .int (gI o0 24), .int (gI o0 25), .int (gI o0 26), .int (gI o0 27), .ref (q0 28), .long (gL o0 29), .int (gI o0 30), .ref (q0 31), .ref (q0 32), .ref (q0 33), .int (gI o0 34), .int (gI o0 35), .int (gI o0 36), .int (gI o0 37), .ref (q0 38), .ref (q0 39), .int (gI o0 40), .ref (q0 41), .ref (q0 42), .ref (q0 43), .ref (q0 44)])), kI G (q0 1) 6100 (gA o0 1), kI G (q0 2) 6100 (gA o0 2), kJ G (q0 3) 2016 (gB o0 3), kJ G (q0 4) 2016 (gB o0 4), kI G (q0 5) 300 (gA o0 5), kI G (q0 6) 400 (gA o0 6), kJ G (q0 28) 10 (gB o0 28), kI G (q0 31) 969 (gA o0 31), kI G (q0 32) 969 (gA o0 32), kI G (q0 33) 969 (gA o0 33), kI G (q0 38) 5 (gA o0 38), kI G (q0 39) 5120 (gA o0 39), kI G (q0 41) 5 (gA o0 41), kZ G (q0 42) 1024 (gA o0 42), kI G (q0 43) 8192 (gA o0 43), kI G (q0 44) 8192 (gA o0 44)] := hD
    unfold f_Md_findRow_76 at h
    refine lv_iload hx hb d_Md_findRow_76 (lv_at hl 5 rfl) ?_
    refine lv_aload_n hx hb d_Md_findRow_78 rfl (lv_at hl 0 rfl) ?_
    refine va_get (D := G.1) (ci := 11) (v := .int (gI o0 40)) (C := R_Md) (T := T_Md) (N := 45) hx hb hts i_Md hown hK hP 0 rfl rfl 40 (by decide) (hts _ wf_Md_273) (fun _ h9 => h9) rfl d_Md_findRow_79 ?_
    refine lv_icmp_ge (tgt := 188) hx hb d_Md_findRow_82 (by decide) (fun c4 => ?_) (fun c4 => ?_)
    · have h := h.1 c4
      refine lv_iinc (v := (x3 + (1 : Int32))) (lv' := [(3, .int (x3 + (1 : Int32))), (0, .ref h0), (1, .int x1), (2, .int x2), (4, .int x4), (5, .int x5)]) hx hb d_Md_findRow_188 hl (k := 3) rfl rfl (by decide) rfl (fun ls hl => ?_)
      refine lv_goto (tgt := 16) hx hb d_Md_findRow_191 (by decide) ?_
      have hl := lv_sub (l' := [(0, .ref h0), (1, .int x1), (2, .int x2), (3, .int (x3 + (1 : Int32)))]) hl [1, 2, 3, 0] rfl
      have hP : va_P G.1 CL (cw_Md G h0 q0 o0) H := hP
      have hD : va_D A (cw_Md G h0 q0 o0) := hD
      exact hk16 x1 x2 (x3 + (1 : Int32)) o0 ls H locs hl hP hD hS h
    · have h := h.2 c4
      refine lv_aload_n hx hb d_Md_findRow_85 rfl (lv_at hl 0 rfl) ?_
      refine va_get (D := G.1) (ci := 11) (v := .ref (q0 42)) (C := R_Md) (T := T_Md) (N := 45) hx hb hts i_Md hown hK hP 0 rfl rfl 42 (by decide) (hts _ wf_Md_57) (fun _ h9 => h9) rfl d_Md_findRow_86 ?_
      refine lv_iload_n hx hb d_Md_findRow_89 rfl (lv_at hl 3 rfl) ?_
      have g5 := h.1
      have h := h.2
      refine xa_zald hx hb hK hP 14 3 rfl rfl g5 (k := x3.toNatClampNeg) rfl d_Md_findRow_90 ?_
      refine lv_if_eq (tgt := 188) hx hb d_Md_findRow_91 (by decide) (fun c6 => ?_) (fun c6 => ?_)
      · have h := h.1 c6
        refine lv_iinc (v := (x3 + (1 : Int32))) (lv' := [(3, .int (x3 + (1 : Int32))), (0, .ref h0), (1, .int x1), (2, .int x2), (4, .int x4), (5, .int x5)]) hx hb d_Md_findRow_188 hl (k := 3) rfl rfl (by decide) rfl (fun ls hl => ?_)
        refine lv_goto (tgt := 16) hx hb d_Md_findRow_191 (by decide) ?_
        have hl := lv_sub (l' := [(0, .ref h0), (1, .int x1), (2, .int x2), (3, .int (x3 + (1 : Int32)))]) hl [1, 2, 3, 0] rfl
        have hP : va_P G.1 CL (cw_Md G h0 q0 o0) H := hP
        have hD : va_D A (cw_Md G h0 q0 o0) := hD
        exact hk16 x1 x2 (x3 + (1 : Int32)) o0 ls H locs hl hP hD hS h
      · have h := h.2 c6
        refine lv_iload_n hx hb d_Md_findRow_94 rfl (lv_at hl 2 rfl) ?_
        refine lv_iload_n hx hb d_Md_findRow_95 rfl (lv_at hl 1 rfl) ?_
        refine lv_iconst (v := (1 : Int32)) hx hb d_Md_findRow_96 (by decide) ?_
        refine lv_isub hx hb d_Md_findRow_97 ?_
        refine lv_icmp_ge (tgt := 188) hx hb d_Md_findRow_98 (by decide) (fun c7 => ?_) (fun c7 => ?_)
        · have h := h.1 c7
          refine lv_iinc (v := (x3 + (1 : Int32))) (lv' := [(3, .int (x3 + (1 : Int32))), (0, .ref h0), (1, .int x1), (2, .int x2), (4, .int x4), (5, .int x5)]) hx hb d_Md_findRow_188 hl (k := 3) rfl rfl (by decide) rfl (fun ls hl => ?_)
          refine lv_goto (tgt := 16) hx hb d_Md_findRow_191 (by decide) ?_
          have hl := lv_sub (l' := [(0, .ref h0), (1, .int x1), (2, .int x2), (3, .int (x3 + (1 : Int32)))]) hl [1, 2, 3, 0] rfl
          have hP : va_P G.1 CL (cw_Md G h0 q0 o0) H := hP
          have hD : va_D A (cw_Md G h0 q0 o0) := hD
          exact hk16 x1 x2 (x3 + (1 : Int32)) o0 ls H locs hl hP hD hS h
        · have h := h.2 c7
          refine lv_aload_n hx hb d_Md_findRow_101 rfl (lv_at hl 0 rfl) ?_
          refine va_get (D := G.1) (ci := 11) (v := .ref (q0 43)) (C := R_Md) (T := T_Md) (N := 45) hx hb hts i_Md hown hK hP 0 rfl rfl 43 (by decide) (hts _ wf_Md_61) (fun _ h9 => h9) rfl d_Md_findRow_102 ?_
          refine lv_sipush (v := (1024 : Int32)) hx hb d_Md_findRow_105 (by decide) ?_
          refine lv_iload_n hx hb d_Md_findRow_108 rfl (lv_at hl 2 rfl) ?_
          refine lv_iconst (v := (1 : Int32)) hx hb d_Md_findRow_109 (by decide) ?_
          refine lv_iadd hx hb d_Md_findRow_110 ?_
          refine lv_imul hx hb d_Md_findRow_111 ?_
          refine lv_iload hx hb d_Md_findRow_112 (lv_at hl 5 rfl) ?_
          refine lv_iadd hx hb d_Md_findRow_114 ?_
          have g8 := h.1
          have h := h.2
          refine xa_iald hx hb hK hP 15 0 rfl rfl g8 (k := (((1024 : Int32) * (x2 + (1 : Int32))) + x5).toNatClampNeg) rfl d_Md_findRow_115 ?_
          refine lv_topi (fun y9 ey9 => ?_)
          have h := h y9 ey9
          refine lv_istore (lv' := [(6, .int y9), (0, .ref h0), (1, .int x1), (2, .int x2), (3, .int x3), (4, .int x4), (5, .int x5)]) hx hb d_Md_findRow_116 hl (by decide) rfl (fun ls hl => ?_)
          refine lv_iload hx hb d_Md_findRow_118 (lv_at hl 0 rfl) ?_
          refine lv_if_lt (tgt := 182) hx hb d_Md_findRow_120 (by decide) (fun c10 => ?_) (fun c10 => ?_)
          · have h := h.1 c10
            refine lv_iinc (v := (x5 + (1 : Int32))) (lv' := [(5, .int (x5 + (1 : Int32))), (6, .int y9), (0, .ref h0), (1, .int x1), (2, .int x2), (3, .int x3), (4, .int x4)]) hx hb d_Md_findRow_182 hl (k := 6) rfl rfl (by decide) rfl (fun ls hl => ?_)
            refine lv_goto (tgt := 76) hx hb d_Md_findRow_185 (by decide) ?_
            have hl := lv_sub (l' := [(0, .ref h0), (1, .int x1), (2, .int x2), (3, .int x3), (4, .int x4), (5, .int (x5 + (1 : Int32)))]) hl [2, 3, 4, 5, 6, 0] rfl
            have hP : va_P G.1 CL (cw_Md G h0 q0 o0) H := hP
            have hD : va_D A (cw_Md G h0 q0 o0) := hD
            exact ih x1 x2 x3 x4 (x5 + (1 : Int32)) o0 ls H locs hl hP hD hS h
          · have h := h.2 c10
            refine lv_aload_n hx hb d_Md_findRow_123 rfl (lv_at hl 1 rfl) ?_
            refine va_get (D := G.1) (ci := 11) (v := .ref (q0 43)) (C := R_Md) (T := T_Md) (N := 45) hx hb hts i_Md hown hK hP 0 rfl rfl 43 (by decide) (hts _ wf_Md_61) (fun _ h9 => h9) rfl d_Md_findRow_124 ?_
            refine lv_iload hx hb d_Md_findRow_127 (lv_at hl 5 rfl) ?_
            have g11 := h.1
            have h := h.2
            refine xa_iald hx hb hK hP 15 0 rfl rfl g11 (k := x4.toNatClampNeg) rfl d_Md_findRow_129 ?_
            refine lv_if_lt (tgt := 156) hx hb d_Md_findRow_130 (by decide) (fun c12 => ?_) (fun c12 => ?_)
            · have h := h.1 c12
              have hl := lv_sub (l' := [(0, .ref h0), (1, .int x1), (2, .int x2), (3, .int x3), (4, .int x4), (5, .int x5), (6, .int y9)]) hl [1, 2, 3, 4, 5, 6, 0] rfl
              have hP : va_P G.1 CL (cw_Md G h0 q0 o0) H := hP
              have hD : va_D A (cw_Md G h0 q0 o0) := hD
              exact t_Md_findRow_156 (f_Md_findRow_76 k16 Q n) Q C ih x1 x2 x3 x4 x5 y9 o0 ls _ locs hl hP hD hS h
            · have h := h.2 c12
              refine lv_iload hx hb d_Md_findRow_133 (lv_at hl 0 rfl) ?_
              refine lv_aload_n hx hb d_Md_findRow_135 rfl (lv_at hl 1 rfl) ?_
              refine lv_iload_n hx hb d_Md_findRow_136 rfl (lv_at hl 4 rfl) ?_
              refine lv_iload hx hb d_Md_findRow_137 (lv_at hl 6 rfl) ?_
              refine cl_Vi (b := b_Md_findRow) (As := [.int x3, .int x5]) (rest := [.int y9]) (ws := [(h0, .inr (11, [.int (gI o0 0), .ref (q0 1), .ref (q0 2), .ref (q0 3), .ref (q0 4), .ref (q0 5), .ref (q0 6), .int (gI o0 7), .int (gI o0 8), .int (gI o0 9), .int (gI o0 10), .int (gI o0 11), .int (gI o0 12), .int (gI o0 13), .int (gI o0 14), .long (gL o0 15), .int (gI o0 16), .int (gI o0 17), .int (gI o0 18), .int (gI o0 19), .int (gI o0 20), .int (gI o0 21), .int (gI o0 22), .int (gI o0 23), .int (gI o0 24), .int (gI o0 25), .int (gI o0 26), .int (gI o0 27), .ref (q0 28), .long (gL o0 29), .int (gI o0 30), .ref (q0 31), .ref (q0 32), .ref (q0 33), .int (gI o0 34), .int (gI o0 35), .int (gI o0 36), .int (gI o0 37), .ref (q0 38), .ref (q0 39), .int (gI o0 40), .ref (q0 41), .ref (q0 42), .ref (q0 43), .ref (q0 44)])), kI G (q0 1) 6100 (gA o0 1), kI G (q0 2) 6100 (gA o0 2), kJ G (q0 3) 2016 (gB o0 3), kJ G (q0 4) 2016 (gB o0 4), kI G (q0 5) 300 (gA o0 5), kI G (q0 6) 400 (gA o0 6), kJ G (q0 28) 10 (gB o0 28), kI G (q0 31) 969 (gA o0 31), kI G (q0 32) 969 (gA o0 32), kI G (q0 33) 969 (gA o0 33), kI G (q0 38) 5 (gA o0 38), kI G (q0 39) 5120 (gA o0 39), kI G (q0 41) 5 (gA o0 41), kZ G (q0 42) 1024 (gA o0 42), kI G (q0 43) 8192 (gA o0 43), kI G (q0 44) 8192 (gA o0 44)]) (wr := []) (w2 := fun (u : Unit) => [(h0, .inr (11, [.int (gI o0 0), .ref (q0 1), .ref (q0 2), .ref (q0 3), .ref (q0 4), .ref (q0 5), .ref (q0 6), .int (gI o0 7), .int (gI o0 8), .int (gI o0 9), .int (gI o0 10), .int (gI o0 11), .int (gI o0 12), .int (gI o0 13), .int (gI o0 14), .long (gL o0 15), .int (gI o0 16), .int (gI o0 17), .int (gI o0 18), .int (gI o0 19), .int (gI o0 20), .int (gI o0 21), .int (gI o0 22), .int (gI o0 23), .int (gI o0 24), .int (gI o0 25), .int (gI o0 26), .int (gI o0 27), .ref (q0 28), .long (gL o0 29), .int (gI o0 30), .ref (q0 31), .ref (q0 32), .ref (q0 33), .int (gI o0 34), .int (gI o0 35), .int (gI o0 36), .int (gI o0 37), .ref (q0 38), .ref (q0 39), .int (gI o0 40), .ref (q0 41), .ref (q0 42), .ref (q0 43), .ref (q0 44)])), kI G (q0 1) 6100 (gA o0 1), kI G (q0 2) 6100 (gA o0 2), kJ G (q0 3) 2016 (gB o0 3), kJ G (q0 4) 2016 (gB o0 4), kI G (q0 5) 300 (gA o0 5), kI G (q0 6) 400 (gA o0 6), kJ G (q0 28) 10 (gB o0 28), kI G (q0 31) 969 (gA o0 31), kI G (q0 32) 969 (gA o0 32), kI G (q0 33) 969 (gA o0 33), kI G (q0 38) 5 (gA o0 38), kI G (q0 39) 5120 (gA o0 39), kI G (q0 41) 5 (gA o0 41), kZ G (q0 42) 1024 (gA o0 42), kI G (q0 43) 8192 (gA o0 43), kI G (q0 44) 8192 (gA o0 44)]) C (c_Md_apart (h0 := h0) (q0 := q0) H.size h) wv_Md_289 ⟨Nat.le_of_ble_eq_true rfl, Nat.le_of_ble_eq_true rfl⟩ hP hD hS 0 rfl rfl [0, 1, 2, 3, 4, 5, 6, 7, 8, 9, 10, 11, 12, 13, 14, 15, 16] [] rfl rfl (by decide) (by decide) (by decide) [0, 1, 2, 3, 4, 5, 6, 7, 8, 9, 10, 11, 12, 13, 14, 15, 16] (by decide) (fun u => rfl) rfl hl.1 rfl (lv_room (Nat.le_of_ble_eq_true rfl)) d_Md_findRow_139 ⟨Nat.le_of_ble_eq_true rfl, Nat.le_of_ble_eq_true rfl⟩ rfl rfl (fun z13 u H locs h hP hD hS => ?_)
              have hP : va_P G.1 CL [(h0, .inr (11, [.int (gI o0 0), .ref (q0 1), .ref (q0 2), .ref (q0 3), .ref (q0 4), .ref (q0 5), .ref (q0 6), .int (gI o0 7), .int (gI o0 8), .int (gI o0 9), .int (gI o0 10), .int (gI o0 11), .int (gI o0 12), .int (gI o0 13), .int (gI o0 14), .long (gL o0 15), .int (gI o0 16), .int (gI o0 17), .int (gI o0 18), .int (gI o0 19), .int (gI o0 20), .int (gI o0 21), .int (gI o0 22), .int (gI o0 23), .int (gI o0 24), .int (gI o0 25), .int (gI o0 26), .int (gI o0 27), .ref (q0 28), .long (gL o0 29), .int (gI o0 30), .ref (q0 31), .ref (q0 32), .ref (q0 33), .int (gI o0 34), .int (gI o0 35), .int (gI o0 36), .int (gI o0 37), .ref (q0 38), .ref (q0 39), .int (gI o0 40), .ref (q0 41), .ref (q0 42), .ref (q0 43), .ref (q0 44)])), kI G (q0 1) 6100 (gA o0 1), kI G (q0 2) 6100 (gA o0 2), kJ G (q0 3) 2016 (gB o0 3), kJ G (q0 4) 2016 (gB o0 4), kI G (q0 5) 300 (gA o0 5), kI G (q0 6) 400 (gA o0 6), kJ G (q0 28) 10 (gB o0 28), kI G (q0 31) 969 (gA o0 31), kI G (q0 32) 969 (gA o0 32), kI G (q0 33) 969 (gA o0 33), kI G (q0 38) 5 (gA o0 38), kI G (q0 39) 5120 (gA o0 39), kI G (q0 41) 5 (gA o0 41), kZ G (q0 42) 1024 (gA o0 42), kI G (q0 43) 8192 (gA o0 43), kI G (q0 44) 8192 (gA o0 44)] H := hP
              have hD : va_D A [(h0, .inr (11, [.int (gI o0 0), .ref (q0 1), .ref (q0 2), .ref (q0 3), .ref (q0 4), .ref (q0 5), .ref (q0 6), .int (gI o0 7), .int (gI o0 8), .int (gI o0 9), .int (gI o0 10), .int (gI o0 11), .int (gI o0 12), .int (gI o0 13), .int (gI o0 14), .long (gL o0 15), .int (gI o0 16), .int (gI o0 17), .int (gI o0 18), .int (gI o0 19), .int (gI o0 20), .int (gI o0 21), .int (gI o0 22), .int (gI o0 23), .int (gI o0 24), .int (gI o0 25), .int (gI o0 26), .int (gI o0 27), .ref (q0 28), .long (gL o0 29), .int (gI o0 30), .ref (q0 31), .ref (q0 32), .ref (q0 33), .int (gI o0 34), .int (gI o0 35), .int (gI o0 36), .int (gI o0 37), .ref (q0 38), .ref (q0 39), .int (gI o0 40), .ref (q0 41), .ref (q0 42), .ref (q0 43), .ref (q0 44)])), kI G (q0 1) 6100 (gA o0 1), kI G (q0 2) 6100 (gA o0 2), kJ G (q0 3) 2016 (gB o0 3), kJ G (q0 4) 2016 (gB o0 4), kI G (q0 5) 300 (gA o0 5), kI G (q0 6) 400 (gA o0 6), kJ G (q0 28) 10 (gB o0 28), kI G (q0 31) 969 (gA o0 31), kI G (q0 32) 969 (gA o0 32), kI G (q0 33) 969 (gA o0 33), kI G (q0 38) 5 (gA o0 38), kI G (q0 39) 5120 (gA o0 39), kI G (q0 41) 5 (gA o0 41), kZ G (q0 42) 1024 (gA o0 42), kI G (q0 43) 8192 (gA o0 43), kI G (q0 44) 8192 (gA o0 44)] := hD
              refine lv_iadd hx hb d_Md_findRow_142 ?_
              refine lv_aload_n hx hb d_Md_findRow_143 rfl (lv_at hl 1 rfl) ?_
              refine va_get (D := G.1) (ci := 11) (v := .ref (q0 43)) (C := R_Md) (T := T_Md) (N := 45) hx hb hts i_Md hown hK hP 0 rfl rfl 43 (by decide) (hts _ wf_Md_61) (fun _ h9 => h9) rfl d_Md_findRow_144 ?_
              refine lv_iload hx hb d_Md_findRow_147 (lv_at hl 5 rfl) ?_
              have g14 := h.1
              have h := h.2
              refine xa_iald hx hb hK hP 15 0 rfl rfl g14 (k := x4.toNatClampNeg) rfl d_Md_findRow_149 ?_
              refine lv_icmp_lt (tgt := 156) hx hb d_Md_findRow_150 (by decide) (fun c15 => ?_) (fun c15 => ?_)
              · have h := h.1 c15
                have hl := lv_sub (l' := [(0, .ref h0), (1, .int x1), (2, .int x2), (3, .int x3), (4, .int x4), (5, .int x5), (6, .int y9)]) hl [1, 2, 3, 4, 5, 6, 0] rfl
                have hP : va_P G.1 CL (cw_Md G h0 q0 o0) H := hP
                have hD : va_D A (cw_Md G h0 q0 o0) := hD
                exact t_Md_findRow_156 (f_Md_findRow_76 k16 Q n) Q C ih x1 x2 x3 x4 x5 y9 o0 ls _ locs hl hP hD hS h
              · have h := h.2 c15
                refine lv_goto (tgt := 182) hx hb d_Md_findRow_153 (by decide) ?_
                refine lv_iinc (v := (x5 + (1 : Int32))) (lv' := [(5, .int (x5 + (1 : Int32))), (6, .int y9), (0, .ref h0), (1, .int x1), (2, .int x2), (3, .int x3), (4, .int x4)]) hx hb d_Md_findRow_182 hl (k := 6) rfl rfl (by decide) rfl (fun ls hl => ?_)
                refine lv_goto (tgt := 76) hx hb d_Md_findRow_185 (by decide) ?_
                have hl := lv_sub (l' := [(0, .ref h0), (1, .int x1), (2, .int x2), (3, .int x3), (4, .int x4), (5, .int (x5 + (1 : Int32)))]) hl [2, 3, 4, 5, 6, 0] rfl
                have hP : va_P G.1 CL (cw_Md G h0 q0 o0) H := hP
                have hD : va_D A (cw_Md G h0 q0 o0) := hD
                exact ih x1 x2 x3 x4 (x5 + (1 : Int32)) o0 ls H locs hl hP hD hS h
set_option maxHeartbeats 4000000 in
set_option maxRecDepth 100000 in
theorem t_Md_findRow_16 {p : Program} {l : Launch} {e : Env} {s : State} {m : MethodId} {args : Array Value} {below : List Frame} {meth : Method} {c : Code} {A : Nat → Prop} {G : Gl} {h0 : Nat} {q0 : Nat → Nat} (k4 : Int32 → Int32 → Ob → Prop) (Q : Ob → Prop) (C : Cx p s m args meth c R_Md b_Md_findRow 7 none G A)
    (hk4 : ∀ (x1 : Int32) (x2 : Int32) (o0 : Ob) (ls : Array Slot) (H : Heap) (locs : List Loc), lv_has ls 7 [(0, .ref h0), (1, .int x1), (2, .int x2)] → va_P G.1 CL (cw_Md G h0 q0 o0) H → va_D A (cw_Md G h0 q0 o0) → va_S A s.heap H locs → k4 x1 x2 o0 → W p l e rm_Md_findRow s m args below meth c H locs 0 0 (MQ below (va_Qv (fun (u : Ob) => Q u) (fun (u : Ob) t => BW G A (cw_Md G h0 q0 u) t) A) args s 0 0 A) (F0 m 4 ls [])) :
    ∀ (n : Nat) (x1 : Int32) (x2 : Int32) (x3 : Int32) (o0 : Ob) (ls : Array Slot) (H : Heap) (locs : List Loc), lv_has ls 7 [(0, .ref h0), (1, .int x1), (2, .int x2), (3, .int x3)] → va_P G.1 CL (cw_Md G h0 q0 o0) H → va_D A (cw_Md G h0 q0 o0) → va_S A s.heap H locs → f_Md_findRow_16 k4 Q n x1 x2 x3 o0 → W p l e rm_Md_findRow s m args below meth c H locs 0 0 (MQ below (va_Qv (fun (u : Ob) => Q u) (fun (u : Ob) t => BW G A (cw_Md G h0 q0 u) t) A) args s 0 0 A) (F0 m 16 ls []) := by
  obtain ⟨hx, hb, hml, hown, hr, hts, hK, hA, hlocks, hE⟩ := id C
  intro n
  induction n with
  | zero => intro x1 x2 x3 o0 ls H locs hl hP hD hS h; exact absurd h id
  | succ n ih =>
    intro x1 x2 x3 o0 ls H locs hl hP hD hS h
    have hP : va_P G.1 CL [(h0, .inr (11, [.int (gI o0 0), .ref (q0 1), .ref (q0 2), .ref (q0 3), .ref (q0 4), .ref (q0 5), .ref (q0 6), .int (gI o0 7), .int (gI o0 8), .int (gI o0 9), .int (gI o0 10), .int (gI o0 11), .int (gI o0 12), .int (gI o0 13), .int (gI o0 14), .long (gL o0 15), .int (gI o0 16), .int (gI o0 17), .int (gI o0 18), .int (gI o0 19), .int (gI o0 20), .int (gI o0 21), .int (gI o0 22), .int (gI o0 23), .int (gI o0 24), .int (gI o0 25), .int (gI o0 26), .int (gI o0 27), .ref (q0 28), .long (gL o0 29), .int (gI o0 30), .ref (q0 31), .ref (q0 32), .ref (q0 33), .int (gI o0 34), .int (gI o0 35), .int (gI o0 36), .int (gI o0 37), .ref (q0 38), .ref (q0 39), .int (gI o0 40), .ref (q0 41), .ref (q0 42), .ref (q0 43), .ref (q0 44)])), kI G (q0 1) 6100 (gA o0 1), kI G (q0 2) 6100 (gA o0 2), kJ G (q0 3) 2016 (gB o0 3), kJ G (q0 4) 2016 (gB o0 4), kI G (q0 5) 300 (gA o0 5), kI G (q0 6) 400 (gA o0 6), kJ G (q0 28) 10 (gB o0 28), kI G (q0 31) 969 (gA o0 31), kI G (q0 32) 969 (gA o0 32), kI G (q0 33) 969 (gA o0 33), kI G (q0 38) 5 (gA o0 38), kI G (q0 39) 5120 (gA o0 39), kI G (q0 41) 5 (gA o0 41), kZ G (q0 42) 1024 (gA o0 42), kI G (q0 43) 8192 (gA o0 43), kI G (q0 44) 8192 (gA o0 44)] H := hP
    have hD : va_D A [(h0, .inr (11, [.int (gI o0 0), .ref (q0 1), .ref (q0 2), .ref (q0 3), .ref (q0 4), .ref (q0 5), .ref (q0 6), .int (gI o0 7), .int (gI o0 8), .int (gI o0 9), .int (gI o0 10), .int (gI o0 11), .int (gI o0 12), .int (gI o0 13), .int (gI o0 14), .long (gL o0 15), .int (gI o0 16), .int (gI o0 17), .int (gI o0 18), .int (gI o0 19), .int (gI o0 20), .int (gI o0 21), .int (gI o0 22), .int (gI o0 23), .int (gI o0 24), .int (gI o0 25), .int (gI o0 26), .int (gI o0 27), .ref (q0 28), .long (gL o0 29), .int (gI o0 30), .ref (q0 31), .ref (q0 32), .ref (q0 33), .int (gI o0 34), .int (gI o0 35), .int (gI o0 36), .int (gI o0 37), .ref (q0 38), .ref (q0 39), .int (gI o0 40), .ref (q0 41), .ref (q0 42), .ref (q0 43), .ref (q0 44)])), kI G (q0 1) 6100 (gA o0 1), kI G (q0 2) 6100 (gA o0 2), kJ G (q0 3) 2016 (gB o0 3), kJ G (q0 4) 2016 (gB o0 4), kI G (q0 5) 300 (gA o0 5), kI G (q0 6) 400 (gA o0 6), kJ G (q0 28) 10 (gB o0 28), kI G (q0 31) 969 (gA o0 31), kI G (q0 32) 969 (gA o0 32), kI G (q0 33) 969 (gA o0 33), kI G (q0 38) 5 (gA o0 38), kI G (q0 39) 5120 (gA o0 39), kI G (q0 41) 5 (gA o0 41), kZ G (q0 42) 1024 (gA o0 42), kI G (q0 43) 8192 (gA o0 43), kI G (q0 44) 8192 (gA o0 44)] := hD
    unfold f_Md_findRow_16 at h
    refine lv_iload_n hx hb d_Md_findRow_16 rfl (lv_at hl 3 rfl) ?_
    refine lv_aload_n hx hb d_Md_findRow_17 rfl (lv_at hl 0 rfl) ?_
    refine va_get (D := G.1) (ci := 11) (v := .int (gI o0 40)) (C := R_Md) (T := T_Md) (N := 45) hx hb hts i_Md hown hK hP 0 rfl rfl 40 (by decide) (hts _ wf_Md_273) (fun _ h9 => h9) rfl d_Md_findRow_18 ?_
    refine lv_icmp_ge (tgt := 194) hx hb d_Md_findRow_21 (by decide) (fun c16 => ?_) (fun c16 => ?_)
    · have h := h.1 c16
      refine lv_iinc (v := (x2 + (-1 : Int32))) (lv' := [(2, .int (x2 + (-1 : Int32))), (0, .ref h0), (1, .int x1), (3, .int x3)]) hx hb d_Md_findRow_194 hl (k := 2) rfl rfl (by decide) rfl (fun ls hl => ?_)
      refine lv_goto (tgt := 4) hx hb d_Md_findRow_197 (by decide) ?_
      have hl := lv_sub (l' := [(0, .ref h0), (1, .int x1), (2, .int (x2 + (-1 : Int32)))]) hl [1, 2, 0] rfl
      have hP : va_P G.1 CL (cw_Md G h0 q0 o0) H := hP
      have hD : va_D A (cw_Md G h0 q0 o0) := hD
      exact hk4 x1 (x2 + (-1 : Int32)) o0 ls H locs hl hP hD hS h
    · have h := h.2 c16
      refine lv_sipush (v := (1024 : Int32)) hx hb d_Md_findRow_24 (by decide) ?_
      refine lv_iload_n hx hb d_Md_findRow_27 rfl (lv_at hl 2 rfl) ?_
      refine lv_imul hx hb d_Md_findRow_28 ?_
      refine lv_iload_n hx hb d_Md_findRow_29 rfl (lv_at hl 3 rfl) ?_
      refine lv_iadd hx hb d_Md_findRow_30 ?_
      refine lv_istore (lv' := [(4, .int (((1024 : Int32) * x2) + x3)), (0, .ref h0), (1, .int x1), (2, .int x2), (3, .int x3)]) hx hb d_Md_findRow_31 hl (by decide) rfl (fun ls hl => ?_)
      refine lv_aload_n hx hb d_Md_findRow_33 rfl (lv_at hl 1 rfl) ?_
      refine va_get (D := G.1) (ci := 11) (v := .ref (q0 43)) (C := R_Md) (T := T_Md) (N := 45) hx hb hts i_Md hown hK hP 0 rfl rfl 43 (by decide) (hts _ wf_Md_61) (fun _ h9 => h9) rfl d_Md_findRow_34 ?_
      refine lv_iload hx hb d_Md_findRow_37 (lv_at hl 0 rfl) ?_
      refine lv_iconst (v := (-1 : Int32)) hx hb d_Md_findRow_39 (by decide) ?_
      have g17 := h.1
      have h := h.2
      refine xa_iast hx hb hK hP hD hS 15 0 rfl rfl g17 (k := (((1024 : Int32) * x2) + x3).toNatClampNeg) rfl d_Md_findRow_40 (fun H locs hP hD hS => ?_)
      have hP : va_P G.1 CL [(h0, .inr (11, [.int (gI o0 0), .ref (q0 1), .ref (q0 2), .ref (q0 3), .ref (q0 4), .ref (q0 5), .ref (q0 6), .int (gI o0 7), .int (gI o0 8), .int (gI o0 9), .int (gI o0 10), .int (gI o0 11), .int (gI o0 12), .int (gI o0 13), .int (gI o0 14), .long (gL o0 15), .int (gI o0 16), .int (gI o0 17), .int (gI o0 18), .int (gI o0 19), .int (gI o0 20), .int (gI o0 21), .int (gI o0 22), .int (gI o0 23), .int (gI o0 24), .int (gI o0 25), .int (gI o0 26), .int (gI o0 27), .ref (q0 28), .long (gL o0 29), .int (gI o0 30), .ref (q0 31), .ref (q0 32), .ref (q0 33), .int (gI o0 34), .int (gI o0 35), .int (gI o0 36), .int (gI o0 37), .ref (q0 38), .ref (q0 39), .int (gI o0 40), .ref (q0 41), .ref (q0 42), .ref (q0 43), .ref (q0 44)])), kI G (q0 1) 6100 (gA o0 1), kI G (q0 2) 6100 (gA o0 2), kJ G (q0 3) 2016 (gB o0 3), kJ G (q0 4) 2016 (gB o0 4), kI G (q0 5) 300 (gA o0 5), kI G (q0 6) 400 (gA o0 6), kJ G (q0 28) 10 (gB o0 28), kI G (q0 31) 969 (gA o0 31), kI G (q0 32) 969 (gA o0 32), kI G (q0 33) 969 (gA o0 33), kI G (q0 38) 5 (gA o0 38), kI G (q0 39) 5120 (gA o0 39), kI G (q0 41) 5 (gA o0 41), kZ G (q0 42) 1024 (gA o0 42), kI G (q0 43) 8192 (upd (gA o0 43) ((((1024 : Int32) * x2) + x3).toNatClampNeg) (-1 : Int32)), kI G (q0 44) 8192 (gA o0 44)] H := hP
      have hD : va_D A [(h0, .inr (11, [.int (gI o0 0), .ref (q0 1), .ref (q0 2), .ref (q0 3), .ref (q0 4), .ref (q0 5), .ref (q0 6), .int (gI o0 7), .int (gI o0 8), .int (gI o0 9), .int (gI o0 10), .int (gI o0 11), .int (gI o0 12), .int (gI o0 13), .int (gI o0 14), .long (gL o0 15), .int (gI o0 16), .int (gI o0 17), .int (gI o0 18), .int (gI o0 19), .int (gI o0 20), .int (gI o0 21), .int (gI o0 22), .int (gI o0 23), .int (gI o0 24), .int (gI o0 25), .int (gI o0 26), .int (gI o0 27), .ref (q0 28), .long (gL o0 29), .int (gI o0 30), .ref (q0 31), .ref (q0 32), .ref (q0 33), .int (gI o0 34), .int (gI o0 35), .int (gI o0 36), .int (gI o0 37), .ref (q0 38), .ref (q0 39), .int (gI o0 40), .ref (q0 41), .ref (q0 42), .ref (q0 43), .ref (q0 44)])), kI G (q0 1) 6100 (gA o0 1), kI G (q0 2) 6100 (gA o0 2), kJ G (q0 3) 2016 (gB o0 3), kJ G (q0 4) 2016 (gB o0 4), kI G (q0 5) 300 (gA o0 5), kI G (q0 6) 400 (gA o0 6), kJ G (q0 28) 10 (gB o0 28), kI G (q0 31) 969 (gA o0 31), kI G (q0 32) 969 (gA o0 32), kI G (q0 33) 969 (gA o0 33), kI G (q0 38) 5 (gA o0 38), kI G (q0 39) 5120 (gA o0 39), kI G (q0 41) 5 (gA o0 41), kZ G (q0 42) 1024 (gA o0 42), kI G (q0 43) 8192 (upd (gA o0 43) ((((1024 : Int32) * x2) + x3).toNatClampNeg) (-1 : Int32)), kI G (q0 44) 8192 (gA o0 44)] := hD
      refine lv_aload_n hx hb d_Md_findRow_41 rfl (lv_at hl 1 rfl) ?_
      refine va_get (D := G.1) (ci := 11) (v := .ref (q0 44)) (C := R_Md) (T := T_Md) (N := 45) hx hb hts i_Md hown hK hP 0 rfl rfl 44 (by decide) (hts _ wf_Md_64) (fun _ h9 => h9) rfl d_Md_findRow_42 ?_
      refine lv_iload hx hb d_Md_findRow_45 (lv_at hl 0 rfl) ?_
      refine lv_iconst (v := (-1 : Int32)) hx hb d_Md_findRow_47 (by decide) ?_
      have g18 := h.1
      have h := h.2
      refine xa_iast hx hb hK hP hD hS 16 0 rfl rfl g18 (k := (((1024 : Int32) * x2) + x3).toNatClampNeg) rfl d_Md_findRow_48 (fun H locs hP hD hS => ?_)
      have hP : va_P G.1 CL [(h0, .inr (11, [.int (gI o0 0), .ref (q0 1), .ref (q0 2), .ref (q0 3), .ref (q0 4), .ref (q0 5), .ref (q0 6), .int (gI o0 7), .int (gI o0 8), .int (gI o0 9), .int (gI o0 10), .int (gI o0 11), .int (gI o0 12), .int (gI o0 13), .int (gI o0 14), .long (gL o0 15), .int (gI o0 16), .int (gI o0 17), .int (gI o0 18), .int (gI o0 19), .int (gI o0 20), .int (gI o0 21), .int (gI o0 22), .int (gI o0 23), .int (gI o0 24), .int (gI o0 25), .int (gI o0 26), .int (gI o0 27), .ref (q0 28), .long (gL o0 29), .int (gI o0 30), .ref (q0 31), .ref (q0 32), .ref (q0 33), .int (gI o0 34), .int (gI o0 35), .int (gI o0 36), .int (gI o0 37), .ref (q0 38), .ref (q0 39), .int (gI o0 40), .ref (q0 41), .ref (q0 42), .ref (q0 43), .ref (q0 44)])), kI G (q0 1) 6100 (gA o0 1), kI G (q0 2) 6100 (gA o0 2), kJ G (q0 3) 2016 (gB o0 3), kJ G (q0 4) 2016 (gB o0 4), kI G (q0 5) 300 (gA o0 5), kI G (q0 6) 400 (gA o0 6), kJ G (q0 28) 10 (gB o0 28), kI G (q0 31) 969 (gA o0 31), kI G (q0 32) 969 (gA o0 32), kI G (q0 33) 969 (gA o0 33), kI G (q0 38) 5 (gA o0 38), kI G (q0 39) 5120 (gA o0 39), kI G (q0 41) 5 (gA o0 41), kZ G (q0 42) 1024 (gA o0 42), kI G (q0 43) 8192 (upd (gA o0 43) ((((1024 : Int32) * x2) + x3).toNatClampNeg) (-1 : Int32)), kI G (q0 44) 8192 (upd (gA o0 44) ((((1024 : Int32) * x2) + x3).toNatClampNeg) (-1 : Int32))] H := hP
      have hD : va_D A [(h0, .inr (11, [.int (gI o0 0), .ref (q0 1), .ref (q0 2), .ref (q0 3), .ref (q0 4), .ref (q0 5), .ref (q0 6), .int (gI o0 7), .int (gI o0 8), .int (gI o0 9), .int (gI o0 10), .int (gI o0 11), .int (gI o0 12), .int (gI o0 13), .int (gI o0 14), .long (gL o0 15), .int (gI o0 16), .int (gI o0 17), .int (gI o0 18), .int (gI o0 19), .int (gI o0 20), .int (gI o0 21), .int (gI o0 22), .int (gI o0 23), .int (gI o0 24), .int (gI o0 25), .int (gI o0 26), .int (gI o0 27), .ref (q0 28), .long (gL o0 29), .int (gI o0 30), .ref (q0 31), .ref (q0 32), .ref (q0 33), .int (gI o0 34), .int (gI o0 35), .int (gI o0 36), .int (gI o0 37), .ref (q0 38), .ref (q0 39), .int (gI o0 40), .ref (q0 41), .ref (q0 42), .ref (q0 43), .ref (q0 44)])), kI G (q0 1) 6100 (gA o0 1), kI G (q0 2) 6100 (gA o0 2), kJ G (q0 3) 2016 (gB o0 3), kJ G (q0 4) 2016 (gB o0 4), kI G (q0 5) 300 (gA o0 5), kI G (q0 6) 400 (gA o0 6), kJ G (q0 28) 10 (gB o0 28), kI G (q0 31) 969 (gA o0 31), kI G (q0 32) 969 (gA o0 32), kI G (q0 33) 969 (gA o0 33), kI G (q0 38) 5 (gA o0 38), kI G (q0 39) 5120 (gA o0 39), kI G (q0 41) 5 (gA o0 41), kZ G (q0 42) 1024 (gA o0 42), kI G (q0 43) 8192 (upd (gA o0 43) ((((1024 : Int32) * x2) + x3).toNatClampNeg) (-1 : Int32)), kI G (q0 44) 8192 (upd (gA o0 44) ((((1024 : Int32) * x2) + x3).toNatClampNeg) (-1 : Int32))] := hD
      refine lv_aload_n hx hb d_Md_findRow_49 rfl (lv_at hl 1 rfl) ?_
      refine va_get (D := G.1) (ci := 11) (v := .ref (q0 42)) (C := R_Md) (T := T_Md) (N := 45) hx hb hts i_Md hown hK hP 0 rfl rfl 42 (by decide) (hts _ wf_Md_57) (fun _ h9 => h9) rfl d_Md_findRow_50 ?_
      refine lv_iload_n hx hb d_Md_findRow_53 rfl (lv_at hl 4 rfl) ?_
      have g19 := h.1
      have h := h.2
      refine xa_zald hx hb hK hP 14 3 rfl rfl g19 (k := x3.toNatClampNeg) rfl d_Md_findRow_54 ?_
      refine lv_if_eq (tgt := 73) hx hb d_Md_findRow_55 (by decide) (fun c20 => ?_) (fun c20 => ?_)
      · have h := h.1 c20
        refine lv_iconst (v := (0 : Int32)) hx hb d_Md_findRow_73 (by decide) ?_
        refine lv_istore (lv' := [(5, .int (0 : Int32)), (4, .int (((1024 : Int32) * x2) + x3)), (0, .ref h0), (1, .int x1), (2, .int x2), (3, .int x3)]) hx hb d_Md_findRow_74 hl (by decide) rfl (fun ls hl => ?_)
        have hl := lv_sub (l' := [(0, .ref h0), (1, .int x1), (2, .int x2), (3, .int x3), (4, .int (((1024 : Int32) * x2) + x3)), (5, .int (0 : Int32))]) hl [2, 3, 4, 5, 1, 0] rfl
        have hP : va_P G.1 CL (cw_Md G h0 q0 (sA (sA o0 43 (upd (gA o0 43) ((((1024 : Int32) * x2) + x3).toNatClampNeg) (-1 : Int32))) 44 (upd (gA o0 44) ((((1024 : Int32) * x2) + x3).toNatClampNeg) (-1 : Int32)))) H := hP
        have hD : va_D A (cw_Md G h0 q0 (sA (sA o0 43 (upd (gA o0 43) ((((1024 : Int32) * x2) + x3).toNatClampNeg) (-1 : Int32))) 44 (upd (gA o0 44) ((((1024 : Int32) * x2) + x3).toNatClampNeg) (-1 : Int32)))) := hD
        obtain ⟨w, h⟩ := h
        exact t_Md_findRow_76 (f_Md_findRow_16 k4 Q n) Q C ih w x1 x2 x3 (((1024 : Int32) * x2) + x3) (0 : Int32) (sA (sA o0 43 (upd (gA o0 43) ((((1024 : Int32) * x2) + x3).toNatClampNeg) (-1 : Int32))) 44 (upd (gA o0 44) ((((1024 : Int32) * x2) + x3).toNatClampNeg) (-1 : Int32))) ls _ locs hl hP hD hS h
      · have h := h.2 c20
        refine lv_iload_n hx hb d_Md_findRow_58 rfl (lv_at hl 3 rfl) ?_
        refine lv_iload_n hx hb d_Md_findRow_59 rfl (lv_at hl 2 rfl) ?_
        refine lv_iconst (v := (1 : Int32)) hx hb d_Md_findRow_60 (by decide) ?_
        refine lv_isub hx hb d_Md_findRow_61 ?_
        refine lv_icmp_ne (tgt := 73) hx hb d_Md_findRow_62 (by decide) (fun c21 => ?_) (fun c21 => ?_)
        · have h := h.2 c21
          refine lv_iconst (v := (0 : Int32)) hx hb d_Md_findRow_73 (by decide) ?_
          refine lv_istore (lv' := [(5, .int (0 : Int32)), (4, .int (((1024 : Int32) * x2) + x3)), (0, .ref h0), (1, .int x1), (2, .int x2), (3, .int x3)]) hx hb d_Md_findRow_74 hl (by decide) rfl (fun ls hl => ?_)
          have hl := lv_sub (l' := [(0, .ref h0), (1, .int x1), (2, .int x2), (3, .int x3), (4, .int (((1024 : Int32) * x2) + x3)), (5, .int (0 : Int32))]) hl [2, 3, 4, 5, 1, 0] rfl
          have hP : va_P G.1 CL (cw_Md G h0 q0 (sA (sA o0 43 (upd (gA o0 43) ((((1024 : Int32) * x2) + x3).toNatClampNeg) (-1 : Int32))) 44 (upd (gA o0 44) ((((1024 : Int32) * x2) + x3).toNatClampNeg) (-1 : Int32)))) H := hP
          have hD : va_D A (cw_Md G h0 q0 (sA (sA o0 43 (upd (gA o0 43) ((((1024 : Int32) * x2) + x3).toNatClampNeg) (-1 : Int32))) 44 (upd (gA o0 44) ((((1024 : Int32) * x2) + x3).toNatClampNeg) (-1 : Int32)))) := hD
          obtain ⟨w, h⟩ := h
          exact t_Md_findRow_76 (f_Md_findRow_16 k4 Q n) Q C ih w x1 x2 x3 (((1024 : Int32) * x2) + x3) (0 : Int32) (sA (sA o0 43 (upd (gA o0 43) ((((1024 : Int32) * x2) + x3).toNatClampNeg) (-1 : Int32))) 44 (upd (gA o0 44) ((((1024 : Int32) * x2) + x3).toNatClampNeg) (-1 : Int32))) ls _ locs hl hP hD hS h
        · have h := h.1 c21
          refine lv_aload_n hx hb d_Md_findRow_65 rfl (lv_at hl 1 rfl) ?_
          refine va_get (D := G.1) (ci := 11) (v := .ref (q0 43)) (C := R_Md) (T := T_Md) (N := 45) hx hb hts i_Md hown hK hP 0 rfl rfl 43 (by decide) (hts _ wf_Md_61) (fun _ h9 => h9) rfl d_Md_findRow_66 ?_
          refine lv_iload hx hb d_Md_findRow_69 (lv_at hl 0 rfl) ?_
          refine lv_iconst (v := (0 : Int32)) hx hb d_Md_findRow_71 (by decide) ?_
          have g22 := h.1
          have h := h.2
          refine xa_iast hx hb hK hP hD hS 15 0 rfl rfl g22 (k := (((1024 : Int32) * x2) + x3).toNatClampNeg) rfl d_Md_findRow_72 (fun H locs hP hD hS => ?_)
          have hP : va_P G.1 CL [(h0, .inr (11, [.int (gI o0 0), .ref (q0 1), .ref (q0 2), .ref (q0 3), .ref (q0 4), .ref (q0 5), .ref (q0 6), .int (gI o0 7), .int (gI o0 8), .int (gI o0 9), .int (gI o0 10), .int (gI o0 11), .int (gI o0 12), .int (gI o0 13), .int (gI o0 14), .long (gL o0 15), .int (gI o0 16), .int (gI o0 17), .int (gI o0 18), .int (gI o0 19), .int (gI o0 20), .int (gI o0 21), .int (gI o0 22), .int (gI o0 23), .int (gI o0 24), .int (gI o0 25), .int (gI o0 26), .int (gI o0 27), .ref (q0 28), .long (gL o0 29), .int (gI o0 30), .ref (q0 31), .ref (q0 32), .ref (q0 33), .int (gI o0 34), .int (gI o0 35), .int (gI o0 36), .int (gI o0 37), .ref (q0 38), .ref (q0 39), .int (gI o0 40), .ref (q0 41), .ref (q0 42), .ref (q0 43), .ref (q0 44)])), kI G (q0 1) 6100 (gA o0 1), kI G (q0 2) 6100 (gA o0 2), kJ G (q0 3) 2016 (gB o0 3), kJ G (q0 4) 2016 (gB o0 4), kI G (q0 5) 300 (gA o0 5), kI G (q0 6) 400 (gA o0 6), kJ G (q0 28) 10 (gB o0 28), kI G (q0 31) 969 (gA o0 31), kI G (q0 32) 969 (gA o0 32), kI G (q0 33) 969 (gA o0 33), kI G (q0 38) 5 (gA o0 38), kI G (q0 39) 5120 (gA o0 39), kI G (q0 41) 5 (gA o0 41), kZ G (q0 42) 1024 (gA o0 42), kI G (q0 43) 8192 (upd (upd (gA o0 43) ((((1024 : Int32) * x2) + x3).toNatClampNeg) (-1 : Int32)) ((((1024 : Int32) * x2) + x3).toNatClampNeg) (0 : Int32)), kI G (q0 44) 8192 (upd (gA o0 44) ((((1024 : Int32) * x2) + x3).toNatClampNeg) (-1 : Int32))] H := hP
          have hD : va_D A [(h0, .inr (11, [.int (gI o0 0), .ref (q0 1), .ref (q0 2), .ref (q0 3), .ref (q0 4), .ref (q0 5), .ref (q0 6), .int (gI o0 7), .int (gI o0 8), .int (gI o0 9), .int (gI o0 10), .int (gI o0 11), .int (gI o0 12), .int (gI o0 13), .int (gI o0 14), .long (gL o0 15), .int (gI o0 16), .int (gI o0 17), .int (gI o0 18), .int (gI o0 19), .int (gI o0 20), .int (gI o0 21), .int (gI o0 22), .int (gI o0 23), .int (gI o0 24), .int (gI o0 25), .int (gI o0 26), .int (gI o0 27), .ref (q0 28), .long (gL o0 29), .int (gI o0 30), .ref (q0 31), .ref (q0 32), .ref (q0 33), .int (gI o0 34), .int (gI o0 35), .int (gI o0 36), .int (gI o0 37), .ref (q0 38), .ref (q0 39), .int (gI o0 40), .ref (q0 41), .ref (q0 42), .ref (q0 43), .ref (q0 44)])), kI G (q0 1) 6100 (gA o0 1), kI G (q0 2) 6100 (gA o0 2), kJ G (q0 3) 2016 (gB o0 3), kJ G (q0 4) 2016 (gB o0 4), kI G (q0 5) 300 (gA o0 5), kI G (q0 6) 400 (gA o0 6), kJ G (q0 28) 10 (gB o0 28), kI G (q0 31) 969 (gA o0 31), kI G (q0 32) 969 (gA o0 32), kI G (q0 33) 969 (gA o0 33), kI G (q0 38) 5 (gA o0 38), kI G (q0 39) 5120 (gA o0 39), kI G (q0 41) 5 (gA o0 41), kZ G (q0 42) 1024 (gA o0 42), kI G (q0 43) 8192 (upd (upd (gA o0 43) ((((1024 : Int32) * x2) + x3).toNatClampNeg) (-1 : Int32)) ((((1024 : Int32) * x2) + x3).toNatClampNeg) (0 : Int32)), kI G (q0 44) 8192 (upd (gA o0 44) ((((1024 : Int32) * x2) + x3).toNatClampNeg) (-1 : Int32))] := hD
          refine lv_iconst (v := (0 : Int32)) hx hb d_Md_findRow_73 (by decide) ?_
          refine lv_istore (lv' := [(5, .int (0 : Int32)), (4, .int (((1024 : Int32) * x2) + x3)), (0, .ref h0), (1, .int x1), (2, .int x2), (3, .int x3)]) hx hb d_Md_findRow_74 hl (by decide) rfl (fun ls hl => ?_)
          have hl := lv_sub (l' := [(0, .ref h0), (1, .int x1), (2, .int x2), (3, .int x3), (4, .int (((1024 : Int32) * x2) + x3)), (5, .int (0 : Int32))]) hl [2, 3, 4, 5, 1, 0] rfl
          have hP : va_P G.1 CL (cw_Md G h0 q0 (sA (sA o0 43 (upd (upd (gA o0 43) ((((1024 : Int32) * x2) + x3).toNatClampNeg) (-1 : Int32)) ((((1024 : Int32) * x2) + x3).toNatClampNeg) (0 : Int32))) 44 (upd (gA o0 44) ((((1024 : Int32) * x2) + x3).toNatClampNeg) (-1 : Int32)))) H := hP
          have hD : va_D A (cw_Md G h0 q0 (sA (sA o0 43 (upd (upd (gA o0 43) ((((1024 : Int32) * x2) + x3).toNatClampNeg) (-1 : Int32)) ((((1024 : Int32) * x2) + x3).toNatClampNeg) (0 : Int32))) 44 (upd (gA o0 44) ((((1024 : Int32) * x2) + x3).toNatClampNeg) (-1 : Int32)))) := hD
          obtain ⟨w, h⟩ := h
          exact t_Md_findRow_76 (f_Md_findRow_16 k4 Q n) Q C ih w x1 x2 x3 (((1024 : Int32) * x2) + x3) (0 : Int32) (sA (sA o0 43 (upd (upd (gA o0 43) ((((1024 : Int32) * x2) + x3).toNatClampNeg) (-1 : Int32)) ((((1024 : Int32) * x2) + x3).toNatClampNeg) (0 : Int32))) 44 (upd (gA o0 44) ((((1024 : Int32) * x2) + x3).toNatClampNeg) (-1 : Int32))) ls _ locs hl hP hD hS h
set_option maxHeartbeats 4000000 in
set_option maxRecDepth 100000 in
theorem t_Md_findRow_4 {p : Program} {l : Launch} {e : Env} {s : State} {m : MethodId} {args : Array Value} {below : List Frame} {meth : Method} {c : Code} {A : Nat → Prop} {G : Gl} {h0 : Nat} {q0 : Nat → Nat} (Q : Ob → Prop) (C : Cx p s m args meth c R_Md b_Md_findRow 7 none G A) :
    ∀ (n : Nat) (x1 : Int32) (x2 : Int32) (o0 : Ob) (ls : Array Slot) (H : Heap) (locs : List Loc), lv_has ls 7 [(0, .ref h0), (1, .int x1), (2, .int x2)] → va_P G.1 CL (cw_Md G h0 q0 o0) H → va_D A (cw_Md G h0 q0 o0) → va_S A s.heap H locs → f_Md_findRow_4 Q n x1 x2 o0 → W p l e rm_Md_findRow s m args below meth c H locs 0 0 (MQ below (va_Qv (fun (u : Ob) => Q u) (fun (u : Ob) t => BW G A (cw_Md G h0 q0 u) t) A) args s 0 0 A) (F0 m 4 ls []) := by
  obtain ⟨hx, hb, hml, hown, hr, hts, hK, hA, hlocks, hE⟩ := id C
  intro n
  induction n with
  | zero => intro x1 x2 o0 ls H locs hl hP hD hS h; exact absurd h id
  | succ n ih =>
    intro x1 x2 o0 ls H locs hl hP hD hS h
    have hP : va_P G.1 CL [(h0, .inr (11, [.int (gI o0 0), .ref (q0 1), .ref (q0 2), .ref (q0 3), .ref (q0 4), .ref (q0 5), .ref (q0 6), .int (gI o0 7), .int (gI o0 8), .int (gI o0 9), .int (gI o0 10), .int (gI o0 11), .int (gI o0 12), .int (gI o0 13), .int (gI o0 14), .long (gL o0 15), .int (gI o0 16), .int (gI o0 17), .int (gI o0 18), .int (gI o0 19), .int (gI o0 20), .int (gI o0 21), .int (gI o0 22), .int (gI o0 23), .int (gI o0 24), .int (gI o0 25), .int (gI o0 26), .int (gI o0 27), .ref (q0 28), .long (gL o0 29), .int (gI o0 30), .ref (q0 31), .ref (q0 32), .ref (q0 33), .int (gI o0 34), .int (gI o0 35), .int (gI o0 36), .int (gI o0 37), .ref (q0 38), .ref (q0 39), .int (gI o0 40), .ref (q0 41), .ref (q0 42), .ref (q0 43), .ref (q0 44)])), kI G (q0 1) 6100 (gA o0 1), kI G (q0 2) 6100 (gA o0 2), kJ G (q0 3) 2016 (gB o0 3), kJ G (q0 4) 2016 (gB o0 4), kI G (q0 5) 300 (gA o0 5), kI G (q0 6) 400 (gA o0 6), kJ G (q0 28) 10 (gB o0 28), kI G (q0 31) 969 (gA o0 31), kI G (q0 32) 969 (gA o0 32), kI G (q0 33) 969 (gA o0 33), kI G (q0 38) 5 (gA o0 38), kI G (q0 39) 5120 (gA o0 39), kI G (q0 41) 5 (gA o0 41), kZ G (q0 42) 1024 (gA o0 42), kI G (q0 43) 8192 (gA o0 43), kI G (q0 44) 8192 (gA o0 44)] H := hP
    have hD : va_D A [(h0, .inr (11, [.int (gI o0 0), .ref (q0 1), .ref (q0 2), .ref (q0 3), .ref (q0 4), .ref (q0 5), .ref (q0 6), .int (gI o0 7), .int (gI o0 8), .int (gI o0 9), .int (gI o0 10), .int (gI o0 11), .int (gI o0 12), .int (gI o0 13), .int (gI o0 14), .long (gL o0 15), .int (gI o0 16), .int (gI o0 17), .int (gI o0 18), .int (gI o0 19), .int (gI o0 20), .int (gI o0 21), .int (gI o0 22), .int (gI o0 23), .int (gI o0 24), .int (gI o0 25), .int (gI o0 26), .int (gI o0 27), .ref (q0 28), .long (gL o0 29), .int (gI o0 30), .ref (q0 31), .ref (q0 32), .ref (q0 33), .int (gI o0 34), .int (gI o0 35), .int (gI o0 36), .int (gI o0 37), .ref (q0 38), .ref (q0 39), .int (gI o0 40), .ref (q0 41), .ref (q0 42), .ref (q0 43), .ref (q0 44)])), kI G (q0 1) 6100 (gA o0 1), kI G (q0 2) 6100 (gA o0 2), kJ G (q0 3) 2016 (gB o0 3), kJ G (q0 4) 2016 (gB o0 4), kI G (q0 5) 300 (gA o0 5), kI G (q0 6) 400 (gA o0 6), kJ G (q0 28) 10 (gB o0 28), kI G (q0 31) 969 (gA o0 31), kI G (q0 32) 969 (gA o0 32), kI G (q0 33) 969 (gA o0 33), kI G (q0 38) 5 (gA o0 38), kI G (q0 39) 5120 (gA o0 39), kI G (q0 41) 5 (gA o0 41), kZ G (q0 42) 1024 (gA o0 42), kI G (q0 43) 8192 (gA o0 43), kI G (q0 44) 8192 (gA o0 44)] := hD
    unfold f_Md_findRow_4 at h
    refine lv_iload_n hx hb d_Md_findRow_4 rfl (lv_at hl 2 rfl) ?_
    refine lv_if_lt (tgt := 200) hx hb d_Md_findRow_5 (by decide) (fun c23 => ?_) (fun c23 => ?_)
    · have h := h.1 c23
      have hP : va_P G.1 CL (cw_Md G h0 q0 o0) H := hP
      have hD : va_D A (cw_Md G h0 q0 o0) := hD
      exact W.vret hx hb hr (fun t ht hW => ⟨⟨o0, rfl, h, by rw [ht]; exact hP, va_K.moved hW.alike hK, hD⟩, hS.F ht⟩) hS.2.2 d_Md_findRow_200
    · have h := h.2 c23
      refine lv_aload_n hx hb d_Md_findRow_8 rfl (lv_at hl 0 rfl) ?_
      refine lv_iload_n hx hb d_Md_findRow_9 rfl (lv_at hl 2 rfl) ?_
      refine cl_Vi (b := b_Md_findRow) (As := [.int x2]) (rest := []) (ws := [(h0, .inr (11, [.int (gI o0 0), .ref (q0 1), .ref (q0 2), .ref (q0 3), .ref (q0 4), .ref (q0 5), .ref (q0 6), .int (gI o0 7), .int (gI o0 8), .int (gI o0 9), .int (gI o0 10), .int (gI o0 11), .int (gI o0 12), .int (gI o0 13), .int (gI o0 14), .long (gL o0 15), .int (gI o0 16), .int (gI o0 17), .int (gI o0 18), .int (gI o0 19), .int (gI o0 20), .int (gI o0 21), .int (gI o0 22), .int (gI o0 23), .int (gI o0 24), .int (gI o0 25), .int (gI o0 26), .int (gI o0 27), .ref (q0 28), .long (gL o0 29), .int (gI o0 30), .ref (q0 31), .ref (q0 32), .ref (q0 33), .int (gI o0 34), .int (gI o0 35), .int (gI o0 36), .int (gI o0 37), .ref (q0 38), .ref (q0 39), .int (gI o0 40), .ref (q0 41), .ref (q0 42), .ref (q0 43), .ref (q0 44)])), kI G (q0 1) 6100 (gA o0 1), kI G (q0 2) 6100 (gA o0 2), kJ G (q0 3) 2016 (gB o0 3), kJ G (q0 4) 2016 (gB o0 4), kI G (q0 5) 300 (gA o0 5), kI G (q0 6) 400 (gA o0 6), kJ G (q0 28) 10 (gB o0 28), kI G (q0 31) 969 (gA o0 31), kI G (q0 32) 969 (gA o0 32), kI G (q0 33) 969 (gA o0 33), kI G (q0 38) 5 (gA o0 38), kI G (q0 39) 5120 (gA o0 39), kI G (q0 41) 5 (gA o0 41), kZ G (q0 42) 1024 (gA o0 42), kI G (q0 43) 8192 (gA o0 43), kI G (q0 44) 8192 (gA o0 44)]) (wr := []) (w2 := fun (u : Ob) => [(h0, .inr (11, [.int (gI u 0), .ref (q0 1), .ref (q0 2), .ref (q0 3), .ref (q0 4), .ref (q0 5), .ref (q0 6), .int (gI u 7), .int (gI u 8), .int (gI u 9), .int (gI u 10), .int (gI u 11), .int (gI u 12), .int (gI u 13), .int (gI u 14), .long (gL u 15), .int (gI u 16), .int (gI u 17), .int (gI u 18), .int (gI u 19), .int (gI u 20), .int (gI u 21), .int (gI u 22), .int (gI u 23), .int (gI u 24), .int (gI u 25), .int (gI u 26), .int (gI u 27), .ref (q0 28), .long (gL u 29), .int (gI u 30), .ref (q0 31), .ref (q0 32), .ref (q0 33), .int (gI u 34), .int (gI u 35), .int (gI u 36), .int (gI u 37), .ref (q0 38), .ref (q0 39), .int (gI u 40), .ref (q0 41), .ref (q0 42), .ref (q0 43), .ref (q0 44)])), kI G (q0 1) 6100 (gA u 1), kI G (q0 2) 6100 (gA u 2), kJ G (q0 3) 2016 (gB u 3), kJ G (q0 4) 2016 (gB u 4), kI G (q0 5) 300 (gA u 5), kI G (q0 6) 400 (gA u 6), kJ G (q0 28) 10 (gB u 28), kI G (q0 31) 969 (gA u 31), kI G (q0 32) 969 (gA u 32), kI G (q0 33) 969 (gA u 33), kI G (q0 38) 5 (gA u 38), kI G (q0 39) 5120 (gA u 39), kI G (q0 41) 5 (gA u 41), kZ G (q0 42) 1024 (gA u 42), kI G (q0 43) 8192 (gA u 43), kI G (q0 44) 8192 (gA u 44)]) C (c_Md_findMakers (h0 := h0) (q0 := q0) H.size h) wv_Md_286 ⟨Nat.le_of_ble_eq_true rfl, Nat.le_of_ble_eq_true rfl⟩ hP hD hS 0 rfl rfl [0, 1, 2, 3, 4, 5, 6, 7, 8, 9, 10, 11, 12, 13, 14, 15, 16] [] rfl rfl (by decide) (by decide) (by decide) [0, 1, 2, 3, 4, 5, 6, 7, 8, 9, 10, 11, 12, 13, 14, 15, 16] (by decide) (fun u => rfl) rfl hl.1 rfl (lv_room (Nat.le_of_ble_eq_true rfl)) d_Md_findRow_10 ⟨Nat.le_of_ble_eq_true rfl, Nat.le_of_ble_eq_true rfl⟩ rfl rfl (fun z24 u H locs h hP hD hS => ?_)
      generalize u = u25 at h hP hD
      have hP : va_P G.1 CL [(h0, .inr (11, [.int (gI u25 0), .ref (q0 1), .ref (q0 2), .ref (q0 3), .ref (q0 4), .ref (q0 5), .ref (q0 6), .int (gI u25 7), .int (gI u25 8), .int (gI u25 9), .int (gI u25 10), .int (gI u25 11), .int (gI u25 12), .int (gI u25 13), .int (gI u25 14), .long (gL u25 15), .int (gI u25 16), .int (gI u25 17), .int (gI u25 18), .int (gI u25 19), .int (gI u25 20), .int (gI u25 21), .int (gI u25 22), .int (gI u25 23), .int (gI u25 24), .int (gI u25 25), .int (gI u25 26), .int (gI u25 27), .ref (q0 28), .long (gL u25 29), .int (gI u25 30), .ref (q0 31), .ref (q0 32), .ref (q0 33), .int (gI u25 34), .int (gI u25 35), .int (gI u25 36), .int (gI u25 37), .ref (q0 38), .ref (q0 39), .int (gI u25 40), .ref (q0 41), .ref (q0 42), .ref (q0 43), .ref (q0 44)])), kI G (q0 1) 6100 (gA u25 1), kI G (q0 2) 6100 (gA u25 2), kJ G (q0 3) 2016 (gB u25 3), kJ G (q0 4) 2016 (gB u25 4), kI G (q0 5) 300 (gA u25 5), kI G (q0 6) 400 (gA u25 6), kJ G (q0 28) 10 (gB u25 28), kI G (q0 31) 969 (gA u25 31), kI G (q0 32) 969 (gA u25 32), kI G (q0 33) 969 (gA u25 33), kI G (q0 38) 5 (gA u25 38), kI G (q0 39) 5120 (gA u25 39), kI G (q0 41) 5 (gA u25 41), kZ G (q0 42) 1024 (gA u25 42), kI G (q0 43) 8192 (gA u25 43), kI G (q0 44) 8192 (gA u25 44)] H := hP
      have hD : va_D A [(h0, .inr (11, [.int (gI u25 0), .ref (q0 1), .ref (q0 2), .ref (q0 3), .ref (q0 4), .ref (q0 5), .ref (q0 6), .int (gI u25 7), .int (gI u25 8), .int (gI u25 9), .int (gI u25 10), .int (gI u25 11), .int (gI u25 12), .int (gI u25 13), .int (gI u25 14), .long (gL u25 15), .int (gI u25 16), .int (gI u25 17), .int (gI u25 18), .int (gI u25 19), .int (gI u25 20), .int (gI u25 21), .int (gI u25 22), .int (gI u25 23), .int (gI u25 24), .int (gI u25 25), .int (gI u25 26), .int (gI u25 27), .ref (q0 28), .long (gL u25 29), .int (gI u25 30), .ref (q0 31), .ref (q0 32), .ref (q0 33), .int (gI u25 34), .int (gI u25 35), .int (gI u25 36), .int (gI u25 37), .ref (q0 38), .ref (q0 39), .int (gI u25 40), .ref (q0 41), .ref (q0 42), .ref (q0 43), .ref (q0 44)])), kI G (q0 1) 6100 (gA u25 1), kI G (q0 2) 6100 (gA u25 2), kJ G (q0 3) 2016 (gB u25 3), kJ G (q0 4) 2016 (gB u25 4), kI G (q0 5) 300 (gA u25 5), kI G (q0 6) 400 (gA u25 6), kJ G (q0 28) 10 (gB u25 28), kI G (q0 31) 969 (gA u25 31), kI G (q0 32) 969 (gA u25 32), kI G (q0 33) 969 (gA u25 33), kI G (q0 38) 5 (gA u25 38), kI G (q0 39) 5120 (gA u25 39), kI G (q0 41) 5 (gA u25 41), kZ G (q0 42) 1024 (gA u25 42), kI G (q0 43) 8192 (gA u25 43), kI G (q0 44) 8192 (gA u25 44)] := hD
      refine lv_pop hx hb d_Md_findRow_13 rfl ?_
      refine lv_iconst (v := (0 : Int32)) hx hb d_Md_findRow_14 (by decide) ?_
      refine lv_istore_n (lv' := [(3, .int (0 : Int32)), (0, .ref h0), (1, .int x1), (2, .int x2)]) hx hb d_Md_findRow_15 rfl hl (by decide) rfl (fun ls hl => ?_)
      have hl := lv_sub (l' := [(0, .ref h0), (1, .int x1), (2, .int x2), (3, .int (0 : Int32))]) hl [1, 2, 3, 0] rfl
      have hP : va_P G.1 CL (cw_Md G h0 q0 u25) H := hP
      have hD : va_D A (cw_Md G h0 q0 u25) := hD
      obtain ⟨w, h⟩ := h
      exact t_Md_findRow_16 (f_Md_findRow_4 Q n) Q C ih w x1 x2 (0 : Int32) u25 ls _ locs hl hP hD hS h
set_option maxHeartbeats 4000000 in
set_option maxRecDepth 100000 in
theorem c_Md_findRow {l : Launch} {G : Gl} {h0 : Nat} {q0 : Nat → Nat} {a0 : Int32} {o0 : Ob} {Q : Ob → Prop} (sz : Nat) (h : f_Md_findRow a0 o0 Q) : Met l y_Md_findRow w_Md_findRow rm_Md_findRow (PcW G [.ref h0, .int a0] sz (cw_Md G h0 q0 o0)) (va_Qv (fun (u : Ob) => Q u) (fun (u : Ob) t => BW G (va_A (cw_Md G h0 q0 o0) sz) (cw_Md G h0 q0 u) t) (va_A (cw_Md G h0 q0 o0) sz)) 0 0 (va_A (cw_Md G h0 q0 o0) sz) := by
  refine Met.ofW (cc := b_Md_findRow) (maxL := 7) (ret := none) (by decide +kernel) rfl ?_
  intro p e s m args below meth c s₁ B hml hv
  obtain ⟨rfl, hsz, hP, hK, hD0, hE⟩ := hv
  have hx := B.exec
  have hb := B.bytes
  have hr := B.returns
  have hts0 := atoms_spec (ws := w_Md_findRow) B.pre
  have hts : ∀ w ∈ gw_tbl, w.before ([.ref h0, .int a0]).toArray s = true := fun w hw => hts0 w (List.mem_cons_of_mem _ hw)
  have hown : s.vm.findClass R_Md = some m.cls := findClass_of_methodNamed B.named
  have hlocks := B.notSynchronized
  subst hsz
  have hD := hD0.self (sz := s.heap.size)
  generalize hAe : va_A (cw_Md G h0 q0 o0) s.heap.size = A at hD hE ⊢
  have hA : ∀ q : Nat, s.heap.size ≤ q → A q := fun q h => by rw [← hAe]; exact Or.inr h
  have hS : va_S A s.heap s.heap [] := va_S.rf
  have C : Cx p s m ([.ref h0, .int a0]).toArray meth c R_Md b_Md_findRow 7 none G A := ⟨hx, hb, hml, hown, hr, hts, hK, hA, hlocks, hE⟩
  have hl := lv_entry ([.ref h0, .int a0]) (n := 7) (Nat.le_of_ble_eq_true rfl)
  rw [lg_entry_eq]
  generalize (lg_sl ([.ref h0, .int a0]) ++ List.replicate (7 - (lg_sl ([.ref h0, .int a0])).length) Slot.unset).toArray = ls at hl ⊢
  have hl : lv_has ls 7 [(0, .ref h0), (1, .int a0)] := hl
  have hD : va_D A [(h0, .inr (11, [.int (gI o0 0), .ref (q0 1), .ref (q0 2), .ref (q0 3), .ref (q0 4), .ref (q0 5), .ref (q0 6), .int (gI o0 7), .int (gI o0 8), .int (gI o0 9), .int (gI o0 10), .int (gI o0 11), .int (gI o0 12), .int (gI o0 13), .int (gI o0 14), .long (gL o0 15), .int (gI o0 16), .int (gI o0 17), .int (gI o0 18), .int (gI o0 19), .int (gI o0 20), .int (gI o0 21), .int (gI o0 22), .int (gI o0 23), .int (gI o0 24), .int (gI o0 25), .int (gI o0 26), .int (gI o0 27), .ref (q0 28), .long (gL o0 29), .int (gI o0 30), .ref (q0 31), .ref (q0 32), .ref (q0 33), .int (gI o0 34), .int (gI o0 35), .int (gI o0 36), .int (gI o0 37), .ref (q0 38), .ref (q0 39), .int (gI o0 40), .ref (q0 41), .ref (q0 42), .ref (q0 43), .ref (q0 44)])), kI G (q0 1) 6100 (gA o0 1), kI G (q0 2) 6100 (gA o0 2), kJ G (q0 3) 2016 (gB o0 3), kJ G (q0 4) 2016 (gB o0 4), kI G (q0 5) 300 (gA o0 5), kI G (q0 6) 400 (gA o0 6), kJ G (q0 28) 10 (gB o0 28), kI G (q0 31) 969 (gA o0 31), kI G (q0 32) 969 (gA o0 32), kI G (q0 33) 969 (gA o0 33), kI G (q0 38) 5 (gA o0 38), kI G (q0 39) 5120 (gA o0 39), kI G (q0 41) 5 (gA o0 41), kZ G (q0 42) 1024 (gA o0 42), kI G (q0 43) 8192 (gA o0 43), kI G (q0 44) 8192 (gA o0 44)] := hD
  unfold f_Md_findRow at h
  suffices key : ∀ (H : Heap) (locs : List Loc), va_P G.1 CL [(h0, .inr (11, [.int (gI o0 0), .ref (q0 1), .ref (q0 2), .ref (q0 3), .ref (q0 4), .ref (q0 5), .ref (q0 6), .int (gI o0 7), .int (gI o0 8), .int (gI o0 9), .int (gI o0 10), .int (gI o0 11), .int (gI o0 12), .int (gI o0 13), .int (gI o0 14), .long (gL o0 15), .int (gI o0 16), .int (gI o0 17), .int (gI o0 18), .int (gI o0 19), .int (gI o0 20), .int (gI o0 21), .int (gI o0 22), .int (gI o0 23), .int (gI o0 24), .int (gI o0 25), .int (gI o0 26), .int (gI o0 27), .ref (q0 28), .long (gL o0 29), .int (gI o0 30), .ref (q0 31), .ref (q0 32), .ref (q0 33), .int (gI o0 34), .int (gI o0 35), .int (gI o0 36), .int (gI o0 37), .ref (q0 38), .ref (q0 39), .int (gI o0 40), .ref (q0 41), .ref (q0 42), .ref (q0 43), .ref (q0 44)])), kI G (q0 1) 6100 (gA o0 1), kI G (q0 2) 6100 (gA o0 2), kJ G (q0 3) 2016 (gB o0 3), kJ G (q0 4) 2016 (gB o0 4), kI G (q0 5) 300 (gA o0 5), kI G (q0 6) 400 (gA o0 6), kJ G (q0 28) 10 (gB o0 28), kI G (q0 31) 969 (gA o0 31), kI G (q0 32) 969 (gA o0 32), kI G (q0 33) 969 (gA o0 33), kI G (q0 38) 5 (gA o0 38), kI G (q0 39) 5120 (gA o0 39), kI G (q0 41) 5 (gA o0 41), kZ G (q0 42) 1024 (gA o0 42), kI G (q0 43) 8192 (gA o0 43), kI G (q0 44) 8192 (gA o0 44)] H → va_S A s.heap H locs → W p l e rm_Md_findRow s m ([.ref h0, .int a0]).toArray below meth c H locs 0 0 (MQ below (va_Qv (fun (u : Ob) => Q u) (fun (u : Ob) t => BW G A (cw_Md G h0 q0 u) t) A) ([.ref h0, .int a0]).toArray s 0 0 A) (F0 m 0 ls []) from key s.heap [] hP hS
  intro H locs hP hS
  refine lv_iload_n hx hb d_Md_findRow_0 rfl (lv_at hl 1 rfl) ?_
  refine lv_iconst (v := (1 : Int32)) hx hb d_Md_findRow_1 (by decide) ?_
  refine lv_isub hx hb d_Md_findRow_2 ?_
  refine lv_istore_n (lv' := [(2, .int (a0 - (1 : Int32))), (0, .ref h0), (1, .int a0)]) hx hb d_Md_findRow_3 rfl hl (by decide) rfl (fun ls hl => ?_)
  have hl := lv_sub (l' := [(0, .ref h0), (1, .int a0), (2, .int (a0 - (1 : Int32)))]) hl [1, 2, 0] rfl
  have hP : va_P G.1 CL (cw_Md G h0 q0 o0) H := hP
  have hD : va_D A (cw_Md G h0 q0 o0) := hD
  obtain ⟨w, h⟩ := h
  exact t_Md_findRow_4 Q C w a0 (a0 - (1 : Int32)) o0 ls _ locs hl hP hD hS h
abbrev b_Md_row : ByteArray := prog_14_method_64_code
def y_Md_row : MethodName := ⟨R_Md, "row", "(III)I"⟩
abbrev w_Md_row : List Cond := Cond.code y_Md_row b_Md_row 6 (some .int) :: gw_tbl
theorem d_Md_row_0 : decode b_Md_row 0 = .ok (.iload_n 1, 1) := by decide +kernel
theorem d_Md_row_1 : decode b_Md_row 1 = .ok (.iconst 1, 1) := by decide +kernel
theorem d_Md_row_2 : decode b_Md_row 2 = .ok (.bipush 8, 2) := by decide +kernel
theorem d_Md_row_4 : decode b_Md_row 4 = .ok (.invokestatic 76, 3) := by decide +kernel
theorem d_Md_row_7 : decode b_Md_row 7 = .ok (.ifCond .eq 27, 3) := by decide +kernel
theorem d_Md_row_10 : decode b_Md_row 10 = .ok (.iload_n 2, 1) := by decide +kernel
theorem d_Md_row_11 : decode b_Md_row 11 = .ok (.iconst (-1), 1) := by decide +kernel
theorem d_Md_row_12 : decode b_Md_row 12 = .ok (.if_icmp .eq 24, 3) := by decide +kernel
theorem d_Md_row_15 : decode b_Md_row 15 = .ok (.iload_n 2, 1) := by decide +kernel
theorem d_Md_row_16 : decode b_Md_row 16 = .ok (.iconst 0, 1) := by decide +kernel
theorem d_Md_row_17 : decode b_Md_row 17 = .ok (.iload_n 1, 1) := by decide +kernel
theorem d_Md_row_18 : decode b_Md_row 18 = .ok (.iconst 1, 1) := by decide +kernel
theorem d_Md_row_19 : decode b_Md_row 19 = .ok (.isub, 1) := by decide +kernel
theorem d_Md_row_20 : decode b_Md_row 20 = .ok (.invokestatic 76, 3) := by decide +kernel
theorem d_Md_row_23 : decode b_Md_row 23 = .ok (.ifCond .eq 11, 3) := by decide +kernel
theorem d_Md_row_26 : decode b_Md_row 26 = .ok (.aload_n 0, 1) := by decide +kernel
theorem d_Md_row_27 : decode b_Md_row 27 = .ok (.iload_n 3, 1) := by decide +kernel
theorem d_Md_row_28 : decode b_Md_row 28 = .ok (.invokevirtual 169, 3) := by decide +kernel
theorem d_Md_row_31 : decode b_Md_row 31 = .ok (.ifCond .ne 5, 3) := by decide +kernel
theorem d_Md_row_34 : decode b_Md_row 34 = .ok (.iconst (-1), 1) := by decide +kernel
theorem d_Md_row_35 : decode b_Md_row 35 = .ok (.ireturn, 1) := by decide +kernel
theorem d_Md_row_36 : decode b_Md_row 36 = .ok (.aload_n 0, 1) := by decide +kernel
theorem d_Md_row_37 : decode b_Md_row 37 = .ok (.iload_n 1, 1) := by decide +kernel
theorem d_Md_row_38 : decode b_Md_row 38 = .ok (.invokevirtual 292, 3) := by decide +kernel
theorem d_Md_row_41 : decode b_Md_row 41 = .ok (.iconst (-1), 1) := by decide +kernel
theorem d_Md_row_42 : decode b_Md_row 42 = .ok (.istore 4, 2) := by decide +kernel
theorem d_Md_row_44 : decode b_Md_row 44 = .ok (.iconst 0, 1) := by decide +kernel
theorem d_Md_row_45 : decode b_Md_row 45 = .ok (.istore 5, 2) := by decide +kernel
theorem d_Md_row_47 : decode b_Md_row 47 = .ok (.iload 5, 2) := by decide +kernel
theorem d_Md_row_49 : decode b_Md_row 49 = .ok (.aload_n 0, 1) := by decide +kernel
theorem d_Md_row_50 : decode b_Md_row 50 = .ok (.getfield 273, 3) := by decide +kernel
theorem d_Md_row_53 : decode b_Md_row 53 = .ok (.if_icmp .ge 45, 3) := by decide +kernel
theorem d_Md_row_56 : decode b_Md_row 56 = .ok (.aload_n 0, 1) := by decide +kernel
theorem d_Md_row_57 : decode b_Md_row 57 = .ok (.getfield 61, 3) := by decide +kernel
theorem d_Md_row_60 : decode b_Md_row 60 = .ok (.iload 5, 2) := by decide +kernel
theorem d_Md_row_62 : decode b_Md_row 62 = .ok (.iaload, 1) := by decide +kernel
theorem d_Md_row_63 : decode b_Md_row 63 = .ok (.ifCond .lt 29, 3) := by decide +kernel
theorem d_Md_row_66 : decode b_Md_row 66 = .ok (.iload 4, 2) := by decide +kernel
theorem d_Md_row_68 : decode b_Md_row 68 = .ok (.ifCond .lt 20, 3) := by decide +kernel
theorem d_Md_row_71 : decode b_Md_row 71 = .ok (.aload_n 0, 1) := by decide +kernel
theorem d_Md_row_72 : decode b_Md_row 72 = .ok (.getfield 61, 3) := by decide +kernel
theorem d_Md_row_75 : decode b_Md_row 75 = .ok (.iload 5, 2) := by decide +kernel
theorem d_Md_row_77 : decode b_Md_row 77 = .ok (.iaload, 1) := by decide +kernel
theorem d_Md_row_78 : decode b_Md_row 78 = .ok (.aload_n 0, 1) := by decide +kernel
theorem d_Md_row_79 : decode b_Md_row 79 = .ok (.getfield 61, 3) := by decide +kernel
theorem d_Md_row_82 : decode b_Md_row 82 = .ok (.iload 4, 2) := by decide +kernel
theorem d_Md_row_84 : decode b_Md_row 84 = .ok (.iaload, 1) := by decide +kernel
theorem d_Md_row_85 : decode b_Md_row 85 = .ok (.if_icmp .ge 7, 3) := by decide +kernel
theorem d_Md_row_88 : decode b_Md_row 88 = .ok (.iload 5, 2) := by decide +kernel
theorem d_Md_row_90 : decode b_Md_row 90 = .ok (.istore 4, 2) := by decide +kernel
theorem d_Md_row_92 : decode b_Md_row 92 = .ok (.iinc 5 1, 3) := by decide +kernel
theorem d_Md_row_95 : decode b_Md_row 95 = .ok (.goto (-48), 3) := by decide +kernel
theorem d_Md_row_98 : decode b_Md_row 98 = .ok (.iload 4, 2) := by decide +kernel
theorem d_Md_row_100 : decode b_Md_row 100 = .ok (.ifCond .lt 8, 3) := by decide +kernel
theorem d_Md_row_103 : decode b_Md_row 103 = .ok (.iload_n 2, 1) := by decide +kernel
theorem d_Md_row_104 : decode b_Md_row 104 = .ok (.iconst (-1), 1) := by decide +kernel
theorem d_Md_row_105 : decode b_Md_row 105 = .ok (.if_icmp .ne 20, 3) := by decide +kernel
theorem d_Md_row_108 : decode b_Md_row 108 = .ok (.iload 4, 2) := by decide +kernel
theorem d_Md_row_110 : decode b_Md_row 110 = .ok (.ifCond .ge 7, 3) := by decide +kernel
theorem d_Md_row_113 : decode b_Md_row 113 = .ok (.iconst (-1), 1) := by decide +kernel
theorem d_Md_row_114 : decode b_Md_row 114 = .ok (.goto 10, 3) := by decide +kernel
theorem d_Md_row_117 : decode b_Md_row 117 = .ok (.aload_n 0, 1) := by decide +kernel
theorem d_Md_row_118 : decode b_Md_row 118 = .ok (.getfield 61, 3) := by decide +kernel
theorem d_Md_row_121 : decode b_Md_row 121 = .ok (.iload 4, 2) := by decide +kernel
theorem d_Md_row_123 : decode b_Md_row 123 = .ok (.iaload, 1) := by decide +kernel
theorem d_Md_row_124 : decode b_Md_row 124 = .ok (.ireturn, 1) := by decide +kernel
theorem d_Md_row_125 : decode b_Md_row 125 = .ok (.iconst 0, 1) := by decide +kernel
theorem d_Md_row_126 : decode b_Md_row 126 = .ok (.istore 5, 2) := by decide +kernel
theorem d_Md_row_128 : decode b_Md_row 128 = .ok (.iload 5, 2) := by decide +kernel
theorem d_Md_row_130 : decode b_Md_row 130 = .ok (.iload_n 2, 1) := by decide +kernel
theorem d_Md_row_131 : decode b_Md_row 131 = .ok (.if_icmp .ge 25, 3) := by decide +kernel
theorem d_Md_row_134 : decode b_Md_row 134 = .ok (.aload_n 0, 1) := by decide +kernel
theorem d_Md_row_135 : decode b_Md_row 135 = .ok (.getfield 64, 3) := by decide +kernel
theorem d_Md_row_138 : decode b_Md_row 138 = .ok (.sipush 1024, 3) := by decide +kernel
theorem d_Md_row_141 : decode b_Md_row 141 = .ok (.iload 5, 2) := by decide +kernel
theorem d_Md_row_143 : decode b_Md_row 143 = .ok (.imul, 1) := by decide +kernel
theorem d_Md_row_144 : decode b_Md_row 144 = .ok (.iload 4, 2) := by decide +kernel
theorem d_Md_row_146 : decode b_Md_row 146 = .ok (.iadd, 1) := by decide +kernel
theorem d_Md_row_147 : decode b_Md_row 147 = .ok (.iaload, 1) := by decide +kernel
theorem d_Md_row_148 : decode b_Md_row 148 = .ok (.istore 4, 2) := by decide +kernel
theorem d_Md_row_150 : decode b_Md_row 150 = .ok (.iinc 5 1, 3) := by decide +kernel
theorem d_Md_row_153 : decode b_Md_row 153 = .ok (.goto (-25), 3) := by decide +kernel
theorem d_Md_row_156 : decode b_Md_row 156 = .ok (.aload_n 0, 1) := by decide +kernel
theorem d_Md_row_157 : decode b_Md_row 157 = .ok (.getfield 51, 3) := by decide +kernel
theorem d_Md_row_160 : decode b_Md_row 160 = .ok (.iconst 5, 1) := by decide +kernel
theorem d_Md_row_161 : decode b_Md_row 161 = .ok (.iload 4, 2) := by decide +kernel
theorem d_Md_row_163 : decode b_Md_row 163 = .ok (.imul, 1) := by decide +kernel
theorem d_Md_row_164 : decode b_Md_row 164 = .ok (.iload_n 3, 1) := by decide +kernel
theorem d_Md_row_165 : decode b_Md_row 165 = .ok (.iadd, 1) := by decide +kernel
theorem d_Md_row_166 : decode b_Md_row 166 = .ok (.iaload, 1) := by decide +kernel
theorem d_Md_row_167 : decode b_Md_row 167 = .ok (.ireturn, 1) := by decide +kernel
theorem wv_Md_292 : wV R_Md 292 y_Md_findRow b_Md_findRow 7 none 1 := ⟨⟨gw_tb (List.mem_of_getElem? (i := 1348) (by decide +kernel)) rfl, gw_tb (List.mem_of_getElem? (i := 13) (by decide +kernel)) rfl, gw_tb (List.mem_of_getElem? (i := 1351) (by decide +kernel)) rfl, by decide, by decide, by decide +kernel⟩, gw_tb (List.mem_of_getElem? (i := 1350) (by decide +kernel)) rfl, gw_of (List.mem_append_left _ (List.mem_of_getElem? (i := 60) (by decide +kernel))) rfl⟩
def f_Md_row_108 (Q : Int32 → Ob → Prop) (x4 : Int32) (o0 : Ob) : Prop := (0 ≤ x4 → ((vp_in x4 8192) ∧ (Q ((gA o0 43) x4.toNatClampNeg) o0))) ∧ (¬ 0 ≤ x4 → (Q (-1 : Int32) o0))
def f_Md_row_128 (Q : Int32 → Ob → Prop) : Nat → Int32 → Int32 → Int32 → Int32 → Ob → Prop
  | 0, _, _, _, _, _ => False
  | n + 1, x2, x3, x4, x5, o0 => (x2 ≤ x5 → ((vp_in (((5 : Int32) * x4) + x3) 5120) ∧ (∀ y5 : Int32, y5 = ((gA o0 39) ((((5 : Int32) * x4) + x3).toNatClampNeg)) → (Q y5 o0)))) ∧ (¬ x2 ≤ x5 → ((vp_in (((1024 : Int32) * x5) + x4) 8192) ∧ (∀ y7 : Int32, y7 = ((gA o0 44) ((((1024 : Int32) * x5) + x4).toNatClampNeg)) → ((f_Md_row_128 Q n) x2 x3 y7 (x5 + (1 : Int32)) o0))))
def f_Md_row_47 (Q : Int32 → Ob → Prop) : Nat → Int32 → Int32 → Int32 → Int32 → Ob → Prop
  | 0, _, _, _, _, _ => False
  | n + 1, x2, x3, x4, x5, o0 => ((gI o0 40) ≤ x5 → ((x4 < 0 → (f_Md_row_108 Q x4 o0)) ∧ (¬ x4 < 0 → ((x2 = (-1 : Int32) → (f_Md_row_108 Q x4 o0)) ∧ (¬ x2 = (-1 : Int32) → ((∃ w, f_Md_row_128 Q w x2 x3 x4 (0 : Int32) o0))))))) ∧ (¬ (gI o0 40) ≤ x5 → ((vp_in x5 8192) ∧ ((((gA o0 43) x5.toNatClampNeg) < 0 → ((f_Md_row_47 Q n) x2 x3 x4 (x5 + (1 : Int32)) o0)) ∧ (¬ ((gA o0 43) x5.toNatClampNeg) < 0 → ((x4 < 0 → ((f_Md_row_47 Q n) x2 x3 x5 (x5 + (1 : Int32)) o0)) ∧ (¬ x4 < 0 → ((vp_in x5 8192) ∧ ((vp_in x4 8192) ∧ ((((gA o0 43) x4.toNatClampNeg) ≤ ((gA o0 43) x5.toNatClampNeg) → ((f_Md_row_47 Q n) x2 x3 x4 (x5 + (1 : Int32)) o0)) ∧ (¬ ((gA o0 43) x4.toNatClampNeg) ≤ ((gA o0 43) x5.toNatClampNeg) → ((f_Md_row_47 Q n) x2 x3 x5 (x5 + (1 : Int32)) o0)))))))))))
def f_Md_row_36 (Q : Int32 → Ob → Prop) (x1 : Int32) (x2 : Int32) (x3 : Int32) (o0 : Ob) : Prop := f_Md_findRow x1 o0 (fun u17 => (∃ w, f_Md_row_47 Q w x2 x3 (-1 : Int32) (0 : Int32) u17))
def f_Md_row (a0 : Int32) (a1 : Int32) (a2 : Int32) (o0 : Ob) (Q : Int32 → Ob → Prop) : Prop := f_Md_isIn a0 (1 : Int32) (8 : Int32) (fun z18 => (z18 = 0 → (Q (-1 : Int32) o0)) ∧ (¬ z18 = 0 → ((a1 = (-1 : Int32) → (f_Md_row_36 Q a0 a1 a2 o0)) ∧ (¬ a1 = (-1 : Int32) → (f_Md_isIn a1 (0 : Int32) (a0 - (1 : Int32)) (fun z21 => (z21 = 0 → (Q (-1 : Int32) o0)) ∧ (¬ z21 = 0 → (f_Md_isPiece a2 o0 (fun z23 => (z23 = 0 → (Q (-1 : Int32) o0)) ∧ (¬ z23 = 0 → (f_Md_row_36 Q a0 a1 a2 o0)))))))))))
abbrev rm_Md_row : Room := { frames := 5, cells := 0, slots := 0, locals := 128 }
set_option maxHeartbeats 4000000 in
set_option maxRecDepth 100000 in
theorem t_Md_row_108 {p : Program} {l : Launch} {e : Env} {s : State} {m : MethodId} {args : Array Value} {below : List Frame} {meth : Method} {c : Code} {A : Nat → Prop} {G : Gl} {h0 : Nat} {q0 : Nat → Nat} (Q : Int32 → Ob → Prop) (C : Cx p s m args meth c R_Md b_Md_row 6 (some .int) G A) :
    ∀ (x4 : Int32) (o0 : Ob) (ls : Array Slot) (H : Heap) (locs : List Loc), lv_has ls 6 [(0, .ref h0), (4, .int x4)] → va_P G.1 CL (cw_Md G h0 q0 o0) H → va_D A (cw_Md G h0 q0 o0) → va_S A s.heap H locs → f_Md_row_108 Q x4 o0 → W p l e rm_Md_row s m args below meth c H locs 0 0 (MQ below (va_Qi (fun (r : Int32) (u : Ob) => Q r u) (fun (u : Ob) t => BW G A (cw_Md G h0 q0 u) t) A) args s 0 0 A) (F0 m 108 ls []) := by
  obtain ⟨hx, hb, hml, hown, hr, hts, hK, hA, hlocks, hE⟩ := id C
  intro x4 o0 ls H locs hl hP hD hS h
  have hP : va_P G.1 CL [(h0, .inr (11, [.int (gI o0 0), .ref (q0 1), .ref (q0 2), .ref (q0 3), .ref (q0 4), .ref (q0 5), .ref (q0 6), .int (gI o0 7), .int (gI o0 8), .int (gI o0 9), .int (gI o0 10), .int (gI o0 11), .int (gI o0 12), .int (gI o0 13), .int (gI o0 14), .long (gL o0 15), .int (gI o0 16), .int (gI o0 17), .int (gI o0 18), .int (gI o0 19), .int (gI o0 20), .int (gI o0 21), .int (gI o0 22), .int (gI o0 23), .int (gI o0 24), .int (gI o0 25), .int (gI o0 26), .int (gI o0 27), .ref (q0 28), .long (gL o0 29), .int (gI o0 30), .ref (q0 31), .ref (q0 32), .ref (q0 33), .int (gI o0 34), .int (gI o0 35), .int (gI o0 36), .int (gI o0 37), .ref (q0 38), .ref (q0 39), .int (gI o0 40), .ref (q0 41), .ref (q0 42), .ref (q0 43), .ref (q0 44)])), kI G (q0 1) 6100 (gA o0 1), kI G (q0 2) 6100 (gA o0 2), kJ G (q0 3) 2016 (gB o0 3), kJ G (q0 4) 2016 (gB o0 4), kI G (q0 5) 300 (gA o0 5), kI G (q0 6) 400 (gA o0 6), kJ G (q0 28) 10 (gB o0 28), kI G (q0 31) 969 (gA o0 31), kI G (q0 32) 969 (gA o0 32), kI G (q0 33) 969 (gA o0 33), kI G (q0 38) 5 (gA o0 38), kI G (q0 39) 5120 (gA o0 39), kI G (q0 41) 5 (gA o0 41), kZ G (q0 42) 1024 (gA o0 42), kI G (q0 43) 8192 (gA o0 43), kI G (q0 44) 8192 (gA o0 44)] H := hP
  have hD : va_D A [(h0, .inr (11, [.int (gI o0 0), .ref (q0 1), .ref (q0 2), .ref (q0 3), .ref (q0 4), .ref (q0 5), .ref (q0 6), .int (gI o0 7), .int (gI o0 8), .int (gI o0 9), .int (gI o0 10), .int (gI o0 11), .int (gI o0 12), .int (gI o0 13), .int (gI o0 14), .long (gL o0 15), .int (gI o0 16), .int (gI o0 17), .int (gI o0 18), .int (gI o0 19), .int (gI o0 20), .int (gI o0 21), .int (gI o0 22), .int (gI o0 23), .int (gI o0 24), .int (gI o0 25), .int (gI o0 26), .int (gI o0 27), .ref (q0 28), .long (gL o0 29), .int (gI o0 30), .ref (q0 31), .ref (q0 32), .ref (q0 33), .int (gI o0 34), .int (gI o0 35), .int (gI o0 36), .int (gI o0 37), .ref (q0 38), .ref (q0 39), .int (gI o0 40), .ref (q0 41), .ref (q0 42), .ref (q0 43), .ref (q0 44)])), kI G (q0 1) 6100 (gA o0 1), kI G (q0 2) 6100 (gA o0 2), kJ G (q0 3) 2016 (gB o0 3), kJ G (q0 4) 2016 (gB o0 4), kI G (q0 5) 300 (gA o0 5), kI G (q0 6) 400 (gA o0 6), kJ G (q0 28) 10 (gB o0 28), kI G (q0 31) 969 (gA o0 31), kI G (q0 32) 969 (gA o0 32), kI G (q0 33) 969 (gA o0 33), kI G (q0 38) 5 (gA o0 38), kI G (q0 39) 5120 (gA o0 39), kI G (q0 41) 5 (gA o0 41), kZ G (q0 42) 1024 (gA o0 42), kI G (q0 43) 8192 (gA o0 43), kI G (q0 44) 8192 (gA o0 44)] := hD
  unfold f_Md_row_108 at h
  refine lv_iload hx hb d_Md_row_108 (lv_at hl 1 rfl) ?_
  refine lv_if_ge (tgt := 117) hx hb d_Md_row_110 (by decide) (fun c1 => ?_) (fun c1 => ?_)
  · have h := h.1 c1
    refine lv_aload_n hx hb d_Md_row_117 rfl (lv_at hl 0 rfl) ?_
    refine va_get (D := G.1) (ci := 11) (v := .ref (q0 43)) (C := R_Md) (T := T_Md) (N := 45) hx hb hts i_Md hown hK hP 0 rfl rfl 43 (by decide) (hts _ wf_Md_61) (fun _ h9 => h9) rfl d_Md_row_118 ?_
    refine lv_iload hx hb d_Md_row_121 (lv_at hl 1 rfl) ?_
    have g2 := h.1
    have h := h.2
    refine xa_iald hx hb hK hP 15 0 rfl rfl g2 (k := x4.toNatClampNeg) rfl d_Md_row_123 ?_
    have hP : va_P G.1 CL (cw_Md G h0 q0 o0) H := hP
    have hD : va_D A (cw_Md G h0 q0 o0) := hD
    exact W.iret (v := ((gA o0 43) x4.toNatClampNeg)) hx hb hr (fun t ht hW => ⟨⟨((gA o0 43) x4.toNatClampNeg), o0, rfl, h, by rw [ht]; exact hP, va_K.moved hW.alike hK, hD⟩, hS.F ht⟩) hS.2.2 d_Md_row_124
  · have h := h.2 c1
    refine lv_iconst (v := (-1 : Int32)) hx hb d_Md_row_113 (by decide) ?_
    refine lv_goto (tgt := 124) hx hb d_Md_row_114 (by decide) ?_
    have hP : va_P G.1 CL (cw_Md G h0 q0 o0) H := hP
    have hD : va_D A (cw_Md G h0 q0 o0) := hD
    exact W.iret (v := (-1 : Int32)) hx hb hr (fun t ht hW => ⟨⟨(-1 : Int32), o0, rfl, h, by rw [ht]; exact hP, va_K.moved hW.alike hK, hD⟩, hS.F ht⟩) hS.2.2 d_Md_row_124
set_option maxHeartbeats 4000000 in
set_option maxRecDepth 100000 in
theorem t_Md_row_128 {p : Program} {l : Launch} {e : Env} {s : State} {m : MethodId} {args : Array Value} {below : List Frame} {meth : Method} {c : Code} {A : Nat → Prop} {G : Gl} {h0 : Nat} {q0 : Nat → Nat} (Q : Int32 → Ob → Prop) (C : Cx p s m args meth c R_Md b_Md_row 6 (some .int) G A) :
    ∀ (n : Nat) (x2 : Int32) (x3 : Int32) (x4 : Int32) (x5 : Int32) (o0 : Ob) (ls : Array Slot) (H : Heap) (locs : List Loc), lv_has ls 6 [(0, .ref h0), (2, .int x2), (3, .int x3), (4, .int x4), (5, .int x5)] → va_P G.1 CL (cw_Md G h0 q0 o0) H → va_D A (cw_Md G h0 q0 o0) → va_S A s.heap H locs → f_Md_row_128 Q n x2 x3 x4 x5 o0 → W p l e rm_Md_row s m args below meth c H locs 0 0 (MQ below (va_Qi (fun (r : Int32) (u : Ob) => Q r u) (fun (u : Ob) t => BW G A (cw_Md G h0 q0 u) t) A) args s 0 0 A) (F0 m 128 ls []) := by
  obtain ⟨hx, hb, hml, hown, hr, hts, hK, hA, hlocks, hE⟩ := id C
  intro n
  induction n with
  | zero => intro x2 x3 x4 x5 o0 ls H locs hl hP hD hS h; exact absurd h id
  | succ n ih =>
    intro x2 x3 x4 x5 o0 ls H locs hl hP hD hS h
    have hP : va_P G.1 CL [(h0, .inr (11, [.int (gI o0 0), .ref (q0 1), .ref (q0 2), .ref (q0 3), .ref (q0 4), .ref (q0 5), .ref (q0 6), .int (gI o0 7), .int (gI o0 8), .int (gI o0 9), .int (gI o0 10), .int (gI o0 11), .int (gI o0 12), .int (gI o0 13), .int (gI o0 14), .long (gL o0 15), .int (gI o0 16), .int (gI o0 17), .int (gI o0 18), .int (gI o0 19), .int (gI o0 20), .int (gI o0 21), .int (gI o0 22), .int (gI o0 23), .int (gI o0 24), .int (gI o0 25), .int (gI o0 26), .int (gI o0 27), .ref (q0 28), .long (gL o0 29), .int (gI o0 30), .ref (q0 31), .ref (q0 32), .ref (q0 33), .int (gI o0 34), .int (gI o0 35), .int (gI o0 36), .int (gI o0 37), .ref (q0 38), .ref (q0 39), .int (gI o0 40), .ref (q0 41), .ref (q0 42), .ref (q0 43), .ref (q0 44)])), kI G (q0 1) 6100 (gA o0 1), kI G (q0 2) 6100 (gA o0 2), kJ G (q0 3) 2016 (gB o0 3), kJ G (q0 4) 2016 (gB o0 4), kI G (q0 5) 300 (gA o0 5), kI G (q0 6) 400 (gA o0 6), kJ G (q0 28) 10 (gB o0 28), kI G (q0 31) 969 (gA o0 31), kI G (q0 32) 969 (gA o0 32), kI G (q0 33) 969 (gA o0 33), kI G (q0 38) 5 (gA o0 38), kI G (q0 39) 5120 (gA o0 39), kI G (q0 41) 5 (gA o0 41), kZ G (q0 42) 1024 (gA o0 42), kI G (q0 43) 8192 (gA o0 43), kI G (q0 44) 8192 (gA o0 44)] H := hP
    have hD : va_D A [(h0, .inr (11, [.int (gI o0 0), .ref (q0 1), .ref (q0 2), .ref (q0 3), .ref (q0 4), .ref (q0 5), .ref (q0 6), .int (gI o0 7), .int (gI o0 8), .int (gI o0 9), .int (gI o0 10), .int (gI o0 11), .int (gI o0 12), .int (gI o0 13), .int (gI o0 14), .long (gL o0 15), .int (gI o0 16), .int (gI o0 17), .int (gI o0 18), .int (gI o0 19), .int (gI o0 20), .int (gI o0 21), .int (gI o0 22), .int (gI o0 23), .int (gI o0 24), .int (gI o0 25), .int (gI o0 26), .int (gI o0 27), .ref (q0 28), .long (gL o0 29), .int (gI o0 30), .ref (q0 31), .ref (q0 32), .ref (q0 33), .int (gI o0 34), .int (gI o0 35), .int (gI o0 36), .int (gI o0 37), .ref (q0 38), .ref (q0 39), .int (gI o0 40), .ref (q0 41), .ref (q0 42), .ref (q0 43), .ref (q0 44)])), kI G (q0 1) 6100 (gA o0 1), kI G (q0 2) 6100 (gA o0 2), kJ G (q0 3) 2016 (gB o0 3), kJ G (q0 4) 2016 (gB o0 4), kI G (q0 5) 300 (gA o0 5), kI G (q0 6) 400 (gA o0 6), kJ G (q0 28) 10 (gB o0 28), kI G (q0 31) 969 (gA o0 31), kI G (q0 32) 969 (gA o0 32), kI G (q0 33) 969 (gA o0 33), kI G (q0 38) 5 (gA o0 38), kI G (q0 39) 5120 (gA o0 39), kI G (q0 41) 5 (gA o0 41), kZ G (q0 42) 1024 (gA o0 42), kI G (q0 43) 8192 (gA o0 43), kI G (q0 44) 8192 (gA o0 44)] := hD
    unfold f_Md_row_128 at h
    refine lv_iload hx hb d_Md_row_128 (lv_at hl 4 rfl) ?_
    refine lv_iload_n hx hb d_Md_row_130 rfl (lv_at hl 1 rfl) ?_
    refine lv_icmp_ge (tgt := 156) hx hb d_Md_row_131 (by decide) (fun c3 => ?_) (fun c3 => ?_)
    · have h := h.1 c3
      refine lv_aload_n hx hb d_Md_row_156 rfl (lv_at hl 0 rfl) ?_
      refine va_get (D := G.1) (ci := 11) (v := .ref (q0 39)) (C := R_Md) (T := T_Md) (N := 45) hx hb hts i_Md hown hK hP 0 rfl rfl 39 (by decide) (hts _ wf_Md_51) (fun _ h9 => h9) rfl d_Md_row_157 ?_
      refine lv_iconst (v := (5 : Int32)) hx hb d_Md_row_160 (by decide) ?_
      refine lv_iload hx hb d_Md_row_161 (lv_at hl 3 rfl) ?_
      refine lv_imul hx hb d_Md_row_163 ?_
      refine lv_iload_n hx hb d_Md_row_164 rfl (lv_at hl 2 rfl) ?_
      refine lv_iadd hx hb d_Md_row_165 ?_
      have g4 := h.1
      have h := h.2
      refine xa_iald hx hb hK hP 12 0 rfl rfl g4 (k := (((5 : Int32) * x4) + x3).toNatClampNeg) rfl d_Md_row_166 ?_
      refine lv_topi (fun y5 ey5 => ?_)
      have h := h y5 ey5
      have hP : va_P G.1 CL (cw_Md G h0 q0 o0) H := hP
      have hD : va_D A (cw_Md G h0 q0 o0) := hD
      exact W.iret (v := y5) hx hb hr (fun t ht hW => ⟨⟨y5, o0, rfl, h, by rw [ht]; exact hP, va_K.moved hW.alike hK, hD⟩, hS.F ht⟩) hS.2.2 d_Md_row_167
    · have h := h.2 c3
      refine lv_aload_n hx hb d_Md_row_134 rfl (lv_at hl 0 rfl) ?_
      refine va_get (D := G.1) (ci := 11) (v := .ref (q0 44)) (C := R_Md) (T := T_Md) (N := 45) hx hb hts i_Md hown hK hP 0 rfl rfl 44 (by decide) (hts _ wf_Md_64) (fun _ h9 => h9) rfl d_Md_row_135 ?_
      refine lv_sipush (v := (1024 : Int32)) hx hb d_Md_row_138 (by decide) ?_
      refine lv_iload hx hb d_Md_row_141 (lv_at hl 4 rfl) ?_
      refine lv_imul hx hb d_Md_row_143 ?_
      refine lv_iload hx hb d_Md_row_144 (lv_at hl 3 rfl) ?_
      refine lv_iadd hx hb d_Md_row_146 ?_
      have g6 := h.1
      have h := h.2
      refine xa_iald hx hb hK hP 16 0 rfl rfl g6 (k := (((1024 : Int32) * x5) + x4).toNatClampNeg) rfl d_Md_row_147 ?_
      refine lv_topi (fun y7 ey7 => ?_)
      have h := h y7 ey7
      refine lv_istore (lv' := [(4, .int y7), (0, .ref h0), (2, .int x2), (3, .int x3), (5, .int x5)]) hx hb d_Md_row_148 hl (by decide) rfl (fun ls hl => ?_)
      refine lv_iinc (v := (x5 + (1 : Int32))) (lv' := [(5, .int (x5 + (1 : Int32))), (4, .int y7), (0, .ref h0), (2, .int x2), (3, .int x3)]) hx hb d_Md_row_150 hl (k := 4) rfl rfl (by decide) rfl (fun ls hl => ?_)
      refine lv_goto (tgt := 128) hx hb d_Md_row_153 (by decide) ?_
      have hl := lv_sub (l' := [(0, .ref h0), (2, .int x2), (3, .int x3), (4, .int y7), (5, .int (x5 + (1 : Int32)))]) hl [2, 3, 4, 1, 0] rfl
      have hP : va_P G.1 CL (cw_Md G h0 q0 o0) H := hP
      have hD : va_D A (cw_Md G h0 q0 o0) := hD
      exact ih x2 x3 y7 (x5 + (1 : Int32)) o0 ls H locs hl hP hD hS h
set_option maxHeartbeats 4000000 in
set_option maxRecDepth 100000 in
theorem t_Md_row_47 {p : Program} {l : Launch} {e : Env} {s : State} {m : MethodId} {args : Array Value} {below : List Frame} {meth : Method} {c : Code} {A : Nat → Prop} {G : Gl} {h0 : Nat} {q0 : Nat → Nat} (Q : Int32 → Ob → Prop) (C : Cx p s m args meth c R_Md b_Md_row 6 (some .int) G A) :
    ∀ (n : Nat) (x2 : Int32) (x3 : Int32) (x4 : Int32) (x5 : Int32) (o0 : Ob) (ls : Array Slot) (H : Heap) (locs : List Loc), lv_has ls 6 [(0, .ref h0), (2, .int x2), (3, .int x3), (4, .int x4), (5, .int x5)] → va_P G.1 CL (cw_Md G h0 q0 o0) H → va_D A (cw_Md G h0 q0 o0) → va_S A s.heap H locs → f_Md_row_47 Q n x2 x3 x4 x5 o0 → W p l e rm_Md_row s m args below meth c H locs 0 0 (MQ below (va_Qi (fun (r : Int32) (u : Ob) => Q r u) (fun (u : Ob) t => BW G A (cw_Md G h0 q0 u) t) A) args s 0 0 A) (F0 m 47 ls []) := by
  obtain ⟨hx, hb, hml, hown, hr, hts, hK, hA, hlocks, hE⟩ := id C
  intro n
  induction n with
  | zero => intro x2 x3 x4 x5 o0 ls H locs hl hP hD hS h; exact absurd h id
  | succ n ih =>
    intro x2 x3 x4 x5 o0 ls H locs hl hP hD hS h
    have hP : va_P G.1 CL [(h0, .inr (11, [.int (gI o0 0), .ref (q0 1), .ref (q0 2), .ref (q0 3), .ref (q0 4), .ref (q0 5), .ref (q0 6), .int (gI o0 7), .int (gI o0 8), .int (gI o0 9), .int (gI o0 10), .int (gI o0 11), .int (gI o0 12), .int (gI o0 13), .int (gI o0 14), .long (gL o0 15), .int (gI o0 16), .int (gI o0 17), .int (gI o0 18), .int (gI o0 19), .int (gI o0 20), .int (gI o0 21), .int (gI o0 22), .int (gI o0 23), .int (gI o0 24), .int (gI o0 25), .int (gI o0 26), .int (gI o0 27), .ref (q0 28), .long (gL o0 29), .int (gI o0 30), .ref (q0 31), .ref (q0 32), .ref (q0 33), .int (gI o0 34), .int (gI o0 35), .int (gI o0 36), .int (gI o0 37), .ref (q0 38), .ref (q0 39), .int (gI o0 40), .ref (q0 41), .ref (q0 42), .ref (q0 43), .ref (q0 44)])), kI G (q0 1) 6100 (gA o0 1), kI G (q0 2) 6100 (gA o0 2), kJ G (q0 3) 2016 (gB o0 3), kJ G (q0 4) 2016 (gB o0 4), kI G (q0 5) 300 (gA o0 5), kI G (q0 6) 400 (gA o0 6), kJ G (q0 28) 10 (gB o0 28), kI G (q0 31) 969 (gA o0 31), kI G (q0 32) 969 (gA o0 32), kI G (q0 33) 969 (gA o0 33), kI G (q0 38) 5 (gA o0 38), kI G (q0 39) 5120 (gA o0 39), kI G (q0 41) 5 (gA o0 41), kZ G (q0 42) 1024 (gA o0 42), kI G (q0 43) 8192 (gA o0 43), kI G (q0 44) 8192 (gA o0 44)] H := hP
    have hD : va_D A [(h0, .inr (11, [.int (gI o0 0), .ref (q0 1), .ref (q0 2), .ref (q0 3), .ref (q0 4), .ref (q0 5), .ref (q0 6), .int (gI o0 7), .int (gI o0 8), .int (gI o0 9), .int (gI o0 10), .int (gI o0 11), .int (gI o0 12), .int (gI o0 13), .int (gI o0 14), .long (gL o0 15), .int (gI o0 16), .int (gI o0 17), .int (gI o0 18), .int (gI o0 19), .int (gI o0 20), .int (gI o0 21), .int (gI o0 22), .int (gI o0 23), .int (gI o0 24), .int (gI o0 25), .int (gI o0 26), .int (gI o0 27), .ref (q0 28), .long (gL o0 29), .int (gI o0 30), .ref (q0 31), .ref (q0 32), .ref (q0 33), .int (gI o0 34), .int (gI o0 35), .int (gI o0 36), .int (gI o0 37), .ref (q0 38), .ref (q0 39), .int (gI o0 40), .ref (q0 41), .ref (q0 42), .ref (q0 43), .ref (q0 44)])), kI G (q0 1) 6100 (gA o0 1), kI G (q0 2) 6100 (gA o0 2), kJ G (q0 3) 2016 (gB o0 3), kJ G (q0 4) 2016 (gB o0 4), kI G (q0 5) 300 (gA o0 5), kI G (q0 6) 400 (gA o0 6), kJ G (q0 28) 10 (gB o0 28), kI G (q0 31) 969 (gA o0 31), kI G (q0 32) 969 (gA o0 32), kI G (q0 33) 969 (gA o0 33), kI G (q0 38) 5 (gA o0 38), kI G (q0 39) 5120 (gA o0 39), kI G (q0 41) 5 (gA o0 41), kZ G (q0 42) 1024 (gA o0 42), kI G (q0 43) 8192 (gA o0 43), kI G (q0 44) 8192 (gA o0 44)] := hD
    unfold f_Md_row_47 at h
    refine lv_iload hx hb d_Md_row_47 (lv_at hl 4 rfl) ?_
    refine lv_aload_n hx hb d_Md_row_49 rfl (lv_at hl 0 rfl) ?_
    refine va_get (D := G.1) (ci := 11) (v := .int (gI o0 40)) (C := R_Md) (T := T_Md) (N := 45) hx hb hts i_Md hown hK hP 0 rfl rfl 40 (by decide) (hts _ wf_Md_273) (fun _ h9 => h9) rfl d_Md_row_50 ?_
    refine lv_icmp_ge (tgt := 98) hx hb d_Md_row_53 (by decide) (fun c8 => ?_) (fun c8 => ?_)
    · have h := h.1 c8
      refine lv_iload hx hb d_Md_row_98 (lv_at hl 3 rfl) ?_
      refine lv_if_lt (tgt := 108) hx hb d_Md_row_100 (by decide) (fun c9 => ?_) (fun c9 => ?_)
      · have h := h.1 c9
        have hl := lv_sub (l' := [(0, .ref h0), (4, .int x4)]) hl [0, 3] rfl
        have hP : va_P G.1 CL (cw_Md G h0 q0 o0) H := hP
        have hD : va_D A (cw_Md G h0 q0 o0) := hD
        exact t_Md_row_108 Q C x4 o0 ls _ locs hl hP hD hS h
      · have h := h.2 c9
        refine lv_iload_n hx hb d_Md_row_103 rfl (lv_at hl 1 rfl) ?_
        refine lv_iconst (v := (-1 : Int32)) hx hb d_Md_row_104 (by decide) ?_
        refine lv_icmp_ne (tgt := 125) hx hb d_Md_row_105 (by decide) (fun c10 => ?_) (fun c10 => ?_)
        · have h := h.2 c10
          refine lv_iconst (v := (0 : Int32)) hx hb d_Md_row_125 (by decide) ?_
          refine lv_istore (lv' := [(5, .int (0 : Int32)), (0, .ref h0), (2, .int x2), (3, .int x3), (4, .int x4)]) hx hb d_Md_row_126 hl (by decide) rfl (fun ls hl => ?_)
          have hl := lv_sub (l' := [(0, .ref h0), (2, .int x2), (3, .int x3), (4, .int x4), (5, .int (0 : Int32))]) hl [1, 2, 3, 4, 0] rfl
          have hP : va_P G.1 CL (cw_Md G h0 q0 o0) H := hP
          have hD : va_D A (cw_Md G h0 q0 o0) := hD
          obtain ⟨w, h⟩ := h
          exact t_Md_row_128 Q C w x2 x3 x4 (0 : Int32) o0 ls _ locs hl hP hD hS h
        · have h := h.1 c10
          have hl := lv_sub (l' := [(0, .ref h0), (4, .int x4)]) hl [0, 3] rfl
          have hP : va_P G.1 CL (cw_Md G h0 q0 o0) H := hP
          have hD : va_D A (cw_Md G h0 q0 o0) := hD
          exact t_Md_row_108 Q C x4 o0 ls _ locs hl hP hD hS h
    · have h := h.2 c8
      refine lv_aload_n hx hb d_Md_row_56 rfl (lv_at hl 0 rfl) ?_
      refine va_get (D := G.1) (ci := 11) (v := .ref (q0 43)) (C := R_Md) (T := T_Md) (N := 45) hx hb hts i_Md hown hK hP 0 rfl rfl 43 (by decide) (hts _ wf_Md_61) (fun _ h9 => h9) rfl d_Md_row_57 ?_
      refine lv_iload hx hb d_Md_row_60 (lv_at hl 4 rfl) ?_
      have g11 := h.1
      have h := h.2
      refine xa_iald hx hb hK hP 15 0 rfl rfl g11 (k := x5.toNatClampNeg) rfl d_Md_row_62 ?_
      refine lv_if_lt (tgt := 92) hx hb d_Md_row_63 (by decide) (fun c12 => ?_) (fun c12 => ?_)
      · have h := h.1 c12
        refine lv_iinc (v := (x5 + (1 : Int32))) (lv' := [(5, .int (x5 + (1 : Int32))), (0, .ref h0), (2, .int x2), (3, .int x3), (4, .int x4)]) hx hb d_Md_row_92 hl (k := 4) rfl rfl (by decide) rfl (fun ls hl => ?_)
        refine lv_goto (tgt := 47) hx hb d_Md_row_95 (by decide) ?_
        have hl := lv_sub (l' := [(0, .ref h0), (2, .int x2), (3, .int x3), (4, .int x4), (5, .int (x5 + (1 : Int32)))]) hl [1, 2, 3, 4, 0] rfl
        have hP : va_P G.1 CL (cw_Md G h0 q0 o0) H := hP
        have hD : va_D A (cw_Md G h0 q0 o0) := hD
        exact ih x2 x3 x4 (x5 + (1 : Int32)) o0 ls H locs hl hP hD hS h
      · have h := h.2 c12
        refine lv_iload hx hb d_Md_row_66 (lv_at hl 3 rfl) ?_
        refine lv_if_lt (tgt := 88) hx hb d_Md_row_68 (by decide) (fun c13 => ?_) (fun c13 => ?_)
        · have h := h.1 c13
          refine lv_iload hx hb d_Md_row_88 (lv_at hl 4 rfl) ?_
          refine lv_istore (lv' := [(4, .int x5), (0, .ref h0), (2, .int x2), (3, .int x3), (5, .int x5)]) hx hb d_Md_row_90 hl (by decide) rfl (fun ls hl => ?_)
          refine lv_iinc (v := (x5 + (1 : Int32))) (lv' := [(5, .int (x5 + (1 : Int32))), (4, .int x5), (0, .ref h0), (2, .int x2), (3, .int x3)]) hx hb d_Md_row_92 hl (k := 4) rfl rfl (by decide) rfl (fun ls hl => ?_)
          refine lv_goto (tgt := 47) hx hb d_Md_row_95 (by decide) ?_
          have hl := lv_sub (l' := [(0, .ref h0), (2, .int x2), (3, .int x3), (4, .int x5), (5, .int (x5 + (1 : Int32)))]) hl [2, 3, 4, 1, 0] rfl
          have hP : va_P G.1 CL (cw_Md G h0 q0 o0) H := hP
          have hD : va_D A (cw_Md G h0 q0 o0) := hD
          exact ih x2 x3 x5 (x5 + (1 : Int32)) o0 ls H locs hl hP hD hS h
        · have h := h.2 c13
          refine lv_aload_n hx hb d_Md_row_71 rfl (lv_at hl 0 rfl) ?_
          refine va_get (D := G.1) (ci := 11) (v := .ref (q0 43)) (C := R_Md) (T := T_Md) (N := 45) hx hb hts i_Md hown hK hP 0 rfl rfl 43 (by decide) (hts _ wf_Md_61) (fun _ h9 => h9) rfl d_Md_row_72 ?_
          refine lv_iload hx hb d_Md_row_75 (lv_at hl 4 rfl) ?_
          have g14 := h.1
          have h := h.2
          refine xa_iald hx hb hK hP 15 0 rfl rfl g14 (k := x5.toNatClampNeg) rfl d_Md_row_77 ?_
          refine lv_aload_n hx hb d_Md_row_78 rfl (lv_at hl 0 rfl) ?_
          refine va_get (D := G.1) (ci := 11) (v := .ref (q0 43)) (C := R_Md) (T := T_Md) (N := 45) hx hb hts i_Md hown hK hP 0 rfl rfl 43 (by decide) (hts _ wf_Md_61) (fun _ h9 => h9) rfl d_Md_row_79 ?_
          refine lv_iload hx hb d_Md_row_82 (lv_at hl 3 rfl) ?_
          have g15 := h.1
          have h := h.2
          refine xa_iald hx hb hK hP 15 0 rfl rfl g15 (k := x4.toNatClampNeg) rfl d_Md_row_84 ?_
          refine lv_icmp_ge (tgt := 92) hx hb d_Md_row_85 (by decide) (fun c16 => ?_) (fun c16 => ?_)
          · have h := h.1 c16
            refine lv_iinc (v := (x5 + (1 : Int32))) (lv' := [(5, .int (x5 + (1 : Int32))), (0, .ref h0), (2, .int x2), (3, .int x3), (4, .int x4)]) hx hb d_Md_row_92 hl (k := 4) rfl rfl (by decide) rfl (fun ls hl => ?_)
            refine lv_goto (tgt := 47) hx hb d_Md_row_95 (by decide) ?_
            have hl := lv_sub (l' := [(0, .ref h0), (2, .int x2), (3, .int x3), (4, .int x4), (5, .int (x5 + (1 : Int32)))]) hl [1, 2, 3, 4, 0] rfl
            have hP : va_P G.1 CL (cw_Md G h0 q0 o0) H := hP
            have hD : va_D A (cw_Md G h0 q0 o0) := hD
            exact ih x2 x3 x4 (x5 + (1 : Int32)) o0 ls H locs hl hP hD hS h
          · have h := h.2 c16
            refine lv_iload hx hb d_Md_row_88 (lv_at hl 4 rfl) ?_
            refine lv_istore (lv' := [(4, .int x5), (0, .ref h0), (2, .int x2), (3, .int x3), (5, .int x5)]) hx hb d_Md_row_90 hl (by decide) rfl (fun ls hl => ?_)
            refine lv_iinc (v := (x5 + (1 : Int32))) (lv' := [(5, .int (x5 + (1 : Int32))), (4, .int x5), (0, .ref h0), (2, .int x2), (3, .int x3)]) hx hb d_Md_row_92 hl (k := 4) rfl rfl (by decide) rfl (fun ls hl => ?_)
            refine lv_goto (tgt := 47) hx hb d_Md_row_95 (by decide) ?_
            have hl := lv_sub (l' := [(0, .ref h0), (2, .int x2), (3, .int x3), (4, .int x5), (5, .int (x5 + (1 : Int32)))]) hl [2, 3, 4, 1, 0] rfl
            have hP : va_P G.1 CL (cw_Md G h0 q0 o0) H := hP
            have hD : va_D A (cw_Md G h0 q0 o0) := hD
            exact ih x2 x3 x5 (x5 + (1 : Int32)) o0 ls H locs hl hP hD hS h
set_option maxHeartbeats 4000000 in
set_option maxRecDepth 100000 in
theorem t_Md_row_36 {p : Program} {l : Launch} {e : Env} {s : State} {m : MethodId} {args : Array Value} {below : List Frame} {meth : Method} {c : Code} {A : Nat → Prop} {G : Gl} {h0 : Nat} {q0 : Nat → Nat} (Q : Int32 → Ob → Prop) (C : Cx p s m args meth c R_Md b_Md_row 6 (some .int) G A) :
    ∀ (x1 : Int32) (x2 : Int32) (x3 : Int32) (o0 : Ob) (ls : Array Slot) (H : Heap) (locs : List Loc), lv_has ls 6 [(0, .ref h0), (1, .int x1), (2, .int x2), (3, .int x3)] → va_P G.1 CL (cw_Md G h0 q0 o0) H → va_D A (cw_Md G h0 q0 o0) → va_S A s.heap H locs → f_Md_row_36 Q x1 x2 x3 o0 → W p l e rm_Md_row s m args below meth c H locs 0 0 (MQ below (va_Qi (fun (r : Int32) (u : Ob) => Q r u) (fun (u : Ob) t => BW G A (cw_Md G h0 q0 u) t) A) args s 0 0 A) (F0 m 36 ls []) := by
  obtain ⟨hx, hb, hml, hown, hr, hts, hK, hA, hlocks, hE⟩ := id C
  intro x1 x2 x3 o0 ls H locs hl hP hD hS h
  have hP : va_P G.1 CL [(h0, .inr (11, [.int (gI o0 0), .ref (q0 1), .ref (q0 2), .ref (q0 3), .ref (q0 4), .ref (q0 5), .ref (q0 6), .int (gI o0 7), .int (gI o0 8), .int (gI o0 9), .int (gI o0 10), .int (gI o0 11), .int (gI o0 12), .int (gI o0 13), .int (gI o0 14), .long (gL o0 15), .int (gI o0 16), .int (gI o0 17), .int (gI o0 18), .int (gI o0 19), .int (gI o0 20), .int (gI o0 21), .int (gI o0 22), .int (gI o0 23), .int (gI o0 24), .int (gI o0 25), .int (gI o0 26), .int (gI o0 27), .ref (q0 28), .long (gL o0 29), .int (gI o0 30), .ref (q0 31), .ref (q0 32), .ref (q0 33), .int (gI o0 34), .int (gI o0 35), .int (gI o0 36), .int (gI o0 37), .ref (q0 38), .ref (q0 39), .int (gI o0 40), .ref (q0 41), .ref (q0 42), .ref (q0 43), .ref (q0 44)])), kI G (q0 1) 6100 (gA o0 1), kI G (q0 2) 6100 (gA o0 2), kJ G (q0 3) 2016 (gB o0 3), kJ G (q0 4) 2016 (gB o0 4), kI G (q0 5) 300 (gA o0 5), kI G (q0 6) 400 (gA o0 6), kJ G (q0 28) 10 (gB o0 28), kI G (q0 31) 969 (gA o0 31), kI G (q0 32) 969 (gA o0 32), kI G (q0 33) 969 (gA o0 33), kI G (q0 38) 5 (gA o0 38), kI G (q0 39) 5120 (gA o0 39), kI G (q0 41) 5 (gA o0 41), kZ G (q0 42) 1024 (gA o0 42), kI G (q0 43) 8192 (gA o0 43), kI G (q0 44) 8192 (gA o0 44)] H := hP
  have hD : va_D A [(h0, .inr (11, [.int (gI o0 0), .ref (q0 1), .ref (q0 2), .ref (q0 3), .ref (q0 4), .ref (q0 5), .ref (q0 6), .int (gI o0 7), .int (gI o0 8), .int (gI o0 9), .int (gI o0 10), .int (gI o0 11), .int (gI o0 12), .int (gI o0 13), .int (gI o0 14), .long (gL o0 15), .int (gI o0 16), .int (gI o0 17), .int (gI o0 18), .int (gI o0 19), .int (gI o0 20), .int (gI o0 21), .int (gI o0 22), .int (gI o0 23), .int (gI o0 24), .int (gI o0 25), .int (gI o0 26), .int (gI o0 27), .ref (q0 28), .long (gL o0 29), .int (gI o0 30), .ref (q0 31), .ref (q0 32), .ref (q0 33), .int (gI o0 34), .int (gI o0 35), .int (gI o0 36), .int (gI o0 37), .ref (q0 38), .ref (q0 39), .int (gI o0 40), .ref (q0 41), .ref (q0 42), .ref (q0 43), .ref (q0 44)])), kI G (q0 1) 6100 (gA o0 1), kI G (q0 2) 6100 (gA o0 2), kJ G (q0 3) 2016 (gB o0 3), kJ G (q0 4) 2016 (gB o0 4), kI G (q0 5) 300 (gA o0 5), kI G (q0 6) 400 (gA o0 6), kJ G (q0 28) 10 (gB o0 28), kI G (q0 31) 969 (gA o0 31), kI G (q0 32) 969 (gA o0 32), kI G (q0 33) 969 (gA o0 33), kI G (q0 38) 5 (gA o0 38), kI G (q0 39) 5120 (gA o0 39), kI G (q0 41) 5 (gA o0 41), kZ G (q0 42) 1024 (gA o0 42), kI G (q0 43) 8192 (gA o0 43), kI G (q0 44) 8192 (gA o0 44)] := hD
  unfold f_Md_row_36 at h
  refine lv_aload_n hx hb d_Md_row_36 rfl (lv_at hl 0 rfl) ?_
  refine lv_iload_n hx hb d_Md_row_37 rfl (lv_at hl 1 rfl) ?_
  refine cl_Vv (b := b_Md_row) (As := [.int x1]) (rest := []) (ws := [(h0, .inr (11, [.int (gI o0 0), .ref (q0 1), .ref (q0 2), .ref (q0 3), .ref (q0 4), .ref (q0 5), .ref (q0 6), .int (gI o0 7), .int (gI o0 8), .int (gI o0 9), .int (gI o0 10), .int (gI o0 11), .int (gI o0 12), .int (gI o0 13), .int (gI o0 14), .long (gL o0 15), .int (gI o0 16), .int (gI o0 17), .int (gI o0 18), .int (gI o0 19), .int (gI o0 20), .int (gI o0 21), .int (gI o0 22), .int (gI o0 23), .int (gI o0 24), .int (gI o0 25), .int (gI o0 26), .int (gI o0 27), .ref (q0 28), .long (gL o0 29), .int (gI o0 30), .ref (q0 31), .ref (q0 32), .ref (q0 33), .int (gI o0 34), .int (gI o0 35), .int (gI o0 36), .int (gI o0 37), .ref (q0 38), .ref (q0 39), .int (gI o0 40), .ref (q0 41), .ref (q0 42), .ref (q0 43), .ref (q0 44)])), kI G (q0 1) 6100 (gA o0 1), kI G (q0 2) 6100 (gA o0 2), kJ G (q0 3) 2016 (gB o0 3), kJ G (q0 4) 2016 (gB o0 4), kI G (q0 5) 300 (gA o0 5), kI G (q0 6) 400 (gA o0 6), kJ G (q0 28) 10 (gB o0 28), kI G (q0 31) 969 (gA o0 31), kI G (q0 32) 969 (gA o0 32), kI G (q0 33) 969 (gA o0 33), kI G (q0 38) 5 (gA o0 38), kI G (q0 39) 5120 (gA o0 39), kI G (q0 41) 5 (gA o0 41), kZ G (q0 42) 1024 (gA o0 42), kI G (q0 43) 8192 (gA o0 43), kI G (q0 44) 8192 (gA o0 44)]) (wr := []) (w2 := fun (u : Ob) => [(h0, .inr (11, [.int (gI u 0), .ref (q0 1), .ref (q0 2), .ref (q0 3), .ref (q0 4), .ref (q0 5), .ref (q0 6), .int (gI u 7), .int (gI u 8), .int (gI u 9), .int (gI u 10), .int (gI u 11), .int (gI u 12), .int (gI u 13), .int (gI u 14), .long (gL u 15), .int (gI u 16), .int (gI u 17), .int (gI u 18), .int (gI u 19), .int (gI u 20), .int (gI u 21), .int (gI u 22), .int (gI u 23), .int (gI u 24), .int (gI u 25), .int (gI u 26), .int (gI u 27), .ref (q0 28), .long (gL u 29), .int (gI u 30), .ref (q0 31), .ref (q0 32), .ref (q0 33), .int (gI u 34), .int (gI u 35), .int (gI u 36), .int (gI u 37), .ref (q0 38), .ref (q0 39), .int (gI u 40), .ref (q0 41), .ref (q0 42), .ref (q0 43), .ref (q0 44)])), kI G (q0 1) 6100 (gA u 1), kI G (q0 2) 6100 (gA u 2), kJ G (q0 3) 2016 (gB u 3), kJ G (q0 4) 2016 (gB u 4), kI G (q0 5) 300 (gA u 5), kI G (q0 6) 400 (gA u 6), kJ G (q0 28) 10 (gB u 28), kI G (q0 31) 969 (gA u 31), kI G (q0 32) 969 (gA u 32), kI G (q0 33) 969 (gA u 33), kI G (q0 38) 5 (gA u 38), kI G (q0 39) 5120 (gA u 39), kI G (q0 41) 5 (gA u 41), kZ G (q0 42) 1024 (gA u 42), kI G (q0 43) 8192 (gA u 43), kI G (q0 44) 8192 (gA u 44)]) C (c_Md_findRow (h0 := h0) (q0 := q0) H.size h) wv_Md_292 ⟨Nat.le_of_ble_eq_true rfl, Nat.le_of_ble_eq_true rfl⟩ hP hD hS 0 rfl rfl [0, 1, 2, 3, 4, 5, 6, 7, 8, 9, 10, 11, 12, 13, 14, 15, 16] [] rfl rfl (by decide) (by decide) (by decide) [0, 1, 2, 3, 4, 5, 6, 7, 8, 9, 10, 11, 12, 13, 14, 15, 16] (by decide) (fun u => rfl) rfl hl.1 rfl (lv_room (Nat.le_of_ble_eq_true rfl)) d_Md_row_38 ⟨Nat.le_of_ble_eq_true rfl, Nat.le_of_ble_eq_true rfl⟩ rfl rfl (fun u H locs h hP hD hS => ?_)
  generalize u = u17 at h hP hD
  have hP : va_P G.1 CL [(h0, .inr (11, [.int (gI u17 0), .ref (q0 1), .ref (q0 2), .ref (q0 3), .ref (q0 4), .ref (q0 5), .ref (q0 6), .int (gI u17 7), .int (gI u17 8), .int (gI u17 9), .int (gI u17 10), .int (gI u17 11), .int (gI u17 12), .int (gI u17 13), .int (gI u17 14), .long (gL u17 15), .int (gI u17 16), .int (gI u17 17), .int (gI u17 18), .int (gI u17 19), .int (gI u17 20), .int (gI u17 21), .int (gI u17 22), .int (gI u17 23), .int (gI u17 24), .int (gI u17 25), .int (gI u17 26), .int (gI u17 27), .ref (q0 28), .long (gL u17 29), .int (gI u17 30), .ref (q0 31), .ref (q0 32), .ref (q0 33), .int (gI u17 34), .int (gI u17 35), .int (gI u17 36), .int (gI u17 37), .ref (q0 38), .ref (q0 39), .int (gI u17 40), .ref (q0 41), .ref (q0 42), .ref (q0 43), .ref (q0 44)])), kI G (q0 1) 6100 (gA u17 1), kI G (q0 2) 6100 (gA u17 2), kJ G (q0 3) 2016 (gB u17 3), kJ G (q0 4) 2016 (gB u17 4), kI G (q0 5) 300 (gA u17 5), kI G (q0 6) 400 (gA u17 6), kJ G (q0 28) 10 (gB u17 28), kI G (q0 31) 969 (gA u17 31), kI G (q0 32) 969 (gA u17 32), kI G (q0 33) 969 (gA u17 33), kI G (q0 38) 5 (gA u17 38), kI G (q0 39) 5120 (gA u17 39), kI G (q0 41) 5 (gA u17 41), kZ G (q0 42) 1024 (gA u17 42), kI G (q0 43) 8192 (gA u17 43), kI G (q0 44) 8192 (gA u17 44)] H := hP
  have hD : va_D A [(h0, .inr (11, [.int (gI u17 0), .ref (q0 1), .ref (q0 2), .ref (q0 3), .ref (q0 4), .ref (q0 5), .ref (q0 6), .int (gI u17 7), .int (gI u17 8), .int (gI u17 9), .int (gI u17 10), .int (gI u17 11), .int (gI u17 12), .int (gI u17 13), .int (gI u17 14), .long (gL u17 15), .int (gI u17 16), .int (gI u17 17), .int (gI u17 18), .int (gI u17 19), .int (gI u17 20), .int (gI u17 21), .int (gI u17 22), .int (gI u17 23), .int (gI u17 24), .int (gI u17 25), .int (gI u17 26), .int (gI u17 27), .ref (q0 28), .long (gL u17 29), .int (gI u17 30), .ref (q0 31), .ref (q0 32), .ref (q0 33), .int (gI u17 34), .int (gI u17 35), .int (gI u17 36), .int (gI u17 37), .ref (q0 38), .ref (q0 39), .int (gI u17 40), .ref (q0 41), .ref (q0 42), .ref (q0 43), .ref (q0 44)])), kI G (q0 1) 6100 (gA u17 1), kI G (q0 2) 6100 (gA u17 2), kJ G (q0 3) 2016 (gB u17 3), kJ G (q0 4) 2016 (gB u17 4), kI G (q0 5) 300 (gA u17 5), kI G (q0 6) 400 (gA u17 6), kJ G (q0 28) 10 (gB u17 28), kI G (q0 31) 969 (gA u17 31), kI G (q0 32) 969 (gA u17 32), kI G (q0 33) 969 (gA u17 33), kI G (q0 38) 5 (gA u17 38), kI G (q0 39) 5120 (gA u17 39), kI G (q0 41) 5 (gA u17 41), kZ G (q0 42) 1024 (gA u17 42), kI G (q0 43) 8192 (gA u17 43), kI G (q0 44) 8192 (gA u17 44)] := hD
  refine lv_iconst (v := (-1 : Int32)) hx hb d_Md_row_41 (by decide) ?_
  refine lv_istore (lv' := [(4, .int (-1 : Int32)), (0, .ref h0), (1, .int x1), (2, .int x2), (3, .int x3)]) hx hb d_Md_row_42 hl (by decide) rfl (fun ls hl => ?_)
  refine lv_iconst (v := (0 : Int32)) hx hb d_Md_row_44 (by decide) ?_
  refine lv_istore (lv' := [(5, .int (0 : Int32)), (4, .int (-1 : Int32)), (0, .ref h0), (1, .int x1), (2, .int x2), (3, .int x3)]) hx hb d_Md_row_45 hl (by decide) rfl (fun ls hl => ?_)
  have hl := lv_sub (l' := [(0, .ref h0), (2, .int x2), (3, .int x3), (4, .int (-1 : Int32)), (5, .int (0 : Int32))]) hl [2, 4, 5, 1, 0] rfl
  have hP : va_P G.1 CL (cw_Md G h0 q0 u17) H := hP
  have hD : va_D A (cw_Md G h0 q0 u17) := hD
  obtain ⟨w, h⟩ := h
  exact t_Md_row_47 Q C w x2 x3 (-1 : Int32) (0 : Int32) u17 ls _ locs hl hP hD hS h
set_option maxHeartbeats 4000000 in
set_option maxRecDepth 100000 in
theorem c_Md_row {l : Launch} {G : Gl} {h0 : Nat} {q0 : Nat → Nat} {a0 : Int32} {a1 : Int32} {a2 : Int32} {o0 : Ob} {Q : Int32 → Ob → Prop} (sz : Nat) (h : f_Md_row a0 a1 a2 o0 Q) : Met l y_Md_row w_Md_row rm_Md_row (PcW G [.ref h0, .int a0, .int a1, .int a2] sz (cw_Md G h0 q0 o0)) (va_Qi (fun (r : Int32) (u : Ob) => Q r u) (fun (u : Ob) t => BW G (va_A (cw_Md G h0 q0 o0) sz) (cw_Md G h0 q0 u) t) (va_A (cw_Md G h0 q0 o0) sz)) 0 0 (va_A (cw_Md G h0 q0 o0) sz) := by
  refine Met.ofW (cc := b_Md_row) (maxL := 6) (ret := (some .int)) (by decide +kernel) rfl ?_
  intro p e s m args below meth c s₁ B hml hv
  obtain ⟨rfl, hsz, hP, hK, hD0, hE⟩ := hv
  have hx := B.exec
  have hb := B.bytes
  have hr := B.returns
  have hts0 := atoms_spec (ws := w_Md_row) B.pre
  have hts : ∀ w ∈ gw_tbl, w.before ([.ref h0, .int a0, .int a1, .int a2]).toArray s = true := fun w hw => hts0 w (List.mem_cons_of_mem _ hw)
  have hown : s.vm.findClass R_Md = some m.cls := findClass_of_methodNamed B.named
  have hlocks := B.notSynchronized
  subst hsz
  have hD := hD0.self (sz := s.heap.size)
  generalize hAe : va_A (cw_Md G h0 q0 o0) s.heap.size = A at hD hE ⊢
  have hA : ∀ q : Nat, s.heap.size ≤ q → A q := fun q h => by rw [← hAe]; exact Or.inr h
  have hS : va_S A s.heap s.heap [] := va_S.rf
  have C : Cx p s m ([.ref h0, .int a0, .int a1, .int a2]).toArray meth c R_Md b_Md_row 6 (some .int) G A := ⟨hx, hb, hml, hown, hr, hts, hK, hA, hlocks, hE⟩
  have hl := lv_entry ([.ref h0, .int a0, .int a1, .int a2]) (n := 6) (Nat.le_of_ble_eq_true rfl)
  rw [lg_entry_eq]
  generalize (lg_sl ([.ref h0, .int a0, .int a1, .int a2]) ++ List.replicate (6 - (lg_sl ([.ref h0, .int a0, .int a1, .int a2])).length) Slot.unset).toArray = ls at hl ⊢
  have hl : lv_has ls 6 [(0, .ref h0), (1, .int a0), (2, .int a1), (3, .int a2)] := hl
  have hD : va_D A [(h0, .inr (11, [.int (gI o0 0), .ref (q0 1), .ref (q0 2), .ref (q0 3), .ref (q0 4), .ref (q0 5), .ref (q0 6), .int (gI o0 7), .int (gI o0 8), .int (gI o0 9), .int (gI o0 10), .int (gI o0 11), .int (gI o0 12), .int (gI o0 13), .int (gI o0 14), .long (gL o0 15), .int (gI o0 16), .int (gI o0 17), .int (gI o0 18), .int (gI o0 19), .int (gI o0 20), .int (gI o0 21), .int (gI o0 22), .int (gI o0 23), .int (gI o0 24), .int (gI o0 25), .int (gI o0 26), .int (gI o0 27), .ref (q0 28), .long (gL o0 29), .int (gI o0 30), .ref (q0 31), .ref (q0 32), .ref (q0 33), .int (gI o0 34), .int (gI o0 35), .int (gI o0 36), .int (gI o0 37), .ref (q0 38), .ref (q0 39), .int (gI o0 40), .ref (q0 41), .ref (q0 42), .ref (q0 43), .ref (q0 44)])), kI G (q0 1) 6100 (gA o0 1), kI G (q0 2) 6100 (gA o0 2), kJ G (q0 3) 2016 (gB o0 3), kJ G (q0 4) 2016 (gB o0 4), kI G (q0 5) 300 (gA o0 5), kI G (q0 6) 400 (gA o0 6), kJ G (q0 28) 10 (gB o0 28), kI G (q0 31) 969 (gA o0 31), kI G (q0 32) 969 (gA o0 32), kI G (q0 33) 969 (gA o0 33), kI G (q0 38) 5 (gA o0 38), kI G (q0 39) 5120 (gA o0 39), kI G (q0 41) 5 (gA o0 41), kZ G (q0 42) 1024 (gA o0 42), kI G (q0 43) 8192 (gA o0 43), kI G (q0 44) 8192 (gA o0 44)] := hD
  unfold f_Md_row at h
  suffices key : ∀ (H : Heap) (locs : List Loc), va_P G.1 CL [(h0, .inr (11, [.int (gI o0 0), .ref (q0 1), .ref (q0 2), .ref (q0 3), .ref (q0 4), .ref (q0 5), .ref (q0 6), .int (gI o0 7), .int (gI o0 8), .int (gI o0 9), .int (gI o0 10), .int (gI o0 11), .int (gI o0 12), .int (gI o0 13), .int (gI o0 14), .long (gL o0 15), .int (gI o0 16), .int (gI o0 17), .int (gI o0 18), .int (gI o0 19), .int (gI o0 20), .int (gI o0 21), .int (gI o0 22), .int (gI o0 23), .int (gI o0 24), .int (gI o0 25), .int (gI o0 26), .int (gI o0 27), .ref (q0 28), .long (gL o0 29), .int (gI o0 30), .ref (q0 31), .ref (q0 32), .ref (q0 33), .int (gI o0 34), .int (gI o0 35), .int (gI o0 36), .int (gI o0 37), .ref (q0 38), .ref (q0 39), .int (gI o0 40), .ref (q0 41), .ref (q0 42), .ref (q0 43), .ref (q0 44)])), kI G (q0 1) 6100 (gA o0 1), kI G (q0 2) 6100 (gA o0 2), kJ G (q0 3) 2016 (gB o0 3), kJ G (q0 4) 2016 (gB o0 4), kI G (q0 5) 300 (gA o0 5), kI G (q0 6) 400 (gA o0 6), kJ G (q0 28) 10 (gB o0 28), kI G (q0 31) 969 (gA o0 31), kI G (q0 32) 969 (gA o0 32), kI G (q0 33) 969 (gA o0 33), kI G (q0 38) 5 (gA o0 38), kI G (q0 39) 5120 (gA o0 39), kI G (q0 41) 5 (gA o0 41), kZ G (q0 42) 1024 (gA o0 42), kI G (q0 43) 8192 (gA o0 43), kI G (q0 44) 8192 (gA o0 44)] H → va_S A s.heap H locs → W p l e rm_Md_row s m ([.ref h0, .int a0, .int a1, .int a2]).toArray below meth c H locs 0 0 (MQ below (va_Qi (fun (r : Int32) (u : Ob) => Q r u) (fun (u : Ob) t => BW G A (cw_Md G h0 q0 u) t) A) ([.ref h0, .int a0, .int a1, .int a2]).toArray s 0 0 A) (F0 m 0 ls []) from key s.heap [] hP hS
  intro H locs hP hS
  refine lv_iload_n hx hb d_Md_row_0 rfl (lv_at hl 1 rfl) ?_
  refine lv_iconst (v := (1 : Int32)) hx hb d_Md_row_1 (by decide) ?_
  refine lv_bipush (v := (8 : Int32)) hx hb d_Md_row_2 (by decide) ?_
  refine cl_Si (b := b_Md_row) (As := [.int a0, .int (1 : Int32), .int (8 : Int32)]) (rest := []) (ws := [(h0, .inr (11, [.int (gI o0 0), .ref (q0 1), .ref (q0 2), .ref (q0 3), .ref (q0 4), .ref (q0 5), .ref (q0 6), .int (gI o0 7), .int (gI o0 8), .int (gI o0 9), .int (gI o0 10), .int (gI o0 11), .int (gI o0 12), .int (gI o0 13), .int (gI o0 14), .long (gL o0 15), .int (gI o0 16), .int (gI o0 17), .int (gI o0 18), .int (gI o0 19), .int (gI o0 20), .int (gI o0 21), .int (gI o0 22), .int (gI o0 23), .int (gI o0 24), .int (gI o0 25), .int (gI o0 26), .int (gI o0 27), .ref (q0 28), .long (gL o0 29), .int (gI o0 30), .ref (q0 31), .ref (q0 32), .ref (q0 33), .int (gI o0 34), .int (gI o0 35), .int (gI o0 36), .int (gI o0 37), .ref (q0 38), .ref (q0 39), .int (gI o0 40), .ref (q0 41), .ref (q0 42), .ref (q0 43), .ref (q0 44)])), kI G (q0 1) 6100 (gA o0 1), kI G (q0 2) 6100 (gA o0 2), kJ G (q0 3) 2016 (gB o0 3), kJ G (q0 4) 2016 (gB o0 4), kI G (q0 5) 300 (gA o0 5), kI G (q0 6) 400 (gA o0 6), kJ G (q0 28) 10 (gB o0 28), kI G (q0 31) 969 (gA o0 31), kI G (q0 32) 969 (gA o0 32), kI G (q0 33) 969 (gA o0 33), kI G (q0 38) 5 (gA o0 38), kI G (q0 39) 5120 (gA o0 39), kI G (q0 41) 5 (gA o0 41), kZ G (q0 42) 1024 (gA o0 42), kI G (q0 43) 8192 (gA o0 43), kI G (q0 44) 8192 (gA o0 44)]) (wr := [(h0, .inr (11, [.int (gI o0 0), .ref (q0 1), .ref (q0 2), .ref (q0 3), .ref (q0 4), .ref (q0 5), .ref (q0 6), .int (gI o0 7), .int (gI o0 8), .int (gI o0 9), .int (gI o0 10), .int (gI o0 11), .int (gI o0 12), .int (gI o0 13), .int (gI o0 14), .long (gL o0 15), .int (gI o0 16), .int (gI o0 17), .int (gI o0 18), .int (gI o0 19), .int (gI o0 20), .int (gI o0 21), .int (gI o0 22), .int (gI o0 23), .int (gI o0 24), .int (gI o0 25), .int (gI o0 26), .int (gI o0 27), .ref (q0 28), .long (gL o0 29), .int (gI o0 30), .ref (q0 31), .ref (q0 32), .ref (q0 33), .int (gI o0 34), .int (gI o0 35), .int (gI o0 36), .int (gI o0 37), .ref (q0 38), .ref (q0 39), .int (gI o0 40), .ref (q0 41), .ref (q0 42), .ref (q0 43), .ref (q0 44)])), kI G (q0 1) 6100 (gA o0 1), kI G (q0 2) 6100 (gA o0 2), kJ G (q0 3) 2016 (gB o0 3), kJ G (q0 4) 2016 (gB o0 4), kI G (q0 5) 300 (gA o0 5), kI G (q0 6) 400 (gA o0 6), kJ G (q0 28) 10 (gB o0 28), kI G (q0 31) 969 (gA o0 31), kI G (q0 32) 969 (gA o0 32), kI G (q0 33) 969 (gA o0 33), kI G (q0 38) 5 (gA o0 38), kI G (q0 39) 5120 (gA o0 39), kI G (q0 41) 5 (gA o0 41), kZ G (q0 42) 1024 (gA o0 42), kI G (q0 43) 8192 (gA o0 43), kI G (q0 44) 8192 (gA o0 44)]) (w2 := fun (u : Unit) => [(h0, .inr (11, [.int (gI o0 0), .ref (q0 1), .ref (q0 2), .ref (q0 3), .ref (q0 4), .ref (q0 5), .ref (q0 6), .int (gI o0 7), .int (gI o0 8), .int (gI o0 9), .int (gI o0 10), .int (gI o0 11), .int (gI o0 12), .int (gI o0 13), .int (gI o0 14), .long (gL o0 15), .int (gI o0 16), .int (gI o0 17), .int (gI o0 18), .int (gI o0 19), .int (gI o0 20), .int (gI o0 21), .int (gI o0 22), .int (gI o0 23), .int (gI o0 24), .int (gI o0 25), .int (gI o0 26), .int (gI o0 27), .ref (q0 28), .long (gL o0 29), .int (gI o0 30), .ref (q0 31), .ref (q0 32), .ref (q0 33), .int (gI o0 34), .int (gI o0 35), .int (gI o0 36), .int (gI o0 37), .ref (q0 38), .ref (q0 39), .int (gI o0 40), .ref (q0 41), .ref (q0 42), .ref (q0 43), .ref (q0 44)])), kI G (q0 1) 6100 (gA o0 1), kI G (q0 2) 6100 (gA o0 2), kJ G (q0 3) 2016 (gB o0 3), kJ G (q0 4) 2016 (gB o0 4), kI G (q0 5) 300 (gA o0 5), kI G (q0 6) 400 (gA o0 6), kJ G (q0 28) 10 (gB o0 28), kI G (q0 31) 969 (gA o0 31), kI G (q0 32) 969 (gA o0 32), kI G (q0 33) 969 (gA o0 33), kI G (q0 38) 5 (gA o0 38), kI G (q0 39) 5120 (gA o0 39), kI G (q0 41) 5 (gA o0 41), kZ G (q0 42) 1024 (gA o0 42), kI G (q0 43) 8192 (gA o0 43), kI G (q0 44) 8192 (gA o0 44)]) C (c_Md_isIn H.size h) ws_Md_76 ⟨Nat.le_of_ble_eq_true rfl, Nat.le_of_ble_eq_true rfl⟩ hP hD hS [] [0, 1, 2, 3, 4, 5, 6, 7, 8, 9, 10, 11, 12, 13, 14, 15, 16] rfl rfl (by decide) (by decide) (by decide) [0, 1, 2, 3, 4, 5, 6, 7, 8, 9, 10, 11, 12, 13, 14, 15, 16] (by decide) (fun u => rfl) rfl hl.1 rfl (lv_room (Nat.le_of_ble_eq_true rfl)) d_Md_row_4 ⟨Nat.le_of_ble_eq_true rfl, Nat.le_of_ble_eq_true rfl⟩ rfl rfl (fun z18 u H locs h hP hD hS => ?_)
  have hP : va_P G.1 CL [(h0, .inr (11, [.int (gI o0 0), .ref (q0 1), .ref (q0 2), .ref (q0 3), .ref (q0 4), .ref (q0 5), .ref (q0 6), .int (gI o0 7), .int (gI o0 8), .int (gI o0 9), .int (gI o0 10), .int (gI o0 11), .int (gI o0 12), .int (gI o0 13), .int (gI o0 14), .long (gL o0 15), .int (gI o0 16), .int (gI o0 17), .int (gI o0 18), .int (gI o0 19), .int (gI o0 20), .int (gI o0 21), .int (gI o0 22), .int (gI o0 23), .int (gI o0 24), .int (gI o0 25), .int (gI o0 26), .int (gI o0 27), .ref (q0 28), .long (gL o0 29), .int (gI o0 30), .ref (q0 31), .ref (q0 32), .ref (q0 33), .int (gI o0 34), .int (gI o0 35), .int (gI o0 36), .int (gI o0 37), .ref (q0 38), .ref (q0 39), .int (gI o0 40), .ref (q0 41), .ref (q0 42), .ref (q0 43), .ref (q0 44)])), kI G (q0 1) 6100 (gA o0 1), kI G (q0 2) 6100 (gA o0 2), kJ G (q0 3) 2016 (gB o0 3), kJ G (q0 4) 2016 (gB o0 4), kI G (q0 5) 300 (gA o0 5), kI G (q0 6) 400 (gA o0 6), kJ G (q0 28) 10 (gB o0 28), kI G (q0 31) 969 (gA o0 31), kI G (q0 32) 969 (gA o0 32), kI G (q0 33) 969 (gA o0 33), kI G (q0 38) 5 (gA o0 38), kI G (q0 39) 5120 (gA o0 39), kI G (q0 41) 5 (gA o0 41), kZ G (q0 42) 1024 (gA o0 42), kI G (q0 43) 8192 (gA o0 43), kI G (q0 44) 8192 (gA o0 44)] H := hP
  have hD : va_D A [(h0, .inr (11, [.int (gI o0 0), .ref (q0 1), .ref (q0 2), .ref (q0 3), .ref (q0 4), .ref (q0 5), .ref (q0 6), .int (gI o0 7), .int (gI o0 8), .int (gI o0 9), .int (gI o0 10), .int (gI o0 11), .int (gI o0 12), .int (gI o0 13), .int (gI o0 14), .long (gL o0 15), .int (gI o0 16), .int (gI o0 17), .int (gI o0 18), .int (gI o0 19), .int (gI o0 20), .int (gI o0 21), .int (gI o0 22), .int (gI o0 23), .int (gI o0 24), .int (gI o0 25), .int (gI o0 26), .int (gI o0 27), .ref (q0 28), .long (gL o0 29), .int (gI o0 30), .ref (q0 31), .ref (q0 32), .ref (q0 33), .int (gI o0 34), .int (gI o0 35), .int (gI o0 36), .int (gI o0 37), .ref (q0 38), .ref (q0 39), .int (gI o0 40), .ref (q0 41), .ref (q0 42), .ref (q0 43), .ref (q0 44)])), kI G (q0 1) 6100 (gA o0 1), kI G (q0 2) 6100 (gA o0 2), kJ G (q0 3) 2016 (gB o0 3), kJ G (q0 4) 2016 (gB o0 4), kI G (q0 5) 300 (gA o0 5), kI G (q0 6) 400 (gA o0 6), kJ G (q0 28) 10 (gB o0 28), kI G (q0 31) 969 (gA o0 31), kI G (q0 32) 969 (gA o0 32), kI G (q0 33) 969 (gA o0 33), kI G (q0 38) 5 (gA o0 38), kI G (q0 39) 5120 (gA o0 39), kI G (q0 41) 5 (gA o0 41), kZ G (q0 42) 1024 (gA o0 42), kI G (q0 43) 8192 (gA o0 43), kI G (q0 44) 8192 (gA o0 44)] := hD
  refine lv_if_eq (tgt := 34) hx hb d_Md_row_7 (by decide) (fun c19 => ?_) (fun c19 => ?_)
  · have h := h.1 c19
    refine lv_iconst (v := (-1 : Int32)) hx hb d_Md_row_34 (by decide) ?_
    have hP : va_P G.1 CL (cw_Md G h0 q0 o0) H := hP
    have hD : va_D A (cw_Md G h0 q0 o0) := hD
    exact W.iret (v := (-1 : Int32)) hx hb hr (fun t ht hW => ⟨⟨(-1 : Int32), o0, rfl, h, by rw [ht]; exact hP, va_K.moved hW.alike hK, hD⟩, hS.F ht⟩) hS.2.2 d_Md_row_35
  · have h := h.2 c19
    refine lv_iload_n hx hb d_Md_row_10 rfl (lv_at hl 2 rfl) ?_
    refine lv_iconst (v := (-1 : Int32)) hx hb d_Md_row_11 (by decide) ?_
    refine lv_icmp_eq (tgt := 36) hx hb d_Md_row_12 (by decide) (fun c20 => ?_) (fun c20 => ?_)
    · have h := h.1 c20
      have hl := lv_sub (l' := [(0, .ref h0), (1, .int a0), (2, .int a1), (3, .int a2)]) hl [0, 1, 2, 3] rfl
      have hP : va_P G.1 CL (cw_Md G h0 q0 o0) H := hP
      have hD : va_D A (cw_Md G h0 q0 o0) := hD
      exact t_Md_row_36 Q C a0 a1 a2 o0 ls _ locs hl hP hD hS h
    · have h := h.2 c20
      refine lv_iload_n hx hb d_Md_row_15 rfl (lv_at hl 2 rfl) ?_
      refine lv_iconst (v := (0 : Int32)) hx hb d_Md_row_16 (by decide) ?_
      refine lv_iload_n hx hb d_Md_row_17 rfl (lv_at hl 1 rfl) ?_
      refine lv_iconst (v := (1 : Int32)) hx hb d_Md_row_18 (by decide) ?_
      refine lv_isub hx hb d_Md_row_19 ?_
      refine cl_Si (b := b_Md_row) (As := [.int a1, .int (0 : Int32), .int (a0 - (1 : Int32))]) (rest := []) (ws := [(h0, .inr (11, [.int (gI o0 0), .ref (q0 1), .ref (q0 2), .ref (q0 3), .ref (q0 4), .ref (q0 5), .ref (q0 6), .int (gI o0 7), .int (gI o0 8), .int (gI o0 9), .int (gI o0 10), .int (gI o0 11), .int (gI o0 12), .int (gI o0 13), .int (gI o0 14), .long (gL o0 15), .int (gI o0 16), .int (gI o0 17), .int (gI o0 18), .int (gI o0 19), .int (gI o0 20), .int (gI o0 21), .int (gI o0 22), .int (gI o0 23), .int (gI o0 24), .int (gI o0 25), .int (gI o0 26), .int (gI o0 27), .ref (q0 28), .long (gL o0 29), .int (gI o0 30), .ref (q0 31), .ref (q0 32), .ref (q0 33), .int (gI o0 34), .int (gI o0 35), .int (gI o0 36), .int (gI o0 37), .ref (q0 38), .ref (q0 39), .int (gI o0 40), .ref (q0 41), .ref (q0 42), .ref (q0 43), .ref (q0 44)])), kI G (q0 1) 6100 (gA o0 1), kI G (q0 2) 6100 (gA o0 2), kJ G (q0 3) 2016 (gB o0 3), kJ G (q0 4) 2016 (gB o0 4), kI G (q0 5) 300 (gA o0 5), kI G (q0 6) 400 (gA o0 6), kJ G (q0 28) 10 (gB o0 28), kI G (q0 31) 969 (gA o0 31), kI G (q0 32) 969 (gA o0 32), kI G (q0 33) 969 (gA o0 33), kI G (q0 38) 5 (gA o0 38), kI G (q0 39) 5120 (gA o0 39), kI G (q0 41) 5 (gA o0 41), kZ G (q0 42) 1024 (gA o0 42), kI G (q0 43) 8192 (gA o0 43), kI G (q0 44) 8192 (gA o0 44)]) (wr := [(h0, .inr (11, [.int (gI o0 0), .ref (q0 1), .ref (q0 2), .ref (q0 3), .ref (q0 4), .ref (q0 5), .ref (q0 6), .int (gI o0 7), .int (gI o0 8), .int (gI o0 9), .int (gI o0 10), .int (gI o0 11), .int (gI o0 12), .int (gI o0 13), .int (gI o0 14), .long (gL o0 15), .int (gI o0 16), .int (gI o0 17), .int (gI o0 18), .int (gI o0 19), .int (gI o0 20), .int (gI o0 21), .int (gI o0 22), .int (gI o0 23), .int (gI o0 24), .int (gI o0 25), .int (gI o0 26), .int (gI o0 27), .ref (q0 28), .long (gL o0 29), .int (gI o0 30), .ref (q0 31), .ref (q0 32), .ref (q0 33), .int (gI o0 34), .int (gI o0 35), .int (gI o0 36), .int (gI o0 37), .ref (q0 38), .ref (q0 39), .int (gI o0 40), .ref (q0 41), .ref (q0 42), .ref (q0 43), .ref (q0 44)])), kI G (q0 1) 6100 (gA o0 1), kI G (q0 2) 6100 (gA o0 2), kJ G (q0 3) 2016 (gB o0 3), kJ G (q0 4) 2016 (gB o0 4), kI G (q0 5) 300 (gA o0 5), kI G (q0 6) 400 (gA o0 6), kJ G (q0 28) 10 (gB o0 28), kI G (q0 31) 969 (gA o0 31), kI G (q0 32) 969 (gA o0 32), kI G (q0 33) 969 (gA o0 33), kI G (q0 38) 5 (gA o0 38), kI G (q0 39) 5120 (gA o0 39), kI G (q0 41) 5 (gA o0 41), kZ G (q0 42) 1024 (gA o0 42), kI G (q0 43) 8192 (gA o0 43), kI G (q0 44) 8192 (gA o0 44)]) (w2 := fun (u : Unit) => [(h0, .inr (11, [.int (gI o0 0), .ref (q0 1), .ref (q0 2), .ref (q0 3), .ref (q0 4), .ref (q0 5), .ref (q0 6), .int (gI o0 7), .int (gI o0 8), .int (gI o0 9), .int (gI o0 10), .int (gI o0 11), .int (gI o0 12), .int (gI o0 13), .int (gI o0 14), .long (gL o0 15), .int (gI o0 16), .int (gI o0 17), .int (gI o0 18), .int (gI o0 19), .int (gI o0 20), .int (gI o0 21), .int (gI o0 22), .int (gI o0 23), .int (gI o0 24), .int (gI o0 25), .int (gI o0 26), .int (gI o0 27), .ref (q0 28), .long (gL o0 29), .int (gI o0 30), .ref (q0 31), .ref (q0 32), .ref (q0 33), .int (gI o0 34), .int (gI o0 35), .int (gI o0 36), .int (gI o0 37), .ref (q0 38), .ref (q0 39), .int (gI o0 40), .ref (q0 41), .ref (q0 42), .ref (q0 43), .ref (q0 44)])), kI G (q0 1) 6100 (gA o0 1), kI G (q0 2) 6100 (gA o0 2), kJ G (q0 3) 2016 (gB o0 3), kJ G (q0 4) 2016 (gB o0 4), kI G (q0 5) 300 (gA o0 5), kI G (q0 6) 400 (gA o0 6), kJ G (q0 28) 10 (gB o0 28), kI G (q0 31) 969 (gA o0 31), kI G (q0 32) 969 (gA o0 32), kI G (q0 33) 969 (gA o0 33), kI G (q0 38) 5 (gA o0 38), kI G (q0 39) 5120 (gA o0 39), kI G (q0 41) 5 (gA o0 41), kZ G (q0 42) 1024 (gA o0 42), kI G (q0 43) 8192 (gA o0 43), kI G (q0 44) 8192 (gA o0 44)]) C (c_Md_isIn H.size h) ws_Md_76 ⟨Nat.le_of_ble_eq_true rfl, Nat.le_of_ble_eq_true rfl⟩ hP hD hS [] [0, 1, 2, 3, 4, 5, 6, 7, 8, 9, 10, 11, 12, 13, 14, 15, 16] rfl rfl (by decide) (by decide) (by decide) [0, 1, 2, 3, 4, 5, 6, 7, 8, 9, 10, 11, 12, 13, 14, 15, 16] (by decide) (fun u => rfl) rfl hl.1 rfl (lv_room (Nat.le_of_ble_eq_true rfl)) d_Md_row_20 ⟨Nat.le_of_ble_eq_true rfl, Nat.le_of_ble_eq_true rfl⟩ rfl rfl (fun z21 u H locs h hP hD hS => ?_)
      have hP : va_P G.1 CL [(h0, .inr (11, [.int (gI o0 0), .ref (q0 1), .ref (q0 2), .ref (q0 3), .ref (q0 4), .ref (q0 5), .ref (q0 6), .int (gI o0 7), .int (gI o0 8), .int (gI o0 9), .int (gI o0 10), .int (gI o0 11), .int (gI o0 12), .int (gI o0 13), .int (gI o0 14), .long (gL o0 15), .int (gI o0 16), .int (gI o0 17), .int (gI o0 18), .int (gI o0 19), .int (gI o0 20), .int (gI o0 21), .int (gI o0 22), .int (gI o0 23), .int (gI o0 24), .int (gI o0 25), .int (gI o0 26), .int (gI o0 27), .ref (q0 28), .long (gL o0 29), .int (gI o0 30), .ref (q0 31), .ref (q0 32), .ref (q0 33), .int (gI o0 34), .int (gI o0 35), .int (gI o0 36), .int (gI o0 37), .ref (q0 38), .ref (q0 39), .int (gI o0 40), .ref (q0 41), .ref (q0 42), .ref (q0 43), .ref (q0 44)])), kI G (q0 1) 6100 (gA o0 1), kI G (q0 2) 6100 (gA o0 2), kJ G (q0 3) 2016 (gB o0 3), kJ G (q0 4) 2016 (gB o0 4), kI G (q0 5) 300 (gA o0 5), kI G (q0 6) 400 (gA o0 6), kJ G (q0 28) 10 (gB o0 28), kI G (q0 31) 969 (gA o0 31), kI G (q0 32) 969 (gA o0 32), kI G (q0 33) 969 (gA o0 33), kI G (q0 38) 5 (gA o0 38), kI G (q0 39) 5120 (gA o0 39), kI G (q0 41) 5 (gA o0 41), kZ G (q0 42) 1024 (gA o0 42), kI G (q0 43) 8192 (gA o0 43), kI G (q0 44) 8192 (gA o0 44)] H := hP
      have hD : va_D A [(h0, .inr (11, [.int (gI o0 0), .ref (q0 1), .ref (q0 2), .ref (q0 3), .ref (q0 4), .ref (q0 5), .ref (q0 6), .int (gI o0 7), .int (gI o0 8), .int (gI o0 9), .int (gI o0 10), .int (gI o0 11), .int (gI o0 12), .int (gI o0 13), .int (gI o0 14), .long (gL o0 15), .int (gI o0 16), .int (gI o0 17), .int (gI o0 18), .int (gI o0 19), .int (gI o0 20), .int (gI o0 21), .int (gI o0 22), .int (gI o0 23), .int (gI o0 24), .int (gI o0 25), .int (gI o0 26), .int (gI o0 27), .ref (q0 28), .long (gL o0 29), .int (gI o0 30), .ref (q0 31), .ref (q0 32), .ref (q0 33), .int (gI o0 34), .int (gI o0 35), .int (gI o0 36), .int (gI o0 37), .ref (q0 38), .ref (q0 39), .int (gI o0 40), .ref (q0 41), .ref (q0 42), .ref (q0 43), .ref (q0 44)])), kI G (q0 1) 6100 (gA o0 1), kI G (q0 2) 6100 (gA o0 2), kJ G (q0 3) 2016 (gB o0 3), kJ G (q0 4) 2016 (gB o0 4), kI G (q0 5) 300 (gA o0 5), kI G (q0 6) 400 (gA o0 6), kJ G (q0 28) 10 (gB o0 28), kI G (q0 31) 969 (gA o0 31), kI G (q0 32) 969 (gA o0 32), kI G (q0 33) 969 (gA o0 33), kI G (q0 38) 5 (gA o0 38), kI G (q0 39) 5120 (gA o0 39), kI G (q0 41) 5 (gA o0 41), kZ G (q0 42) 1024 (gA o0 42), kI G (q0 43) 8192 (gA o0 43), kI G (q0 44) 8192 (gA o0 44)] := hD
      refine lv_if_eq (tgt := 34) hx hb d_Md_row_23 (by decide) (fun c22 => ?_) (fun c22 => ?_)
      · have h := h.1 c22
        refine lv_iconst (v := (-1 : Int32)) hx hb d_Md_row_34 (by decide) ?_
        have hP : va_P G.1 CL (cw_Md G h0 q0 o0) H := hP
        have hD : va_D A (cw_Md G h0 q0 o0) := hD
        exact W.iret (v := (-1 : Int32)) hx hb hr (fun t ht hW => ⟨⟨(-1 : Int32), o0, rfl, h, by rw [ht]; exact hP, va_K.moved hW.alike hK, hD⟩, hS.F ht⟩) hS.2.2 d_Md_row_35
      · have h := h.2 c22
        refine lv_aload_n hx hb d_Md_row_26 rfl (lv_at hl 0 rfl) ?_
        refine lv_iload_n hx hb d_Md_row_27 rfl (lv_at hl 3 rfl) ?_
        refine cl_Vi (b := b_Md_row) (As := [.int a2]) (rest := []) (ws := [(h0, .inr (11, [.int (gI o0 0), .ref (q0 1), .ref (q0 2), .ref (q0 3), .ref (q0 4), .ref (q0 5), .ref (q0 6), .int (gI o0 7), .int (gI o0 8), .int (gI o0 9), .int (gI o0 10), .int (gI o0 11), .int (gI o0 12), .int (gI o0 13), .int (gI o0 14), .long (gL o0 15), .int (gI o0 16), .int (gI o0 17), .int (gI o0 18), .int (gI o0 19), .int (gI o0 20), .int (gI o0 21), .int (gI o0 22), .int (gI o0 23), .int (gI o0 24), .int (gI o0 25), .int (gI o0 26), .int (gI o0 27), .ref (q0 28), .long (gL o0 29), .int (gI o0 30), .ref (q0 31), .ref (q0 32), .ref (q0 33), .int (gI o0 34), .int (gI o0 35), .int (gI o0 36), .int (gI o0 37), .ref (q0 38), .ref (q0 39), .int (gI o0 40), .ref (q0 41), .ref (q0 42), .ref (q0 43), .ref (q0 44)])), kI G (q0 1) 6100 (gA o0 1), kI G (q0 2) 6100 (gA o0 2), kJ G (q0 3) 2016 (gB o0 3), kJ G (q0 4) 2016 (gB o0 4), kI G (q0 5) 300 (gA o0 5), kI G (q0 6) 400 (gA o0 6), kJ G (q0 28) 10 (gB o0 28), kI G (q0 31) 969 (gA o0 31), kI G (q0 32) 969 (gA o0 32), kI G (q0 33) 969 (gA o0 33), kI G (q0 38) 5 (gA o0 38), kI G (q0 39) 5120 (gA o0 39), kI G (q0 41) 5 (gA o0 41), kZ G (q0 42) 1024 (gA o0 42), kI G (q0 43) 8192 (gA o0 43), kI G (q0 44) 8192 (gA o0 44)]) (wr := []) (w2 := fun (u : Unit) => [(h0, .inr (11, [.int (gI o0 0), .ref (q0 1), .ref (q0 2), .ref (q0 3), .ref (q0 4), .ref (q0 5), .ref (q0 6), .int (gI o0 7), .int (gI o0 8), .int (gI o0 9), .int (gI o0 10), .int (gI o0 11), .int (gI o0 12), .int (gI o0 13), .int (gI o0 14), .long (gL o0 15), .int (gI o0 16), .int (gI o0 17), .int (gI o0 18), .int (gI o0 19), .int (gI o0 20), .int (gI o0 21), .int (gI o0 22), .int (gI o0 23), .int (gI o0 24), .int (gI o0 25), .int (gI o0 26), .int (gI o0 27), .ref (q0 28), .long (gL o0 29), .int (gI o0 30), .ref (q0 31), .ref (q0 32), .ref (q0 33), .int (gI o0 34), .int (gI o0 35), .int (gI o0 36), .int (gI o0 37), .ref (q0 38), .ref (q0 39), .int (gI o0 40), .ref (q0 41), .ref (q0 42), .ref (q0 43), .ref (q0 44)])), kI G (q0 1) 6100 (gA o0 1), kI G (q0 2) 6100 (gA o0 2), kJ G (q0 3) 2016 (gB o0 3), kJ G (q0 4) 2016 (gB o0 4), kI G (q0 5) 300 (gA o0 5), kI G (q0 6) 400 (gA o0 6), kJ G (q0 28) 10 (gB o0 28), kI G (q0 31) 969 (gA o0 31), kI G (q0 32) 969 (gA o0 32), kI G (q0 33) 969 (gA o0 33), kI G (q0 38) 5 (gA o0 38), kI G (q0 39) 5120 (gA o0 39), kI G (q0 41) 5 (gA o0 41), kZ G (q0 42) 1024 (gA o0 42), kI G (q0 43) 8192 (gA o0 43), kI G (q0 44) 8192 (gA o0 44)]) C (c_Md_isPiece (h0 := h0) (q0 := q0) H.size h) wv_Md_169 ⟨Nat.le_of_ble_eq_true rfl, Nat.le_of_ble_eq_true rfl⟩ hP hD hS 0 rfl rfl [0, 1, 2, 3, 4, 5, 6, 7, 8, 9, 10, 11, 12, 13, 14, 15, 16] [] rfl rfl (by decide) (by decide) (by decide) [0, 1, 2, 3, 4, 5, 6, 7, 8, 9, 10, 11, 12, 13, 14, 15, 16] (by decide) (fun u => rfl) rfl hl.1 rfl (lv_room (Nat.le_of_ble_eq_true rfl)) d_Md_row_28 ⟨Nat.le_of_ble_eq_true rfl, Nat.le_of_ble_eq_true rfl⟩ rfl rfl (fun z23 u H locs h hP hD hS => ?_)
        have hP : va_P G.1 CL [(h0, .inr (11, [.int (gI o0 0), .ref (q0 1), .ref (q0 2), .ref (q0 3), .ref (q0 4), .ref (q0 5), .ref (q0 6), .int (gI o0 7), .int (gI o0 8), .int (gI o0 9), .int (gI o0 10), .int (gI o0 11), .int (gI o0 12), .int (gI o0 13), .int (gI o0 14), .long (gL o0 15), .int (gI o0 16), .int (gI o0 17), .int (gI o0 18), .int (gI o0 19), .int (gI o0 20), .int (gI o0 21), .int (gI o0 22), .int (gI o0 23), .int (gI o0 24), .int (gI o0 25), .int (gI o0 26), .int (gI o0 27), .ref (q0 28), .long (gL o0 29), .int (gI o0 30), .ref (q0 31), .ref (q0 32), .ref (q0 33), .int (gI o0 34), .int (gI o0 35), .int (gI o0 36), .int (gI o0 37), .ref (q0 38), .ref (q0 39), .int (gI o0 40), .ref (q0 41), .ref (q0 42), .ref (q0 43), .ref (q0 44)])), kI G (q0 1) 6100 (gA o0 1), kI G (q0 2) 6100 (gA o0 2), kJ G (q0 3) 2016 (gB o0 3), kJ G (q0 4) 2016 (gB o0 4), kI G (q0 5) 300 (gA o0 5), kI G (q0 6) 400 (gA o0 6), kJ G (q0 28) 10 (gB o0 28), kI G (q0 31) 969 (gA o0 31), kI G (q0 32) 969 (gA o0 32), kI G (q0 33) 969 (gA o0 33), kI G (q0 38) 5 (gA o0 38), kI G (q0 39) 5120 (gA o0 39), kI G (q0 41) 5 (gA o0 41), kZ G (q0 42) 1024 (gA o0 42), kI G (q0 43) 8192 (gA o0 43), kI G (q0 44) 8192 (gA o0 44)] H := hP
        have hD : va_D A [(h0, .inr (11, [.int (gI o0 0), .ref (q0 1), .ref (q0 2), .ref (q0 3), .ref (q0 4), .ref (q0 5), .ref (q0 6), .int (gI o0 7), .int (gI o0 8), .int (gI o0 9), .int (gI o0 10), .int (gI o0 11), .int (gI o0 12), .int (gI o0 13), .int (gI o0 14), .long (gL o0 15), .int (gI o0 16), .int (gI o0 17), .int (gI o0 18), .int (gI o0 19), .int (gI o0 20), .int (gI o0 21), .int (gI o0 22), .int (gI o0 23), .int (gI o0 24), .int (gI o0 25), .int (gI o0 26), .int (gI o0 27), .ref (q0 28), .long (gL o0 29), .int (gI o0 30), .ref (q0 31), .ref (q0 32), .ref (q0 33), .int (gI o0 34), .int (gI o0 35), .int (gI o0 36), .int (gI o0 37), .ref (q0 38), .ref (q0 39), .int (gI o0 40), .ref (q0 41), .ref (q0 42), .ref (q0 43), .ref (q0 44)])), kI G (q0 1) 6100 (gA o0 1), kI G (q0 2) 6100 (gA o0 2), kJ G (q0 3) 2016 (gB o0 3), kJ G (q0 4) 2016 (gB o0 4), kI G (q0 5) 300 (gA o0 5), kI G (q0 6) 400 (gA o0 6), kJ G (q0 28) 10 (gB o0 28), kI G (q0 31) 969 (gA o0 31), kI G (q0 32) 969 (gA o0 32), kI G (q0 33) 969 (gA o0 33), kI G (q0 38) 5 (gA o0 38), kI G (q0 39) 5120 (gA o0 39), kI G (q0 41) 5 (gA o0 41), kZ G (q0 42) 1024 (gA o0 42), kI G (q0 43) 8192 (gA o0 43), kI G (q0 44) 8192 (gA o0 44)] := hD
        refine lv_if_ne (tgt := 36) hx hb d_Md_row_31 (by decide) (fun c24 => ?_) (fun c24 => ?_)
        · have h := h.2 c24
          have hl := lv_sub (l' := [(0, .ref h0), (1, .int a0), (2, .int a1), (3, .int a2)]) hl [0, 1, 2, 3] rfl
          have hP : va_P G.1 CL (cw_Md G h0 q0 o0) H := hP
          have hD : va_D A (cw_Md G h0 q0 o0) := hD
          exact t_Md_row_36 Q C a0 a1 a2 o0 ls _ locs hl hP hD hS h
        · have h := h.1 c24
          refine lv_iconst (v := (-1 : Int32)) hx hb d_Md_row_34 (by decide) ?_
          have hP : va_P G.1 CL (cw_Md G h0 q0 o0) H := hP
          have hD : va_D A (cw_Md G h0 q0 o0) := hD
          exact W.iret (v := (-1 : Int32)) hx hb hr (fun t ht hW => ⟨⟨(-1 : Int32), o0, rfl, h, by rw [ht]; exact hP, va_K.moved hW.alike hK, hD⟩, hS.F ht⟩) hS.2.2 d_Md_row_35
abbrev b_Md_image : ByteArray := prog_14_method_65_code
def y_Md_image : MethodName := ⟨R_Md, "image", "()I"⟩
abbrev w_Md_image : List Cond := Cond.code y_Md_image b_Md_image 1 (some .int) :: gw_tbl
theorem d_Md_image_0 : decode b_Md_image 0 = .ok (.aload_n 0, 1) := by decide +kernel
theorem d_Md_image_1 : decode b_Md_image 1 = .ok (.invokevirtual 73, 3) := by decide +kernel
theorem d_Md_image_4 : decode b_Md_image 4 = .ok (.aload_n 0, 1) := by decide +kernel
theorem d_Md_image_5 : decode b_Md_image 5 = .ok (.getfield 7, 3) := by decide +kernel
theorem d_Md_image_8 : decode b_Md_image 8 = .ok (.iconst 0, 1) := by decide +kernel
theorem d_Md_image_9 : decode b_Md_image 9 = .ok (.iaload, 1) := by decide +kernel
theorem d_Md_image_10 : decode b_Md_image 10 = .ok (.ireturn, 1) := by decide +kernel
theorem wv_Md_73 : wV R_Md 73 y_Md_keep b_Md_keep 2 none 0 := ⟨⟨gw_tb (List.mem_of_getElem? (i := 967) (by decide +kernel)) rfl, gw_tb (List.mem_of_getElem? (i := 13) (by decide +kernel)) rfl, gw_tb (List.mem_of_getElem? (i := 970) (by decide +kernel)) rfl, by decide, by decide, by decide +kernel⟩, gw_tb (List.mem_of_getElem? (i := 969) (by decide +kernel)) rfl, gw_of (List.mem_append_left _ (List.mem_of_getElem? (i := 31) (by decide +kernel))) rfl⟩
def f_Md_image (o0 : Ob) (Q : Int32 → Ob → Prop) : Prop := f_Md_keep o0 (fun u1 => Q ((gA u1 1) 0) u1)
abbrev rm_Md_image : Room := { frames := 1, cells := 0, slots := 0, locals := 21 }
set_option maxHeartbeats 4000000 in
set_option maxRecDepth 100000 in
theorem c_Md_image {l : Launch} {G : Gl} {h0 : Nat} {q0 : Nat → Nat} {o0 : Ob} {Q : Int32 → Ob → Prop} (sz : Nat) (h : f_Md_image o0 Q) : Met l y_Md_image w_Md_image rm_Md_image (PcW G [.ref h0] sz (cw_Md G h0 q0 o0)) (va_Qi (fun (r : Int32) (u : Ob) => Q r u) (fun (u : Ob) t => BW G (va_A (cw_Md G h0 q0 o0) sz) (cw_Md G h0 q0 u) t) (va_A (cw_Md G h0 q0 o0) sz)) 0 0 (va_A (cw_Md G h0 q0 o0) sz) := by
  refine Met.ofW (cc := b_Md_image) (maxL := 1) (ret := (some .int)) (by decide +kernel) rfl ?_
  intro p e s m args below meth c s₁ B hml hv
  obtain ⟨rfl, hsz, hP, hK, hD0, hE⟩ := hv
  have hx := B.exec
  have hb := B.bytes
  have hr := B.returns
  have hts0 := atoms_spec (ws := w_Md_image) B.pre
  have hts : ∀ w ∈ gw_tbl, w.before ([.ref h0]).toArray s = true := fun w hw => hts0 w (List.mem_cons_of_mem _ hw)
  have hown : s.vm.findClass R_Md = some m.cls := findClass_of_methodNamed B.named
  have hlocks := B.notSynchronized
  subst hsz
  have hD := hD0.self (sz := s.heap.size)
  generalize hAe : va_A (cw_Md G h0 q0 o0) s.heap.size = A at hD hE ⊢
  have hA : ∀ q : Nat, s.heap.size ≤ q → A q := fun q h => by rw [← hAe]; exact Or.inr h
  have hS : va_S A s.heap s.heap [] := va_S.rf
  have C : Cx p s m ([.ref h0]).toArray meth c R_Md b_Md_image 1 (some .int) G A := ⟨hx, hb, hml, hown, hr, hts, hK, hA, hlocks, hE⟩
  have hl := lv_entry ([.ref h0]) (n := 1) (Nat.le_of_ble_eq_true rfl)
  rw [lg_entry_eq]
  generalize (lg_sl ([.ref h0]) ++ List.replicate (1 - (lg_sl ([.ref h0])).length) Slot.unset).toArray = ls at hl ⊢
  have hl : lv_has ls 1 [(0, .ref h0)] := hl
  have hD : va_D A [(h0, .inr (11, [.int (gI o0 0), .ref (q0 1), .ref (q0 2), .ref (q0 3), .ref (q0 4), .ref (q0 5), .ref (q0 6), .int (gI o0 7), .int (gI o0 8), .int (gI o0 9), .int (gI o0 10), .int (gI o0 11), .int (gI o0 12), .int (gI o0 13), .int (gI o0 14), .long (gL o0 15), .int (gI o0 16), .int (gI o0 17), .int (gI o0 18), .int (gI o0 19), .int (gI o0 20), .int (gI o0 21), .int (gI o0 22), .int (gI o0 23), .int (gI o0 24), .int (gI o0 25), .int (gI o0 26), .int (gI o0 27), .ref (q0 28), .long (gL o0 29), .int (gI o0 30), .ref (q0 31), .ref (q0 32), .ref (q0 33), .int (gI o0 34), .int (gI o0 35), .int (gI o0 36), .int (gI o0 37), .ref (q0 38), .ref (q0 39), .int (gI o0 40), .ref (q0 41), .ref (q0 42), .ref (q0 43), .ref (q0 44)])), kI G (q0 1) 6100 (gA o0 1), kI G (q0 2) 6100 (gA o0 2), kJ G (q0 3) 2016 (gB o0 3), kJ G (q0 4) 2016 (gB o0 4), kI G (q0 5) 300 (gA o0 5), kI G (q0 6) 400 (gA o0 6), kJ G (q0 28) 10 (gB o0 28), kI G (q0 31) 969 (gA o0 31), kI G (q0 32) 969 (gA o0 32), kI G (q0 33) 969 (gA o0 33), kI G (q0 38) 5 (gA o0 38), kI G (q0 39) 5120 (gA o0 39), kI G (q0 41) 5 (gA o0 41), kZ G (q0 42) 1024 (gA o0 42), kI G (q0 43) 8192 (gA o0 43), kI G (q0 44) 8192 (gA o0 44)] := hD
  unfold f_Md_image at h
  suffices key : ∀ (H : Heap) (locs : List Loc), va_P G.1 CL [(h0, .inr (11, [.int (gI o0 0), .ref (q0 1), .ref (q0 2), .ref (q0 3), .ref (q0 4), .ref (q0 5), .ref (q0 6), .int (gI o0 7), .int (gI o0 8), .int (gI o0 9), .int (gI o0 10), .int (gI o0 11), .int (gI o0 12), .int (gI o0 13), .int (gI o0 14), .long (gL o0 15), .int (gI o0 16), .int (gI o0 17), .int (gI o0 18), .int (gI o0 19), .int (gI o0 20), .int (gI o0 21), .int (gI o0 22), .int (gI o0 23), .int (gI o0 24), .int (gI o0 25), .int (gI o0 26), .int (gI o0 27), .ref (q0 28), .long (gL o0 29), .int (gI o0 30), .ref (q0 31), .ref (q0 32), .ref (q0 33), .int (gI o0 34), .int (gI o0 35), .int (gI o0 36), .int (gI o0 37), .ref (q0 38), .ref (q0 39), .int (gI o0 40), .ref (q0 41), .ref (q0 42), .ref (q0 43), .ref (q0 44)])), kI G (q0 1) 6100 (gA o0 1), kI G (q0 2) 6100 (gA o0 2), kJ G (q0 3) 2016 (gB o0 3), kJ G (q0 4) 2016 (gB o0 4), kI G (q0 5) 300 (gA o0 5), kI G (q0 6) 400 (gA o0 6), kJ G (q0 28) 10 (gB o0 28), kI G (q0 31) 969 (gA o0 31), kI G (q0 32) 969 (gA o0 32), kI G (q0 33) 969 (gA o0 33), kI G (q0 38) 5 (gA o0 38), kI G (q0 39) 5120 (gA o0 39), kI G (q0 41) 5 (gA o0 41), kZ G (q0 42) 1024 (gA o0 42), kI G (q0 43) 8192 (gA o0 43), kI G (q0 44) 8192 (gA o0 44)] H → va_S A s.heap H locs → W p l e rm_Md_image s m ([.ref h0]).toArray below meth c H locs 0 0 (MQ below (va_Qi (fun (r : Int32) (u : Ob) => Q r u) (fun (u : Ob) t => BW G A (cw_Md G h0 q0 u) t) A) ([.ref h0]).toArray s 0 0 A) (F0 m 0 ls []) from key s.heap [] hP hS
  intro H locs hP hS
  refine lv_aload_n hx hb d_Md_image_0 rfl (lv_at hl 0 rfl) ?_
  refine cl_Vv (b := b_Md_image) (As := []) (rest := []) (ws := [(h0, .inr (11, [.int (gI o0 0), .ref (q0 1), .ref (q0 2), .ref (q0 3), .ref (q0 4), .ref (q0 5), .ref (q0 6), .int (gI o0 7), .int (gI o0 8), .int (gI o0 9), .int (gI o0 10), .int (gI o0 11), .int (gI o0 12), .int (gI o0 13), .int (gI o0 14), .long (gL o0 15), .int (gI o0 16), .int (gI o0 17), .int (gI o0 18), .int (gI o0 19), .int (gI o0 20), .int (gI o0 21), .int (gI o0 22), .int (gI o0 23), .int (gI o0 24), .int (gI o0 25), .int (gI o0 26), .int (gI o0 27), .ref (q0 28), .long (gL o0 29), .int (gI o0 30), .ref (q0 31), .ref (q0 32), .ref (q0 33), .int (gI o0 34), .int (gI o0 35), .int (gI o0 36), .int (gI o0 37), .ref (q0 38), .ref (q0 39), .int (gI o0 40), .ref (q0 41), .ref (q0 42), .ref (q0 43), .ref (q0 44)])), kI G (q0 1) 6100 (gA o0 1), kI G (q0 2) 6100 (gA o0 2), kJ G (q0 3) 2016 (gB o0 3), kJ G (q0 4) 2016 (gB o0 4), kI G (q0 5) 300 (gA o0 5), kI G (q0 6) 400 (gA o0 6), kJ G (q0 28) 10 (gB o0 28), kI G (q0 31) 969 (gA o0 31), kI G (q0 32) 969 (gA o0 32), kI G (q0 33) 969 (gA o0 33), kI G (q0 38) 5 (gA o0 38), kI G (q0 39) 5120 (gA o0 39), kI G (q0 41) 5 (gA o0 41), kZ G (q0 42) 1024 (gA o0 42), kI G (q0 43) 8192 (gA o0 43), kI G (q0 44) 8192 (gA o0 44)]) (wr := []) (w2 := fun (u : Ob) => [(h0, .inr (11, [.int (gI u 0), .ref (q0 1), .ref (q0 2), .ref (q0 3), .ref (q0 4), .ref (q0 5), .ref (q0 6), .int (gI u 7), .int (gI u 8), .int (gI u 9), .int (gI u 10), .int (gI u 11), .int (gI u 12), .int (gI u 13), .int (gI u 14), .long (gL u 15), .int (gI u 16), .int (gI u 17), .int (gI u 18), .int (gI u 19), .int (gI u 20), .int (gI u 21), .int (gI u 22), .int (gI u 23), .int (gI u 24), .int (gI u 25), .int (gI u 26), .int (gI u 27), .ref (q0 28), .long (gL u 29), .int (gI u 30), .ref (q0 31), .ref (q0 32), .ref (q0 33), .int (gI u 34), .int (gI u 35), .int (gI u 36), .int (gI u 37), .ref (q0 38), .ref (q0 39), .int (gI u 40), .ref (q0 41), .ref (q0 42), .ref (q0 43), .ref (q0 44)])), kI G (q0 1) 6100 (gA u 1), kI G (q0 2) 6100 (gA u 2), kJ G (q0 3) 2016 (gB u 3), kJ G (q0 4) 2016 (gB u 4), kI G (q0 5) 300 (gA u 5), kI G (q0 6) 400 (gA u 6), kJ G (q0 28) 10 (gB u 28), kI G (q0 31) 969 (gA u 31), kI G (q0 32) 969 (gA u 32), kI G (q0 33) 969 (gA u 33), kI G (q0 38) 5 (gA u 38), kI G (q0 39) 5120 (gA u 39), kI G (q0 41) 5 (gA u 41), kZ G (q0 42) 1024 (gA u 42), kI G (q0 43) 8192 (gA u 43), kI G (q0 44) 8192 (gA u 44)]) C (c_Md_keep (h0 := h0) (q0 := q0) H.size h) wv_Md_73 ⟨Nat.le_of_ble_eq_true rfl, Nat.le_of_ble_eq_true rfl⟩ hP hD hS 0 rfl rfl [0, 1, 2, 3, 4, 5, 6, 7, 8, 9, 10, 11, 12, 13, 14, 15, 16] [] rfl rfl (by decide) (by decide) (by decide) [0, 1, 2, 3, 4, 5, 6, 7, 8, 9, 10, 11, 12, 13, 14, 15, 16] (by decide) (fun u => rfl) rfl hl.1 rfl (lv_room (Nat.le_of_ble_eq_true rfl)) d_Md_image_1 ⟨Nat.le_of_ble_eq_true rfl, Nat.le_of_ble_eq_true rfl⟩ rfl rfl (fun u H locs h hP hD hS => ?_)
  generalize u = u1 at h hP hD
  have hP : va_P G.1 CL [(h0, .inr (11, [.int (gI u1 0), .ref (q0 1), .ref (q0 2), .ref (q0 3), .ref (q0 4), .ref (q0 5), .ref (q0 6), .int (gI u1 7), .int (gI u1 8), .int (gI u1 9), .int (gI u1 10), .int (gI u1 11), .int (gI u1 12), .int (gI u1 13), .int (gI u1 14), .long (gL u1 15), .int (gI u1 16), .int (gI u1 17), .int (gI u1 18), .int (gI u1 19), .int (gI u1 20), .int (gI u1 21), .int (gI u1 22), .int (gI u1 23), .int (gI u1 24), .int (gI u1 25), .int (gI u1 26), .int (gI u1 27), .ref (q0 28), .long (gL u1 29), .int (gI u1 30), .ref (q0 31), .ref (q0 32), .ref (q0 33), .int (gI u1 34), .int (gI u1 35), .int (gI u1 36), .int (gI u1 37), .ref (q0 38), .ref (q0 39), .int (gI u1 40), .ref (q0 41), .ref (q0 42), .ref (q0 43), .ref (q0 44)])), kI G (q0 1) 6100 (gA u1 1), kI G (q0 2) 6100 (gA u1 2), kJ G (q0 3) 2016 (gB u1 3), kJ G (q0 4) 2016 (gB u1 4), kI G (q0 5) 300 (gA u1 5), kI G (q0 6) 400 (gA u1 6), kJ G (q0 28) 10 (gB u1 28), kI G (q0 31) 969 (gA u1 31), kI G (q0 32) 969 (gA u1 32), kI G (q0 33) 969 (gA u1 33), kI G (q0 38) 5 (gA u1 38), kI G (q0 39) 5120 (gA u1 39), kI G (q0 41) 5 (gA u1 41), kZ G (q0 42) 1024 (gA u1 42), kI G (q0 43) 8192 (gA u1 43), kI G (q0 44) 8192 (gA u1 44)] H := hP
  have hD : va_D A [(h0, .inr (11, [.int (gI u1 0), .ref (q0 1), .ref (q0 2), .ref (q0 3), .ref (q0 4), .ref (q0 5), .ref (q0 6), .int (gI u1 7), .int (gI u1 8), .int (gI u1 9), .int (gI u1 10), .int (gI u1 11), .int (gI u1 12), .int (gI u1 13), .int (gI u1 14), .long (gL u1 15), .int (gI u1 16), .int (gI u1 17), .int (gI u1 18), .int (gI u1 19), .int (gI u1 20), .int (gI u1 21), .int (gI u1 22), .int (gI u1 23), .int (gI u1 24), .int (gI u1 25), .int (gI u1 26), .int (gI u1 27), .ref (q0 28), .long (gL u1 29), .int (gI u1 30), .ref (q0 31), .ref (q0 32), .ref (q0 33), .int (gI u1 34), .int (gI u1 35), .int (gI u1 36), .int (gI u1 37), .ref (q0 38), .ref (q0 39), .int (gI u1 40), .ref (q0 41), .ref (q0 42), .ref (q0 43), .ref (q0 44)])), kI G (q0 1) 6100 (gA u1 1), kI G (q0 2) 6100 (gA u1 2), kJ G (q0 3) 2016 (gB u1 3), kJ G (q0 4) 2016 (gB u1 4), kI G (q0 5) 300 (gA u1 5), kI G (q0 6) 400 (gA u1 6), kJ G (q0 28) 10 (gB u1 28), kI G (q0 31) 969 (gA u1 31), kI G (q0 32) 969 (gA u1 32), kI G (q0 33) 969 (gA u1 33), kI G (q0 38) 5 (gA u1 38), kI G (q0 39) 5120 (gA u1 39), kI G (q0 41) 5 (gA u1 41), kZ G (q0 42) 1024 (gA u1 42), kI G (q0 43) 8192 (gA u1 43), kI G (q0 44) 8192 (gA u1 44)] := hD
  refine lv_aload_n hx hb d_Md_image_4 rfl (lv_at hl 0 rfl) ?_
  refine va_get (D := G.1) (ci := 11) (v := .ref (q0 1)) (C := R_Md) (T := T_Md) (N := 45) hx hb hts i_Md hown hK hP 0 rfl rfl 1 (by decide) (hts _ wf_Md_7) (fun _ h9 => h9) rfl d_Md_image_5 ?_
  refine lv_iconst (v := (0 : Int32)) hx hb d_Md_image_8 (by decide) ?_
  refine xa_iald hx hb hK hP 1 0 rfl rfl (vp_lit rfl) (k := 0) rfl d_Md_image_9 ?_
  have hP : va_P G.1 CL (cw_Md G h0 q0 u1) H := hP
  have hD : va_D A (cw_Md G h0 q0 u1) := hD
  exact W.iret (v := ((gA u1 1) 0)) hx hb hr (fun t ht hW => ⟨⟨((gA u1 1) 0), u1, rfl, h, by rw [ht]; exact hP, va_K.moved hW.alike hK, hD⟩, hS.F ht⟩) hS.2.2 d_Md_image_10
abbrev b_Md_back : ByteArray := prog_14_method_66_code
def y_Md_back : MethodName := ⟨R_Md, "back", "()I"⟩
abbrev w_Md_back : List Cond := Cond.code y_Md_back b_Md_back 2 (some .int) :: gw_tbl
theorem d_Md_back_0 : decode b_Md_back 0 = .ok (.iconst 0, 1) := by decide +kernel
theorem d_Md_back_1 : decode b_Md_back 1 = .ok (.istore_n 1, 1) := by decide +kernel
theorem d_Md_back_2 : decode b_Md_back 2 = .ok (.iload_n 1, 1) := by decide +kernel
theorem d_Md_back_3 : decode b_Md_back 3 = .ok (.sipush 6100, 3) := by decide +kernel
theorem d_Md_back_6 : decode b_Md_back 6 = .ok (.if_icmp .ge 21, 3) := by decide +kernel
theorem d_Md_back_9 : decode b_Md_back 9 = .ok (.aload_n 0, 1) := by decide +kernel
theorem d_Md_back_10 : decode b_Md_back 10 = .ok (.getfield 7, 3) := by decide +kernel
theorem d_Md_back_13 : decode b_Md_back 13 = .ok (.iload_n 1, 1) := by decide +kernel
theorem d_Md_back_14 : decode b_Md_back 14 = .ok (.aload_n 0, 1) := by decide +kernel
theorem d_Md_back_15 : decode b_Md_back 15 = .ok (.getfield 13, 3) := by decide +kernel
theorem d_Md_back_18 : decode b_Md_back 18 = .ok (.iload_n 1, 1) := by decide +kernel
theorem d_Md_back_19 : decode b_Md_back 19 = .ok (.iaload, 1) := by decide +kernel
theorem d_Md_back_20 : decode b_Md_back 20 = .ok (.iastore, 1) := by decide +kernel
theorem d_Md_back_21 : decode b_Md_back 21 = .ok (.iinc 1 1, 3) := by decide +kernel
theorem d_Md_back_24 : decode b_Md_back 24 = .ok (.goto (-22), 3) := by decide +kernel
theorem d_Md_back_27 : decode b_Md_back 27 = .ok (.iconst 0, 1) := by decide +kernel
theorem d_Md_back_28 : decode b_Md_back 28 = .ok (.istore_n 1, 1) := by decide +kernel
theorem d_Md_back_29 : decode b_Md_back 29 = .ok (.iload_n 1, 1) := by decide +kernel
theorem d_Md_back_30 : decode b_Md_back 30 = .ok (.sipush 2016, 3) := by decide +kernel
theorem d_Md_back_33 : decode b_Md_back 33 = .ok (.if_icmp .ge 21, 3) := by decide +kernel
theorem d_Md_back_36 : decode b_Md_back 36 = .ok (.aload_n 0, 1) := by decide +kernel
theorem d_Md_back_37 : decode b_Md_back 37 = .ok (.getfield 16, 3) := by decide +kernel
theorem d_Md_back_40 : decode b_Md_back 40 = .ok (.iload_n 1, 1) := by decide +kernel
theorem d_Md_back_41 : decode b_Md_back 41 = .ok (.aload_n 0, 1) := by decide +kernel
theorem d_Md_back_42 : decode b_Md_back 42 = .ok (.getfield 20, 3) := by decide +kernel
theorem d_Md_back_45 : decode b_Md_back 45 = .ok (.iload_n 1, 1) := by decide +kernel
theorem d_Md_back_46 : decode b_Md_back 46 = .ok (.laload, 1) := by decide +kernel
theorem d_Md_back_47 : decode b_Md_back 47 = .ok (.lastore, 1) := by decide +kernel
theorem d_Md_back_48 : decode b_Md_back 48 = .ok (.iinc 1 1, 3) := by decide +kernel
theorem d_Md_back_51 : decode b_Md_back 51 = .ok (.goto (-22), 3) := by decide +kernel
theorem d_Md_back_54 : decode b_Md_back 54 = .ok (.aload_n 0, 1) := by decide +kernel
theorem d_Md_back_55 : decode b_Md_back 55 = .ok (.getfield 7, 3) := by decide +kernel
theorem d_Md_back_58 : decode b_Md_back 58 = .ok (.iconst 0, 1) := by decide +kernel
theorem d_Md_back_59 : decode b_Md_back 59 = .ok (.iaload, 1) := by decide +kernel
theorem d_Md_back_60 : decode b_Md_back 60 = .ok (.ireturn, 1) := by decide +kernel
def f_Md_back_29 (Q : Int32 → Ob → Prop) : Nat → Int32 → Ob → Prop
  | 0, _, _ => False
  | n + 1, x1, o0 => ((2016 : Int32) ≤ x1 → (Q ((gA o0 1) 0) o0)) ∧ (¬ (2016 : Int32) ≤ x1 → ((vp_in x1 2016) ∧ ((vp_in x1 2016) ∧ ((f_Md_back_29 Q n) (x1 + (1 : Int32)) (sB o0 3 (vp_updL (gB o0 3) x1.toNatClampNeg ((gB o0 4) x1.toNatClampNeg)))))))
def f_Md_back_2 (Q : Int32 → Ob → Prop) : Nat → Int32 → Ob → Prop
  | 0, _, _ => False
  | n + 1, x1, o0 => ((6100 : Int32) ≤ x1 → ((∃ w, f_Md_back_29 Q w (0 : Int32) o0))) ∧ (¬ (6100 : Int32) ≤ x1 → ((vp_in x1 6100) ∧ ((vp_in x1 6100) ∧ ((f_Md_back_2 Q n) (x1 + (1 : Int32)) (sA o0 1 (upd (gA o0 1) x1.toNatClampNeg ((gA o0 2) x1.toNatClampNeg)))))))
def f_Md_back (o0 : Ob) (Q : Int32 → Ob → Prop) : Prop := (∃ w, f_Md_back_2 Q w (0 : Int32) o0)
abbrev rm_Md_back : Room := { frames := 0, cells := 0, slots := 0, locals := 0 }
set_option maxHeartbeats 4000000 in
set_option maxRecDepth 100000 in
theorem t_Md_back_29 {p : Program} {l : Launch} {e : Env} {s : State} {m : MethodId} {args : Array Value} {below : List Frame} {meth : Method} {c : Code} {A : Nat → Prop} {G : Gl} {h0 : Nat} {q0 : Nat → Nat} (Q : Int32 → Ob → Prop) (C : Cx p s m args meth c R_Md b_Md_back 2 (some .int) G A) :
    ∀ (n : Nat) (x1 : Int32) (o0 : Ob) (ls : Array Slot) (H : Heap) (locs : List Loc), lv_has ls 2 [(0, .ref h0), (1, .int x1)] → va_P G.1 CL (cw_Md G h0 q0 o0) H → va_D A (cw_Md G h0 q0 o0) → va_S A s.heap H locs → f_Md_back_29 Q n x1 o0 → W p l e rm_Md_back s m args below meth c H locs 0 0 (MQ below (va_Qi (fun (r : Int32) (u : Ob) => Q r u) (fun (u : Ob) t => BW G A (cw_Md G h0 q0 u) t) A) args s 0 0 A) (F0 m 29 ls []) := by
  obtain ⟨hx, hb, hml, hown, hr, hts, hK, hA, hlocks, hE⟩ := id C
  intro n
  induction n with
  | zero => intro x1 o0 ls H locs hl hP hD hS h; exact absurd h id
  | succ n ih =>
    intro x1 o0 ls H locs hl hP hD hS h
    have hP : va_P G.1 CL [(h0, .inr (11, [.int (gI o0 0), .ref (q0 1), .ref (q0 2), .ref (q0 3), .ref (q0 4), .ref (q0 5), .ref (q0 6), .int (gI o0 7), .int (gI o0 8), .int (gI o0 9), .int (gI o0 10), .int (gI o0 11), .int (gI o0 12), .int (gI o0 13), .int (gI o0 14), .long (gL o0 15), .int (gI o0 16), .int (gI o0 17), .int (gI o0 18), .int (gI o0 19), .int (gI o0 20), .int (gI o0 21), .int (gI o0 22), .int (gI o0 23), .int (gI o0 24), .int (gI o0 25), .int (gI o0 26), .int (gI o0 27), .ref (q0 28), .long (gL o0 29), .int (gI o0 30), .ref (q0 31), .ref (q0 32), .ref (q0 33), .int (gI o0 34), .int (gI o0 35), .int (gI o0 36), .int (gI o0 37), .ref (q0 38), .ref (q0 39), .int (gI o0 40), .ref (q0 41), .ref (q0 42), .ref (q0 43), .ref (q0 44)])), kI G (q0 1) 6100 (gA o0 1), kI G (q0 2) 6100 (gA o0 2), kJ G (q0 3) 2016 (gB o0 3), kJ G (q0 4) 2016 (gB o0 4), kI G (q0 5) 300 (gA o0 5), kI G (q0 6) 400 (gA o0 6), kJ G (q0 28) 10 (gB o0 28), kI G (q0 31) 969 (gA o0 31), kI G (q0 32) 969 (gA o0 32), kI G (q0 33) 969 (gA o0 33), kI G (q0 38) 5 (gA o0 38), kI G (q0 39) 5120 (gA o0 39), kI G (q0 41) 5 (gA o0 41), kZ G (q0 42) 1024 (gA o0 42), kI G (q0 43) 8192 (gA o0 43), kI G (q0 44) 8192 (gA o0 44)] H := hP
    have hD : va_D A [(h0, .inr (11, [.int (gI o0 0), .ref (q0 1), .ref (q0 2), .ref (q0 3), .ref (q0 4), .ref (q0 5), .ref (q0 6), .int (gI o0 7), .int (gI o0 8), .int (gI o0 9), .int (gI o0 10), .int (gI o0 11), .int (gI o0 12), .int (gI o0 13), .int (gI o0 14), .long (gL o0 15), .int (gI o0 16), .int (gI o0 17), .int (gI o0 18), .int (gI o0 19), .int (gI o0 20), .int (gI o0 21), .int (gI o0 22), .int (gI o0 23), .int (gI o0 24), .int (gI o0 25), .int (gI o0 26), .int (gI o0 27), .ref (q0 28), .long (gL o0 29), .int (gI o0 30), .ref (q0 31), .ref (q0 32), .ref (q0 33), .int (gI o0 34), .int (gI o0 35), .int (gI o0 36), .int (gI o0 37), .ref (q0 38), .ref (q0 39), .int (gI o0 40), .ref (q0 41), .ref (q0 42), .ref (q0 43), .ref (q0 44)])), kI G (q0 1) 6100 (gA o0 1), kI G (q0 2) 6100 (gA o0 2), kJ G (q0 3) 2016 (gB o0 3), kJ G (q0 4) 2016 (gB o0 4), kI G (q0 5) 300 (gA o0 5), kI G (q0 6) 400 (gA o0 6), kJ G (q0 28) 10 (gB o0 28), kI G (q0 31) 969 (gA o0 31), kI G (q0 32) 969 (gA o0 32), kI G (q0 33) 969 (gA o0 33), kI G (q0 38) 5 (gA o0 38), kI G (q0 39) 5120 (gA o0 39), kI G (q0 41) 5 (gA o0 41), kZ G (q0 42) 1024 (gA o0 42), kI G (q0 43) 8192 (gA o0 43), kI G (q0 44) 8192 (gA o0 44)] := hD
    unfold f_Md_back_29 at h
    refine lv_iload_n hx hb d_Md_back_29 rfl (lv_at hl 1 rfl) ?_
    refine lv_sipush (v := (2016 : Int32)) hx hb d_Md_back_30 (by decide) ?_
    refine lv_icmp_ge (tgt := 54) hx hb d_Md_back_33 (by decide) (fun c1 => ?_) (fun c1 => ?_)
    · have h := h.1 c1
      refine lv_aload_n hx hb d_Md_back_54 rfl (lv_at hl 0 rfl) ?_
      refine va_get (D := G.1) (ci := 11) (v := .ref (q0 1)) (C := R_Md) (T := T_Md) (N := 45) hx hb hts i_Md hown hK hP 0 rfl rfl 1 (by decide) (hts _ wf_Md_7) (fun _ h9 => h9) rfl d_Md_back_55 ?_
      refine lv_iconst (v := (0 : Int32)) hx hb d_Md_back_58 (by decide) ?_
      refine xa_iald hx hb hK hP 1 0 rfl rfl (vp_lit rfl) (k := 0) rfl d_Md_back_59 ?_
      have hP : va_P G.1 CL (cw_Md G h0 q0 o0) H := hP
      have hD : va_D A (cw_Md G h0 q0 o0) := hD
      exact W.iret (v := ((gA o0 1) 0)) hx hb hr (fun t ht hW => ⟨⟨((gA o0 1) 0), o0, rfl, h, by rw [ht]; exact hP, va_K.moved hW.alike hK, hD⟩, hS.F ht⟩) hS.2.2 d_Md_back_60
    · have h := h.2 c1
      refine lv_aload_n hx hb d_Md_back_36 rfl (lv_at hl 0 rfl) ?_
      refine va_get (D := G.1) (ci := 11) (v := .ref (q0 3)) (C := R_Md) (T := T_Md) (N := 45) hx hb hts i_Md hown hK hP 0 rfl rfl 3 (by decide) (hts _ wf_Md_16) (fun _ h9 => h9) rfl d_Md_back_37 ?_
      refine lv_iload_n hx hb d_Md_back_40 rfl (lv_at hl 1 rfl) ?_
      refine lv_aload_n hx hb d_Md_back_41 rfl (lv_at hl 0 rfl) ?_
      refine va_get (D := G.1) (ci := 11) (v := .ref (q0 4)) (C := R_Md) (T := T_Md) (N := 45) hx hb hts i_Md hown hK hP 0 rfl rfl 4 (by decide) (hts _ wf_Md_20) (fun _ h9 => h9) rfl d_Md_back_42 ?_
      refine lv_iload_n hx hb d_Md_back_45 rfl (lv_at hl 1 rfl) ?_
      have g2 := h.1
      have h := h.2
      refine xa_lald hx hb hK hP 4 1 rfl rfl g2 (k := x1.toNatClampNeg) rfl d_Md_back_46 ?_
      have g3 := h.1
      have h := h.2
      refine xa_last hx hb hK hP hD hS 3 1 rfl rfl g3 (k := x1.toNatClampNeg) rfl d_Md_back_47 (fun H locs hP hD hS => ?_)
      have hP : va_P G.1 CL [(h0, .inr (11, [.int (gI o0 0), .ref (q0 1), .ref (q0 2), .ref (q0 3), .ref (q0 4), .ref (q0 5), .ref (q0 6), .int (gI o0 7), .int (gI o0 8), .int (gI o0 9), .int (gI o0 10), .int (gI o0 11), .int (gI o0 12), .int (gI o0 13), .int (gI o0 14), .long (gL o0 15), .int (gI o0 16), .int (gI o0 17), .int (gI o0 18), .int (gI o0 19), .int (gI o0 20), .int (gI o0 21), .int (gI o0 22), .int (gI o0 23), .int (gI o0 24), .int (gI o0 25), .int (gI o0 26), .int (gI o0 27), .ref (q0 28), .long (gL o0 29), .int (gI o0 30), .ref (q0 31), .ref (q0 32), .ref (q0 33), .int (gI o0 34), .int (gI o0 35), .int (gI o0 36), .int (gI o0 37), .ref (q0 38), .ref (q0 39), .int (gI o0 40), .ref (q0 41), .ref (q0 42), .ref (q0 43), .ref (q0 44)])), kI G (q0 1) 6100 (gA o0 1), kI G (q0 2) 6100 (gA o0 2), kJ G (q0 3) 2016 (vp_updL (gB o0 3) x1.toNatClampNeg ((gB o0 4) x1.toNatClampNeg)), kJ G (q0 4) 2016 (gB o0 4), kI G (q0 5) 300 (gA o0 5), kI G (q0 6) 400 (gA o0 6), kJ G (q0 28) 10 (gB o0 28), kI G (q0 31) 969 (gA o0 31), kI G (q0 32) 969 (gA o0 32), kI G (q0 33) 969 (gA o0 33), kI G (q0 38) 5 (gA o0 38), kI G (q0 39) 5120 (gA o0 39), kI G (q0 41) 5 (gA o0 41), kZ G (q0 42) 1024 (gA o0 42), kI G (q0 43) 8192 (gA o0 43), kI G (q0 44) 8192 (gA o0 44)] H := hP
      have hD : va_D A [(h0, .inr (11, [.int (gI o0 0), .ref (q0 1), .ref (q0 2), .ref (q0 3), .ref (q0 4), .ref (q0 5), .ref (q0 6), .int (gI o0 7), .int (gI o0 8), .int (gI o0 9), .int (gI o0 10), .int (gI o0 11), .int (gI o0 12), .int (gI o0 13), .int (gI o0 14), .long (gL o0 15), .int (gI o0 16), .int (gI o0 17), .int (gI o0 18), .int (gI o0 19), .int (gI o0 20), .int (gI o0 21), .int (gI o0 22), .int (gI o0 23), .int (gI o0 24), .int (gI o0 25), .int (gI o0 26), .int (gI o0 27), .ref (q0 28), .long (gL o0 29), .int (gI o0 30), .ref (q0 31), .ref (q0 32), .ref (q0 33), .int (gI o0 34), .int (gI o0 35), .int (gI o0 36), .int (gI o0 37), .ref (q0 38), .ref (q0 39), .int (gI o0 40), .ref (q0 41), .ref (q0 42), .ref (q0 43), .ref (q0 44)])), kI G (q0 1) 6100 (gA o0 1), kI G (q0 2) 6100 (gA o0 2), kJ G (q0 3) 2016 (vp_updL (gB o0 3) x1.toNatClampNeg ((gB o0 4) x1.toNatClampNeg)), kJ G (q0 4) 2016 (gB o0 4), kI G (q0 5) 300 (gA o0 5), kI G (q0 6) 400 (gA o0 6), kJ G (q0 28) 10 (gB o0 28), kI G (q0 31) 969 (gA o0 31), kI G (q0 32) 969 (gA o0 32), kI G (q0 33) 969 (gA o0 33), kI G (q0 38) 5 (gA o0 38), kI G (q0 39) 5120 (gA o0 39), kI G (q0 41) 5 (gA o0 41), kZ G (q0 42) 1024 (gA o0 42), kI G (q0 43) 8192 (gA o0 43), kI G (q0 44) 8192 (gA o0 44)] := hD
      refine lv_iinc (v := (x1 + (1 : Int32))) (lv' := [(1, .int (x1 + (1 : Int32))), (0, .ref h0)]) hx hb d_Md_back_48 hl (k := 1) rfl rfl (by decide) rfl (fun ls hl => ?_)
      refine lv_goto (tgt := 29) hx hb d_Md_back_51 (by decide) ?_
      have hl := lv_sub (l' := [(0, .ref h0), (1, .int (x1 + (1 : Int32)))]) hl [1, 0] rfl
      have hP : va_P G.1 CL (cw_Md G h0 q0 (sB o0 3 (vp_updL (gB o0 3) x1.toNatClampNeg ((gB o0 4) x1.toNatClampNeg)))) H := hP
      have hD : va_D A (cw_Md G h0 q0 (sB o0 3 (vp_updL (gB o0 3) x1.toNatClampNeg ((gB o0 4) x1.toNatClampNeg)))) := hD
      exact ih (x1 + (1 : Int32)) (sB o0 3 (vp_updL (gB o0 3) x1.toNatClampNeg ((gB o0 4) x1.toNatClampNeg))) ls H locs hl hP hD hS h
set_option maxHeartbeats 4000000 in
set_option maxRecDepth 100000 in
theorem t_Md_back_2 {p : Program} {l : Launch} {e : Env} {s : State} {m : MethodId} {args : Array Value} {below : List Frame} {meth : Method} {c : Code} {A : Nat → Prop} {G : Gl} {h0 : Nat} {q0 : Nat → Nat} (Q : Int32 → Ob → Prop) (C : Cx p s m args meth c R_Md b_Md_back 2 (some .int) G A) :
    ∀ (n : Nat) (x1 : Int32) (o0 : Ob) (ls : Array Slot) (H : Heap) (locs : List Loc), lv_has ls 2 [(0, .ref h0), (1, .int x1)] → va_P G.1 CL (cw_Md G h0 q0 o0) H → va_D A (cw_Md G h0 q0 o0) → va_S A s.heap H locs → f_Md_back_2 Q n x1 o0 → W p l e rm_Md_back s m args below meth c H locs 0 0 (MQ below (va_Qi (fun (r : Int32) (u : Ob) => Q r u) (fun (u : Ob) t => BW G A (cw_Md G h0 q0 u) t) A) args s 0 0 A) (F0 m 2 ls []) := by
  obtain ⟨hx, hb, hml, hown, hr, hts, hK, hA, hlocks, hE⟩ := id C
  intro n
  induction n with
  | zero => intro x1 o0 ls H locs hl hP hD hS h; exact absurd h id
  | succ n ih =>
    intro x1 o0 ls H locs hl hP hD hS h
    have hP : va_P G.1 CL [(h0, .inr (11, [.int (gI o0 0), .ref (q0 1), .ref (q0 2), .ref (q0 3), .ref (q0 4), .ref (q0 5), .ref (q0 6), .int (gI o0 7), .int (gI o0 8), .int (gI o0 9), .int (gI o0 10), .int (gI o0 11), .int (gI o0 12), .int (gI o0 13), .int (gI o0 14), .long (gL o0 15), .int (gI o0 16), .int (gI o0 17), .int (gI o0 18), .int (gI o0 19), .int (gI o0 20), .int (gI o0 21), .int (gI o0 22), .int (gI o0 23), .int (gI o0 24), .int (gI o0 25), .int (gI o0 26), .int (gI o0 27), .ref (q0 28), .long (gL o0 29), .int (gI o0 30), .ref (q0 31), .ref (q0 32), .ref (q0 33), .int (gI o0 34), .int (gI o0 35), .int (gI o0 36), .int (gI o0 37), .ref (q0 38), .ref (q0 39), .int (gI o0 40), .ref (q0 41), .ref (q0 42), .ref (q0 43), .ref (q0 44)])), kI G (q0 1) 6100 (gA o0 1), kI G (q0 2) 6100 (gA o0 2), kJ G (q0 3) 2016 (gB o0 3), kJ G (q0 4) 2016 (gB o0 4), kI G (q0 5) 300 (gA o0 5), kI G (q0 6) 400 (gA o0 6), kJ G (q0 28) 10 (gB o0 28), kI G (q0 31) 969 (gA o0 31), kI G (q0 32) 969 (gA o0 32), kI G (q0 33) 969 (gA o0 33), kI G (q0 38) 5 (gA o0 38), kI G (q0 39) 5120 (gA o0 39), kI G (q0 41) 5 (gA o0 41), kZ G (q0 42) 1024 (gA o0 42), kI G (q0 43) 8192 (gA o0 43), kI G (q0 44) 8192 (gA o0 44)] H := hP
    have hD : va_D A [(h0, .inr (11, [.int (gI o0 0), .ref (q0 1), .ref (q0 2), .ref (q0 3), .ref (q0 4), .ref (q0 5), .ref (q0 6), .int (gI o0 7), .int (gI o0 8), .int (gI o0 9), .int (gI o0 10), .int (gI o0 11), .int (gI o0 12), .int (gI o0 13), .int (gI o0 14), .long (gL o0 15), .int (gI o0 16), .int (gI o0 17), .int (gI o0 18), .int (gI o0 19), .int (gI o0 20), .int (gI o0 21), .int (gI o0 22), .int (gI o0 23), .int (gI o0 24), .int (gI o0 25), .int (gI o0 26), .int (gI o0 27), .ref (q0 28), .long (gL o0 29), .int (gI o0 30), .ref (q0 31), .ref (q0 32), .ref (q0 33), .int (gI o0 34), .int (gI o0 35), .int (gI o0 36), .int (gI o0 37), .ref (q0 38), .ref (q0 39), .int (gI o0 40), .ref (q0 41), .ref (q0 42), .ref (q0 43), .ref (q0 44)])), kI G (q0 1) 6100 (gA o0 1), kI G (q0 2) 6100 (gA o0 2), kJ G (q0 3) 2016 (gB o0 3), kJ G (q0 4) 2016 (gB o0 4), kI G (q0 5) 300 (gA o0 5), kI G (q0 6) 400 (gA o0 6), kJ G (q0 28) 10 (gB o0 28), kI G (q0 31) 969 (gA o0 31), kI G (q0 32) 969 (gA o0 32), kI G (q0 33) 969 (gA o0 33), kI G (q0 38) 5 (gA o0 38), kI G (q0 39) 5120 (gA o0 39), kI G (q0 41) 5 (gA o0 41), kZ G (q0 42) 1024 (gA o0 42), kI G (q0 43) 8192 (gA o0 43), kI G (q0 44) 8192 (gA o0 44)] := hD
    unfold f_Md_back_2 at h
    refine lv_iload_n hx hb d_Md_back_2 rfl (lv_at hl 1 rfl) ?_
    refine lv_sipush (v := (6100 : Int32)) hx hb d_Md_back_3 (by decide) ?_
    refine lv_icmp_ge (tgt := 27) hx hb d_Md_back_6 (by decide) (fun c4 => ?_) (fun c4 => ?_)
    · have h := h.1 c4
      refine lv_iconst (v := (0 : Int32)) hx hb d_Md_back_27 (by decide) ?_
      refine lv_istore_n (lv' := [(1, .int (0 : Int32)), (0, .ref h0)]) hx hb d_Md_back_28 rfl hl (by decide) rfl (fun ls hl => ?_)
      have hl := lv_sub (l' := [(0, .ref h0), (1, .int (0 : Int32))]) hl [1, 0] rfl
      have hP : va_P G.1 CL (cw_Md G h0 q0 o0) H := hP
      have hD : va_D A (cw_Md G h0 q0 o0) := hD
      obtain ⟨w, h⟩ := h
      exact t_Md_back_29 Q C w (0 : Int32) o0 ls _ locs hl hP hD hS h
    · have h := h.2 c4
      refine lv_aload_n hx hb d_Md_back_9 rfl (lv_at hl 0 rfl) ?_
      refine va_get (D := G.1) (ci := 11) (v := .ref (q0 1)) (C := R_Md) (T := T_Md) (N := 45) hx hb hts i_Md hown hK hP 0 rfl rfl 1 (by decide) (hts _ wf_Md_7) (fun _ h9 => h9) rfl d_Md_back_10 ?_
      refine lv_iload_n hx hb d_Md_back_13 rfl (lv_at hl 1 rfl) ?_
      refine lv_aload_n hx hb d_Md_back_14 rfl (lv_at hl 0 rfl) ?_
      refine va_get (D := G.1) (ci := 11) (v := .ref (q0 2)) (C := R_Md) (T := T_Md) (N := 45) hx hb hts i_Md hown hK hP 0 rfl rfl 2 (by decide) (hts _ wf_Md_13) (fun _ h9 => h9) rfl d_Md_back_15 ?_
      refine lv_iload_n hx hb d_Md_back_18 rfl (lv_at hl 1 rfl) ?_
      have g5 := h.1
      have h := h.2
      refine xa_iald hx hb hK hP 2 0 rfl rfl g5 (k := x1.toNatClampNeg) rfl d_Md_back_19 ?_
      have g6 := h.1
      have h := h.2
      refine xa_iast hx hb hK hP hD hS 1 0 rfl rfl g6 (k := x1.toNatClampNeg) rfl d_Md_back_20 (fun H locs hP hD hS => ?_)
      have hP : va_P G.1 CL [(h0, .inr (11, [.int (gI o0 0), .ref (q0 1), .ref (q0 2), .ref (q0 3), .ref (q0 4), .ref (q0 5), .ref (q0 6), .int (gI o0 7), .int (gI o0 8), .int (gI o0 9), .int (gI o0 10), .int (gI o0 11), .int (gI o0 12), .int (gI o0 13), .int (gI o0 14), .long (gL o0 15), .int (gI o0 16), .int (gI o0 17), .int (gI o0 18), .int (gI o0 19), .int (gI o0 20), .int (gI o0 21), .int (gI o0 22), .int (gI o0 23), .int (gI o0 24), .int (gI o0 25), .int (gI o0 26), .int (gI o0 27), .ref (q0 28), .long (gL o0 29), .int (gI o0 30), .ref (q0 31), .ref (q0 32), .ref (q0 33), .int (gI o0 34), .int (gI o0 35), .int (gI o0 36), .int (gI o0 37), .ref (q0 38), .ref (q0 39), .int (gI o0 40), .ref (q0 41), .ref (q0 42), .ref (q0 43), .ref (q0 44)])), kI G (q0 1) 6100 (upd (gA o0 1) x1.toNatClampNeg ((gA o0 2) x1.toNatClampNeg)), kI G (q0 2) 6100 (gA o0 2), kJ G (q0 3) 2016 (gB o0 3), kJ G (q0 4) 2016 (gB o0 4), kI G (q0 5) 300 (gA o0 5), kI G (q0 6) 400 (gA o0 6), kJ G (q0 28) 10 (gB o0 28), kI G (q0 31) 969 (gA o0 31), kI G (q0 32) 969 (gA o0 32), kI G (q0 33) 969 (gA o0 33), kI G (q0 38) 5 (gA o0 38), kI G (q0 39) 5120 (gA o0 39), kI G (q0 41) 5 (gA o0 41), kZ G (q0 42) 1024 (gA o0 42), kI G (q0 43) 8192 (gA o0 43), kI G (q0 44) 8192 (gA o0 44)] H := hP
      have hD : va_D A [(h0, .inr (11, [.int (gI o0 0), .ref (q0 1), .ref (q0 2), .ref (q0 3), .ref (q0 4), .ref (q0 5), .ref (q0 6), .int (gI o0 7), .int (gI o0 8), .int (gI o0 9), .int (gI o0 10), .int (gI o0 11), .int (gI o0 12), .int (gI o0 13), .int (gI o0 14), .long (gL o0 15), .int (gI o0 16), .int (gI o0 17), .int (gI o0 18), .int (gI o0 19), .int (gI o0 20), .int (gI o0 21), .int (gI o0 22), .int (gI o0 23), .int (gI o0 24), .int (gI o0 25), .int (gI o0 26), .int (gI o0 27), .ref (q0 28), .long (gL o0 29), .int (gI o0 30), .ref (q0 31), .ref (q0 32), .ref (q0 33), .int (gI o0 34), .int (gI o0 35), .int (gI o0 36), .int (gI o0 37), .ref (q0 38), .ref (q0 39), .int (gI o0 40), .ref (q0 41), .ref (q0 42), .ref (q0 43), .ref (q0 44)])), kI G (q0 1) 6100 (upd (gA o0 1) x1.toNatClampNeg ((gA o0 2) x1.toNatClampNeg)), kI G (q0 2) 6100 (gA o0 2), kJ G (q0 3) 2016 (gB o0 3), kJ G (q0 4) 2016 (gB o0 4), kI G (q0 5) 300 (gA o0 5), kI G (q0 6) 400 (gA o0 6), kJ G (q0 28) 10 (gB o0 28), kI G (q0 31) 969 (gA o0 31), kI G (q0 32) 969 (gA o0 32), kI G (q0 33) 969 (gA o0 33), kI G (q0 38) 5 (gA o0 38), kI G (q0 39) 5120 (gA o0 39), kI G (q0 41) 5 (gA o0 41), kZ G (q0 42) 1024 (gA o0 42), kI G (q0 43) 8192 (gA o0 43), kI G (q0 44) 8192 (gA o0 44)] := hD
      refine lv_iinc (v := (x1 + (1 : Int32))) (lv' := [(1, .int (x1 + (1 : Int32))), (0, .ref h0)]) hx hb d_Md_back_21 hl (k := 1) rfl rfl (by decide) rfl (fun ls hl => ?_)
      refine lv_goto (tgt := 2) hx hb d_Md_back_24 (by decide) ?_
      have hl := lv_sub (l' := [(0, .ref h0), (1, .int (x1 + (1 : Int32)))]) hl [1, 0] rfl
      have hP : va_P G.1 CL (cw_Md G h0 q0 (sA o0 1 (upd (gA o0 1) x1.toNatClampNeg ((gA o0 2) x1.toNatClampNeg)))) H := hP
      have hD : va_D A (cw_Md G h0 q0 (sA o0 1 (upd (gA o0 1) x1.toNatClampNeg ((gA o0 2) x1.toNatClampNeg)))) := hD
      exact ih (x1 + (1 : Int32)) (sA o0 1 (upd (gA o0 1) x1.toNatClampNeg ((gA o0 2) x1.toNatClampNeg))) ls H locs hl hP hD hS h
set_option maxHeartbeats 4000000 in
set_option maxRecDepth 100000 in
theorem c_Md_back {l : Launch} {G : Gl} {h0 : Nat} {q0 : Nat → Nat} {o0 : Ob} {Q : Int32 → Ob → Prop} (sz : Nat) (h : f_Md_back o0 Q) : Met l y_Md_back w_Md_back rm_Md_back (PcW G [.ref h0] sz (cw_Md G h0 q0 o0)) (va_Qi (fun (r : Int32) (u : Ob) => Q r u) (fun (u : Ob) t => BW G (va_A (cw_Md G h0 q0 o0) sz) (cw_Md G h0 q0 u) t) (va_A (cw_Md G h0 q0 o0) sz)) 0 0 (va_A (cw_Md G h0 q0 o0) sz) := by
  refine Met.ofW (cc := b_Md_back) (maxL := 2) (ret := (some .int)) (by decide +kernel) rfl ?_
  intro p e s m args below meth c s₁ B hml hv
  obtain ⟨rfl, hsz, hP, hK, hD0, hE⟩ := hv
  have hx := B.exec
  have hb := B.bytes
  have hr := B.returns
  have hts0 := atoms_spec (ws := w_Md_back) B.pre
  have hts : ∀ w ∈ gw_tbl, w.before ([.ref h0]).toArray s = true := fun w hw => hts0 w (List.mem_cons_of_mem _ hw)
  have hown : s.vm.findClass R_Md = some m.cls := findClass_of_methodNamed B.named
  have hlocks := B.notSynchronized
  subst hsz
  have hD := hD0.self (sz := s.heap.size)
  generalize hAe : va_A (cw_Md G h0 q0 o0) s.heap.size = A at hD hE ⊢
  have hA : ∀ q : Nat, s.heap.size ≤ q → A q := fun q h => by rw [← hAe]; exact Or.inr h
  have hS : va_S A s.heap s.heap [] := va_S.rf
  have C : Cx p s m ([.ref h0]).toArray meth c R_Md b_Md_back 2 (some .int) G A := ⟨hx, hb, hml, hown, hr, hts, hK, hA, hlocks, hE⟩
  have hl := lv_entry ([.ref h0]) (n := 2) (Nat.le_of_ble_eq_true rfl)
  rw [lg_entry_eq]
  generalize (lg_sl ([.ref h0]) ++ List.replicate (2 - (lg_sl ([.ref h0])).length) Slot.unset).toArray = ls at hl ⊢
  have hl : lv_has ls 2 [(0, .ref h0)] := hl
  have hD : va_D A [(h0, .inr (11, [.int (gI o0 0), .ref (q0 1), .ref (q0 2), .ref (q0 3), .ref (q0 4), .ref (q0 5), .ref (q0 6), .int (gI o0 7), .int (gI o0 8), .int (gI o0 9), .int (gI o0 10), .int (gI o0 11), .int (gI o0 12), .int (gI o0 13), .int (gI o0 14), .long (gL o0 15), .int (gI o0 16), .int (gI o0 17), .int (gI o0 18), .int (gI o0 19), .int (gI o0 20), .int (gI o0 21), .int (gI o0 22), .int (gI o0 23), .int (gI o0 24), .int (gI o0 25), .int (gI o0 26), .int (gI o0 27), .ref (q0 28), .long (gL o0 29), .int (gI o0 30), .ref (q0 31), .ref (q0 32), .ref (q0 33), .int (gI o0 34), .int (gI o0 35), .int (gI o0 36), .int (gI o0 37), .ref (q0 38), .ref (q0 39), .int (gI o0 40), .ref (q0 41), .ref (q0 42), .ref (q0 43), .ref (q0 44)])), kI G (q0 1) 6100 (gA o0 1), kI G (q0 2) 6100 (gA o0 2), kJ G (q0 3) 2016 (gB o0 3), kJ G (q0 4) 2016 (gB o0 4), kI G (q0 5) 300 (gA o0 5), kI G (q0 6) 400 (gA o0 6), kJ G (q0 28) 10 (gB o0 28), kI G (q0 31) 969 (gA o0 31), kI G (q0 32) 969 (gA o0 32), kI G (q0 33) 969 (gA o0 33), kI G (q0 38) 5 (gA o0 38), kI G (q0 39) 5120 (gA o0 39), kI G (q0 41) 5 (gA o0 41), kZ G (q0 42) 1024 (gA o0 42), kI G (q0 43) 8192 (gA o0 43), kI G (q0 44) 8192 (gA o0 44)] := hD
  unfold f_Md_back at h
  suffices key : ∀ (H : Heap) (locs : List Loc), va_P G.1 CL [(h0, .inr (11, [.int (gI o0 0), .ref (q0 1), .ref (q0 2), .ref (q0 3), .ref (q0 4), .ref (q0 5), .ref (q0 6), .int (gI o0 7), .int (gI o0 8), .int (gI o0 9), .int (gI o0 10), .int (gI o0 11), .int (gI o0 12), .int (gI o0 13), .int (gI o0 14), .long (gL o0 15), .int (gI o0 16), .int (gI o0 17), .int (gI o0 18), .int (gI o0 19), .int (gI o0 20), .int (gI o0 21), .int (gI o0 22), .int (gI o0 23), .int (gI o0 24), .int (gI o0 25), .int (gI o0 26), .int (gI o0 27), .ref (q0 28), .long (gL o0 29), .int (gI o0 30), .ref (q0 31), .ref (q0 32), .ref (q0 33), .int (gI o0 34), .int (gI o0 35), .int (gI o0 36), .int (gI o0 37), .ref (q0 38), .ref (q0 39), .int (gI o0 40), .ref (q0 41), .ref (q0 42), .ref (q0 43), .ref (q0 44)])), kI G (q0 1) 6100 (gA o0 1), kI G (q0 2) 6100 (gA o0 2), kJ G (q0 3) 2016 (gB o0 3), kJ G (q0 4) 2016 (gB o0 4), kI G (q0 5) 300 (gA o0 5), kI G (q0 6) 400 (gA o0 6), kJ G (q0 28) 10 (gB o0 28), kI G (q0 31) 969 (gA o0 31), kI G (q0 32) 969 (gA o0 32), kI G (q0 33) 969 (gA o0 33), kI G (q0 38) 5 (gA o0 38), kI G (q0 39) 5120 (gA o0 39), kI G (q0 41) 5 (gA o0 41), kZ G (q0 42) 1024 (gA o0 42), kI G (q0 43) 8192 (gA o0 43), kI G (q0 44) 8192 (gA o0 44)] H → va_S A s.heap H locs → W p l e rm_Md_back s m ([.ref h0]).toArray below meth c H locs 0 0 (MQ below (va_Qi (fun (r : Int32) (u : Ob) => Q r u) (fun (u : Ob) t => BW G A (cw_Md G h0 q0 u) t) A) ([.ref h0]).toArray s 0 0 A) (F0 m 0 ls []) from key s.heap [] hP hS
  intro H locs hP hS
  refine lv_iconst (v := (0 : Int32)) hx hb d_Md_back_0 (by decide) ?_
  refine lv_istore_n (lv' := [(1, .int (0 : Int32)), (0, .ref h0)]) hx hb d_Md_back_1 rfl hl (by decide) rfl (fun ls hl => ?_)
  have hl := lv_sub (l' := [(0, .ref h0), (1, .int (0 : Int32))]) hl [1, 0] rfl
  have hP : va_P G.1 CL (cw_Md G h0 q0 o0) H := hP
  have hD : va_D A (cw_Md G h0 q0 o0) := hD
  obtain ⟨w, h⟩ := h
  exact t_Md_back_2 Q C w (0 : Int32) o0 ls _ locs hl hP hD hS h
abbrev b_Md_about : ByteArray := prog_14_method_67_code
def y_Md_about : MethodName := ⟨R_Md, "about", "(I)I"⟩
abbrev w_Md_about : List Cond := Cond.code y_Md_about b_Md_about 2 (some .int) :: gw_tbl
theorem d_Md_about_0 : decode b_Md_about 0 = .ok (.iload_n 1, 1) := by decide +kernel
theorem d_Md_about_1 : decode b_Md_about 1 = .ok (.tableswitch 124 0 9 #[55, 60, 67, 74, 81, 88, 97, 102, 109, 116], 55) := by decide +kernel
theorem d_Md_about_56 : decode b_Md_about 56 = .ok (.aload_n 0, 1) := by decide +kernel
theorem d_Md_about_57 : decode b_Md_about 57 = .ok (.getfield 67, 3) := by decide +kernel
theorem d_Md_about_60 : decode b_Md_about 60 = .ok (.ireturn, 1) := by decide +kernel
theorem d_Md_about_61 : decode b_Md_about 61 = .ok (.aload_n 0, 1) := by decide +kernel
theorem d_Md_about_62 : decode b_Md_about 62 = .ok (.getfield 7, 3) := by decide +kernel
theorem d_Md_about_65 : decode b_Md_about 65 = .ok (.iconst 0, 1) := by decide +kernel
theorem d_Md_about_66 : decode b_Md_about 66 = .ok (.iaload, 1) := by decide +kernel
theorem d_Md_about_67 : decode b_Md_about 67 = .ok (.ireturn, 1) := by decide +kernel
theorem d_Md_about_68 : decode b_Md_about 68 = .ok (.aload_n 0, 1) := by decide +kernel
theorem d_Md_about_69 : decode b_Md_about 69 = .ok (.getfield 7, 3) := by decide +kernel
theorem d_Md_about_72 : decode b_Md_about 72 = .ok (.iconst 1, 1) := by decide +kernel
theorem d_Md_about_73 : decode b_Md_about 73 = .ok (.iaload, 1) := by decide +kernel
theorem d_Md_about_74 : decode b_Md_about 74 = .ok (.ireturn, 1) := by decide +kernel
theorem d_Md_about_75 : decode b_Md_about 75 = .ok (.aload_n 0, 1) := by decide +kernel
theorem d_Md_about_76 : decode b_Md_about 76 = .ok (.getfield 7, 3) := by decide +kernel
theorem d_Md_about_79 : decode b_Md_about 79 = .ok (.iconst 2, 1) := by decide +kernel
theorem d_Md_about_80 : decode b_Md_about 80 = .ok (.iaload, 1) := by decide +kernel
theorem d_Md_about_81 : decode b_Md_about 81 = .ok (.ireturn, 1) := by decide +kernel
theorem d_Md_about_82 : decode b_Md_about 82 = .ok (.aload_n 0, 1) := by decide +kernel
theorem d_Md_about_83 : decode b_Md_about 83 = .ok (.getfield 7, 3) := by decide +kernel
theorem d_Md_about_86 : decode b_Md_about 86 = .ok (.iconst 3, 1) := by decide +kernel
theorem d_Md_about_87 : decode b_Md_about 87 = .ok (.iaload, 1) := by decide +kernel
theorem d_Md_about_88 : decode b_Md_about 88 = .ok (.ireturn, 1) := by decide +kernel
theorem d_Md_about_89 : decode b_Md_about 89 = .ok (.aload_n 0, 1) := by decide +kernel
theorem d_Md_about_90 : decode b_Md_about 90 = .ok (.invokevirtual 276, 3) := by decide +kernel
theorem d_Md_about_93 : decode b_Md_about 93 = .ok (.aload_n 0, 1) := by decide +kernel
theorem d_Md_about_94 : decode b_Md_about 94 = .ok (.getfield 273, 3) := by decide +kernel
theorem d_Md_about_97 : decode b_Md_about 97 = .ok (.ireturn, 1) := by decide +kernel
theorem d_Md_about_98 : decode b_Md_about 98 = .ok (.aload_n 0, 1) := by decide +kernel
theorem d_Md_about_99 : decode b_Md_about 99 = .ok (.getfield 80, 3) := by decide +kernel
theorem d_Md_about_102 : decode b_Md_about 102 = .ok (.ireturn, 1) := by decide +kernel
theorem d_Md_about_103 : decode b_Md_about 103 = .ok (.aload_n 0, 1) := by decide +kernel
theorem d_Md_about_104 : decode b_Md_about 104 = .ok (.getfield 7, 3) := by decide +kernel
theorem d_Md_about_107 : decode b_Md_about 107 = .ok (.iconst 4, 1) := by decide +kernel
theorem d_Md_about_108 : decode b_Md_about 108 = .ok (.iaload, 1) := by decide +kernel
theorem d_Md_about_109 : decode b_Md_about 109 = .ok (.ireturn, 1) := by decide +kernel
theorem d_Md_about_110 : decode b_Md_about 110 = .ok (.aload_n 0, 1) := by decide +kernel
theorem d_Md_about_111 : decode b_Md_about 111 = .ok (.getfield 7, 3) := by decide +kernel
theorem d_Md_about_114 : decode b_Md_about 114 = .ok (.iconst 5, 1) := by decide +kernel
theorem d_Md_about_115 : decode b_Md_about 115 = .ok (.iaload, 1) := by decide +kernel
theorem d_Md_about_116 : decode b_Md_about 116 = .ok (.ireturn, 1) := by decide +kernel
theorem d_Md_about_117 : decode b_Md_about 117 = .ok (.aload_n 0, 1) := by decide +kernel
theorem d_Md_about_118 : decode b_Md_about 118 = .ok (.getfield 7, 3) := by decide +kernel
theorem d_Md_about_121 : decode b_Md_about 121 = .ok (.bipush 6, 2) := by decide +kernel
theorem d_Md_about_123 : decode b_Md_about 123 = .ok (.iaload, 1) := by decide +kernel
theorem d_Md_about_124 : decode b_Md_about 124 = .ok (.ireturn, 1) := by decide +kernel
theorem d_Md_about_125 : decode b_Md_about 125 = .ok (.iconst (-1), 1) := by decide +kernel
theorem d_Md_about_126 : decode b_Md_about 126 = .ok (.ireturn, 1) := by decide +kernel
def f_Md_about (a0 : Int32) (o0 : Ob) (Q : Int32 → Ob → Prop) : Prop := (a0 = (0 : Int32) → (Q (gI o0 0) o0)) ∧ (¬ a0 = (0 : Int32) → ((a0 = (1 : Int32) → (Q ((gA o0 1) 0) o0)) ∧ (¬ a0 = (1 : Int32) → ((a0 = (2 : Int32) → (Q ((gA o0 1) 1) o0)) ∧ (¬ a0 = (2 : Int32) → ((a0 = (3 : Int32) → (Q ((gA o0 1) 2) o0)) ∧ (¬ a0 = (3 : Int32) → ((a0 = (4 : Int32) → (Q ((gA o0 1) 3) o0)) ∧ (¬ a0 = (4 : Int32) → ((a0 = (5 : Int32) → (f_Md_findShapes o0 (fun u7 => Q (gI u7 40) u7))) ∧ (¬ a0 = (5 : Int32) → ((a0 = (6 : Int32) → (Q (gI o0 7) o0)) ∧ (¬ a0 = (6 : Int32) → ((a0 = (7 : Int32) → (Q ((gA o0 1) 4) o0)) ∧ (¬ a0 = (7 : Int32) → ((a0 = (8 : Int32) → (Q ((gA o0 1) 5) o0)) ∧ (¬ a0 = (8 : Int32) → ((a0 = (9 : Int32) → (Q ((gA o0 1) 6) o0)) ∧ (¬ a0 = (9 : Int32) → (Q (-1 : Int32) o0))))))))))))))))))))
abbrev rm_Md_about : Room := { frames := 1, cells := 0, slots := 0, locals := 22 }
set_option maxHeartbeats 4000000 in
set_option maxRecDepth 100000 in
theorem c_Md_about {l : Launch} {G : Gl} {h0 : Nat} {q0 : Nat → Nat} {a0 : Int32} {o0 : Ob} {Q : Int32 → Ob → Prop} (sz : Nat) (h : f_Md_about a0 o0 Q) : Met l y_Md_about w_Md_about rm_Md_about (PcW G [.ref h0, .int a0] sz (cw_Md G h0 q0 o0)) (va_Qi (fun (r : Int32) (u : Ob) => Q r u) (fun (u : Ob) t => BW G (va_A (cw_Md G h0 q0 o0) sz) (cw_Md G h0 q0 u) t) (va_A (cw_Md G h0 q0 o0) sz)) 0 0 (va_A (cw_Md G h0 q0 o0) sz) := by
  refine Met.ofW (cc := b_Md_about) (maxL := 2) (ret := (some .int)) (by decide +kernel) rfl ?_
  intro p e s m args below meth c s₁ B hml hv
  obtain ⟨rfl, hsz, hP, hK, hD0, hE⟩ := hv
  have hx := B.exec
  have hb := B.bytes
  have hr := B.returns
  have hts0 := atoms_spec (ws := w_Md_about) B.pre
  have hts : ∀ w ∈ gw_tbl, w.before ([.ref h0, .int a0]).toArray s = true := fun w hw => hts0 w (List.mem_cons_of_mem _ hw)
  have hown : s.vm.findClass R_Md = some m.cls := findClass_of_methodNamed B.named
  have hlocks := B.notSynchronized
  subst hsz
  have hD := hD0.self (sz := s.heap.size)
  generalize hAe : va_A (cw_Md G h0 q0 o0) s.heap.size = A at hD hE ⊢
  have hA : ∀ q : Nat, s.heap.size ≤ q → A q := fun q h => by rw [← hAe]; exact Or.inr h
  have hS : va_S A s.heap s.heap [] := va_S.rf
  have C : Cx p s m ([.ref h0, .int a0]).toArray meth c R_Md b_Md_about 2 (some .int) G A := ⟨hx, hb, hml, hown, hr, hts, hK, hA, hlocks, hE⟩
  have hl := lv_entry ([.ref h0, .int a0]) (n := 2) (Nat.le_of_ble_eq_true rfl)
  rw [lg_entry_eq]
  generalize (lg_sl ([.ref h0, .int a0]) ++ List.replicate (2 - (lg_sl ([.ref h0, .int a0])).length) Slot.unset).toArray = ls at hl ⊢
  have hl : lv_has ls 2 [(0, .ref h0), (1, .int a0)] := hl
  have hD : va_D A [(h0, .inr (11, [.int (gI o0 0), .ref (q0 1), .ref (q0 2), .ref (q0 3), .ref (q0 4), .ref (q0 5), .ref (q0 6), .int (gI o0 7), .int (gI o0 8), .int (gI o0 9), .int (gI o0 10), .int (gI o0 11), .int (gI o0 12), .int (gI o0 13), .int (gI o0 14), .long (gL o0 15), .int (gI o0 16), .int (gI o0 17), .int (gI o0 18), .int (gI o0 19), .int (gI o0 20), .int (gI o0 21), .int (gI o0 22), .int (gI o0 23), .int (gI o0 24), .int (gI o0 25), .int (gI o0 26), .int (gI o0 27), .ref (q0 28), .long (gL o0 29), .int (gI o0 30), .ref (q0 31), .ref (q0 32), .ref (q0 33), .int (gI o0 34), .int (gI o0 35), .int (gI o0 36), .int (gI o0 37), .ref (q0 38), .ref (q0 39), .int (gI o0 40), .ref (q0 41), .ref (q0 42), .ref (q0 43), .ref (q0 44)])), kI G (q0 1) 6100 (gA o0 1), kI G (q0 2) 6100 (gA o0 2), kJ G (q0 3) 2016 (gB o0 3), kJ G (q0 4) 2016 (gB o0 4), kI G (q0 5) 300 (gA o0 5), kI G (q0 6) 400 (gA o0 6), kJ G (q0 28) 10 (gB o0 28), kI G (q0 31) 969 (gA o0 31), kI G (q0 32) 969 (gA o0 32), kI G (q0 33) 969 (gA o0 33), kI G (q0 38) 5 (gA o0 38), kI G (q0 39) 5120 (gA o0 39), kI G (q0 41) 5 (gA o0 41), kZ G (q0 42) 1024 (gA o0 42), kI G (q0 43) 8192 (gA o0 43), kI G (q0 44) 8192 (gA o0 44)] := hD
  unfold f_Md_about at h
  suffices key : ∀ (H : Heap) (locs : List Loc), va_P G.1 CL [(h0, .inr (11, [.int (gI o0 0), .ref (q0 1), .ref (q0 2), .ref (q0 3), .ref (q0 4), .ref (q0 5), .ref (q0 6), .int (gI o0 7), .int (gI o0 8), .int (gI o0 9), .int (gI o0 10), .int (gI o0 11), .int (gI o0 12), .int (gI o0 13), .int (gI o0 14), .long (gL o0 15), .int (gI o0 16), .int (gI o0 17), .int (gI o0 18), .int (gI o0 19), .int (gI o0 20), .int (gI o0 21), .int (gI o0 22), .int (gI o0 23), .int (gI o0 24), .int (gI o0 25), .int (gI o0 26), .int (gI o0 27), .ref (q0 28), .long (gL o0 29), .int (gI o0 30), .ref (q0 31), .ref (q0 32), .ref (q0 33), .int (gI o0 34), .int (gI o0 35), .int (gI o0 36), .int (gI o0 37), .ref (q0 38), .ref (q0 39), .int (gI o0 40), .ref (q0 41), .ref (q0 42), .ref (q0 43), .ref (q0 44)])), kI G (q0 1) 6100 (gA o0 1), kI G (q0 2) 6100 (gA o0 2), kJ G (q0 3) 2016 (gB o0 3), kJ G (q0 4) 2016 (gB o0 4), kI G (q0 5) 300 (gA o0 5), kI G (q0 6) 400 (gA o0 6), kJ G (q0 28) 10 (gB o0 28), kI G (q0 31) 969 (gA o0 31), kI G (q0 32) 969 (gA o0 32), kI G (q0 33) 969 (gA o0 33), kI G (q0 38) 5 (gA o0 38), kI G (q0 39) 5120 (gA o0 39), kI G (q0 41) 5 (gA o0 41), kZ G (q0 42) 1024 (gA o0 42), kI G (q0 43) 8192 (gA o0 43), kI G (q0 44) 8192 (gA o0 44)] H → va_S A s.heap H locs → W p l e rm_Md_about s m ([.ref h0, .int a0]).toArray below meth c H locs 0 0 (MQ below (va_Qi (fun (r : Int32) (u : Ob) => Q r u) (fun (u : Ob) t => BW G A (cw_Md G h0 q0 u) t) A) ([.ref h0, .int a0]).toArray s 0 0 A) (F0 m 0 ls []) from key s.heap [] hP hS
  intro H locs hP hS
  refine lv_iload_n hx hb d_Md_about_0 rfl (lv_at hl 1 rfl) ?_
  by_cases c1 : a0 = (0 : Int32)
  · have h := h.1 c1
    refine lv_tableIn (tgt := 56) hx hb d_Md_about_1 (by rw [c1]; decide) (by rw [c1]; decide) (off := 55) (by rw [c1]; rfl) (by decide) ?_
    refine lv_aload_n hx hb d_Md_about_56 rfl (lv_at hl 0 rfl) ?_
    refine va_get (D := G.1) (ci := 11) (v := .int (gI o0 0)) (C := R_Md) (T := T_Md) (N := 45) hx hb hts i_Md hown hK hP 0 rfl rfl 0 (by decide) (hts _ wf_Md_67) (fun _ h9 => h9) rfl d_Md_about_57 ?_
    have hP : va_P G.1 CL (cw_Md G h0 q0 o0) H := hP
    have hD : va_D A (cw_Md G h0 q0 o0) := hD
    exact W.iret (v := (gI o0 0)) hx hb hr (fun t ht hW => ⟨⟨(gI o0 0), o0, rfl, h, by rw [ht]; exact hP, va_K.moved hW.alike hK, hD⟩, hS.F ht⟩) hS.2.2 d_Md_about_60
  have h := h.2 c1
  by_cases c2 : a0 = (1 : Int32)
  · have h := h.1 c2
    refine lv_tableIn (tgt := 61) hx hb d_Md_about_1 (by rw [c2]; decide) (by rw [c2]; decide) (off := 60) (by rw [c2]; rfl) (by decide) ?_
    refine lv_aload_n hx hb d_Md_about_61 rfl (lv_at hl 0 rfl) ?_
    refine va_get (D := G.1) (ci := 11) (v := .ref (q0 1)) (C := R_Md) (T := T_Md) (N := 45) hx hb hts i_Md hown hK hP 0 rfl rfl 1 (by decide) (hts _ wf_Md_7) (fun _ h9 => h9) rfl d_Md_about_62 ?_
    refine lv_iconst (v := (0 : Int32)) hx hb d_Md_about_65 (by decide) ?_
    refine xa_iald hx hb hK hP 1 0 rfl rfl (vp_lit rfl) (k := 0) rfl d_Md_about_66 ?_
    have hP : va_P G.1 CL (cw_Md G h0 q0 o0) H := hP
    have hD : va_D A (cw_Md G h0 q0 o0) := hD
    exact W.iret (v := ((gA o0 1) 0)) hx hb hr (fun t ht hW => ⟨⟨((gA o0 1) 0), o0, rfl, h, by rw [ht]; exact hP, va_K.moved hW.alike hK, hD⟩, hS.F ht⟩) hS.2.2 d_Md_about_67
  have h := h.2 c2
  by_cases c3 : a0 = (2 : Int32)
  · have h := h.1 c3
    refine lv_tableIn (tgt := 68) hx hb d_Md_about_1 (by rw [c3]; decide) (by rw [c3]; decide) (off := 67) (by rw [c3]; rfl) (by decide) ?_
    refine lv_aload_n hx hb d_Md_about_68 rfl (lv_at hl 0 rfl) ?_
    refine va_get (D := G.1) (ci := 11) (v := .ref (q0 1)) (C := R_Md) (T := T_Md) (N := 45) hx hb hts i_Md hown hK hP 0 rfl rfl 1 (by decide) (hts _ wf_Md_7) (fun _ h9 => h9) rfl d_Md_about_69 ?_
    refine lv_iconst (v := (1 : Int32)) hx hb d_Md_about_72 (by decide) ?_
    refine xa_iald hx hb hK hP 1 0 rfl rfl (vp_lit rfl) (k := 1) rfl d_Md_about_73 ?_
    have hP : va_P G.1 CL (cw_Md G h0 q0 o0) H := hP
    have hD : va_D A (cw_Md G h0 q0 o0) := hD
    exact W.iret (v := ((gA o0 1) 1)) hx hb hr (fun t ht hW => ⟨⟨((gA o0 1) 1), o0, rfl, h, by rw [ht]; exact hP, va_K.moved hW.alike hK, hD⟩, hS.F ht⟩) hS.2.2 d_Md_about_74
  have h := h.2 c3
  by_cases c4 : a0 = (3 : Int32)
  · have h := h.1 c4
    refine lv_tableIn (tgt := 75) hx hb d_Md_about_1 (by rw [c4]; decide) (by rw [c4]; decide) (off := 74) (by rw [c4]; rfl) (by decide) ?_
    refine lv_aload_n hx hb d_Md_about_75 rfl (lv_at hl 0 rfl) ?_
    refine va_get (D := G.1) (ci := 11) (v := .ref (q0 1)) (C := R_Md) (T := T_Md) (N := 45) hx hb hts i_Md hown hK hP 0 rfl rfl 1 (by decide) (hts _ wf_Md_7) (fun _ h9 => h9) rfl d_Md_about_76 ?_
    refine lv_iconst (v := (2 : Int32)) hx hb d_Md_about_79 (by decide) ?_
    refine xa_iald hx hb hK hP 1 0 rfl rfl (vp_lit rfl) (k := 2) rfl d_Md_about_80 ?_
    have hP : va_P G.1 CL (cw_Md G h0 q0 o0) H := hP
    have hD : va_D A (cw_Md G h0 q0 o0) := hD
    exact W.iret (v := ((gA o0 1) 2)) hx hb hr (fun t ht hW => ⟨⟨((gA o0 1) 2), o0, rfl, h, by rw [ht]; exact hP, va_K.moved hW.alike hK, hD⟩, hS.F ht⟩) hS.2.2 d_Md_about_81
  have h := h.2 c4
  by_cases c5 : a0 = (4 : Int32)
  · have h := h.1 c5
    refine lv_tableIn (tgt := 82) hx hb d_Md_about_1 (by rw [c5]; decide) (by rw [c5]; decide) (off := 81) (by rw [c5]; rfl) (by decide) ?_
    refine lv_aload_n hx hb d_Md_about_82 rfl (lv_at hl 0 rfl) ?_
    refine va_get (D := G.1) (ci := 11) (v := .ref (q0 1)) (C := R_Md) (T := T_Md) (N := 45) hx hb hts i_Md hown hK hP 0 rfl rfl 1 (by decide) (hts _ wf_Md_7) (fun _ h9 => h9) rfl d_Md_about_83 ?_
    refine lv_iconst (v := (3 : Int32)) hx hb d_Md_about_86 (by decide) ?_
    refine xa_iald hx hb hK hP 1 0 rfl rfl (vp_lit rfl) (k := 3) rfl d_Md_about_87 ?_
    have hP : va_P G.1 CL (cw_Md G h0 q0 o0) H := hP
    have hD : va_D A (cw_Md G h0 q0 o0) := hD
    exact W.iret (v := ((gA o0 1) 3)) hx hb hr (fun t ht hW => ⟨⟨((gA o0 1) 3), o0, rfl, h, by rw [ht]; exact hP, va_K.moved hW.alike hK, hD⟩, hS.F ht⟩) hS.2.2 d_Md_about_88
  have h := h.2 c5
  by_cases c6 : a0 = (5 : Int32)
  · have h := h.1 c6
    refine lv_tableIn (tgt := 89) hx hb d_Md_about_1 (by rw [c6]; decide) (by rw [c6]; decide) (off := 88) (by rw [c6]; rfl) (by decide) ?_
    refine lv_aload_n hx hb d_Md_about_89 rfl (lv_at hl 0 rfl) ?_
    refine cl_Vv (b := b_Md_about) (As := []) (rest := []) (ws := [(h0, .inr (11, [.int (gI o0 0), .ref (q0 1), .ref (q0 2), .ref (q0 3), .ref (q0 4), .ref (q0 5), .ref (q0 6), .int (gI o0 7), .int (gI o0 8), .int (gI o0 9), .int (gI o0 10), .int (gI o0 11), .int (gI o0 12), .int (gI o0 13), .int (gI o0 14), .long (gL o0 15), .int (gI o0 16), .int (gI o0 17), .int (gI o0 18), .int (gI o0 19), .int (gI o0 20), .int (gI o0 21), .int (gI o0 22), .int (gI o0 23), .int (gI o0 24), .int (gI o0 25), .int (gI o0 26), .int (gI o0 27), .ref (q0 28), .long (gL o0 29), .int (gI o0 30), .ref (q0 31), .ref (q0 32), .ref (q0 33), .int (gI o0 34), .int (gI o0 35), .int (gI o0 36), .int (gI o0 37), .ref (q0 38), .ref (q0 39), .int (gI o0 40), .ref (q0 41), .ref (q0 42), .ref (q0 43), .ref (q0 44)])), kI G (q0 1) 6100 (gA o0 1), kI G (q0 2) 6100 (gA o0 2), kJ G (q0 3) 2016 (gB o0 3), kJ G (q0 4) 2016 (gB o0 4), kI G (q0 5) 300 (gA o0 5), kI G (q0 6) 400 (gA o0 6), kJ G (q0 28) 10 (gB o0 28), kI G (q0 31) 969 (gA o0 31), kI G (q0 32) 969 (gA o0 32), kI G (q0 33) 969 (gA o0 33), kI G (q0 38) 5 (gA o0 38), kI G (q0 39) 5120 (gA o0 39), kI G (q0 41) 5 (gA o0 41), kZ G (q0 42) 1024 (gA o0 42), kI G (q0 43) 8192 (gA o0 43), kI G (q0 44) 8192 (gA o0 44)]) (wr := []) (w2 := fun (u : Ob) => [(h0, .inr (11, [.int (gI u 0), .ref (q0 1), .ref (q0 2), .ref (q0 3), .ref (q0 4), .ref (q0 5), .ref (q0 6), .int (gI u 7), .int (gI u 8), .int (gI u 9), .int (gI u 10), .int (gI u 11), .int (gI u 12), .int (gI u 13), .int (gI u 14), .long (gL u 15), .int (gI u 16), .int (gI u 17), .int (gI u 18), .int (gI u 19), .int (gI u 20), .int (gI u 21), .int (gI u 22), .int (gI u 23), .int (gI u 24), .int (gI u 25), .int (gI u 26), .int (gI u 27), .ref (q0 28), .long (gL u 29), .int (gI u 30), .ref (q0 31), .ref (q0 32), .ref (q0 33), .int (gI u 34), .int (gI u 35), .int (gI u 36), .int (gI u 37), .ref (q0 38), .ref (q0 39), .int (gI u 40), .ref (q0 41), .ref (q0 42), .ref (q0 43), .ref (q0 44)])), kI G (q0 1) 6100 (gA u 1), kI G (q0 2) 6100 (gA u 2), kJ G (q0 3) 2016 (gB u 3), kJ G (q0 4) 2016 (gB u 4), kI G (q0 5) 300 (gA u 5), kI G (q0 6) 400 (gA u 6), kJ G (q0 28) 10 (gB u 28), kI G (q0 31) 969 (gA u 31), kI G (q0 32) 969 (gA u 32), kI G (q0 33) 969 (gA u 33), kI G (q0 38) 5 (gA u 38), kI G (q0 39) 5120 (gA u 39), kI G (q0 41) 5 (gA u 41), kZ G (q0 42) 1024 (gA u 42), kI G (q0 43) 8192 (gA u 43), kI G (q0 44) 8192 (gA u 44)]) C (c_Md_findShapes (h0 := h0) (q0 := q0) H.size h) wv_Md_276 ⟨Nat.le_of_ble_eq_true rfl, Nat.le_of_ble_eq_true rfl⟩ hP hD hS 0 rfl rfl [0, 1, 2, 3, 4, 5, 6, 7, 8, 9, 10, 11, 12, 13, 14, 15, 16] [] rfl rfl (by decide) (by decide) (by decide) [0, 1, 2, 3, 4, 5, 6, 7, 8, 9, 10, 11, 12, 13, 14, 15, 16] (by decide) (fun u => rfl) rfl hl.1 rfl (lv_room (Nat.le_of_ble_eq_true rfl)) d_Md_about_90 ⟨Nat.le_of_ble_eq_true rfl, Nat.le_of_ble_eq_true rfl⟩ rfl rfl (fun u H locs h hP hD hS => ?_)
    generalize u = u7 at h hP hD
    have hP : va_P G.1 CL [(h0, .inr (11, [.int (gI u7 0), .ref (q0 1), .ref (q0 2), .ref (q0 3), .ref (q0 4), .ref (q0 5), .ref (q0 6), .int (gI u7 7), .int (gI u7 8), .int (gI u7 9), .int (gI u7 10), .int (gI u7 11), .int (gI u7 12), .int (gI u7 13), .int (gI u7 14), .long (gL u7 15), .int (gI u7 16), .int (gI u7 17), .int (gI u7 18), .int (gI u7 19), .int (gI u7 20), .int (gI u7 21), .int (gI u7 22), .int (gI u7 23), .int (gI u7 24), .int (gI u7 25), .int (gI u7 26), .int (gI u7 27), .ref (q0 28), .long (gL u7 29), .int (gI u7 30), .ref (q0 31), .ref (q0 32), .ref (q0 33), .int (gI u7 34), .int (gI u7 35), .int (gI u7 36), .int (gI u7 37), .ref (q0 38), .ref (q0 39), .int (gI u7 40), .ref (q0 41), .ref (q0 42), .ref (q0 43), .ref (q0 44)])), kI G (q0 1) 6100 (gA u7 1), kI G (q0 2) 6100 (gA u7 2), kJ G (q0 3) 2016 (gB u7 3), kJ G (q0 4) 2016 (gB u7 4), kI G (q0 5) 300 (gA u7 5), kI G (q0 6) 400 (gA u7 6), kJ G (q0 28) 10 (gB u7 28), kI G (q0 31) 969 (gA u7 31), kI G (q0 32) 969 (gA u7 32), kI G (q0 33) 969 (gA u7 33), kI G (q0 38) 5 (gA u7 38), kI G (q0 39) 5120 (gA u7 39), kI G (q0 41) 5 (gA u7 41), kZ G (q0 42) 1024 (gA u7 42), kI G (q0 43) 8192 (gA u7 43), kI G (q0 44) 8192 (gA u7 44)] H := hP
    have hD : va_D A [(h0, .inr (11, [.int (gI u7 0), .ref (q0 1), .ref (q0 2), .ref (q0 3), .ref (q0 4), .ref (q0 5), .ref (q0 6), .int (gI u7 7), .int (gI u7 8), .int (gI u7 9), .int (gI u7 10), .int (gI u7 11), .int (gI u7 12), .int (gI u7 13), .int (gI u7 14), .long (gL u7 15), .int (gI u7 16), .int (gI u7 17), .int (gI u7 18), .int (gI u7 19), .int (gI u7 20), .int (gI u7 21), .int (gI u7 22), .int (gI u7 23), .int (gI u7 24), .int (gI u7 25), .int (gI u7 26), .int (gI u7 27), .ref (q0 28), .long (gL u7 29), .int (gI u7 30), .ref (q0 31), .ref (q0 32), .ref (q0 33), .int (gI u7 34), .int (gI u7 35), .int (gI u7 36), .int (gI u7 37), .ref (q0 38), .ref (q0 39), .int (gI u7 40), .ref (q0 41), .ref (q0 42), .ref (q0 43), .ref (q0 44)])), kI G (q0 1) 6100 (gA u7 1), kI G (q0 2) 6100 (gA u7 2), kJ G (q0 3) 2016 (gB u7 3), kJ G (q0 4) 2016 (gB u7 4), kI G (q0 5) 300 (gA u7 5), kI G (q0 6) 400 (gA u7 6), kJ G (q0 28) 10 (gB u7 28), kI G (q0 31) 969 (gA u7 31), kI G (q0 32) 969 (gA u7 32), kI G (q0 33) 969 (gA u7 33), kI G (q0 38) 5 (gA u7 38), kI G (q0 39) 5120 (gA u7 39), kI G (q0 41) 5 (gA u7 41), kZ G (q0 42) 1024 (gA u7 42), kI G (q0 43) 8192 (gA u7 43), kI G (q0 44) 8192 (gA u7 44)] := hD
    refine lv_aload_n hx hb d_Md_about_93 rfl (lv_at hl 0 rfl) ?_
    refine va_get (D := G.1) (ci := 11) (v := .int (gI u7 40)) (C := R_Md) (T := T_Md) (N := 45) hx hb hts i_Md hown hK hP 0 rfl rfl 40 (by decide) (hts _ wf_Md_273) (fun _ h9 => h9) rfl d_Md_about_94 ?_
    have hP : va_P G.1 CL (cw_Md G h0 q0 u7) H := hP
    have hD : va_D A (cw_Md G h0 q0 u7) := hD
    exact W.iret (v := (gI u7 40)) hx hb hr (fun t ht hW => ⟨⟨(gI u7 40), u7, rfl, h, by rw [ht]; exact hP, va_K.moved hW.alike hK, hD⟩, hS.F ht⟩) hS.2.2 d_Md_about_97
  have h := h.2 c6
  by_cases c8 : a0 = (6 : Int32)
  · have h := h.1 c8
    refine lv_tableIn (tgt := 98) hx hb d_Md_about_1 (by rw [c8]; decide) (by rw [c8]; decide) (off := 97) (by rw [c8]; rfl) (by decide) ?_
    refine lv_aload_n hx hb d_Md_about_98 rfl (lv_at hl 0 rfl) ?_
    refine va_get (D := G.1) (ci := 11) (v := .int (gI o0 7)) (C := R_Md) (T := T_Md) (N := 45) hx hb hts i_Md hown hK hP 0 rfl rfl 7 (by decide) (hts _ wf_Md_80) (fun _ h9 => h9) rfl d_Md_about_99 ?_
    have hP : va_P G.1 CL (cw_Md G h0 q0 o0) H := hP
    have hD : va_D A (cw_Md G h0 q0 o0) := hD
    exact W.iret (v := (gI o0 7)) hx hb hr (fun t ht hW => ⟨⟨(gI o0 7), o0, rfl, h, by rw [ht]; exact hP, va_K.moved hW.alike hK, hD⟩, hS.F ht⟩) hS.2.2 d_Md_about_102
  have h := h.2 c8
  by_cases c9 : a0 = (7 : Int32)
  · have h := h.1 c9
    refine lv_tableIn (tgt := 103) hx hb d_Md_about_1 (by rw [c9]; decide) (by rw [c9]; decide) (off := 102) (by rw [c9]; rfl) (by decide) ?_
    refine lv_aload_n hx hb d_Md_about_103 rfl (lv_at hl 0 rfl) ?_
    refine va_get (D := G.1) (ci := 11) (v := .ref (q0 1)) (C := R_Md) (T := T_Md) (N := 45) hx hb hts i_Md hown hK hP 0 rfl rfl 1 (by decide) (hts _ wf_Md_7) (fun _ h9 => h9) rfl d_Md_about_104 ?_
    refine lv_iconst (v := (4 : Int32)) hx hb d_Md_about_107 (by decide) ?_
    refine xa_iald hx hb hK hP 1 0 rfl rfl (vp_lit rfl) (k := 4) rfl d_Md_about_108 ?_
    have hP : va_P G.1 CL (cw_Md G h0 q0 o0) H := hP
    have hD : va_D A (cw_Md G h0 q0 o0) := hD
    exact W.iret (v := ((gA o0 1) 4)) hx hb hr (fun t ht hW => ⟨⟨((gA o0 1) 4), o0, rfl, h, by rw [ht]; exact hP, va_K.moved hW.alike hK, hD⟩, hS.F ht⟩) hS.2.2 d_Md_about_109
  have h := h.2 c9
  by_cases c10 : a0 = (8 : Int32)
  · have h := h.1 c10
    refine lv_tableIn (tgt := 110) hx hb d_Md_about_1 (by rw [c10]; decide) (by rw [c10]; decide) (off := 109) (by rw [c10]; rfl) (by decide) ?_
    refine lv_aload_n hx hb d_Md_about_110 rfl (lv_at hl 0 rfl) ?_
    refine va_get (D := G.1) (ci := 11) (v := .ref (q0 1)) (C := R_Md) (T := T_Md) (N := 45) hx hb hts i_Md hown hK hP 0 rfl rfl 1 (by decide) (hts _ wf_Md_7) (fun _ h9 => h9) rfl d_Md_about_111 ?_
    refine lv_iconst (v := (5 : Int32)) hx hb d_Md_about_114 (by decide) ?_
    refine xa_iald hx hb hK hP 1 0 rfl rfl (vp_lit rfl) (k := 5) rfl d_Md_about_115 ?_
    have hP : va_P G.1 CL (cw_Md G h0 q0 o0) H := hP
    have hD : va_D A (cw_Md G h0 q0 o0) := hD
    exact W.iret (v := ((gA o0 1) 5)) hx hb hr (fun t ht hW => ⟨⟨((gA o0 1) 5), o0, rfl, h, by rw [ht]; exact hP, va_K.moved hW.alike hK, hD⟩, hS.F ht⟩) hS.2.2 d_Md_about_116
  have h := h.2 c10
  by_cases c11 : a0 = (9 : Int32)
  · have h := h.1 c11
    refine lv_tableIn (tgt := 117) hx hb d_Md_about_1 (by rw [c11]; decide) (by rw [c11]; decide) (off := 116) (by rw [c11]; rfl) (by decide) ?_
    refine lv_aload_n hx hb d_Md_about_117 rfl (lv_at hl 0 rfl) ?_
    refine va_get (D := G.1) (ci := 11) (v := .ref (q0 1)) (C := R_Md) (T := T_Md) (N := 45) hx hb hts i_Md hown hK hP 0 rfl rfl 1 (by decide) (hts _ wf_Md_7) (fun _ h9 => h9) rfl d_Md_about_118 ?_
    refine lv_bipush (v := (6 : Int32)) hx hb d_Md_about_121 (by decide) ?_
    refine xa_iald hx hb hK hP 1 0 rfl rfl (vp_lit rfl) (k := 6) rfl d_Md_about_123 ?_
    have hP : va_P G.1 CL (cw_Md G h0 q0 o0) H := hP
    have hD : va_D A (cw_Md G h0 q0 o0) := hD
    exact W.iret (v := ((gA o0 1) 6)) hx hb hr (fun t ht hW => ⟨⟨((gA o0 1) 6), o0, rfl, h, by rw [ht]; exact hP, va_K.moved hW.alike hK, hD⟩, hS.F ht⟩) hS.2.2 d_Md_about_124
  have h := h.2 c11
  refine lv_tableOut (tgt := 125) hx hb d_Md_about_1 (sw_out a0 [(0 : Int32), (1 : Int32), (2 : Int32), (3 : Int32), (4 : Int32), (5 : Int32), (6 : Int32), (7 : Int32), (8 : Int32), (9 : Int32)] rfl (by intro k hk; simp only [List.mem_cons, List.not_mem_nil, or_false] at hk; rcases hk with rfl | rfl | rfl | rfl | rfl | rfl | rfl | rfl | rfl | rfl <;> assumption)) (by decide) ?_
  refine lv_iconst (v := (-1 : Int32)) hx hb d_Md_about_125 (by decide) ?_
  have hP : va_P G.1 CL (cw_Md G h0 q0 o0) H := hP
  have hD : va_D A (cw_Md G h0 q0 o0) := hD
  exact W.iret (v := (-1 : Int32)) hx hb hr (fun t ht hW => ⟨⟨(-1 : Int32), o0, rfl, h, by rw [ht]; exact hP, va_K.moved hW.alike hK, hD⟩, hS.F ht⟩) hS.2.2 d_Md_about_126
