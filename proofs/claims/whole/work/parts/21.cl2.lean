abbrev b_Sh_listChoices : ByteArray := prog_10_method_4_code
def y_Sh_listChoices : MethodName := ⟨R_Sh, "listChoices", "(I)I"⟩
abbrev w_Sh_listChoices : List Cond := Cond.code y_Sh_listChoices b_Sh_listChoices 4 (some .int) :: gw_tbl
theorem d_Sh_listChoices_0 : decode b_Sh_listChoices 0 = .ok (.iconst 0, 1) := by decide +kernel
theorem d_Sh_listChoices_1 : decode b_Sh_listChoices 1 = .ok (.istore_n 2, 1) := by decide +kernel
theorem d_Sh_listChoices_2 : decode b_Sh_listChoices 2 = .ok (.iconst 1, 1) := by decide +kernel
theorem d_Sh_listChoices_3 : decode b_Sh_listChoices 3 = .ok (.istore_n 3, 1) := by decide +kernel
theorem d_Sh_listChoices_4 : decode b_Sh_listChoices 4 = .ok (.iload_n 3, 1) := by decide +kernel
theorem d_Sh_listChoices_5 : decode b_Sh_listChoices 5 = .ok (.bipush 12, 2) := by decide +kernel
theorem d_Sh_listChoices_7 : decode b_Sh_listChoices 7 = .ok (.if_icmp .gt 41, 3) := by decide +kernel
theorem d_Sh_listChoices_10 : decode b_Sh_listChoices 10 = .ok (.iload_n 2, 1) := by decide +kernel
theorem d_Sh_listChoices_11 : decode b_Sh_listChoices 11 = .ok (.iconst 4, 1) := by decide +kernel
theorem d_Sh_listChoices_12 : decode b_Sh_listChoices 12 = .ok (.if_icmp .ge 36, 3) := by decide +kernel
theorem d_Sh_listChoices_15 : decode b_Sh_listChoices 15 = .ok (.aload_n 0, 1) := by decide +kernel
theorem d_Sh_listChoices_16 : decode b_Sh_listChoices 16 = .ok (.getfield 9, 3) := by decide +kernel
theorem d_Sh_listChoices_19 : decode b_Sh_listChoices 19 = .ok (.iload_n 1, 1) := by decide +kernel
theorem d_Sh_listChoices_20 : decode b_Sh_listChoices 20 = .ok (.iaload, 1) := by decide +kernel
theorem d_Sh_listChoices_21 : decode b_Sh_listChoices 21 = .ok (.iconst 1, 1) := by decide +kernel
theorem d_Sh_listChoices_22 : decode b_Sh_listChoices 22 = .ok (.iload_n 3, 1) := by decide +kernel
theorem d_Sh_listChoices_23 : decode b_Sh_listChoices 23 = .ok (.ishl, 1) := by decide +kernel
theorem d_Sh_listChoices_24 : decode b_Sh_listChoices 24 = .ok (.iand, 1) := by decide +kernel
theorem d_Sh_listChoices_25 : decode b_Sh_listChoices 25 = .ok (.ifCond .eq 17, 3) := by decide +kernel
theorem d_Sh_listChoices_28 : decode b_Sh_listChoices 28 = .ok (.aload_n 0, 1) := by decide +kernel
theorem d_Sh_listChoices_29 : decode b_Sh_listChoices 29 = .ok (.getfield 15, 3) := by decide +kernel
theorem d_Sh_listChoices_32 : decode b_Sh_listChoices 32 = .ok (.iload_n 1, 1) := by decide +kernel
theorem d_Sh_listChoices_33 : decode b_Sh_listChoices 33 = .ok (.iconst 4, 1) := by decide +kernel
theorem d_Sh_listChoices_34 : decode b_Sh_listChoices 34 = .ok (.imul, 1) := by decide +kernel
theorem d_Sh_listChoices_35 : decode b_Sh_listChoices 35 = .ok (.iload_n 2, 1) := by decide +kernel
theorem d_Sh_listChoices_36 : decode b_Sh_listChoices 36 = .ok (.iadd, 1) := by decide +kernel
theorem d_Sh_listChoices_37 : decode b_Sh_listChoices 37 = .ok (.iload_n 3, 1) := by decide +kernel
theorem d_Sh_listChoices_38 : decode b_Sh_listChoices 38 = .ok (.iastore, 1) := by decide +kernel
theorem d_Sh_listChoices_39 : decode b_Sh_listChoices 39 = .ok (.iinc 2 1, 3) := by decide +kernel
theorem d_Sh_listChoices_42 : decode b_Sh_listChoices 42 = .ok (.iinc 3 1, 3) := by decide +kernel
theorem d_Sh_listChoices_45 : decode b_Sh_listChoices 45 = .ok (.goto (-41), 3) := by decide +kernel
theorem d_Sh_listChoices_48 : decode b_Sh_listChoices 48 = .ok (.iload_n 2, 1) := by decide +kernel
theorem d_Sh_listChoices_49 : decode b_Sh_listChoices 49 = .ok (.ireturn, 1) := by decide +kernel
theorem wf_Sh_9 : Cond.fieldLink R_Sh 9 R_Sh "sets" "[I" ∈ gw_tbl := gw_tb (List.mem_of_getElem? (i := 402) (by decide +kernel)) rfl
theorem wf_Sh_15 : Cond.fieldLink R_Sh 15 R_Sh "choices" "[I" ∈ gw_tbl := gw_tb (List.mem_of_getElem? (i := 403) (by decide +kernel)) rfl
def f_Sh_listChoices_4 (r0 : (Nat → Nat)) (Q : Int32 → Ob → Prop) : Nat → Int32 → Int32 → Int32 → Ob → Prop
  | 0, _, _, _, _ => False
  | n + 1, x1, x2, x3, o0 => ((12 : Int32) < x3 → (Q x2 o0)) ∧ (¬ (12 : Int32) < x3 → (((4 : Int32) ≤ x2 → (Q x2 o0)) ∧ (¬ (4 : Int32) ≤ x2 → ((vp_in x1 5) ∧ (∀ y4 : Int32, y4 = (((gA o0 1) x1.toNatClampNeg) &&& ((1 : Int32) <<< (x3 &&& 31))) → ((y4 = 0 → ((f_Sh_listChoices_4 r0 Q n) x1 x2 (x3 + (1 : Int32)) o0)) ∧ (¬ y4 = 0 → ((vp_in ((x1 * (4 : Int32)) + x2) 20) ∧ ((f_Sh_listChoices_4 r0 Q n) x1 (x2 + (1 : Int32)) (x3 + (1 : Int32)) (sA o0 2 (upd (gA o0 2) (((x1 * (4 : Int32)) + x2).toNatClampNeg) x3)))))))))))
def f_Sh_listChoices (a0 : Int32) (r0 : (Nat → Nat)) (o0 : Ob) (Q : Int32 → Ob → Prop) : Prop := (∃ w, f_Sh_listChoices_4 r0 Q w a0 (0 : Int32) (1 : Int32) o0)
abbrev rm_Sh_listChoices : Room := { frames := 0, cells := 0, slots := 0, locals := 0 }
set_option maxHeartbeats 4000000 in
set_option maxRecDepth 100000 in
theorem t_Sh_listChoices_4 {p : Program} {l : Launch} {e : Env} {s : State} {m : MethodId} {args : Array Value} {below : List Frame} {meth : Method} {c : Code} {A : Nat → Prop} {G : Gl} {h0 : Nat} {q0 : Nat → Nat} (r0 : (Nat → Nat)) (Q : Int32 → Ob → Prop) (C : Cx p s m args meth c R_Sh b_Sh_listChoices 4 (some .int) G A) :
    ∀ (n : Nat) (x1 : Int32) (x2 : Int32) (x3 : Int32) (o0 : Ob) (ls : Array Slot) (H : Heap) (locs : List Loc), lv_has ls 4 [(0, .ref h0), (1, .int x1), (2, .int x2), (3, .int x3)] → va_P G.1 CL (cw_Sh G h0 q0 r0 o0) H → va_D A (cw_Sh G h0 q0 r0 o0) → va_S A s.heap H locs → f_Sh_listChoices_4 r0 Q n x1 x2 x3 o0 → W p l e rm_Sh_listChoices s m args below meth c H locs 0 0 (MQ below (va_Qi (fun (r : Int32) (u : Ob) => Q r u) (fun (u : Ob) t => BW G A (cw_Sh G h0 q0 r0 u) t) A) args s 0 0 A) (F0 m 4 ls []) := by
  obtain ⟨hx, hb, hml, hown, hr, hts, hK, hA, hlocks, hE⟩ := id C
  intro n
  induction n with
  | zero => intro x1 x2 x3 o0 ls H locs hl hP hD hS h; exact absurd h id
  | succ n ih =>
    intro x1 x2 x3 o0 ls H locs hl hP hD hS h
    have hP : va_P G.1 CL [(h0, .inr (9, [.int (gI o0 0), .ref (q0 1), .ref (q0 2), .ref (q0 3), .ref (q0 4), .ref (q0 5), .ref (q0 6), .ref (q0 7), .int (gI o0 8), .ref (r0 9), .int (gI o0 10), .ref (r0 11)])), kI G (q0 1) 5 (gA o0 1), kI G (q0 2) 20 (gA o0 2), kI G (q0 3) 5 (gA o0 3), kI G (q0 4) 5 (gA o0 4), kI G (q0 5) 5 (gA o0 5), kI G (q0 6) 5 (gA o0 6), kI G (q0 7) 5 (gA o0 7), kB G (r0 9) (r0 109) (gA o0 9), kI G (r0 11) (r0 111) (gA o0 11)] H := hP
    have hD : va_D A [(h0, .inr (9, [.int (gI o0 0), .ref (q0 1), .ref (q0 2), .ref (q0 3), .ref (q0 4), .ref (q0 5), .ref (q0 6), .ref (q0 7), .int (gI o0 8), .ref (r0 9), .int (gI o0 10), .ref (r0 11)])), kI G (q0 1) 5 (gA o0 1), kI G (q0 2) 20 (gA o0 2), kI G (q0 3) 5 (gA o0 3), kI G (q0 4) 5 (gA o0 4), kI G (q0 5) 5 (gA o0 5), kI G (q0 6) 5 (gA o0 6), kI G (q0 7) 5 (gA o0 7), kB G (r0 9) (r0 109) (gA o0 9), kI G (r0 11) (r0 111) (gA o0 11)] := hD
    unfold f_Sh_listChoices_4 at h
    refine lv_iload_n hx hb d_Sh_listChoices_4 rfl (lv_at hl 3 rfl) ?_
    refine lv_bipush (v := (12 : Int32)) hx hb d_Sh_listChoices_5 (by decide) ?_
    refine lv_icmp_gt (tgt := 48) hx hb d_Sh_listChoices_7 (by decide) (fun c1 => ?_) (fun c1 => ?_)
    · have h := h.1 c1
      refine lv_iload_n hx hb d_Sh_listChoices_48 rfl (lv_at hl 2 rfl) ?_
      have hP : va_P G.1 CL (cw_Sh G h0 q0 r0 o0) H := hP
      have hD : va_D A (cw_Sh G h0 q0 r0 o0) := hD
      exact W.iret (v := x2) hx hb hr (fun t ht hW => ⟨⟨x2, o0, rfl, h, by rw [ht]; exact hP, va_K.moved hW.alike hK, hD⟩, hS.F ht⟩) hS.2.2 d_Sh_listChoices_49
    · have h := h.2 c1
      refine lv_iload_n hx hb d_Sh_listChoices_10 rfl (lv_at hl 2 rfl) ?_
      refine lv_iconst (v := (4 : Int32)) hx hb d_Sh_listChoices_11 (by decide) ?_
      refine lv_icmp_ge (tgt := 48) hx hb d_Sh_listChoices_12 (by decide) (fun c2 => ?_) (fun c2 => ?_)
      · have h := h.1 c2
        refine lv_iload_n hx hb d_Sh_listChoices_48 rfl (lv_at hl 2 rfl) ?_
        have hP : va_P G.1 CL (cw_Sh G h0 q0 r0 o0) H := hP
        have hD : va_D A (cw_Sh G h0 q0 r0 o0) := hD
        exact W.iret (v := x2) hx hb hr (fun t ht hW => ⟨⟨x2, o0, rfl, h, by rw [ht]; exact hP, va_K.moved hW.alike hK, hD⟩, hS.F ht⟩) hS.2.2 d_Sh_listChoices_49
      · have h := h.2 c2
        refine lv_aload_n hx hb d_Sh_listChoices_15 rfl (lv_at hl 0 rfl) ?_
        refine va_get (D := G.1) (ci := 9) (v := .ref (q0 1)) (C := R_Sh) (T := T_Sh) (N := 12) hx hb hts i_Sh hown hK hP 0 rfl rfl 1 (by decide) (hts _ wf_Sh_9) (fun _ h9 => h9) rfl d_Sh_listChoices_16 ?_
        refine lv_iload_n hx hb d_Sh_listChoices_19 rfl (lv_at hl 1 rfl) ?_
        have g3 := h.1
        have h := h.2
        refine xa_iald hx hb hK hP 1 0 rfl rfl g3 (k := x1.toNatClampNeg) rfl d_Sh_listChoices_20 ?_
        refine lv_iconst (v := (1 : Int32)) hx hb d_Sh_listChoices_21 (by decide) ?_
        refine lv_iload_n hx hb d_Sh_listChoices_22 rfl (lv_at hl 3 rfl) ?_
        refine lv_ishl hx hb d_Sh_listChoices_23 ?_
        refine lv_iand hx hb d_Sh_listChoices_24 ?_
        refine lv_topi (fun y4 ey4 => ?_)
        have h := h y4 ey4
        refine lv_if_eq (tgt := 42) hx hb d_Sh_listChoices_25 (by decide) (fun c5 => ?_) (fun c5 => ?_)
        · have h := h.1 c5
          refine lv_iinc (v := (x3 + (1 : Int32))) (lv' := [(3, .int (x3 + (1 : Int32))), (0, .ref h0), (1, .int x1), (2, .int x2)]) hx hb d_Sh_listChoices_42 hl (k := 3) rfl rfl (by decide) rfl (fun ls hl => ?_)
          refine lv_goto (tgt := 4) hx hb d_Sh_listChoices_45 (by decide) ?_
          have hl := lv_sub (l' := [(0, .ref h0), (1, .int x1), (2, .int x2), (3, .int (x3 + (1 : Int32)))]) hl [1, 2, 3, 0] rfl
          have hP : va_P G.1 CL (cw_Sh G h0 q0 r0 o0) H := hP
          have hD : va_D A (cw_Sh G h0 q0 r0 o0) := hD
          exact ih x1 x2 (x3 + (1 : Int32)) o0 ls H locs hl hP hD hS h
        · have h := h.2 c5
          refine lv_aload_n hx hb d_Sh_listChoices_28 rfl (lv_at hl 0 rfl) ?_
          refine va_get (D := G.1) (ci := 9) (v := .ref (q0 2)) (C := R_Sh) (T := T_Sh) (N := 12) hx hb hts i_Sh hown hK hP 0 rfl rfl 2 (by decide) (hts _ wf_Sh_15) (fun _ h9 => h9) rfl d_Sh_listChoices_29 ?_
          refine lv_iload_n hx hb d_Sh_listChoices_32 rfl (lv_at hl 1 rfl) ?_
          refine lv_iconst (v := (4 : Int32)) hx hb d_Sh_listChoices_33 (by decide) ?_
          refine lv_imul hx hb d_Sh_listChoices_34 ?_
          refine lv_iload_n hx hb d_Sh_listChoices_35 rfl (lv_at hl 2 rfl) ?_
          refine lv_iadd hx hb d_Sh_listChoices_36 ?_
          refine lv_iload_n hx hb d_Sh_listChoices_37 rfl (lv_at hl 3 rfl) ?_
          have g6 := h.1
          have h := h.2
          refine xa_iast hx hb hK hP hD hS 2 0 rfl rfl g6 (k := ((x1 * (4 : Int32)) + x2).toNatClampNeg) rfl d_Sh_listChoices_38 (fun H locs hP hD hS => ?_)
          have hP : va_P G.1 CL [(h0, .inr (9, [.int (gI o0 0), .ref (q0 1), .ref (q0 2), .ref (q0 3), .ref (q0 4), .ref (q0 5), .ref (q0 6), .ref (q0 7), .int (gI o0 8), .ref (r0 9), .int (gI o0 10), .ref (r0 11)])), kI G (q0 1) 5 (gA o0 1), kI G (q0 2) 20 (upd (gA o0 2) (((x1 * (4 : Int32)) + x2).toNatClampNeg) x3), kI G (q0 3) 5 (gA o0 3), kI G (q0 4) 5 (gA o0 4), kI G (q0 5) 5 (gA o0 5), kI G (q0 6) 5 (gA o0 6), kI G (q0 7) 5 (gA o0 7), kB G (r0 9) (r0 109) (gA o0 9), kI G (r0 11) (r0 111) (gA o0 11)] H := hP
          have hD : va_D A [(h0, .inr (9, [.int (gI o0 0), .ref (q0 1), .ref (q0 2), .ref (q0 3), .ref (q0 4), .ref (q0 5), .ref (q0 6), .ref (q0 7), .int (gI o0 8), .ref (r0 9), .int (gI o0 10), .ref (r0 11)])), kI G (q0 1) 5 (gA o0 1), kI G (q0 2) 20 (upd (gA o0 2) (((x1 * (4 : Int32)) + x2).toNatClampNeg) x3), kI G (q0 3) 5 (gA o0 3), kI G (q0 4) 5 (gA o0 4), kI G (q0 5) 5 (gA o0 5), kI G (q0 6) 5 (gA o0 6), kI G (q0 7) 5 (gA o0 7), kB G (r0 9) (r0 109) (gA o0 9), kI G (r0 11) (r0 111) (gA o0 11)] := hD
          refine lv_iinc (v := (x2 + (1 : Int32))) (lv' := [(2, .int (x2 + (1 : Int32))), (0, .ref h0), (1, .int x1), (3, .int x3)]) hx hb d_Sh_listChoices_39 hl (k := 2) rfl rfl (by decide) rfl (fun ls hl => ?_)
          refine lv_iinc (v := (x3 + (1 : Int32))) (lv' := [(3, .int (x3 + (1 : Int32))), (2, .int (x2 + (1 : Int32))), (0, .ref h0), (1, .int x1)]) hx hb d_Sh_listChoices_42 hl (k := 3) rfl rfl (by decide) rfl (fun ls hl => ?_)
          refine lv_goto (tgt := 4) hx hb d_Sh_listChoices_45 (by decide) ?_
          have hl := lv_sub (l' := [(0, .ref h0), (1, .int x1), (2, .int (x2 + (1 : Int32))), (3, .int (x3 + (1 : Int32)))]) hl [2, 3, 1, 0] rfl
          have hP : va_P G.1 CL (cw_Sh G h0 q0 r0 (sA o0 2 (upd (gA o0 2) (((x1 * (4 : Int32)) + x2).toNatClampNeg) x3))) H := hP
          have hD : va_D A (cw_Sh G h0 q0 r0 (sA o0 2 (upd (gA o0 2) (((x1 * (4 : Int32)) + x2).toNatClampNeg) x3))) := hD
          exact ih x1 (x2 + (1 : Int32)) (x3 + (1 : Int32)) (sA o0 2 (upd (gA o0 2) (((x1 * (4 : Int32)) + x2).toNatClampNeg) x3)) ls H locs hl hP hD hS h
set_option maxHeartbeats 4000000 in
set_option maxRecDepth 100000 in
theorem c_Sh_listChoices {l : Launch} {G : Gl} {h0 : Nat} {q0 : Nat → Nat} {a0 : Int32} {r0 : (Nat → Nat)} {o0 : Ob} {Q : Int32 → Ob → Prop} (sz : Nat) (h : f_Sh_listChoices a0 r0 o0 Q) : Met l y_Sh_listChoices w_Sh_listChoices rm_Sh_listChoices (PcW G [.ref h0, .int a0] sz (cw_Sh G h0 q0 r0 o0)) (va_Qi (fun (r : Int32) (u : Ob) => Q r u) (fun (u : Ob) t => BW G (va_A (cw_Sh G h0 q0 r0 o0) sz) (cw_Sh G h0 q0 r0 u) t) (va_A (cw_Sh G h0 q0 r0 o0) sz)) 0 0 (va_A (cw_Sh G h0 q0 r0 o0) sz) := by
  refine Met.ofW (cc := b_Sh_listChoices) (maxL := 4) (ret := (some .int)) (by decide +kernel) rfl ?_
  intro p e s m args below meth c s₁ B hml hv
  obtain ⟨rfl, hsz, hP, hK, hD0, hE⟩ := hv
  have hx := B.exec
  have hb := B.bytes
  have hr := B.returns
  have hts0 := atoms_spec (ws := w_Sh_listChoices) B.pre
  have hts : ∀ w ∈ gw_tbl, w.before ([.ref h0, .int a0]).toArray s = true := fun w hw => hts0 w (List.mem_cons_of_mem _ hw)
  have hown : s.vm.findClass R_Sh = some m.cls := findClass_of_methodNamed B.named
  have hlocks := B.notSynchronized
  subst hsz
  have hD := hD0.self (sz := s.heap.size)
  generalize hAe : va_A (cw_Sh G h0 q0 r0 o0) s.heap.size = A at hD hE ⊢
  have hA : ∀ q : Nat, s.heap.size ≤ q → A q := fun q h => by rw [← hAe]; exact Or.inr h
  have hS : va_S A s.heap s.heap [] := va_S.rf
  have C : Cx p s m ([.ref h0, .int a0]).toArray meth c R_Sh b_Sh_listChoices 4 (some .int) G A := ⟨hx, hb, hml, hown, hr, hts, hK, hA, hlocks, hE⟩
  have hl := lv_entry ([.ref h0, .int a0]) (n := 4) (Nat.le_of_ble_eq_true rfl)
  rw [lg_entry_eq]
  generalize (lg_sl ([.ref h0, .int a0]) ++ List.replicate (4 - (lg_sl ([.ref h0, .int a0])).length) Slot.unset).toArray = ls at hl ⊢
  have hl : lv_has ls 4 [(0, .ref h0), (1, .int a0)] := hl
  have hD : va_D A [(h0, .inr (9, [.int (gI o0 0), .ref (q0 1), .ref (q0 2), .ref (q0 3), .ref (q0 4), .ref (q0 5), .ref (q0 6), .ref (q0 7), .int (gI o0 8), .ref (r0 9), .int (gI o0 10), .ref (r0 11)])), kI G (q0 1) 5 (gA o0 1), kI G (q0 2) 20 (gA o0 2), kI G (q0 3) 5 (gA o0 3), kI G (q0 4) 5 (gA o0 4), kI G (q0 5) 5 (gA o0 5), kI G (q0 6) 5 (gA o0 6), kI G (q0 7) 5 (gA o0 7), kB G (r0 9) (r0 109) (gA o0 9), kI G (r0 11) (r0 111) (gA o0 11)] := hD
  unfold f_Sh_listChoices at h
  suffices key : ∀ (H : Heap) (locs : List Loc), va_P G.1 CL [(h0, .inr (9, [.int (gI o0 0), .ref (q0 1), .ref (q0 2), .ref (q0 3), .ref (q0 4), .ref (q0 5), .ref (q0 6), .ref (q0 7), .int (gI o0 8), .ref (r0 9), .int (gI o0 10), .ref (r0 11)])), kI G (q0 1) 5 (gA o0 1), kI G (q0 2) 20 (gA o0 2), kI G (q0 3) 5 (gA o0 3), kI G (q0 4) 5 (gA o0 4), kI G (q0 5) 5 (gA o0 5), kI G (q0 6) 5 (gA o0 6), kI G (q0 7) 5 (gA o0 7), kB G (r0 9) (r0 109) (gA o0 9), kI G (r0 11) (r0 111) (gA o0 11)] H → va_S A s.heap H locs → W p l e rm_Sh_listChoices s m ([.ref h0, .int a0]).toArray below meth c H locs 0 0 (MQ below (va_Qi (fun (r : Int32) (u : Ob) => Q r u) (fun (u : Ob) t => BW G A (cw_Sh G h0 q0 r0 u) t) A) ([.ref h0, .int a0]).toArray s 0 0 A) (F0 m 0 ls []) from key s.heap [] hP hS
  intro H locs hP hS
  refine lv_iconst (v := (0 : Int32)) hx hb d_Sh_listChoices_0 (by decide) ?_
  refine lv_istore_n (lv' := [(2, .int (0 : Int32)), (0, .ref h0), (1, .int a0)]) hx hb d_Sh_listChoices_1 rfl hl (by decide) rfl (fun ls hl => ?_)
  refine lv_iconst (v := (1 : Int32)) hx hb d_Sh_listChoices_2 (by decide) ?_
  refine lv_istore_n (lv' := [(3, .int (1 : Int32)), (2, .int (0 : Int32)), (0, .ref h0), (1, .int a0)]) hx hb d_Sh_listChoices_3 rfl hl (by decide) rfl (fun ls hl => ?_)
  have hl := lv_sub (l' := [(0, .ref h0), (1, .int a0), (2, .int (0 : Int32)), (3, .int (1 : Int32))]) hl [2, 3, 1, 0] rfl
  have hP : va_P G.1 CL (cw_Sh G h0 q0 r0 o0) H := hP
  have hD : va_D A (cw_Sh G h0 q0 r0 o0) := hD
  obtain ⟨w, h⟩ := h
  exact t_Sh_listChoices_4 r0 Q C w a0 (0 : Int32) (1 : Int32) o0 ls _ locs hl hP hD hS h
abbrev b_Sh_widthIn : ByteArray := prog_10_method_6_code
def y_Sh_widthIn : MethodName := ⟨R_Sh, "widthIn", "(II)I"⟩
abbrev w_Sh_widthIn : List Cond := Cond.code y_Sh_widthIn b_Sh_widthIn 3 (some .int) :: gw_tbl
theorem d_Sh_widthIn_0 : decode b_Sh_widthIn 0 = .ok (.iload_n 1, 1) := by decide +kernel
theorem d_Sh_widthIn_1 : decode b_Sh_widthIn 1 = .ok (.ifCond .lt 23, 3) := by decide +kernel
theorem d_Sh_widthIn_4 : decode b_Sh_widthIn 4 = .ok (.aload_n 0, 1) := by decide +kernel
theorem d_Sh_widthIn_5 : decode b_Sh_widthIn 5 = .ok (.getfield 21, 3) := by decide +kernel
theorem d_Sh_widthIn_8 : decode b_Sh_widthIn 8 = .ok (.iload_n 2, 1) := by decide +kernel
theorem d_Sh_widthIn_9 : decode b_Sh_widthIn 9 = .ok (.iaload, 1) := by decide +kernel
theorem d_Sh_widthIn_10 : decode b_Sh_widthIn 10 = .ok (.iconst 1, 1) := by decide +kernel
theorem d_Sh_widthIn_11 : decode b_Sh_widthIn 11 = .ok (.if_icmp .lt 13, 3) := by decide +kernel
theorem d_Sh_widthIn_14 : decode b_Sh_widthIn 14 = .ok (.aload_n 0, 1) := by decide +kernel
theorem d_Sh_widthIn_15 : decode b_Sh_widthIn 15 = .ok (.getfield 18, 3) := by decide +kernel
theorem d_Sh_widthIn_18 : decode b_Sh_widthIn 18 = .ok (.iload_n 2, 1) := by decide +kernel
theorem d_Sh_widthIn_19 : decode b_Sh_widthIn 19 = .ok (.iaload, 1) := by decide +kernel
theorem d_Sh_widthIn_20 : decode b_Sh_widthIn 20 = .ok (.iconst 1, 1) := by decide +kernel
theorem d_Sh_widthIn_21 : decode b_Sh_widthIn 21 = .ok (.if_icmp .ge 5, 3) := by decide +kernel
theorem d_Sh_widthIn_24 : decode b_Sh_widthIn 24 = .ok (.iconst (-1), 1) := by decide +kernel
theorem d_Sh_widthIn_25 : decode b_Sh_widthIn 25 = .ok (.ireturn, 1) := by decide +kernel
theorem d_Sh_widthIn_26 : decode b_Sh_widthIn 26 = .ok (.aload_n 0, 1) := by decide +kernel
theorem d_Sh_widthIn_27 : decode b_Sh_widthIn 27 = .ok (.getfield 15, 3) := by decide +kernel
theorem d_Sh_widthIn_30 : decode b_Sh_widthIn 30 = .ok (.iload_n 2, 1) := by decide +kernel
theorem d_Sh_widthIn_31 : decode b_Sh_widthIn 31 = .ok (.iconst 4, 1) := by decide +kernel
theorem d_Sh_widthIn_32 : decode b_Sh_widthIn 32 = .ok (.imul, 1) := by decide +kernel
theorem d_Sh_widthIn_33 : decode b_Sh_widthIn 33 = .ok (.iload_n 1, 1) := by decide +kernel
theorem d_Sh_widthIn_34 : decode b_Sh_widthIn 34 = .ok (.aload_n 0, 1) := by decide +kernel
theorem d_Sh_widthIn_35 : decode b_Sh_widthIn 35 = .ok (.getfield 21, 3) := by decide +kernel
theorem d_Sh_widthIn_38 : decode b_Sh_widthIn 38 = .ok (.iload_n 2, 1) := by decide +kernel
theorem d_Sh_widthIn_39 : decode b_Sh_widthIn 39 = .ok (.iaload, 1) := by decide +kernel
theorem d_Sh_widthIn_40 : decode b_Sh_widthIn 40 = .ok (.idiv, 1) := by decide +kernel
theorem d_Sh_widthIn_41 : decode b_Sh_widthIn 41 = .ok (.aload_n 0, 1) := by decide +kernel
theorem d_Sh_widthIn_42 : decode b_Sh_widthIn 42 = .ok (.getfield 18, 3) := by decide +kernel
theorem d_Sh_widthIn_45 : decode b_Sh_widthIn 45 = .ok (.iload_n 2, 1) := by decide +kernel
theorem d_Sh_widthIn_46 : decode b_Sh_widthIn 46 = .ok (.iaload, 1) := by decide +kernel
theorem d_Sh_widthIn_47 : decode b_Sh_widthIn 47 = .ok (.irem, 1) := by decide +kernel
theorem d_Sh_widthIn_48 : decode b_Sh_widthIn 48 = .ok (.iadd, 1) := by decide +kernel
theorem d_Sh_widthIn_49 : decode b_Sh_widthIn 49 = .ok (.iaload, 1) := by decide +kernel
theorem d_Sh_widthIn_50 : decode b_Sh_widthIn 50 = .ok (.ireturn, 1) := by decide +kernel
theorem wf_Sh_21 : Cond.fieldLink R_Sh 21 R_Sh "strides" "[I" ∈ gw_tbl := gw_tb (List.mem_of_getElem? (i := 405) (by decide +kernel)) rfl
theorem wf_Sh_18 : Cond.fieldLink R_Sh 18 R_Sh "sizes" "[I" ∈ gw_tbl := gw_tb (List.mem_of_getElem? (i := 404) (by decide +kernel)) rfl
def f_Sh_widthIn (a0 : Int32) (a1 : Int32) (r0 : (Nat → Nat)) (o0 : Ob) (Q : Int32 → Prop) : Prop := (a0 < 0 → (Q (-1 : Int32))) ∧ (¬ a0 < 0 → ((vp_in a1 5) ∧ ((((gA o0 4) a1.toNatClampNeg) < (1 : Int32) → (Q (-1 : Int32))) ∧ (¬ ((gA o0 4) a1.toNatClampNeg) < (1 : Int32) → ((vp_in a1 5) ∧ (((1 : Int32) ≤ ((gA o0 3) a1.toNatClampNeg) → ((vp_in a1 5) ∧ ((¬ ((gA o0 4) a1.toNatClampNeg) = 0) ∧ ((vp_in a1 5) ∧ ((¬ ((gA o0 3) a1.toNatClampNeg) = 0) ∧ (∀ y10 : Int32, y10 = ((a0 / ((gA o0 4) a1.toNatClampNeg)) - (a0 / ((gA o0 4) a1.toNatClampNeg)) / ((gA o0 3) a1.toNatClampNeg) * ((gA o0 3) a1.toNatClampNeg)) → ((vp_in ((a1 * (4 : Int32)) + y10) 20) ∧ (∀ y12 : Int32, y12 = ((gA o0 2) (((a1 * (4 : Int32)) + y10).toNatClampNeg)) → (Q y12))))))))) ∧ (¬ (1 : Int32) ≤ ((gA o0 3) a1.toNatClampNeg) → (Q (-1 : Int32)))))))))
abbrev rm_Sh_widthIn : Room := { frames := 0, cells := 0, slots := 0, locals := 0 }
set_option maxHeartbeats 4000000 in
set_option maxRecDepth 100000 in
theorem c_Sh_widthIn {l : Launch} {G : Gl} {h0 : Nat} {q0 : Nat → Nat} {a0 : Int32} {a1 : Int32} {r0 : (Nat → Nat)} {o0 : Ob} {Q : Int32 → Prop} (sz : Nat) (h : f_Sh_widthIn a0 a1 r0 o0 Q) : Met l y_Sh_widthIn w_Sh_widthIn rm_Sh_widthIn (PcW G [.ref h0, .int a0, .int a1] sz (cw_Sh G h0 q0 r0 o0)) (va_Qi (fun (r : Int32) (u : Unit) => Q r) (fun (u : Unit) t => BW G (va_A (cw_Sh G h0 q0 r0 o0) sz) (cw_Sh G h0 q0 r0 o0) t) (va_A (cw_Sh G h0 q0 r0 o0) sz)) 0 0 (va_A (cw_Sh G h0 q0 r0 o0) sz) := by
  refine Met.ofW (cc := b_Sh_widthIn) (maxL := 3) (ret := (some .int)) (by decide +kernel) rfl ?_
  intro p e s m args below meth c s₁ B hml hv
  obtain ⟨rfl, hsz, hP, hK, hD0, hE⟩ := hv
  have hx := B.exec
  have hb := B.bytes
  have hr := B.returns
  have hts0 := atoms_spec (ws := w_Sh_widthIn) B.pre
  have hts : ∀ w ∈ gw_tbl, w.before ([.ref h0, .int a0, .int a1]).toArray s = true := fun w hw => hts0 w (List.mem_cons_of_mem _ hw)
  have hown : s.vm.findClass R_Sh = some m.cls := findClass_of_methodNamed B.named
  have hlocks := B.notSynchronized
  subst hsz
  have hD := hD0.self (sz := s.heap.size)
  generalize hAe : va_A (cw_Sh G h0 q0 r0 o0) s.heap.size = A at hD hE ⊢
  have hA : ∀ q : Nat, s.heap.size ≤ q → A q := fun q h => by rw [← hAe]; exact Or.inr h
  have hS : va_S A s.heap s.heap [] := va_S.rf
  have C : Cx p s m ([.ref h0, .int a0, .int a1]).toArray meth c R_Sh b_Sh_widthIn 3 (some .int) G A := ⟨hx, hb, hml, hown, hr, hts, hK, hA, hlocks, hE⟩
  have hl := lv_entry ([.ref h0, .int a0, .int a1]) (n := 3) (Nat.le_of_ble_eq_true rfl)
  rw [lg_entry_eq]
  generalize (lg_sl ([.ref h0, .int a0, .int a1]) ++ List.replicate (3 - (lg_sl ([.ref h0, .int a0, .int a1])).length) Slot.unset).toArray = ls at hl ⊢
  have hl : lv_has ls 3 [(0, .ref h0), (1, .int a0), (2, .int a1)] := hl
  have hD : va_D A [(h0, .inr (9, [.int (gI o0 0), .ref (q0 1), .ref (q0 2), .ref (q0 3), .ref (q0 4), .ref (q0 5), .ref (q0 6), .ref (q0 7), .int (gI o0 8), .ref (r0 9), .int (gI o0 10), .ref (r0 11)])), kI G (q0 1) 5 (gA o0 1), kI G (q0 2) 20 (gA o0 2), kI G (q0 3) 5 (gA o0 3), kI G (q0 4) 5 (gA o0 4), kI G (q0 5) 5 (gA o0 5), kI G (q0 6) 5 (gA o0 6), kI G (q0 7) 5 (gA o0 7), kB G (r0 9) (r0 109) (gA o0 9), kI G (r0 11) (r0 111) (gA o0 11)] := hD
  unfold f_Sh_widthIn at h
  suffices key : ∀ (H : Heap) (locs : List Loc), va_P G.1 CL [(h0, .inr (9, [.int (gI o0 0), .ref (q0 1), .ref (q0 2), .ref (q0 3), .ref (q0 4), .ref (q0 5), .ref (q0 6), .ref (q0 7), .int (gI o0 8), .ref (r0 9), .int (gI o0 10), .ref (r0 11)])), kI G (q0 1) 5 (gA o0 1), kI G (q0 2) 20 (gA o0 2), kI G (q0 3) 5 (gA o0 3), kI G (q0 4) 5 (gA o0 4), kI G (q0 5) 5 (gA o0 5), kI G (q0 6) 5 (gA o0 6), kI G (q0 7) 5 (gA o0 7), kB G (r0 9) (r0 109) (gA o0 9), kI G (r0 11) (r0 111) (gA o0 11)] H → va_S A s.heap H locs → W p l e rm_Sh_widthIn s m ([.ref h0, .int a0, .int a1]).toArray below meth c H locs 0 0 (MQ below (va_Qi (fun (r : Int32) (u : Unit) => Q r) (fun (u : Unit) t => BW G A (cw_Sh G h0 q0 r0 o0) t) A) ([.ref h0, .int a0, .int a1]).toArray s 0 0 A) (F0 m 0 ls []) from key s.heap [] hP hS
  intro H locs hP hS
  refine lv_iload_n hx hb d_Sh_widthIn_0 rfl (lv_at hl 1 rfl) ?_
  refine lv_if_lt (tgt := 24) hx hb d_Sh_widthIn_1 (by decide) (fun c1 => ?_) (fun c1 => ?_)
  · have h := h.1 c1
    refine lv_iconst (v := (-1 : Int32)) hx hb d_Sh_widthIn_24 (by decide) ?_
    have hP : va_P G.1 CL (cw_Sh G h0 q0 r0 o0) H := hP
    have hD : va_D A (cw_Sh G h0 q0 r0 o0) := hD
    exact W.iret (v := (-1 : Int32)) hx hb hr (fun t ht hW => ⟨⟨(-1 : Int32), (), rfl, h, by rw [ht]; exact hP, va_K.moved hW.alike hK, hD⟩, hS.F ht⟩) hS.2.2 d_Sh_widthIn_25
  · have h := h.2 c1
    refine lv_aload_n hx hb d_Sh_widthIn_4 rfl (lv_at hl 0 rfl) ?_
    refine va_get (D := G.1) (ci := 9) (v := .ref (q0 4)) (C := R_Sh) (T := T_Sh) (N := 12) hx hb hts i_Sh hown hK hP 0 rfl rfl 4 (by decide) (hts _ wf_Sh_21) (fun _ h9 => h9) rfl d_Sh_widthIn_5 ?_
    refine lv_iload_n hx hb d_Sh_widthIn_8 rfl (lv_at hl 2 rfl) ?_
    have g2 := h.1
    have h := h.2
    refine xa_iald hx hb hK hP 4 0 rfl rfl g2 (k := a1.toNatClampNeg) rfl d_Sh_widthIn_9 ?_
    refine lv_iconst (v := (1 : Int32)) hx hb d_Sh_widthIn_10 (by decide) ?_
    refine lv_icmp_lt (tgt := 24) hx hb d_Sh_widthIn_11 (by decide) (fun c3 => ?_) (fun c3 => ?_)
    · have h := h.1 c3
      refine lv_iconst (v := (-1 : Int32)) hx hb d_Sh_widthIn_24 (by decide) ?_
      have hP : va_P G.1 CL (cw_Sh G h0 q0 r0 o0) H := hP
      have hD : va_D A (cw_Sh G h0 q0 r0 o0) := hD
      exact W.iret (v := (-1 : Int32)) hx hb hr (fun t ht hW => ⟨⟨(-1 : Int32), (), rfl, h, by rw [ht]; exact hP, va_K.moved hW.alike hK, hD⟩, hS.F ht⟩) hS.2.2 d_Sh_widthIn_25
    · have h := h.2 c3
      refine lv_aload_n hx hb d_Sh_widthIn_14 rfl (lv_at hl 0 rfl) ?_
      refine va_get (D := G.1) (ci := 9) (v := .ref (q0 3)) (C := R_Sh) (T := T_Sh) (N := 12) hx hb hts i_Sh hown hK hP 0 rfl rfl 3 (by decide) (hts _ wf_Sh_18) (fun _ h9 => h9) rfl d_Sh_widthIn_15 ?_
      refine lv_iload_n hx hb d_Sh_widthIn_18 rfl (lv_at hl 2 rfl) ?_
      have g4 := h.1
      have h := h.2
      refine xa_iald hx hb hK hP 3 0 rfl rfl g4 (k := a1.toNatClampNeg) rfl d_Sh_widthIn_19 ?_
      refine lv_iconst (v := (1 : Int32)) hx hb d_Sh_widthIn_20 (by decide) ?_
      refine lv_icmp_ge (tgt := 26) hx hb d_Sh_widthIn_21 (by decide) (fun c5 => ?_) (fun c5 => ?_)
      · have h := h.1 c5
        refine lv_aload_n hx hb d_Sh_widthIn_26 rfl (lv_at hl 0 rfl) ?_
        refine va_get (D := G.1) (ci := 9) (v := .ref (q0 2)) (C := R_Sh) (T := T_Sh) (N := 12) hx hb hts i_Sh hown hK hP 0 rfl rfl 2 (by decide) (hts _ wf_Sh_15) (fun _ h9 => h9) rfl d_Sh_widthIn_27 ?_
        refine lv_iload_n hx hb d_Sh_widthIn_30 rfl (lv_at hl 2 rfl) ?_
        refine lv_iconst (v := (4 : Int32)) hx hb d_Sh_widthIn_31 (by decide) ?_
        refine lv_imul hx hb d_Sh_widthIn_32 ?_
        refine lv_iload_n hx hb d_Sh_widthIn_33 rfl (lv_at hl 1 rfl) ?_
        refine lv_aload_n hx hb d_Sh_widthIn_34 rfl (lv_at hl 0 rfl) ?_
        refine va_get (D := G.1) (ci := 9) (v := .ref (q0 4)) (C := R_Sh) (T := T_Sh) (N := 12) hx hb hts i_Sh hown hK hP 0 rfl rfl 4 (by decide) (hts _ wf_Sh_21) (fun _ h9 => h9) rfl d_Sh_widthIn_35 ?_
        refine lv_iload_n hx hb d_Sh_widthIn_38 rfl (lv_at hl 2 rfl) ?_
        have g6 := h.1
        have h := h.2
        refine xa_iald hx hb hK hP 4 0 rfl rfl g6 (k := a1.toNatClampNeg) rfl d_Sh_widthIn_39 ?_
        have g7 := h.1
        have h := h.2
        refine lv_idiv hx hb d_Sh_widthIn_40 g7 ?_
        refine lv_aload_n hx hb d_Sh_widthIn_41 rfl (lv_at hl 0 rfl) ?_
        refine va_get (D := G.1) (ci := 9) (v := .ref (q0 3)) (C := R_Sh) (T := T_Sh) (N := 12) hx hb hts i_Sh hown hK hP 0 rfl rfl 3 (by decide) (hts _ wf_Sh_18) (fun _ h9 => h9) rfl d_Sh_widthIn_42 ?_
        refine lv_iload_n hx hb d_Sh_widthIn_45 rfl (lv_at hl 2 rfl) ?_
        have g8 := h.1
        have h := h.2
        refine xa_iald hx hb hK hP 3 0 rfl rfl g8 (k := a1.toNatClampNeg) rfl d_Sh_widthIn_46 ?_
        have g9 := h.1
        have h := h.2
        refine lv_irem hx hb d_Sh_widthIn_47 g9 ?_
        refine lv_topi (fun y10 ey10 => ?_)
        have h := h y10 ey10
        refine lv_iadd hx hb d_Sh_widthIn_48 ?_
        have g11 := h.1
        have h := h.2
        refine xa_iald hx hb hK hP 2 0 rfl rfl g11 (k := ((a1 * (4 : Int32)) + y10).toNatClampNeg) rfl d_Sh_widthIn_49 ?_
        refine lv_topi (fun y12 ey12 => ?_)
        have h := h y12 ey12
        have hP : va_P G.1 CL (cw_Sh G h0 q0 r0 o0) H := hP
        have hD : va_D A (cw_Sh G h0 q0 r0 o0) := hD
        exact W.iret (v := y12) hx hb hr (fun t ht hW => ⟨⟨y12, (), rfl, h, by rw [ht]; exact hP, va_K.moved hW.alike hK, hD⟩, hS.F ht⟩) hS.2.2 d_Sh_widthIn_50
      · have h := h.2 c5
        refine lv_iconst (v := (-1 : Int32)) hx hb d_Sh_widthIn_24 (by decide) ?_
        have hP : va_P G.1 CL (cw_Sh G h0 q0 r0 o0) H := hP
        have hD : va_D A (cw_Sh G h0 q0 r0 o0) := hD
        exact W.iret (v := (-1 : Int32)) hx hb hr (fun t ht hW => ⟨⟨(-1 : Int32), (), rfl, h, by rw [ht]; exact hP, va_K.moved hW.alike hK, hD⟩, hS.F ht⟩) hS.2.2 d_Sh_widthIn_25
abbrev b_Sh_fits : ByteArray := prog_10_method_7_code
def y_Sh_fits : MethodName := ⟨R_Sh, "fits", "(I)Z"⟩
abbrev w_Sh_fits : List Cond := Cond.code y_Sh_fits b_Sh_fits 4 (some .boolean) :: gw_tbl
theorem d_Sh_fits_0 : decode b_Sh_fits 0 = .ok (.iconst 0, 1) := by decide +kernel
theorem d_Sh_fits_1 : decode b_Sh_fits 1 = .ok (.istore_n 2, 1) := by decide +kernel
theorem d_Sh_fits_2 : decode b_Sh_fits 2 = .ok (.iload_n 2, 1) := by decide +kernel
theorem d_Sh_fits_3 : decode b_Sh_fits 3 = .ok (.iconst 5, 1) := by decide +kernel
theorem d_Sh_fits_4 : decode b_Sh_fits 4 = .ok (.if_icmp .ge 60, 3) := by decide +kernel
theorem d_Sh_fits_7 : decode b_Sh_fits 7 = .ok (.aload_n 0, 1) := by decide +kernel
theorem d_Sh_fits_8 : decode b_Sh_fits 8 = .ok (.getfield 27, 3) := by decide +kernel
theorem d_Sh_fits_11 : decode b_Sh_fits 11 = .ok (.iload_n 2, 1) := by decide +kernel
theorem d_Sh_fits_12 : decode b_Sh_fits 12 = .ok (.iaload, 1) := by decide +kernel
theorem d_Sh_fits_13 : decode b_Sh_fits 13 = .ok (.aload_n 0, 1) := by decide +kernel
theorem d_Sh_fits_14 : decode b_Sh_fits 14 = .ok (.getfield 30, 3) := by decide +kernel
theorem d_Sh_fits_17 : decode b_Sh_fits 17 = .ok (.iload_n 2, 1) := by decide +kernel
theorem d_Sh_fits_18 : decode b_Sh_fits 18 = .ok (.iaload, 1) := by decide +kernel
theorem d_Sh_fits_19 : decode b_Sh_fits 19 = .ok (.if_icmp .gt 39, 3) := by decide +kernel
theorem d_Sh_fits_22 : decode b_Sh_fits 22 = .ok (.aload_n 0, 1) := by decide +kernel
theorem d_Sh_fits_23 : decode b_Sh_fits 23 = .ok (.getfield 33, 3) := by decide +kernel
theorem d_Sh_fits_26 : decode b_Sh_fits 26 = .ok (.iload_n 2, 1) := by decide +kernel
theorem d_Sh_fits_27 : decode b_Sh_fits 27 = .ok (.aload_n 0, 1) := by decide +kernel
theorem d_Sh_fits_28 : decode b_Sh_fits 28 = .ok (.getfield 69, 3) := by decide +kernel
theorem d_Sh_fits_31 : decode b_Sh_fits 31 = .ok (.imul, 1) := by decide +kernel
theorem d_Sh_fits_32 : decode b_Sh_fits 32 = .ok (.iload_n 1, 1) := by decide +kernel
theorem d_Sh_fits_33 : decode b_Sh_fits 33 = .ok (.iadd, 1) := by decide +kernel
theorem d_Sh_fits_34 : decode b_Sh_fits 34 = .ok (.baload, 1) := by decide +kernel
theorem d_Sh_fits_35 : decode b_Sh_fits 35 = .ok (.istore_n 3, 1) := by decide +kernel
theorem d_Sh_fits_36 : decode b_Sh_fits 36 = .ok (.iload_n 3, 1) := by decide +kernel
theorem d_Sh_fits_37 : decode b_Sh_fits 37 = .ok (.aload_n 0, 1) := by decide +kernel
theorem d_Sh_fits_38 : decode b_Sh_fits 38 = .ok (.getfield 27, 3) := by decide +kernel
theorem d_Sh_fits_41 : decode b_Sh_fits 41 = .ok (.iload_n 2, 1) := by decide +kernel
theorem d_Sh_fits_42 : decode b_Sh_fits 42 = .ok (.iaload, 1) := by decide +kernel
theorem d_Sh_fits_43 : decode b_Sh_fits 43 = .ok (.if_icmp .lt 13, 3) := by decide +kernel
theorem d_Sh_fits_46 : decode b_Sh_fits 46 = .ok (.iload_n 3, 1) := by decide +kernel
theorem d_Sh_fits_47 : decode b_Sh_fits 47 = .ok (.aload_n 0, 1) := by decide +kernel
theorem d_Sh_fits_48 : decode b_Sh_fits 48 = .ok (.getfield 30, 3) := by decide +kernel
theorem d_Sh_fits_51 : decode b_Sh_fits 51 = .ok (.iload_n 2, 1) := by decide +kernel
theorem d_Sh_fits_52 : decode b_Sh_fits 52 = .ok (.iaload, 1) := by decide +kernel
theorem d_Sh_fits_53 : decode b_Sh_fits 53 = .ok (.if_icmp .le 5, 3) := by decide +kernel
theorem d_Sh_fits_56 : decode b_Sh_fits 56 = .ok (.iconst 0, 1) := by decide +kernel
theorem d_Sh_fits_57 : decode b_Sh_fits 57 = .ok (.ireturn, 1) := by decide +kernel
theorem d_Sh_fits_58 : decode b_Sh_fits 58 = .ok (.iinc 2 1, 3) := by decide +kernel
theorem d_Sh_fits_61 : decode b_Sh_fits 61 = .ok (.goto (-59), 3) := by decide +kernel
theorem d_Sh_fits_64 : decode b_Sh_fits 64 = .ok (.iconst 1, 1) := by decide +kernel
theorem d_Sh_fits_65 : decode b_Sh_fits 65 = .ok (.ireturn, 1) := by decide +kernel
theorem wf_Sh_27 : Cond.fieldLink R_Sh 27 R_Sh "low" "[I" ∈ gw_tbl := gw_tb (List.mem_of_getElem? (i := 407) (by decide +kernel)) rfl
theorem wf_Sh_30 : Cond.fieldLink R_Sh 30 R_Sh "high" "[I" ∈ gw_tbl := gw_tb (List.mem_of_getElem? (i := 408) (by decide +kernel)) rfl
theorem wf_Sh_33 : Cond.fieldLink R_Sh 33 R_Sh "boxes" "[B" ∈ gw_tbl := gw_tb (List.mem_of_getElem? (i := 410) (by decide +kernel)) rfl
theorem wf_Sh_69 : Cond.fieldLink R_Sh 69 R_Sh "total" "I" ∈ gw_tbl := gw_tb (List.mem_of_getElem? (i := 409) (by decide +kernel)) rfl
def f_Sh_fits_2 (r0 : (Nat → Nat)) (o0 : Ob) (Q : Int32 → Prop) : Nat → Int32 → Int32 → Prop
  | 0, _, _ => False
  | n + 1, x1, x2 => ((5 : Int32) ≤ x2 → (Q (1 : Int32))) ∧ (¬ (5 : Int32) ≤ x2 → ((vp_in x2 5) ∧ ((vp_in x2 5) ∧ ((((gA o0 7) x2.toNatClampNeg) < ((gA o0 6) x2.toNatClampNeg) → ((f_Sh_fits_2 r0 o0 Q n) x1 (x2 + (1 : Int32)))) ∧ (¬ ((gA o0 7) x2.toNatClampNeg) < ((gA o0 6) x2.toNatClampNeg) → ((vp_in ((x2 * (gI o0 8)) + x1) (r0 109)) ∧ (∀ y6 : Int32, y6 = ((gA o0 9) (((x2 * (gI o0 8)) + x1).toNatClampNeg)) → ((vp_in x2 5) ∧ ((y6 < ((gA o0 6) x2.toNatClampNeg) → (Q (0 : Int32))) ∧ (¬ y6 < ((gA o0 6) x2.toNatClampNeg) → ((vp_in x2 5) ∧ ((y6 ≤ ((gA o0 7) x2.toNatClampNeg) → ((f_Sh_fits_2 r0 o0 Q n) x1 (x2 + (1 : Int32)))) ∧ (¬ y6 ≤ ((gA o0 7) x2.toNatClampNeg) → (Q (0 : Int32)))))))))))))))
def f_Sh_fits (a0 : Int32) (r0 : (Nat → Nat)) (o0 : Ob) (Q : Int32 → Prop) : Prop := (∃ w, f_Sh_fits_2 r0 o0 Q w a0 (0 : Int32))
abbrev rm_Sh_fits : Room := { frames := 0, cells := 0, slots := 0, locals := 0 }
set_option maxHeartbeats 4000000 in
set_option maxRecDepth 100000 in
theorem t_Sh_fits_2 {p : Program} {l : Launch} {e : Env} {s : State} {m : MethodId} {args : Array Value} {below : List Frame} {meth : Method} {c : Code} {A : Nat → Prop} {G : Gl} {h0 : Nat} {q0 : Nat → Nat} (r0 : (Nat → Nat)) (o0 : Ob) (Q : Int32 → Prop) (C : Cx p s m args meth c R_Sh b_Sh_fits 4 (some .boolean) G A) :
    ∀ (n : Nat) (x1 : Int32) (x2 : Int32) (ls : Array Slot) (H : Heap) (locs : List Loc), lv_has ls 4 [(0, .ref h0), (1, .int x1), (2, .int x2)] → va_P G.1 CL (cw_Sh G h0 q0 r0 o0) H → va_D A (cw_Sh G h0 q0 r0 o0) → va_S A s.heap H locs → f_Sh_fits_2 r0 o0 Q n x1 x2 → W p l e rm_Sh_fits s m args below meth c H locs 0 0 (MQ below (va_Qi (fun (r : Int32) (u : Unit) => Q r) (fun (u : Unit) t => BW G A (cw_Sh G h0 q0 r0 o0) t) A) args s 0 0 A) (F0 m 2 ls []) := by
  obtain ⟨hx, hb, hml, hown, hr, hts, hK, hA, hlocks, hE⟩ := id C
  intro n
  induction n with
  | zero => intro x1 x2 ls H locs hl hP hD hS h; exact absurd h id
  | succ n ih =>
    intro x1 x2 ls H locs hl hP hD hS h
    have hP : va_P G.1 CL [(h0, .inr (9, [.int (gI o0 0), .ref (q0 1), .ref (q0 2), .ref (q0 3), .ref (q0 4), .ref (q0 5), .ref (q0 6), .ref (q0 7), .int (gI o0 8), .ref (r0 9), .int (gI o0 10), .ref (r0 11)])), kI G (q0 1) 5 (gA o0 1), kI G (q0 2) 20 (gA o0 2), kI G (q0 3) 5 (gA o0 3), kI G (q0 4) 5 (gA o0 4), kI G (q0 5) 5 (gA o0 5), kI G (q0 6) 5 (gA o0 6), kI G (q0 7) 5 (gA o0 7), kB G (r0 9) (r0 109) (gA o0 9), kI G (r0 11) (r0 111) (gA o0 11)] H := hP
    have hD : va_D A [(h0, .inr (9, [.int (gI o0 0), .ref (q0 1), .ref (q0 2), .ref (q0 3), .ref (q0 4), .ref (q0 5), .ref (q0 6), .ref (q0 7), .int (gI o0 8), .ref (r0 9), .int (gI o0 10), .ref (r0 11)])), kI G (q0 1) 5 (gA o0 1), kI G (q0 2) 20 (gA o0 2), kI G (q0 3) 5 (gA o0 3), kI G (q0 4) 5 (gA o0 4), kI G (q0 5) 5 (gA o0 5), kI G (q0 6) 5 (gA o0 6), kI G (q0 7) 5 (gA o0 7), kB G (r0 9) (r0 109) (gA o0 9), kI G (r0 11) (r0 111) (gA o0 11)] := hD
    unfold f_Sh_fits_2 at h
    refine lv_iload_n hx hb d_Sh_fits_2 rfl (lv_at hl 2 rfl) ?_
    refine lv_iconst (v := (5 : Int32)) hx hb d_Sh_fits_3 (by decide) ?_
    refine lv_icmp_ge (tgt := 64) hx hb d_Sh_fits_4 (by decide) (fun c1 => ?_) (fun c1 => ?_)
    · have h := h.1 c1
      refine lv_iconst (v := (1 : Int32)) hx hb d_Sh_fits_64 (by decide) ?_
      have hP : va_P G.1 CL (cw_Sh G h0 q0 r0 o0) H := hP
      have hD : va_D A (cw_Sh G h0 q0 r0 o0) := hD
      exact W.zret (v := (1 : Int32)) hx hb hr rfl (fun t ht hW => ⟨⟨(1 : Int32), (), rfl, h, by rw [ht]; exact hP, va_K.moved hW.alike hK, hD⟩, hS.F ht⟩) hS.2.2 d_Sh_fits_65
    · have h := h.2 c1
      refine lv_aload_n hx hb d_Sh_fits_7 rfl (lv_at hl 0 rfl) ?_
      refine va_get (D := G.1) (ci := 9) (v := .ref (q0 6)) (C := R_Sh) (T := T_Sh) (N := 12) hx hb hts i_Sh hown hK hP 0 rfl rfl 6 (by decide) (hts _ wf_Sh_27) (fun _ h9 => h9) rfl d_Sh_fits_8 ?_
      refine lv_iload_n hx hb d_Sh_fits_11 rfl (lv_at hl 2 rfl) ?_
      have g2 := h.1
      have h := h.2
      refine xa_iald hx hb hK hP 6 0 rfl rfl g2 (k := x2.toNatClampNeg) rfl d_Sh_fits_12 ?_
      refine lv_aload_n hx hb d_Sh_fits_13 rfl (lv_at hl 0 rfl) ?_
      refine va_get (D := G.1) (ci := 9) (v := .ref (q0 7)) (C := R_Sh) (T := T_Sh) (N := 12) hx hb hts i_Sh hown hK hP 0 rfl rfl 7 (by decide) (hts _ wf_Sh_30) (fun _ h9 => h9) rfl d_Sh_fits_14 ?_
      refine lv_iload_n hx hb d_Sh_fits_17 rfl (lv_at hl 2 rfl) ?_
      have g3 := h.1
      have h := h.2
      refine xa_iald hx hb hK hP 7 0 rfl rfl g3 (k := x2.toNatClampNeg) rfl d_Sh_fits_18 ?_
      refine lv_icmp_gt (tgt := 58) hx hb d_Sh_fits_19 (by decide) (fun c4 => ?_) (fun c4 => ?_)
      · have h := h.1 c4
        refine lv_iinc (v := (x2 + (1 : Int32))) (lv' := [(2, .int (x2 + (1 : Int32))), (0, .ref h0), (1, .int x1)]) hx hb d_Sh_fits_58 hl (k := 2) rfl rfl (by decide) rfl (fun ls hl => ?_)
        refine lv_goto (tgt := 2) hx hb d_Sh_fits_61 (by decide) ?_
        have hl := lv_sub (l' := [(0, .ref h0), (1, .int x1), (2, .int (x2 + (1 : Int32)))]) hl [1, 2, 0] rfl
        have hP : va_P G.1 CL (cw_Sh G h0 q0 r0 o0) H := hP
        have hD : va_D A (cw_Sh G h0 q0 r0 o0) := hD
        exact ih x1 (x2 + (1 : Int32)) ls H locs hl hP hD hS h
      · have h := h.2 c4
        refine lv_aload_n hx hb d_Sh_fits_22 rfl (lv_at hl 0 rfl) ?_
        refine va_get (D := G.1) (ci := 9) (v := .ref (r0 9)) (C := R_Sh) (T := T_Sh) (N := 12) hx hb hts i_Sh hown hK hP 0 rfl rfl 9 (by decide) (hts _ wf_Sh_33) (fun _ h9 => h9) rfl d_Sh_fits_23 ?_
        refine lv_iload_n hx hb d_Sh_fits_26 rfl (lv_at hl 2 rfl) ?_
        refine lv_aload_n hx hb d_Sh_fits_27 rfl (lv_at hl 0 rfl) ?_
        refine va_get (D := G.1) (ci := 9) (v := .int (gI o0 8)) (C := R_Sh) (T := T_Sh) (N := 12) hx hb hts i_Sh hown hK hP 0 rfl rfl 8 (by decide) (hts _ wf_Sh_69) (fun _ h9 => h9) rfl d_Sh_fits_28 ?_
        refine lv_imul hx hb d_Sh_fits_31 ?_
        refine lv_iload_n hx hb d_Sh_fits_32 rfl (lv_at hl 1 rfl) ?_
        refine lv_iadd hx hb d_Sh_fits_33 ?_
        have g5 := h.1
        have h := h.2
        refine xa_bald hx hb hK hP 8 2 rfl rfl g5 (k := ((x2 * (gI o0 8)) + x1).toNatClampNeg) rfl d_Sh_fits_34 ?_
        refine lv_topi (fun y6 ey6 => ?_)
        have h := h y6 ey6
        refine lv_istore_n (lv' := [(3, .int y6), (0, .ref h0), (1, .int x1), (2, .int x2)]) hx hb d_Sh_fits_35 rfl hl (by decide) rfl (fun ls hl => ?_)
        refine lv_iload_n hx hb d_Sh_fits_36 rfl (lv_at hl 0 rfl) ?_
        refine lv_aload_n hx hb d_Sh_fits_37 rfl (lv_at hl 1 rfl) ?_
        refine va_get (D := G.1) (ci := 9) (v := .ref (q0 6)) (C := R_Sh) (T := T_Sh) (N := 12) hx hb hts i_Sh hown hK hP 0 rfl rfl 6 (by decide) (hts _ wf_Sh_27) (fun _ h9 => h9) rfl d_Sh_fits_38 ?_
        refine lv_iload_n hx hb d_Sh_fits_41 rfl (lv_at hl 3 rfl) ?_
        have g7 := h.1
        have h := h.2
        refine xa_iald hx hb hK hP 6 0 rfl rfl g7 (k := x2.toNatClampNeg) rfl d_Sh_fits_42 ?_
        refine lv_icmp_lt (tgt := 56) hx hb d_Sh_fits_43 (by decide) (fun c8 => ?_) (fun c8 => ?_)
        · have h := h.1 c8
          refine lv_iconst (v := (0 : Int32)) hx hb d_Sh_fits_56 (by decide) ?_
          have hP : va_P G.1 CL (cw_Sh G h0 q0 r0 o0) H := hP
          have hD : va_D A (cw_Sh G h0 q0 r0 o0) := hD
          exact W.zret (v := (0 : Int32)) hx hb hr rfl (fun t ht hW => ⟨⟨(0 : Int32), (), rfl, h, by rw [ht]; exact hP, va_K.moved hW.alike hK, hD⟩, hS.F ht⟩) hS.2.2 d_Sh_fits_57
        · have h := h.2 c8
          refine lv_iload_n hx hb d_Sh_fits_46 rfl (lv_at hl 0 rfl) ?_
          refine lv_aload_n hx hb d_Sh_fits_47 rfl (lv_at hl 1 rfl) ?_
          refine va_get (D := G.1) (ci := 9) (v := .ref (q0 7)) (C := R_Sh) (T := T_Sh) (N := 12) hx hb hts i_Sh hown hK hP 0 rfl rfl 7 (by decide) (hts _ wf_Sh_30) (fun _ h9 => h9) rfl d_Sh_fits_48 ?_
          refine lv_iload_n hx hb d_Sh_fits_51 rfl (lv_at hl 3 rfl) ?_
          have g9 := h.1
          have h := h.2
          refine xa_iald hx hb hK hP 7 0 rfl rfl g9 (k := x2.toNatClampNeg) rfl d_Sh_fits_52 ?_
          refine lv_icmp_le (tgt := 58) hx hb d_Sh_fits_53 (by decide) (fun c10 => ?_) (fun c10 => ?_)
          · have h := h.1 c10
            refine lv_iinc (v := (x2 + (1 : Int32))) (lv' := [(2, .int (x2 + (1 : Int32))), (3, .int y6), (0, .ref h0), (1, .int x1)]) hx hb d_Sh_fits_58 hl (k := 3) rfl rfl (by decide) rfl (fun ls hl => ?_)
            refine lv_goto (tgt := 2) hx hb d_Sh_fits_61 (by decide) ?_
            have hl := lv_sub (l' := [(0, .ref h0), (1, .int x1), (2, .int (x2 + (1 : Int32)))]) hl [2, 3, 0] rfl
            have hP : va_P G.1 CL (cw_Sh G h0 q0 r0 o0) H := hP
            have hD : va_D A (cw_Sh G h0 q0 r0 o0) := hD
            exact ih x1 (x2 + (1 : Int32)) ls H locs hl hP hD hS h
          · have h := h.2 c10
            refine lv_iconst (v := (0 : Int32)) hx hb d_Sh_fits_56 (by decide) ?_
            have hP : va_P G.1 CL (cw_Sh G h0 q0 r0 o0) H := hP
            have hD : va_D A (cw_Sh G h0 q0 r0 o0) := hD
            exact W.zret (v := (0 : Int32)) hx hb hr rfl (fun t ht hW => ⟨⟨(0 : Int32), (), rfl, h, by rw [ht]; exact hP, va_K.moved hW.alike hK, hD⟩, hS.F ht⟩) hS.2.2 d_Sh_fits_57
set_option maxHeartbeats 4000000 in
set_option maxRecDepth 100000 in
theorem c_Sh_fits {l : Launch} {G : Gl} {h0 : Nat} {q0 : Nat → Nat} {a0 : Int32} {r0 : (Nat → Nat)} {o0 : Ob} {Q : Int32 → Prop} (sz : Nat) (h : f_Sh_fits a0 r0 o0 Q) : Met l y_Sh_fits w_Sh_fits rm_Sh_fits (PcW G [.ref h0, .int a0] sz (cw_Sh G h0 q0 r0 o0)) (va_Qi (fun (r : Int32) (u : Unit) => Q r) (fun (u : Unit) t => BW G (va_A (cw_Sh G h0 q0 r0 o0) sz) (cw_Sh G h0 q0 r0 o0) t) (va_A (cw_Sh G h0 q0 r0 o0) sz)) 0 0 (va_A (cw_Sh G h0 q0 r0 o0) sz) := by
  refine Met.ofW (cc := b_Sh_fits) (maxL := 4) (ret := (some .boolean)) (by decide +kernel) rfl ?_
  intro p e s m args below meth c s₁ B hml hv
  obtain ⟨rfl, hsz, hP, hK, hD0, hE⟩ := hv
  have hx := B.exec
  have hb := B.bytes
  have hr := B.returns
  have hts0 := atoms_spec (ws := w_Sh_fits) B.pre
  have hts : ∀ w ∈ gw_tbl, w.before ([.ref h0, .int a0]).toArray s = true := fun w hw => hts0 w (List.mem_cons_of_mem _ hw)
  have hown : s.vm.findClass R_Sh = some m.cls := findClass_of_methodNamed B.named
  have hlocks := B.notSynchronized
  subst hsz
  have hD := hD0.self (sz := s.heap.size)
  generalize hAe : va_A (cw_Sh G h0 q0 r0 o0) s.heap.size = A at hD hE ⊢
  have hA : ∀ q : Nat, s.heap.size ≤ q → A q := fun q h => by rw [← hAe]; exact Or.inr h
  have hS : va_S A s.heap s.heap [] := va_S.rf
  have C : Cx p s m ([.ref h0, .int a0]).toArray meth c R_Sh b_Sh_fits 4 (some .boolean) G A := ⟨hx, hb, hml, hown, hr, hts, hK, hA, hlocks, hE⟩
  have hl := lv_entry ([.ref h0, .int a0]) (n := 4) (Nat.le_of_ble_eq_true rfl)
  rw [lg_entry_eq]
  generalize (lg_sl ([.ref h0, .int a0]) ++ List.replicate (4 - (lg_sl ([.ref h0, .int a0])).length) Slot.unset).toArray = ls at hl ⊢
  have hl : lv_has ls 4 [(0, .ref h0), (1, .int a0)] := hl
  have hD : va_D A [(h0, .inr (9, [.int (gI o0 0), .ref (q0 1), .ref (q0 2), .ref (q0 3), .ref (q0 4), .ref (q0 5), .ref (q0 6), .ref (q0 7), .int (gI o0 8), .ref (r0 9), .int (gI o0 10), .ref (r0 11)])), kI G (q0 1) 5 (gA o0 1), kI G (q0 2) 20 (gA o0 2), kI G (q0 3) 5 (gA o0 3), kI G (q0 4) 5 (gA o0 4), kI G (q0 5) 5 (gA o0 5), kI G (q0 6) 5 (gA o0 6), kI G (q0 7) 5 (gA o0 7), kB G (r0 9) (r0 109) (gA o0 9), kI G (r0 11) (r0 111) (gA o0 11)] := hD
  unfold f_Sh_fits at h
  suffices key : ∀ (H : Heap) (locs : List Loc), va_P G.1 CL [(h0, .inr (9, [.int (gI o0 0), .ref (q0 1), .ref (q0 2), .ref (q0 3), .ref (q0 4), .ref (q0 5), .ref (q0 6), .ref (q0 7), .int (gI o0 8), .ref (r0 9), .int (gI o0 10), .ref (r0 11)])), kI G (q0 1) 5 (gA o0 1), kI G (q0 2) 20 (gA o0 2), kI G (q0 3) 5 (gA o0 3), kI G (q0 4) 5 (gA o0 4), kI G (q0 5) 5 (gA o0 5), kI G (q0 6) 5 (gA o0 6), kI G (q0 7) 5 (gA o0 7), kB G (r0 9) (r0 109) (gA o0 9), kI G (r0 11) (r0 111) (gA o0 11)] H → va_S A s.heap H locs → W p l e rm_Sh_fits s m ([.ref h0, .int a0]).toArray below meth c H locs 0 0 (MQ below (va_Qi (fun (r : Int32) (u : Unit) => Q r) (fun (u : Unit) t => BW G A (cw_Sh G h0 q0 r0 o0) t) A) ([.ref h0, .int a0]).toArray s 0 0 A) (F0 m 0 ls []) from key s.heap [] hP hS
  intro H locs hP hS
  refine lv_iconst (v := (0 : Int32)) hx hb d_Sh_fits_0 (by decide) ?_
  refine lv_istore_n (lv' := [(2, .int (0 : Int32)), (0, .ref h0), (1, .int a0)]) hx hb d_Sh_fits_1 rfl hl (by decide) rfl (fun ls hl => ?_)
  have hl := lv_sub (l' := [(0, .ref h0), (1, .int a0), (2, .int (0 : Int32))]) hl [1, 2, 0] rfl
  have hP : va_P G.1 CL (cw_Sh G h0 q0 r0 o0) H := hP
  have hD : va_D A (cw_Sh G h0 q0 r0 o0) := hD
  obtain ⟨w, h⟩ := h
  exact t_Sh_fits_2 r0 o0 Q C w a0 (0 : Int32) ls _ locs hl hP hD hS h
abbrev b_Sh_countFits : ByteArray := prog_10_method_8_code
def y_Sh_countFits : MethodName := ⟨R_Sh, "countFits", "()I"⟩
abbrev w_Sh_countFits : List Cond := Cond.code y_Sh_countFits b_Sh_countFits 3 (some .int) :: gw_tbl
theorem d_Sh_countFits_0 : decode b_Sh_countFits 0 = .ok (.iconst 0, 1) := by decide +kernel
theorem d_Sh_countFits_1 : decode b_Sh_countFits 1 = .ok (.istore_n 1, 1) := by decide +kernel
theorem d_Sh_countFits_2 : decode b_Sh_countFits 2 = .ok (.iconst 0, 1) := by decide +kernel
theorem d_Sh_countFits_3 : decode b_Sh_countFits 3 = .ok (.istore_n 2, 1) := by decide +kernel
theorem d_Sh_countFits_4 : decode b_Sh_countFits 4 = .ok (.iload_n 2, 1) := by decide +kernel
theorem d_Sh_countFits_5 : decode b_Sh_countFits 5 = .ok (.aload_n 0, 1) := by decide +kernel
theorem d_Sh_countFits_6 : decode b_Sh_countFits 6 = .ok (.getfield 69, 3) := by decide +kernel
theorem d_Sh_countFits_9 : decode b_Sh_countFits 9 = .ok (.if_icmp .ge 20, 3) := by decide +kernel
theorem d_Sh_countFits_12 : decode b_Sh_countFits 12 = .ok (.aload_n 0, 1) := by decide +kernel
theorem d_Sh_countFits_13 : decode b_Sh_countFits 13 = .ok (.iload_n 2, 1) := by decide +kernel
theorem d_Sh_countFits_14 : decode b_Sh_countFits 14 = .ok (.invokevirtual 86, 3) := by decide +kernel
theorem d_Sh_countFits_17 : decode b_Sh_countFits 17 = .ok (.ifCond .eq 6, 3) := by decide +kernel
theorem d_Sh_countFits_20 : decode b_Sh_countFits 20 = .ok (.iinc 1 1, 3) := by decide +kernel
theorem d_Sh_countFits_23 : decode b_Sh_countFits 23 = .ok (.iinc 2 1, 3) := by decide +kernel
theorem d_Sh_countFits_26 : decode b_Sh_countFits 26 = .ok (.goto (-22), 3) := by decide +kernel
theorem d_Sh_countFits_29 : decode b_Sh_countFits 29 = .ok (.iload_n 1, 1) := by decide +kernel
theorem d_Sh_countFits_30 : decode b_Sh_countFits 30 = .ok (.ireturn, 1) := by decide +kernel
theorem wv_Sh_86 : wV R_Sh 86 y_Sh_fits b_Sh_fits 4 (some .boolean) 1 := ⟨⟨gw_tb (List.mem_of_getElem? (i := 866) (by decide +kernel)) rfl, gw_tb (List.mem_of_getElem? (i := 12) (by decide +kernel)) rfl, gw_tb (List.mem_of_getElem? (i := 869) (by decide +kernel)) rfl, by decide, by decide, by decide +kernel⟩, gw_tb (List.mem_of_getElem? (i := 868) (by decide +kernel)) rfl, gw_of (List.mem_append_left _ (List.mem_of_getElem? (i := 26) (by decide +kernel))) rfl⟩
def f_Sh_countFits_4 (r0 : (Nat → Nat)) (o0 : Ob) (Q : Int32 → Prop) : Nat → Int32 → Int32 → Prop
  | 0, _, _ => False
  | n + 1, x1, x2 => ((gI o0 8) ≤ x2 → (Q x1)) ∧ (¬ (gI o0 8) ≤ x2 → (f_Sh_fits x2 r0 o0 (fun z2 => (z2 = 0 → ((f_Sh_countFits_4 r0 o0 Q n) x1 (x2 + (1 : Int32)))) ∧ (¬ z2 = 0 → ((f_Sh_countFits_4 r0 o0 Q n) (x1 + (1 : Int32)) (x2 + (1 : Int32)))))))
def f_Sh_countFits (r0 : (Nat → Nat)) (o0 : Ob) (Q : Int32 → Prop) : Prop := (∃ w, f_Sh_countFits_4 r0 o0 Q w (0 : Int32) (0 : Int32))
abbrev rm_Sh_countFits : Room := { frames := 1, cells := 0, slots := 0, locals := 23 }
set_option maxHeartbeats 4000000 in
set_option maxRecDepth 100000 in
theorem t_Sh_countFits_4 {p : Program} {l : Launch} {e : Env} {s : State} {m : MethodId} {args : Array Value} {below : List Frame} {meth : Method} {c : Code} {A : Nat → Prop} {G : Gl} {h0 : Nat} {q0 : Nat → Nat} (r0 : (Nat → Nat)) (o0 : Ob) (Q : Int32 → Prop) (C : Cx p s m args meth c R_Sh b_Sh_countFits 3 (some .int) G A) :
    ∀ (n : Nat) (x1 : Int32) (x2 : Int32) (ls : Array Slot) (H : Heap) (locs : List Loc), lv_has ls 3 [(0, .ref h0), (1, .int x1), (2, .int x2)] → va_P G.1 CL (cw_Sh G h0 q0 r0 o0) H → va_D A (cw_Sh G h0 q0 r0 o0) → va_S A s.heap H locs → f_Sh_countFits_4 r0 o0 Q n x1 x2 → W p l e rm_Sh_countFits s m args below meth c H locs 0 0 (MQ below (va_Qi (fun (r : Int32) (u : Unit) => Q r) (fun (u : Unit) t => BW G A (cw_Sh G h0 q0 r0 o0) t) A) args s 0 0 A) (F0 m 4 ls []) := by
  obtain ⟨hx, hb, hml, hown, hr, hts, hK, hA, hlocks, hE⟩ := id C
  intro n
  induction n with
  | zero => intro x1 x2 ls H locs hl hP hD hS h; exact absurd h id
  | succ n ih =>
    intro x1 x2 ls H locs hl hP hD hS h
    have hP : va_P G.1 CL [(h0, .inr (9, [.int (gI o0 0), .ref (q0 1), .ref (q0 2), .ref (q0 3), .ref (q0 4), .ref (q0 5), .ref (q0 6), .ref (q0 7), .int (gI o0 8), .ref (r0 9), .int (gI o0 10), .ref (r0 11)])), kI G (q0 1) 5 (gA o0 1), kI G (q0 2) 20 (gA o0 2), kI G (q0 3) 5 (gA o0 3), kI G (q0 4) 5 (gA o0 4), kI G (q0 5) 5 (gA o0 5), kI G (q0 6) 5 (gA o0 6), kI G (q0 7) 5 (gA o0 7), kB G (r0 9) (r0 109) (gA o0 9), kI G (r0 11) (r0 111) (gA o0 11)] H := hP
    have hD : va_D A [(h0, .inr (9, [.int (gI o0 0), .ref (q0 1), .ref (q0 2), .ref (q0 3), .ref (q0 4), .ref (q0 5), .ref (q0 6), .ref (q0 7), .int (gI o0 8), .ref (r0 9), .int (gI o0 10), .ref (r0 11)])), kI G (q0 1) 5 (gA o0 1), kI G (q0 2) 20 (gA o0 2), kI G (q0 3) 5 (gA o0 3), kI G (q0 4) 5 (gA o0 4), kI G (q0 5) 5 (gA o0 5), kI G (q0 6) 5 (gA o0 6), kI G (q0 7) 5 (gA o0 7), kB G (r0 9) (r0 109) (gA o0 9), kI G (r0 11) (r0 111) (gA o0 11)] := hD
    unfold f_Sh_countFits_4 at h
    refine lv_iload_n hx hb d_Sh_countFits_4 rfl (lv_at hl 2 rfl) ?_
    refine lv_aload_n hx hb d_Sh_countFits_5 rfl (lv_at hl 0 rfl) ?_
    refine va_get (D := G.1) (ci := 9) (v := .int (gI o0 8)) (C := R_Sh) (T := T_Sh) (N := 12) hx hb hts i_Sh hown hK hP 0 rfl rfl 8 (by decide) (hts _ wf_Sh_69) (fun _ h9 => h9) rfl d_Sh_countFits_6 ?_
    refine lv_icmp_ge (tgt := 29) hx hb d_Sh_countFits_9 (by decide) (fun c1 => ?_) (fun c1 => ?_)
    · have h := h.1 c1
      refine lv_iload_n hx hb d_Sh_countFits_29 rfl (lv_at hl 1 rfl) ?_
      have hP : va_P G.1 CL (cw_Sh G h0 q0 r0 o0) H := hP
      have hD : va_D A (cw_Sh G h0 q0 r0 o0) := hD
      exact W.iret (v := x1) hx hb hr (fun t ht hW => ⟨⟨x1, (), rfl, h, by rw [ht]; exact hP, va_K.moved hW.alike hK, hD⟩, hS.F ht⟩) hS.2.2 d_Sh_countFits_30
    · have h := h.2 c1
      refine lv_aload_n hx hb d_Sh_countFits_12 rfl (lv_at hl 0 rfl) ?_
      refine lv_iload_n hx hb d_Sh_countFits_13 rfl (lv_at hl 2 rfl) ?_
      refine cl_Vi (b := b_Sh_countFits) (As := [.int x2]) (rest := []) (ws := [(h0, .inr (9, [.int (gI o0 0), .ref (q0 1), .ref (q0 2), .ref (q0 3), .ref (q0 4), .ref (q0 5), .ref (q0 6), .ref (q0 7), .int (gI o0 8), .ref (r0 9), .int (gI o0 10), .ref (r0 11)])), kI G (q0 1) 5 (gA o0 1), kI G (q0 2) 20 (gA o0 2), kI G (q0 3) 5 (gA o0 3), kI G (q0 4) 5 (gA o0 4), kI G (q0 5) 5 (gA o0 5), kI G (q0 6) 5 (gA o0 6), kI G (q0 7) 5 (gA o0 7), kB G (r0 9) (r0 109) (gA o0 9), kI G (r0 11) (r0 111) (gA o0 11)]) (wr := []) (w2 := fun (u : Unit) => [(h0, .inr (9, [.int (gI o0 0), .ref (q0 1), .ref (q0 2), .ref (q0 3), .ref (q0 4), .ref (q0 5), .ref (q0 6), .ref (q0 7), .int (gI o0 8), .ref (r0 9), .int (gI o0 10), .ref (r0 11)])), kI G (q0 1) 5 (gA o0 1), kI G (q0 2) 20 (gA o0 2), kI G (q0 3) 5 (gA o0 3), kI G (q0 4) 5 (gA o0 4), kI G (q0 5) 5 (gA o0 5), kI G (q0 6) 5 (gA o0 6), kI G (q0 7) 5 (gA o0 7), kB G (r0 9) (r0 109) (gA o0 9), kI G (r0 11) (r0 111) (gA o0 11)]) C (c_Sh_fits (h0 := h0) (q0 := q0) H.size h) wv_Sh_86 ⟨Nat.le_of_ble_eq_true rfl, Nat.le_of_ble_eq_true rfl⟩ hP hD hS 0 rfl rfl [0, 1, 2, 3, 4, 5, 6, 7, 8, 9] [] rfl rfl (by decide) (by decide) (by decide) [0, 1, 2, 3, 4, 5, 6, 7, 8, 9] (by decide) (fun u => rfl) rfl hl.1 rfl (lv_room (Nat.le_of_ble_eq_true rfl)) d_Sh_countFits_14 ⟨Nat.le_of_ble_eq_true rfl, Nat.le_of_ble_eq_true rfl⟩ rfl rfl (fun z2 u H locs h hP hD hS => ?_)
      have hP : va_P G.1 CL [(h0, .inr (9, [.int (gI o0 0), .ref (q0 1), .ref (q0 2), .ref (q0 3), .ref (q0 4), .ref (q0 5), .ref (q0 6), .ref (q0 7), .int (gI o0 8), .ref (r0 9), .int (gI o0 10), .ref (r0 11)])), kI G (q0 1) 5 (gA o0 1), kI G (q0 2) 20 (gA o0 2), kI G (q0 3) 5 (gA o0 3), kI G (q0 4) 5 (gA o0 4), kI G (q0 5) 5 (gA o0 5), kI G (q0 6) 5 (gA o0 6), kI G (q0 7) 5 (gA o0 7), kB G (r0 9) (r0 109) (gA o0 9), kI G (r0 11) (r0 111) (gA o0 11)] H := hP
      have hD : va_D A [(h0, .inr (9, [.int (gI o0 0), .ref (q0 1), .ref (q0 2), .ref (q0 3), .ref (q0 4), .ref (q0 5), .ref (q0 6), .ref (q0 7), .int (gI o0 8), .ref (r0 9), .int (gI o0 10), .ref (r0 11)])), kI G (q0 1) 5 (gA o0 1), kI G (q0 2) 20 (gA o0 2), kI G (q0 3) 5 (gA o0 3), kI G (q0 4) 5 (gA o0 4), kI G (q0 5) 5 (gA o0 5), kI G (q0 6) 5 (gA o0 6), kI G (q0 7) 5 (gA o0 7), kB G (r0 9) (r0 109) (gA o0 9), kI G (r0 11) (r0 111) (gA o0 11)] := hD
      refine lv_if_eq (tgt := 23) hx hb d_Sh_countFits_17 (by decide) (fun c3 => ?_) (fun c3 => ?_)
      · have h := h.1 c3
        refine lv_iinc (v := (x2 + (1 : Int32))) (lv' := [(2, .int (x2 + (1 : Int32))), (0, .ref h0), (1, .int x1)]) hx hb d_Sh_countFits_23 hl (k := 2) rfl rfl (by decide) rfl (fun ls hl => ?_)
        refine lv_goto (tgt := 4) hx hb d_Sh_countFits_26 (by decide) ?_
        have hl := lv_sub (l' := [(0, .ref h0), (1, .int x1), (2, .int (x2 + (1 : Int32)))]) hl [1, 2, 0] rfl
        have hP : va_P G.1 CL (cw_Sh G h0 q0 r0 o0) H := hP
        have hD : va_D A (cw_Sh G h0 q0 r0 o0) := hD
        exact ih x1 (x2 + (1 : Int32)) ls H locs hl hP hD hS h
      · have h := h.2 c3
        refine lv_iinc (v := (x1 + (1 : Int32))) (lv' := [(1, .int (x1 + (1 : Int32))), (0, .ref h0), (2, .int x2)]) hx hb d_Sh_countFits_20 hl (k := 1) rfl rfl (by decide) rfl (fun ls hl => ?_)
        refine lv_iinc (v := (x2 + (1 : Int32))) (lv' := [(2, .int (x2 + (1 : Int32))), (1, .int (x1 + (1 : Int32))), (0, .ref h0)]) hx hb d_Sh_countFits_23 hl (k := 2) rfl rfl (by decide) rfl (fun ls hl => ?_)
        refine lv_goto (tgt := 4) hx hb d_Sh_countFits_26 (by decide) ?_
        have hl := lv_sub (l' := [(0, .ref h0), (1, .int (x1 + (1 : Int32))), (2, .int (x2 + (1 : Int32)))]) hl [2, 1, 0] rfl
        have hP : va_P G.1 CL (cw_Sh G h0 q0 r0 o0) H := hP
        have hD : va_D A (cw_Sh G h0 q0 r0 o0) := hD
        exact ih (x1 + (1 : Int32)) (x2 + (1 : Int32)) ls H locs hl hP hD hS h
set_option maxHeartbeats 4000000 in
set_option maxRecDepth 100000 in
theorem c_Sh_countFits {l : Launch} {G : Gl} {h0 : Nat} {q0 : Nat → Nat} {r0 : (Nat → Nat)} {o0 : Ob} {Q : Int32 → Prop} (sz : Nat) (h : f_Sh_countFits r0 o0 Q) : Met l y_Sh_countFits w_Sh_countFits rm_Sh_countFits (PcW G [.ref h0] sz (cw_Sh G h0 q0 r0 o0)) (va_Qi (fun (r : Int32) (u : Unit) => Q r) (fun (u : Unit) t => BW G (va_A (cw_Sh G h0 q0 r0 o0) sz) (cw_Sh G h0 q0 r0 o0) t) (va_A (cw_Sh G h0 q0 r0 o0) sz)) 0 0 (va_A (cw_Sh G h0 q0 r0 o0) sz) := by
  refine Met.ofW (cc := b_Sh_countFits) (maxL := 3) (ret := (some .int)) (by decide +kernel) rfl ?_
  intro p e s m args below meth c s₁ B hml hv
  obtain ⟨rfl, hsz, hP, hK, hD0, hE⟩ := hv
  have hx := B.exec
  have hb := B.bytes
  have hr := B.returns
  have hts0 := atoms_spec (ws := w_Sh_countFits) B.pre
  have hts : ∀ w ∈ gw_tbl, w.before ([.ref h0]).toArray s = true := fun w hw => hts0 w (List.mem_cons_of_mem _ hw)
  have hown : s.vm.findClass R_Sh = some m.cls := findClass_of_methodNamed B.named
  have hlocks := B.notSynchronized
  subst hsz
  have hD := hD0.self (sz := s.heap.size)
  generalize hAe : va_A (cw_Sh G h0 q0 r0 o0) s.heap.size = A at hD hE ⊢
  have hA : ∀ q : Nat, s.heap.size ≤ q → A q := fun q h => by rw [← hAe]; exact Or.inr h
  have hS : va_S A s.heap s.heap [] := va_S.rf
  have C : Cx p s m ([.ref h0]).toArray meth c R_Sh b_Sh_countFits 3 (some .int) G A := ⟨hx, hb, hml, hown, hr, hts, hK, hA, hlocks, hE⟩
  have hl := lv_entry ([.ref h0]) (n := 3) (Nat.le_of_ble_eq_true rfl)
  rw [lg_entry_eq]
  generalize (lg_sl ([.ref h0]) ++ List.replicate (3 - (lg_sl ([.ref h0])).length) Slot.unset).toArray = ls at hl ⊢
  have hl : lv_has ls 3 [(0, .ref h0)] := hl
  have hD : va_D A [(h0, .inr (9, [.int (gI o0 0), .ref (q0 1), .ref (q0 2), .ref (q0 3), .ref (q0 4), .ref (q0 5), .ref (q0 6), .ref (q0 7), .int (gI o0 8), .ref (r0 9), .int (gI o0 10), .ref (r0 11)])), kI G (q0 1) 5 (gA o0 1), kI G (q0 2) 20 (gA o0 2), kI G (q0 3) 5 (gA o0 3), kI G (q0 4) 5 (gA o0 4), kI G (q0 5) 5 (gA o0 5), kI G (q0 6) 5 (gA o0 6), kI G (q0 7) 5 (gA o0 7), kB G (r0 9) (r0 109) (gA o0 9), kI G (r0 11) (r0 111) (gA o0 11)] := hD
  unfold f_Sh_countFits at h
  suffices key : ∀ (H : Heap) (locs : List Loc), va_P G.1 CL [(h0, .inr (9, [.int (gI o0 0), .ref (q0 1), .ref (q0 2), .ref (q0 3), .ref (q0 4), .ref (q0 5), .ref (q0 6), .ref (q0 7), .int (gI o0 8), .ref (r0 9), .int (gI o0 10), .ref (r0 11)])), kI G (q0 1) 5 (gA o0 1), kI G (q0 2) 20 (gA o0 2), kI G (q0 3) 5 (gA o0 3), kI G (q0 4) 5 (gA o0 4), kI G (q0 5) 5 (gA o0 5), kI G (q0 6) 5 (gA o0 6), kI G (q0 7) 5 (gA o0 7), kB G (r0 9) (r0 109) (gA o0 9), kI G (r0 11) (r0 111) (gA o0 11)] H → va_S A s.heap H locs → W p l e rm_Sh_countFits s m ([.ref h0]).toArray below meth c H locs 0 0 (MQ below (va_Qi (fun (r : Int32) (u : Unit) => Q r) (fun (u : Unit) t => BW G A (cw_Sh G h0 q0 r0 o0) t) A) ([.ref h0]).toArray s 0 0 A) (F0 m 0 ls []) from key s.heap [] hP hS
  intro H locs hP hS
  refine lv_iconst (v := (0 : Int32)) hx hb d_Sh_countFits_0 (by decide) ?_
  refine lv_istore_n (lv' := [(1, .int (0 : Int32)), (0, .ref h0)]) hx hb d_Sh_countFits_1 rfl hl (by decide) rfl (fun ls hl => ?_)
  refine lv_iconst (v := (0 : Int32)) hx hb d_Sh_countFits_2 (by decide) ?_
  refine lv_istore_n (lv' := [(2, .int (0 : Int32)), (1, .int (0 : Int32)), (0, .ref h0)]) hx hb d_Sh_countFits_3 rfl hl (by decide) rfl (fun ls hl => ?_)
  have hl := lv_sub (l' := [(0, .ref h0), (1, .int (0 : Int32)), (2, .int (0 : Int32))]) hl [2, 1, 0] rfl
  have hP : va_P G.1 CL (cw_Sh G h0 q0 r0 o0) H := hP
  have hD : va_D A (cw_Sh G h0 q0 r0 o0) := hD
  obtain ⟨w, h⟩ := h
  exact t_Sh_countFits_4 r0 o0 Q C w (0 : Int32) (0 : Int32) ls _ locs hl hP hD hS h
abbrev b_Sh_fitAt : ByteArray := prog_10_method_9_code
def y_Sh_fitAt : MethodName := ⟨R_Sh, "fitAt", "(I)I"⟩
abbrev w_Sh_fitAt : List Cond := Cond.code y_Sh_fitAt b_Sh_fitAt 4 (some .int) :: gw_tbl
theorem d_Sh_fitAt_0 : decode b_Sh_fitAt 0 = .ok (.iconst 0, 1) := by decide +kernel
theorem d_Sh_fitAt_1 : decode b_Sh_fitAt 1 = .ok (.istore_n 2, 1) := by decide +kernel
theorem d_Sh_fitAt_2 : decode b_Sh_fitAt 2 = .ok (.iconst 0, 1) := by decide +kernel
theorem d_Sh_fitAt_3 : decode b_Sh_fitAt 3 = .ok (.istore_n 3, 1) := by decide +kernel
theorem d_Sh_fitAt_4 : decode b_Sh_fitAt 4 = .ok (.iload_n 3, 1) := by decide +kernel
theorem d_Sh_fitAt_5 : decode b_Sh_fitAt 5 = .ok (.aload_n 0, 1) := by decide +kernel
theorem d_Sh_fitAt_6 : decode b_Sh_fitAt 6 = .ok (.getfield 69, 3) := by decide +kernel
theorem d_Sh_fitAt_9 : decode b_Sh_fitAt 9 = .ok (.if_icmp .ge 27, 3) := by decide +kernel
theorem d_Sh_fitAt_12 : decode b_Sh_fitAt 12 = .ok (.aload_n 0, 1) := by decide +kernel
theorem d_Sh_fitAt_13 : decode b_Sh_fitAt 13 = .ok (.iload_n 3, 1) := by decide +kernel
theorem d_Sh_fitAt_14 : decode b_Sh_fitAt 14 = .ok (.invokevirtual 86, 3) := by decide +kernel
theorem d_Sh_fitAt_17 : decode b_Sh_fitAt 17 = .ok (.ifCond .eq 13, 3) := by decide +kernel
theorem d_Sh_fitAt_20 : decode b_Sh_fitAt 20 = .ok (.iload_n 2, 1) := by decide +kernel
theorem d_Sh_fitAt_21 : decode b_Sh_fitAt 21 = .ok (.iload_n 1, 1) := by decide +kernel
theorem d_Sh_fitAt_22 : decode b_Sh_fitAt 22 = .ok (.if_icmp .ne 5, 3) := by decide +kernel
theorem d_Sh_fitAt_25 : decode b_Sh_fitAt 25 = .ok (.iload_n 3, 1) := by decide +kernel
theorem d_Sh_fitAt_26 : decode b_Sh_fitAt 26 = .ok (.ireturn, 1) := by decide +kernel
theorem d_Sh_fitAt_27 : decode b_Sh_fitAt 27 = .ok (.iinc 2 1, 3) := by decide +kernel
theorem d_Sh_fitAt_30 : decode b_Sh_fitAt 30 = .ok (.iinc 3 1, 3) := by decide +kernel
theorem d_Sh_fitAt_33 : decode b_Sh_fitAt 33 = .ok (.goto (-29), 3) := by decide +kernel
theorem d_Sh_fitAt_36 : decode b_Sh_fitAt 36 = .ok (.iconst (-1), 1) := by decide +kernel
theorem d_Sh_fitAt_37 : decode b_Sh_fitAt 37 = .ok (.ireturn, 1) := by decide +kernel
def f_Sh_fitAt_4 (r0 : (Nat → Nat)) (o0 : Ob) (Q : Int32 → Prop) : Nat → Int32 → Int32 → Int32 → Prop
  | 0, _, _, _ => False
  | n + 1, x1, x2, x3 => ((gI o0 8) ≤ x3 → (Q (-1 : Int32))) ∧ (¬ (gI o0 8) ≤ x3 → (f_Sh_fits x3 r0 o0 (fun z2 => (z2 = 0 → ((f_Sh_fitAt_4 r0 o0 Q n) x1 x2 (x3 + (1 : Int32)))) ∧ (¬ z2 = 0 → ((x2 = x1 → (Q x3)) ∧ (¬ x2 = x1 → ((f_Sh_fitAt_4 r0 o0 Q n) x1 (x2 + (1 : Int32)) (x3 + (1 : Int32)))))))))
def f_Sh_fitAt (a0 : Int32) (r0 : (Nat → Nat)) (o0 : Ob) (Q : Int32 → Prop) : Prop := (∃ w, f_Sh_fitAt_4 r0 o0 Q w a0 (0 : Int32) (0 : Int32))
abbrev rm_Sh_fitAt : Room := { frames := 1, cells := 0, slots := 0, locals := 23 }
set_option maxHeartbeats 4000000 in
set_option maxRecDepth 100000 in
theorem t_Sh_fitAt_4 {p : Program} {l : Launch} {e : Env} {s : State} {m : MethodId} {args : Array Value} {below : List Frame} {meth : Method} {c : Code} {A : Nat → Prop} {G : Gl} {h0 : Nat} {q0 : Nat → Nat} (r0 : (Nat → Nat)) (o0 : Ob) (Q : Int32 → Prop) (C : Cx p s m args meth c R_Sh b_Sh_fitAt 4 (some .int) G A) :
    ∀ (n : Nat) (x1 : Int32) (x2 : Int32) (x3 : Int32) (ls : Array Slot) (H : Heap) (locs : List Loc), lv_has ls 4 [(0, .ref h0), (1, .int x1), (2, .int x2), (3, .int x3)] → va_P G.1 CL (cw_Sh G h0 q0 r0 o0) H → va_D A (cw_Sh G h0 q0 r0 o0) → va_S A s.heap H locs → f_Sh_fitAt_4 r0 o0 Q n x1 x2 x3 → W p l e rm_Sh_fitAt s m args below meth c H locs 0 0 (MQ below (va_Qi (fun (r : Int32) (u : Unit) => Q r) (fun (u : Unit) t => BW G A (cw_Sh G h0 q0 r0 o0) t) A) args s 0 0 A) (F0 m 4 ls []) := by
  obtain ⟨hx, hb, hml, hown, hr, hts, hK, hA, hlocks, hE⟩ := id C
  intro n
  induction n with
  | zero => intro x1 x2 x3 ls H locs hl hP hD hS h; exact absurd h id
  | succ n ih =>
    intro x1 x2 x3 ls H locs hl hP hD hS h
    have hP : va_P G.1 CL [(h0, .inr (9, [.int (gI o0 0), .ref (q0 1), .ref (q0 2), .ref (q0 3), .ref (q0 4), .ref (q0 5), .ref (q0 6), .ref (q0 7), .int (gI o0 8), .ref (r0 9), .int (gI o0 10), .ref (r0 11)])), kI G (q0 1) 5 (gA o0 1), kI G (q0 2) 20 (gA o0 2), kI G (q0 3) 5 (gA o0 3), kI G (q0 4) 5 (gA o0 4), kI G (q0 5) 5 (gA o0 5), kI G (q0 6) 5 (gA o0 6), kI G (q0 7) 5 (gA o0 7), kB G (r0 9) (r0 109) (gA o0 9), kI G (r0 11) (r0 111) (gA o0 11)] H := hP
    have hD : va_D A [(h0, .inr (9, [.int (gI o0 0), .ref (q0 1), .ref (q0 2), .ref (q0 3), .ref (q0 4), .ref (q0 5), .ref (q0 6), .ref (q0 7), .int (gI o0 8), .ref (r0 9), .int (gI o0 10), .ref (r0 11)])), kI G (q0 1) 5 (gA o0 1), kI G (q0 2) 20 (gA o0 2), kI G (q0 3) 5 (gA o0 3), kI G (q0 4) 5 (gA o0 4), kI G (q0 5) 5 (gA o0 5), kI G (q0 6) 5 (gA o0 6), kI G (q0 7) 5 (gA o0 7), kB G (r0 9) (r0 109) (gA o0 9), kI G (r0 11) (r0 111) (gA o0 11)] := hD
    unfold f_Sh_fitAt_4 at h
    refine lv_iload_n hx hb d_Sh_fitAt_4 rfl (lv_at hl 3 rfl) ?_
    refine lv_aload_n hx hb d_Sh_fitAt_5 rfl (lv_at hl 0 rfl) ?_
    refine va_get (D := G.1) (ci := 9) (v := .int (gI o0 8)) (C := R_Sh) (T := T_Sh) (N := 12) hx hb hts i_Sh hown hK hP 0 rfl rfl 8 (by decide) (hts _ wf_Sh_69) (fun _ h9 => h9) rfl d_Sh_fitAt_6 ?_
    refine lv_icmp_ge (tgt := 36) hx hb d_Sh_fitAt_9 (by decide) (fun c1 => ?_) (fun c1 => ?_)
    · have h := h.1 c1
      refine lv_iconst (v := (-1 : Int32)) hx hb d_Sh_fitAt_36 (by decide) ?_
      have hP : va_P G.1 CL (cw_Sh G h0 q0 r0 o0) H := hP
      have hD : va_D A (cw_Sh G h0 q0 r0 o0) := hD
      exact W.iret (v := (-1 : Int32)) hx hb hr (fun t ht hW => ⟨⟨(-1 : Int32), (), rfl, h, by rw [ht]; exact hP, va_K.moved hW.alike hK, hD⟩, hS.F ht⟩) hS.2.2 d_Sh_fitAt_37
    · have h := h.2 c1
      refine lv_aload_n hx hb d_Sh_fitAt_12 rfl (lv_at hl 0 rfl) ?_
      refine lv_iload_n hx hb d_Sh_fitAt_13 rfl (lv_at hl 3 rfl) ?_
      refine cl_Vi (b := b_Sh_fitAt) (As := [.int x3]) (rest := []) (ws := [(h0, .inr (9, [.int (gI o0 0), .ref (q0 1), .ref (q0 2), .ref (q0 3), .ref (q0 4), .ref (q0 5), .ref (q0 6), .ref (q0 7), .int (gI o0 8), .ref (r0 9), .int (gI o0 10), .ref (r0 11)])), kI G (q0 1) 5 (gA o0 1), kI G (q0 2) 20 (gA o0 2), kI G (q0 3) 5 (gA o0 3), kI G (q0 4) 5 (gA o0 4), kI G (q0 5) 5 (gA o0 5), kI G (q0 6) 5 (gA o0 6), kI G (q0 7) 5 (gA o0 7), kB G (r0 9) (r0 109) (gA o0 9), kI G (r0 11) (r0 111) (gA o0 11)]) (wr := []) (w2 := fun (u : Unit) => [(h0, .inr (9, [.int (gI o0 0), .ref (q0 1), .ref (q0 2), .ref (q0 3), .ref (q0 4), .ref (q0 5), .ref (q0 6), .ref (q0 7), .int (gI o0 8), .ref (r0 9), .int (gI o0 10), .ref (r0 11)])), kI G (q0 1) 5 (gA o0 1), kI G (q0 2) 20 (gA o0 2), kI G (q0 3) 5 (gA o0 3), kI G (q0 4) 5 (gA o0 4), kI G (q0 5) 5 (gA o0 5), kI G (q0 6) 5 (gA o0 6), kI G (q0 7) 5 (gA o0 7), kB G (r0 9) (r0 109) (gA o0 9), kI G (r0 11) (r0 111) (gA o0 11)]) C (c_Sh_fits (h0 := h0) (q0 := q0) H.size h) wv_Sh_86 ⟨Nat.le_of_ble_eq_true rfl, Nat.le_of_ble_eq_true rfl⟩ hP hD hS 0 rfl rfl [0, 1, 2, 3, 4, 5, 6, 7, 8, 9] [] rfl rfl (by decide) (by decide) (by decide) [0, 1, 2, 3, 4, 5, 6, 7, 8, 9] (by decide) (fun u => rfl) rfl hl.1 rfl (lv_room (Nat.le_of_ble_eq_true rfl)) d_Sh_fitAt_14 ⟨Nat.le_of_ble_eq_true rfl, Nat.le_of_ble_eq_true rfl⟩ rfl rfl (fun z2 u H locs h hP hD hS => ?_)
      have hP : va_P G.1 CL [(h0, .inr (9, [.int (gI o0 0), .ref (q0 1), .ref (q0 2), .ref (q0 3), .ref (q0 4), .ref (q0 5), .ref (q0 6), .ref (q0 7), .int (gI o0 8), .ref (r0 9), .int (gI o0 10), .ref (r0 11)])), kI G (q0 1) 5 (gA o0 1), kI G (q0 2) 20 (gA o0 2), kI G (q0 3) 5 (gA o0 3), kI G (q0 4) 5 (gA o0 4), kI G (q0 5) 5 (gA o0 5), kI G (q0 6) 5 (gA o0 6), kI G (q0 7) 5 (gA o0 7), kB G (r0 9) (r0 109) (gA o0 9), kI G (r0 11) (r0 111) (gA o0 11)] H := hP
      have hD : va_D A [(h0, .inr (9, [.int (gI o0 0), .ref (q0 1), .ref (q0 2), .ref (q0 3), .ref (q0 4), .ref (q0 5), .ref (q0 6), .ref (q0 7), .int (gI o0 8), .ref (r0 9), .int (gI o0 10), .ref (r0 11)])), kI G (q0 1) 5 (gA o0 1), kI G (q0 2) 20 (gA o0 2), kI G (q0 3) 5 (gA o0 3), kI G (q0 4) 5 (gA o0 4), kI G (q0 5) 5 (gA o0 5), kI G (q0 6) 5 (gA o0 6), kI G (q0 7) 5 (gA o0 7), kB G (r0 9) (r0 109) (gA o0 9), kI G (r0 11) (r0 111) (gA o0 11)] := hD
      refine lv_if_eq (tgt := 30) hx hb d_Sh_fitAt_17 (by decide) (fun c3 => ?_) (fun c3 => ?_)
      · have h := h.1 c3
        refine lv_iinc (v := (x3 + (1 : Int32))) (lv' := [(3, .int (x3 + (1 : Int32))), (0, .ref h0), (1, .int x1), (2, .int x2)]) hx hb d_Sh_fitAt_30 hl (k := 3) rfl rfl (by decide) rfl (fun ls hl => ?_)
        refine lv_goto (tgt := 4) hx hb d_Sh_fitAt_33 (by decide) ?_
        have hl := lv_sub (l' := [(0, .ref h0), (1, .int x1), (2, .int x2), (3, .int (x3 + (1 : Int32)))]) hl [1, 2, 3, 0] rfl
        have hP : va_P G.1 CL (cw_Sh G h0 q0 r0 o0) H := hP
        have hD : va_D A (cw_Sh G h0 q0 r0 o0) := hD
        exact ih x1 x2 (x3 + (1 : Int32)) ls H locs hl hP hD hS h
      · have h := h.2 c3
        refine lv_iload_n hx hb d_Sh_fitAt_20 rfl (lv_at hl 2 rfl) ?_
        refine lv_iload_n hx hb d_Sh_fitAt_21 rfl (lv_at hl 1 rfl) ?_
        refine lv_icmp_ne (tgt := 27) hx hb d_Sh_fitAt_22 (by decide) (fun c4 => ?_) (fun c4 => ?_)
        · have h := h.2 c4
          refine lv_iinc (v := (x2 + (1 : Int32))) (lv' := [(2, .int (x2 + (1 : Int32))), (0, .ref h0), (1, .int x1), (3, .int x3)]) hx hb d_Sh_fitAt_27 hl (k := 2) rfl rfl (by decide) rfl (fun ls hl => ?_)
          refine lv_iinc (v := (x3 + (1 : Int32))) (lv' := [(3, .int (x3 + (1 : Int32))), (2, .int (x2 + (1 : Int32))), (0, .ref h0), (1, .int x1)]) hx hb d_Sh_fitAt_30 hl (k := 3) rfl rfl (by decide) rfl (fun ls hl => ?_)
          refine lv_goto (tgt := 4) hx hb d_Sh_fitAt_33 (by decide) ?_
          have hl := lv_sub (l' := [(0, .ref h0), (1, .int x1), (2, .int (x2 + (1 : Int32))), (3, .int (x3 + (1 : Int32)))]) hl [2, 3, 1, 0] rfl
          have hP : va_P G.1 CL (cw_Sh G h0 q0 r0 o0) H := hP
          have hD : va_D A (cw_Sh G h0 q0 r0 o0) := hD
          exact ih x1 (x2 + (1 : Int32)) (x3 + (1 : Int32)) ls H locs hl hP hD hS h
        · have h := h.1 c4
          refine lv_iload_n hx hb d_Sh_fitAt_25 rfl (lv_at hl 3 rfl) ?_
          have hP : va_P G.1 CL (cw_Sh G h0 q0 r0 o0) H := hP
          have hD : va_D A (cw_Sh G h0 q0 r0 o0) := hD
          exact W.iret (v := x3) hx hb hr (fun t ht hW => ⟨⟨x3, (), rfl, h, by rw [ht]; exact hP, va_K.moved hW.alike hK, hD⟩, hS.F ht⟩) hS.2.2 d_Sh_fitAt_26
set_option maxHeartbeats 4000000 in
set_option maxRecDepth 100000 in
theorem c_Sh_fitAt {l : Launch} {G : Gl} {h0 : Nat} {q0 : Nat → Nat} {a0 : Int32} {r0 : (Nat → Nat)} {o0 : Ob} {Q : Int32 → Prop} (sz : Nat) (h : f_Sh_fitAt a0 r0 o0 Q) : Met l y_Sh_fitAt w_Sh_fitAt rm_Sh_fitAt (PcW G [.ref h0, .int a0] sz (cw_Sh G h0 q0 r0 o0)) (va_Qi (fun (r : Int32) (u : Unit) => Q r) (fun (u : Unit) t => BW G (va_A (cw_Sh G h0 q0 r0 o0) sz) (cw_Sh G h0 q0 r0 o0) t) (va_A (cw_Sh G h0 q0 r0 o0) sz)) 0 0 (va_A (cw_Sh G h0 q0 r0 o0) sz) := by
  refine Met.ofW (cc := b_Sh_fitAt) (maxL := 4) (ret := (some .int)) (by decide +kernel) rfl ?_
  intro p e s m args below meth c s₁ B hml hv
  obtain ⟨rfl, hsz, hP, hK, hD0, hE⟩ := hv
  have hx := B.exec
  have hb := B.bytes
  have hr := B.returns
  have hts0 := atoms_spec (ws := w_Sh_fitAt) B.pre
  have hts : ∀ w ∈ gw_tbl, w.before ([.ref h0, .int a0]).toArray s = true := fun w hw => hts0 w (List.mem_cons_of_mem _ hw)
  have hown : s.vm.findClass R_Sh = some m.cls := findClass_of_methodNamed B.named
  have hlocks := B.notSynchronized
  subst hsz
  have hD := hD0.self (sz := s.heap.size)
  generalize hAe : va_A (cw_Sh G h0 q0 r0 o0) s.heap.size = A at hD hE ⊢
  have hA : ∀ q : Nat, s.heap.size ≤ q → A q := fun q h => by rw [← hAe]; exact Or.inr h
  have hS : va_S A s.heap s.heap [] := va_S.rf
  have C : Cx p s m ([.ref h0, .int a0]).toArray meth c R_Sh b_Sh_fitAt 4 (some .int) G A := ⟨hx, hb, hml, hown, hr, hts, hK, hA, hlocks, hE⟩
  have hl := lv_entry ([.ref h0, .int a0]) (n := 4) (Nat.le_of_ble_eq_true rfl)
  rw [lg_entry_eq]
  generalize (lg_sl ([.ref h0, .int a0]) ++ List.replicate (4 - (lg_sl ([.ref h0, .int a0])).length) Slot.unset).toArray = ls at hl ⊢
  have hl : lv_has ls 4 [(0, .ref h0), (1, .int a0)] := hl
  have hD : va_D A [(h0, .inr (9, [.int (gI o0 0), .ref (q0 1), .ref (q0 2), .ref (q0 3), .ref (q0 4), .ref (q0 5), .ref (q0 6), .ref (q0 7), .int (gI o0 8), .ref (r0 9), .int (gI o0 10), .ref (r0 11)])), kI G (q0 1) 5 (gA o0 1), kI G (q0 2) 20 (gA o0 2), kI G (q0 3) 5 (gA o0 3), kI G (q0 4) 5 (gA o0 4), kI G (q0 5) 5 (gA o0 5), kI G (q0 6) 5 (gA o0 6), kI G (q0 7) 5 (gA o0 7), kB G (r0 9) (r0 109) (gA o0 9), kI G (r0 11) (r0 111) (gA o0 11)] := hD
  unfold f_Sh_fitAt at h
  suffices key : ∀ (H : Heap) (locs : List Loc), va_P G.1 CL [(h0, .inr (9, [.int (gI o0 0), .ref (q0 1), .ref (q0 2), .ref (q0 3), .ref (q0 4), .ref (q0 5), .ref (q0 6), .ref (q0 7), .int (gI o0 8), .ref (r0 9), .int (gI o0 10), .ref (r0 11)])), kI G (q0 1) 5 (gA o0 1), kI G (q0 2) 20 (gA o0 2), kI G (q0 3) 5 (gA o0 3), kI G (q0 4) 5 (gA o0 4), kI G (q0 5) 5 (gA o0 5), kI G (q0 6) 5 (gA o0 6), kI G (q0 7) 5 (gA o0 7), kB G (r0 9) (r0 109) (gA o0 9), kI G (r0 11) (r0 111) (gA o0 11)] H → va_S A s.heap H locs → W p l e rm_Sh_fitAt s m ([.ref h0, .int a0]).toArray below meth c H locs 0 0 (MQ below (va_Qi (fun (r : Int32) (u : Unit) => Q r) (fun (u : Unit) t => BW G A (cw_Sh G h0 q0 r0 o0) t) A) ([.ref h0, .int a0]).toArray s 0 0 A) (F0 m 0 ls []) from key s.heap [] hP hS
  intro H locs hP hS
  refine lv_iconst (v := (0 : Int32)) hx hb d_Sh_fitAt_0 (by decide) ?_
  refine lv_istore_n (lv' := [(2, .int (0 : Int32)), (0, .ref h0), (1, .int a0)]) hx hb d_Sh_fitAt_1 rfl hl (by decide) rfl (fun ls hl => ?_)
  refine lv_iconst (v := (0 : Int32)) hx hb d_Sh_fitAt_2 (by decide) ?_
  refine lv_istore_n (lv' := [(3, .int (0 : Int32)), (2, .int (0 : Int32)), (0, .ref h0), (1, .int a0)]) hx hb d_Sh_fitAt_3 rfl hl (by decide) rfl (fun ls hl => ?_)
  have hl := lv_sub (l' := [(0, .ref h0), (1, .int a0), (2, .int (0 : Int32)), (3, .int (0 : Int32))]) hl [2, 3, 1, 0] rfl
  have hP : va_P G.1 CL (cw_Sh G h0 q0 r0 o0) H := hP
  have hD : va_D A (cw_Sh G h0 q0 r0 o0) := hD
  obtain ⟨w, h⟩ := h
  exact t_Sh_fitAt_4 r0 o0 Q C w a0 (0 : Int32) (0 : Int32) ls _ locs hl hP hD hS h
abbrev b_Sh_distance : ByteArray := prog_10_method_11_code
def y_Sh_distance : MethodName := ⟨R_Sh, "distance", "(I[I)I"⟩
abbrev w_Sh_distance : List Cond := Cond.code y_Sh_distance b_Sh_distance 5 (some .int) :: gw_tbl
theorem d_Sh_distance_0 : decode b_Sh_distance 0 = .ok (.iconst 0, 1) := by decide +kernel
theorem d_Sh_distance_1 : decode b_Sh_distance 1 = .ok (.istore_n 3, 1) := by decide +kernel
theorem d_Sh_distance_2 : decode b_Sh_distance 2 = .ok (.iconst 0, 1) := by decide +kernel
theorem d_Sh_distance_3 : decode b_Sh_distance 3 = .ok (.istore 4, 2) := by decide +kernel
theorem d_Sh_distance_5 : decode b_Sh_distance 5 = .ok (.iload 4, 2) := by decide +kernel
theorem d_Sh_distance_7 : decode b_Sh_distance 7 = .ok (.aload_n 0, 1) := by decide +kernel
theorem d_Sh_distance_8 : decode b_Sh_distance 8 = .ok (.getfield 40, 3) := by decide +kernel
theorem d_Sh_distance_11 : decode b_Sh_distance 11 = .ok (.if_icmp .ge 27, 3) := by decide +kernel
theorem d_Sh_distance_14 : decode b_Sh_distance 14 = .ok (.iload_n 3, 1) := by decide +kernel
theorem d_Sh_distance_15 : decode b_Sh_distance 15 = .ok (.aload_n 0, 1) := by decide +kernel
theorem d_Sh_distance_16 : decode b_Sh_distance 16 = .ok (.iload_n 1, 1) := by decide +kernel
theorem d_Sh_distance_17 : decode b_Sh_distance 17 = .ok (.iload 4, 2) := by decide +kernel
theorem d_Sh_distance_19 : decode b_Sh_distance 19 = .ok (.invokevirtual 76, 3) := by decide +kernel
theorem d_Sh_distance_22 : decode b_Sh_distance 22 = .ok (.aload_n 2, 1) := by decide +kernel
theorem d_Sh_distance_23 : decode b_Sh_distance 23 = .ok (.iload 4, 2) := by decide +kernel
theorem d_Sh_distance_25 : decode b_Sh_distance 25 = .ok (.iaload, 1) := by decide +kernel
theorem d_Sh_distance_26 : decode b_Sh_distance 26 = .ok (.isub, 1) := by decide +kernel
theorem d_Sh_distance_27 : decode b_Sh_distance 27 = .ok (.invokestatic 95, 3) := by decide +kernel
theorem d_Sh_distance_30 : decode b_Sh_distance 30 = .ok (.iadd, 1) := by decide +kernel
theorem d_Sh_distance_31 : decode b_Sh_distance 31 = .ok (.istore_n 3, 1) := by decide +kernel
theorem d_Sh_distance_32 : decode b_Sh_distance 32 = .ok (.iinc 4 1, 3) := by decide +kernel
theorem d_Sh_distance_35 : decode b_Sh_distance 35 = .ok (.goto (-30), 3) := by decide +kernel
theorem d_Sh_distance_38 : decode b_Sh_distance 38 = .ok (.iload_n 3, 1) := by decide +kernel
theorem d_Sh_distance_39 : decode b_Sh_distance 39 = .ok (.ireturn, 1) := by decide +kernel
theorem wf_Sh_40 : Cond.fieldLink R_Sh 40 R_Sh "pieces" "I" ∈ gw_tbl := gw_tb (List.mem_of_getElem? (i := 401) (by decide +kernel)) rfl
theorem wv_Sh_76 : wV R_Sh 76 y_Sh_widthIn b_Sh_widthIn 3 (some .int) 2 := ⟨⟨gw_tb (List.mem_of_getElem? (i := 857) (by decide +kernel)) rfl, gw_tb (List.mem_of_getElem? (i := 12) (by decide +kernel)) rfl, gw_tb (List.mem_of_getElem? (i := 860) (by decide +kernel)) rfl, by decide, by decide, by decide +kernel⟩, gw_tb (List.mem_of_getElem? (i := 858) (by decide +kernel)) rfl, gw_tb (List.mem_of_getElem? (i := 859) (by decide +kernel)) rfl⟩
theorem wm_Sh_95 : Cond.methodLink R_Sh 95 ⟨"java/lang/Math", "abs", "(I)I"⟩ ∈ gw_tbl := gw_tb (List.mem_of_getElem? (i := 892) (by decide +kernel)) rfl
theorem wms_abs : Cond.static ⟨"java/lang/Math", "abs", "(I)I"⟩ ∈ gw_tbl := gw_tb (List.mem_of_getElem? (i := 893) (by decide +kernel)) rfl
theorem wmc_abs : Cond.code ⟨"java/lang/Math", "abs", "(I)I"⟩ prog_16_method_59_code 1 (some .int) ∈ gw_tbl := gw_tb (List.mem_of_getElem? (i := 894) (by decide +kernel)) rfl
def f_Sh_distance_5 (r0 : (Nat → Nat)) (o0 : Ob) (o1 : (Nat → Int32)) (Q : Int32 → Prop) : Nat → Int32 → Int32 → Int32 → Prop
  | 0, _, _, _ => False
  | n + 1, x1, x3, x4 => ((gI o0 0) ≤ x4 → (Q x3)) ∧ (¬ (gI o0 0) ≤ x4 → (f_Sh_widthIn x1 x4 r0 o0 (fun z2 => (vp_in x4 5) ∧ (∀ y4 : Int32, y4 = (if 0 ≤ (z2 - (o1 x4.toNatClampNeg)) then (z2 - (o1 x4.toNatClampNeg)) else 0 - (z2 - (o1 x4.toNatClampNeg))) → ((f_Sh_distance_5 r0 o0 o1 Q n) x1 (x3 + y4) (x4 + (1 : Int32)))))))
def f_Sh_distance (a0 : Int32) (r0 : (Nat → Nat)) (o0 : Ob) (o1 : (Nat → Int32)) (Q : Int32 → Prop) : Prop := (∃ w, f_Sh_distance_5 r0 o0 o1 Q w a0 (0 : Int32) (0 : Int32))
abbrev rm_Sh_distance : Room := { frames := 1, cells := 0, slots := 0, locals := 30 }
set_option maxHeartbeats 4000000 in
set_option maxRecDepth 100000 in
theorem t_Sh_distance_5 {p : Program} {l : Launch} {e : Env} {s : State} {m : MethodId} {args : Array Value} {below : List Frame} {meth : Method} {c : Code} {A : Nat → Prop} {G : Gl} {h0 : Nat} {h1 : Nat} {q0 : Nat → Nat} (r0 : (Nat → Nat)) (o0 : Ob) (o1 : (Nat → Int32)) (Q : Int32 → Prop) (C : Cx p s m args meth c R_Sh b_Sh_distance 5 (some .int) G A) :
    ∀ (n : Nat) (x1 : Int32) (x3 : Int32) (x4 : Int32) (ls : Array Slot) (H : Heap) (locs : List Loc), lv_has ls 5 [(0, .ref h0), (1, .int x1), (2, .ref h1), (3, .int x3), (4, .int x4)] → va_P G.1 CL (cw_Sh G h0 q0 r0 o0 ++ ([kI G h1 5 o1])) H → va_D A (cw_Sh G h0 q0 r0 o0 ++ ([kI G h1 5 o1])) → va_S A s.heap H locs → f_Sh_distance_5 r0 o0 o1 Q n x1 x3 x4 → W p l e rm_Sh_distance s m args below meth c H locs 0 0 (MQ below (va_Qi (fun (r : Int32) (u : Unit) => Q r) (fun (u : Unit) t => BW G A (cw_Sh G h0 q0 r0 o0 ++ ([kI G h1 5 o1])) t) A) args s 0 0 A) (F0 m 5 ls []) := by
  obtain ⟨hx, hb, hml, hown, hr, hts, hK, hA, hlocks, hE⟩ := id C
  intro n
  induction n with
  | zero => intro x1 x3 x4 ls H locs hl hP hD hS h; exact absurd h id
  | succ n ih =>
    intro x1 x3 x4 ls H locs hl hP hD hS h
    have hP : va_P G.1 CL [(h0, .inr (9, [.int (gI o0 0), .ref (q0 1), .ref (q0 2), .ref (q0 3), .ref (q0 4), .ref (q0 5), .ref (q0 6), .ref (q0 7), .int (gI o0 8), .ref (r0 9), .int (gI o0 10), .ref (r0 11)])), kI G (q0 1) 5 (gA o0 1), kI G (q0 2) 20 (gA o0 2), kI G (q0 3) 5 (gA o0 3), kI G (q0 4) 5 (gA o0 4), kI G (q0 5) 5 (gA o0 5), kI G (q0 6) 5 (gA o0 6), kI G (q0 7) 5 (gA o0 7), kB G (r0 9) (r0 109) (gA o0 9), kI G (r0 11) (r0 111) (gA o0 11), kI G h1 5 o1] H := hP
    have hD : va_D A [(h0, .inr (9, [.int (gI o0 0), .ref (q0 1), .ref (q0 2), .ref (q0 3), .ref (q0 4), .ref (q0 5), .ref (q0 6), .ref (q0 7), .int (gI o0 8), .ref (r0 9), .int (gI o0 10), .ref (r0 11)])), kI G (q0 1) 5 (gA o0 1), kI G (q0 2) 20 (gA o0 2), kI G (q0 3) 5 (gA o0 3), kI G (q0 4) 5 (gA o0 4), kI G (q0 5) 5 (gA o0 5), kI G (q0 6) 5 (gA o0 6), kI G (q0 7) 5 (gA o0 7), kB G (r0 9) (r0 109) (gA o0 9), kI G (r0 11) (r0 111) (gA o0 11), kI G h1 5 o1] := hD
    unfold f_Sh_distance_5 at h
    refine lv_iload hx hb d_Sh_distance_5 (lv_at hl 4 rfl) ?_
    refine lv_aload_n hx hb d_Sh_distance_7 rfl (lv_at hl 0 rfl) ?_
    refine va_get (D := G.1) (ci := 9) (v := .int (gI o0 0)) (C := R_Sh) (T := T_Sh) (N := 12) hx hb hts i_Sh hown hK hP 0 rfl rfl 0 (by decide) (hts _ wf_Sh_40) (fun _ h9 => h9) rfl d_Sh_distance_8 ?_
    refine lv_icmp_ge (tgt := 38) hx hb d_Sh_distance_11 (by decide) (fun c1 => ?_) (fun c1 => ?_)
    · have h := h.1 c1
      refine lv_iload_n hx hb d_Sh_distance_38 rfl (lv_at hl 3 rfl) ?_
      have hP : va_P G.1 CL (cw_Sh G h0 q0 r0 o0 ++ ([kI G h1 5 o1])) H := hP
      have hD : va_D A (cw_Sh G h0 q0 r0 o0 ++ ([kI G h1 5 o1])) := hD
      exact W.iret (v := x3) hx hb hr (fun t ht hW => ⟨⟨x3, (), rfl, h, by rw [ht]; exact hP, va_K.moved hW.alike hK, hD⟩, hS.F ht⟩) hS.2.2 d_Sh_distance_39
    · have h := h.2 c1
      refine lv_iload_n hx hb d_Sh_distance_14 rfl (lv_at hl 3 rfl) ?_
      refine lv_aload_n hx hb d_Sh_distance_15 rfl (lv_at hl 0 rfl) ?_
      refine lv_iload_n hx hb d_Sh_distance_16 rfl (lv_at hl 1 rfl) ?_
      refine lv_iload hx hb d_Sh_distance_17 (lv_at hl 4 rfl) ?_
      refine cl_Vi (b := b_Sh_distance) (As := [.int x1, .int x4]) (rest := [.int x3]) (ws := [(h0, .inr (9, [.int (gI o0 0), .ref (q0 1), .ref (q0 2), .ref (q0 3), .ref (q0 4), .ref (q0 5), .ref (q0 6), .ref (q0 7), .int (gI o0 8), .ref (r0 9), .int (gI o0 10), .ref (r0 11)])), kI G (q0 1) 5 (gA o0 1), kI G (q0 2) 20 (gA o0 2), kI G (q0 3) 5 (gA o0 3), kI G (q0 4) 5 (gA o0 4), kI G (q0 5) 5 (gA o0 5), kI G (q0 6) 5 (gA o0 6), kI G (q0 7) 5 (gA o0 7), kB G (r0 9) (r0 109) (gA o0 9), kI G (r0 11) (r0 111) (gA o0 11), kI G h1 5 o1]) (wr := [kI G h1 5 o1]) (w2 := fun (u : Unit) => [(h0, .inr (9, [.int (gI o0 0), .ref (q0 1), .ref (q0 2), .ref (q0 3), .ref (q0 4), .ref (q0 5), .ref (q0 6), .ref (q0 7), .int (gI o0 8), .ref (r0 9), .int (gI o0 10), .ref (r0 11)])), kI G (q0 1) 5 (gA o0 1), kI G (q0 2) 20 (gA o0 2), kI G (q0 3) 5 (gA o0 3), kI G (q0 4) 5 (gA o0 4), kI G (q0 5) 5 (gA o0 5), kI G (q0 6) 5 (gA o0 6), kI G (q0 7) 5 (gA o0 7), kB G (r0 9) (r0 109) (gA o0 9), kI G (r0 11) (r0 111) (gA o0 11), kI G h1 5 o1]) C (c_Sh_widthIn (h0 := h0) (q0 := q0) H.size h) wv_Sh_76 ⟨Nat.le_of_ble_eq_true rfl, Nat.le_of_ble_eq_true rfl⟩ hP hD hS 0 rfl rfl [0, 1, 2, 3, 4, 5, 6, 7, 8, 9] [10] rfl rfl (by decide) (by decide) (by decide) [1, 2, 3, 4, 5, 6, 7, 8, 9, 10, 0] (by decide) (fun u => rfl) rfl hl.1 rfl (lv_room (Nat.le_of_ble_eq_true rfl)) d_Sh_distance_19 ⟨Nat.le_of_ble_eq_true rfl, Nat.le_of_ble_eq_true rfl⟩ rfl rfl (fun z2 u H locs h hP hD hS => ?_)
      have hP : va_P G.1 CL [(h0, .inr (9, [.int (gI o0 0), .ref (q0 1), .ref (q0 2), .ref (q0 3), .ref (q0 4), .ref (q0 5), .ref (q0 6), .ref (q0 7), .int (gI o0 8), .ref (r0 9), .int (gI o0 10), .ref (r0 11)])), kI G (q0 1) 5 (gA o0 1), kI G (q0 2) 20 (gA o0 2), kI G (q0 3) 5 (gA o0 3), kI G (q0 4) 5 (gA o0 4), kI G (q0 5) 5 (gA o0 5), kI G (q0 6) 5 (gA o0 6), kI G (q0 7) 5 (gA o0 7), kB G (r0 9) (r0 109) (gA o0 9), kI G (r0 11) (r0 111) (gA o0 11), kI G h1 5 o1] H := hP
      have hD : va_D A [(h0, .inr (9, [.int (gI o0 0), .ref (q0 1), .ref (q0 2), .ref (q0 3), .ref (q0 4), .ref (q0 5), .ref (q0 6), .ref (q0 7), .int (gI o0 8), .ref (r0 9), .int (gI o0 10), .ref (r0 11)])), kI G (q0 1) 5 (gA o0 1), kI G (q0 2) 20 (gA o0 2), kI G (q0 3) 5 (gA o0 3), kI G (q0 4) 5 (gA o0 4), kI G (q0 5) 5 (gA o0 5), kI G (q0 6) 5 (gA o0 6), kI G (q0 7) 5 (gA o0 7), kB G (r0 9) (r0 109) (gA o0 9), kI G (r0 11) (r0 111) (gA o0 11), kI G h1 5 o1] := hD
      refine lv_aload_n hx hb d_Sh_distance_22 rfl (lv_at hl 2 rfl) ?_
      refine lv_iload hx hb d_Sh_distance_23 (lv_at hl 4 rfl) ?_
      have g3 := h.1
      have h := h.2
      refine xa_iald hx hb hK hP 10 0 rfl rfl g3 (k := x4.toNatClampNeg) rfl d_Sh_distance_25 ?_
      refine lv_isub hx hb d_Sh_distance_26 ?_
      refine va_mabs hx hb (hml.trans hl.1.symm) hown (hts _ wm_Sh_95) (hts _ wms_abs) (hts _ wmi) (hts _ wmc_abs) (Nat.le_of_ble_eq_true rfl) (Nat.le_of_ble_eq_true rfl) (Nat.le_of_ble_eq_true rfl) (Nat.le_of_ble_eq_true rfl) d_Sh_distance_27 ?_
      refine lv_topi (fun y4 ey4 => ?_)
      have h := h y4 ey4
      refine lv_iadd hx hb d_Sh_distance_30 ?_
      refine lv_istore_n (lv' := [(3, .int (x3 + y4)), (0, .ref h0), (1, .int x1), (2, .ref h1), (4, .int x4)]) hx hb d_Sh_distance_31 rfl hl (by decide) rfl (fun ls hl => ?_)
      refine lv_iinc (v := (x4 + (1 : Int32))) (lv' := [(4, .int (x4 + (1 : Int32))), (3, .int (x3 + y4)), (0, .ref h0), (1, .int x1), (2, .ref h1)]) hx hb d_Sh_distance_32 hl (k := 4) rfl rfl (by decide) rfl (fun ls hl => ?_)
      refine lv_goto (tgt := 5) hx hb d_Sh_distance_35 (by decide) ?_
      have hl := lv_sub (l' := [(0, .ref h0), (1, .int x1), (2, .ref h1), (3, .int (x3 + y4)), (4, .int (x4 + (1 : Int32)))]) hl [2, 3, 4, 1, 0] rfl
      have hP : va_P G.1 CL (cw_Sh G h0 q0 r0 o0 ++ ([kI G h1 5 o1])) H := hP
      have hD : va_D A (cw_Sh G h0 q0 r0 o0 ++ ([kI G h1 5 o1])) := hD
      exact ih x1 (x3 + y4) (x4 + (1 : Int32)) ls H locs hl hP hD hS h
set_option maxHeartbeats 4000000 in
set_option maxRecDepth 100000 in
theorem c_Sh_distance {l : Launch} {G : Gl} {h0 : Nat} {h1 : Nat} {q0 : Nat → Nat} {a0 : Int32} {r0 : (Nat → Nat)} {o0 : Ob} {o1 : (Nat → Int32)} {Q : Int32 → Prop} (sz : Nat) (h : f_Sh_distance a0 r0 o0 o1 Q) : Met l y_Sh_distance w_Sh_distance rm_Sh_distance (PcW G [.ref h0, .int a0, .ref h1] sz (cw_Sh G h0 q0 r0 o0 ++ ([kI G h1 5 o1]))) (va_Qi (fun (r : Int32) (u : Unit) => Q r) (fun (u : Unit) t => BW G (va_A (cw_Sh G h0 q0 r0 o0 ++ ([kI G h1 5 o1])) sz) (cw_Sh G h0 q0 r0 o0 ++ ([kI G h1 5 o1])) t) (va_A (cw_Sh G h0 q0 r0 o0 ++ ([kI G h1 5 o1])) sz)) 0 0 (va_A (cw_Sh G h0 q0 r0 o0 ++ ([kI G h1 5 o1])) sz) := by
  refine Met.ofW (cc := b_Sh_distance) (maxL := 5) (ret := (some .int)) (by decide +kernel) rfl ?_
  intro p e s m args below meth c s₁ B hml hv
  obtain ⟨rfl, hsz, hP, hK, hD0, hE⟩ := hv
  have hx := B.exec
  have hb := B.bytes
  have hr := B.returns
  have hts0 := atoms_spec (ws := w_Sh_distance) B.pre
  have hts : ∀ w ∈ gw_tbl, w.before ([.ref h0, .int a0, .ref h1]).toArray s = true := fun w hw => hts0 w (List.mem_cons_of_mem _ hw)
  have hown : s.vm.findClass R_Sh = some m.cls := findClass_of_methodNamed B.named
  have hlocks := B.notSynchronized
  subst hsz
  have hD := hD0.self (sz := s.heap.size)
  generalize hAe : va_A (cw_Sh G h0 q0 r0 o0 ++ ([kI G h1 5 o1])) s.heap.size = A at hD hE ⊢
  have hA : ∀ q : Nat, s.heap.size ≤ q → A q := fun q h => by rw [← hAe]; exact Or.inr h
  have hS : va_S A s.heap s.heap [] := va_S.rf
  have C : Cx p s m ([.ref h0, .int a0, .ref h1]).toArray meth c R_Sh b_Sh_distance 5 (some .int) G A := ⟨hx, hb, hml, hown, hr, hts, hK, hA, hlocks, hE⟩
  have hl := lv_entry ([.ref h0, .int a0, .ref h1]) (n := 5) (Nat.le_of_ble_eq_true rfl)
  rw [lg_entry_eq]
  generalize (lg_sl ([.ref h0, .int a0, .ref h1]) ++ List.replicate (5 - (lg_sl ([.ref h0, .int a0, .ref h1])).length) Slot.unset).toArray = ls at hl ⊢
  have hl : lv_has ls 5 [(0, .ref h0), (1, .int a0), (2, .ref h1)] := hl
  have hD : va_D A [(h0, .inr (9, [.int (gI o0 0), .ref (q0 1), .ref (q0 2), .ref (q0 3), .ref (q0 4), .ref (q0 5), .ref (q0 6), .ref (q0 7), .int (gI o0 8), .ref (r0 9), .int (gI o0 10), .ref (r0 11)])), kI G (q0 1) 5 (gA o0 1), kI G (q0 2) 20 (gA o0 2), kI G (q0 3) 5 (gA o0 3), kI G (q0 4) 5 (gA o0 4), kI G (q0 5) 5 (gA o0 5), kI G (q0 6) 5 (gA o0 6), kI G (q0 7) 5 (gA o0 7), kB G (r0 9) (r0 109) (gA o0 9), kI G (r0 11) (r0 111) (gA o0 11), kI G h1 5 o1] := hD
  unfold f_Sh_distance at h
  suffices key : ∀ (H : Heap) (locs : List Loc), va_P G.1 CL [(h0, .inr (9, [.int (gI o0 0), .ref (q0 1), .ref (q0 2), .ref (q0 3), .ref (q0 4), .ref (q0 5), .ref (q0 6), .ref (q0 7), .int (gI o0 8), .ref (r0 9), .int (gI o0 10), .ref (r0 11)])), kI G (q0 1) 5 (gA o0 1), kI G (q0 2) 20 (gA o0 2), kI G (q0 3) 5 (gA o0 3), kI G (q0 4) 5 (gA o0 4), kI G (q0 5) 5 (gA o0 5), kI G (q0 6) 5 (gA o0 6), kI G (q0 7) 5 (gA o0 7), kB G (r0 9) (r0 109) (gA o0 9), kI G (r0 11) (r0 111) (gA o0 11), kI G h1 5 o1] H → va_S A s.heap H locs → W p l e rm_Sh_distance s m ([.ref h0, .int a0, .ref h1]).toArray below meth c H locs 0 0 (MQ below (va_Qi (fun (r : Int32) (u : Unit) => Q r) (fun (u : Unit) t => BW G A (cw_Sh G h0 q0 r0 o0 ++ ([kI G h1 5 o1])) t) A) ([.ref h0, .int a0, .ref h1]).toArray s 0 0 A) (F0 m 0 ls []) from key s.heap [] hP hS
  intro H locs hP hS
  refine lv_iconst (v := (0 : Int32)) hx hb d_Sh_distance_0 (by decide) ?_
  refine lv_istore_n (lv' := [(3, .int (0 : Int32)), (0, .ref h0), (1, .int a0), (2, .ref h1)]) hx hb d_Sh_distance_1 rfl hl (by decide) rfl (fun ls hl => ?_)
  refine lv_iconst (v := (0 : Int32)) hx hb d_Sh_distance_2 (by decide) ?_
  refine lv_istore (lv' := [(4, .int (0 : Int32)), (3, .int (0 : Int32)), (0, .ref h0), (1, .int a0), (2, .ref h1)]) hx hb d_Sh_distance_3 hl (by decide) rfl (fun ls hl => ?_)
  have hl := lv_sub (l' := [(0, .ref h0), (1, .int a0), (2, .ref h1), (3, .int (0 : Int32)), (4, .int (0 : Int32))]) hl [2, 3, 4, 1, 0] rfl
  have hP : va_P G.1 CL (cw_Sh G h0 q0 r0 o0 ++ ([kI G h1 5 o1])) H := hP
  have hD : va_D A (cw_Sh G h0 q0 r0 o0 ++ ([kI G h1 5 o1])) := hD
  obtain ⟨w, h⟩ := h
  exact t_Sh_distance_5 r0 o0 o1 Q C w a0 (0 : Int32) (0 : Int32) ls _ locs hl hP hD hS h
def f_Sh_distanceOwn_5 (r0 : (Nat → Nat)) (o0 : Ob) (Q : Int32 → Prop) : Nat → Int32 → Int32 → Int32 → Prop
  | 0, _, _, _ => False
  | n + 1, x1, x3, x4 => ((gI o0 0) ≤ x4 → (Q x3)) ∧ (¬ (gI o0 0) ≤ x4 → (f_Sh_widthIn x1 x4 r0 o0 (fun z2 => (vp_in x4 5) ∧ (∀ y4 : Int32, y4 = (if 0 ≤ (z2 - ((gA o0 5) x4.toNatClampNeg)) then (z2 - ((gA o0 5) x4.toNatClampNeg)) else 0 - (z2 - ((gA o0 5) x4.toNatClampNeg))) → ((f_Sh_distanceOwn_5 r0 o0 Q n) x1 (x3 + y4) (x4 + (1 : Int32)))))))
def f_Sh_distanceOwn (a0 : Int32) (r0 : (Nat → Nat)) (o0 : Ob) (Q : Int32 → Prop) : Prop := (∃ w, f_Sh_distanceOwn_5 r0 o0 Q w a0 (0 : Int32) (0 : Int32))
abbrev rm_Sh_distanceOwn : Room := { frames := 1, cells := 0, slots := 0, locals := 30 }
set_option maxHeartbeats 4000000 in
set_option maxRecDepth 100000 in
theorem t_Sh_distanceOwn_5 {p : Program} {l : Launch} {e : Env} {s : State} {m : MethodId} {args : Array Value} {below : List Frame} {meth : Method} {c : Code} {A : Nat → Prop} {G : Gl} {h0 : Nat} {q0 : Nat → Nat} (r0 : (Nat → Nat)) (o0 : Ob) (Q : Int32 → Prop) (C : Cx p s m args meth c R_Sh b_Sh_distance 5 (some .int) G A) :
    ∀ (n : Nat) (x1 : Int32) (x3 : Int32) (x4 : Int32) (ls : Array Slot) (H : Heap) (locs : List Loc), lv_has ls 5 [(0, .ref h0), (1, .int x1), (2, .ref (q0 5)), (3, .int x3), (4, .int x4)] → va_P G.1 CL (cw_Sh G h0 q0 r0 o0) H → va_D A (cw_Sh G h0 q0 r0 o0) → va_S A s.heap H locs → f_Sh_distanceOwn_5 r0 o0 Q n x1 x3 x4 → W p l e rm_Sh_distanceOwn s m args below meth c H locs 0 0 (MQ below (va_Qi (fun (r : Int32) (u : Unit) => Q r) (fun (u : Unit) t => BW G A (cw_Sh G h0 q0 r0 o0) t) A) args s 0 0 A) (F0 m 5 ls []) := by
  obtain ⟨hx, hb, hml, hown, hr, hts, hK, hA, hlocks, hE⟩ := id C
  intro n
  induction n with
  | zero => intro x1 x3 x4 ls H locs hl hP hD hS h; exact absurd h id
  | succ n ih =>
    intro x1 x3 x4 ls H locs hl hP hD hS h
    have hP : va_P G.1 CL [(h0, .inr (9, [.int (gI o0 0), .ref (q0 1), .ref (q0 2), .ref (q0 3), .ref (q0 4), .ref (q0 5), .ref (q0 6), .ref (q0 7), .int (gI o0 8), .ref (r0 9), .int (gI o0 10), .ref (r0 11)])), kI G (q0 1) 5 (gA o0 1), kI G (q0 2) 20 (gA o0 2), kI G (q0 3) 5 (gA o0 3), kI G (q0 4) 5 (gA o0 4), kI G (q0 5) 5 (gA o0 5), kI G (q0 6) 5 (gA o0 6), kI G (q0 7) 5 (gA o0 7), kB G (r0 9) (r0 109) (gA o0 9), kI G (r0 11) (r0 111) (gA o0 11)] H := hP
    have hD : va_D A [(h0, .inr (9, [.int (gI o0 0), .ref (q0 1), .ref (q0 2), .ref (q0 3), .ref (q0 4), .ref (q0 5), .ref (q0 6), .ref (q0 7), .int (gI o0 8), .ref (r0 9), .int (gI o0 10), .ref (r0 11)])), kI G (q0 1) 5 (gA o0 1), kI G (q0 2) 20 (gA o0 2), kI G (q0 3) 5 (gA o0 3), kI G (q0 4) 5 (gA o0 4), kI G (q0 5) 5 (gA o0 5), kI G (q0 6) 5 (gA o0 6), kI G (q0 7) 5 (gA o0 7), kB G (r0 9) (r0 109) (gA o0 9), kI G (r0 11) (r0 111) (gA o0 11)] := hD
    unfold f_Sh_distanceOwn_5 at h
    refine lv_iload hx hb d_Sh_distance_5 (lv_at hl 4 rfl) ?_
    refine lv_aload_n hx hb d_Sh_distance_7 rfl (lv_at hl 0 rfl) ?_
    refine va_get (D := G.1) (ci := 9) (v := .int (gI o0 0)) (C := R_Sh) (T := T_Sh) (N := 12) hx hb hts i_Sh hown hK hP 0 rfl rfl 0 (by decide) (hts _ wf_Sh_40) (fun _ h9 => h9) rfl d_Sh_distance_8 ?_
    refine lv_icmp_ge (tgt := 38) hx hb d_Sh_distance_11 (by decide) (fun c1 => ?_) (fun c1 => ?_)
    · have h := h.1 c1
      refine lv_iload_n hx hb d_Sh_distance_38 rfl (lv_at hl 3 rfl) ?_
      have hP : va_P G.1 CL (cw_Sh G h0 q0 r0 o0) H := hP
      have hD : va_D A (cw_Sh G h0 q0 r0 o0) := hD
      exact W.iret (v := x3) hx hb hr (fun t ht hW => ⟨⟨x3, (), rfl, h, by rw [ht]; exact hP, va_K.moved hW.alike hK, hD⟩, hS.F ht⟩) hS.2.2 d_Sh_distance_39
    · have h := h.2 c1
      refine lv_iload_n hx hb d_Sh_distance_14 rfl (lv_at hl 3 rfl) ?_
      refine lv_aload_n hx hb d_Sh_distance_15 rfl (lv_at hl 0 rfl) ?_
      refine lv_iload_n hx hb d_Sh_distance_16 rfl (lv_at hl 1 rfl) ?_
      refine lv_iload hx hb d_Sh_distance_17 (lv_at hl 4 rfl) ?_
      refine cl_Vi (b := b_Sh_distance) (As := [.int x1, .int x4]) (rest := [.int x3]) (ws := [(h0, .inr (9, [.int (gI o0 0), .ref (q0 1), .ref (q0 2), .ref (q0 3), .ref (q0 4), .ref (q0 5), .ref (q0 6), .ref (q0 7), .int (gI o0 8), .ref (r0 9), .int (gI o0 10), .ref (r0 11)])), kI G (q0 1) 5 (gA o0 1), kI G (q0 2) 20 (gA o0 2), kI G (q0 3) 5 (gA o0 3), kI G (q0 4) 5 (gA o0 4), kI G (q0 5) 5 (gA o0 5), kI G (q0 6) 5 (gA o0 6), kI G (q0 7) 5 (gA o0 7), kB G (r0 9) (r0 109) (gA o0 9), kI G (r0 11) (r0 111) (gA o0 11)]) (wr := []) (w2 := fun (u : Unit) => [(h0, .inr (9, [.int (gI o0 0), .ref (q0 1), .ref (q0 2), .ref (q0 3), .ref (q0 4), .ref (q0 5), .ref (q0 6), .ref (q0 7), .int (gI o0 8), .ref (r0 9), .int (gI o0 10), .ref (r0 11)])), kI G (q0 1) 5 (gA o0 1), kI G (q0 2) 20 (gA o0 2), kI G (q0 3) 5 (gA o0 3), kI G (q0 4) 5 (gA o0 4), kI G (q0 5) 5 (gA o0 5), kI G (q0 6) 5 (gA o0 6), kI G (q0 7) 5 (gA o0 7), kB G (r0 9) (r0 109) (gA o0 9), kI G (r0 11) (r0 111) (gA o0 11)]) C (c_Sh_widthIn (h0 := h0) (q0 := q0) H.size h) wv_Sh_76 ⟨Nat.le_of_ble_eq_true rfl, Nat.le_of_ble_eq_true rfl⟩ hP hD hS 0 rfl rfl [0, 1, 2, 3, 4, 5, 6, 7, 8, 9] [] rfl rfl (by decide) (by decide) (by decide) [0, 1, 2, 3, 4, 5, 6, 7, 8, 9] (by decide) (fun u => rfl) rfl hl.1 rfl (lv_room (Nat.le_of_ble_eq_true rfl)) d_Sh_distance_19 ⟨Nat.le_of_ble_eq_true rfl, Nat.le_of_ble_eq_true rfl⟩ rfl rfl (fun z2 u H locs h hP hD hS => ?_)
      have hP : va_P G.1 CL [(h0, .inr (9, [.int (gI o0 0), .ref (q0 1), .ref (q0 2), .ref (q0 3), .ref (q0 4), .ref (q0 5), .ref (q0 6), .ref (q0 7), .int (gI o0 8), .ref (r0 9), .int (gI o0 10), .ref (r0 11)])), kI G (q0 1) 5 (gA o0 1), kI G (q0 2) 20 (gA o0 2), kI G (q0 3) 5 (gA o0 3), kI G (q0 4) 5 (gA o0 4), kI G (q0 5) 5 (gA o0 5), kI G (q0 6) 5 (gA o0 6), kI G (q0 7) 5 (gA o0 7), kB G (r0 9) (r0 109) (gA o0 9), kI G (r0 11) (r0 111) (gA o0 11)] H := hP
      have hD : va_D A [(h0, .inr (9, [.int (gI o0 0), .ref (q0 1), .ref (q0 2), .ref (q0 3), .ref (q0 4), .ref (q0 5), .ref (q0 6), .ref (q0 7), .int (gI o0 8), .ref (r0 9), .int (gI o0 10), .ref (r0 11)])), kI G (q0 1) 5 (gA o0 1), kI G (q0 2) 20 (gA o0 2), kI G (q0 3) 5 (gA o0 3), kI G (q0 4) 5 (gA o0 4), kI G (q0 5) 5 (gA o0 5), kI G (q0 6) 5 (gA o0 6), kI G (q0 7) 5 (gA o0 7), kB G (r0 9) (r0 109) (gA o0 9), kI G (r0 11) (r0 111) (gA o0 11)] := hD
      refine lv_aload_n hx hb d_Sh_distance_22 rfl (lv_at hl 2 rfl) ?_
      refine lv_iload hx hb d_Sh_distance_23 (lv_at hl 4 rfl) ?_
      have g3 := h.1
      have h := h.2
      refine xa_iald hx hb hK hP 5 0 rfl rfl g3 (k := x4.toNatClampNeg) rfl d_Sh_distance_25 ?_
      refine lv_isub hx hb d_Sh_distance_26 ?_
      refine va_mabs hx hb (hml.trans hl.1.symm) hown (hts _ wm_Sh_95) (hts _ wms_abs) (hts _ wmi) (hts _ wmc_abs) (Nat.le_of_ble_eq_true rfl) (Nat.le_of_ble_eq_true rfl) (Nat.le_of_ble_eq_true rfl) (Nat.le_of_ble_eq_true rfl) d_Sh_distance_27 ?_
      refine lv_topi (fun y4 ey4 => ?_)
      have h := h y4 ey4
      refine lv_iadd hx hb d_Sh_distance_30 ?_
      refine lv_istore_n (lv' := [(3, .int (x3 + y4)), (0, .ref h0), (1, .int x1), (2, .ref (q0 5)), (4, .int x4)]) hx hb d_Sh_distance_31 rfl hl (by decide) rfl (fun ls hl => ?_)
      refine lv_iinc (v := (x4 + (1 : Int32))) (lv' := [(4, .int (x4 + (1 : Int32))), (3, .int (x3 + y4)), (0, .ref h0), (1, .int x1), (2, .ref (q0 5))]) hx hb d_Sh_distance_32 hl (k := 4) rfl rfl (by decide) rfl (fun ls hl => ?_)
      refine lv_goto (tgt := 5) hx hb d_Sh_distance_35 (by decide) ?_
      have hl := lv_sub (l' := [(0, .ref h0), (1, .int x1), (2, .ref (q0 5)), (3, .int (x3 + y4)), (4, .int (x4 + (1 : Int32)))]) hl [2, 3, 4, 1, 0] rfl
      have hP : va_P G.1 CL (cw_Sh G h0 q0 r0 o0) H := hP
      have hD : va_D A (cw_Sh G h0 q0 r0 o0) := hD
      exact ih x1 (x3 + y4) (x4 + (1 : Int32)) ls H locs hl hP hD hS h
set_option maxHeartbeats 4000000 in
set_option maxRecDepth 100000 in
theorem c_Sh_distanceOwn {l : Launch} {G : Gl} {h0 : Nat} {q0 : Nat → Nat} {a0 : Int32} {r0 : (Nat → Nat)} {o0 : Ob} {Q : Int32 → Prop} (sz : Nat) (h : f_Sh_distanceOwn a0 r0 o0 Q) : Met l y_Sh_distance w_Sh_distance rm_Sh_distanceOwn (PcW G [.ref h0, .int a0, .ref (q0 5)] sz (cw_Sh G h0 q0 r0 o0)) (va_Qi (fun (r : Int32) (u : Unit) => Q r) (fun (u : Unit) t => BW G (va_A (cw_Sh G h0 q0 r0 o0) sz) (cw_Sh G h0 q0 r0 o0) t) (va_A (cw_Sh G h0 q0 r0 o0) sz)) 0 0 (va_A (cw_Sh G h0 q0 r0 o0) sz) := by
  refine Met.ofW (cc := b_Sh_distance) (maxL := 5) (ret := (some .int)) (by decide +kernel) rfl ?_
  intro p e s m args below meth c s₁ B hml hv
  obtain ⟨rfl, hsz, hP, hK, hD0, hE⟩ := hv
  have hx := B.exec
  have hb := B.bytes
  have hr := B.returns
  have hts0 := atoms_spec (ws := w_Sh_distance) B.pre
  have hts : ∀ w ∈ gw_tbl, w.before ([.ref h0, .int a0, .ref (q0 5)]).toArray s = true := fun w hw => hts0 w (List.mem_cons_of_mem _ hw)
  have hown : s.vm.findClass R_Sh = some m.cls := findClass_of_methodNamed B.named
  have hlocks := B.notSynchronized
  subst hsz
  have hD := hD0.self (sz := s.heap.size)
  generalize hAe : va_A (cw_Sh G h0 q0 r0 o0) s.heap.size = A at hD hE ⊢
  have hA : ∀ q : Nat, s.heap.size ≤ q → A q := fun q h => by rw [← hAe]; exact Or.inr h
  have hS : va_S A s.heap s.heap [] := va_S.rf
  have C : Cx p s m ([.ref h0, .int a0, .ref (q0 5)]).toArray meth c R_Sh b_Sh_distance 5 (some .int) G A := ⟨hx, hb, hml, hown, hr, hts, hK, hA, hlocks, hE⟩
  have hl := lv_entry ([.ref h0, .int a0, .ref (q0 5)]) (n := 5) (Nat.le_of_ble_eq_true rfl)
  rw [lg_entry_eq]
  generalize (lg_sl ([.ref h0, .int a0, .ref (q0 5)]) ++ List.replicate (5 - (lg_sl ([.ref h0, .int a0, .ref (q0 5)])).length) Slot.unset).toArray = ls at hl ⊢
  have hl : lv_has ls 5 [(0, .ref h0), (1, .int a0), (2, .ref (q0 5))] := hl
  have hD : va_D A [(h0, .inr (9, [.int (gI o0 0), .ref (q0 1), .ref (q0 2), .ref (q0 3), .ref (q0 4), .ref (q0 5), .ref (q0 6), .ref (q0 7), .int (gI o0 8), .ref (r0 9), .int (gI o0 10), .ref (r0 11)])), kI G (q0 1) 5 (gA o0 1), kI G (q0 2) 20 (gA o0 2), kI G (q0 3) 5 (gA o0 3), kI G (q0 4) 5 (gA o0 4), kI G (q0 5) 5 (gA o0 5), kI G (q0 6) 5 (gA o0 6), kI G (q0 7) 5 (gA o0 7), kB G (r0 9) (r0 109) (gA o0 9), kI G (r0 11) (r0 111) (gA o0 11)] := hD
  unfold f_Sh_distanceOwn at h
  suffices key : ∀ (H : Heap) (locs : List Loc), va_P G.1 CL [(h0, .inr (9, [.int (gI o0 0), .ref (q0 1), .ref (q0 2), .ref (q0 3), .ref (q0 4), .ref (q0 5), .ref (q0 6), .ref (q0 7), .int (gI o0 8), .ref (r0 9), .int (gI o0 10), .ref (r0 11)])), kI G (q0 1) 5 (gA o0 1), kI G (q0 2) 20 (gA o0 2), kI G (q0 3) 5 (gA o0 3), kI G (q0 4) 5 (gA o0 4), kI G (q0 5) 5 (gA o0 5), kI G (q0 6) 5 (gA o0 6), kI G (q0 7) 5 (gA o0 7), kB G (r0 9) (r0 109) (gA o0 9), kI G (r0 11) (r0 111) (gA o0 11)] H → va_S A s.heap H locs → W p l e rm_Sh_distanceOwn s m ([.ref h0, .int a0, .ref (q0 5)]).toArray below meth c H locs 0 0 (MQ below (va_Qi (fun (r : Int32) (u : Unit) => Q r) (fun (u : Unit) t => BW G A (cw_Sh G h0 q0 r0 o0) t) A) ([.ref h0, .int a0, .ref (q0 5)]).toArray s 0 0 A) (F0 m 0 ls []) from key s.heap [] hP hS
  intro H locs hP hS
  refine lv_iconst (v := (0 : Int32)) hx hb d_Sh_distance_0 (by decide) ?_
  refine lv_istore_n (lv' := [(3, .int (0 : Int32)), (0, .ref h0), (1, .int a0), (2, .ref (q0 5))]) hx hb d_Sh_distance_1 rfl hl (by decide) rfl (fun ls hl => ?_)
  refine lv_iconst (v := (0 : Int32)) hx hb d_Sh_distance_2 (by decide) ?_
  refine lv_istore (lv' := [(4, .int (0 : Int32)), (3, .int (0 : Int32)), (0, .ref h0), (1, .int a0), (2, .ref (q0 5))]) hx hb d_Sh_distance_3 hl (by decide) rfl (fun ls hl => ?_)
  have hl := lv_sub (l' := [(0, .ref h0), (1, .int a0), (2, .ref (q0 5)), (3, .int (0 : Int32)), (4, .int (0 : Int32))]) hl [2, 3, 4, 1, 0] rfl
  have hP : va_P G.1 CL (cw_Sh G h0 q0 r0 o0) H := hP
  have hD : va_D A (cw_Sh G h0 q0 r0 o0) := hD
  obtain ⟨w, h⟩ := h
  exact t_Sh_distanceOwn_5 r0 o0 Q C w a0 (0 : Int32) (0 : Int32) ls _ locs hl hP hD hS h
abbrev b_Sh_nearestFit : ByteArray := prog_10_method_10_code
def y_Sh_nearestFit : MethodName := ⟨R_Sh, "nearestFit", "([I)I"⟩
abbrev w_Sh_nearestFit : List Cond := Cond.code y_Sh_nearestFit b_Sh_nearestFit 6 (some .int) :: gw_tbl
theorem d_Sh_nearestFit_0 : decode b_Sh_nearestFit 0 = .ok (.iconst (-1), 1) := by decide +kernel
theorem d_Sh_nearestFit_1 : decode b_Sh_nearestFit 1 = .ok (.istore_n 2, 1) := by decide +kernel
theorem d_Sh_nearestFit_2 : decode b_Sh_nearestFit 2 = .ok (.ldc 90, 2) := by decide +kernel
theorem d_Sh_nearestFit_4 : decode b_Sh_nearestFit 4 = .ok (.istore_n 3, 1) := by decide +kernel
theorem d_Sh_nearestFit_5 : decode b_Sh_nearestFit 5 = .ok (.iconst 0, 1) := by decide +kernel
theorem d_Sh_nearestFit_6 : decode b_Sh_nearestFit 6 = .ok (.istore 4, 2) := by decide +kernel
theorem d_Sh_nearestFit_8 : decode b_Sh_nearestFit 8 = .ok (.iload 4, 2) := by decide +kernel
theorem d_Sh_nearestFit_10 : decode b_Sh_nearestFit 10 = .ok (.aload_n 0, 1) := by decide +kernel
theorem d_Sh_nearestFit_11 : decode b_Sh_nearestFit 11 = .ok (.getfield 69, 3) := by decide +kernel
theorem d_Sh_nearestFit_14 : decode b_Sh_nearestFit 14 = .ok (.if_icmp .ge 39, 3) := by decide +kernel
theorem d_Sh_nearestFit_17 : decode b_Sh_nearestFit 17 = .ok (.aload_n 0, 1) := by decide +kernel
theorem d_Sh_nearestFit_18 : decode b_Sh_nearestFit 18 = .ok (.iload 4, 2) := by decide +kernel
theorem d_Sh_nearestFit_20 : decode b_Sh_nearestFit 20 = .ok (.invokevirtual 86, 3) := by decide +kernel
theorem d_Sh_nearestFit_23 : decode b_Sh_nearestFit 23 = .ok (.ifCond .eq 24, 3) := by decide +kernel
theorem d_Sh_nearestFit_26 : decode b_Sh_nearestFit 26 = .ok (.aload_n 0, 1) := by decide +kernel
theorem d_Sh_nearestFit_27 : decode b_Sh_nearestFit 27 = .ok (.iload 4, 2) := by decide +kernel
theorem d_Sh_nearestFit_29 : decode b_Sh_nearestFit 29 = .ok (.aload_n 1, 1) := by decide +kernel
theorem d_Sh_nearestFit_30 : decode b_Sh_nearestFit 30 = .ok (.invokevirtual 91, 3) := by decide +kernel
theorem d_Sh_nearestFit_33 : decode b_Sh_nearestFit 33 = .ok (.istore 5, 2) := by decide +kernel
theorem d_Sh_nearestFit_35 : decode b_Sh_nearestFit 35 = .ok (.iload 5, 2) := by decide +kernel
theorem d_Sh_nearestFit_37 : decode b_Sh_nearestFit 37 = .ok (.iload_n 3, 1) := by decide +kernel
theorem d_Sh_nearestFit_38 : decode b_Sh_nearestFit 38 = .ok (.if_icmp .ge 9, 3) := by decide +kernel
theorem d_Sh_nearestFit_41 : decode b_Sh_nearestFit 41 = .ok (.iload 5, 2) := by decide +kernel
theorem d_Sh_nearestFit_43 : decode b_Sh_nearestFit 43 = .ok (.istore_n 3, 1) := by decide +kernel
theorem d_Sh_nearestFit_44 : decode b_Sh_nearestFit 44 = .ok (.iload 4, 2) := by decide +kernel
theorem d_Sh_nearestFit_46 : decode b_Sh_nearestFit 46 = .ok (.istore_n 2, 1) := by decide +kernel
theorem d_Sh_nearestFit_47 : decode b_Sh_nearestFit 47 = .ok (.iinc 4 1, 3) := by decide +kernel
theorem d_Sh_nearestFit_50 : decode b_Sh_nearestFit 50 = .ok (.goto (-42), 3) := by decide +kernel
theorem d_Sh_nearestFit_53 : decode b_Sh_nearestFit 53 = .ok (.iload_n 2, 1) := by decide +kernel
theorem d_Sh_nearestFit_54 : decode b_Sh_nearestFit 54 = .ok (.ireturn, 1) := by decide +kernel
theorem wc_Sh_90 : Cond.constant R_Sh 90 (1000000) ∈ gw_tbl := gw_tb (List.mem_of_getElem? (i := 887) (by decide +kernel)) rfl
theorem wv_Sh_91 : wV R_Sh 91 y_Sh_distance b_Sh_distance 5 (some .int) 2 := ⟨⟨gw_tb (List.mem_of_getElem? (i := 888) (by decide +kernel)) rfl, gw_tb (List.mem_of_getElem? (i := 12) (by decide +kernel)) rfl, gw_tb (List.mem_of_getElem? (i := 891) (by decide +kernel)) rfl, by decide, by decide, by decide +kernel⟩, gw_tb (List.mem_of_getElem? (i := 889) (by decide +kernel)) rfl, gw_tb (List.mem_of_getElem? (i := 890) (by decide +kernel)) rfl⟩
def f_Sh_nearestFit_8 (r0 : (Nat → Nat)) (o0 : Ob) (o1 : (Nat → Int32)) (Q : Int32 → Prop) : Nat → Int32 → Int32 → Int32 → Prop
  | 0, _, _, _ => False
  | n + 1, x2, x3, x4 => ((gI o0 8) ≤ x4 → (Q x2)) ∧ (¬ (gI o0 8) ≤ x4 → (f_Sh_fits x4 r0 o0 (fun z2 => (z2 = 0 → ((f_Sh_nearestFit_8 r0 o0 o1 Q n) x2 x3 (x4 + (1 : Int32)))) ∧ (¬ z2 = 0 → (f_Sh_distance x4 r0 o0 o1 (fun z4 => (x3 ≤ z4 → ((f_Sh_nearestFit_8 r0 o0 o1 Q n) x2 x3 (x4 + (1 : Int32)))) ∧ (¬ x3 ≤ z4 → ((f_Sh_nearestFit_8 r0 o0 o1 Q n) x4 z4 (x4 + (1 : Int32))))))))))
def f_Sh_nearestFit (r0 : (Nat → Nat)) (o0 : Ob) (o1 : (Nat → Int32)) (Q : Int32 → Prop) : Prop := (∃ w, f_Sh_nearestFit_8 r0 o0 o1 Q w (-1 : Int32) (1000000 : Int32) (0 : Int32))
abbrev rm_Sh_nearestFit : Room := { frames := 2, cells := 0, slots := 0, locals := 54 }
set_option maxHeartbeats 4000000 in
set_option maxRecDepth 100000 in
theorem t_Sh_nearestFit_8 {p : Program} {l : Launch} {e : Env} {s : State} {m : MethodId} {args : Array Value} {below : List Frame} {meth : Method} {c : Code} {A : Nat → Prop} {G : Gl} {h0 : Nat} {h1 : Nat} {q0 : Nat → Nat} (r0 : (Nat → Nat)) (o0 : Ob) (o1 : (Nat → Int32)) (Q : Int32 → Prop) (C : Cx p s m args meth c R_Sh b_Sh_nearestFit 6 (some .int) G A) :
    ∀ (n : Nat) (x2 : Int32) (x3 : Int32) (x4 : Int32) (ls : Array Slot) (H : Heap) (locs : List Loc), lv_has ls 6 [(0, .ref h0), (1, .ref h1), (2, .int x2), (3, .int x3), (4, .int x4)] → va_P G.1 CL (cw_Sh G h0 q0 r0 o0 ++ ([kI G h1 5 o1])) H → va_D A (cw_Sh G h0 q0 r0 o0 ++ ([kI G h1 5 o1])) → va_S A s.heap H locs → f_Sh_nearestFit_8 r0 o0 o1 Q n x2 x3 x4 → W p l e rm_Sh_nearestFit s m args below meth c H locs 0 0 (MQ below (va_Qi (fun (r : Int32) (u : Unit) => Q r) (fun (u : Unit) t => BW G A (cw_Sh G h0 q0 r0 o0 ++ ([kI G h1 5 o1])) t) A) args s 0 0 A) (F0 m 8 ls []) := by
  obtain ⟨hx, hb, hml, hown, hr, hts, hK, hA, hlocks, hE⟩ := id C
  intro n
  induction n with
  | zero => intro x2 x3 x4 ls H locs hl hP hD hS h; exact absurd h id
  | succ n ih =>
    intro x2 x3 x4 ls H locs hl hP hD hS h
    have hP : va_P G.1 CL [(h0, .inr (9, [.int (gI o0 0), .ref (q0 1), .ref (q0 2), .ref (q0 3), .ref (q0 4), .ref (q0 5), .ref (q0 6), .ref (q0 7), .int (gI o0 8), .ref (r0 9), .int (gI o0 10), .ref (r0 11)])), kI G (q0 1) 5 (gA o0 1), kI G (q0 2) 20 (gA o0 2), kI G (q0 3) 5 (gA o0 3), kI G (q0 4) 5 (gA o0 4), kI G (q0 5) 5 (gA o0 5), kI G (q0 6) 5 (gA o0 6), kI G (q0 7) 5 (gA o0 7), kB G (r0 9) (r0 109) (gA o0 9), kI G (r0 11) (r0 111) (gA o0 11), kI G h1 5 o1] H := hP
    have hD : va_D A [(h0, .inr (9, [.int (gI o0 0), .ref (q0 1), .ref (q0 2), .ref (q0 3), .ref (q0 4), .ref (q0 5), .ref (q0 6), .ref (q0 7), .int (gI o0 8), .ref (r0 9), .int (gI o0 10), .ref (r0 11)])), kI G (q0 1) 5 (gA o0 1), kI G (q0 2) 20 (gA o0 2), kI G (q0 3) 5 (gA o0 3), kI G (q0 4) 5 (gA o0 4), kI G (q0 5) 5 (gA o0 5), kI G (q0 6) 5 (gA o0 6), kI G (q0 7) 5 (gA o0 7), kB G (r0 9) (r0 109) (gA o0 9), kI G (r0 11) (r0 111) (gA o0 11), kI G h1 5 o1] := hD
    unfold f_Sh_nearestFit_8 at h
    refine lv_iload hx hb d_Sh_nearestFit_8 (lv_at hl 4 rfl) ?_
    refine lv_aload_n hx hb d_Sh_nearestFit_10 rfl (lv_at hl 0 rfl) ?_
    refine va_get (D := G.1) (ci := 9) (v := .int (gI o0 8)) (C := R_Sh) (T := T_Sh) (N := 12) hx hb hts i_Sh hown hK hP 0 rfl rfl 8 (by decide) (hts _ wf_Sh_69) (fun _ h9 => h9) rfl d_Sh_nearestFit_11 ?_
    refine lv_icmp_ge (tgt := 53) hx hb d_Sh_nearestFit_14 (by decide) (fun c1 => ?_) (fun c1 => ?_)
    · have h := h.1 c1
      refine lv_iload_n hx hb d_Sh_nearestFit_53 rfl (lv_at hl 2 rfl) ?_
      have hP : va_P G.1 CL (cw_Sh G h0 q0 r0 o0 ++ ([kI G h1 5 o1])) H := hP
      have hD : va_D A (cw_Sh G h0 q0 r0 o0 ++ ([kI G h1 5 o1])) := hD
      exact W.iret (v := x2) hx hb hr (fun t ht hW => ⟨⟨x2, (), rfl, h, by rw [ht]; exact hP, va_K.moved hW.alike hK, hD⟩, hS.F ht⟩) hS.2.2 d_Sh_nearestFit_54
    · have h := h.2 c1
      refine lv_aload_n hx hb d_Sh_nearestFit_17 rfl (lv_at hl 0 rfl) ?_
      refine lv_iload hx hb d_Sh_nearestFit_18 (lv_at hl 4 rfl) ?_
      refine cl_Vi (b := b_Sh_nearestFit) (As := [.int x4]) (rest := []) (ws := [(h0, .inr (9, [.int (gI o0 0), .ref (q0 1), .ref (q0 2), .ref (q0 3), .ref (q0 4), .ref (q0 5), .ref (q0 6), .ref (q0 7), .int (gI o0 8), .ref (r0 9), .int (gI o0 10), .ref (r0 11)])), kI G (q0 1) 5 (gA o0 1), kI G (q0 2) 20 (gA o0 2), kI G (q0 3) 5 (gA o0 3), kI G (q0 4) 5 (gA o0 4), kI G (q0 5) 5 (gA o0 5), kI G (q0 6) 5 (gA o0 6), kI G (q0 7) 5 (gA o0 7), kB G (r0 9) (r0 109) (gA o0 9), kI G (r0 11) (r0 111) (gA o0 11), kI G h1 5 o1]) (wr := [kI G h1 5 o1]) (w2 := fun (u : Unit) => [(h0, .inr (9, [.int (gI o0 0), .ref (q0 1), .ref (q0 2), .ref (q0 3), .ref (q0 4), .ref (q0 5), .ref (q0 6), .ref (q0 7), .int (gI o0 8), .ref (r0 9), .int (gI o0 10), .ref (r0 11)])), kI G (q0 1) 5 (gA o0 1), kI G (q0 2) 20 (gA o0 2), kI G (q0 3) 5 (gA o0 3), kI G (q0 4) 5 (gA o0 4), kI G (q0 5) 5 (gA o0 5), kI G (q0 6) 5 (gA o0 6), kI G (q0 7) 5 (gA o0 7), kB G (r0 9) (r0 109) (gA o0 9), kI G (r0 11) (r0 111) (gA o0 11), kI G h1 5 o1]) C (c_Sh_fits (h0 := h0) (q0 := q0) H.size h) wv_Sh_86 ⟨Nat.le_of_ble_eq_true rfl, Nat.le_of_ble_eq_true rfl⟩ hP hD hS 0 rfl rfl [0, 1, 2, 3, 4, 5, 6, 7, 8, 9] [10] rfl rfl (by decide) (by decide) (by decide) [1, 2, 3, 4, 5, 6, 7, 8, 9, 10, 0] (by decide) (fun u => rfl) rfl hl.1 rfl (lv_room (Nat.le_of_ble_eq_true rfl)) d_Sh_nearestFit_20 ⟨Nat.le_of_ble_eq_true rfl, Nat.le_of_ble_eq_true rfl⟩ rfl rfl (fun z2 u H locs h hP hD hS => ?_)
      have hP : va_P G.1 CL [(h0, .inr (9, [.int (gI o0 0), .ref (q0 1), .ref (q0 2), .ref (q0 3), .ref (q0 4), .ref (q0 5), .ref (q0 6), .ref (q0 7), .int (gI o0 8), .ref (r0 9), .int (gI o0 10), .ref (r0 11)])), kI G (q0 1) 5 (gA o0 1), kI G (q0 2) 20 (gA o0 2), kI G (q0 3) 5 (gA o0 3), kI G (q0 4) 5 (gA o0 4), kI G (q0 5) 5 (gA o0 5), kI G (q0 6) 5 (gA o0 6), kI G (q0 7) 5 (gA o0 7), kB G (r0 9) (r0 109) (gA o0 9), kI G (r0 11) (r0 111) (gA o0 11), kI G h1 5 o1] H := hP
      have hD : va_D A [(h0, .inr (9, [.int (gI o0 0), .ref (q0 1), .ref (q0 2), .ref (q0 3), .ref (q0 4), .ref (q0 5), .ref (q0 6), .ref (q0 7), .int (gI o0 8), .ref (r0 9), .int (gI o0 10), .ref (r0 11)])), kI G (q0 1) 5 (gA o0 1), kI G (q0 2) 20 (gA o0 2), kI G (q0 3) 5 (gA o0 3), kI G (q0 4) 5 (gA o0 4), kI G (q0 5) 5 (gA o0 5), kI G (q0 6) 5 (gA o0 6), kI G (q0 7) 5 (gA o0 7), kB G (r0 9) (r0 109) (gA o0 9), kI G (r0 11) (r0 111) (gA o0 11), kI G h1 5 o1] := hD
      refine lv_if_eq (tgt := 47) hx hb d_Sh_nearestFit_23 (by decide) (fun c3 => ?_) (fun c3 => ?_)
      · have h := h.1 c3
        refine lv_iinc (v := (x4 + (1 : Int32))) (lv' := [(4, .int (x4 + (1 : Int32))), (0, .ref h0), (1, .ref h1), (2, .int x2), (3, .int x3)]) hx hb d_Sh_nearestFit_47 hl (k := 4) rfl rfl (by decide) rfl (fun ls hl => ?_)
        refine lv_goto (tgt := 8) hx hb d_Sh_nearestFit_50 (by decide) ?_
        have hl := lv_sub (l' := [(0, .ref h0), (1, .ref h1), (2, .int x2), (3, .int x3), (4, .int (x4 + (1 : Int32)))]) hl [1, 2, 3, 4, 0] rfl
        have hP : va_P G.1 CL (cw_Sh G h0 q0 r0 o0 ++ ([kI G h1 5 o1])) H := hP
        have hD : va_D A (cw_Sh G h0 q0 r0 o0 ++ ([kI G h1 5 o1])) := hD
        exact ih x2 x3 (x4 + (1 : Int32)) ls H locs hl hP hD hS h
      · have h := h.2 c3
        refine lv_aload_n hx hb d_Sh_nearestFit_26 rfl (lv_at hl 0 rfl) ?_
        refine lv_iload hx hb d_Sh_nearestFit_27 (lv_at hl 4 rfl) ?_
        refine lv_aload_n hx hb d_Sh_nearestFit_29 rfl (lv_at hl 1 rfl) ?_
        refine cl_Vi (b := b_Sh_nearestFit) (As := [.int x4, .ref h1]) (rest := []) (ws := [(h0, .inr (9, [.int (gI o0 0), .ref (q0 1), .ref (q0 2), .ref (q0 3), .ref (q0 4), .ref (q0 5), .ref (q0 6), .ref (q0 7), .int (gI o0 8), .ref (r0 9), .int (gI o0 10), .ref (r0 11)])), kI G (q0 1) 5 (gA o0 1), kI G (q0 2) 20 (gA o0 2), kI G (q0 3) 5 (gA o0 3), kI G (q0 4) 5 (gA o0 4), kI G (q0 5) 5 (gA o0 5), kI G (q0 6) 5 (gA o0 6), kI G (q0 7) 5 (gA o0 7), kB G (r0 9) (r0 109) (gA o0 9), kI G (r0 11) (r0 111) (gA o0 11), kI G h1 5 o1]) (wr := []) (w2 := fun (u : Unit) => [(h0, .inr (9, [.int (gI o0 0), .ref (q0 1), .ref (q0 2), .ref (q0 3), .ref (q0 4), .ref (q0 5), .ref (q0 6), .ref (q0 7), .int (gI o0 8), .ref (r0 9), .int (gI o0 10), .ref (r0 11)])), kI G (q0 1) 5 (gA o0 1), kI G (q0 2) 20 (gA o0 2), kI G (q0 3) 5 (gA o0 3), kI G (q0 4) 5 (gA o0 4), kI G (q0 5) 5 (gA o0 5), kI G (q0 6) 5 (gA o0 6), kI G (q0 7) 5 (gA o0 7), kB G (r0 9) (r0 109) (gA o0 9), kI G (r0 11) (r0 111) (gA o0 11), kI G h1 5 o1]) C (c_Sh_distance (h0 := h0) (q0 := q0) (h1 := h1) H.size h) wv_Sh_91 ⟨Nat.le_of_ble_eq_true rfl, Nat.le_of_ble_eq_true rfl⟩ hP hD hS 0 rfl rfl [0, 1, 2, 3, 4, 5, 6, 7, 8, 9, 10] [] rfl rfl (by decide) (by decide) (by decide) [0, 1, 2, 3, 4, 5, 6, 7, 8, 9, 10] (by decide) (fun u => rfl) rfl hl.1 rfl (lv_room (Nat.le_of_ble_eq_true rfl)) d_Sh_nearestFit_30 ⟨Nat.le_of_ble_eq_true rfl, Nat.le_of_ble_eq_true rfl⟩ rfl rfl (fun z4 u H locs h hP hD hS => ?_)
        have hP : va_P G.1 CL [(h0, .inr (9, [.int (gI o0 0), .ref (q0 1), .ref (q0 2), .ref (q0 3), .ref (q0 4), .ref (q0 5), .ref (q0 6), .ref (q0 7), .int (gI o0 8), .ref (r0 9), .int (gI o0 10), .ref (r0 11)])), kI G (q0 1) 5 (gA o0 1), kI G (q0 2) 20 (gA o0 2), kI G (q0 3) 5 (gA o0 3), kI G (q0 4) 5 (gA o0 4), kI G (q0 5) 5 (gA o0 5), kI G (q0 6) 5 (gA o0 6), kI G (q0 7) 5 (gA o0 7), kB G (r0 9) (r0 109) (gA o0 9), kI G (r0 11) (r0 111) (gA o0 11), kI G h1 5 o1] H := hP
        have hD : va_D A [(h0, .inr (9, [.int (gI o0 0), .ref (q0 1), .ref (q0 2), .ref (q0 3), .ref (q0 4), .ref (q0 5), .ref (q0 6), .ref (q0 7), .int (gI o0 8), .ref (r0 9), .int (gI o0 10), .ref (r0 11)])), kI G (q0 1) 5 (gA o0 1), kI G (q0 2) 20 (gA o0 2), kI G (q0 3) 5 (gA o0 3), kI G (q0 4) 5 (gA o0 4), kI G (q0 5) 5 (gA o0 5), kI G (q0 6) 5 (gA o0 6), kI G (q0 7) 5 (gA o0 7), kB G (r0 9) (r0 109) (gA o0 9), kI G (r0 11) (r0 111) (gA o0 11), kI G h1 5 o1] := hD
        refine lv_istore (lv' := [(5, .int z4), (0, .ref h0), (1, .ref h1), (2, .int x2), (3, .int x3), (4, .int x4)]) hx hb d_Sh_nearestFit_33 hl (by decide) rfl (fun ls hl => ?_)
        refine lv_iload hx hb d_Sh_nearestFit_35 (lv_at hl 0 rfl) ?_
        refine lv_iload_n hx hb d_Sh_nearestFit_37 rfl (lv_at hl 4 rfl) ?_
        refine lv_icmp_ge (tgt := 47) hx hb d_Sh_nearestFit_38 (by decide) (fun c5 => ?_) (fun c5 => ?_)
        · have h := h.1 c5
          refine lv_iinc (v := (x4 + (1 : Int32))) (lv' := [(4, .int (x4 + (1 : Int32))), (5, .int z4), (0, .ref h0), (1, .ref h1), (2, .int x2), (3, .int x3)]) hx hb d_Sh_nearestFit_47 hl (k := 5) rfl rfl (by decide) rfl (fun ls hl => ?_)
          refine lv_goto (tgt := 8) hx hb d_Sh_nearestFit_50 (by decide) ?_
          have hl := lv_sub (l' := [(0, .ref h0), (1, .ref h1), (2, .int x2), (3, .int x3), (4, .int (x4 + (1 : Int32)))]) hl [2, 3, 4, 5, 0] rfl
          have hP : va_P G.1 CL (cw_Sh G h0 q0 r0 o0 ++ ([kI G h1 5 o1])) H := hP
          have hD : va_D A (cw_Sh G h0 q0 r0 o0 ++ ([kI G h1 5 o1])) := hD
          exact ih x2 x3 (x4 + (1 : Int32)) ls H locs hl hP hD hS h
        · have h := h.2 c5
          refine lv_iload hx hb d_Sh_nearestFit_41 (lv_at hl 0 rfl) ?_
          refine lv_istore_n (lv' := [(3, .int z4), (5, .int z4), (0, .ref h0), (1, .ref h1), (2, .int x2), (4, .int x4)]) hx hb d_Sh_nearestFit_43 rfl hl (by decide) rfl (fun ls hl => ?_)
          refine lv_iload hx hb d_Sh_nearestFit_44 (lv_at hl 5 rfl) ?_
          refine lv_istore_n (lv' := [(2, .int x4), (3, .int z4), (5, .int z4), (0, .ref h0), (1, .ref h1), (4, .int x4)]) hx hb d_Sh_nearestFit_46 rfl hl (by decide) rfl (fun ls hl => ?_)
          refine lv_iinc (v := (x4 + (1 : Int32))) (lv' := [(4, .int (x4 + (1 : Int32))), (2, .int x4), (3, .int z4), (5, .int z4), (0, .ref h0), (1, .ref h1)]) hx hb d_Sh_nearestFit_47 hl (k := 5) rfl rfl (by decide) rfl (fun ls hl => ?_)
          refine lv_goto (tgt := 8) hx hb d_Sh_nearestFit_50 (by decide) ?_
          have hl := lv_sub (l' := [(0, .ref h0), (1, .ref h1), (2, .int x4), (3, .int z4), (4, .int (x4 + (1 : Int32)))]) hl [4, 5, 1, 2, 0] rfl
          have hP : va_P G.1 CL (cw_Sh G h0 q0 r0 o0 ++ ([kI G h1 5 o1])) H := hP
          have hD : va_D A (cw_Sh G h0 q0 r0 o0 ++ ([kI G h1 5 o1])) := hD
          exact ih x4 z4 (x4 + (1 : Int32)) ls H locs hl hP hD hS h
set_option maxHeartbeats 4000000 in
set_option maxRecDepth 100000 in
theorem c_Sh_nearestFit {l : Launch} {G : Gl} {h0 : Nat} {h1 : Nat} {q0 : Nat → Nat} {r0 : (Nat → Nat)} {o0 : Ob} {o1 : (Nat → Int32)} {Q : Int32 → Prop} (sz : Nat) (h : f_Sh_nearestFit r0 o0 o1 Q) : Met l y_Sh_nearestFit w_Sh_nearestFit rm_Sh_nearestFit (PcW G [.ref h0, .ref h1] sz (cw_Sh G h0 q0 r0 o0 ++ ([kI G h1 5 o1]))) (va_Qi (fun (r : Int32) (u : Unit) => Q r) (fun (u : Unit) t => BW G (va_A (cw_Sh G h0 q0 r0 o0 ++ ([kI G h1 5 o1])) sz) (cw_Sh G h0 q0 r0 o0 ++ ([kI G h1 5 o1])) t) (va_A (cw_Sh G h0 q0 r0 o0 ++ ([kI G h1 5 o1])) sz)) 0 0 (va_A (cw_Sh G h0 q0 r0 o0 ++ ([kI G h1 5 o1])) sz) := by
  refine Met.ofW (cc := b_Sh_nearestFit) (maxL := 6) (ret := (some .int)) (by decide +kernel) rfl ?_
  intro p e s m args below meth c s₁ B hml hv
  obtain ⟨rfl, hsz, hP, hK, hD0, hE⟩ := hv
  have hx := B.exec
  have hb := B.bytes
  have hr := B.returns
  have hts0 := atoms_spec (ws := w_Sh_nearestFit) B.pre
  have hts : ∀ w ∈ gw_tbl, w.before ([.ref h0, .ref h1]).toArray s = true := fun w hw => hts0 w (List.mem_cons_of_mem _ hw)
  have hown : s.vm.findClass R_Sh = some m.cls := findClass_of_methodNamed B.named
  have hlocks := B.notSynchronized
  subst hsz
  have hD := hD0.self (sz := s.heap.size)
  generalize hAe : va_A (cw_Sh G h0 q0 r0 o0 ++ ([kI G h1 5 o1])) s.heap.size = A at hD hE ⊢
  have hA : ∀ q : Nat, s.heap.size ≤ q → A q := fun q h => by rw [← hAe]; exact Or.inr h
  have hS : va_S A s.heap s.heap [] := va_S.rf
  have C : Cx p s m ([.ref h0, .ref h1]).toArray meth c R_Sh b_Sh_nearestFit 6 (some .int) G A := ⟨hx, hb, hml, hown, hr, hts, hK, hA, hlocks, hE⟩
  have hl := lv_entry ([.ref h0, .ref h1]) (n := 6) (Nat.le_of_ble_eq_true rfl)
  rw [lg_entry_eq]
  generalize (lg_sl ([.ref h0, .ref h1]) ++ List.replicate (6 - (lg_sl ([.ref h0, .ref h1])).length) Slot.unset).toArray = ls at hl ⊢
  have hl : lv_has ls 6 [(0, .ref h0), (1, .ref h1)] := hl
  have hD : va_D A [(h0, .inr (9, [.int (gI o0 0), .ref (q0 1), .ref (q0 2), .ref (q0 3), .ref (q0 4), .ref (q0 5), .ref (q0 6), .ref (q0 7), .int (gI o0 8), .ref (r0 9), .int (gI o0 10), .ref (r0 11)])), kI G (q0 1) 5 (gA o0 1), kI G (q0 2) 20 (gA o0 2), kI G (q0 3) 5 (gA o0 3), kI G (q0 4) 5 (gA o0 4), kI G (q0 5) 5 (gA o0 5), kI G (q0 6) 5 (gA o0 6), kI G (q0 7) 5 (gA o0 7), kB G (r0 9) (r0 109) (gA o0 9), kI G (r0 11) (r0 111) (gA o0 11), kI G h1 5 o1] := hD
  unfold f_Sh_nearestFit at h
  suffices key : ∀ (H : Heap) (locs : List Loc), va_P G.1 CL [(h0, .inr (9, [.int (gI o0 0), .ref (q0 1), .ref (q0 2), .ref (q0 3), .ref (q0 4), .ref (q0 5), .ref (q0 6), .ref (q0 7), .int (gI o0 8), .ref (r0 9), .int (gI o0 10), .ref (r0 11)])), kI G (q0 1) 5 (gA o0 1), kI G (q0 2) 20 (gA o0 2), kI G (q0 3) 5 (gA o0 3), kI G (q0 4) 5 (gA o0 4), kI G (q0 5) 5 (gA o0 5), kI G (q0 6) 5 (gA o0 6), kI G (q0 7) 5 (gA o0 7), kB G (r0 9) (r0 109) (gA o0 9), kI G (r0 11) (r0 111) (gA o0 11), kI G h1 5 o1] H → va_S A s.heap H locs → W p l e rm_Sh_nearestFit s m ([.ref h0, .ref h1]).toArray below meth c H locs 0 0 (MQ below (va_Qi (fun (r : Int32) (u : Unit) => Q r) (fun (u : Unit) t => BW G A (cw_Sh G h0 q0 r0 o0 ++ ([kI G h1 5 o1])) t) A) ([.ref h0, .ref h1]).toArray s 0 0 A) (F0 m 0 ls []) from key s.heap [] hP hS
  intro H locs hP hS
  refine lv_iconst (v := (-1 : Int32)) hx hb d_Sh_nearestFit_0 (by decide) ?_
  refine lv_istore_n (lv' := [(2, .int (-1 : Int32)), (0, .ref h0), (1, .ref h1)]) hx hb d_Sh_nearestFit_1 rfl hl (by decide) rfl (fun ls hl => ?_)
  refine lv_ldc hx hb hown (hts _ wc_Sh_90) d_Sh_nearestFit_2 ?_
  refine lv_istore_n (lv' := [(3, .int (1000000 : Int32)), (2, .int (-1 : Int32)), (0, .ref h0), (1, .ref h1)]) hx hb d_Sh_nearestFit_4 rfl hl (by decide) rfl (fun ls hl => ?_)
  refine lv_iconst (v := (0 : Int32)) hx hb d_Sh_nearestFit_5 (by decide) ?_
  refine lv_istore (lv' := [(4, .int (0 : Int32)), (3, .int (1000000 : Int32)), (2, .int (-1 : Int32)), (0, .ref h0), (1, .ref h1)]) hx hb d_Sh_nearestFit_6 hl (by decide) rfl (fun ls hl => ?_)
  have hl := lv_sub (l' := [(0, .ref h0), (1, .ref h1), (2, .int (-1 : Int32)), (3, .int (1000000 : Int32)), (4, .int (0 : Int32))]) hl [3, 4, 2, 1, 0] rfl
  have hP : va_P G.1 CL (cw_Sh G h0 q0 r0 o0 ++ ([kI G h1 5 o1])) H := hP
  have hD : va_D A (cw_Sh G h0 q0 r0 o0 ++ ([kI G h1 5 o1])) := hD
  obtain ⟨w, h⟩ := h
  exact t_Sh_nearestFit_8 r0 o0 o1 Q C w (-1 : Int32) (1000000 : Int32) (0 : Int32) ls _ locs hl hP hD hS h
abbrev b_Sh_lower : ByteArray := prog_10_method_14_code
def y_Sh_lower : MethodName := ⟨R_Sh, "lower", "(IIII)V"⟩
abbrev w_Sh_lower : List Cond := Cond.code y_Sh_lower b_Sh_lower 10 none :: gw_tbl
theorem d_Sh_lower_0 : decode b_Sh_lower 0 = .ok (.iload_n 2, 1) := by decide +kernel
theorem d_Sh_lower_1 : decode b_Sh_lower 1 = .ok (.iconst 4, 1) := by decide +kernel
theorem d_Sh_lower_2 : decode b_Sh_lower 2 = .ok (.imul, 1) := by decide +kernel
theorem d_Sh_lower_3 : decode b_Sh_lower 3 = .ok (.istore 5, 2) := by decide +kernel
theorem d_Sh_lower_5 : decode b_Sh_lower 5 = .ok (.aload_n 0, 1) := by decide +kernel
theorem d_Sh_lower_6 : decode b_Sh_lower 6 = .ok (.getfield 15, 3) := by decide +kernel
theorem d_Sh_lower_9 : decode b_Sh_lower 9 = .ok (.iload 5, 2) := by decide +kernel
theorem d_Sh_lower_11 : decode b_Sh_lower 11 = .ok (.iload 4, 2) := by decide +kernel
theorem d_Sh_lower_13 : decode b_Sh_lower 13 = .ok (.iadd, 1) := by decide +kernel
theorem d_Sh_lower_14 : decode b_Sh_lower 14 = .ok (.iaload, 1) := by decide +kernel
theorem d_Sh_lower_15 : decode b_Sh_lower 15 = .ok (.aload_n 0, 1) := by decide +kernel
theorem d_Sh_lower_16 : decode b_Sh_lower 16 = .ok (.getfield 15, 3) := by decide +kernel
theorem d_Sh_lower_19 : decode b_Sh_lower 19 = .ok (.iload 5, 2) := by decide +kernel
theorem d_Sh_lower_21 : decode b_Sh_lower 21 = .ok (.iload_n 3, 1) := by decide +kernel
theorem d_Sh_lower_22 : decode b_Sh_lower 22 = .ok (.iadd, 1) := by decide +kernel
theorem d_Sh_lower_23 : decode b_Sh_lower 23 = .ok (.iaload, 1) := by decide +kernel
theorem d_Sh_lower_24 : decode b_Sh_lower 24 = .ok (.isub, 1) := by decide +kernel
theorem d_Sh_lower_25 : decode b_Sh_lower 25 = .ok (.invokestatic 95, 3) := by decide +kernel
theorem d_Sh_lower_28 : decode b_Sh_lower 28 = .ok (.istore 6, 2) := by decide +kernel
theorem d_Sh_lower_30 : decode b_Sh_lower 30 = .ok (.aload_n 0, 1) := by decide +kernel
theorem d_Sh_lower_31 : decode b_Sh_lower 31 = .ok (.getfield 21, 3) := by decide +kernel
theorem d_Sh_lower_34 : decode b_Sh_lower 34 = .ok (.iload_n 2, 1) := by decide +kernel
theorem d_Sh_lower_35 : decode b_Sh_lower 35 = .ok (.iaload, 1) := by decide +kernel
theorem d_Sh_lower_36 : decode b_Sh_lower 36 = .ok (.istore 7, 2) := by decide +kernel
theorem d_Sh_lower_38 : decode b_Sh_lower 38 = .ok (.iconst 0, 1) := by decide +kernel
theorem d_Sh_lower_39 : decode b_Sh_lower 39 = .ok (.istore 8, 2) := by decide +kernel
theorem d_Sh_lower_41 : decode b_Sh_lower 41 = .ok (.iload 8, 2) := by decide +kernel
theorem d_Sh_lower_43 : decode b_Sh_lower 43 = .ok (.iload 7, 2) := by decide +kernel
theorem d_Sh_lower_45 : decode b_Sh_lower 45 = .ok (.if_icmp .ge 55, 3) := by decide +kernel
theorem d_Sh_lower_48 : decode b_Sh_lower 48 = .ok (.iload_n 1, 1) := by decide +kernel
theorem d_Sh_lower_49 : decode b_Sh_lower 49 = .ok (.iload 4, 2) := by decide +kernel
theorem d_Sh_lower_51 : decode b_Sh_lower 51 = .ok (.iload 7, 2) := by decide +kernel
theorem d_Sh_lower_53 : decode b_Sh_lower 53 = .ok (.imul, 1) := by decide +kernel
theorem d_Sh_lower_54 : decode b_Sh_lower 54 = .ok (.iadd, 1) := by decide +kernel
theorem d_Sh_lower_55 : decode b_Sh_lower 55 = .ok (.iload 8, 2) := by decide +kernel
theorem d_Sh_lower_57 : decode b_Sh_lower 57 = .ok (.iadd, 1) := by decide +kernel
theorem d_Sh_lower_58 : decode b_Sh_lower 58 = .ok (.istore 9, 2) := by decide +kernel
theorem d_Sh_lower_60 : decode b_Sh_lower 60 = .ok (.aload_n 0, 1) := by decide +kernel
theorem d_Sh_lower_61 : decode b_Sh_lower 61 = .ok (.getfield 37, 3) := by decide +kernel
theorem d_Sh_lower_64 : decode b_Sh_lower 64 = .ok (.iload 9, 2) := by decide +kernel
theorem d_Sh_lower_66 : decode b_Sh_lower 66 = .ok (.aload_n 0, 1) := by decide +kernel
theorem d_Sh_lower_67 : decode b_Sh_lower 67 = .ok (.getfield 37, 3) := by decide +kernel
theorem d_Sh_lower_70 : decode b_Sh_lower 70 = .ok (.iload 9, 2) := by decide +kernel
theorem d_Sh_lower_72 : decode b_Sh_lower 72 = .ok (.iaload, 1) := by decide +kernel
theorem d_Sh_lower_73 : decode b_Sh_lower 73 = .ok (.aload_n 0, 1) := by decide +kernel
theorem d_Sh_lower_74 : decode b_Sh_lower 74 = .ok (.getfield 37, 3) := by decide +kernel
theorem d_Sh_lower_77 : decode b_Sh_lower 77 = .ok (.iload_n 1, 1) := by decide +kernel
theorem d_Sh_lower_78 : decode b_Sh_lower 78 = .ok (.iload_n 3, 1) := by decide +kernel
theorem d_Sh_lower_79 : decode b_Sh_lower 79 = .ok (.iload 7, 2) := by decide +kernel
theorem d_Sh_lower_81 : decode b_Sh_lower 81 = .ok (.imul, 1) := by decide +kernel
theorem d_Sh_lower_82 : decode b_Sh_lower 82 = .ok (.iadd, 1) := by decide +kernel
theorem d_Sh_lower_83 : decode b_Sh_lower 83 = .ok (.iload 8, 2) := by decide +kernel
theorem d_Sh_lower_85 : decode b_Sh_lower 85 = .ok (.iadd, 1) := by decide +kernel
theorem d_Sh_lower_86 : decode b_Sh_lower 86 = .ok (.iaload, 1) := by decide +kernel
theorem d_Sh_lower_87 : decode b_Sh_lower 87 = .ok (.iload 6, 2) := by decide +kernel
theorem d_Sh_lower_89 : decode b_Sh_lower 89 = .ok (.iadd, 1) := by decide +kernel
theorem d_Sh_lower_90 : decode b_Sh_lower 90 = .ok (.invokestatic 117, 3) := by decide +kernel
theorem d_Sh_lower_93 : decode b_Sh_lower 93 = .ok (.iastore, 1) := by decide +kernel
theorem d_Sh_lower_94 : decode b_Sh_lower 94 = .ok (.iinc 8 1, 3) := by decide +kernel
theorem d_Sh_lower_97 : decode b_Sh_lower 97 = .ok (.goto (-56), 3) := by decide +kernel
theorem d_Sh_lower_100 : decode b_Sh_lower 100 = .ok (.return_, 1) := by decide +kernel
theorem wf_Sh_37 : Cond.fieldLink R_Sh 37 R_Sh "costs" "[I" ∈ gw_tbl := gw_tb (List.mem_of_getElem? (i := 412) (by decide +kernel)) rfl
theorem wm_Sh_117 : Cond.methodLink R_Sh 117 ⟨"java/lang/Math", "min", "(II)I"⟩ ∈ gw_tbl := gw_tb (List.mem_of_getElem? (i := 916) (by decide +kernel)) rfl
def f_Sh_lower_41 (r0 : (Nat → Nat)) (Q : Ob → Prop) : Nat → Int32 → Int32 → Int32 → Int32 → Int32 → Int32 → Ob → Prop
  | 0, _, _, _, _, _, _, _ => False
  | n + 1, x1, x3, x4, x6, x7, x8, o0 => (x7 ≤ x8 → (Q o0)) ∧ (¬ x7 ≤ x8 → ((vp_in ((x1 + (x4 * x7)) + x8) (r0 111)) ∧ (∀ y3 : Int32, y3 = ((gA o0 11) (((x1 + (x4 * x7)) + x8).toNatClampNeg)) → ((vp_in ((x1 + (x3 * x7)) + x8) (r0 111)) ∧ (∀ y5 : Int32, y5 = ((gA o0 11) (((x1 + (x3 * x7)) + x8).toNatClampNeg)) → ((vp_in ((x1 + (x4 * x7)) + x8) (r0 111)) ∧ ((f_Sh_lower_41 r0 Q n) x1 x3 x4 x6 x7 (x8 + (1 : Int32)) (sA o0 11 (upd (gA o0 11) (((x1 + (x4 * x7)) + x8).toNatClampNeg) (if (y5 + x6) < y3 then (y5 + x6) else y3))))))))))
def f_Sh_lower (a0 : Int32) (a1 : Int32) (a2 : Int32) (a3 : Int32) (r0 : (Nat → Nat)) (o0 : Ob) (Q : Ob → Prop) : Prop := (vp_in ((a1 * (4 : Int32)) + a3) 20) ∧ (∀ y8 : Int32, y8 = ((gA o0 2) (((a1 * (4 : Int32)) + a3).toNatClampNeg)) → ((vp_in ((a1 * (4 : Int32)) + a2) 20) ∧ (∀ y10 : Int32, y10 = ((gA o0 2) (((a1 * (4 : Int32)) + a2).toNatClampNeg)) → (∀ y11 : Int32, y11 = (if 0 ≤ (y8 - y10) then (y8 - y10) else 0 - (y8 - y10)) → ((vp_in a1 5) ∧ ((∃ w, f_Sh_lower_41 r0 Q w a0 a2 a3 y11 ((gA o0 4) a1.toNatClampNeg) (0 : Int32) o0)))))))
abbrev rm_Sh_lower : Room := { frames := 1, cells := 0, slots := 0, locals := 30 }
set_option maxHeartbeats 4000000 in
set_option maxRecDepth 100000 in
theorem t_Sh_lower_41 {p : Program} {l : Launch} {e : Env} {s : State} {m : MethodId} {args : Array Value} {below : List Frame} {meth : Method} {c : Code} {A : Nat → Prop} {G : Gl} {h0 : Nat} {q0 : Nat → Nat} (r0 : (Nat → Nat)) (Q : Ob → Prop) (C : Cx p s m args meth c R_Sh b_Sh_lower 10 none G A) :
    ∀ (n : Nat) (x1 : Int32) (x3 : Int32) (x4 : Int32) (x6 : Int32) (x7 : Int32) (x8 : Int32) (o0 : Ob) (ls : Array Slot) (H : Heap) (locs : List Loc), lv_has ls 10 [(0, .ref h0), (1, .int x1), (3, .int x3), (4, .int x4), (6, .int x6), (7, .int x7), (8, .int x8)] → va_P G.1 CL (cw_Sh G h0 q0 r0 o0) H → va_D A (cw_Sh G h0 q0 r0 o0) → va_S A s.heap H locs → f_Sh_lower_41 r0 Q n x1 x3 x4 x6 x7 x8 o0 → W p l e rm_Sh_lower s m args below meth c H locs 0 0 (MQ below (va_Qv (fun (u : Ob) => Q u) (fun (u : Ob) t => BW G A (cw_Sh G h0 q0 r0 u) t) A) args s 0 0 A) (F0 m 41 ls []) := by
  obtain ⟨hx, hb, hml, hown, hr, hts, hK, hA, hlocks, hE⟩ := id C
  intro n
  induction n with
  | zero => intro x1 x3 x4 x6 x7 x8 o0 ls H locs hl hP hD hS h; exact absurd h id
  | succ n ih =>
    intro x1 x3 x4 x6 x7 x8 o0 ls H locs hl hP hD hS h
    have hP : va_P G.1 CL [(h0, .inr (9, [.int (gI o0 0), .ref (q0 1), .ref (q0 2), .ref (q0 3), .ref (q0 4), .ref (q0 5), .ref (q0 6), .ref (q0 7), .int (gI o0 8), .ref (r0 9), .int (gI o0 10), .ref (r0 11)])), kI G (q0 1) 5 (gA o0 1), kI G (q0 2) 20 (gA o0 2), kI G (q0 3) 5 (gA o0 3), kI G (q0 4) 5 (gA o0 4), kI G (q0 5) 5 (gA o0 5), kI G (q0 6) 5 (gA o0 6), kI G (q0 7) 5 (gA o0 7), kB G (r0 9) (r0 109) (gA o0 9), kI G (r0 11) (r0 111) (gA o0 11)] H := hP
    have hD : va_D A [(h0, .inr (9, [.int (gI o0 0), .ref (q0 1), .ref (q0 2), .ref (q0 3), .ref (q0 4), .ref (q0 5), .ref (q0 6), .ref (q0 7), .int (gI o0 8), .ref (r0 9), .int (gI o0 10), .ref (r0 11)])), kI G (q0 1) 5 (gA o0 1), kI G (q0 2) 20 (gA o0 2), kI G (q0 3) 5 (gA o0 3), kI G (q0 4) 5 (gA o0 4), kI G (q0 5) 5 (gA o0 5), kI G (q0 6) 5 (gA o0 6), kI G (q0 7) 5 (gA o0 7), kB G (r0 9) (r0 109) (gA o0 9), kI G (r0 11) (r0 111) (gA o0 11)] := hD
    unfold f_Sh_lower_41 at h
    refine lv_iload hx hb d_Sh_lower_41 (lv_at hl 6 rfl) ?_
    refine lv_iload hx hb d_Sh_lower_43 (lv_at hl 5 rfl) ?_
    refine lv_icmp_ge (tgt := 100) hx hb d_Sh_lower_45 (by decide) (fun c1 => ?_) (fun c1 => ?_)
    · have h := h.1 c1
      have hP : va_P G.1 CL (cw_Sh G h0 q0 r0 o0) H := hP
      have hD : va_D A (cw_Sh G h0 q0 r0 o0) := hD
      exact W.vret hx hb hr (fun t ht hW => ⟨⟨o0, rfl, h, by rw [ht]; exact hP, va_K.moved hW.alike hK, hD⟩, hS.F ht⟩) hS.2.2 d_Sh_lower_100
    · have h := h.2 c1
      refine lv_iload_n hx hb d_Sh_lower_48 rfl (lv_at hl 1 rfl) ?_
      refine lv_iload hx hb d_Sh_lower_49 (lv_at hl 3 rfl) ?_
      refine lv_iload hx hb d_Sh_lower_51 (lv_at hl 5 rfl) ?_
      refine lv_imul hx hb d_Sh_lower_53 ?_
      refine lv_iadd hx hb d_Sh_lower_54 ?_
      refine lv_iload hx hb d_Sh_lower_55 (lv_at hl 6 rfl) ?_
      refine lv_iadd hx hb d_Sh_lower_57 ?_
      refine lv_istore (lv' := [(9, .int ((x1 + (x4 * x7)) + x8)), (0, .ref h0), (1, .int x1), (3, .int x3), (4, .int x4), (6, .int x6), (7, .int x7), (8, .int x8)]) hx hb d_Sh_lower_58 hl (by decide) rfl (fun ls hl => ?_)
      refine lv_aload_n hx hb d_Sh_lower_60 rfl (lv_at hl 1 rfl) ?_
      refine va_get (D := G.1) (ci := 9) (v := .ref (r0 11)) (C := R_Sh) (T := T_Sh) (N := 12) hx hb hts i_Sh hown hK hP 0 rfl rfl 11 (by decide) (hts _ wf_Sh_37) (fun _ h9 => h9) rfl d_Sh_lower_61 ?_
      refine lv_iload hx hb d_Sh_lower_64 (lv_at hl 0 rfl) ?_
      refine lv_aload_n hx hb d_Sh_lower_66 rfl (lv_at hl 1 rfl) ?_
      refine va_get (D := G.1) (ci := 9) (v := .ref (r0 11)) (C := R_Sh) (T := T_Sh) (N := 12) hx hb hts i_Sh hown hK hP 0 rfl rfl 11 (by decide) (hts _ wf_Sh_37) (fun _ h9 => h9) rfl d_Sh_lower_67 ?_
      refine lv_iload hx hb d_Sh_lower_70 (lv_at hl 0 rfl) ?_
      have g2 := h.1
      have h := h.2
      refine xa_iald hx hb hK hP 9 0 rfl rfl g2 (k := ((x1 + (x4 * x7)) + x8).toNatClampNeg) rfl d_Sh_lower_72 ?_
      refine lv_topi (fun y3 ey3 => ?_)
      have h := h y3 ey3
      refine lv_aload_n hx hb d_Sh_lower_73 rfl (lv_at hl 1 rfl) ?_
      refine va_get (D := G.1) (ci := 9) (v := .ref (r0 11)) (C := R_Sh) (T := T_Sh) (N := 12) hx hb hts i_Sh hown hK hP 0 rfl rfl 11 (by decide) (hts _ wf_Sh_37) (fun _ h9 => h9) rfl d_Sh_lower_74 ?_
      refine lv_iload_n hx hb d_Sh_lower_77 rfl (lv_at hl 2 rfl) ?_
      refine lv_iload_n hx hb d_Sh_lower_78 rfl (lv_at hl 3 rfl) ?_
      refine lv_iload hx hb d_Sh_lower_79 (lv_at hl 6 rfl) ?_
      refine lv_imul hx hb d_Sh_lower_81 ?_
      refine lv_iadd hx hb d_Sh_lower_82 ?_
      refine lv_iload hx hb d_Sh_lower_83 (lv_at hl 7 rfl) ?_
      refine lv_iadd hx hb d_Sh_lower_85 ?_
      have g4 := h.1
      have h := h.2
      refine xa_iald hx hb hK hP 9 0 rfl rfl g4 (k := ((x1 + (x3 * x7)) + x8).toNatClampNeg) rfl d_Sh_lower_86 ?_
      refine lv_topi (fun y5 ey5 => ?_)
      have h := h y5 ey5
      refine lv_iload hx hb d_Sh_lower_87 (lv_at hl 5 rfl) ?_
      refine lv_iadd hx hb d_Sh_lower_89 ?_
      refine va_mmin hx hb (hml.trans hl.1.symm) hown (hts _ wm_Sh_117) (hts _ wms_min) (hts _ wmi) (hts _ wmc_min) (Nat.le_of_ble_eq_true rfl) (Nat.le_of_ble_eq_true rfl) (Nat.le_of_ble_eq_true rfl) (Nat.le_of_ble_eq_true rfl) d_Sh_lower_90 ?_
      have g6 := h.1
      have h := h.2
      refine xa_iast hx hb hK hP hD hS 9 0 rfl rfl g6 (k := ((x1 + (x4 * x7)) + x8).toNatClampNeg) rfl d_Sh_lower_93 (fun H locs hP hD hS => ?_)
      have hP : va_P G.1 CL [(h0, .inr (9, [.int (gI o0 0), .ref (q0 1), .ref (q0 2), .ref (q0 3), .ref (q0 4), .ref (q0 5), .ref (q0 6), .ref (q0 7), .int (gI o0 8), .ref (r0 9), .int (gI o0 10), .ref (r0 11)])), kI G (q0 1) 5 (gA o0 1), kI G (q0 2) 20 (gA o0 2), kI G (q0 3) 5 (gA o0 3), kI G (q0 4) 5 (gA o0 4), kI G (q0 5) 5 (gA o0 5), kI G (q0 6) 5 (gA o0 6), kI G (q0 7) 5 (gA o0 7), kB G (r0 9) (r0 109) (gA o0 9), kI G (r0 11) (r0 111) (upd (gA o0 11) (((x1 + (x4 * x7)) + x8).toNatClampNeg) (if (y5 + x6) < y3 then (y5 + x6) else y3))] H := hP
      have hD : va_D A [(h0, .inr (9, [.int (gI o0 0), .ref (q0 1), .ref (q0 2), .ref (q0 3), .ref (q0 4), .ref (q0 5), .ref (q0 6), .ref (q0 7), .int (gI o0 8), .ref (r0 9), .int (gI o0 10), .ref (r0 11)])), kI G (q0 1) 5 (gA o0 1), kI G (q0 2) 20 (gA o0 2), kI G (q0 3) 5 (gA o0 3), kI G (q0 4) 5 (gA o0 4), kI G (q0 5) 5 (gA o0 5), kI G (q0 6) 5 (gA o0 6), kI G (q0 7) 5 (gA o0 7), kB G (r0 9) (r0 109) (gA o0 9), kI G (r0 11) (r0 111) (upd (gA o0 11) (((x1 + (x4 * x7)) + x8).toNatClampNeg) (if (y5 + x6) < y3 then (y5 + x6) else y3))] := hD
      refine lv_iinc (v := (x8 + (1 : Int32))) (lv' := [(8, .int (x8 + (1 : Int32))), (9, .int ((x1 + (x4 * x7)) + x8)), (0, .ref h0), (1, .int x1), (3, .int x3), (4, .int x4), (6, .int x6), (7, .int x7)]) hx hb d_Sh_lower_94 hl (k := 7) rfl rfl (by decide) rfl (fun ls hl => ?_)
      refine lv_goto (tgt := 41) hx hb d_Sh_lower_97 (by decide) ?_
      have hl := lv_sub (l' := [(0, .ref h0), (1, .int x1), (3, .int x3), (4, .int x4), (6, .int x6), (7, .int x7), (8, .int (x8 + (1 : Int32)))]) hl [2, 3, 4, 5, 6, 7, 0] rfl
      have hP : va_P G.1 CL (cw_Sh G h0 q0 r0 (sA o0 11 (upd (gA o0 11) (((x1 + (x4 * x7)) + x8).toNatClampNeg) (if (y5 + x6) < y3 then (y5 + x6) else y3)))) H := hP
      have hD : va_D A (cw_Sh G h0 q0 r0 (sA o0 11 (upd (gA o0 11) (((x1 + (x4 * x7)) + x8).toNatClampNeg) (if (y5 + x6) < y3 then (y5 + x6) else y3)))) := hD
      exact ih x1 x3 x4 x6 x7 (x8 + (1 : Int32)) (sA o0 11 (upd (gA o0 11) (((x1 + (x4 * x7)) + x8).toNatClampNeg) (if (y5 + x6) < y3 then (y5 + x6) else y3))) ls H locs hl hP hD hS h
set_option maxHeartbeats 4000000 in
set_option maxRecDepth 100000 in
theorem c_Sh_lower {l : Launch} {G : Gl} {h0 : Nat} {q0 : Nat → Nat} {a0 : Int32} {a1 : Int32} {a2 : Int32} {a3 : Int32} {r0 : (Nat → Nat)} {o0 : Ob} {Q : Ob → Prop} (sz : Nat) (h : f_Sh_lower a0 a1 a2 a3 r0 o0 Q) : Met l y_Sh_lower w_Sh_lower rm_Sh_lower (PcW G [.ref h0, .int a0, .int a1, .int a2, .int a3] sz (cw_Sh G h0 q0 r0 o0)) (va_Qv (fun (u : Ob) => Q u) (fun (u : Ob) t => BW G (va_A (cw_Sh G h0 q0 r0 o0) sz) (cw_Sh G h0 q0 r0 u) t) (va_A (cw_Sh G h0 q0 r0 o0) sz)) 0 0 (va_A (cw_Sh G h0 q0 r0 o0) sz) := by
  refine Met.ofW (cc := b_Sh_lower) (maxL := 10) (ret := none) (by decide +kernel) rfl ?_
  intro p e s m args below meth c s₁ B hml hv
  obtain ⟨rfl, hsz, hP, hK, hD0, hE⟩ := hv
  have hx := B.exec
  have hb := B.bytes
  have hr := B.returns
  have hts0 := atoms_spec (ws := w_Sh_lower) B.pre
  have hts : ∀ w ∈ gw_tbl, w.before ([.ref h0, .int a0, .int a1, .int a2, .int a3]).toArray s = true := fun w hw => hts0 w (List.mem_cons_of_mem _ hw)
  have hown : s.vm.findClass R_Sh = some m.cls := findClass_of_methodNamed B.named
  have hlocks := B.notSynchronized
  subst hsz
  have hD := hD0.self (sz := s.heap.size)
  generalize hAe : va_A (cw_Sh G h0 q0 r0 o0) s.heap.size = A at hD hE ⊢
  have hA : ∀ q : Nat, s.heap.size ≤ q → A q := fun q h => by rw [← hAe]; exact Or.inr h
  have hS : va_S A s.heap s.heap [] := va_S.rf
  have C : Cx p s m ([.ref h0, .int a0, .int a1, .int a2, .int a3]).toArray meth c R_Sh b_Sh_lower 10 none G A := ⟨hx, hb, hml, hown, hr, hts, hK, hA, hlocks, hE⟩
  have hl := lv_entry ([.ref h0, .int a0, .int a1, .int a2, .int a3]) (n := 10) (Nat.le_of_ble_eq_true rfl)
  rw [lg_entry_eq]
  generalize (lg_sl ([.ref h0, .int a0, .int a1, .int a2, .int a3]) ++ List.replicate (10 - (lg_sl ([.ref h0, .int a0, .int a1, .int a2, .int a3])).length) Slot.unset).toArray = ls at hl ⊢
  have hl : lv_has ls 10 [(0, .ref h0), (1, .int a0), (2, .int a1), (3, .int a2), (4, .int a3)] := hl
  have hD : va_D A [(h0, .inr (9, [.int (gI o0 0), .ref (q0 1), .ref (q0 2), .ref (q0 3), .ref (q0 4), .ref (q0 5), .ref (q0 6), .ref (q0 7), .int (gI o0 8), .ref (r0 9), .int (gI o0 10), .ref (r0 11)])), kI G (q0 1) 5 (gA o0 1), kI G (q0 2) 20 (gA o0 2), kI G (q0 3) 5 (gA o0 3), kI G (q0 4) 5 (gA o0 4), kI G (q0 5) 5 (gA o0 5), kI G (q0 6) 5 (gA o0 6), kI G (q0 7) 5 (gA o0 7), kB G (r0 9) (r0 109) (gA o0 9), kI G (r0 11) (r0 111) (gA o0 11)] := hD
  unfold f_Sh_lower at h
  suffices key : ∀ (H : Heap) (locs : List Loc), va_P G.1 CL [(h0, .inr (9, [.int (gI o0 0), .ref (q0 1), .ref (q0 2), .ref (q0 3), .ref (q0 4), .ref (q0 5), .ref (q0 6), .ref (q0 7), .int (gI o0 8), .ref (r0 9), .int (gI o0 10), .ref (r0 11)])), kI G (q0 1) 5 (gA o0 1), kI G (q0 2) 20 (gA o0 2), kI G (q0 3) 5 (gA o0 3), kI G (q0 4) 5 (gA o0 4), kI G (q0 5) 5 (gA o0 5), kI G (q0 6) 5 (gA o0 6), kI G (q0 7) 5 (gA o0 7), kB G (r0 9) (r0 109) (gA o0 9), kI G (r0 11) (r0 111) (gA o0 11)] H → va_S A s.heap H locs → W p l e rm_Sh_lower s m ([.ref h0, .int a0, .int a1, .int a2, .int a3]).toArray below meth c H locs 0 0 (MQ below (va_Qv (fun (u : Ob) => Q u) (fun (u : Ob) t => BW G A (cw_Sh G h0 q0 r0 u) t) A) ([.ref h0, .int a0, .int a1, .int a2, .int a3]).toArray s 0 0 A) (F0 m 0 ls []) from key s.heap [] hP hS
  intro H locs hP hS
  refine lv_iload_n hx hb d_Sh_lower_0 rfl (lv_at hl 2 rfl) ?_
  refine lv_iconst (v := (4 : Int32)) hx hb d_Sh_lower_1 (by decide) ?_
  refine lv_imul hx hb d_Sh_lower_2 ?_
  refine lv_istore (lv' := [(5, .int (a1 * (4 : Int32))), (0, .ref h0), (1, .int a0), (2, .int a1), (3, .int a2), (4, .int a3)]) hx hb d_Sh_lower_3 hl (by decide) rfl (fun ls hl => ?_)
  refine lv_aload_n hx hb d_Sh_lower_5 rfl (lv_at hl 1 rfl) ?_
  refine va_get (D := G.1) (ci := 9) (v := .ref (q0 2)) (C := R_Sh) (T := T_Sh) (N := 12) hx hb hts i_Sh hown hK hP 0 rfl rfl 2 (by decide) (hts _ wf_Sh_15) (fun _ h9 => h9) rfl d_Sh_lower_6 ?_
  refine lv_iload hx hb d_Sh_lower_9 (lv_at hl 0 rfl) ?_
  refine lv_iload hx hb d_Sh_lower_11 (lv_at hl 5 rfl) ?_
  refine lv_iadd hx hb d_Sh_lower_13 ?_
  have g7 := h.1
  have h := h.2
  refine xa_iald hx hb hK hP 2 0 rfl rfl g7 (k := ((a1 * (4 : Int32)) + a3).toNatClampNeg) rfl d_Sh_lower_14 ?_
  refine lv_topi (fun y8 ey8 => ?_)
  have h := h y8 ey8
  refine lv_aload_n hx hb d_Sh_lower_15 rfl (lv_at hl 1 rfl) ?_
  refine va_get (D := G.1) (ci := 9) (v := .ref (q0 2)) (C := R_Sh) (T := T_Sh) (N := 12) hx hb hts i_Sh hown hK hP 0 rfl rfl 2 (by decide) (hts _ wf_Sh_15) (fun _ h9 => h9) rfl d_Sh_lower_16 ?_
  refine lv_iload hx hb d_Sh_lower_19 (lv_at hl 0 rfl) ?_
  refine lv_iload_n hx hb d_Sh_lower_21 rfl (lv_at hl 4 rfl) ?_
  refine lv_iadd hx hb d_Sh_lower_22 ?_
  have g9 := h.1
  have h := h.2
  refine xa_iald hx hb hK hP 2 0 rfl rfl g9 (k := ((a1 * (4 : Int32)) + a2).toNatClampNeg) rfl d_Sh_lower_23 ?_
  refine lv_topi (fun y10 ey10 => ?_)
  have h := h y10 ey10
  refine lv_isub hx hb d_Sh_lower_24 ?_
  refine va_mabs hx hb (hml.trans hl.1.symm) hown (hts _ wm_Sh_95) (hts _ wms_abs) (hts _ wmi) (hts _ wmc_abs) (Nat.le_of_ble_eq_true rfl) (Nat.le_of_ble_eq_true rfl) (Nat.le_of_ble_eq_true rfl) (Nat.le_of_ble_eq_true rfl) d_Sh_lower_25 ?_
  refine lv_topi (fun y11 ey11 => ?_)
  have h := h y11 ey11
  refine lv_istore (lv' := [(6, .int y11), (5, .int (a1 * (4 : Int32))), (0, .ref h0), (1, .int a0), (2, .int a1), (3, .int a2), (4, .int a3)]) hx hb d_Sh_lower_28 hl (by decide) rfl (fun ls hl => ?_)
  refine lv_aload_n hx hb d_Sh_lower_30 rfl (lv_at hl 2 rfl) ?_
  refine va_get (D := G.1) (ci := 9) (v := .ref (q0 4)) (C := R_Sh) (T := T_Sh) (N := 12) hx hb hts i_Sh hown hK hP 0 rfl rfl 4 (by decide) (hts _ wf_Sh_21) (fun _ h9 => h9) rfl d_Sh_lower_31 ?_
  refine lv_iload_n hx hb d_Sh_lower_34 rfl (lv_at hl 4 rfl) ?_
  have g12 := h.1
  have h := h.2
  refine xa_iald hx hb hK hP 4 0 rfl rfl g12 (k := a1.toNatClampNeg) rfl d_Sh_lower_35 ?_
  refine lv_istore (lv' := [(7, .int ((gA o0 4) a1.toNatClampNeg)), (6, .int y11), (5, .int (a1 * (4 : Int32))), (0, .ref h0), (1, .int a0), (2, .int a1), (3, .int a2), (4, .int a3)]) hx hb d_Sh_lower_36 hl (by decide) rfl (fun ls hl => ?_)
  refine lv_iconst (v := (0 : Int32)) hx hb d_Sh_lower_38 (by decide) ?_
  refine lv_istore (lv' := [(8, .int (0 : Int32)), (7, .int ((gA o0 4) a1.toNatClampNeg)), (6, .int y11), (5, .int (a1 * (4 : Int32))), (0, .ref h0), (1, .int a0), (2, .int a1), (3, .int a2), (4, .int a3)]) hx hb d_Sh_lower_39 hl (by decide) rfl (fun ls hl => ?_)
  have hl := lv_sub (l' := [(0, .ref h0), (1, .int a0), (3, .int a2), (4, .int a3), (6, .int y11), (7, .int ((gA o0 4) a1.toNatClampNeg)), (8, .int (0 : Int32))]) hl [4, 5, 7, 8, 2, 1, 0] rfl
  have hP : va_P G.1 CL (cw_Sh G h0 q0 r0 o0) H := hP
  have hD : va_D A (cw_Sh G h0 q0 r0 o0) := hD
  obtain ⟨w, h⟩ := h
  exact t_Sh_lower_41 r0 Q C w a0 a2 a3 y11 ((gA o0 4) a1.toNatClampNeg) (0 : Int32) o0 ls _ locs hl hP hD hS h
abbrev b_Sh_spread : ByteArray := prog_10_method_13_code
def y_Sh_spread : MethodName := ⟨R_Sh, "spread", "(I)V"⟩
abbrev w_Sh_spread : List Cond := Cond.code y_Sh_spread b_Sh_spread 6 none :: gw_tbl
theorem d_Sh_spread_0 : decode b_Sh_spread 0 = .ok (.iconst 0, 1) := by decide +kernel
theorem d_Sh_spread_1 : decode b_Sh_spread 1 = .ok (.istore_n 2, 1) := by decide +kernel
theorem d_Sh_spread_2 : decode b_Sh_spread 2 = .ok (.iload_n 2, 1) := by decide +kernel
theorem d_Sh_spread_3 : decode b_Sh_spread 3 = .ok (.aload_n 0, 1) := by decide +kernel
theorem d_Sh_spread_4 : decode b_Sh_spread 4 = .ok (.getfield 40, 3) := by decide +kernel
theorem d_Sh_spread_7 : decode b_Sh_spread 7 = .ok (.if_icmp .ge 119, 3) := by decide +kernel
theorem d_Sh_spread_10 : decode b_Sh_spread 10 = .ok (.aload_n 0, 1) := by decide +kernel
theorem d_Sh_spread_11 : decode b_Sh_spread 11 = .ok (.getfield 21, 3) := by decide +kernel
theorem d_Sh_spread_14 : decode b_Sh_spread 14 = .ok (.iload_n 2, 1) := by decide +kernel
theorem d_Sh_spread_15 : decode b_Sh_spread 15 = .ok (.iaload, 1) := by decide +kernel
theorem d_Sh_spread_16 : decode b_Sh_spread 16 = .ok (.aload_n 0, 1) := by decide +kernel
theorem d_Sh_spread_17 : decode b_Sh_spread 17 = .ok (.getfield 18, 3) := by decide +kernel
theorem d_Sh_spread_20 : decode b_Sh_spread 20 = .ok (.iload_n 2, 1) := by decide +kernel
theorem d_Sh_spread_21 : decode b_Sh_spread 21 = .ok (.iaload, 1) := by decide +kernel
theorem d_Sh_spread_22 : decode b_Sh_spread 22 = .ok (.imul, 1) := by decide +kernel
theorem d_Sh_spread_23 : decode b_Sh_spread 23 = .ok (.istore_n 3, 1) := by decide +kernel
theorem d_Sh_spread_24 : decode b_Sh_spread 24 = .ok (.iconst 0, 1) := by decide +kernel
theorem d_Sh_spread_25 : decode b_Sh_spread 25 = .ok (.istore 4, 2) := by decide +kernel
theorem d_Sh_spread_27 : decode b_Sh_spread 27 = .ok (.iload_n 3, 1) := by decide +kernel
theorem d_Sh_spread_28 : decode b_Sh_spread 28 = .ok (.ifCond .le 92, 3) := by decide +kernel
theorem d_Sh_spread_31 : decode b_Sh_spread 31 = .ok (.iload 4, 2) := by decide +kernel
theorem d_Sh_spread_33 : decode b_Sh_spread 33 = .ok (.aload_n 0, 1) := by decide +kernel
theorem d_Sh_spread_34 : decode b_Sh_spread 34 = .ok (.getfield 69, 3) := by decide +kernel
theorem d_Sh_spread_37 : decode b_Sh_spread 37 = .ok (.if_icmp .ge 83, 3) := by decide +kernel
theorem d_Sh_spread_40 : decode b_Sh_spread 40 = .ok (.iconst 1, 1) := by decide +kernel
theorem d_Sh_spread_41 : decode b_Sh_spread 41 = .ok (.istore 5, 2) := by decide +kernel
theorem d_Sh_spread_43 : decode b_Sh_spread 43 = .ok (.iload 5, 2) := by decide +kernel
theorem d_Sh_spread_45 : decode b_Sh_spread 45 = .ok (.aload_n 0, 1) := by decide +kernel
theorem d_Sh_spread_46 : decode b_Sh_spread 46 = .ok (.getfield 18, 3) := by decide +kernel
theorem d_Sh_spread_49 : decode b_Sh_spread 49 = .ok (.iload_n 2, 1) := by decide +kernel
theorem d_Sh_spread_50 : decode b_Sh_spread 50 = .ok (.iaload, 1) := by decide +kernel
theorem d_Sh_spread_51 : decode b_Sh_spread 51 = .ok (.if_icmp .ge 24, 3) := by decide +kernel
theorem d_Sh_spread_54 : decode b_Sh_spread 54 = .ok (.aload_n 0, 1) := by decide +kernel
theorem d_Sh_spread_55 : decode b_Sh_spread 55 = .ok (.iload_n 1, 1) := by decide +kernel
theorem d_Sh_spread_56 : decode b_Sh_spread 56 = .ok (.iload 4, 2) := by decide +kernel
theorem d_Sh_spread_58 : decode b_Sh_spread 58 = .ok (.iadd, 1) := by decide +kernel
theorem d_Sh_spread_59 : decode b_Sh_spread 59 = .ok (.iload_n 2, 1) := by decide +kernel
theorem d_Sh_spread_60 : decode b_Sh_spread 60 = .ok (.iload 5, 2) := by decide +kernel
theorem d_Sh_spread_62 : decode b_Sh_spread 62 = .ok (.iconst 1, 1) := by decide +kernel
theorem d_Sh_spread_63 : decode b_Sh_spread 63 = .ok (.isub, 1) := by decide +kernel
theorem d_Sh_spread_64 : decode b_Sh_spread 64 = .ok (.iload 5, 2) := by decide +kernel
theorem d_Sh_spread_66 : decode b_Sh_spread 66 = .ok (.invokevirtual 113, 3) := by decide +kernel
theorem d_Sh_spread_69 : decode b_Sh_spread 69 = .ok (.iinc 5 1, 3) := by decide +kernel
theorem d_Sh_spread_72 : decode b_Sh_spread 72 = .ok (.goto (-29), 3) := by decide +kernel
theorem d_Sh_spread_75 : decode b_Sh_spread 75 = .ok (.aload_n 0, 1) := by decide +kernel
theorem d_Sh_spread_76 : decode b_Sh_spread 76 = .ok (.getfield 18, 3) := by decide +kernel
theorem d_Sh_spread_79 : decode b_Sh_spread 79 = .ok (.iload_n 2, 1) := by decide +kernel
theorem d_Sh_spread_80 : decode b_Sh_spread 80 = .ok (.iaload, 1) := by decide +kernel
theorem d_Sh_spread_81 : decode b_Sh_spread 81 = .ok (.iconst 1, 1) := by decide +kernel
theorem d_Sh_spread_82 : decode b_Sh_spread 82 = .ok (.isub, 1) := by decide +kernel
theorem d_Sh_spread_83 : decode b_Sh_spread 83 = .ok (.istore 5, 2) := by decide +kernel
theorem d_Sh_spread_85 : decode b_Sh_spread 85 = .ok (.iload 5, 2) := by decide +kernel
theorem d_Sh_spread_87 : decode b_Sh_spread 87 = .ok (.ifCond .le 24, 3) := by decide +kernel
theorem d_Sh_spread_90 : decode b_Sh_spread 90 = .ok (.aload_n 0, 1) := by decide +kernel
theorem d_Sh_spread_91 : decode b_Sh_spread 91 = .ok (.iload_n 1, 1) := by decide +kernel
theorem d_Sh_spread_92 : decode b_Sh_spread 92 = .ok (.iload 4, 2) := by decide +kernel
theorem d_Sh_spread_94 : decode b_Sh_spread 94 = .ok (.iadd, 1) := by decide +kernel
theorem d_Sh_spread_95 : decode b_Sh_spread 95 = .ok (.iload_n 2, 1) := by decide +kernel
theorem d_Sh_spread_96 : decode b_Sh_spread 96 = .ok (.iload 5, 2) := by decide +kernel
theorem d_Sh_spread_98 : decode b_Sh_spread 98 = .ok (.iload 5, 2) := by decide +kernel
theorem d_Sh_spread_100 : decode b_Sh_spread 100 = .ok (.iconst 1, 1) := by decide +kernel
theorem d_Sh_spread_101 : decode b_Sh_spread 101 = .ok (.isub, 1) := by decide +kernel
theorem d_Sh_spread_102 : decode b_Sh_spread 102 = .ok (.invokevirtual 113, 3) := by decide +kernel
theorem d_Sh_spread_105 : decode b_Sh_spread 105 = .ok (.iinc 5 (-1), 3) := by decide +kernel
theorem d_Sh_spread_108 : decode b_Sh_spread 108 = .ok (.goto (-23), 3) := by decide +kernel
theorem d_Sh_spread_111 : decode b_Sh_spread 111 = .ok (.iload 4, 2) := by decide +kernel
theorem d_Sh_spread_113 : decode b_Sh_spread 113 = .ok (.iload_n 3, 1) := by decide +kernel
theorem d_Sh_spread_114 : decode b_Sh_spread 114 = .ok (.iadd, 1) := by decide +kernel
theorem d_Sh_spread_115 : decode b_Sh_spread 115 = .ok (.istore 4, 2) := by decide +kernel
theorem d_Sh_spread_117 : decode b_Sh_spread 117 = .ok (.goto (-90), 3) := by decide +kernel
theorem d_Sh_spread_120 : decode b_Sh_spread 120 = .ok (.iinc 2 1, 3) := by decide +kernel
theorem d_Sh_spread_123 : decode b_Sh_spread 123 = .ok (.goto (-121), 3) := by decide +kernel
theorem d_Sh_spread_126 : decode b_Sh_spread 126 = .ok (.return_, 1) := by decide +kernel
theorem wv_Sh_113 : wV R_Sh 113 y_Sh_lower b_Sh_lower 10 none 4 := ⟨⟨gw_tb (List.mem_of_getElem? (i := 912) (by decide +kernel)) rfl, gw_tb (List.mem_of_getElem? (i := 12) (by decide +kernel)) rfl, gw_tb (List.mem_of_getElem? (i := 915) (by decide +kernel)) rfl, by decide, by decide, by decide +kernel⟩, gw_tb (List.mem_of_getElem? (i := 914) (by decide +kernel)) rfl, gw_of (List.mem_append_left _ (List.mem_of_getElem? (i := 28) (by decide +kernel))) rfl⟩
def f_Sh_spread_85 (r0 : (Nat → Nat)) (k27 : Int32 → Int32 → Int32 → Int32 → Ob → Prop) (Q : Ob → Prop) : Nat → Int32 → Int32 → Int32 → Int32 → Int32 → Ob → Prop
  | 0, _, _, _, _, _, _ => False
  | n + 1, x1, x2, x3, x4, x5, o0 => (x5 ≤ 0 → (k27 x1 x2 x3 (x4 + x3) o0)) ∧ (¬ x5 ≤ 0 → (f_Sh_lower (x1 + x4) x2 x5 (x5 - (1 : Int32)) r0 o0 (fun u2 => (f_Sh_spread_85 r0 k27 Q n) x1 x2 x3 x4 (x5 + (-1 : Int32)) u2)))
def f_Sh_spread_43 (r0 : (Nat → Nat)) (k27 : Int32 → Int32 → Int32 → Int32 → Ob → Prop) (Q : Ob → Prop) : Nat → Int32 → Int32 → Int32 → Int32 → Int32 → Ob → Prop
  | 0, _, _, _, _, _, _ => False
  | n + 1, x1, x2, x3, x4, x5, o0 => (vp_in x2 5) ∧ ((((gA o0 3) x2.toNatClampNeg) ≤ x5 → ((vp_in x2 5) ∧ ((∃ w, f_Sh_spread_85 r0 k27 Q w x1 x2 x3 x4 (((gA o0 3) x2.toNatClampNeg) - (1 : Int32)) o0)))) ∧ (¬ ((gA o0 3) x2.toNatClampNeg) ≤ x5 → (f_Sh_lower (x1 + x4) x2 (x5 - (1 : Int32)) x5 r0 o0 (fun u6 => (f_Sh_spread_43 r0 k27 Q n) x1 x2 x3 x4 (x5 + (1 : Int32)) u6))))
def f_Sh_spread_27 (r0 : (Nat → Nat)) (k2 : Int32 → Int32 → Ob → Prop) (Q : Ob → Prop) : Nat → Int32 → Int32 → Int32 → Int32 → Ob → Prop
  | 0, _, _, _, _, _ => False
  | n + 1, x1, x2, x3, x4, o0 => (x3 ≤ 0 → (k2 x1 (x2 + (1 : Int32)) o0)) ∧ (¬ x3 ≤ 0 → (((gI o0 8) ≤ x4 → (k2 x1 (x2 + (1 : Int32)) o0)) ∧ (¬ (gI o0 8) ≤ x4 → ((∃ w, f_Sh_spread_43 r0 (f_Sh_spread_27 r0 k2 Q n) Q w x1 x2 x3 x4 (1 : Int32) o0)))))
def f_Sh_spread_2 (r0 : (Nat → Nat)) (Q : Ob → Prop) : Nat → Int32 → Int32 → Ob → Prop
  | 0, _, _, _ => False
  | n + 1, x1, x2, o0 => ((gI o0 0) ≤ x2 → (Q o0)) ∧ (¬ (gI o0 0) ≤ x2 → ((vp_in x2 5) ∧ ((vp_in x2 5) ∧ (∀ y12 : Int32, y12 = (((gA o0 4) x2.toNatClampNeg) * ((gA o0 3) x2.toNatClampNeg)) → ((∃ w, f_Sh_spread_27 r0 (f_Sh_spread_2 r0 Q n) Q w x1 x2 y12 (0 : Int32) o0))))))
def f_Sh_spread (a0 : Int32) (r0 : (Nat → Nat)) (o0 : Ob) (Q : Ob → Prop) : Prop := (∃ w, f_Sh_spread_2 r0 Q w a0 (0 : Int32) o0)
abbrev rm_Sh_spread : Room := { frames := 2, cells := 0, slots := 0, locals := 59 }
set_option maxHeartbeats 4000000 in
set_option maxRecDepth 100000 in
theorem t_Sh_spread_85 {p : Program} {l : Launch} {e : Env} {s : State} {m : MethodId} {args : Array Value} {below : List Frame} {meth : Method} {c : Code} {A : Nat → Prop} {G : Gl} {h0 : Nat} {q0 : Nat → Nat} (r0 : (Nat → Nat)) (k27 : Int32 → Int32 → Int32 → Int32 → Ob → Prop) (Q : Ob → Prop) (C : Cx p s m args meth c R_Sh b_Sh_spread 6 none G A)
    (hk27 : ∀ (x1 : Int32) (x2 : Int32) (x3 : Int32) (x4 : Int32) (o0 : Ob) (ls : Array Slot) (H : Heap) (locs : List Loc), lv_has ls 6 [(0, .ref h0), (1, .int x1), (2, .int x2), (3, .int x3), (4, .int x4)] → va_P G.1 CL (cw_Sh G h0 q0 r0 o0) H → va_D A (cw_Sh G h0 q0 r0 o0) → va_S A s.heap H locs → k27 x1 x2 x3 x4 o0 → W p l e rm_Sh_spread s m args below meth c H locs 0 0 (MQ below (va_Qv (fun (u : Ob) => Q u) (fun (u : Ob) t => BW G A (cw_Sh G h0 q0 r0 u) t) A) args s 0 0 A) (F0 m 27 ls [])) :
    ∀ (n : Nat) (x1 : Int32) (x2 : Int32) (x3 : Int32) (x4 : Int32) (x5 : Int32) (o0 : Ob) (ls : Array Slot) (H : Heap) (locs : List Loc), lv_has ls 6 [(0, .ref h0), (1, .int x1), (2, .int x2), (3, .int x3), (4, .int x4), (5, .int x5)] → va_P G.1 CL (cw_Sh G h0 q0 r0 o0) H → va_D A (cw_Sh G h0 q0 r0 o0) → va_S A s.heap H locs → f_Sh_spread_85 r0 k27 Q n x1 x2 x3 x4 x5 o0 → W p l e rm_Sh_spread s m args below meth c H locs 0 0 (MQ below (va_Qv (fun (u : Ob) => Q u) (fun (u : Ob) t => BW G A (cw_Sh G h0 q0 r0 u) t) A) args s 0 0 A) (F0 m 85 ls []) := by
  obtain ⟨hx, hb, hml, hown, hr, hts, hK, hA, hlocks, hE⟩ := id C
  intro n
  induction n with
  | zero => intro x1 x2 x3 x4 x5 o0 ls H locs hl hP hD hS h; exact absurd h id
  | succ n ih =>
    intro x1 x2 x3 x4 x5 o0 ls H locs hl hP hD hS h
    have hP : va_P G.1 CL [(h0, .inr (9, [.int (gI o0 0), .ref (q0 1), .ref (q0 2), .ref (q0 3), .ref (q0 4), .ref (q0 5), .ref (q0 6), .ref (q0 7), .int (gI o0 8), .ref (r0 9), .int (gI o0 10), .ref (r0 11)])), kI G (q0 1) 5 (gA o0 1), kI G (q0 2) 20 (gA o0 2), kI G (q0 3) 5 (gA o0 3), kI G (q0 4) 5 (gA o0 4), kI G (q0 5) 5 (gA o0 5), kI G (q0 6) 5 (gA o0 6), kI G (q0 7) 5 (gA o0 7), kB G (r0 9) (r0 109) (gA o0 9), kI G (r0 11) (r0 111) (gA o0 11)] H := hP
    have hD : va_D A [(h0, .inr (9, [.int (gI o0 0), .ref (q0 1), .ref (q0 2), .ref (q0 3), .ref (q0 4), .ref (q0 5), .ref (q0 6), .ref (q0 7), .int (gI o0 8), .ref (r0 9), .int (gI o0 10), .ref (r0 11)])), kI G (q0 1) 5 (gA o0 1), kI G (q0 2) 20 (gA o0 2), kI G (q0 3) 5 (gA o0 3), kI G (q0 4) 5 (gA o0 4), kI G (q0 5) 5 (gA o0 5), kI G (q0 6) 5 (gA o0 6), kI G (q0 7) 5 (gA o0 7), kB G (r0 9) (r0 109) (gA o0 9), kI G (r0 11) (r0 111) (gA o0 11)] := hD
    unfold f_Sh_spread_85 at h
    refine lv_iload hx hb d_Sh_spread_85 (lv_at hl 5 rfl) ?_
    refine lv_if_le (tgt := 111) hx hb d_Sh_spread_87 (by decide) (fun c1 => ?_) (fun c1 => ?_)
    · have h := h.1 c1
      refine lv_iload hx hb d_Sh_spread_111 (lv_at hl 4 rfl) ?_
      refine lv_iload_n hx hb d_Sh_spread_113 rfl (lv_at hl 3 rfl) ?_
      refine lv_iadd hx hb d_Sh_spread_114 ?_
      refine lv_istore (lv' := [(4, .int (x4 + x3)), (0, .ref h0), (1, .int x1), (2, .int x2), (3, .int x3), (5, .int x5)]) hx hb d_Sh_spread_115 hl (by decide) rfl (fun ls hl => ?_)
      refine lv_goto (tgt := 27) hx hb d_Sh_spread_117 (by decide) ?_
      have hl := lv_sub (l' := [(0, .ref h0), (1, .int x1), (2, .int x2), (3, .int x3), (4, .int (x4 + x3))]) hl [1, 2, 3, 4, 0] rfl
      have hP : va_P G.1 CL (cw_Sh G h0 q0 r0 o0) H := hP
      have hD : va_D A (cw_Sh G h0 q0 r0 o0) := hD
      exact hk27 x1 x2 x3 (x4 + x3) o0 ls H locs hl hP hD hS h
    · have h := h.2 c1
      refine lv_aload_n hx hb d_Sh_spread_90 rfl (lv_at hl 0 rfl) ?_
      refine lv_iload_n hx hb d_Sh_spread_91 rfl (lv_at hl 1 rfl) ?_
      refine lv_iload hx hb d_Sh_spread_92 (lv_at hl 4 rfl) ?_
      refine lv_iadd hx hb d_Sh_spread_94 ?_
      refine lv_iload_n hx hb d_Sh_spread_95 rfl (lv_at hl 2 rfl) ?_
      refine lv_iload hx hb d_Sh_spread_96 (lv_at hl 5 rfl) ?_
      refine lv_iload hx hb d_Sh_spread_98 (lv_at hl 5 rfl) ?_
      refine lv_iconst (v := (1 : Int32)) hx hb d_Sh_spread_100 (by decide) ?_
      refine lv_isub hx hb d_Sh_spread_101 ?_
      refine cl_Vv (b := b_Sh_spread) (As := [.int (x1 + x4), .int x2, .int x5, .int (x5 - (1 : Int32))]) (rest := []) (ws := [(h0, .inr (9, [.int (gI o0 0), .ref (q0 1), .ref (q0 2), .ref (q0 3), .ref (q0 4), .ref (q0 5), .ref (q0 6), .ref (q0 7), .int (gI o0 8), .ref (r0 9), .int (gI o0 10), .ref (r0 11)])), kI G (q0 1) 5 (gA o0 1), kI G (q0 2) 20 (gA o0 2), kI G (q0 3) 5 (gA o0 3), kI G (q0 4) 5 (gA o0 4), kI G (q0 5) 5 (gA o0 5), kI G (q0 6) 5 (gA o0 6), kI G (q0 7) 5 (gA o0 7), kB G (r0 9) (r0 109) (gA o0 9), kI G (r0 11) (r0 111) (gA o0 11)]) (wr := []) (w2 := fun (u : Ob) => [(h0, .inr (9, [.int (gI u 0), .ref (q0 1), .ref (q0 2), .ref (q0 3), .ref (q0 4), .ref (q0 5), .ref (q0 6), .ref (q0 7), .int (gI u 8), .ref (r0 9), .int (gI u 10), .ref (r0 11)])), kI G (q0 1) 5 (gA u 1), kI G (q0 2) 20 (gA u 2), kI G (q0 3) 5 (gA u 3), kI G (q0 4) 5 (gA u 4), kI G (q0 5) 5 (gA u 5), kI G (q0 6) 5 (gA u 6), kI G (q0 7) 5 (gA u 7), kB G (r0 9) (r0 109) (gA u 9), kI G (r0 11) (r0 111) (gA u 11)]) C (c_Sh_lower (h0 := h0) (q0 := q0) H.size h) wv_Sh_113 ⟨Nat.le_of_ble_eq_true rfl, Nat.le_of_ble_eq_true rfl⟩ hP hD hS 0 rfl rfl [0, 1, 2, 3, 4, 5, 6, 7, 8, 9] [] rfl rfl (by decide) (by decide) (by decide) [0, 1, 2, 3, 4, 5, 6, 7, 8, 9] (by decide) (fun u => rfl) rfl hl.1 rfl (lv_room (Nat.le_of_ble_eq_true rfl)) d_Sh_spread_102 ⟨Nat.le_of_ble_eq_true rfl, Nat.le_of_ble_eq_true rfl⟩ rfl rfl (fun u H locs h hP hD hS => ?_)
      generalize u = u2 at h hP hD
      have hP : va_P G.1 CL [(h0, .inr (9, [.int (gI u2 0), .ref (q0 1), .ref (q0 2), .ref (q0 3), .ref (q0 4), .ref (q0 5), .ref (q0 6), .ref (q0 7), .int (gI u2 8), .ref (r0 9), .int (gI u2 10), .ref (r0 11)])), kI G (q0 1) 5 (gA u2 1), kI G (q0 2) 20 (gA u2 2), kI G (q0 3) 5 (gA u2 3), kI G (q0 4) 5 (gA u2 4), kI G (q0 5) 5 (gA u2 5), kI G (q0 6) 5 (gA u2 6), kI G (q0 7) 5 (gA u2 7), kB G (r0 9) (r0 109) (gA u2 9), kI G (r0 11) (r0 111) (gA u2 11)] H := hP
      have hD : va_D A [(h0, .inr (9, [.int (gI u2 0), .ref (q0 1), .ref (q0 2), .ref (q0 3), .ref (q0 4), .ref (q0 5), .ref (q0 6), .ref (q0 7), .int (gI u2 8), .ref (r0 9), .int (gI u2 10), .ref (r0 11)])), kI G (q0 1) 5 (gA u2 1), kI G (q0 2) 20 (gA u2 2), kI G (q0 3) 5 (gA u2 3), kI G (q0 4) 5 (gA u2 4), kI G (q0 5) 5 (gA u2 5), kI G (q0 6) 5 (gA u2 6), kI G (q0 7) 5 (gA u2 7), kB G (r0 9) (r0 109) (gA u2 9), kI G (r0 11) (r0 111) (gA u2 11)] := hD
      refine lv_iinc (v := (x5 + (-1 : Int32))) (lv' := [(5, .int (x5 + (-1 : Int32))), (0, .ref h0), (1, .int x1), (2, .int x2), (3, .int x3), (4, .int x4)]) hx hb d_Sh_spread_105 hl (k := 5) rfl rfl (by decide) rfl (fun ls hl => ?_)
      refine lv_goto (tgt := 85) hx hb d_Sh_spread_108 (by decide) ?_
      have hl := lv_sub (l' := [(0, .ref h0), (1, .int x1), (2, .int x2), (3, .int x3), (4, .int x4), (5, .int (x5 + (-1 : Int32)))]) hl [1, 2, 3, 4, 5, 0] rfl
      have hP : va_P G.1 CL (cw_Sh G h0 q0 r0 u2) H := hP
      have hD : va_D A (cw_Sh G h0 q0 r0 u2) := hD
      exact ih x1 x2 x3 x4 (x5 + (-1 : Int32)) u2 ls H locs hl hP hD hS h
set_option maxHeartbeats 4000000 in
set_option maxRecDepth 100000 in
theorem t_Sh_spread_43 {p : Program} {l : Launch} {e : Env} {s : State} {m : MethodId} {args : Array Value} {below : List Frame} {meth : Method} {c : Code} {A : Nat → Prop} {G : Gl} {h0 : Nat} {q0 : Nat → Nat} (r0 : (Nat → Nat)) (k27 : Int32 → Int32 → Int32 → Int32 → Ob → Prop) (Q : Ob → Prop) (C : Cx p s m args meth c R_Sh b_Sh_spread 6 none G A)
    (hk27 : ∀ (x1 : Int32) (x2 : Int32) (x3 : Int32) (x4 : Int32) (o0 : Ob) (ls : Array Slot) (H : Heap) (locs : List Loc), lv_has ls 6 [(0, .ref h0), (1, .int x1), (2, .int x2), (3, .int x3), (4, .int x4)] → va_P G.1 CL (cw_Sh G h0 q0 r0 o0) H → va_D A (cw_Sh G h0 q0 r0 o0) → va_S A s.heap H locs → k27 x1 x2 x3 x4 o0 → W p l e rm_Sh_spread s m args below meth c H locs 0 0 (MQ below (va_Qv (fun (u : Ob) => Q u) (fun (u : Ob) t => BW G A (cw_Sh G h0 q0 r0 u) t) A) args s 0 0 A) (F0 m 27 ls [])) :
    ∀ (n : Nat) (x1 : Int32) (x2 : Int32) (x3 : Int32) (x4 : Int32) (x5 : Int32) (o0 : Ob) (ls : Array Slot) (H : Heap) (locs : List Loc), lv_has ls 6 [(0, .ref h0), (1, .int x1), (2, .int x2), (3, .int x3), (4, .int x4), (5, .int x5)] → va_P G.1 CL (cw_Sh G h0 q0 r0 o0) H → va_D A (cw_Sh G h0 q0 r0 o0) → va_S A s.heap H locs → f_Sh_spread_43 r0 k27 Q n x1 x2 x3 x4 x5 o0 → W p l e rm_Sh_spread s m args below meth c H locs 0 0 (MQ below (va_Qv (fun (u : Ob) => Q u) (fun (u : Ob) t => BW G A (cw_Sh G h0 q0 r0 u) t) A) args s 0 0 A) (F0 m 43 ls []) := by
  obtain ⟨hx, hb, hml, hown, hr, hts, hK, hA, hlocks, hE⟩ := id C
  intro n
  induction n with
  | zero => intro x1 x2 x3 x4 x5 o0 ls H locs hl hP hD hS h; exact absurd h id
  | succ n ih =>
    intro x1 x2 x3 x4 x5 o0 ls H locs hl hP hD hS h
    have hP : va_P G.1 CL [(h0, .inr (9, [.int (gI o0 0), .ref (q0 1), .ref (q0 2), .ref (q0 3), .ref (q0 4), .ref (q0 5), .ref (q0 6), .ref (q0 7), .int (gI o0 8), .ref (r0 9), .int (gI o0 10), .ref (r0 11)])), kI G (q0 1) 5 (gA o0 1), kI G (q0 2) 20 (gA o0 2), kI G (q0 3) 5 (gA o0 3), kI G (q0 4) 5 (gA o0 4), kI G (q0 5) 5 (gA o0 5), kI G (q0 6) 5 (gA o0 6), kI G (q0 7) 5 (gA o0 7), kB G (r0 9) (r0 109) (gA o0 9), kI G (r0 11) (r0 111) (gA o0 11)] H := hP
    have hD : va_D A [(h0, .inr (9, [.int (gI o0 0), .ref (q0 1), .ref (q0 2), .ref (q0 3), .ref (q0 4), .ref (q0 5), .ref (q0 6), .ref (q0 7), .int (gI o0 8), .ref (r0 9), .int (gI o0 10), .ref (r0 11)])), kI G (q0 1) 5 (gA o0 1), kI G (q0 2) 20 (gA o0 2), kI G (q0 3) 5 (gA o0 3), kI G (q0 4) 5 (gA o0 4), kI G (q0 5) 5 (gA o0 5), kI G (q0 6) 5 (gA o0 6), kI G (q0 7) 5 (gA o0 7), kB G (r0 9) (r0 109) (gA o0 9), kI G (r0 11) (r0 111) (gA o0 11)] := hD
    unfold f_Sh_spread_43 at h
    refine lv_iload hx hb d_Sh_spread_43 (lv_at hl 5 rfl) ?_
    refine lv_aload_n hx hb d_Sh_spread_45 rfl (lv_at hl 0 rfl) ?_
    refine va_get (D := G.1) (ci := 9) (v := .ref (q0 3)) (C := R_Sh) (T := T_Sh) (N := 12) hx hb hts i_Sh hown hK hP 0 rfl rfl 3 (by decide) (hts _ wf_Sh_18) (fun _ h9 => h9) rfl d_Sh_spread_46 ?_
    refine lv_iload_n hx hb d_Sh_spread_49 rfl (lv_at hl 2 rfl) ?_
    have g3 := h.1
    have h := h.2
    refine xa_iald hx hb hK hP 3 0 rfl rfl g3 (k := x2.toNatClampNeg) rfl d_Sh_spread_50 ?_
    refine lv_icmp_ge (tgt := 75) hx hb d_Sh_spread_51 (by decide) (fun c4 => ?_) (fun c4 => ?_)
    · have h := h.1 c4
      refine lv_aload_n hx hb d_Sh_spread_75 rfl (lv_at hl 0 rfl) ?_
      refine va_get (D := G.1) (ci := 9) (v := .ref (q0 3)) (C := R_Sh) (T := T_Sh) (N := 12) hx hb hts i_Sh hown hK hP 0 rfl rfl 3 (by decide) (hts _ wf_Sh_18) (fun _ h9 => h9) rfl d_Sh_spread_76 ?_
      refine lv_iload_n hx hb d_Sh_spread_79 rfl (lv_at hl 2 rfl) ?_
      have g5 := h.1
      have h := h.2
      refine xa_iald hx hb hK hP 3 0 rfl rfl g5 (k := x2.toNatClampNeg) rfl d_Sh_spread_80 ?_
      refine lv_iconst (v := (1 : Int32)) hx hb d_Sh_spread_81 (by decide) ?_
      refine lv_isub hx hb d_Sh_spread_82 ?_
      refine lv_istore (lv' := [(5, .int (((gA o0 3) x2.toNatClampNeg) - (1 : Int32))), (0, .ref h0), (1, .int x1), (2, .int x2), (3, .int x3), (4, .int x4)]) hx hb d_Sh_spread_83 hl (by decide) rfl (fun ls hl => ?_)
      have hl := lv_sub (l' := [(0, .ref h0), (1, .int x1), (2, .int x2), (3, .int x3), (4, .int x4), (5, .int (((gA o0 3) x2.toNatClampNeg) - (1 : Int32)))]) hl [1, 2, 3, 4, 5, 0] rfl
      have hP : va_P G.1 CL (cw_Sh G h0 q0 r0 o0) H := hP
      have hD : va_D A (cw_Sh G h0 q0 r0 o0) := hD
      obtain ⟨w, h⟩ := h
      exact t_Sh_spread_85 r0 k27 Q C hk27 w x1 x2 x3 x4 (((gA o0 3) x2.toNatClampNeg) - (1 : Int32)) o0 ls _ locs hl hP hD hS h
    · have h := h.2 c4
      refine lv_aload_n hx hb d_Sh_spread_54 rfl (lv_at hl 0 rfl) ?_
      refine lv_iload_n hx hb d_Sh_spread_55 rfl (lv_at hl 1 rfl) ?_
      refine lv_iload hx hb d_Sh_spread_56 (lv_at hl 4 rfl) ?_
      refine lv_iadd hx hb d_Sh_spread_58 ?_
      refine lv_iload_n hx hb d_Sh_spread_59 rfl (lv_at hl 2 rfl) ?_
      refine lv_iload hx hb d_Sh_spread_60 (lv_at hl 5 rfl) ?_
      refine lv_iconst (v := (1 : Int32)) hx hb d_Sh_spread_62 (by decide) ?_
      refine lv_isub hx hb d_Sh_spread_63 ?_
      refine lv_iload hx hb d_Sh_spread_64 (lv_at hl 5 rfl) ?_
      refine cl_Vv (b := b_Sh_spread) (As := [.int (x1 + x4), .int x2, .int (x5 - (1 : Int32)), .int x5]) (rest := []) (ws := [(h0, .inr (9, [.int (gI o0 0), .ref (q0 1), .ref (q0 2), .ref (q0 3), .ref (q0 4), .ref (q0 5), .ref (q0 6), .ref (q0 7), .int (gI o0 8), .ref (r0 9), .int (gI o0 10), .ref (r0 11)])), kI G (q0 1) 5 (gA o0 1), kI G (q0 2) 20 (gA o0 2), kI G (q0 3) 5 (gA o0 3), kI G (q0 4) 5 (gA o0 4), kI G (q0 5) 5 (gA o0 5), kI G (q0 6) 5 (gA o0 6), kI G (q0 7) 5 (gA o0 7), kB G (r0 9) (r0 109) (gA o0 9), kI G (r0 11) (r0 111) (gA o0 11)]) (wr := []) (w2 := fun (u : Ob) => [(h0, .inr (9, [.int (gI u 0), .ref (q0 1), .ref (q0 2), .ref (q0 3), .ref (q0 4), .ref (q0 5), .ref (q0 6), .ref (q0 7), .int (gI u 8), .ref (r0 9), .int (gI u 10), .ref (r0 11)])), kI G (q0 1) 5 (gA u 1), kI G (q0 2) 20 (gA u 2), kI G (q0 3) 5 (gA u 3), kI G (q0 4) 5 (gA u 4), kI G (q0 5) 5 (gA u 5), kI G (q0 6) 5 (gA u 6), kI G (q0 7) 5 (gA u 7), kB G (r0 9) (r0 109) (gA u 9), kI G (r0 11) (r0 111) (gA u 11)]) C (c_Sh_lower (h0 := h0) (q0 := q0) H.size h) wv_Sh_113 ⟨Nat.le_of_ble_eq_true rfl, Nat.le_of_ble_eq_true rfl⟩ hP hD hS 0 rfl rfl [0, 1, 2, 3, 4, 5, 6, 7, 8, 9] [] rfl rfl (by decide) (by decide) (by decide) [0, 1, 2, 3, 4, 5, 6, 7, 8, 9] (by decide) (fun u => rfl) rfl hl.1 rfl (lv_room (Nat.le_of_ble_eq_true rfl)) d_Sh_spread_66 ⟨Nat.le_of_ble_eq_true rfl, Nat.le_of_ble_eq_true rfl⟩ rfl rfl (fun u H locs h hP hD hS => ?_)
      generalize u = u6 at h hP hD
      have hP : va_P G.1 CL [(h0, .inr (9, [.int (gI u6 0), .ref (q0 1), .ref (q0 2), .ref (q0 3), .ref (q0 4), .ref (q0 5), .ref (q0 6), .ref (q0 7), .int (gI u6 8), .ref (r0 9), .int (gI u6 10), .ref (r0 11)])), kI G (q0 1) 5 (gA u6 1), kI G (q0 2) 20 (gA u6 2), kI G (q0 3) 5 (gA u6 3), kI G (q0 4) 5 (gA u6 4), kI G (q0 5) 5 (gA u6 5), kI G (q0 6) 5 (gA u6 6), kI G (q0 7) 5 (gA u6 7), kB G (r0 9) (r0 109) (gA u6 9), kI G (r0 11) (r0 111) (gA u6 11)] H := hP
      have hD : va_D A [(h0, .inr (9, [.int (gI u6 0), .ref (q0 1), .ref (q0 2), .ref (q0 3), .ref (q0 4), .ref (q0 5), .ref (q0 6), .ref (q0 7), .int (gI u6 8), .ref (r0 9), .int (gI u6 10), .ref (r0 11)])), kI G (q0 1) 5 (gA u6 1), kI G (q0 2) 20 (gA u6 2), kI G (q0 3) 5 (gA u6 3), kI G (q0 4) 5 (gA u6 4), kI G (q0 5) 5 (gA u6 5), kI G (q0 6) 5 (gA u6 6), kI G (q0 7) 5 (gA u6 7), kB G (r0 9) (r0 109) (gA u6 9), kI G (r0 11) (r0 111) (gA u6 11)] := hD
      refine lv_iinc (v := (x5 + (1 : Int32))) (lv' := [(5, .int (x5 + (1 : Int32))), (0, .ref h0), (1, .int x1), (2, .int x2), (3, .int x3), (4, .int x4)]) hx hb d_Sh_spread_69 hl (k := 5) rfl rfl (by decide) rfl (fun ls hl => ?_)
      refine lv_goto (tgt := 43) hx hb d_Sh_spread_72 (by decide) ?_
      have hl := lv_sub (l' := [(0, .ref h0), (1, .int x1), (2, .int x2), (3, .int x3), (4, .int x4), (5, .int (x5 + (1 : Int32)))]) hl [1, 2, 3, 4, 5, 0] rfl
      have hP : va_P G.1 CL (cw_Sh G h0 q0 r0 u6) H := hP
      have hD : va_D A (cw_Sh G h0 q0 r0 u6) := hD
      exact ih x1 x2 x3 x4 (x5 + (1 : Int32)) u6 ls H locs hl hP hD hS h
set_option maxHeartbeats 4000000 in
set_option maxRecDepth 100000 in
theorem t_Sh_spread_27 {p : Program} {l : Launch} {e : Env} {s : State} {m : MethodId} {args : Array Value} {below : List Frame} {meth : Method} {c : Code} {A : Nat → Prop} {G : Gl} {h0 : Nat} {q0 : Nat → Nat} (r0 : (Nat → Nat)) (k2 : Int32 → Int32 → Ob → Prop) (Q : Ob → Prop) (C : Cx p s m args meth c R_Sh b_Sh_spread 6 none G A)
    (hk2 : ∀ (x1 : Int32) (x2 : Int32) (o0 : Ob) (ls : Array Slot) (H : Heap) (locs : List Loc), lv_has ls 6 [(0, .ref h0), (1, .int x1), (2, .int x2)] → va_P G.1 CL (cw_Sh G h0 q0 r0 o0) H → va_D A (cw_Sh G h0 q0 r0 o0) → va_S A s.heap H locs → k2 x1 x2 o0 → W p l e rm_Sh_spread s m args below meth c H locs 0 0 (MQ below (va_Qv (fun (u : Ob) => Q u) (fun (u : Ob) t => BW G A (cw_Sh G h0 q0 r0 u) t) A) args s 0 0 A) (F0 m 2 ls [])) :
    ∀ (n : Nat) (x1 : Int32) (x2 : Int32) (x3 : Int32) (x4 : Int32) (o0 : Ob) (ls : Array Slot) (H : Heap) (locs : List Loc), lv_has ls 6 [(0, .ref h0), (1, .int x1), (2, .int x2), (3, .int x3), (4, .int x4)] → va_P G.1 CL (cw_Sh G h0 q0 r0 o0) H → va_D A (cw_Sh G h0 q0 r0 o0) → va_S A s.heap H locs → f_Sh_spread_27 r0 k2 Q n x1 x2 x3 x4 o0 → W p l e rm_Sh_spread s m args below meth c H locs 0 0 (MQ below (va_Qv (fun (u : Ob) => Q u) (fun (u : Ob) t => BW G A (cw_Sh G h0 q0 r0 u) t) A) args s 0 0 A) (F0 m 27 ls []) := by
  obtain ⟨hx, hb, hml, hown, hr, hts, hK, hA, hlocks, hE⟩ := id C
  intro n
  induction n with
  | zero => intro x1 x2 x3 x4 o0 ls H locs hl hP hD hS h; exact absurd h id
  | succ n ih =>
    intro x1 x2 x3 x4 o0 ls H locs hl hP hD hS h
    have hP : va_P G.1 CL [(h0, .inr (9, [.int (gI o0 0), .ref (q0 1), .ref (q0 2), .ref (q0 3), .ref (q0 4), .ref (q0 5), .ref (q0 6), .ref (q0 7), .int (gI o0 8), .ref (r0 9), .int (gI o0 10), .ref (r0 11)])), kI G (q0 1) 5 (gA o0 1), kI G (q0 2) 20 (gA o0 2), kI G (q0 3) 5 (gA o0 3), kI G (q0 4) 5 (gA o0 4), kI G (q0 5) 5 (gA o0 5), kI G (q0 6) 5 (gA o0 6), kI G (q0 7) 5 (gA o0 7), kB G (r0 9) (r0 109) (gA o0 9), kI G (r0 11) (r0 111) (gA o0 11)] H := hP
    have hD : va_D A [(h0, .inr (9, [.int (gI o0 0), .ref (q0 1), .ref (q0 2), .ref (q0 3), .ref (q0 4), .ref (q0 5), .ref (q0 6), .ref (q0 7), .int (gI o0 8), .ref (r0 9), .int (gI o0 10), .ref (r0 11)])), kI G (q0 1) 5 (gA o0 1), kI G (q0 2) 20 (gA o0 2), kI G (q0 3) 5 (gA o0 3), kI G (q0 4) 5 (gA o0 4), kI G (q0 5) 5 (gA o0 5), kI G (q0 6) 5 (gA o0 6), kI G (q0 7) 5 (gA o0 7), kB G (r0 9) (r0 109) (gA o0 9), kI G (r0 11) (r0 111) (gA o0 11)] := hD
    unfold f_Sh_spread_27 at h
    refine lv_iload_n hx hb d_Sh_spread_27 rfl (lv_at hl 3 rfl) ?_
    refine lv_if_le (tgt := 120) hx hb d_Sh_spread_28 (by decide) (fun c7 => ?_) (fun c7 => ?_)
    · have h := h.1 c7
      refine lv_iinc (v := (x2 + (1 : Int32))) (lv' := [(2, .int (x2 + (1 : Int32))), (0, .ref h0), (1, .int x1), (3, .int x3), (4, .int x4)]) hx hb d_Sh_spread_120 hl (k := 2) rfl rfl (by decide) rfl (fun ls hl => ?_)
      refine lv_goto (tgt := 2) hx hb d_Sh_spread_123 (by decide) ?_
      have hl := lv_sub (l' := [(0, .ref h0), (1, .int x1), (2, .int (x2 + (1 : Int32)))]) hl [1, 2, 0] rfl
      have hP : va_P G.1 CL (cw_Sh G h0 q0 r0 o0) H := hP
      have hD : va_D A (cw_Sh G h0 q0 r0 o0) := hD
      exact hk2 x1 (x2 + (1 : Int32)) o0 ls H locs hl hP hD hS h
    · have h := h.2 c7
      refine lv_iload hx hb d_Sh_spread_31 (lv_at hl 4 rfl) ?_
      refine lv_aload_n hx hb d_Sh_spread_33 rfl (lv_at hl 0 rfl) ?_
      refine va_get (D := G.1) (ci := 9) (v := .int (gI o0 8)) (C := R_Sh) (T := T_Sh) (N := 12) hx hb hts i_Sh hown hK hP 0 rfl rfl 8 (by decide) (hts _ wf_Sh_69) (fun _ h9 => h9) rfl d_Sh_spread_34 ?_
      refine lv_icmp_ge (tgt := 120) hx hb d_Sh_spread_37 (by decide) (fun c8 => ?_) (fun c8 => ?_)
      · have h := h.1 c8
        refine lv_iinc (v := (x2 + (1 : Int32))) (lv' := [(2, .int (x2 + (1 : Int32))), (0, .ref h0), (1, .int x1), (3, .int x3), (4, .int x4)]) hx hb d_Sh_spread_120 hl (k := 2) rfl rfl (by decide) rfl (fun ls hl => ?_)
        refine lv_goto (tgt := 2) hx hb d_Sh_spread_123 (by decide) ?_
        have hl := lv_sub (l' := [(0, .ref h0), (1, .int x1), (2, .int (x2 + (1 : Int32)))]) hl [1, 2, 0] rfl
        have hP : va_P G.1 CL (cw_Sh G h0 q0 r0 o0) H := hP
        have hD : va_D A (cw_Sh G h0 q0 r0 o0) := hD
        exact hk2 x1 (x2 + (1 : Int32)) o0 ls H locs hl hP hD hS h
      · have h := h.2 c8
        refine lv_iconst (v := (1 : Int32)) hx hb d_Sh_spread_40 (by decide) ?_
        refine lv_istore (lv' := [(5, .int (1 : Int32)), (0, .ref h0), (1, .int x1), (2, .int x2), (3, .int x3), (4, .int x4)]) hx hb d_Sh_spread_41 hl (by decide) rfl (fun ls hl => ?_)
        have hl := lv_sub (l' := [(0, .ref h0), (1, .int x1), (2, .int x2), (3, .int x3), (4, .int x4), (5, .int (1 : Int32))]) hl [1, 2, 3, 4, 5, 0] rfl
        have hP : va_P G.1 CL (cw_Sh G h0 q0 r0 o0) H := hP
        have hD : va_D A (cw_Sh G h0 q0 r0 o0) := hD
        obtain ⟨w, h⟩ := h
        exact t_Sh_spread_43 r0 (f_Sh_spread_27 r0 k2 Q n) Q C ih w x1 x2 x3 x4 (1 : Int32) o0 ls _ locs hl hP hD hS h
set_option maxHeartbeats 4000000 in
set_option maxRecDepth 100000 in
theorem t_Sh_spread_2 {p : Program} {l : Launch} {e : Env} {s : State} {m : MethodId} {args : Array Value} {below : List Frame} {meth : Method} {c : Code} {A : Nat → Prop} {G : Gl} {h0 : Nat} {q0 : Nat → Nat} (r0 : (Nat → Nat)) (Q : Ob → Prop) (C : Cx p s m args meth c R_Sh b_Sh_spread 6 none G A) :
    ∀ (n : Nat) (x1 : Int32) (x2 : Int32) (o0 : Ob) (ls : Array Slot) (H : Heap) (locs : List Loc), lv_has ls 6 [(0, .ref h0), (1, .int x1), (2, .int x2)] → va_P G.1 CL (cw_Sh G h0 q0 r0 o0) H → va_D A (cw_Sh G h0 q0 r0 o0) → va_S A s.heap H locs → f_Sh_spread_2 r0 Q n x1 x2 o0 → W p l e rm_Sh_spread s m args below meth c H locs 0 0 (MQ below (va_Qv (fun (u : Ob) => Q u) (fun (u : Ob) t => BW G A (cw_Sh G h0 q0 r0 u) t) A) args s 0 0 A) (F0 m 2 ls []) := by
  obtain ⟨hx, hb, hml, hown, hr, hts, hK, hA, hlocks, hE⟩ := id C
  intro n
  induction n with
  | zero => intro x1 x2 o0 ls H locs hl hP hD hS h; exact absurd h id
  | succ n ih =>
    intro x1 x2 o0 ls H locs hl hP hD hS h
    have hP : va_P G.1 CL [(h0, .inr (9, [.int (gI o0 0), .ref (q0 1), .ref (q0 2), .ref (q0 3), .ref (q0 4), .ref (q0 5), .ref (q0 6), .ref (q0 7), .int (gI o0 8), .ref (r0 9), .int (gI o0 10), .ref (r0 11)])), kI G (q0 1) 5 (gA o0 1), kI G (q0 2) 20 (gA o0 2), kI G (q0 3) 5 (gA o0 3), kI G (q0 4) 5 (gA o0 4), kI G (q0 5) 5 (gA o0 5), kI G (q0 6) 5 (gA o0 6), kI G (q0 7) 5 (gA o0 7), kB G (r0 9) (r0 109) (gA o0 9), kI G (r0 11) (r0 111) (gA o0 11)] H := hP
    have hD : va_D A [(h0, .inr (9, [.int (gI o0 0), .ref (q0 1), .ref (q0 2), .ref (q0 3), .ref (q0 4), .ref (q0 5), .ref (q0 6), .ref (q0 7), .int (gI o0 8), .ref (r0 9), .int (gI o0 10), .ref (r0 11)])), kI G (q0 1) 5 (gA o0 1), kI G (q0 2) 20 (gA o0 2), kI G (q0 3) 5 (gA o0 3), kI G (q0 4) 5 (gA o0 4), kI G (q0 5) 5 (gA o0 5), kI G (q0 6) 5 (gA o0 6), kI G (q0 7) 5 (gA o0 7), kB G (r0 9) (r0 109) (gA o0 9), kI G (r0 11) (r0 111) (gA o0 11)] := hD
    unfold f_Sh_spread_2 at h
    refine lv_iload_n hx hb d_Sh_spread_2 rfl (lv_at hl 2 rfl) ?_
    refine lv_aload_n hx hb d_Sh_spread_3 rfl (lv_at hl 0 rfl) ?_
    refine va_get (D := G.1) (ci := 9) (v := .int (gI o0 0)) (C := R_Sh) (T := T_Sh) (N := 12) hx hb hts i_Sh hown hK hP 0 rfl rfl 0 (by decide) (hts _ wf_Sh_40) (fun _ h9 => h9) rfl d_Sh_spread_4 ?_
    refine lv_icmp_ge (tgt := 126) hx hb d_Sh_spread_7 (by decide) (fun c9 => ?_) (fun c9 => ?_)
    · have h := h.1 c9
      have hP : va_P G.1 CL (cw_Sh G h0 q0 r0 o0) H := hP
      have hD : va_D A (cw_Sh G h0 q0 r0 o0) := hD
      exact W.vret hx hb hr (fun t ht hW => ⟨⟨o0, rfl, h, by rw [ht]; exact hP, va_K.moved hW.alike hK, hD⟩, hS.F ht⟩) hS.2.2 d_Sh_spread_126
    · have h := h.2 c9
      refine lv_aload_n hx hb d_Sh_spread_10 rfl (lv_at hl 0 rfl) ?_
      refine va_get (D := G.1) (ci := 9) (v := .ref (q0 4)) (C := R_Sh) (T := T_Sh) (N := 12) hx hb hts i_Sh hown hK hP 0 rfl rfl 4 (by decide) (hts _ wf_Sh_21) (fun _ h9 => h9) rfl d_Sh_spread_11 ?_
      refine lv_iload_n hx hb d_Sh_spread_14 rfl (lv_at hl 2 rfl) ?_
      have g10 := h.1
      have h := h.2
      refine xa_iald hx hb hK hP 4 0 rfl rfl g10 (k := x2.toNatClampNeg) rfl d_Sh_spread_15 ?_
      refine lv_aload_n hx hb d_Sh_spread_16 rfl (lv_at hl 0 rfl) ?_
      refine va_get (D := G.1) (ci := 9) (v := .ref (q0 3)) (C := R_Sh) (T := T_Sh) (N := 12) hx hb hts i_Sh hown hK hP 0 rfl rfl 3 (by decide) (hts _ wf_Sh_18) (fun _ h9 => h9) rfl d_Sh_spread_17 ?_
      refine lv_iload_n hx hb d_Sh_spread_20 rfl (lv_at hl 2 rfl) ?_
      have g11 := h.1
      have h := h.2
      refine xa_iald hx hb hK hP 3 0 rfl rfl g11 (k := x2.toNatClampNeg) rfl d_Sh_spread_21 ?_
      refine lv_imul hx hb d_Sh_spread_22 ?_
      refine lv_topi (fun y12 ey12 => ?_)
      have h := h y12 ey12
      refine lv_istore_n (lv' := [(3, .int y12), (0, .ref h0), (1, .int x1), (2, .int x2)]) hx hb d_Sh_spread_23 rfl hl (by decide) rfl (fun ls hl => ?_)
      refine lv_iconst (v := (0 : Int32)) hx hb d_Sh_spread_24 (by decide) ?_
      refine lv_istore (lv' := [(4, .int (0 : Int32)), (3, .int y12), (0, .ref h0), (1, .int x1), (2, .int x2)]) hx hb d_Sh_spread_25 hl (by decide) rfl (fun ls hl => ?_)
      have hl := lv_sub (l' := [(0, .ref h0), (1, .int x1), (2, .int x2), (3, .int y12), (4, .int (0 : Int32))]) hl [2, 3, 4, 1, 0] rfl
      have hP : va_P G.1 CL (cw_Sh G h0 q0 r0 o0) H := hP
      have hD : va_D A (cw_Sh G h0 q0 r0 o0) := hD
      obtain ⟨w, h⟩ := h
      exact t_Sh_spread_27 r0 (f_Sh_spread_2 r0 Q n) Q C ih w x1 x2 y12 (0 : Int32) o0 ls _ locs hl hP hD hS h
set_option maxHeartbeats 4000000 in
set_option maxRecDepth 100000 in
theorem c_Sh_spread {l : Launch} {G : Gl} {h0 : Nat} {q0 : Nat → Nat} {a0 : Int32} {r0 : (Nat → Nat)} {o0 : Ob} {Q : Ob → Prop} (sz : Nat) (h : f_Sh_spread a0 r0 o0 Q) : Met l y_Sh_spread w_Sh_spread rm_Sh_spread (PcW G [.ref h0, .int a0] sz (cw_Sh G h0 q0 r0 o0)) (va_Qv (fun (u : Ob) => Q u) (fun (u : Ob) t => BW G (va_A (cw_Sh G h0 q0 r0 o0) sz) (cw_Sh G h0 q0 r0 u) t) (va_A (cw_Sh G h0 q0 r0 o0) sz)) 0 0 (va_A (cw_Sh G h0 q0 r0 o0) sz) := by
  refine Met.ofW (cc := b_Sh_spread) (maxL := 6) (ret := none) (by decide +kernel) rfl ?_
  intro p e s m args below meth c s₁ B hml hv
  obtain ⟨rfl, hsz, hP, hK, hD0, hE⟩ := hv
  have hx := B.exec
  have hb := B.bytes
  have hr := B.returns
  have hts0 := atoms_spec (ws := w_Sh_spread) B.pre
  have hts : ∀ w ∈ gw_tbl, w.before ([.ref h0, .int a0]).toArray s = true := fun w hw => hts0 w (List.mem_cons_of_mem _ hw)
  have hown : s.vm.findClass R_Sh = some m.cls := findClass_of_methodNamed B.named
  have hlocks := B.notSynchronized
  subst hsz
  have hD := hD0.self (sz := s.heap.size)
  generalize hAe : va_A (cw_Sh G h0 q0 r0 o0) s.heap.size = A at hD hE ⊢
  have hA : ∀ q : Nat, s.heap.size ≤ q → A q := fun q h => by rw [← hAe]; exact Or.inr h
  have hS : va_S A s.heap s.heap [] := va_S.rf
  have C : Cx p s m ([.ref h0, .int a0]).toArray meth c R_Sh b_Sh_spread 6 none G A := ⟨hx, hb, hml, hown, hr, hts, hK, hA, hlocks, hE⟩
  have hl := lv_entry ([.ref h0, .int a0]) (n := 6) (Nat.le_of_ble_eq_true rfl)
  rw [lg_entry_eq]
  generalize (lg_sl ([.ref h0, .int a0]) ++ List.replicate (6 - (lg_sl ([.ref h0, .int a0])).length) Slot.unset).toArray = ls at hl ⊢
  have hl : lv_has ls 6 [(0, .ref h0), (1, .int a0)] := hl
  have hD : va_D A [(h0, .inr (9, [.int (gI o0 0), .ref (q0 1), .ref (q0 2), .ref (q0 3), .ref (q0 4), .ref (q0 5), .ref (q0 6), .ref (q0 7), .int (gI o0 8), .ref (r0 9), .int (gI o0 10), .ref (r0 11)])), kI G (q0 1) 5 (gA o0 1), kI G (q0 2) 20 (gA o0 2), kI G (q0 3) 5 (gA o0 3), kI G (q0 4) 5 (gA o0 4), kI G (q0 5) 5 (gA o0 5), kI G (q0 6) 5 (gA o0 6), kI G (q0 7) 5 (gA o0 7), kB G (r0 9) (r0 109) (gA o0 9), kI G (r0 11) (r0 111) (gA o0 11)] := hD
  unfold f_Sh_spread at h
  suffices key : ∀ (H : Heap) (locs : List Loc), va_P G.1 CL [(h0, .inr (9, [.int (gI o0 0), .ref (q0 1), .ref (q0 2), .ref (q0 3), .ref (q0 4), .ref (q0 5), .ref (q0 6), .ref (q0 7), .int (gI o0 8), .ref (r0 9), .int (gI o0 10), .ref (r0 11)])), kI G (q0 1) 5 (gA o0 1), kI G (q0 2) 20 (gA o0 2), kI G (q0 3) 5 (gA o0 3), kI G (q0 4) 5 (gA o0 4), kI G (q0 5) 5 (gA o0 5), kI G (q0 6) 5 (gA o0 6), kI G (q0 7) 5 (gA o0 7), kB G (r0 9) (r0 109) (gA o0 9), kI G (r0 11) (r0 111) (gA o0 11)] H → va_S A s.heap H locs → W p l e rm_Sh_spread s m ([.ref h0, .int a0]).toArray below meth c H locs 0 0 (MQ below (va_Qv (fun (u : Ob) => Q u) (fun (u : Ob) t => BW G A (cw_Sh G h0 q0 r0 u) t) A) ([.ref h0, .int a0]).toArray s 0 0 A) (F0 m 0 ls []) from key s.heap [] hP hS
  intro H locs hP hS
  refine lv_iconst (v := (0 : Int32)) hx hb d_Sh_spread_0 (by decide) ?_
  refine lv_istore_n (lv' := [(2, .int (0 : Int32)), (0, .ref h0), (1, .int a0)]) hx hb d_Sh_spread_1 rfl hl (by decide) rfl (fun ls hl => ?_)
  have hl := lv_sub (l' := [(0, .ref h0), (1, .int a0), (2, .int (0 : Int32))]) hl [1, 2, 0] rfl
  have hP : va_P G.1 CL (cw_Sh G h0 q0 r0 o0) H := hP
  have hD : va_D A (cw_Sh G h0 q0 r0 o0) := hD
  obtain ⟨w, h⟩ := h
  exact t_Sh_spread_2 r0 Q C w a0 (0 : Int32) o0 ls _ locs hl hP hD hS h
abbrev b_Sh_firstOfRow : ByteArray := prog_10_method_15_code
def y_Sh_firstOfRow : MethodName := ⟨R_Sh, "firstOfRow", "()I"⟩
abbrev w_Sh_firstOfRow : List Cond := Cond.code y_Sh_firstOfRow b_Sh_firstOfRow 4 (some .int) :: gw_tbl
theorem d_Sh_firstOfRow_0 : decode b_Sh_firstOfRow 0 = .ok (.iconst (-1), 1) := by decide +kernel
theorem d_Sh_firstOfRow_1 : decode b_Sh_firstOfRow 1 = .ok (.istore_n 1, 1) := by decide +kernel
theorem d_Sh_firstOfRow_2 : decode b_Sh_firstOfRow 2 = .ok (.ldc 90, 2) := by decide +kernel
theorem d_Sh_firstOfRow_4 : decode b_Sh_firstOfRow 4 = .ok (.istore_n 2, 1) := by decide +kernel
theorem d_Sh_firstOfRow_5 : decode b_Sh_firstOfRow 5 = .ok (.iconst 0, 1) := by decide +kernel
theorem d_Sh_firstOfRow_6 : decode b_Sh_firstOfRow 6 = .ok (.istore_n 3, 1) := by decide +kernel
theorem d_Sh_firstOfRow_7 : decode b_Sh_firstOfRow 7 = .ok (.iload_n 3, 1) := by decide +kernel
theorem d_Sh_firstOfRow_8 : decode b_Sh_firstOfRow 8 = .ok (.aload_n 0, 1) := by decide +kernel
theorem d_Sh_firstOfRow_9 : decode b_Sh_firstOfRow 9 = .ok (.getfield 69, 3) := by decide +kernel
theorem d_Sh_firstOfRow_12 : decode b_Sh_firstOfRow 12 = .ok (.if_icmp .ge 28, 3) := by decide +kernel
theorem d_Sh_firstOfRow_15 : decode b_Sh_firstOfRow 15 = .ok (.aload_n 0, 1) := by decide +kernel
theorem d_Sh_firstOfRow_16 : decode b_Sh_firstOfRow 16 = .ok (.getfield 37, 3) := by decide +kernel
theorem d_Sh_firstOfRow_19 : decode b_Sh_firstOfRow 19 = .ok (.iload_n 3, 1) := by decide +kernel
theorem d_Sh_firstOfRow_20 : decode b_Sh_firstOfRow 20 = .ok (.iaload, 1) := by decide +kernel
theorem d_Sh_firstOfRow_21 : decode b_Sh_firstOfRow 21 = .ok (.iload_n 2, 1) := by decide +kernel
theorem d_Sh_firstOfRow_22 : decode b_Sh_firstOfRow 22 = .ok (.if_icmp .ge 12, 3) := by decide +kernel
theorem d_Sh_firstOfRow_25 : decode b_Sh_firstOfRow 25 = .ok (.aload_n 0, 1) := by decide +kernel
theorem d_Sh_firstOfRow_26 : decode b_Sh_firstOfRow 26 = .ok (.getfield 37, 3) := by decide +kernel
theorem d_Sh_firstOfRow_29 : decode b_Sh_firstOfRow 29 = .ok (.iload_n 3, 1) := by decide +kernel
theorem d_Sh_firstOfRow_30 : decode b_Sh_firstOfRow 30 = .ok (.iaload, 1) := by decide +kernel
theorem d_Sh_firstOfRow_31 : decode b_Sh_firstOfRow 31 = .ok (.istore_n 2, 1) := by decide +kernel
theorem d_Sh_firstOfRow_32 : decode b_Sh_firstOfRow 32 = .ok (.iload_n 3, 1) := by decide +kernel
theorem d_Sh_firstOfRow_33 : decode b_Sh_firstOfRow 33 = .ok (.istore_n 1, 1) := by decide +kernel
theorem d_Sh_firstOfRow_34 : decode b_Sh_firstOfRow 34 = .ok (.iinc 3 1, 3) := by decide +kernel
theorem d_Sh_firstOfRow_37 : decode b_Sh_firstOfRow 37 = .ok (.goto (-30), 3) := by decide +kernel
theorem d_Sh_firstOfRow_40 : decode b_Sh_firstOfRow 40 = .ok (.iload_n 1, 1) := by decide +kernel
theorem d_Sh_firstOfRow_41 : decode b_Sh_firstOfRow 41 = .ok (.ireturn, 1) := by decide +kernel
def f_Sh_firstOfRow_7 (r0 : (Nat → Nat)) (o0 : Ob) (Q : Int32 → Prop) : Nat → Int32 → Int32 → Int32 → Prop
  | 0, _, _, _ => False
  | n + 1, x1, x2, x3 => ((gI o0 8) ≤ x3 → (Q x1)) ∧ (¬ (gI o0 8) ≤ x3 → ((vp_in x3 (r0 111)) ∧ ((x2 ≤ ((gA o0 11) x3.toNatClampNeg) → ((f_Sh_firstOfRow_7 r0 o0 Q n) x1 x2 (x3 + (1 : Int32)))) ∧ (¬ x2 ≤ ((gA o0 11) x3.toNatClampNeg) → ((vp_in x3 (r0 111)) ∧ ((f_Sh_firstOfRow_7 r0 o0 Q n) x3 ((gA o0 11) x3.toNatClampNeg) (x3 + (1 : Int32))))))))
def f_Sh_firstOfRow (r0 : (Nat → Nat)) (o0 : Ob) (Q : Int32 → Prop) : Prop := (∃ w, f_Sh_firstOfRow_7 r0 o0 Q w (-1 : Int32) (1000000 : Int32) (0 : Int32))
abbrev rm_Sh_firstOfRow : Room := { frames := 0, cells := 0, slots := 0, locals := 0 }
set_option maxHeartbeats 4000000 in
set_option maxRecDepth 100000 in
theorem t_Sh_firstOfRow_7 {p : Program} {l : Launch} {e : Env} {s : State} {m : MethodId} {args : Array Value} {below : List Frame} {meth : Method} {c : Code} {A : Nat → Prop} {G : Gl} {h0 : Nat} {q0 : Nat → Nat} (r0 : (Nat → Nat)) (o0 : Ob) (Q : Int32 → Prop) (C : Cx p s m args meth c R_Sh b_Sh_firstOfRow 4 (some .int) G A) :
    ∀ (n : Nat) (x1 : Int32) (x2 : Int32) (x3 : Int32) (ls : Array Slot) (H : Heap) (locs : List Loc), lv_has ls 4 [(0, .ref h0), (1, .int x1), (2, .int x2), (3, .int x3)] → va_P G.1 CL (cw_Sh G h0 q0 r0 o0) H → va_D A (cw_Sh G h0 q0 r0 o0) → va_S A s.heap H locs → f_Sh_firstOfRow_7 r0 o0 Q n x1 x2 x3 → W p l e rm_Sh_firstOfRow s m args below meth c H locs 0 0 (MQ below (va_Qi (fun (r : Int32) (u : Unit) => Q r) (fun (u : Unit) t => BW G A (cw_Sh G h0 q0 r0 o0) t) A) args s 0 0 A) (F0 m 7 ls []) := by
  obtain ⟨hx, hb, hml, hown, hr, hts, hK, hA, hlocks, hE⟩ := id C
  intro n
  induction n with
  | zero => intro x1 x2 x3 ls H locs hl hP hD hS h; exact absurd h id
  | succ n ih =>
    intro x1 x2 x3 ls H locs hl hP hD hS h
    have hP : va_P G.1 CL [(h0, .inr (9, [.int (gI o0 0), .ref (q0 1), .ref (q0 2), .ref (q0 3), .ref (q0 4), .ref (q0 5), .ref (q0 6), .ref (q0 7), .int (gI o0 8), .ref (r0 9), .int (gI o0 10), .ref (r0 11)])), kI G (q0 1) 5 (gA o0 1), kI G (q0 2) 20 (gA o0 2), kI G (q0 3) 5 (gA o0 3), kI G (q0 4) 5 (gA o0 4), kI G (q0 5) 5 (gA o0 5), kI G (q0 6) 5 (gA o0 6), kI G (q0 7) 5 (gA o0 7), kB G (r0 9) (r0 109) (gA o0 9), kI G (r0 11) (r0 111) (gA o0 11)] H := hP
    have hD : va_D A [(h0, .inr (9, [.int (gI o0 0), .ref (q0 1), .ref (q0 2), .ref (q0 3), .ref (q0 4), .ref (q0 5), .ref (q0 6), .ref (q0 7), .int (gI o0 8), .ref (r0 9), .int (gI o0 10), .ref (r0 11)])), kI G (q0 1) 5 (gA o0 1), kI G (q0 2) 20 (gA o0 2), kI G (q0 3) 5 (gA o0 3), kI G (q0 4) 5 (gA o0 4), kI G (q0 5) 5 (gA o0 5), kI G (q0 6) 5 (gA o0 6), kI G (q0 7) 5 (gA o0 7), kB G (r0 9) (r0 109) (gA o0 9), kI G (r0 11) (r0 111) (gA o0 11)] := hD
    unfold f_Sh_firstOfRow_7 at h
    refine lv_iload_n hx hb d_Sh_firstOfRow_7 rfl (lv_at hl 3 rfl) ?_
    refine lv_aload_n hx hb d_Sh_firstOfRow_8 rfl (lv_at hl 0 rfl) ?_
    refine va_get (D := G.1) (ci := 9) (v := .int (gI o0 8)) (C := R_Sh) (T := T_Sh) (N := 12) hx hb hts i_Sh hown hK hP 0 rfl rfl 8 (by decide) (hts _ wf_Sh_69) (fun _ h9 => h9) rfl d_Sh_firstOfRow_9 ?_
    refine lv_icmp_ge (tgt := 40) hx hb d_Sh_firstOfRow_12 (by decide) (fun c1 => ?_) (fun c1 => ?_)
    · have h := h.1 c1
      refine lv_iload_n hx hb d_Sh_firstOfRow_40 rfl (lv_at hl 1 rfl) ?_
      have hP : va_P G.1 CL (cw_Sh G h0 q0 r0 o0) H := hP
      have hD : va_D A (cw_Sh G h0 q0 r0 o0) := hD
      exact W.iret (v := x1) hx hb hr (fun t ht hW => ⟨⟨x1, (), rfl, h, by rw [ht]; exact hP, va_K.moved hW.alike hK, hD⟩, hS.F ht⟩) hS.2.2 d_Sh_firstOfRow_41
    · have h := h.2 c1
      refine lv_aload_n hx hb d_Sh_firstOfRow_15 rfl (lv_at hl 0 rfl) ?_
      refine va_get (D := G.1) (ci := 9) (v := .ref (r0 11)) (C := R_Sh) (T := T_Sh) (N := 12) hx hb hts i_Sh hown hK hP 0 rfl rfl 11 (by decide) (hts _ wf_Sh_37) (fun _ h9 => h9) rfl d_Sh_firstOfRow_16 ?_
      refine lv_iload_n hx hb d_Sh_firstOfRow_19 rfl (lv_at hl 3 rfl) ?_
      have g2 := h.1
      have h := h.2
      refine xa_iald hx hb hK hP 9 0 rfl rfl g2 (k := x3.toNatClampNeg) rfl d_Sh_firstOfRow_20 ?_
      refine lv_iload_n hx hb d_Sh_firstOfRow_21 rfl (lv_at hl 2 rfl) ?_
      refine lv_icmp_ge (tgt := 34) hx hb d_Sh_firstOfRow_22 (by decide) (fun c3 => ?_) (fun c3 => ?_)
      · have h := h.1 c3
        refine lv_iinc (v := (x3 + (1 : Int32))) (lv' := [(3, .int (x3 + (1 : Int32))), (0, .ref h0), (1, .int x1), (2, .int x2)]) hx hb d_Sh_firstOfRow_34 hl (k := 3) rfl rfl (by decide) rfl (fun ls hl => ?_)
        refine lv_goto (tgt := 7) hx hb d_Sh_firstOfRow_37 (by decide) ?_
        have hl := lv_sub (l' := [(0, .ref h0), (1, .int x1), (2, .int x2), (3, .int (x3 + (1 : Int32)))]) hl [1, 2, 3, 0] rfl
        have hP : va_P G.1 CL (cw_Sh G h0 q0 r0 o0) H := hP
        have hD : va_D A (cw_Sh G h0 q0 r0 o0) := hD
        exact ih x1 x2 (x3 + (1 : Int32)) ls H locs hl hP hD hS h
      · have h := h.2 c3
        refine lv_aload_n hx hb d_Sh_firstOfRow_25 rfl (lv_at hl 0 rfl) ?_
        refine va_get (D := G.1) (ci := 9) (v := .ref (r0 11)) (C := R_Sh) (T := T_Sh) (N := 12) hx hb hts i_Sh hown hK hP 0 rfl rfl 11 (by decide) (hts _ wf_Sh_37) (fun _ h9 => h9) rfl d_Sh_firstOfRow_26 ?_
        refine lv_iload_n hx hb d_Sh_firstOfRow_29 rfl (lv_at hl 3 rfl) ?_
        have g4 := h.1
        have h := h.2
        refine xa_iald hx hb hK hP 9 0 rfl rfl g4 (k := x3.toNatClampNeg) rfl d_Sh_firstOfRow_30 ?_
        refine lv_istore_n (lv' := [(2, .int ((gA o0 11) x3.toNatClampNeg)), (0, .ref h0), (1, .int x1), (3, .int x3)]) hx hb d_Sh_firstOfRow_31 rfl hl (by decide) rfl (fun ls hl => ?_)
        refine lv_iload_n hx hb d_Sh_firstOfRow_32 rfl (lv_at hl 3 rfl) ?_
        refine lv_istore_n (lv' := [(1, .int x3), (2, .int ((gA o0 11) x3.toNatClampNeg)), (0, .ref h0), (3, .int x3)]) hx hb d_Sh_firstOfRow_33 rfl hl (by decide) rfl (fun ls hl => ?_)
        refine lv_iinc (v := (x3 + (1 : Int32))) (lv' := [(3, .int (x3 + (1 : Int32))), (1, .int x3), (2, .int ((gA o0 11) x3.toNatClampNeg)), (0, .ref h0)]) hx hb d_Sh_firstOfRow_34 hl (k := 3) rfl rfl (by decide) rfl (fun ls hl => ?_)
        refine lv_goto (tgt := 7) hx hb d_Sh_firstOfRow_37 (by decide) ?_
        have hl := lv_sub (l' := [(0, .ref h0), (1, .int x3), (2, .int ((gA o0 11) x3.toNatClampNeg)), (3, .int (x3 + (1 : Int32)))]) hl [3, 1, 2, 0] rfl
        have hP : va_P G.1 CL (cw_Sh G h0 q0 r0 o0) H := hP
        have hD : va_D A (cw_Sh G h0 q0 r0 o0) := hD
        exact ih x3 ((gA o0 11) x3.toNatClampNeg) (x3 + (1 : Int32)) ls H locs hl hP hD hS h
set_option maxHeartbeats 4000000 in
set_option maxRecDepth 100000 in
theorem c_Sh_firstOfRow {l : Launch} {G : Gl} {h0 : Nat} {q0 : Nat → Nat} {r0 : (Nat → Nat)} {o0 : Ob} {Q : Int32 → Prop} (sz : Nat) (h : f_Sh_firstOfRow r0 o0 Q) : Met l y_Sh_firstOfRow w_Sh_firstOfRow rm_Sh_firstOfRow (PcW G [.ref h0] sz (cw_Sh G h0 q0 r0 o0)) (va_Qi (fun (r : Int32) (u : Unit) => Q r) (fun (u : Unit) t => BW G (va_A (cw_Sh G h0 q0 r0 o0) sz) (cw_Sh G h0 q0 r0 o0) t) (va_A (cw_Sh G h0 q0 r0 o0) sz)) 0 0 (va_A (cw_Sh G h0 q0 r0 o0) sz) := by
  refine Met.ofW (cc := b_Sh_firstOfRow) (maxL := 4) (ret := (some .int)) (by decide +kernel) rfl ?_
  intro p e s m args below meth c s₁ B hml hv
  obtain ⟨rfl, hsz, hP, hK, hD0, hE⟩ := hv
  have hx := B.exec
  have hb := B.bytes
  have hr := B.returns
  have hts0 := atoms_spec (ws := w_Sh_firstOfRow) B.pre
  have hts : ∀ w ∈ gw_tbl, w.before ([.ref h0]).toArray s = true := fun w hw => hts0 w (List.mem_cons_of_mem _ hw)
  have hown : s.vm.findClass R_Sh = some m.cls := findClass_of_methodNamed B.named
  have hlocks := B.notSynchronized
  subst hsz
  have hD := hD0.self (sz := s.heap.size)
  generalize hAe : va_A (cw_Sh G h0 q0 r0 o0) s.heap.size = A at hD hE ⊢
  have hA : ∀ q : Nat, s.heap.size ≤ q → A q := fun q h => by rw [← hAe]; exact Or.inr h
  have hS : va_S A s.heap s.heap [] := va_S.rf
  have C : Cx p s m ([.ref h0]).toArray meth c R_Sh b_Sh_firstOfRow 4 (some .int) G A := ⟨hx, hb, hml, hown, hr, hts, hK, hA, hlocks, hE⟩
  have hl := lv_entry ([.ref h0]) (n := 4) (Nat.le_of_ble_eq_true rfl)
  rw [lg_entry_eq]
  generalize (lg_sl ([.ref h0]) ++ List.replicate (4 - (lg_sl ([.ref h0])).length) Slot.unset).toArray = ls at hl ⊢
  have hl : lv_has ls 4 [(0, .ref h0)] := hl
  have hD : va_D A [(h0, .inr (9, [.int (gI o0 0), .ref (q0 1), .ref (q0 2), .ref (q0 3), .ref (q0 4), .ref (q0 5), .ref (q0 6), .ref (q0 7), .int (gI o0 8), .ref (r0 9), .int (gI o0 10), .ref (r0 11)])), kI G (q0 1) 5 (gA o0 1), kI G (q0 2) 20 (gA o0 2), kI G (q0 3) 5 (gA o0 3), kI G (q0 4) 5 (gA o0 4), kI G (q0 5) 5 (gA o0 5), kI G (q0 6) 5 (gA o0 6), kI G (q0 7) 5 (gA o0 7), kB G (r0 9) (r0 109) (gA o0 9), kI G (r0 11) (r0 111) (gA o0 11)] := hD
  unfold f_Sh_firstOfRow at h
  suffices key : ∀ (H : Heap) (locs : List Loc), va_P G.1 CL [(h0, .inr (9, [.int (gI o0 0), .ref (q0 1), .ref (q0 2), .ref (q0 3), .ref (q0 4), .ref (q0 5), .ref (q0 6), .ref (q0 7), .int (gI o0 8), .ref (r0 9), .int (gI o0 10), .ref (r0 11)])), kI G (q0 1) 5 (gA o0 1), kI G (q0 2) 20 (gA o0 2), kI G (q0 3) 5 (gA o0 3), kI G (q0 4) 5 (gA o0 4), kI G (q0 5) 5 (gA o0 5), kI G (q0 6) 5 (gA o0 6), kI G (q0 7) 5 (gA o0 7), kB G (r0 9) (r0 109) (gA o0 9), kI G (r0 11) (r0 111) (gA o0 11)] H → va_S A s.heap H locs → W p l e rm_Sh_firstOfRow s m ([.ref h0]).toArray below meth c H locs 0 0 (MQ below (va_Qi (fun (r : Int32) (u : Unit) => Q r) (fun (u : Unit) t => BW G A (cw_Sh G h0 q0 r0 o0) t) A) ([.ref h0]).toArray s 0 0 A) (F0 m 0 ls []) from key s.heap [] hP hS
  intro H locs hP hS
  refine lv_iconst (v := (-1 : Int32)) hx hb d_Sh_firstOfRow_0 (by decide) ?_
  refine lv_istore_n (lv' := [(1, .int (-1 : Int32)), (0, .ref h0)]) hx hb d_Sh_firstOfRow_1 rfl hl (by decide) rfl (fun ls hl => ?_)
  refine lv_ldc hx hb hown (hts _ wc_Sh_90) d_Sh_firstOfRow_2 ?_
  refine lv_istore_n (lv' := [(2, .int (1000000 : Int32)), (1, .int (-1 : Int32)), (0, .ref h0)]) hx hb d_Sh_firstOfRow_4 rfl hl (by decide) rfl (fun ls hl => ?_)
  refine lv_iconst (v := (0 : Int32)) hx hb d_Sh_firstOfRow_5 (by decide) ?_
  refine lv_istore_n (lv' := [(3, .int (0 : Int32)), (2, .int (1000000 : Int32)), (1, .int (-1 : Int32)), (0, .ref h0)]) hx hb d_Sh_firstOfRow_6 rfl hl (by decide) rfl (fun ls hl => ?_)
  have hl := lv_sub (l' := [(0, .ref h0), (1, .int (-1 : Int32)), (2, .int (1000000 : Int32)), (3, .int (0 : Int32))]) hl [3, 2, 1, 0] rfl
  have hP : va_P G.1 CL (cw_Sh G h0 q0 r0 o0) H := hP
  have hD : va_D A (cw_Sh G h0 q0 r0 o0) := hD
  obtain ⟨w, h⟩ := h
  exact t_Sh_firstOfRow_7 r0 o0 Q C w (-1 : Int32) (1000000 : Int32) (0 : Int32) ls _ locs hl hP hD hS h
abbrev b_Sh_sumOfRow : ByteArray := prog_10_method_16_code
def y_Sh_sumOfRow : MethodName := ⟨R_Sh, "sumOfRow", "(I)I"⟩
abbrev w_Sh_sumOfRow : List Cond := Cond.code y_Sh_sumOfRow b_Sh_sumOfRow 2 (some .int) :: gw_tbl
theorem d_Sh_sumOfRow_0 : decode b_Sh_sumOfRow 0 = .ok (.aload_n 0, 1) := by decide +kernel
theorem d_Sh_sumOfRow_1 : decode b_Sh_sumOfRow 1 = .ok (.getfield 37, 3) := by decide +kernel
theorem d_Sh_sumOfRow_4 : decode b_Sh_sumOfRow 4 = .ok (.iload_n 1, 1) := by decide +kernel
theorem d_Sh_sumOfRow_5 : decode b_Sh_sumOfRow 5 = .ok (.iaload, 1) := by decide +kernel
theorem d_Sh_sumOfRow_6 : decode b_Sh_sumOfRow 6 = .ok (.ireturn, 1) := by decide +kernel
def f_Sh_sumOfRow (a0 : Int32) (r0 : (Nat → Nat)) (o0 : Ob) (Q : Int32 → Prop) : Prop := (vp_in a0 (r0 111)) ∧ (Q ((gA o0 11) a0.toNatClampNeg))
abbrev rm_Sh_sumOfRow : Room := { frames := 0, cells := 0, slots := 0, locals := 0 }
set_option maxHeartbeats 4000000 in
set_option maxRecDepth 100000 in
theorem c_Sh_sumOfRow {l : Launch} {G : Gl} {h0 : Nat} {q0 : Nat → Nat} {a0 : Int32} {r0 : (Nat → Nat)} {o0 : Ob} {Q : Int32 → Prop} (sz : Nat) (h : f_Sh_sumOfRow a0 r0 o0 Q) : Met l y_Sh_sumOfRow w_Sh_sumOfRow rm_Sh_sumOfRow (PcW G [.ref h0, .int a0] sz (cw_Sh G h0 q0 r0 o0)) (va_Qi (fun (r : Int32) (u : Unit) => Q r) (fun (u : Unit) t => BW G (va_A (cw_Sh G h0 q0 r0 o0) sz) (cw_Sh G h0 q0 r0 o0) t) (va_A (cw_Sh G h0 q0 r0 o0) sz)) 0 0 (va_A (cw_Sh G h0 q0 r0 o0) sz) := by
  refine Met.ofW (cc := b_Sh_sumOfRow) (maxL := 2) (ret := (some .int)) (by decide +kernel) rfl ?_
  intro p e s m args below meth c s₁ B hml hv
  obtain ⟨rfl, hsz, hP, hK, hD0, hE⟩ := hv
  have hx := B.exec
  have hb := B.bytes
  have hr := B.returns
  have hts0 := atoms_spec (ws := w_Sh_sumOfRow) B.pre
  have hts : ∀ w ∈ gw_tbl, w.before ([.ref h0, .int a0]).toArray s = true := fun w hw => hts0 w (List.mem_cons_of_mem _ hw)
  have hown : s.vm.findClass R_Sh = some m.cls := findClass_of_methodNamed B.named
  have hlocks := B.notSynchronized
  subst hsz
  have hD := hD0.self (sz := s.heap.size)
  generalize hAe : va_A (cw_Sh G h0 q0 r0 o0) s.heap.size = A at hD hE ⊢
  have hA : ∀ q : Nat, s.heap.size ≤ q → A q := fun q h => by rw [← hAe]; exact Or.inr h
  have hS : va_S A s.heap s.heap [] := va_S.rf
  have C : Cx p s m ([.ref h0, .int a0]).toArray meth c R_Sh b_Sh_sumOfRow 2 (some .int) G A := ⟨hx, hb, hml, hown, hr, hts, hK, hA, hlocks, hE⟩
  have hl := lv_entry ([.ref h0, .int a0]) (n := 2) (Nat.le_of_ble_eq_true rfl)
  rw [lg_entry_eq]
  generalize (lg_sl ([.ref h0, .int a0]) ++ List.replicate (2 - (lg_sl ([.ref h0, .int a0])).length) Slot.unset).toArray = ls at hl ⊢
  have hl : lv_has ls 2 [(0, .ref h0), (1, .int a0)] := hl
  have hD : va_D A [(h0, .inr (9, [.int (gI o0 0), .ref (q0 1), .ref (q0 2), .ref (q0 3), .ref (q0 4), .ref (q0 5), .ref (q0 6), .ref (q0 7), .int (gI o0 8), .ref (r0 9), .int (gI o0 10), .ref (r0 11)])), kI G (q0 1) 5 (gA o0 1), kI G (q0 2) 20 (gA o0 2), kI G (q0 3) 5 (gA o0 3), kI G (q0 4) 5 (gA o0 4), kI G (q0 5) 5 (gA o0 5), kI G (q0 6) 5 (gA o0 6), kI G (q0 7) 5 (gA o0 7), kB G (r0 9) (r0 109) (gA o0 9), kI G (r0 11) (r0 111) (gA o0 11)] := hD
  unfold f_Sh_sumOfRow at h
  suffices key : ∀ (H : Heap) (locs : List Loc), va_P G.1 CL [(h0, .inr (9, [.int (gI o0 0), .ref (q0 1), .ref (q0 2), .ref (q0 3), .ref (q0 4), .ref (q0 5), .ref (q0 6), .ref (q0 7), .int (gI o0 8), .ref (r0 9), .int (gI o0 10), .ref (r0 11)])), kI G (q0 1) 5 (gA o0 1), kI G (q0 2) 20 (gA o0 2), kI G (q0 3) 5 (gA o0 3), kI G (q0 4) 5 (gA o0 4), kI G (q0 5) 5 (gA o0 5), kI G (q0 6) 5 (gA o0 6), kI G (q0 7) 5 (gA o0 7), kB G (r0 9) (r0 109) (gA o0 9), kI G (r0 11) (r0 111) (gA o0 11)] H → va_S A s.heap H locs → W p l e rm_Sh_sumOfRow s m ([.ref h0, .int a0]).toArray below meth c H locs 0 0 (MQ below (va_Qi (fun (r : Int32) (u : Unit) => Q r) (fun (u : Unit) t => BW G A (cw_Sh G h0 q0 r0 o0) t) A) ([.ref h0, .int a0]).toArray s 0 0 A) (F0 m 0 ls []) from key s.heap [] hP hS
  intro H locs hP hS
  refine lv_aload_n hx hb d_Sh_sumOfRow_0 rfl (lv_at hl 0 rfl) ?_
  refine va_get (D := G.1) (ci := 9) (v := .ref (r0 11)) (C := R_Sh) (T := T_Sh) (N := 12) hx hb hts i_Sh hown hK hP 0 rfl rfl 11 (by decide) (hts _ wf_Sh_37) (fun _ h9 => h9) rfl d_Sh_sumOfRow_1 ?_
  refine lv_iload_n hx hb d_Sh_sumOfRow_4 rfl (lv_at hl 1 rfl) ?_
  have g1 := h.1
  have h := h.2
  refine xa_iald hx hb hK hP 9 0 rfl rfl g1 (k := a0.toNatClampNeg) rfl d_Sh_sumOfRow_5 ?_
  have hP : va_P G.1 CL (cw_Sh G h0 q0 r0 o0) H := hP
  have hD : va_D A (cw_Sh G h0 q0 r0 o0) := hD
  exact W.iret (v := ((gA o0 11) a0.toNatClampNeg)) hx hb hr (fun t ht hW => ⟨⟨((gA o0 11) a0.toNatClampNeg), (), rfl, h, by rw [ht]; exact hP, va_K.moved hW.alike hK, hD⟩, hS.F ht⟩) hS.2.2 d_Sh_sumOfRow_6
abbrev b_Sh_firstOnTheWay : ByteArray := prog_10_method_18_code
def y_Sh_firstOnTheWay : MethodName := ⟨R_Sh, "firstOnTheWay", "(II)I"⟩
abbrev w_Sh_firstOnTheWay : List Cond := Cond.code y_Sh_firstOnTheWay b_Sh_firstOnTheWay 4 (some .int) :: gw_tbl
theorem d_Sh_firstOnTheWay_0 : decode b_Sh_firstOnTheWay 0 = .ok (.iconst 0, 1) := by decide +kernel
theorem d_Sh_firstOnTheWay_1 : decode b_Sh_firstOnTheWay 1 = .ok (.istore_n 3, 1) := by decide +kernel
theorem d_Sh_firstOnTheWay_2 : decode b_Sh_firstOnTheWay 2 = .ok (.iload_n 3, 1) := by decide +kernel
theorem d_Sh_firstOnTheWay_3 : decode b_Sh_firstOnTheWay 3 = .ok (.aload_n 0, 1) := by decide +kernel
theorem d_Sh_firstOnTheWay_4 : decode b_Sh_firstOnTheWay 4 = .ok (.getfield 69, 3) := by decide +kernel
theorem d_Sh_firstOnTheWay_7 : decode b_Sh_firstOnTheWay 7 = .ok (.if_icmp .ge 46, 3) := by decide +kernel
theorem d_Sh_firstOnTheWay_10 : decode b_Sh_firstOnTheWay 10 = .ok (.aload_n 0, 1) := by decide +kernel
theorem d_Sh_firstOnTheWay_11 : decode b_Sh_firstOnTheWay 11 = .ok (.getfield 37, 3) := by decide +kernel
theorem d_Sh_firstOnTheWay_14 : decode b_Sh_firstOnTheWay 14 = .ok (.iload_n 1, 1) := by decide +kernel
theorem d_Sh_firstOnTheWay_15 : decode b_Sh_firstOnTheWay 15 = .ok (.iload_n 3, 1) := by decide +kernel
theorem d_Sh_firstOnTheWay_16 : decode b_Sh_firstOnTheWay 16 = .ok (.iadd, 1) := by decide +kernel
theorem d_Sh_firstOnTheWay_17 : decode b_Sh_firstOnTheWay 17 = .ok (.iaload, 1) := by decide +kernel
theorem d_Sh_firstOnTheWay_18 : decode b_Sh_firstOnTheWay 18 = .ok (.ldc 90, 2) := by decide +kernel
theorem d_Sh_firstOnTheWay_20 : decode b_Sh_firstOnTheWay 20 = .ok (.if_icmp .ge 27, 3) := by decide +kernel
theorem d_Sh_firstOnTheWay_23 : decode b_Sh_firstOnTheWay 23 = .ok (.aload_n 0, 1) := by decide +kernel
theorem d_Sh_firstOnTheWay_24 : decode b_Sh_firstOnTheWay 24 = .ok (.getfield 37, 3) := by decide +kernel
theorem d_Sh_firstOnTheWay_27 : decode b_Sh_firstOnTheWay 27 = .ok (.iload_n 1, 1) := by decide +kernel
theorem d_Sh_firstOnTheWay_28 : decode b_Sh_firstOnTheWay 28 = .ok (.iload_n 3, 1) := by decide +kernel
theorem d_Sh_firstOnTheWay_29 : decode b_Sh_firstOnTheWay 29 = .ok (.iadd, 1) := by decide +kernel
theorem d_Sh_firstOnTheWay_30 : decode b_Sh_firstOnTheWay 30 = .ok (.iaload, 1) := by decide +kernel
theorem d_Sh_firstOnTheWay_31 : decode b_Sh_firstOnTheWay 31 = .ok (.aload_n 0, 1) := by decide +kernel
theorem d_Sh_firstOnTheWay_32 : decode b_Sh_firstOnTheWay 32 = .ok (.iload_n 3, 1) := by decide +kernel
theorem d_Sh_firstOnTheWay_33 : decode b_Sh_firstOnTheWay 33 = .ok (.aload_n 0, 1) := by decide +kernel
theorem d_Sh_firstOnTheWay_34 : decode b_Sh_firstOnTheWay 34 = .ok (.getfield 24, 3) := by decide +kernel
theorem d_Sh_firstOnTheWay_37 : decode b_Sh_firstOnTheWay 37 = .ok (.invokevirtual 91, 3) := by decide +kernel
theorem d_Sh_firstOnTheWay_40 : decode b_Sh_firstOnTheWay 40 = .ok (.iadd, 1) := by decide +kernel
theorem d_Sh_firstOnTheWay_41 : decode b_Sh_firstOnTheWay 41 = .ok (.iload_n 2, 1) := by decide +kernel
theorem d_Sh_firstOnTheWay_42 : decode b_Sh_firstOnTheWay 42 = .ok (.if_icmp .ne 5, 3) := by decide +kernel
theorem d_Sh_firstOnTheWay_45 : decode b_Sh_firstOnTheWay 45 = .ok (.iload_n 3, 1) := by decide +kernel
theorem d_Sh_firstOnTheWay_46 : decode b_Sh_firstOnTheWay 46 = .ok (.ireturn, 1) := by decide +kernel
theorem d_Sh_firstOnTheWay_47 : decode b_Sh_firstOnTheWay 47 = .ok (.iinc 3 1, 3) := by decide +kernel
theorem d_Sh_firstOnTheWay_50 : decode b_Sh_firstOnTheWay 50 = .ok (.goto (-48), 3) := by decide +kernel
theorem d_Sh_firstOnTheWay_53 : decode b_Sh_firstOnTheWay 53 = .ok (.iconst 0, 1) := by decide +kernel
theorem d_Sh_firstOnTheWay_54 : decode b_Sh_firstOnTheWay 54 = .ok (.ireturn, 1) := by decide +kernel
theorem wf_Sh_24 : Cond.fieldLink R_Sh 24 R_Sh "widths" "[I" ∈ gw_tbl := gw_tb (List.mem_of_getElem? (i := 406) (by decide +kernel)) rfl
def f_Sh_firstOnTheWay_2 (r0 : (Nat → Nat)) (o0 : Ob) (Q : Int32 → Prop) : Nat → Int32 → Int32 → Int32 → Prop
  | 0, _, _, _ => False
  | n + 1, x1, x2, x3 => ((gI o0 8) ≤ x3 → (Q (0 : Int32))) ∧ (¬ (gI o0 8) ≤ x3 → ((vp_in (x1 + x3) (r0 111)) ∧ (((1000000 : Int32) ≤ ((gA o0 11) ((x1 + x3).toNatClampNeg)) → ((f_Sh_firstOnTheWay_2 r0 o0 Q n) x1 x2 (x3 + (1 : Int32)))) ∧ (¬ (1000000 : Int32) ≤ ((gA o0 11) ((x1 + x3).toNatClampNeg)) → ((vp_in (x1 + x3) (r0 111)) ∧ (f_Sh_distanceOwn x3 r0 o0 (fun z5 => ((((gA o0 11) ((x1 + x3).toNatClampNeg)) + z5) = x2 → (Q x3)) ∧ (¬ (((gA o0 11) ((x1 + x3).toNatClampNeg)) + z5) = x2 → ((f_Sh_firstOnTheWay_2 r0 o0 Q n) x1 x2 (x3 + (1 : Int32)))))))))))
def f_Sh_firstOnTheWay (a0 : Int32) (a1 : Int32) (r0 : (Nat → Nat)) (o0 : Ob) (Q : Int32 → Prop) : Prop := (∃ w, f_Sh_firstOnTheWay_2 r0 o0 Q w a0 a1 (0 : Int32))
abbrev rm_Sh_firstOnTheWay : Room := { frames := 2, cells := 0, slots := 0, locals := 54 }
set_option maxHeartbeats 4000000 in
set_option maxRecDepth 100000 in
theorem t_Sh_firstOnTheWay_2 {p : Program} {l : Launch} {e : Env} {s : State} {m : MethodId} {args : Array Value} {below : List Frame} {meth : Method} {c : Code} {A : Nat → Prop} {G : Gl} {h0 : Nat} {q0 : Nat → Nat} (r0 : (Nat → Nat)) (o0 : Ob) (Q : Int32 → Prop) (C : Cx p s m args meth c R_Sh b_Sh_firstOnTheWay 4 (some .int) G A) :
    ∀ (n : Nat) (x1 : Int32) (x2 : Int32) (x3 : Int32) (ls : Array Slot) (H : Heap) (locs : List Loc), lv_has ls 4 [(0, .ref h0), (1, .int x1), (2, .int x2), (3, .int x3)] → va_P G.1 CL (cw_Sh G h0 q0 r0 o0) H → va_D A (cw_Sh G h0 q0 r0 o0) → va_S A s.heap H locs → f_Sh_firstOnTheWay_2 r0 o0 Q n x1 x2 x3 → W p l e rm_Sh_firstOnTheWay s m args below meth c H locs 0 0 (MQ below (va_Qi (fun (r : Int32) (u : Unit) => Q r) (fun (u : Unit) t => BW G A (cw_Sh G h0 q0 r0 o0) t) A) args s 0 0 A) (F0 m 2 ls []) := by
  obtain ⟨hx, hb, hml, hown, hr, hts, hK, hA, hlocks, hE⟩ := id C
  intro n
  induction n with
  | zero => intro x1 x2 x3 ls H locs hl hP hD hS h; exact absurd h id
  | succ n ih =>
    intro x1 x2 x3 ls H locs hl hP hD hS h
    have hP : va_P G.1 CL [(h0, .inr (9, [.int (gI o0 0), .ref (q0 1), .ref (q0 2), .ref (q0 3), .ref (q0 4), .ref (q0 5), .ref (q0 6), .ref (q0 7), .int (gI o0 8), .ref (r0 9), .int (gI o0 10), .ref (r0 11)])), kI G (q0 1) 5 (gA o0 1), kI G (q0 2) 20 (gA o0 2), kI G (q0 3) 5 (gA o0 3), kI G (q0 4) 5 (gA o0 4), kI G (q0 5) 5 (gA o0 5), kI G (q0 6) 5 (gA o0 6), kI G (q0 7) 5 (gA o0 7), kB G (r0 9) (r0 109) (gA o0 9), kI G (r0 11) (r0 111) (gA o0 11)] H := hP
    have hD : va_D A [(h0, .inr (9, [.int (gI o0 0), .ref (q0 1), .ref (q0 2), .ref (q0 3), .ref (q0 4), .ref (q0 5), .ref (q0 6), .ref (q0 7), .int (gI o0 8), .ref (r0 9), .int (gI o0 10), .ref (r0 11)])), kI G (q0 1) 5 (gA o0 1), kI G (q0 2) 20 (gA o0 2), kI G (q0 3) 5 (gA o0 3), kI G (q0 4) 5 (gA o0 4), kI G (q0 5) 5 (gA o0 5), kI G (q0 6) 5 (gA o0 6), kI G (q0 7) 5 (gA o0 7), kB G (r0 9) (r0 109) (gA o0 9), kI G (r0 11) (r0 111) (gA o0 11)] := hD
    unfold f_Sh_firstOnTheWay_2 at h
    refine lv_iload_n hx hb d_Sh_firstOnTheWay_2 rfl (lv_at hl 3 rfl) ?_
    refine lv_aload_n hx hb d_Sh_firstOnTheWay_3 rfl (lv_at hl 0 rfl) ?_
    refine va_get (D := G.1) (ci := 9) (v := .int (gI o0 8)) (C := R_Sh) (T := T_Sh) (N := 12) hx hb hts i_Sh hown hK hP 0 rfl rfl 8 (by decide) (hts _ wf_Sh_69) (fun _ h9 => h9) rfl d_Sh_firstOnTheWay_4 ?_
    refine lv_icmp_ge (tgt := 53) hx hb d_Sh_firstOnTheWay_7 (by decide) (fun c1 => ?_) (fun c1 => ?_)
    · have h := h.1 c1
      refine lv_iconst (v := (0 : Int32)) hx hb d_Sh_firstOnTheWay_53 (by decide) ?_
      have hP : va_P G.1 CL (cw_Sh G h0 q0 r0 o0) H := hP
      have hD : va_D A (cw_Sh G h0 q0 r0 o0) := hD
      exact W.iret (v := (0 : Int32)) hx hb hr (fun t ht hW => ⟨⟨(0 : Int32), (), rfl, h, by rw [ht]; exact hP, va_K.moved hW.alike hK, hD⟩, hS.F ht⟩) hS.2.2 d_Sh_firstOnTheWay_54
    · have h := h.2 c1
      refine lv_aload_n hx hb d_Sh_firstOnTheWay_10 rfl (lv_at hl 0 rfl) ?_
      refine va_get (D := G.1) (ci := 9) (v := .ref (r0 11)) (C := R_Sh) (T := T_Sh) (N := 12) hx hb hts i_Sh hown hK hP 0 rfl rfl 11 (by decide) (hts _ wf_Sh_37) (fun _ h9 => h9) rfl d_Sh_firstOnTheWay_11 ?_
      refine lv_iload_n hx hb d_Sh_firstOnTheWay_14 rfl (lv_at hl 1 rfl) ?_
      refine lv_iload_n hx hb d_Sh_firstOnTheWay_15 rfl (lv_at hl 3 rfl) ?_
      refine lv_iadd hx hb d_Sh_firstOnTheWay_16 ?_
      have g2 := h.1
      have h := h.2
      refine xa_iald hx hb hK hP 9 0 rfl rfl g2 (k := (x1 + x3).toNatClampNeg) rfl d_Sh_firstOnTheWay_17 ?_
      refine lv_ldc hx hb hown (hts _ wc_Sh_90) d_Sh_firstOnTheWay_18 ?_
      refine lv_icmp_ge (tgt := 47) hx hb d_Sh_firstOnTheWay_20 (by decide) (fun c3 => ?_) (fun c3 => ?_)
      · have h := h.1 c3
        refine lv_iinc (v := (x3 + (1 : Int32))) (lv' := [(3, .int (x3 + (1 : Int32))), (0, .ref h0), (1, .int x1), (2, .int x2)]) hx hb d_Sh_firstOnTheWay_47 hl (k := 3) rfl rfl (by decide) rfl (fun ls hl => ?_)
        refine lv_goto (tgt := 2) hx hb d_Sh_firstOnTheWay_50 (by decide) ?_
        have hl := lv_sub (l' := [(0, .ref h0), (1, .int x1), (2, .int x2), (3, .int (x3 + (1 : Int32)))]) hl [1, 2, 3, 0] rfl
        have hP : va_P G.1 CL (cw_Sh G h0 q0 r0 o0) H := hP
        have hD : va_D A (cw_Sh G h0 q0 r0 o0) := hD
        exact ih x1 x2 (x3 + (1 : Int32)) ls H locs hl hP hD hS h
      · have h := h.2 c3
        refine lv_aload_n hx hb d_Sh_firstOnTheWay_23 rfl (lv_at hl 0 rfl) ?_
        refine va_get (D := G.1) (ci := 9) (v := .ref (r0 11)) (C := R_Sh) (T := T_Sh) (N := 12) hx hb hts i_Sh hown hK hP 0 rfl rfl 11 (by decide) (hts _ wf_Sh_37) (fun _ h9 => h9) rfl d_Sh_firstOnTheWay_24 ?_
        refine lv_iload_n hx hb d_Sh_firstOnTheWay_27 rfl (lv_at hl 1 rfl) ?_
        refine lv_iload_n hx hb d_Sh_firstOnTheWay_28 rfl (lv_at hl 3 rfl) ?_
        refine lv_iadd hx hb d_Sh_firstOnTheWay_29 ?_
        have g4 := h.1
        have h := h.2
        refine xa_iald hx hb hK hP 9 0 rfl rfl g4 (k := (x1 + x3).toNatClampNeg) rfl d_Sh_firstOnTheWay_30 ?_
        refine lv_aload_n hx hb d_Sh_firstOnTheWay_31 rfl (lv_at hl 0 rfl) ?_
        refine lv_iload_n hx hb d_Sh_firstOnTheWay_32 rfl (lv_at hl 3 rfl) ?_
        refine lv_aload_n hx hb d_Sh_firstOnTheWay_33 rfl (lv_at hl 0 rfl) ?_
        refine va_get (D := G.1) (ci := 9) (v := .ref (q0 5)) (C := R_Sh) (T := T_Sh) (N := 12) hx hb hts i_Sh hown hK hP 0 rfl rfl 5 (by decide) (hts _ wf_Sh_24) (fun _ h9 => h9) rfl d_Sh_firstOnTheWay_34 ?_
        refine cl_Vi (b := b_Sh_firstOnTheWay) (As := [.int x3, .ref (q0 5)]) (rest := [.int ((gA o0 11) ((x1 + x3).toNatClampNeg))]) (ws := [(h0, .inr (9, [.int (gI o0 0), .ref (q0 1), .ref (q0 2), .ref (q0 3), .ref (q0 4), .ref (q0 5), .ref (q0 6), .ref (q0 7), .int (gI o0 8), .ref (r0 9), .int (gI o0 10), .ref (r0 11)])), kI G (q0 1) 5 (gA o0 1), kI G (q0 2) 20 (gA o0 2), kI G (q0 3) 5 (gA o0 3), kI G (q0 4) 5 (gA o0 4), kI G (q0 5) 5 (gA o0 5), kI G (q0 6) 5 (gA o0 6), kI G (q0 7) 5 (gA o0 7), kB G (r0 9) (r0 109) (gA o0 9), kI G (r0 11) (r0 111) (gA o0 11)]) (wr := []) (w2 := fun (u : Unit) => [(h0, .inr (9, [.int (gI o0 0), .ref (q0 1), .ref (q0 2), .ref (q0 3), .ref (q0 4), .ref (q0 5), .ref (q0 6), .ref (q0 7), .int (gI o0 8), .ref (r0 9), .int (gI o0 10), .ref (r0 11)])), kI G (q0 1) 5 (gA o0 1), kI G (q0 2) 20 (gA o0 2), kI G (q0 3) 5 (gA o0 3), kI G (q0 4) 5 (gA o0 4), kI G (q0 5) 5 (gA o0 5), kI G (q0 6) 5 (gA o0 6), kI G (q0 7) 5 (gA o0 7), kB G (r0 9) (r0 109) (gA o0 9), kI G (r0 11) (r0 111) (gA o0 11)]) C (c_Sh_distanceOwn (h0 := h0) (q0 := q0) H.size h) wv_Sh_91 ⟨Nat.le_of_ble_eq_true rfl, Nat.le_of_ble_eq_true rfl⟩ hP hD hS 0 rfl rfl [0, 1, 2, 3, 4, 5, 6, 7, 8, 9] [] rfl rfl (by decide) (by decide) (by decide) [0, 1, 2, 3, 4, 5, 6, 7, 8, 9] (by decide) (fun u => rfl) rfl hl.1 rfl (lv_room (Nat.le_of_ble_eq_true rfl)) d_Sh_firstOnTheWay_37 ⟨Nat.le_of_ble_eq_true rfl, Nat.le_of_ble_eq_true rfl⟩ rfl rfl (fun z5 u H locs h hP hD hS => ?_)
        have hP : va_P G.1 CL [(h0, .inr (9, [.int (gI o0 0), .ref (q0 1), .ref (q0 2), .ref (q0 3), .ref (q0 4), .ref (q0 5), .ref (q0 6), .ref (q0 7), .int (gI o0 8), .ref (r0 9), .int (gI o0 10), .ref (r0 11)])), kI G (q0 1) 5 (gA o0 1), kI G (q0 2) 20 (gA o0 2), kI G (q0 3) 5 (gA o0 3), kI G (q0 4) 5 (gA o0 4), kI G (q0 5) 5 (gA o0 5), kI G (q0 6) 5 (gA o0 6), kI G (q0 7) 5 (gA o0 7), kB G (r0 9) (r0 109) (gA o0 9), kI G (r0 11) (r0 111) (gA o0 11)] H := hP
        have hD : va_D A [(h0, .inr (9, [.int (gI o0 0), .ref (q0 1), .ref (q0 2), .ref (q0 3), .ref (q0 4), .ref (q0 5), .ref (q0 6), .ref (q0 7), .int (gI o0 8), .ref (r0 9), .int (gI o0 10), .ref (r0 11)])), kI G (q0 1) 5 (gA o0 1), kI G (q0 2) 20 (gA o0 2), kI G (q0 3) 5 (gA o0 3), kI G (q0 4) 5 (gA o0 4), kI G (q0 5) 5 (gA o0 5), kI G (q0 6) 5 (gA o0 6), kI G (q0 7) 5 (gA o0 7), kB G (r0 9) (r0 109) (gA o0 9), kI G (r0 11) (r0 111) (gA o0 11)] := hD
        refine lv_iadd hx hb d_Sh_firstOnTheWay_40 ?_
        refine lv_iload_n hx hb d_Sh_firstOnTheWay_41 rfl (lv_at hl 2 rfl) ?_
        refine lv_icmp_ne (tgt := 47) hx hb d_Sh_firstOnTheWay_42 (by decide) (fun c6 => ?_) (fun c6 => ?_)
        · have h := h.2 c6
          refine lv_iinc (v := (x3 + (1 : Int32))) (lv' := [(3, .int (x3 + (1 : Int32))), (0, .ref h0), (1, .int x1), (2, .int x2)]) hx hb d_Sh_firstOnTheWay_47 hl (k := 3) rfl rfl (by decide) rfl (fun ls hl => ?_)
          refine lv_goto (tgt := 2) hx hb d_Sh_firstOnTheWay_50 (by decide) ?_
          have hl := lv_sub (l' := [(0, .ref h0), (1, .int x1), (2, .int x2), (3, .int (x3 + (1 : Int32)))]) hl [1, 2, 3, 0] rfl
          have hP : va_P G.1 CL (cw_Sh G h0 q0 r0 o0) H := hP
          have hD : va_D A (cw_Sh G h0 q0 r0 o0) := hD
          exact ih x1 x2 (x3 + (1 : Int32)) ls H locs hl hP hD hS h
        · have h := h.1 c6
          refine lv_iload_n hx hb d_Sh_firstOnTheWay_45 rfl (lv_at hl 3 rfl) ?_
          have hP : va_P G.1 CL (cw_Sh G h0 q0 r0 o0) H := hP
          have hD : va_D A (cw_Sh G h0 q0 r0 o0) := hD
          exact W.iret (v := x3) hx hb hr (fun t ht hW => ⟨⟨x3, (), rfl, h, by rw [ht]; exact hP, va_K.moved hW.alike hK, hD⟩, hS.F ht⟩) hS.2.2 d_Sh_firstOnTheWay_46
set_option maxHeartbeats 4000000 in
set_option maxRecDepth 100000 in
theorem c_Sh_firstOnTheWay {l : Launch} {G : Gl} {h0 : Nat} {q0 : Nat → Nat} {a0 : Int32} {a1 : Int32} {r0 : (Nat → Nat)} {o0 : Ob} {Q : Int32 → Prop} (sz : Nat) (h : f_Sh_firstOnTheWay a0 a1 r0 o0 Q) : Met l y_Sh_firstOnTheWay w_Sh_firstOnTheWay rm_Sh_firstOnTheWay (PcW G [.ref h0, .int a0, .int a1] sz (cw_Sh G h0 q0 r0 o0)) (va_Qi (fun (r : Int32) (u : Unit) => Q r) (fun (u : Unit) t => BW G (va_A (cw_Sh G h0 q0 r0 o0) sz) (cw_Sh G h0 q0 r0 o0) t) (va_A (cw_Sh G h0 q0 r0 o0) sz)) 0 0 (va_A (cw_Sh G h0 q0 r0 o0) sz) := by
  refine Met.ofW (cc := b_Sh_firstOnTheWay) (maxL := 4) (ret := (some .int)) (by decide +kernel) rfl ?_
  intro p e s m args below meth c s₁ B hml hv
  obtain ⟨rfl, hsz, hP, hK, hD0, hE⟩ := hv
  have hx := B.exec
  have hb := B.bytes
  have hr := B.returns
  have hts0 := atoms_spec (ws := w_Sh_firstOnTheWay) B.pre
  have hts : ∀ w ∈ gw_tbl, w.before ([.ref h0, .int a0, .int a1]).toArray s = true := fun w hw => hts0 w (List.mem_cons_of_mem _ hw)
  have hown : s.vm.findClass R_Sh = some m.cls := findClass_of_methodNamed B.named
  have hlocks := B.notSynchronized
  subst hsz
  have hD := hD0.self (sz := s.heap.size)
  generalize hAe : va_A (cw_Sh G h0 q0 r0 o0) s.heap.size = A at hD hE ⊢
  have hA : ∀ q : Nat, s.heap.size ≤ q → A q := fun q h => by rw [← hAe]; exact Or.inr h
  have hS : va_S A s.heap s.heap [] := va_S.rf
  have C : Cx p s m ([.ref h0, .int a0, .int a1]).toArray meth c R_Sh b_Sh_firstOnTheWay 4 (some .int) G A := ⟨hx, hb, hml, hown, hr, hts, hK, hA, hlocks, hE⟩
  have hl := lv_entry ([.ref h0, .int a0, .int a1]) (n := 4) (Nat.le_of_ble_eq_true rfl)
  rw [lg_entry_eq]
  generalize (lg_sl ([.ref h0, .int a0, .int a1]) ++ List.replicate (4 - (lg_sl ([.ref h0, .int a0, .int a1])).length) Slot.unset).toArray = ls at hl ⊢
  have hl : lv_has ls 4 [(0, .ref h0), (1, .int a0), (2, .int a1)] := hl
  have hD : va_D A [(h0, .inr (9, [.int (gI o0 0), .ref (q0 1), .ref (q0 2), .ref (q0 3), .ref (q0 4), .ref (q0 5), .ref (q0 6), .ref (q0 7), .int (gI o0 8), .ref (r0 9), .int (gI o0 10), .ref (r0 11)])), kI G (q0 1) 5 (gA o0 1), kI G (q0 2) 20 (gA o0 2), kI G (q0 3) 5 (gA o0 3), kI G (q0 4) 5 (gA o0 4), kI G (q0 5) 5 (gA o0 5), kI G (q0 6) 5 (gA o0 6), kI G (q0 7) 5 (gA o0 7), kB G (r0 9) (r0 109) (gA o0 9), kI G (r0 11) (r0 111) (gA o0 11)] := hD
  unfold f_Sh_firstOnTheWay at h
  suffices key : ∀ (H : Heap) (locs : List Loc), va_P G.1 CL [(h0, .inr (9, [.int (gI o0 0), .ref (q0 1), .ref (q0 2), .ref (q0 3), .ref (q0 4), .ref (q0 5), .ref (q0 6), .ref (q0 7), .int (gI o0 8), .ref (r0 9), .int (gI o0 10), .ref (r0 11)])), kI G (q0 1) 5 (gA o0 1), kI G (q0 2) 20 (gA o0 2), kI G (q0 3) 5 (gA o0 3), kI G (q0 4) 5 (gA o0 4), kI G (q0 5) 5 (gA o0 5), kI G (q0 6) 5 (gA o0 6), kI G (q0 7) 5 (gA o0 7), kB G (r0 9) (r0 109) (gA o0 9), kI G (r0 11) (r0 111) (gA o0 11)] H → va_S A s.heap H locs → W p l e rm_Sh_firstOnTheWay s m ([.ref h0, .int a0, .int a1]).toArray below meth c H locs 0 0 (MQ below (va_Qi (fun (r : Int32) (u : Unit) => Q r) (fun (u : Unit) t => BW G A (cw_Sh G h0 q0 r0 o0) t) A) ([.ref h0, .int a0, .int a1]).toArray s 0 0 A) (F0 m 0 ls []) from key s.heap [] hP hS
  intro H locs hP hS
  refine lv_iconst (v := (0 : Int32)) hx hb d_Sh_firstOnTheWay_0 (by decide) ?_
  refine lv_istore_n (lv' := [(3, .int (0 : Int32)), (0, .ref h0), (1, .int a0), (2, .int a1)]) hx hb d_Sh_firstOnTheWay_1 rfl hl (by decide) rfl (fun ls hl => ?_)
  have hl := lv_sub (l' := [(0, .ref h0), (1, .int a0), (2, .int a1), (3, .int (0 : Int32))]) hl [1, 2, 3, 0] rfl
  have hP : va_P G.1 CL (cw_Sh G h0 q0 r0 o0) H := hP
  have hD : va_D A (cw_Sh G h0 q0 r0 o0) := hD
  obtain ⟨w, h⟩ := h
  exact t_Sh_firstOnTheWay_2 r0 o0 Q C w a0 a1 (0 : Int32) ls _ locs hl hP hD hS h
abbrev b_Sh_shapeOfRow : ByteArray := prog_10_method_17_code
def y_Sh_shapeOfRow : MethodName := ⟨R_Sh, "shapeOfRow", "(II)I"⟩
abbrev w_Sh_shapeOfRow : List Cond := Cond.code y_Sh_shapeOfRow b_Sh_shapeOfRow 7 (some .int) :: gw_tbl
theorem d_Sh_shapeOfRow_0 : decode b_Sh_shapeOfRow 0 = .ok (.iload_n 1, 1) := by decide +kernel
theorem d_Sh_shapeOfRow_1 : decode b_Sh_shapeOfRow 1 = .ok (.istore_n 3, 1) := by decide +kernel
theorem d_Sh_shapeOfRow_2 : decode b_Sh_shapeOfRow 2 = .ok (.iconst 1, 1) := by decide +kernel
theorem d_Sh_shapeOfRow_3 : decode b_Sh_shapeOfRow 3 = .ok (.istore 4, 2) := by decide +kernel
theorem d_Sh_shapeOfRow_5 : decode b_Sh_shapeOfRow 5 = .ok (.iload 4, 2) := by decide +kernel
theorem d_Sh_shapeOfRow_7 : decode b_Sh_shapeOfRow 7 = .ok (.iload_n 2, 1) := by decide +kernel
theorem d_Sh_shapeOfRow_8 : decode b_Sh_shapeOfRow 8 = .ok (.if_icmp .gt 73, 3) := by decide +kernel
theorem d_Sh_shapeOfRow_11 : decode b_Sh_shapeOfRow 11 = .ok (.aload_n 0, 1) := by decide +kernel
theorem d_Sh_shapeOfRow_12 : decode b_Sh_shapeOfRow 12 = .ok (.getfield 37, 3) := by decide +kernel
theorem d_Sh_shapeOfRow_15 : decode b_Sh_shapeOfRow 15 = .ok (.iload 4, 2) := by decide +kernel
theorem d_Sh_shapeOfRow_17 : decode b_Sh_shapeOfRow 17 = .ok (.iconst 1, 1) := by decide +kernel
theorem d_Sh_shapeOfRow_18 : decode b_Sh_shapeOfRow 18 = .ok (.isub, 1) := by decide +kernel
theorem d_Sh_shapeOfRow_19 : decode b_Sh_shapeOfRow 19 = .ok (.aload_n 0, 1) := by decide +kernel
theorem d_Sh_shapeOfRow_20 : decode b_Sh_shapeOfRow 20 = .ok (.getfield 69, 3) := by decide +kernel
theorem d_Sh_shapeOfRow_23 : decode b_Sh_shapeOfRow 23 = .ok (.imul, 1) := by decide +kernel
theorem d_Sh_shapeOfRow_24 : decode b_Sh_shapeOfRow 24 = .ok (.iload_n 3, 1) := by decide +kernel
theorem d_Sh_shapeOfRow_25 : decode b_Sh_shapeOfRow 25 = .ok (.iadd, 1) := by decide +kernel
theorem d_Sh_shapeOfRow_26 : decode b_Sh_shapeOfRow 26 = .ok (.iaload, 1) := by decide +kernel
theorem d_Sh_shapeOfRow_27 : decode b_Sh_shapeOfRow 27 = .ok (.istore 5, 2) := by decide +kernel
theorem d_Sh_shapeOfRow_29 : decode b_Sh_shapeOfRow 29 = .ok (.iconst 0, 1) := by decide +kernel
theorem d_Sh_shapeOfRow_30 : decode b_Sh_shapeOfRow 30 = .ok (.istore 6, 2) := by decide +kernel
theorem d_Sh_shapeOfRow_32 : decode b_Sh_shapeOfRow 32 = .ok (.iload 6, 2) := by decide +kernel
theorem d_Sh_shapeOfRow_34 : decode b_Sh_shapeOfRow 34 = .ok (.aload_n 0, 1) := by decide +kernel
theorem d_Sh_shapeOfRow_35 : decode b_Sh_shapeOfRow 35 = .ok (.getfield 40, 3) := by decide +kernel
theorem d_Sh_shapeOfRow_38 : decode b_Sh_shapeOfRow 38 = .ok (.if_icmp .ge 23, 3) := by decide +kernel
theorem d_Sh_shapeOfRow_41 : decode b_Sh_shapeOfRow 41 = .ok (.aload_n 0, 1) := by decide +kernel
theorem d_Sh_shapeOfRow_42 : decode b_Sh_shapeOfRow 42 = .ok (.getfield 24, 3) := by decide +kernel
theorem d_Sh_shapeOfRow_45 : decode b_Sh_shapeOfRow 45 = .ok (.iload 6, 2) := by decide +kernel
theorem d_Sh_shapeOfRow_47 : decode b_Sh_shapeOfRow 47 = .ok (.aload_n 0, 1) := by decide +kernel
theorem d_Sh_shapeOfRow_48 : decode b_Sh_shapeOfRow 48 = .ok (.iload_n 3, 1) := by decide +kernel
theorem d_Sh_shapeOfRow_49 : decode b_Sh_shapeOfRow 49 = .ok (.iload 6, 2) := by decide +kernel
theorem d_Sh_shapeOfRow_51 : decode b_Sh_shapeOfRow 51 = .ok (.invokevirtual 76, 3) := by decide +kernel
theorem d_Sh_shapeOfRow_54 : decode b_Sh_shapeOfRow 54 = .ok (.iastore, 1) := by decide +kernel
theorem d_Sh_shapeOfRow_55 : decode b_Sh_shapeOfRow 55 = .ok (.iinc 6 1, 3) := by decide +kernel
theorem d_Sh_shapeOfRow_58 : decode b_Sh_shapeOfRow 58 = .ok (.goto (-26), 3) := by decide +kernel
theorem d_Sh_shapeOfRow_61 : decode b_Sh_shapeOfRow 61 = .ok (.aload_n 0, 1) := by decide +kernel
theorem d_Sh_shapeOfRow_62 : decode b_Sh_shapeOfRow 62 = .ok (.iload 4, 2) := by decide +kernel
theorem d_Sh_shapeOfRow_64 : decode b_Sh_shapeOfRow 64 = .ok (.aload_n 0, 1) := by decide +kernel
theorem d_Sh_shapeOfRow_65 : decode b_Sh_shapeOfRow 65 = .ok (.getfield 69, 3) := by decide +kernel
theorem d_Sh_shapeOfRow_68 : decode b_Sh_shapeOfRow 68 = .ok (.imul, 1) := by decide +kernel
theorem d_Sh_shapeOfRow_69 : decode b_Sh_shapeOfRow 69 = .ok (.iload 5, 2) := by decide +kernel
theorem d_Sh_shapeOfRow_71 : decode b_Sh_shapeOfRow 71 = .ok (.invokevirtual 120, 3) := by decide +kernel
theorem d_Sh_shapeOfRow_74 : decode b_Sh_shapeOfRow 74 = .ok (.istore_n 3, 1) := by decide +kernel
theorem d_Sh_shapeOfRow_75 : decode b_Sh_shapeOfRow 75 = .ok (.iinc 4 1, 3) := by decide +kernel
theorem d_Sh_shapeOfRow_78 : decode b_Sh_shapeOfRow 78 = .ok (.goto (-73), 3) := by decide +kernel
theorem d_Sh_shapeOfRow_81 : decode b_Sh_shapeOfRow 81 = .ok (.iload_n 3, 1) := by decide +kernel
theorem d_Sh_shapeOfRow_82 : decode b_Sh_shapeOfRow 82 = .ok (.ireturn, 1) := by decide +kernel
theorem wv_Sh_120 : wV R_Sh 120 y_Sh_firstOnTheWay b_Sh_firstOnTheWay 4 (some .int) 2 := ⟨⟨gw_tb (List.mem_of_getElem? (i := 929) (by decide +kernel)) rfl, gw_tb (List.mem_of_getElem? (i := 12) (by decide +kernel)) rfl, gw_tb (List.mem_of_getElem? (i := 932) (by decide +kernel)) rfl, by decide, by decide, by decide +kernel⟩, gw_tb (List.mem_of_getElem? (i := 931) (by decide +kernel)) rfl, gw_of (List.mem_append_left _ (List.mem_of_getElem? (i := 29) (by decide +kernel))) rfl⟩
def f_Sh_shapeOfRow_32 (r0 : (Nat → Nat)) (k5 : Int32 → Int32 → Int32 → Ob → Prop) (Q : Int32 → Ob → Prop) : Nat → Int32 → Int32 → Int32 → Int32 → Int32 → Ob → Prop
  | 0, _, _, _, _, _, _ => False
  | n + 1, x2, x3, x4, x5, x6, o0 => ((gI o0 0) ≤ x6 → (f_Sh_firstOnTheWay (x4 * (gI o0 8)) x5 r0 o0 (fun z2 => k5 x2 z2 (x4 + (1 : Int32)) o0))) ∧ (¬ (gI o0 0) ≤ x6 → (f_Sh_widthIn x3 x6 r0 o0 (fun z3 => (vp_in x6 5) ∧ ((f_Sh_shapeOfRow_32 r0 k5 Q n) x2 x3 x4 x5 (x6 + (1 : Int32)) (sA o0 5 (upd (gA o0 5) x6.toNatClampNeg z3))))))
def f_Sh_shapeOfRow_5 (r0 : (Nat → Nat)) (Q : Int32 → Ob → Prop) : Nat → Int32 → Int32 → Int32 → Ob → Prop
  | 0, _, _, _, _ => False
  | n + 1, x2, x3, x4, o0 => (x2 < x4 → (Q x3 o0)) ∧ (¬ x2 < x4 → ((vp_in (((x4 - (1 : Int32)) * (gI o0 8)) + x3) (r0 111)) ∧ (∀ y7 : Int32, y7 = ((gA o0 11) ((((x4 - (1 : Int32)) * (gI o0 8)) + x3).toNatClampNeg)) → ((∃ w, f_Sh_shapeOfRow_32 r0 (f_Sh_shapeOfRow_5 r0 Q n) Q w x2 x3 x4 y7 (0 : Int32) o0)))))
def f_Sh_shapeOfRow (a0 : Int32) (a1 : Int32) (r0 : (Nat → Nat)) (o0 : Ob) (Q : Int32 → Ob → Prop) : Prop := (∃ w, f_Sh_shapeOfRow_5 r0 Q w a1 a0 (1 : Int32) o0)
abbrev rm_Sh_shapeOfRow : Room := { frames := 3, cells := 0, slots := 0, locals := 77 }
set_option maxHeartbeats 4000000 in
set_option maxRecDepth 100000 in
theorem t_Sh_shapeOfRow_32 {p : Program} {l : Launch} {e : Env} {s : State} {m : MethodId} {args : Array Value} {below : List Frame} {meth : Method} {c : Code} {A : Nat → Prop} {G : Gl} {h0 : Nat} {q0 : Nat → Nat} (r0 : (Nat → Nat)) (k5 : Int32 → Int32 → Int32 → Ob → Prop) (Q : Int32 → Ob → Prop) (C : Cx p s m args meth c R_Sh b_Sh_shapeOfRow 7 (some .int) G A)
    (hk5 : ∀ (x2 : Int32) (x3 : Int32) (x4 : Int32) (o0 : Ob) (ls : Array Slot) (H : Heap) (locs : List Loc), lv_has ls 7 [(0, .ref h0), (2, .int x2), (3, .int x3), (4, .int x4)] → va_P G.1 CL (cw_Sh G h0 q0 r0 o0) H → va_D A (cw_Sh G h0 q0 r0 o0) → va_S A s.heap H locs → k5 x2 x3 x4 o0 → W p l e rm_Sh_shapeOfRow s m args below meth c H locs 0 0 (MQ below (va_Qi (fun (r : Int32) (u : Ob) => Q r u) (fun (u : Ob) t => BW G A (cw_Sh G h0 q0 r0 u) t) A) args s 0 0 A) (F0 m 5 ls [])) :
    ∀ (n : Nat) (x2 : Int32) (x3 : Int32) (x4 : Int32) (x5 : Int32) (x6 : Int32) (o0 : Ob) (ls : Array Slot) (H : Heap) (locs : List Loc), lv_has ls 7 [(0, .ref h0), (2, .int x2), (3, .int x3), (4, .int x4), (5, .int x5), (6, .int x6)] → va_P G.1 CL (cw_Sh G h0 q0 r0 o0) H → va_D A (cw_Sh G h0 q0 r0 o0) → va_S A s.heap H locs → f_Sh_shapeOfRow_32 r0 k5 Q n x2 x3 x4 x5 x6 o0 → W p l e rm_Sh_shapeOfRow s m args below meth c H locs 0 0 (MQ below (va_Qi (fun (r : Int32) (u : Ob) => Q r u) (fun (u : Ob) t => BW G A (cw_Sh G h0 q0 r0 u) t) A) args s 0 0 A) (F0 m 32 ls []) := by
  obtain ⟨hx, hb, hml, hown, hr, hts, hK, hA, hlocks, hE⟩ := id C
  intro n
  induction n with
  | zero => intro x2 x3 x4 x5 x6 o0 ls H locs hl hP hD hS h; exact absurd h id
  | succ n ih =>
    intro x2 x3 x4 x5 x6 o0 ls H locs hl hP hD hS h
    have hP : va_P G.1 CL [(h0, .inr (9, [.int (gI o0 0), .ref (q0 1), .ref (q0 2), .ref (q0 3), .ref (q0 4), .ref (q0 5), .ref (q0 6), .ref (q0 7), .int (gI o0 8), .ref (r0 9), .int (gI o0 10), .ref (r0 11)])), kI G (q0 1) 5 (gA o0 1), kI G (q0 2) 20 (gA o0 2), kI G (q0 3) 5 (gA o0 3), kI G (q0 4) 5 (gA o0 4), kI G (q0 5) 5 (gA o0 5), kI G (q0 6) 5 (gA o0 6), kI G (q0 7) 5 (gA o0 7), kB G (r0 9) (r0 109) (gA o0 9), kI G (r0 11) (r0 111) (gA o0 11)] H := hP
    have hD : va_D A [(h0, .inr (9, [.int (gI o0 0), .ref (q0 1), .ref (q0 2), .ref (q0 3), .ref (q0 4), .ref (q0 5), .ref (q0 6), .ref (q0 7), .int (gI o0 8), .ref (r0 9), .int (gI o0 10), .ref (r0 11)])), kI G (q0 1) 5 (gA o0 1), kI G (q0 2) 20 (gA o0 2), kI G (q0 3) 5 (gA o0 3), kI G (q0 4) 5 (gA o0 4), kI G (q0 5) 5 (gA o0 5), kI G (q0 6) 5 (gA o0 6), kI G (q0 7) 5 (gA o0 7), kB G (r0 9) (r0 109) (gA o0 9), kI G (r0 11) (r0 111) (gA o0 11)] := hD
    unfold f_Sh_shapeOfRow_32 at h
    refine lv_iload hx hb d_Sh_shapeOfRow_32 (lv_at hl 5 rfl) ?_
    refine lv_aload_n hx hb d_Sh_shapeOfRow_34 rfl (lv_at hl 0 rfl) ?_
    refine va_get (D := G.1) (ci := 9) (v := .int (gI o0 0)) (C := R_Sh) (T := T_Sh) (N := 12) hx hb hts i_Sh hown hK hP 0 rfl rfl 0 (by decide) (hts _ wf_Sh_40) (fun _ h9 => h9) rfl d_Sh_shapeOfRow_35 ?_
    refine lv_icmp_ge (tgt := 61) hx hb d_Sh_shapeOfRow_38 (by decide) (fun c1 => ?_) (fun c1 => ?_)
    · have h := h.1 c1
      refine lv_aload_n hx hb d_Sh_shapeOfRow_61 rfl (lv_at hl 0 rfl) ?_
      refine lv_iload hx hb d_Sh_shapeOfRow_62 (lv_at hl 3 rfl) ?_
      refine lv_aload_n hx hb d_Sh_shapeOfRow_64 rfl (lv_at hl 0 rfl) ?_
      refine va_get (D := G.1) (ci := 9) (v := .int (gI o0 8)) (C := R_Sh) (T := T_Sh) (N := 12) hx hb hts i_Sh hown hK hP 0 rfl rfl 8 (by decide) (hts _ wf_Sh_69) (fun _ h9 => h9) rfl d_Sh_shapeOfRow_65 ?_
      refine lv_imul hx hb d_Sh_shapeOfRow_68 ?_
      refine lv_iload hx hb d_Sh_shapeOfRow_69 (lv_at hl 4 rfl) ?_
      refine cl_Vi (b := b_Sh_shapeOfRow) (As := [.int (x4 * (gI o0 8)), .int x5]) (rest := []) (ws := [(h0, .inr (9, [.int (gI o0 0), .ref (q0 1), .ref (q0 2), .ref (q0 3), .ref (q0 4), .ref (q0 5), .ref (q0 6), .ref (q0 7), .int (gI o0 8), .ref (r0 9), .int (gI o0 10), .ref (r0 11)])), kI G (q0 1) 5 (gA o0 1), kI G (q0 2) 20 (gA o0 2), kI G (q0 3) 5 (gA o0 3), kI G (q0 4) 5 (gA o0 4), kI G (q0 5) 5 (gA o0 5), kI G (q0 6) 5 (gA o0 6), kI G (q0 7) 5 (gA o0 7), kB G (r0 9) (r0 109) (gA o0 9), kI G (r0 11) (r0 111) (gA o0 11)]) (wr := []) (w2 := fun (u : Unit) => [(h0, .inr (9, [.int (gI o0 0), .ref (q0 1), .ref (q0 2), .ref (q0 3), .ref (q0 4), .ref (q0 5), .ref (q0 6), .ref (q0 7), .int (gI o0 8), .ref (r0 9), .int (gI o0 10), .ref (r0 11)])), kI G (q0 1) 5 (gA o0 1), kI G (q0 2) 20 (gA o0 2), kI G (q0 3) 5 (gA o0 3), kI G (q0 4) 5 (gA o0 4), kI G (q0 5) 5 (gA o0 5), kI G (q0 6) 5 (gA o0 6), kI G (q0 7) 5 (gA o0 7), kB G (r0 9) (r0 109) (gA o0 9), kI G (r0 11) (r0 111) (gA o0 11)]) C (c_Sh_firstOnTheWay (h0 := h0) (q0 := q0) H.size h) wv_Sh_120 ⟨Nat.le_of_ble_eq_true rfl, Nat.le_of_ble_eq_true rfl⟩ hP hD hS 0 rfl rfl [0, 1, 2, 3, 4, 5, 6, 7, 8, 9] [] rfl rfl (by decide) (by decide) (by decide) [0, 1, 2, 3, 4, 5, 6, 7, 8, 9] (by decide) (fun u => rfl) rfl hl.1 rfl (lv_room (Nat.le_of_ble_eq_true rfl)) d_Sh_shapeOfRow_71 ⟨Nat.le_of_ble_eq_true rfl, Nat.le_of_ble_eq_true rfl⟩ rfl rfl (fun z2 u H locs h hP hD hS => ?_)
      have hP : va_P G.1 CL [(h0, .inr (9, [.int (gI o0 0), .ref (q0 1), .ref (q0 2), .ref (q0 3), .ref (q0 4), .ref (q0 5), .ref (q0 6), .ref (q0 7), .int (gI o0 8), .ref (r0 9), .int (gI o0 10), .ref (r0 11)])), kI G (q0 1) 5 (gA o0 1), kI G (q0 2) 20 (gA o0 2), kI G (q0 3) 5 (gA o0 3), kI G (q0 4) 5 (gA o0 4), kI G (q0 5) 5 (gA o0 5), kI G (q0 6) 5 (gA o0 6), kI G (q0 7) 5 (gA o0 7), kB G (r0 9) (r0 109) (gA o0 9), kI G (r0 11) (r0 111) (gA o0 11)] H := hP
      have hD : va_D A [(h0, .inr (9, [.int (gI o0 0), .ref (q0 1), .ref (q0 2), .ref (q0 3), .ref (q0 4), .ref (q0 5), .ref (q0 6), .ref (q0 7), .int (gI o0 8), .ref (r0 9), .int (gI o0 10), .ref (r0 11)])), kI G (q0 1) 5 (gA o0 1), kI G (q0 2) 20 (gA o0 2), kI G (q0 3) 5 (gA o0 3), kI G (q0 4) 5 (gA o0 4), kI G (q0 5) 5 (gA o0 5), kI G (q0 6) 5 (gA o0 6), kI G (q0 7) 5 (gA o0 7), kB G (r0 9) (r0 109) (gA o0 9), kI G (r0 11) (r0 111) (gA o0 11)] := hD
      refine lv_istore_n (lv' := [(3, .int z2), (0, .ref h0), (2, .int x2), (4, .int x4), (5, .int x5), (6, .int x6)]) hx hb d_Sh_shapeOfRow_74 rfl hl (by decide) rfl (fun ls hl => ?_)
      refine lv_iinc (v := (x4 + (1 : Int32))) (lv' := [(4, .int (x4 + (1 : Int32))), (3, .int z2), (0, .ref h0), (2, .int x2), (5, .int x5), (6, .int x6)]) hx hb d_Sh_shapeOfRow_75 hl (k := 3) rfl rfl (by decide) rfl (fun ls hl => ?_)
      refine lv_goto (tgt := 5) hx hb d_Sh_shapeOfRow_78 (by decide) ?_
      have hl := lv_sub (l' := [(0, .ref h0), (2, .int x2), (3, .int z2), (4, .int (x4 + (1 : Int32)))]) hl [2, 3, 1, 0] rfl
      have hP : va_P G.1 CL (cw_Sh G h0 q0 r0 o0) H := hP
      have hD : va_D A (cw_Sh G h0 q0 r0 o0) := hD
      exact hk5 x2 z2 (x4 + (1 : Int32)) o0 ls H locs hl hP hD hS h
    · have h := h.2 c1
      refine lv_aload_n hx hb d_Sh_shapeOfRow_41 rfl (lv_at hl 0 rfl) ?_
      refine va_get (D := G.1) (ci := 9) (v := .ref (q0 5)) (C := R_Sh) (T := T_Sh) (N := 12) hx hb hts i_Sh hown hK hP 0 rfl rfl 5 (by decide) (hts _ wf_Sh_24) (fun _ h9 => h9) rfl d_Sh_shapeOfRow_42 ?_
      refine lv_iload hx hb d_Sh_shapeOfRow_45 (lv_at hl 5 rfl) ?_
      refine lv_aload_n hx hb d_Sh_shapeOfRow_47 rfl (lv_at hl 0 rfl) ?_
      refine lv_iload_n hx hb d_Sh_shapeOfRow_48 rfl (lv_at hl 2 rfl) ?_
      refine lv_iload hx hb d_Sh_shapeOfRow_49 (lv_at hl 5 rfl) ?_
      refine cl_Vi (b := b_Sh_shapeOfRow) (As := [.int x3, .int x6]) (rest := [.int x6, .ref (q0 5)]) (ws := [(h0, .inr (9, [.int (gI o0 0), .ref (q0 1), .ref (q0 2), .ref (q0 3), .ref (q0 4), .ref (q0 5), .ref (q0 6), .ref (q0 7), .int (gI o0 8), .ref (r0 9), .int (gI o0 10), .ref (r0 11)])), kI G (q0 1) 5 (gA o0 1), kI G (q0 2) 20 (gA o0 2), kI G (q0 3) 5 (gA o0 3), kI G (q0 4) 5 (gA o0 4), kI G (q0 5) 5 (gA o0 5), kI G (q0 6) 5 (gA o0 6), kI G (q0 7) 5 (gA o0 7), kB G (r0 9) (r0 109) (gA o0 9), kI G (r0 11) (r0 111) (gA o0 11)]) (wr := []) (w2 := fun (u : Unit) => [(h0, .inr (9, [.int (gI o0 0), .ref (q0 1), .ref (q0 2), .ref (q0 3), .ref (q0 4), .ref (q0 5), .ref (q0 6), .ref (q0 7), .int (gI o0 8), .ref (r0 9), .int (gI o0 10), .ref (r0 11)])), kI G (q0 1) 5 (gA o0 1), kI G (q0 2) 20 (gA o0 2), kI G (q0 3) 5 (gA o0 3), kI G (q0 4) 5 (gA o0 4), kI G (q0 5) 5 (gA o0 5), kI G (q0 6) 5 (gA o0 6), kI G (q0 7) 5 (gA o0 7), kB G (r0 9) (r0 109) (gA o0 9), kI G (r0 11) (r0 111) (gA o0 11)]) C (c_Sh_widthIn (h0 := h0) (q0 := q0) H.size h) wv_Sh_76 ⟨Nat.le_of_ble_eq_true rfl, Nat.le_of_ble_eq_true rfl⟩ hP hD hS 0 rfl rfl [0, 1, 2, 3, 4, 5, 6, 7, 8, 9] [] rfl rfl (by decide) (by decide) (by decide) [0, 1, 2, 3, 4, 5, 6, 7, 8, 9] (by decide) (fun u => rfl) rfl hl.1 rfl (lv_room (Nat.le_of_ble_eq_true rfl)) d_Sh_shapeOfRow_51 ⟨Nat.le_of_ble_eq_true rfl, Nat.le_of_ble_eq_true rfl⟩ rfl rfl (fun z3 u H locs h hP hD hS => ?_)
      have hP : va_P G.1 CL [(h0, .inr (9, [.int (gI o0 0), .ref (q0 1), .ref (q0 2), .ref (q0 3), .ref (q0 4), .ref (q0 5), .ref (q0 6), .ref (q0 7), .int (gI o0 8), .ref (r0 9), .int (gI o0 10), .ref (r0 11)])), kI G (q0 1) 5 (gA o0 1), kI G (q0 2) 20 (gA o0 2), kI G (q0 3) 5 (gA o0 3), kI G (q0 4) 5 (gA o0 4), kI G (q0 5) 5 (gA o0 5), kI G (q0 6) 5 (gA o0 6), kI G (q0 7) 5 (gA o0 7), kB G (r0 9) (r0 109) (gA o0 9), kI G (r0 11) (r0 111) (gA o0 11)] H := hP
      have hD : va_D A [(h0, .inr (9, [.int (gI o0 0), .ref (q0 1), .ref (q0 2), .ref (q0 3), .ref (q0 4), .ref (q0 5), .ref (q0 6), .ref (q0 7), .int (gI o0 8), .ref (r0 9), .int (gI o0 10), .ref (r0 11)])), kI G (q0 1) 5 (gA o0 1), kI G (q0 2) 20 (gA o0 2), kI G (q0 3) 5 (gA o0 3), kI G (q0 4) 5 (gA o0 4), kI G (q0 5) 5 (gA o0 5), kI G (q0 6) 5 (gA o0 6), kI G (q0 7) 5 (gA o0 7), kB G (r0 9) (r0 109) (gA o0 9), kI G (r0 11) (r0 111) (gA o0 11)] := hD
      have g4 := h.1
      have h := h.2
      refine xa_iast hx hb hK hP hD hS 5 0 rfl rfl g4 (k := x6.toNatClampNeg) rfl d_Sh_shapeOfRow_54 (fun H locs hP hD hS => ?_)
      have hP : va_P G.1 CL [(h0, .inr (9, [.int (gI o0 0), .ref (q0 1), .ref (q0 2), .ref (q0 3), .ref (q0 4), .ref (q0 5), .ref (q0 6), .ref (q0 7), .int (gI o0 8), .ref (r0 9), .int (gI o0 10), .ref (r0 11)])), kI G (q0 1) 5 (gA o0 1), kI G (q0 2) 20 (gA o0 2), kI G (q0 3) 5 (gA o0 3), kI G (q0 4) 5 (gA o0 4), kI G (q0 5) 5 (upd (gA o0 5) x6.toNatClampNeg z3), kI G (q0 6) 5 (gA o0 6), kI G (q0 7) 5 (gA o0 7), kB G (r0 9) (r0 109) (gA o0 9), kI G (r0 11) (r0 111) (gA o0 11)] H := hP
      have hD : va_D A [(h0, .inr (9, [.int (gI o0 0), .ref (q0 1), .ref (q0 2), .ref (q0 3), .ref (q0 4), .ref (q0 5), .ref (q0 6), .ref (q0 7), .int (gI o0 8), .ref (r0 9), .int (gI o0 10), .ref (r0 11)])), kI G (q0 1) 5 (gA o0 1), kI G (q0 2) 20 (gA o0 2), kI G (q0 3) 5 (gA o0 3), kI G (q0 4) 5 (gA o0 4), kI G (q0 5) 5 (upd (gA o0 5) x6.toNatClampNeg z3), kI G (q0 6) 5 (gA o0 6), kI G (q0 7) 5 (gA o0 7), kB G (r0 9) (r0 109) (gA o0 9), kI G (r0 11) (r0 111) (gA o0 11)] := hD
      refine lv_iinc (v := (x6 + (1 : Int32))) (lv' := [(6, .int (x6 + (1 : Int32))), (0, .ref h0), (2, .int x2), (3, .int x3), (4, .int x4), (5, .int x5)]) hx hb d_Sh_shapeOfRow_55 hl (k := 5) rfl rfl (by decide) rfl (fun ls hl => ?_)
      refine lv_goto (tgt := 32) hx hb d_Sh_shapeOfRow_58 (by decide) ?_
      have hl := lv_sub (l' := [(0, .ref h0), (2, .int x2), (3, .int x3), (4, .int x4), (5, .int x5), (6, .int (x6 + (1 : Int32)))]) hl [1, 2, 3, 4, 5, 0] rfl
      have hP : va_P G.1 CL (cw_Sh G h0 q0 r0 (sA o0 5 (upd (gA o0 5) x6.toNatClampNeg z3))) H := hP
      have hD : va_D A (cw_Sh G h0 q0 r0 (sA o0 5 (upd (gA o0 5) x6.toNatClampNeg z3))) := hD
      exact ih x2 x3 x4 x5 (x6 + (1 : Int32)) (sA o0 5 (upd (gA o0 5) x6.toNatClampNeg z3)) ls H locs hl hP hD hS h
set_option maxHeartbeats 4000000 in
set_option maxRecDepth 100000 in
theorem t_Sh_shapeOfRow_5 {p : Program} {l : Launch} {e : Env} {s : State} {m : MethodId} {args : Array Value} {below : List Frame} {meth : Method} {c : Code} {A : Nat → Prop} {G : Gl} {h0 : Nat} {q0 : Nat → Nat} (r0 : (Nat → Nat)) (Q : Int32 → Ob → Prop) (C : Cx p s m args meth c R_Sh b_Sh_shapeOfRow 7 (some .int) G A) :
    ∀ (n : Nat) (x2 : Int32) (x3 : Int32) (x4 : Int32) (o0 : Ob) (ls : Array Slot) (H : Heap) (locs : List Loc), lv_has ls 7 [(0, .ref h0), (2, .int x2), (3, .int x3), (4, .int x4)] → va_P G.1 CL (cw_Sh G h0 q0 r0 o0) H → va_D A (cw_Sh G h0 q0 r0 o0) → va_S A s.heap H locs → f_Sh_shapeOfRow_5 r0 Q n x2 x3 x4 o0 → W p l e rm_Sh_shapeOfRow s m args below meth c H locs 0 0 (MQ below (va_Qi (fun (r : Int32) (u : Ob) => Q r u) (fun (u : Ob) t => BW G A (cw_Sh G h0 q0 r0 u) t) A) args s 0 0 A) (F0 m 5 ls []) := by
  obtain ⟨hx, hb, hml, hown, hr, hts, hK, hA, hlocks, hE⟩ := id C
  intro n
  induction n with
  | zero => intro x2 x3 x4 o0 ls H locs hl hP hD hS h; exact absurd h id
  | succ n ih =>
    intro x2 x3 x4 o0 ls H locs hl hP hD hS h
    have hP : va_P G.1 CL [(h0, .inr (9, [.int (gI o0 0), .ref (q0 1), .ref (q0 2), .ref (q0 3), .ref (q0 4), .ref (q0 5), .ref (q0 6), .ref (q0 7), .int (gI o0 8), .ref (r0 9), .int (gI o0 10), .ref (r0 11)])), kI G (q0 1) 5 (gA o0 1), kI G (q0 2) 20 (gA o0 2), kI G (q0 3) 5 (gA o0 3), kI G (q0 4) 5 (gA o0 4), kI G (q0 5) 5 (gA o0 5), kI G (q0 6) 5 (gA o0 6), kI G (q0 7) 5 (gA o0 7), kB G (r0 9) (r0 109) (gA o0 9), kI G (r0 11) (r0 111) (gA o0 11)] H := hP
    have hD : va_D A [(h0, .inr (9, [.int (gI o0 0), .ref (q0 1), .ref (q0 2), .ref (q0 3), .ref (q0 4), .ref (q0 5), .ref (q0 6), .ref (q0 7), .int (gI o0 8), .ref (r0 9), .int (gI o0 10), .ref (r0 11)])), kI G (q0 1) 5 (gA o0 1), kI G (q0 2) 20 (gA o0 2), kI G (q0 3) 5 (gA o0 3), kI G (q0 4) 5 (gA o0 4), kI G (q0 5) 5 (gA o0 5), kI G (q0 6) 5 (gA o0 6), kI G (q0 7) 5 (gA o0 7), kB G (r0 9) (r0 109) (gA o0 9), kI G (r0 11) (r0 111) (gA o0 11)] := hD
    unfold f_Sh_shapeOfRow_5 at h
    refine lv_iload hx hb d_Sh_shapeOfRow_5 (lv_at hl 3 rfl) ?_
    refine lv_iload_n hx hb d_Sh_shapeOfRow_7 rfl (lv_at hl 1 rfl) ?_
    refine lv_icmp_gt (tgt := 81) hx hb d_Sh_shapeOfRow_8 (by decide) (fun c5 => ?_) (fun c5 => ?_)
    · have h := h.1 c5
      refine lv_iload_n hx hb d_Sh_shapeOfRow_81 rfl (lv_at hl 2 rfl) ?_
      have hP : va_P G.1 CL (cw_Sh G h0 q0 r0 o0) H := hP
      have hD : va_D A (cw_Sh G h0 q0 r0 o0) := hD
      exact W.iret (v := x3) hx hb hr (fun t ht hW => ⟨⟨x3, o0, rfl, h, by rw [ht]; exact hP, va_K.moved hW.alike hK, hD⟩, hS.F ht⟩) hS.2.2 d_Sh_shapeOfRow_82
    · have h := h.2 c5
      refine lv_aload_n hx hb d_Sh_shapeOfRow_11 rfl (lv_at hl 0 rfl) ?_
      refine va_get (D := G.1) (ci := 9) (v := .ref (r0 11)) (C := R_Sh) (T := T_Sh) (N := 12) hx hb hts i_Sh hown hK hP 0 rfl rfl 11 (by decide) (hts _ wf_Sh_37) (fun _ h9 => h9) rfl d_Sh_shapeOfRow_12 ?_
      refine lv_iload hx hb d_Sh_shapeOfRow_15 (lv_at hl 3 rfl) ?_
      refine lv_iconst (v := (1 : Int32)) hx hb d_Sh_shapeOfRow_17 (by decide) ?_
      refine lv_isub hx hb d_Sh_shapeOfRow_18 ?_
      refine lv_aload_n hx hb d_Sh_shapeOfRow_19 rfl (lv_at hl 0 rfl) ?_
      refine va_get (D := G.1) (ci := 9) (v := .int (gI o0 8)) (C := R_Sh) (T := T_Sh) (N := 12) hx hb hts i_Sh hown hK hP 0 rfl rfl 8 (by decide) (hts _ wf_Sh_69) (fun _ h9 => h9) rfl d_Sh_shapeOfRow_20 ?_
      refine lv_imul hx hb d_Sh_shapeOfRow_23 ?_
      refine lv_iload_n hx hb d_Sh_shapeOfRow_24 rfl (lv_at hl 2 rfl) ?_
      refine lv_iadd hx hb d_Sh_shapeOfRow_25 ?_
      have g6 := h.1
      have h := h.2
      refine xa_iald hx hb hK hP 9 0 rfl rfl g6 (k := (((x4 - (1 : Int32)) * (gI o0 8)) + x3).toNatClampNeg) rfl d_Sh_shapeOfRow_26 ?_
      refine lv_topi (fun y7 ey7 => ?_)
      have h := h y7 ey7
      refine lv_istore (lv' := [(5, .int y7), (0, .ref h0), (2, .int x2), (3, .int x3), (4, .int x4)]) hx hb d_Sh_shapeOfRow_27 hl (by decide) rfl (fun ls hl => ?_)
      refine lv_iconst (v := (0 : Int32)) hx hb d_Sh_shapeOfRow_29 (by decide) ?_
      refine lv_istore (lv' := [(6, .int (0 : Int32)), (5, .int y7), (0, .ref h0), (2, .int x2), (3, .int x3), (4, .int x4)]) hx hb d_Sh_shapeOfRow_30 hl (by decide) rfl (fun ls hl => ?_)
      have hl := lv_sub (l' := [(0, .ref h0), (2, .int x2), (3, .int x3), (4, .int x4), (5, .int y7), (6, .int (0 : Int32))]) hl [2, 3, 4, 5, 1, 0] rfl
      have hP : va_P G.1 CL (cw_Sh G h0 q0 r0 o0) H := hP
      have hD : va_D A (cw_Sh G h0 q0 r0 o0) := hD
      obtain ⟨w, h⟩ := h
      exact t_Sh_shapeOfRow_32 r0 (f_Sh_shapeOfRow_5 r0 Q n) Q C ih w x2 x3 x4 y7 (0 : Int32) o0 ls _ locs hl hP hD hS h
set_option maxHeartbeats 4000000 in
set_option maxRecDepth 100000 in
theorem c_Sh_shapeOfRow {l : Launch} {G : Gl} {h0 : Nat} {q0 : Nat → Nat} {a0 : Int32} {a1 : Int32} {r0 : (Nat → Nat)} {o0 : Ob} {Q : Int32 → Ob → Prop} (sz : Nat) (h : f_Sh_shapeOfRow a0 a1 r0 o0 Q) : Met l y_Sh_shapeOfRow w_Sh_shapeOfRow rm_Sh_shapeOfRow (PcW G [.ref h0, .int a0, .int a1] sz (cw_Sh G h0 q0 r0 o0)) (va_Qi (fun (r : Int32) (u : Ob) => Q r u) (fun (u : Ob) t => BW G (va_A (cw_Sh G h0 q0 r0 o0) sz) (cw_Sh G h0 q0 r0 u) t) (va_A (cw_Sh G h0 q0 r0 o0) sz)) 0 0 (va_A (cw_Sh G h0 q0 r0 o0) sz) := by
  refine Met.ofW (cc := b_Sh_shapeOfRow) (maxL := 7) (ret := (some .int)) (by decide +kernel) rfl ?_
  intro p e s m args below meth c s₁ B hml hv
  obtain ⟨rfl, hsz, hP, hK, hD0, hE⟩ := hv
  have hx := B.exec
  have hb := B.bytes
  have hr := B.returns
  have hts0 := atoms_spec (ws := w_Sh_shapeOfRow) B.pre
  have hts : ∀ w ∈ gw_tbl, w.before ([.ref h0, .int a0, .int a1]).toArray s = true := fun w hw => hts0 w (List.mem_cons_of_mem _ hw)
  have hown : s.vm.findClass R_Sh = some m.cls := findClass_of_methodNamed B.named
  have hlocks := B.notSynchronized
  subst hsz
  have hD := hD0.self (sz := s.heap.size)
  generalize hAe : va_A (cw_Sh G h0 q0 r0 o0) s.heap.size = A at hD hE ⊢
  have hA : ∀ q : Nat, s.heap.size ≤ q → A q := fun q h => by rw [← hAe]; exact Or.inr h
  have hS : va_S A s.heap s.heap [] := va_S.rf
  have C : Cx p s m ([.ref h0, .int a0, .int a1]).toArray meth c R_Sh b_Sh_shapeOfRow 7 (some .int) G A := ⟨hx, hb, hml, hown, hr, hts, hK, hA, hlocks, hE⟩
  have hl := lv_entry ([.ref h0, .int a0, .int a1]) (n := 7) (Nat.le_of_ble_eq_true rfl)
  rw [lg_entry_eq]
  generalize (lg_sl ([.ref h0, .int a0, .int a1]) ++ List.replicate (7 - (lg_sl ([.ref h0, .int a0, .int a1])).length) Slot.unset).toArray = ls at hl ⊢
  have hl : lv_has ls 7 [(0, .ref h0), (1, .int a0), (2, .int a1)] := hl
  have hD : va_D A [(h0, .inr (9, [.int (gI o0 0), .ref (q0 1), .ref (q0 2), .ref (q0 3), .ref (q0 4), .ref (q0 5), .ref (q0 6), .ref (q0 7), .int (gI o0 8), .ref (r0 9), .int (gI o0 10), .ref (r0 11)])), kI G (q0 1) 5 (gA o0 1), kI G (q0 2) 20 (gA o0 2), kI G (q0 3) 5 (gA o0 3), kI G (q0 4) 5 (gA o0 4), kI G (q0 5) 5 (gA o0 5), kI G (q0 6) 5 (gA o0 6), kI G (q0 7) 5 (gA o0 7), kB G (r0 9) (r0 109) (gA o0 9), kI G (r0 11) (r0 111) (gA o0 11)] := hD
  unfold f_Sh_shapeOfRow at h
  suffices key : ∀ (H : Heap) (locs : List Loc), va_P G.1 CL [(h0, .inr (9, [.int (gI o0 0), .ref (q0 1), .ref (q0 2), .ref (q0 3), .ref (q0 4), .ref (q0 5), .ref (q0 6), .ref (q0 7), .int (gI o0 8), .ref (r0 9), .int (gI o0 10), .ref (r0 11)])), kI G (q0 1) 5 (gA o0 1), kI G (q0 2) 20 (gA o0 2), kI G (q0 3) 5 (gA o0 3), kI G (q0 4) 5 (gA o0 4), kI G (q0 5) 5 (gA o0 5), kI G (q0 6) 5 (gA o0 6), kI G (q0 7) 5 (gA o0 7), kB G (r0 9) (r0 109) (gA o0 9), kI G (r0 11) (r0 111) (gA o0 11)] H → va_S A s.heap H locs → W p l e rm_Sh_shapeOfRow s m ([.ref h0, .int a0, .int a1]).toArray below meth c H locs 0 0 (MQ below (va_Qi (fun (r : Int32) (u : Ob) => Q r u) (fun (u : Ob) t => BW G A (cw_Sh G h0 q0 r0 u) t) A) ([.ref h0, .int a0, .int a1]).toArray s 0 0 A) (F0 m 0 ls []) from key s.heap [] hP hS
  intro H locs hP hS
  refine lv_iload_n hx hb d_Sh_shapeOfRow_0 rfl (lv_at hl 1 rfl) ?_
  refine lv_istore_n (lv' := [(3, .int a0), (0, .ref h0), (1, .int a0), (2, .int a1)]) hx hb d_Sh_shapeOfRow_1 rfl hl (by decide) rfl (fun ls hl => ?_)
  refine lv_iconst (v := (1 : Int32)) hx hb d_Sh_shapeOfRow_2 (by decide) ?_
  refine lv_istore (lv' := [(4, .int (1 : Int32)), (3, .int a0), (0, .ref h0), (1, .int a0), (2, .int a1)]) hx hb d_Sh_shapeOfRow_3 hl (by decide) rfl (fun ls hl => ?_)
  have hl := lv_sub (l' := [(0, .ref h0), (2, .int a1), (3, .int a0), (4, .int (1 : Int32))]) hl [2, 4, 1, 0] rfl
  have hP : va_P G.1 CL (cw_Sh G h0 q0 r0 o0) H := hP
  have hD : va_D A (cw_Sh G h0 q0 r0 o0) := hD
  obtain ⟨w, h⟩ := h
  exact t_Sh_shapeOfRow_5 r0 Q C w a1 a0 (1 : Int32) o0 ls _ locs hl hP hD hS h
abbrev b_Sh_fillBoxes : ByteArray := prog_10_method_5_code
def y_Sh_fillBoxes : MethodName := ⟨R_Sh, "fillBoxes", "(I)V"⟩
abbrev w_Sh_fillBoxes : List Cond := Cond.code y_Sh_fillBoxes b_Sh_fillBoxes 4 none :: gw_tbl
theorem d_Sh_fillBoxes_0 : decode b_Sh_fillBoxes 0 = .ok (.iconst 0, 1) := by decide +kernel
theorem d_Sh_fillBoxes_1 : decode b_Sh_fillBoxes 1 = .ok (.istore_n 2, 1) := by decide +kernel
theorem d_Sh_fillBoxes_2 : decode b_Sh_fillBoxes 2 = .ok (.iload_n 2, 1) := by decide +kernel
theorem d_Sh_fillBoxes_3 : decode b_Sh_fillBoxes 3 = .ok (.aload_n 0, 1) := by decide +kernel
theorem d_Sh_fillBoxes_4 : decode b_Sh_fillBoxes 4 = .ok (.getfield 69, 3) := by decide +kernel
theorem d_Sh_fillBoxes_7 : decode b_Sh_fillBoxes 7 = .ok (.if_icmp .ge 63, 3) := by decide +kernel
theorem d_Sh_fillBoxes_10 : decode b_Sh_fillBoxes 10 = .ok (.iconst 0, 1) := by decide +kernel
theorem d_Sh_fillBoxes_11 : decode b_Sh_fillBoxes 11 = .ok (.istore_n 3, 1) := by decide +kernel
theorem d_Sh_fillBoxes_12 : decode b_Sh_fillBoxes 12 = .ok (.iload_n 3, 1) := by decide +kernel
theorem d_Sh_fillBoxes_13 : decode b_Sh_fillBoxes 13 = .ok (.aload_n 0, 1) := by decide +kernel
theorem d_Sh_fillBoxes_14 : decode b_Sh_fillBoxes 14 = .ok (.getfield 40, 3) := by decide +kernel
theorem d_Sh_fillBoxes_17 : decode b_Sh_fillBoxes 17 = .ok (.if_icmp .ge 21, 3) := by decide +kernel
theorem d_Sh_fillBoxes_20 : decode b_Sh_fillBoxes 20 = .ok (.aload_n 0, 1) := by decide +kernel
theorem d_Sh_fillBoxes_21 : decode b_Sh_fillBoxes 21 = .ok (.getfield 24, 3) := by decide +kernel
theorem d_Sh_fillBoxes_24 : decode b_Sh_fillBoxes 24 = .ok (.iload_n 3, 1) := by decide +kernel
theorem d_Sh_fillBoxes_25 : decode b_Sh_fillBoxes 25 = .ok (.aload_n 0, 1) := by decide +kernel
theorem d_Sh_fillBoxes_26 : decode b_Sh_fillBoxes 26 = .ok (.iload_n 2, 1) := by decide +kernel
theorem d_Sh_fillBoxes_27 : decode b_Sh_fillBoxes 27 = .ok (.iload_n 3, 1) := by decide +kernel
theorem d_Sh_fillBoxes_28 : decode b_Sh_fillBoxes 28 = .ok (.invokevirtual 76, 3) := by decide +kernel
theorem d_Sh_fillBoxes_31 : decode b_Sh_fillBoxes 31 = .ok (.iastore, 1) := by decide +kernel
theorem d_Sh_fillBoxes_32 : decode b_Sh_fillBoxes 32 = .ok (.iinc 3 1, 3) := by decide +kernel
theorem d_Sh_fillBoxes_35 : decode b_Sh_fillBoxes 35 = .ok (.goto (-23), 3) := by decide +kernel
theorem d_Sh_fillBoxes_38 : decode b_Sh_fillBoxes 38 = .ok (.aload_n 0, 1) := by decide +kernel
theorem d_Sh_fillBoxes_39 : decode b_Sh_fillBoxes 39 = .ok (.getfield 33, 3) := by decide +kernel
theorem d_Sh_fillBoxes_42 : decode b_Sh_fillBoxes 42 = .ok (.iload_n 1, 1) := by decide +kernel
theorem d_Sh_fillBoxes_43 : decode b_Sh_fillBoxes 43 = .ok (.aload_n 0, 1) := by decide +kernel
theorem d_Sh_fillBoxes_44 : decode b_Sh_fillBoxes 44 = .ok (.getfield 69, 3) := by decide +kernel
theorem d_Sh_fillBoxes_47 : decode b_Sh_fillBoxes 47 = .ok (.imul, 1) := by decide +kernel
theorem d_Sh_fillBoxes_48 : decode b_Sh_fillBoxes 48 = .ok (.iload_n 2, 1) := by decide +kernel
theorem d_Sh_fillBoxes_49 : decode b_Sh_fillBoxes 49 = .ok (.iadd, 1) := by decide +kernel
theorem d_Sh_fillBoxes_50 : decode b_Sh_fillBoxes 50 = .ok (.aload_n 0, 1) := by decide +kernel
theorem d_Sh_fillBoxes_51 : decode b_Sh_fillBoxes 51 = .ok (.getfield 24, 3) := by decide +kernel
theorem d_Sh_fillBoxes_54 : decode b_Sh_fillBoxes 54 = .ok (.aload_n 0, 1) := by decide +kernel
theorem d_Sh_fillBoxes_55 : decode b_Sh_fillBoxes 55 = .ok (.getfield 40, 3) := by decide +kernel
theorem d_Sh_fillBoxes_58 : decode b_Sh_fillBoxes 58 = .ok (.iload_n 1, 1) := by decide +kernel
theorem d_Sh_fillBoxes_59 : decode b_Sh_fillBoxes 59 = .ok (.invokestatic 80, 3) := by decide +kernel
theorem d_Sh_fillBoxes_62 : decode b_Sh_fillBoxes 62 = .ok (.i2b, 1) := by decide +kernel
theorem d_Sh_fillBoxes_63 : decode b_Sh_fillBoxes 63 = .ok (.bastore, 1) := by decide +kernel
theorem d_Sh_fillBoxes_64 : decode b_Sh_fillBoxes 64 = .ok (.iinc 2 1, 3) := by decide +kernel
theorem d_Sh_fillBoxes_67 : decode b_Sh_fillBoxes 67 = .ok (.goto (-65), 3) := by decide +kernel
theorem d_Sh_fillBoxes_70 : decode b_Sh_fillBoxes 70 = .ok (.return_, 1) := by decide +kernel
theorem ws_Sh_80 : wS R_Sh 80 y_To_boxOf b_To_boxOf 7 (some .int) 3 := ⟨⟨gw_tb (List.mem_of_getElem? (i := 861) (by decide +kernel)) rfl, gw_tb (List.mem_of_getElem? (i := 18) (by decide +kernel)) rfl, gw_tb (List.mem_of_getElem? (i := 798) (by decide +kernel)) rfl, by decide, by decide, by decide +kernel⟩, gw_tb (List.mem_of_getElem? (i := 797) (by decide +kernel)) rfl⟩
def f_Sh_fillBoxes_12 (r0 : (Nat → Nat)) (k2 : Int32 → Int32 → Ob → Prop) (Q : Ob → Prop) : Nat → Int32 → Int32 → Int32 → Ob → Prop
  | 0, _, _, _, _ => False
  | n + 1, x1, x2, x3, o0 => ((gI o0 0) ≤ x3 → (f_To_boxOf (gI o0 0) x1 (gA o0 5) (fun z2 => (vp_in ((x1 * (gI o0 8)) + x2) (r0 109)) ∧ (k2 x1 (x2 + (1 : Int32)) (sA o0 9 (upd (gA o0 9) (((x1 * (gI o0 8)) + x2).toNatClampNeg) (vp_nar .byte (z2.toInt8.toInt32)))))))) ∧ (¬ (gI o0 0) ≤ x3 → (f_Sh_widthIn x2 x3 r0 o0 (fun z4 => (vp_in x3 5) ∧ ((f_Sh_fillBoxes_12 r0 k2 Q n) x1 x2 (x3 + (1 : Int32)) (sA o0 5 (upd (gA o0 5) x3.toNatClampNeg z4))))))
def f_Sh_fillBoxes_2 (r0 : (Nat → Nat)) (Q : Ob → Prop) : Nat → Int32 → Int32 → Ob → Prop
  | 0, _, _, _ => False
  | n + 1, x1, x2, o0 => ((gI o0 8) ≤ x2 → (Q o0)) ∧ (¬ (gI o0 8) ≤ x2 → ((∃ w, f_Sh_fillBoxes_12 r0 (f_Sh_fillBoxes_2 r0 Q n) Q w x1 x2 (0 : Int32) o0)))
def f_Sh_fillBoxes (a0 : Int32) (r0 : (Nat → Nat)) (o0 : Ob) (Q : Ob → Prop) : Prop := (∃ w, f_Sh_fillBoxes_2 r0 Q w a0 (0 : Int32) o0)
abbrev rm_Sh_fillBoxes : Room := { frames := 2, cells := 0, slots := 0, locals := 63 }
set_option maxHeartbeats 4000000 in
set_option maxRecDepth 100000 in
theorem t_Sh_fillBoxes_12 {p : Program} {l : Launch} {e : Env} {s : State} {m : MethodId} {args : Array Value} {below : List Frame} {meth : Method} {c : Code} {A : Nat → Prop} {G : Gl} {h0 : Nat} {q0 : Nat → Nat} (r0 : (Nat → Nat)) (k2 : Int32 → Int32 → Ob → Prop) (Q : Ob → Prop) (C : Cx p s m args meth c R_Sh b_Sh_fillBoxes 4 none G A)
    (hk2 : ∀ (x1 : Int32) (x2 : Int32) (o0 : Ob) (ls : Array Slot) (H : Heap) (locs : List Loc), lv_has ls 4 [(0, .ref h0), (1, .int x1), (2, .int x2)] → va_P G.1 CL (cw_Sh G h0 q0 r0 o0) H → va_D A (cw_Sh G h0 q0 r0 o0) → va_S A s.heap H locs → k2 x1 x2 o0 → W p l e rm_Sh_fillBoxes s m args below meth c H locs 0 0 (MQ below (va_Qv (fun (u : Ob) => Q u) (fun (u : Ob) t => BW G A (cw_Sh G h0 q0 r0 u) t) A) args s 0 0 A) (F0 m 2 ls [])) :
    ∀ (n : Nat) (x1 : Int32) (x2 : Int32) (x3 : Int32) (o0 : Ob) (ls : Array Slot) (H : Heap) (locs : List Loc), lv_has ls 4 [(0, .ref h0), (1, .int x1), (2, .int x2), (3, .int x3)] → va_P G.1 CL (cw_Sh G h0 q0 r0 o0) H → va_D A (cw_Sh G h0 q0 r0 o0) → va_S A s.heap H locs → f_Sh_fillBoxes_12 r0 k2 Q n x1 x2 x3 o0 → W p l e rm_Sh_fillBoxes s m args below meth c H locs 0 0 (MQ below (va_Qv (fun (u : Ob) => Q u) (fun (u : Ob) t => BW G A (cw_Sh G h0 q0 r0 u) t) A) args s 0 0 A) (F0 m 12 ls []) := by
  obtain ⟨hx, hb, hml, hown, hr, hts, hK, hA, hlocks, hE⟩ := id C
  intro n
  induction n with
  | zero => intro x1 x2 x3 o0 ls H locs hl hP hD hS h; exact absurd h id
  | succ n ih =>
    intro x1 x2 x3 o0 ls H locs hl hP hD hS h
    have hP : va_P G.1 CL [(h0, .inr (9, [.int (gI o0 0), .ref (q0 1), .ref (q0 2), .ref (q0 3), .ref (q0 4), .ref (q0 5), .ref (q0 6), .ref (q0 7), .int (gI o0 8), .ref (r0 9), .int (gI o0 10), .ref (r0 11)])), kI G (q0 1) 5 (gA o0 1), kI G (q0 2) 20 (gA o0 2), kI G (q0 3) 5 (gA o0 3), kI G (q0 4) 5 (gA o0 4), kI G (q0 5) 5 (gA o0 5), kI G (q0 6) 5 (gA o0 6), kI G (q0 7) 5 (gA o0 7), kB G (r0 9) (r0 109) (gA o0 9), kI G (r0 11) (r0 111) (gA o0 11)] H := hP
    have hD : va_D A [(h0, .inr (9, [.int (gI o0 0), .ref (q0 1), .ref (q0 2), .ref (q0 3), .ref (q0 4), .ref (q0 5), .ref (q0 6), .ref (q0 7), .int (gI o0 8), .ref (r0 9), .int (gI o0 10), .ref (r0 11)])), kI G (q0 1) 5 (gA o0 1), kI G (q0 2) 20 (gA o0 2), kI G (q0 3) 5 (gA o0 3), kI G (q0 4) 5 (gA o0 4), kI G (q0 5) 5 (gA o0 5), kI G (q0 6) 5 (gA o0 6), kI G (q0 7) 5 (gA o0 7), kB G (r0 9) (r0 109) (gA o0 9), kI G (r0 11) (r0 111) (gA o0 11)] := hD
    unfold f_Sh_fillBoxes_12 at h
    refine lv_iload_n hx hb d_Sh_fillBoxes_12 rfl (lv_at hl 3 rfl) ?_
    refine lv_aload_n hx hb d_Sh_fillBoxes_13 rfl (lv_at hl 0 rfl) ?_
    refine va_get (D := G.1) (ci := 9) (v := .int (gI o0 0)) (C := R_Sh) (T := T_Sh) (N := 12) hx hb hts i_Sh hown hK hP 0 rfl rfl 0 (by decide) (hts _ wf_Sh_40) (fun _ h9 => h9) rfl d_Sh_fillBoxes_14 ?_
    refine lv_icmp_ge (tgt := 38) hx hb d_Sh_fillBoxes_17 (by decide) (fun c1 => ?_) (fun c1 => ?_)
    · have h := h.1 c1
      refine lv_aload_n hx hb d_Sh_fillBoxes_38 rfl (lv_at hl 0 rfl) ?_
      refine va_get (D := G.1) (ci := 9) (v := .ref (r0 9)) (C := R_Sh) (T := T_Sh) (N := 12) hx hb hts i_Sh hown hK hP 0 rfl rfl 9 (by decide) (hts _ wf_Sh_33) (fun _ h9 => h9) rfl d_Sh_fillBoxes_39 ?_
      refine lv_iload_n hx hb d_Sh_fillBoxes_42 rfl (lv_at hl 1 rfl) ?_
      refine lv_aload_n hx hb d_Sh_fillBoxes_43 rfl (lv_at hl 0 rfl) ?_
      refine va_get (D := G.1) (ci := 9) (v := .int (gI o0 8)) (C := R_Sh) (T := T_Sh) (N := 12) hx hb hts i_Sh hown hK hP 0 rfl rfl 8 (by decide) (hts _ wf_Sh_69) (fun _ h9 => h9) rfl d_Sh_fillBoxes_44 ?_
      refine lv_imul hx hb d_Sh_fillBoxes_47 ?_
      refine lv_iload_n hx hb d_Sh_fillBoxes_48 rfl (lv_at hl 2 rfl) ?_
      refine lv_iadd hx hb d_Sh_fillBoxes_49 ?_
      refine lv_aload_n hx hb d_Sh_fillBoxes_50 rfl (lv_at hl 0 rfl) ?_
      refine va_get (D := G.1) (ci := 9) (v := .ref (q0 5)) (C := R_Sh) (T := T_Sh) (N := 12) hx hb hts i_Sh hown hK hP 0 rfl rfl 5 (by decide) (hts _ wf_Sh_24) (fun _ h9 => h9) rfl d_Sh_fillBoxes_51 ?_
      refine lv_aload_n hx hb d_Sh_fillBoxes_54 rfl (lv_at hl 0 rfl) ?_
      refine va_get (D := G.1) (ci := 9) (v := .int (gI o0 0)) (C := R_Sh) (T := T_Sh) (N := 12) hx hb hts i_Sh hown hK hP 0 rfl rfl 0 (by decide) (hts _ wf_Sh_40) (fun _ h9 => h9) rfl d_Sh_fillBoxes_55 ?_
      refine lv_iload_n hx hb d_Sh_fillBoxes_58 rfl (lv_at hl 1 rfl) ?_
      refine cl_Si (b := b_Sh_fillBoxes) (As := [.ref (q0 5), .int (gI o0 0), .int x1]) (rest := [.int ((x1 * (gI o0 8)) + x2), .ref (r0 9)]) (ws := [(h0, .inr (9, [.int (gI o0 0), .ref (q0 1), .ref (q0 2), .ref (q0 3), .ref (q0 4), .ref (q0 5), .ref (q0 6), .ref (q0 7), .int (gI o0 8), .ref (r0 9), .int (gI o0 10), .ref (r0 11)])), kI G (q0 1) 5 (gA o0 1), kI G (q0 2) 20 (gA o0 2), kI G (q0 3) 5 (gA o0 3), kI G (q0 4) 5 (gA o0 4), kI G (q0 5) 5 (gA o0 5), kI G (q0 6) 5 (gA o0 6), kI G (q0 7) 5 (gA o0 7), kB G (r0 9) (r0 109) (gA o0 9), kI G (r0 11) (r0 111) (gA o0 11)]) (wr := [(h0, .inr (9, [.int (gI o0 0), .ref (q0 1), .ref (q0 2), .ref (q0 3), .ref (q0 4), .ref (q0 5), .ref (q0 6), .ref (q0 7), .int (gI o0 8), .ref (r0 9), .int (gI o0 10), .ref (r0 11)])), kI G (q0 1) 5 (gA o0 1), kI G (q0 2) 20 (gA o0 2), kI G (q0 3) 5 (gA o0 3), kI G (q0 4) 5 (gA o0 4), kI G (q0 6) 5 (gA o0 6), kI G (q0 7) 5 (gA o0 7), kB G (r0 9) (r0 109) (gA o0 9), kI G (r0 11) (r0 111) (gA o0 11)]) (w2 := fun (u : Unit) => [(h0, .inr (9, [.int (gI o0 0), .ref (q0 1), .ref (q0 2), .ref (q0 3), .ref (q0 4), .ref (q0 5), .ref (q0 6), .ref (q0 7), .int (gI o0 8), .ref (r0 9), .int (gI o0 10), .ref (r0 11)])), kI G (q0 1) 5 (gA o0 1), kI G (q0 2) 20 (gA o0 2), kI G (q0 3) 5 (gA o0 3), kI G (q0 4) 5 (gA o0 4), kI G (q0 5) 5 (gA o0 5), kI G (q0 6) 5 (gA o0 6), kI G (q0 7) 5 (gA o0 7), kB G (r0 9) (r0 109) (gA o0 9), kI G (r0 11) (r0 111) (gA o0 11)]) C (c_To_boxOf (h0 := (q0 5)) H.size h) ws_Sh_80 ⟨Nat.le_of_ble_eq_true rfl, Nat.le_of_ble_eq_true rfl⟩ hP hD hS [5] [0, 1, 2, 3, 4, 6, 7, 8, 9] rfl rfl (by decide) (by decide) (by decide) [0, 1, 2, 3, 4, 9, 5, 6, 7, 8] (by decide) (fun u => rfl) rfl hl.1 rfl (lv_room (Nat.le_of_ble_eq_true rfl)) d_Sh_fillBoxes_59 ⟨Nat.le_of_ble_eq_true rfl, Nat.le_of_ble_eq_true rfl⟩ rfl rfl (fun z2 u H locs h hP hD hS => ?_)
      have hP : va_P G.1 CL [(h0, .inr (9, [.int (gI o0 0), .ref (q0 1), .ref (q0 2), .ref (q0 3), .ref (q0 4), .ref (q0 5), .ref (q0 6), .ref (q0 7), .int (gI o0 8), .ref (r0 9), .int (gI o0 10), .ref (r0 11)])), kI G (q0 1) 5 (gA o0 1), kI G (q0 2) 20 (gA o0 2), kI G (q0 3) 5 (gA o0 3), kI G (q0 4) 5 (gA o0 4), kI G (q0 5) 5 (gA o0 5), kI G (q0 6) 5 (gA o0 6), kI G (q0 7) 5 (gA o0 7), kB G (r0 9) (r0 109) (gA o0 9), kI G (r0 11) (r0 111) (gA o0 11)] H := hP
      have hD : va_D A [(h0, .inr (9, [.int (gI o0 0), .ref (q0 1), .ref (q0 2), .ref (q0 3), .ref (q0 4), .ref (q0 5), .ref (q0 6), .ref (q0 7), .int (gI o0 8), .ref (r0 9), .int (gI o0 10), .ref (r0 11)])), kI G (q0 1) 5 (gA o0 1), kI G (q0 2) 20 (gA o0 2), kI G (q0 3) 5 (gA o0 3), kI G (q0 4) 5 (gA o0 4), kI G (q0 5) 5 (gA o0 5), kI G (q0 6) 5 (gA o0 6), kI G (q0 7) 5 (gA o0 7), kB G (r0 9) (r0 109) (gA o0 9), kI G (r0 11) (r0 111) (gA o0 11)] := hD
      refine lv_i2b (v := (z2.toInt8.toInt32)) hx hb d_Sh_fillBoxes_62 rfl ?_
      have g3 := h.1
      have h := h.2
      refine xa_bast hx hb hK hP hD hS 8 2 rfl rfl g3 (k := ((x1 * (gI o0 8)) + x2).toNatClampNeg) rfl d_Sh_fillBoxes_63 (fun H locs hP hD hS => ?_)
      have hP : va_P G.1 CL [(h0, .inr (9, [.int (gI o0 0), .ref (q0 1), .ref (q0 2), .ref (q0 3), .ref (q0 4), .ref (q0 5), .ref (q0 6), .ref (q0 7), .int (gI o0 8), .ref (r0 9), .int (gI o0 10), .ref (r0 11)])), kI G (q0 1) 5 (gA o0 1), kI G (q0 2) 20 (gA o0 2), kI G (q0 3) 5 (gA o0 3), kI G (q0 4) 5 (gA o0 4), kI G (q0 5) 5 (gA o0 5), kI G (q0 6) 5 (gA o0 6), kI G (q0 7) 5 (gA o0 7), kB G (r0 9) (r0 109) (upd (gA o0 9) (((x1 * (gI o0 8)) + x2).toNatClampNeg) (vp_nar .byte (z2.toInt8.toInt32))), kI G (r0 11) (r0 111) (gA o0 11)] H := hP
      have hD : va_D A [(h0, .inr (9, [.int (gI o0 0), .ref (q0 1), .ref (q0 2), .ref (q0 3), .ref (q0 4), .ref (q0 5), .ref (q0 6), .ref (q0 7), .int (gI o0 8), .ref (r0 9), .int (gI o0 10), .ref (r0 11)])), kI G (q0 1) 5 (gA o0 1), kI G (q0 2) 20 (gA o0 2), kI G (q0 3) 5 (gA o0 3), kI G (q0 4) 5 (gA o0 4), kI G (q0 5) 5 (gA o0 5), kI G (q0 6) 5 (gA o0 6), kI G (q0 7) 5 (gA o0 7), kB G (r0 9) (r0 109) (upd (gA o0 9) (((x1 * (gI o0 8)) + x2).toNatClampNeg) (vp_nar .byte (z2.toInt8.toInt32))), kI G (r0 11) (r0 111) (gA o0 11)] := hD
      refine lv_iinc (v := (x2 + (1 : Int32))) (lv' := [(2, .int (x2 + (1 : Int32))), (0, .ref h0), (1, .int x1), (3, .int x3)]) hx hb d_Sh_fillBoxes_64 hl (k := 2) rfl rfl (by decide) rfl (fun ls hl => ?_)
      refine lv_goto (tgt := 2) hx hb d_Sh_fillBoxes_67 (by decide) ?_
      have hl := lv_sub (l' := [(0, .ref h0), (1, .int x1), (2, .int (x2 + (1 : Int32)))]) hl [1, 2, 0] rfl
      have hP : va_P G.1 CL (cw_Sh G h0 q0 r0 (sA o0 9 (upd (gA o0 9) (((x1 * (gI o0 8)) + x2).toNatClampNeg) (vp_nar .byte (z2.toInt8.toInt32))))) H := hP
      have hD : va_D A (cw_Sh G h0 q0 r0 (sA o0 9 (upd (gA o0 9) (((x1 * (gI o0 8)) + x2).toNatClampNeg) (vp_nar .byte (z2.toInt8.toInt32))))) := hD
      exact hk2 x1 (x2 + (1 : Int32)) (sA o0 9 (upd (gA o0 9) (((x1 * (gI o0 8)) + x2).toNatClampNeg) (vp_nar .byte (z2.toInt8.toInt32)))) ls H locs hl hP hD hS h
    · have h := h.2 c1
      refine lv_aload_n hx hb d_Sh_fillBoxes_20 rfl (lv_at hl 0 rfl) ?_
      refine va_get (D := G.1) (ci := 9) (v := .ref (q0 5)) (C := R_Sh) (T := T_Sh) (N := 12) hx hb hts i_Sh hown hK hP 0 rfl rfl 5 (by decide) (hts _ wf_Sh_24) (fun _ h9 => h9) rfl d_Sh_fillBoxes_21 ?_
      refine lv_iload_n hx hb d_Sh_fillBoxes_24 rfl (lv_at hl 3 rfl) ?_
      refine lv_aload_n hx hb d_Sh_fillBoxes_25 rfl (lv_at hl 0 rfl) ?_
      refine lv_iload_n hx hb d_Sh_fillBoxes_26 rfl (lv_at hl 2 rfl) ?_
      refine lv_iload_n hx hb d_Sh_fillBoxes_27 rfl (lv_at hl 3 rfl) ?_
      refine cl_Vi (b := b_Sh_fillBoxes) (As := [.int x2, .int x3]) (rest := [.int x3, .ref (q0 5)]) (ws := [(h0, .inr (9, [.int (gI o0 0), .ref (q0 1), .ref (q0 2), .ref (q0 3), .ref (q0 4), .ref (q0 5), .ref (q0 6), .ref (q0 7), .int (gI o0 8), .ref (r0 9), .int (gI o0 10), .ref (r0 11)])), kI G (q0 1) 5 (gA o0 1), kI G (q0 2) 20 (gA o0 2), kI G (q0 3) 5 (gA o0 3), kI G (q0 4) 5 (gA o0 4), kI G (q0 5) 5 (gA o0 5), kI G (q0 6) 5 (gA o0 6), kI G (q0 7) 5 (gA o0 7), kB G (r0 9) (r0 109) (gA o0 9), kI G (r0 11) (r0 111) (gA o0 11)]) (wr := []) (w2 := fun (u : Unit) => [(h0, .inr (9, [.int (gI o0 0), .ref (q0 1), .ref (q0 2), .ref (q0 3), .ref (q0 4), .ref (q0 5), .ref (q0 6), .ref (q0 7), .int (gI o0 8), .ref (r0 9), .int (gI o0 10), .ref (r0 11)])), kI G (q0 1) 5 (gA o0 1), kI G (q0 2) 20 (gA o0 2), kI G (q0 3) 5 (gA o0 3), kI G (q0 4) 5 (gA o0 4), kI G (q0 5) 5 (gA o0 5), kI G (q0 6) 5 (gA o0 6), kI G (q0 7) 5 (gA o0 7), kB G (r0 9) (r0 109) (gA o0 9), kI G (r0 11) (r0 111) (gA o0 11)]) C (c_Sh_widthIn (h0 := h0) (q0 := q0) H.size h) wv_Sh_76 ⟨Nat.le_of_ble_eq_true rfl, Nat.le_of_ble_eq_true rfl⟩ hP hD hS 0 rfl rfl [0, 1, 2, 3, 4, 5, 6, 7, 8, 9] [] rfl rfl (by decide) (by decide) (by decide) [0, 1, 2, 3, 4, 5, 6, 7, 8, 9] (by decide) (fun u => rfl) rfl hl.1 rfl (lv_room (Nat.le_of_ble_eq_true rfl)) d_Sh_fillBoxes_28 ⟨Nat.le_of_ble_eq_true rfl, Nat.le_of_ble_eq_true rfl⟩ rfl rfl (fun z4 u H locs h hP hD hS => ?_)
      have hP : va_P G.1 CL [(h0, .inr (9, [.int (gI o0 0), .ref (q0 1), .ref (q0 2), .ref (q0 3), .ref (q0 4), .ref (q0 5), .ref (q0 6), .ref (q0 7), .int (gI o0 8), .ref (r0 9), .int (gI o0 10), .ref (r0 11)])), kI G (q0 1) 5 (gA o0 1), kI G (q0 2) 20 (gA o0 2), kI G (q0 3) 5 (gA o0 3), kI G (q0 4) 5 (gA o0 4), kI G (q0 5) 5 (gA o0 5), kI G (q0 6) 5 (gA o0 6), kI G (q0 7) 5 (gA o0 7), kB G (r0 9) (r0 109) (gA o0 9), kI G (r0 11) (r0 111) (gA o0 11)] H := hP
      have hD : va_D A [(h0, .inr (9, [.int (gI o0 0), .ref (q0 1), .ref (q0 2), .ref (q0 3), .ref (q0 4), .ref (q0 5), .ref (q0 6), .ref (q0 7), .int (gI o0 8), .ref (r0 9), .int (gI o0 10), .ref (r0 11)])), kI G (q0 1) 5 (gA o0 1), kI G (q0 2) 20 (gA o0 2), kI G (q0 3) 5 (gA o0 3), kI G (q0 4) 5 (gA o0 4), kI G (q0 5) 5 (gA o0 5), kI G (q0 6) 5 (gA o0 6), kI G (q0 7) 5 (gA o0 7), kB G (r0 9) (r0 109) (gA o0 9), kI G (r0 11) (r0 111) (gA o0 11)] := hD
      have g5 := h.1
      have h := h.2
      refine xa_iast hx hb hK hP hD hS 5 0 rfl rfl g5 (k := x3.toNatClampNeg) rfl d_Sh_fillBoxes_31 (fun H locs hP hD hS => ?_)
      have hP : va_P G.1 CL [(h0, .inr (9, [.int (gI o0 0), .ref (q0 1), .ref (q0 2), .ref (q0 3), .ref (q0 4), .ref (q0 5), .ref (q0 6), .ref (q0 7), .int (gI o0 8), .ref (r0 9), .int (gI o0 10), .ref (r0 11)])), kI G (q0 1) 5 (gA o0 1), kI G (q0 2) 20 (gA o0 2), kI G (q0 3) 5 (gA o0 3), kI G (q0 4) 5 (gA o0 4), kI G (q0 5) 5 (upd (gA o0 5) x3.toNatClampNeg z4), kI G (q0 6) 5 (gA o0 6), kI G (q0 7) 5 (gA o0 7), kB G (r0 9) (r0 109) (gA o0 9), kI G (r0 11) (r0 111) (gA o0 11)] H := hP
      have hD : va_D A [(h0, .inr (9, [.int (gI o0 0), .ref (q0 1), .ref (q0 2), .ref (q0 3), .ref (q0 4), .ref (q0 5), .ref (q0 6), .ref (q0 7), .int (gI o0 8), .ref (r0 9), .int (gI o0 10), .ref (r0 11)])), kI G (q0 1) 5 (gA o0 1), kI G (q0 2) 20 (gA o0 2), kI G (q0 3) 5 (gA o0 3), kI G (q0 4) 5 (gA o0 4), kI G (q0 5) 5 (upd (gA o0 5) x3.toNatClampNeg z4), kI G (q0 6) 5 (gA o0 6), kI G (q0 7) 5 (gA o0 7), kB G (r0 9) (r0 109) (gA o0 9), kI G (r0 11) (r0 111) (gA o0 11)] := hD
      refine lv_iinc (v := (x3 + (1 : Int32))) (lv' := [(3, .int (x3 + (1 : Int32))), (0, .ref h0), (1, .int x1), (2, .int x2)]) hx hb d_Sh_fillBoxes_32 hl (k := 3) rfl rfl (by decide) rfl (fun ls hl => ?_)
      refine lv_goto (tgt := 12) hx hb d_Sh_fillBoxes_35 (by decide) ?_
      have hl := lv_sub (l' := [(0, .ref h0), (1, .int x1), (2, .int x2), (3, .int (x3 + (1 : Int32)))]) hl [1, 2, 3, 0] rfl
      have hP : va_P G.1 CL (cw_Sh G h0 q0 r0 (sA o0 5 (upd (gA o0 5) x3.toNatClampNeg z4))) H := hP
      have hD : va_D A (cw_Sh G h0 q0 r0 (sA o0 5 (upd (gA o0 5) x3.toNatClampNeg z4))) := hD
      exact ih x1 x2 (x3 + (1 : Int32)) (sA o0 5 (upd (gA o0 5) x3.toNatClampNeg z4)) ls H locs hl hP hD hS h
set_option maxHeartbeats 4000000 in
set_option maxRecDepth 100000 in
theorem t_Sh_fillBoxes_2 {p : Program} {l : Launch} {e : Env} {s : State} {m : MethodId} {args : Array Value} {below : List Frame} {meth : Method} {c : Code} {A : Nat → Prop} {G : Gl} {h0 : Nat} {q0 : Nat → Nat} (r0 : (Nat → Nat)) (Q : Ob → Prop) (C : Cx p s m args meth c R_Sh b_Sh_fillBoxes 4 none G A) :
    ∀ (n : Nat) (x1 : Int32) (x2 : Int32) (o0 : Ob) (ls : Array Slot) (H : Heap) (locs : List Loc), lv_has ls 4 [(0, .ref h0), (1, .int x1), (2, .int x2)] → va_P G.1 CL (cw_Sh G h0 q0 r0 o0) H → va_D A (cw_Sh G h0 q0 r0 o0) → va_S A s.heap H locs → f_Sh_fillBoxes_2 r0 Q n x1 x2 o0 → W p l e rm_Sh_fillBoxes s m args below meth c H locs 0 0 (MQ below (va_Qv (fun (u : Ob) => Q u) (fun (u : Ob) t => BW G A (cw_Sh G h0 q0 r0 u) t) A) args s 0 0 A) (F0 m 2 ls []) := by
  obtain ⟨hx, hb, hml, hown, hr, hts, hK, hA, hlocks, hE⟩ := id C
  intro n
  induction n with
  | zero => intro x1 x2 o0 ls H locs hl hP hD hS h; exact absurd h id
  | succ n ih =>
    intro x1 x2 o0 ls H locs hl hP hD hS h
    have hP : va_P G.1 CL [(h0, .inr (9, [.int (gI o0 0), .ref (q0 1), .ref (q0 2), .ref (q0 3), .ref (q0 4), .ref (q0 5), .ref (q0 6), .ref (q0 7), .int (gI o0 8), .ref (r0 9), .int (gI o0 10), .ref (r0 11)])), kI G (q0 1) 5 (gA o0 1), kI G (q0 2) 20 (gA o0 2), kI G (q0 3) 5 (gA o0 3), kI G (q0 4) 5 (gA o0 4), kI G (q0 5) 5 (gA o0 5), kI G (q0 6) 5 (gA o0 6), kI G (q0 7) 5 (gA o0 7), kB G (r0 9) (r0 109) (gA o0 9), kI G (r0 11) (r0 111) (gA o0 11)] H := hP
    have hD : va_D A [(h0, .inr (9, [.int (gI o0 0), .ref (q0 1), .ref (q0 2), .ref (q0 3), .ref (q0 4), .ref (q0 5), .ref (q0 6), .ref (q0 7), .int (gI o0 8), .ref (r0 9), .int (gI o0 10), .ref (r0 11)])), kI G (q0 1) 5 (gA o0 1), kI G (q0 2) 20 (gA o0 2), kI G (q0 3) 5 (gA o0 3), kI G (q0 4) 5 (gA o0 4), kI G (q0 5) 5 (gA o0 5), kI G (q0 6) 5 (gA o0 6), kI G (q0 7) 5 (gA o0 7), kB G (r0 9) (r0 109) (gA o0 9), kI G (r0 11) (r0 111) (gA o0 11)] := hD
    unfold f_Sh_fillBoxes_2 at h
    refine lv_iload_n hx hb d_Sh_fillBoxes_2 rfl (lv_at hl 2 rfl) ?_
    refine lv_aload_n hx hb d_Sh_fillBoxes_3 rfl (lv_at hl 0 rfl) ?_
    refine va_get (D := G.1) (ci := 9) (v := .int (gI o0 8)) (C := R_Sh) (T := T_Sh) (N := 12) hx hb hts i_Sh hown hK hP 0 rfl rfl 8 (by decide) (hts _ wf_Sh_69) (fun _ h9 => h9) rfl d_Sh_fillBoxes_4 ?_
    refine lv_icmp_ge (tgt := 70) hx hb d_Sh_fillBoxes_7 (by decide) (fun c6 => ?_) (fun c6 => ?_)
    · have h := h.1 c6
      have hP : va_P G.1 CL (cw_Sh G h0 q0 r0 o0) H := hP
      have hD : va_D A (cw_Sh G h0 q0 r0 o0) := hD
      exact W.vret hx hb hr (fun t ht hW => ⟨⟨o0, rfl, h, by rw [ht]; exact hP, va_K.moved hW.alike hK, hD⟩, hS.F ht⟩) hS.2.2 d_Sh_fillBoxes_70
    · have h := h.2 c6
      refine lv_iconst (v := (0 : Int32)) hx hb d_Sh_fillBoxes_10 (by decide) ?_
      refine lv_istore_n (lv' := [(3, .int (0 : Int32)), (0, .ref h0), (1, .int x1), (2, .int x2)]) hx hb d_Sh_fillBoxes_11 rfl hl (by decide) rfl (fun ls hl => ?_)
      have hl := lv_sub (l' := [(0, .ref h0), (1, .int x1), (2, .int x2), (3, .int (0 : Int32))]) hl [1, 2, 3, 0] rfl
      have hP : va_P G.1 CL (cw_Sh G h0 q0 r0 o0) H := hP
      have hD : va_D A (cw_Sh G h0 q0 r0 o0) := hD
      obtain ⟨w, h⟩ := h
      exact t_Sh_fillBoxes_12 r0 (f_Sh_fillBoxes_2 r0 Q n) Q C ih w x1 x2 (0 : Int32) o0 ls _ locs hl hP hD hS h
set_option maxHeartbeats 4000000 in
set_option maxRecDepth 100000 in
theorem c_Sh_fillBoxes {l : Launch} {G : Gl} {h0 : Nat} {q0 : Nat → Nat} {a0 : Int32} {r0 : (Nat → Nat)} {o0 : Ob} {Q : Ob → Prop} (sz : Nat) (h : f_Sh_fillBoxes a0 r0 o0 Q) : Met l y_Sh_fillBoxes w_Sh_fillBoxes rm_Sh_fillBoxes (PcW G [.ref h0, .int a0] sz (cw_Sh G h0 q0 r0 o0)) (va_Qv (fun (u : Ob) => Q u) (fun (u : Ob) t => BW G (va_A (cw_Sh G h0 q0 r0 o0) sz) (cw_Sh G h0 q0 r0 u) t) (va_A (cw_Sh G h0 q0 r0 o0) sz)) 0 0 (va_A (cw_Sh G h0 q0 r0 o0) sz) := by
  refine Met.ofW (cc := b_Sh_fillBoxes) (maxL := 4) (ret := none) (by decide +kernel) rfl ?_
  intro p e s m args below meth c s₁ B hml hv
  obtain ⟨rfl, hsz, hP, hK, hD0, hE⟩ := hv
  have hx := B.exec
  have hb := B.bytes
  have hr := B.returns
  have hts0 := atoms_spec (ws := w_Sh_fillBoxes) B.pre
  have hts : ∀ w ∈ gw_tbl, w.before ([.ref h0, .int a0]).toArray s = true := fun w hw => hts0 w (List.mem_cons_of_mem _ hw)
  have hown : s.vm.findClass R_Sh = some m.cls := findClass_of_methodNamed B.named
  have hlocks := B.notSynchronized
  subst hsz
  have hD := hD0.self (sz := s.heap.size)
  generalize hAe : va_A (cw_Sh G h0 q0 r0 o0) s.heap.size = A at hD hE ⊢
  have hA : ∀ q : Nat, s.heap.size ≤ q → A q := fun q h => by rw [← hAe]; exact Or.inr h
  have hS : va_S A s.heap s.heap [] := va_S.rf
  have C : Cx p s m ([.ref h0, .int a0]).toArray meth c R_Sh b_Sh_fillBoxes 4 none G A := ⟨hx, hb, hml, hown, hr, hts, hK, hA, hlocks, hE⟩
  have hl := lv_entry ([.ref h0, .int a0]) (n := 4) (Nat.le_of_ble_eq_true rfl)
  rw [lg_entry_eq]
  generalize (lg_sl ([.ref h0, .int a0]) ++ List.replicate (4 - (lg_sl ([.ref h0, .int a0])).length) Slot.unset).toArray = ls at hl ⊢
  have hl : lv_has ls 4 [(0, .ref h0), (1, .int a0)] := hl
  have hD : va_D A [(h0, .inr (9, [.int (gI o0 0), .ref (q0 1), .ref (q0 2), .ref (q0 3), .ref (q0 4), .ref (q0 5), .ref (q0 6), .ref (q0 7), .int (gI o0 8), .ref (r0 9), .int (gI o0 10), .ref (r0 11)])), kI G (q0 1) 5 (gA o0 1), kI G (q0 2) 20 (gA o0 2), kI G (q0 3) 5 (gA o0 3), kI G (q0 4) 5 (gA o0 4), kI G (q0 5) 5 (gA o0 5), kI G (q0 6) 5 (gA o0 6), kI G (q0 7) 5 (gA o0 7), kB G (r0 9) (r0 109) (gA o0 9), kI G (r0 11) (r0 111) (gA o0 11)] := hD
  unfold f_Sh_fillBoxes at h
  suffices key : ∀ (H : Heap) (locs : List Loc), va_P G.1 CL [(h0, .inr (9, [.int (gI o0 0), .ref (q0 1), .ref (q0 2), .ref (q0 3), .ref (q0 4), .ref (q0 5), .ref (q0 6), .ref (q0 7), .int (gI o0 8), .ref (r0 9), .int (gI o0 10), .ref (r0 11)])), kI G (q0 1) 5 (gA o0 1), kI G (q0 2) 20 (gA o0 2), kI G (q0 3) 5 (gA o0 3), kI G (q0 4) 5 (gA o0 4), kI G (q0 5) 5 (gA o0 5), kI G (q0 6) 5 (gA o0 6), kI G (q0 7) 5 (gA o0 7), kB G (r0 9) (r0 109) (gA o0 9), kI G (r0 11) (r0 111) (gA o0 11)] H → va_S A s.heap H locs → W p l e rm_Sh_fillBoxes s m ([.ref h0, .int a0]).toArray below meth c H locs 0 0 (MQ below (va_Qv (fun (u : Ob) => Q u) (fun (u : Ob) t => BW G A (cw_Sh G h0 q0 r0 u) t) A) ([.ref h0, .int a0]).toArray s 0 0 A) (F0 m 0 ls []) from key s.heap [] hP hS
  intro H locs hP hS
  refine lv_iconst (v := (0 : Int32)) hx hb d_Sh_fillBoxes_0 (by decide) ?_
  refine lv_istore_n (lv' := [(2, .int (0 : Int32)), (0, .ref h0), (1, .int a0)]) hx hb d_Sh_fillBoxes_1 rfl hl (by decide) rfl (fun ls hl => ?_)
  have hl := lv_sub (l' := [(0, .ref h0), (1, .int a0), (2, .int (0 : Int32))]) hl [1, 2, 0] rfl
  have hP : va_P G.1 CL (cw_Sh G h0 q0 r0 o0) H := hP
  have hD : va_D A (cw_Sh G h0 q0 r0 o0) := hD
  obtain ⟨w, h⟩ := h
  exact t_Sh_fillBoxes_2 r0 Q C w a0 (0 : Int32) o0 ls _ locs hl hP hD hS h
abbrev b_Sh_layOut : ByteArray := prog_10_method_3_code
def y_Sh_layOut : MethodName := ⟨R_Sh, "layOut", "([I)V"⟩
abbrev w_Sh_layOut : List Cond := Cond.code y_Sh_layOut b_Sh_layOut 4 none :: gw_tbl
theorem d_Sh_layOut_0 : decode b_Sh_layOut 0 = .ok (.iconst 1, 1) := by decide +kernel
theorem d_Sh_layOut_1 : decode b_Sh_layOut 1 = .ok (.istore_n 2, 1) := by decide +kernel
theorem d_Sh_layOut_2 : decode b_Sh_layOut 2 = .ok (.iconst 0, 1) := by decide +kernel
theorem d_Sh_layOut_3 : decode b_Sh_layOut 3 = .ok (.istore_n 3, 1) := by decide +kernel
theorem d_Sh_layOut_4 : decode b_Sh_layOut 4 = .ok (.iload_n 3, 1) := by decide +kernel
theorem d_Sh_layOut_5 : decode b_Sh_layOut 5 = .ok (.aload_n 0, 1) := by decide +kernel
theorem d_Sh_layOut_6 : decode b_Sh_layOut 6 = .ok (.getfield 40, 3) := by decide +kernel
theorem d_Sh_layOut_9 : decode b_Sh_layOut 9 = .ok (.if_icmp .ge 31, 3) := by decide +kernel
theorem d_Sh_layOut_12 : decode b_Sh_layOut 12 = .ok (.iload_n 2, 1) := by decide +kernel
theorem d_Sh_layOut_13 : decode b_Sh_layOut 13 = .ok (.ifCond .eq 19, 3) := by decide +kernel
theorem d_Sh_layOut_16 : decode b_Sh_layOut 16 = .ok (.aload_n 0, 1) := by decide +kernel
theorem d_Sh_layOut_17 : decode b_Sh_layOut 17 = .ok (.getfield 9, 3) := by decide +kernel
theorem d_Sh_layOut_20 : decode b_Sh_layOut 20 = .ok (.iload_n 3, 1) := by decide +kernel
theorem d_Sh_layOut_21 : decode b_Sh_layOut 21 = .ok (.iaload, 1) := by decide +kernel
theorem d_Sh_layOut_22 : decode b_Sh_layOut 22 = .ok (.aload_n 1, 1) := by decide +kernel
theorem d_Sh_layOut_23 : decode b_Sh_layOut 23 = .ok (.iload_n 3, 1) := by decide +kernel
theorem d_Sh_layOut_24 : decode b_Sh_layOut 24 = .ok (.iaload, 1) := by decide +kernel
theorem d_Sh_layOut_25 : decode b_Sh_layOut 25 = .ok (.if_icmp .ne 7, 3) := by decide +kernel
theorem d_Sh_layOut_28 : decode b_Sh_layOut 28 = .ok (.iconst 1, 1) := by decide +kernel
theorem d_Sh_layOut_29 : decode b_Sh_layOut 29 = .ok (.goto 4, 3) := by decide +kernel
theorem d_Sh_layOut_32 : decode b_Sh_layOut 32 = .ok (.iconst 0, 1) := by decide +kernel
theorem d_Sh_layOut_33 : decode b_Sh_layOut 33 = .ok (.istore_n 2, 1) := by decide +kernel
theorem d_Sh_layOut_34 : decode b_Sh_layOut 34 = .ok (.iinc 3 1, 3) := by decide +kernel
theorem d_Sh_layOut_37 : decode b_Sh_layOut 37 = .ok (.goto (-33), 3) := by decide +kernel
theorem d_Sh_layOut_40 : decode b_Sh_layOut 40 = .ok (.iload_n 2, 1) := by decide +kernel
theorem d_Sh_layOut_41 : decode b_Sh_layOut 41 = .ok (.ifCond .eq 4, 3) := by decide +kernel
theorem d_Sh_layOut_44 : decode b_Sh_layOut 44 = .ok (.return_, 1) := by decide +kernel
theorem d_Sh_layOut_45 : decode b_Sh_layOut 45 = .ok (.aload_n 0, 1) := by decide +kernel
theorem d_Sh_layOut_46 : decode b_Sh_layOut 46 = .ok (.iconst 1, 1) := by decide +kernel
theorem d_Sh_layOut_47 : decode b_Sh_layOut 47 = .ok (.putfield 69, 3) := by decide +kernel
theorem d_Sh_layOut_50 : decode b_Sh_layOut 50 = .ok (.aload_n 0, 1) := by decide +kernel
theorem d_Sh_layOut_51 : decode b_Sh_layOut 51 = .ok (.getfield 40, 3) := by decide +kernel
theorem d_Sh_layOut_54 : decode b_Sh_layOut 54 = .ok (.iconst 1, 1) := by decide +kernel
theorem d_Sh_layOut_55 : decode b_Sh_layOut 55 = .ok (.isub, 1) := by decide +kernel
theorem d_Sh_layOut_56 : decode b_Sh_layOut 56 = .ok (.istore_n 3, 1) := by decide +kernel
theorem d_Sh_layOut_57 : decode b_Sh_layOut 57 = .ok (.iload_n 3, 1) := by decide +kernel
theorem d_Sh_layOut_58 : decode b_Sh_layOut 58 = .ok (.ifCond .lt 54, 3) := by decide +kernel
theorem d_Sh_layOut_61 : decode b_Sh_layOut 61 = .ok (.aload_n 0, 1) := by decide +kernel
theorem d_Sh_layOut_62 : decode b_Sh_layOut 62 = .ok (.getfield 9, 3) := by decide +kernel
theorem d_Sh_layOut_65 : decode b_Sh_layOut 65 = .ok (.iload_n 3, 1) := by decide +kernel
theorem d_Sh_layOut_66 : decode b_Sh_layOut 66 = .ok (.aload_n 1, 1) := by decide +kernel
theorem d_Sh_layOut_67 : decode b_Sh_layOut 67 = .ok (.iload_n 3, 1) := by decide +kernel
theorem d_Sh_layOut_68 : decode b_Sh_layOut 68 = .ok (.iaload, 1) := by decide +kernel
theorem d_Sh_layOut_69 : decode b_Sh_layOut 69 = .ok (.iastore, 1) := by decide +kernel
theorem d_Sh_layOut_70 : decode b_Sh_layOut 70 = .ok (.aload_n 0, 1) := by decide +kernel
theorem d_Sh_layOut_71 : decode b_Sh_layOut 71 = .ok (.getfield 18, 3) := by decide +kernel
theorem d_Sh_layOut_74 : decode b_Sh_layOut 74 = .ok (.iload_n 3, 1) := by decide +kernel
theorem d_Sh_layOut_75 : decode b_Sh_layOut 75 = .ok (.aload_n 0, 1) := by decide +kernel
theorem d_Sh_layOut_76 : decode b_Sh_layOut 76 = .ok (.iload_n 3, 1) := by decide +kernel
theorem d_Sh_layOut_77 : decode b_Sh_layOut 77 = .ok (.invokevirtual 72, 3) := by decide +kernel
theorem d_Sh_layOut_80 : decode b_Sh_layOut 80 = .ok (.iastore, 1) := by decide +kernel
theorem d_Sh_layOut_81 : decode b_Sh_layOut 81 = .ok (.aload_n 0, 1) := by decide +kernel
theorem d_Sh_layOut_82 : decode b_Sh_layOut 82 = .ok (.getfield 21, 3) := by decide +kernel
theorem d_Sh_layOut_85 : decode b_Sh_layOut 85 = .ok (.iload_n 3, 1) := by decide +kernel
theorem d_Sh_layOut_86 : decode b_Sh_layOut 86 = .ok (.aload_n 0, 1) := by decide +kernel
theorem d_Sh_layOut_87 : decode b_Sh_layOut 87 = .ok (.getfield 69, 3) := by decide +kernel
theorem d_Sh_layOut_90 : decode b_Sh_layOut 90 = .ok (.iastore, 1) := by decide +kernel
theorem d_Sh_layOut_91 : decode b_Sh_layOut 91 = .ok (.aload_n 0, 1) := by decide +kernel
theorem d_Sh_layOut_92 : decode b_Sh_layOut 92 = .ok (.dup, 1) := by decide +kernel
theorem d_Sh_layOut_93 : decode b_Sh_layOut 93 = .ok (.getfield 69, 3) := by decide +kernel
theorem d_Sh_layOut_96 : decode b_Sh_layOut 96 = .ok (.aload_n 0, 1) := by decide +kernel
theorem d_Sh_layOut_97 : decode b_Sh_layOut 97 = .ok (.getfield 18, 3) := by decide +kernel
theorem d_Sh_layOut_100 : decode b_Sh_layOut 100 = .ok (.iload_n 3, 1) := by decide +kernel
theorem d_Sh_layOut_101 : decode b_Sh_layOut 101 = .ok (.iaload, 1) := by decide +kernel
theorem d_Sh_layOut_102 : decode b_Sh_layOut 102 = .ok (.imul, 1) := by decide +kernel
theorem d_Sh_layOut_103 : decode b_Sh_layOut 103 = .ok (.putfield 69, 3) := by decide +kernel
theorem d_Sh_layOut_106 : decode b_Sh_layOut 106 = .ok (.iinc 3 (-1), 3) := by decide +kernel
theorem d_Sh_layOut_109 : decode b_Sh_layOut 109 = .ok (.goto (-52), 3) := by decide +kernel
theorem d_Sh_layOut_112 : decode b_Sh_layOut 112 = .ok (.aload_n 0, 1) := by decide +kernel
theorem d_Sh_layOut_113 : decode b_Sh_layOut 113 = .ok (.iconst 0, 1) := by decide +kernel
theorem d_Sh_layOut_114 : decode b_Sh_layOut 114 = .ok (.putfield 62, 3) := by decide +kernel
theorem d_Sh_layOut_117 : decode b_Sh_layOut 117 = .ok (.aload_n 0, 1) := by decide +kernel
theorem d_Sh_layOut_118 : decode b_Sh_layOut 118 = .ok (.getfield 33, 3) := by decide +kernel
theorem d_Sh_layOut_121 : decode b_Sh_layOut 121 = .ok (.arraylength, 1) := by decide +kernel
theorem d_Sh_layOut_122 : decode b_Sh_layOut 122 = .ok (.aload_n 0, 1) := by decide +kernel
theorem d_Sh_layOut_123 : decode b_Sh_layOut 123 = .ok (.getfield 69, 3) := by decide +kernel
theorem d_Sh_layOut_126 : decode b_Sh_layOut 126 = .ok (.iconst 5, 1) := by decide +kernel
theorem d_Sh_layOut_127 : decode b_Sh_layOut 127 = .ok (.imul, 1) := by decide +kernel
theorem d_Sh_layOut_128 : decode b_Sh_layOut 128 = .ok (.if_icmp .ge 15, 3) := by decide +kernel
theorem d_Sh_layOut_131 : decode b_Sh_layOut 131 = .ok (.aload_n 0, 1) := by decide +kernel
theorem d_Sh_layOut_132 : decode b_Sh_layOut 132 = .ok (.aload_n 0, 1) := by decide +kernel
theorem d_Sh_layOut_133 : decode b_Sh_layOut 133 = .ok (.getfield 69, 3) := by decide +kernel
theorem d_Sh_layOut_136 : decode b_Sh_layOut 136 = .ok (.iconst 5, 1) := by decide +kernel
theorem d_Sh_layOut_137 : decode b_Sh_layOut 137 = .ok (.imul, 1) := by decide +kernel
theorem d_Sh_layOut_138 : decode b_Sh_layOut 138 = .ok (.newarray .byte, 2) := by decide +kernel
theorem d_Sh_layOut_140 : decode b_Sh_layOut 140 = .ok (.putfield 33, 3) := by decide +kernel
theorem d_Sh_layOut_143 : decode b_Sh_layOut 143 = .ok (.return_, 1) := by decide +kernel
theorem wf_Sh_62 : Cond.fieldLink R_Sh 62 R_Sh "boxed" "I" ∈ gw_tbl := gw_tb (List.mem_of_getElem? (i := 411) (by decide +kernel)) rfl
theorem wa_byte : Cond.arrayClass .byte ∈ gw_tbl := gw_tb (List.mem_of_getElem? (i := 51) (by decide +kernel)) rfl
theorem wv_Sh_72 : wV R_Sh 72 y_Sh_listChoices b_Sh_listChoices 4 (some .int) 1 := ⟨⟨gw_tb (List.mem_of_getElem? (i := 845) (by decide +kernel)) rfl, gw_tb (List.mem_of_getElem? (i := 12) (by decide +kernel)) rfl, gw_tb (List.mem_of_getElem? (i := 848) (by decide +kernel)) rfl, by decide, by decide, by decide +kernel⟩, gw_tb (List.mem_of_getElem? (i := 847) (by decide +kernel)) rfl, gw_of (List.mem_append_left _ (List.mem_of_getElem? (i := 24) (by decide +kernel))) rfl⟩
def f_Sh_layOut_57 (o1 : (Nat → Int32)) (Q : (Nat → Nat) → Ob → Prop) : Nat → Nat → Nat → Int32 → (Nat → Nat) → Ob → Prop
  | 0, _, _, _, _, _ => False
  | n + 1, cs, sl, x3, r0, o0 => (x3 < 0 → ((((gI o0 8) * (5 : Int32)) ≤ (nI (r0 109)) → ((cs ≤ 1) ∧ ((sl ≤ 5120) ∧ (Q r0 (sI o0 10 (0 : Int32)))))) ∧ (¬ ((gI o0 8) * (5 : Int32)) ≤ (nI (r0 109)) → ((¬ ((gI o0 8) * (5 : Int32)) < 0) ∧ ((cs + 1 ≤ 1) ∧ ((sl + ((gI o0 8) * (5 : Int32)).toNatClampNeg ≤ 5120) ∧ (∀ q8 : Nat, (((cs + 1) ≤ 1) ∧ (((sl + ((gI o0 8) * (5 : Int32)).toNatClampNeg) ≤ 5120) ∧ (Q (up (up r0 9 q8) 109 ((gI o0 8) * (5 : Int32)).toNatClampNeg) (sA (sI o0 10 (0 : Int32)) 9 (fun _ => 0)))))))))))) ∧ (¬ x3 < 0 → ((vp_in x3 5) ∧ ((vp_in x3 5) ∧ ((cs ≤ 1) ∧ ((sl ≤ 5120) ∧ (f_Sh_listChoices x3 r0 (sA o0 1 (upd (gA o0 1) x3.toNatClampNeg (o1 x3.toNatClampNeg))) (fun z15 u16 => (vp_in x3 5) ∧ ((vp_in x3 5) ∧ ((vp_in x3 5) ∧ (∀ y20 : Int32, y20 = ((upd (gA u16 3) x3.toNatClampNeg z15) x3.toNatClampNeg) → ((f_Sh_layOut_57 o1 Q n) cs sl (x3 + (-1 : Int32)) r0 (sA (sA (sI u16 8 ((gI u16 8) * y20)) 3 (upd (gA u16 3) x3.toNatClampNeg z15)) 4 (upd (gA u16 4) x3.toNatClampNeg (gI u16 8))))))))))))))
def f_Sh_layOut_4 (o1 : (Nat → Int32)) (Q : (Nat → Nat) → Ob → Prop) : Nat → Nat → Nat → Int32 → Int32 → (Nat → Nat) → Ob → Prop
  | 0, _, _, _, _, _, _ => False
  | n + 1, cs, sl, x2, x3, r0, o0 => ((gI o0 0) ≤ x3 → ((x2 = 0 → ((∃ w, f_Sh_layOut_57 o1 Q w cs sl ((gI o0 0) - (1 : Int32)) r0 (sI o0 8 (1 : Int32))))) ∧ (¬ x2 = 0 → ((cs ≤ 1) ∧ ((sl ≤ 5120) ∧ (Q r0 o0)))))) ∧ (¬ (gI o0 0) ≤ x3 → ((x2 = 0 → ((f_Sh_layOut_4 o1 Q n) cs sl (0 : Int32) (x3 + (1 : Int32)) r0 o0)) ∧ (¬ x2 = 0 → ((vp_in x3 5) ∧ ((vp_in x3 5) ∧ ((((gA o0 1) x3.toNatClampNeg) = (o1 x3.toNatClampNeg) → ((f_Sh_layOut_4 o1 Q n) cs sl (1 : Int32) (x3 + (1 : Int32)) r0 o0)) ∧ (¬ ((gA o0 1) x3.toNatClampNeg) = (o1 x3.toNatClampNeg) → ((f_Sh_layOut_4 o1 Q n) cs sl (0 : Int32) (x3 + (1 : Int32)) r0 o0))))))))
def f_Sh_layOut (r0 : (Nat → Nat)) (o0 : Ob) (o1 : (Nat → Int32)) (Q : (Nat → Nat) → Ob → Prop) : Prop := (∃ w, f_Sh_layOut_4 o1 Q w 0 0 (1 : Int32) (0 : Int32) r0 o0)
abbrev rm_Sh_layOut : Room := { frames := 1, cells := 1, slots := 5120, locals := 23 }
set_option maxHeartbeats 4000000 in
set_option maxRecDepth 100000 in
theorem t_Sh_layOut_57 {p : Program} {l : Launch} {e : Env} {s : State} {m : MethodId} {args : Array Value} {below : List Frame} {meth : Method} {c : Code} {A : Nat → Prop} {G : Gl} {h0 : Nat} {h1 : Nat} {q0 : Nat → Nat} (o1 : (Nat → Int32)) (Q : (Nat → Nat) → Ob → Prop) (C : Cx p s m args meth c R_Sh b_Sh_layOut 4 none G A) :
    ∀ (n : Nat) (cs sl : Nat) (x3 : Int32) (r0 : (Nat → Nat)) (o0 : Ob) (ls : Array Slot) (H : Heap) (locs : List Loc), lv_has ls 4 [(0, .ref h0), (1, .ref h1), (3, .int x3)] → va_P G.1 CL (cw_Sh G h0 q0 r0 o0 ++ ([kI G h1 5 o1])) H → va_D A (cw_Sh G h0 q0 r0 o0 ++ ([kI G h1 5 o1])) → va_S A s.heap H locs → f_Sh_layOut_57 o1 Q n cs sl x3 r0 o0 → W p l e rm_Sh_layOut s m args below meth c H locs cs sl (MQ below (va_Qv (fun (u : (Nat → Nat) × Ob) => Q u.1 u.2) (fun (u : (Nat → Nat) × Ob) t => BW G A (cw_Sh G h0 q0 u.1 u.2 ++ ([kI G h1 5 o1])) t) A) args s 1 5120 A) (F0 m 57 ls []) := by
  obtain ⟨hx, hb, hml, hown, hr, hts, hK, hA, hlocks, hE⟩ := id C
  intro n
  induction n with
  | zero => intro cs sl x3 r0 o0 ls H locs hl hP hD hS h; exact absurd h id
  | succ n ih =>
    intro cs sl x3 r0 o0 ls H locs hl hP hD hS h
    have hP : va_P G.1 CL [(h0, .inr (9, [.int (gI o0 0), .ref (q0 1), .ref (q0 2), .ref (q0 3), .ref (q0 4), .ref (q0 5), .ref (q0 6), .ref (q0 7), .int (gI o0 8), .ref (r0 9), .int (gI o0 10), .ref (r0 11)])), kI G (q0 1) 5 (gA o0 1), kI G (q0 2) 20 (gA o0 2), kI G (q0 3) 5 (gA o0 3), kI G (q0 4) 5 (gA o0 4), kI G (q0 5) 5 (gA o0 5), kI G (q0 6) 5 (gA o0 6), kI G (q0 7) 5 (gA o0 7), kB G (r0 9) (r0 109) (gA o0 9), kI G (r0 11) (r0 111) (gA o0 11), kI G h1 5 o1] H := hP
    have hD : va_D A [(h0, .inr (9, [.int (gI o0 0), .ref (q0 1), .ref (q0 2), .ref (q0 3), .ref (q0 4), .ref (q0 5), .ref (q0 6), .ref (q0 7), .int (gI o0 8), .ref (r0 9), .int (gI o0 10), .ref (r0 11)])), kI G (q0 1) 5 (gA o0 1), kI G (q0 2) 20 (gA o0 2), kI G (q0 3) 5 (gA o0 3), kI G (q0 4) 5 (gA o0 4), kI G (q0 5) 5 (gA o0 5), kI G (q0 6) 5 (gA o0 6), kI G (q0 7) 5 (gA o0 7), kB G (r0 9) (r0 109) (gA o0 9), kI G (r0 11) (r0 111) (gA o0 11), kI G h1 5 o1] := hD
    unfold f_Sh_layOut_57 at h
    refine lv_iload_n hx hb d_Sh_layOut_57 rfl (lv_at hl 2 rfl) ?_
    refine lv_if_lt (tgt := 112) hx hb d_Sh_layOut_58 (by decide) (fun c1 => ?_) (fun c1 => ?_)
    · have h := h.1 c1
      refine lv_aload_n hx hb d_Sh_layOut_112 rfl (lv_at hl 0 rfl) ?_
      refine lv_iconst (v := (0 : Int32)) hx hb d_Sh_layOut_113 (by decide) ?_
      refine va_put (D := G.1) (ci := 9) (v := .int (0 : Int32)) (ty := .int) (C := R_Sh) (T := T_Sh) (N := 12) hx hb hts i_Sh ty_Sh ty_Sh_ok nm_Sh hown hK hP hD hS 0 rfl rfl 10 (by decide) (hts _ wf_Sh_62) (fun _ h9 => h9) rfl (ty_Sh_ok 10 (by decide)) rfl rfl (Nat.le_of_ble_eq_true rfl) d_Sh_layOut_114 (fun H locs hP hD hS => ?_)
      have hP : va_P G.1 CL [(h0, .inr (9, [.int (gI o0 0), .ref (q0 1), .ref (q0 2), .ref (q0 3), .ref (q0 4), .ref (q0 5), .ref (q0 6), .ref (q0 7), .int (gI o0 8), .ref (r0 9), .int (0 : Int32), .ref (r0 11)])), kI G (q0 1) 5 (gA o0 1), kI G (q0 2) 20 (gA o0 2), kI G (q0 3) 5 (gA o0 3), kI G (q0 4) 5 (gA o0 4), kI G (q0 5) 5 (gA o0 5), kI G (q0 6) 5 (gA o0 6), kI G (q0 7) 5 (gA o0 7), kB G (r0 9) (r0 109) (gA o0 9), kI G (r0 11) (r0 111) (gA o0 11), kI G h1 5 o1] H := hP
      have hD : va_D A [(h0, .inr (9, [.int (gI o0 0), .ref (q0 1), .ref (q0 2), .ref (q0 3), .ref (q0 4), .ref (q0 5), .ref (q0 6), .ref (q0 7), .int (gI o0 8), .ref (r0 9), .int (0 : Int32), .ref (r0 11)])), kI G (q0 1) 5 (gA o0 1), kI G (q0 2) 20 (gA o0 2), kI G (q0 3) 5 (gA o0 3), kI G (q0 4) 5 (gA o0 4), kI G (q0 5) 5 (gA o0 5), kI G (q0 6) 5 (gA o0 6), kI G (q0 7) 5 (gA o0 7), kB G (r0 9) (r0 109) (gA o0 9), kI G (r0 11) (r0 111) (gA o0 11), kI G h1 5 o1] := hD
      refine lv_aload_n hx hb d_Sh_layOut_117 rfl (lv_at hl 0 rfl) ?_
      refine va_get (D := G.1) (ci := 9) (v := .ref (r0 9)) (C := R_Sh) (T := T_Sh) (N := 12) hx hb hts i_Sh hown hK hP 0 rfl rfl 9 (by decide) (hts _ wf_Sh_33) (fun _ h9 => h9) rfl d_Sh_layOut_118 ?_
      refine va_alen hx hb hK hP 8 2 rfl rfl (v := (nI (r0 109))) rfl d_Sh_layOut_121 ?_
      refine lv_aload_n hx hb d_Sh_layOut_122 rfl (lv_at hl 0 rfl) ?_
      refine va_get (D := G.1) (ci := 9) (v := .int (gI o0 8)) (C := R_Sh) (T := T_Sh) (N := 12) hx hb hts i_Sh hown hK hP 0 rfl rfl 8 (by decide) (hts _ wf_Sh_69) (fun _ h9 => h9) rfl d_Sh_layOut_123 ?_
      refine lv_iconst (v := (5 : Int32)) hx hb d_Sh_layOut_126 (by decide) ?_
      refine lv_imul hx hb d_Sh_layOut_127 ?_
      refine lv_icmp_ge (tgt := 143) hx hb d_Sh_layOut_128 (by decide) (fun c2 => ?_) (fun c2 => ?_)
      · have h := h.1 c2
        have g3 := h.1
        have h := h.2
        have g4 := h.1
        have h := h.2
        refine W.widen (k := 1) (n := 5120) g3 g4 ?_
        have hP : va_P G.1 CL (cw_Sh G h0 q0 r0 (sI o0 10 (0 : Int32)) ++ ([kI G h1 5 o1])) H := hP
        have hD : va_D A (cw_Sh G h0 q0 r0 (sI o0 10 (0 : Int32)) ++ ([kI G h1 5 o1])) := hD
        exact W.vret hx hb hr (fun t ht hW => ⟨⟨(r0, (sI o0 10 (0 : Int32))), rfl, h, by rw [ht]; exact hP, va_K.moved hW.alike hK, hD⟩, hS.F ht⟩) hS.2.2 d_Sh_layOut_143
      · have h := h.2 c2
        refine lv_aload_n hx hb d_Sh_layOut_131 rfl (lv_at hl 0 rfl) ?_
        refine lv_aload_n hx hb d_Sh_layOut_132 rfl (lv_at hl 0 rfl) ?_
        refine va_get (D := G.1) (ci := 9) (v := .int (gI o0 8)) (C := R_Sh) (T := T_Sh) (N := 12) hx hb hts i_Sh hown hK hP 0 rfl rfl 8 (by decide) (hts _ wf_Sh_69) (fun _ h9 => h9) rfl d_Sh_layOut_133 ?_
        refine lv_iconst (v := (5 : Int32)) hx hb d_Sh_layOut_136 (by decide) ?_
        refine lv_imul hx hb d_Sh_layOut_137 ?_
        have g5 := h.1
        have h := h.2
        have g6 := h.1
        have h := h.2
        have g7 := h.1
        have h := h.2
        refine xa_newAB C (hts _ wa_byte) hP hD hS g5 rfl (Nat.le_trans (Nat.le_trans (Nat.le_add_left _ _) g7) (Nat.le_of_ble_eq_true rfl)) g6 g7 d_Sh_layOut_138 (fun q8 H hP hD hS => ?_)
        have h := h q8
        have hP : va_P G.1 CL [(h0, .inr (9, [.int (gI o0 0), .ref (q0 1), .ref (q0 2), .ref (q0 3), .ref (q0 4), .ref (q0 5), .ref (q0 6), .ref (q0 7), .int (gI o0 8), .ref (r0 9), .int (0 : Int32), .ref (r0 11)])), kI G (q0 1) 5 (gA o0 1), kI G (q0 2) 20 (gA o0 2), kI G (q0 3) 5 (gA o0 3), kI G (q0 4) 5 (gA o0 4), kI G (q0 5) 5 (gA o0 5), kI G (q0 6) 5 (gA o0 6), kI G (q0 7) 5 (gA o0 7), kB G (r0 9) (r0 109) (gA o0 9), kI G (r0 11) (r0 111) (gA o0 11), kI G h1 5 o1, kB G q8 ((gI o0 8) * (5 : Int32)).toNatClampNeg (fun _ => 0)] H := hP
        have hD : va_D A [(h0, .inr (9, [.int (gI o0 0), .ref (q0 1), .ref (q0 2), .ref (q0 3), .ref (q0 4), .ref (q0 5), .ref (q0 6), .ref (q0 7), .int (gI o0 8), .ref (r0 9), .int (0 : Int32), .ref (r0 11)])), kI G (q0 1) 5 (gA o0 1), kI G (q0 2) 20 (gA o0 2), kI G (q0 3) 5 (gA o0 3), kI G (q0 4) 5 (gA o0 4), kI G (q0 5) 5 (gA o0 5), kI G (q0 6) 5 (gA o0 6), kI G (q0 7) 5 (gA o0 7), kB G (r0 9) (r0 109) (gA o0 9), kI G (r0 11) (r0 111) (gA o0 11), kI G h1 5 o1, kB G q8 ((gI o0 8) * (5 : Int32)).toNatClampNeg (fun _ => 0)] := hD
        refine va_put (D := G.1) (ci := 9) (v := .ref q8) (ty := (.array .byte)) (C := R_Sh) (T := T_Sh) (N := 12) hx hb hts i_Sh ty_Sh ty_Sh_ok nm_Sh hown hK hP hD hS 0 rfl rfl 9 (by decide) (hts _ wf_Sh_33) (fun _ h9 => h9) rfl (ty_Sh_ok 9 (by decide)) rfl rfl (Nat.le_of_ble_eq_true rfl) d_Sh_layOut_140 (fun H locs hP hD hS => ?_)
        obtain ⟨hP, hD⟩ := perm_of (w2 := [(h0, .inr (9, [.int (gI o0 0), .ref (q0 1), .ref (q0 2), .ref (q0 3), .ref (q0 4), .ref (q0 5), .ref (q0 6), .ref (q0 7), .int (gI o0 8), .ref q8, .int (0 : Int32), .ref (r0 11)])), kI G (q0 1) 5 (gA o0 1), kI G (q0 2) 20 (gA o0 2), kI G (q0 3) 5 (gA o0 3), kI G (q0 4) 5 (gA o0 4), kI G (q0 5) 5 (gA o0 5), kI G (q0 6) 5 (gA o0 6), kI G (q0 7) 5 (gA o0 7), kB G q8 ((gI o0 8) * (5 : Int32)).toNatClampNeg (fun _ => 0), kI G (r0 11) (r0 111) (gA o0 11), kI G h1 5 o1]) hP hD [0, 1, 2, 3, 4, 5, 6, 7, 11, 9, 10] (by decide) rfl
        have hP : va_P G.1 CL [(h0, .inr (9, [.int (gI o0 0), .ref (q0 1), .ref (q0 2), .ref (q0 3), .ref (q0 4), .ref (q0 5), .ref (q0 6), .ref (q0 7), .int (gI o0 8), .ref q8, .int (0 : Int32), .ref (r0 11)])), kI G (q0 1) 5 (gA o0 1), kI G (q0 2) 20 (gA o0 2), kI G (q0 3) 5 (gA o0 3), kI G (q0 4) 5 (gA o0 4), kI G (q0 5) 5 (gA o0 5), kI G (q0 6) 5 (gA o0 6), kI G (q0 7) 5 (gA o0 7), kB G q8 ((gI o0 8) * (5 : Int32)).toNatClampNeg (fun _ => 0), kI G (r0 11) (r0 111) (gA o0 11), kI G h1 5 o1] H := hP
        have hD : va_D A [(h0, .inr (9, [.int (gI o0 0), .ref (q0 1), .ref (q0 2), .ref (q0 3), .ref (q0 4), .ref (q0 5), .ref (q0 6), .ref (q0 7), .int (gI o0 8), .ref q8, .int (0 : Int32), .ref (r0 11)])), kI G (q0 1) 5 (gA o0 1), kI G (q0 2) 20 (gA o0 2), kI G (q0 3) 5 (gA o0 3), kI G (q0 4) 5 (gA o0 4), kI G (q0 5) 5 (gA o0 5), kI G (q0 6) 5 (gA o0 6), kI G (q0 7) 5 (gA o0 7), kB G q8 ((gI o0 8) * (5 : Int32)).toNatClampNeg (fun _ => 0), kI G (r0 11) (r0 111) (gA o0 11), kI G h1 5 o1] := hD
        have g9 := h.1
        have h := h.2
        have g10 := h.1
        have h := h.2
        refine W.widen (k := 1) (n := 5120) g9 g10 ?_
        have hP : va_P G.1 CL (cw_Sh G h0 q0 (up (up r0 9 q8) 109 ((gI o0 8) * (5 : Int32)).toNatClampNeg) (sA (sI o0 10 (0 : Int32)) 9 (fun _ => 0)) ++ ([kI G h1 5 o1])) H := hP
        have hD : va_D A (cw_Sh G h0 q0 (up (up r0 9 q8) 109 ((gI o0 8) * (5 : Int32)).toNatClampNeg) (sA (sI o0 10 (0 : Int32)) 9 (fun _ => 0)) ++ ([kI G h1 5 o1])) := hD
        exact W.vret hx hb hr (fun t ht hW => ⟨⟨((up (up r0 9 q8) 109 ((gI o0 8) * (5 : Int32)).toNatClampNeg), (sA (sI o0 10 (0 : Int32)) 9 (fun _ => 0))), rfl, h, by rw [ht]; exact hP, va_K.moved hW.alike hK, hD⟩, hS.F ht⟩) hS.2.2 d_Sh_layOut_143
    · have h := h.2 c1
      refine lv_aload_n hx hb d_Sh_layOut_61 rfl (lv_at hl 0 rfl) ?_
      refine va_get (D := G.1) (ci := 9) (v := .ref (q0 1)) (C := R_Sh) (T := T_Sh) (N := 12) hx hb hts i_Sh hown hK hP 0 rfl rfl 1 (by decide) (hts _ wf_Sh_9) (fun _ h9 => h9) rfl d_Sh_layOut_62 ?_
      refine lv_iload_n hx hb d_Sh_layOut_65 rfl (lv_at hl 2 rfl) ?_
      refine lv_aload_n hx hb d_Sh_layOut_66 rfl (lv_at hl 1 rfl) ?_
      refine lv_iload_n hx hb d_Sh_layOut_67 rfl (lv_at hl 2 rfl) ?_
      have g11 := h.1
      have h := h.2
      refine xa_iald hx hb hK hP 10 0 rfl rfl g11 (k := x3.toNatClampNeg) rfl d_Sh_layOut_68 ?_
      have g12 := h.1
      have h := h.2
      refine xa_iast hx hb hK hP hD hS 1 0 rfl rfl g12 (k := x3.toNatClampNeg) rfl d_Sh_layOut_69 (fun H locs hP hD hS => ?_)
      have hP : va_P G.1 CL [(h0, .inr (9, [.int (gI o0 0), .ref (q0 1), .ref (q0 2), .ref (q0 3), .ref (q0 4), .ref (q0 5), .ref (q0 6), .ref (q0 7), .int (gI o0 8), .ref (r0 9), .int (gI o0 10), .ref (r0 11)])), kI G (q0 1) 5 (upd (gA o0 1) x3.toNatClampNeg (o1 x3.toNatClampNeg)), kI G (q0 2) 20 (gA o0 2), kI G (q0 3) 5 (gA o0 3), kI G (q0 4) 5 (gA o0 4), kI G (q0 5) 5 (gA o0 5), kI G (q0 6) 5 (gA o0 6), kI G (q0 7) 5 (gA o0 7), kB G (r0 9) (r0 109) (gA o0 9), kI G (r0 11) (r0 111) (gA o0 11), kI G h1 5 o1] H := hP
      have hD : va_D A [(h0, .inr (9, [.int (gI o0 0), .ref (q0 1), .ref (q0 2), .ref (q0 3), .ref (q0 4), .ref (q0 5), .ref (q0 6), .ref (q0 7), .int (gI o0 8), .ref (r0 9), .int (gI o0 10), .ref (r0 11)])), kI G (q0 1) 5 (upd (gA o0 1) x3.toNatClampNeg (o1 x3.toNatClampNeg)), kI G (q0 2) 20 (gA o0 2), kI G (q0 3) 5 (gA o0 3), kI G (q0 4) 5 (gA o0 4), kI G (q0 5) 5 (gA o0 5), kI G (q0 6) 5 (gA o0 6), kI G (q0 7) 5 (gA o0 7), kB G (r0 9) (r0 109) (gA o0 9), kI G (r0 11) (r0 111) (gA o0 11), kI G h1 5 o1] := hD
      refine lv_aload_n hx hb d_Sh_layOut_70 rfl (lv_at hl 0 rfl) ?_
      refine va_get (D := G.1) (ci := 9) (v := .ref (q0 3)) (C := R_Sh) (T := T_Sh) (N := 12) hx hb hts i_Sh hown hK hP 0 rfl rfl 3 (by decide) (hts _ wf_Sh_18) (fun _ h9 => h9) rfl d_Sh_layOut_71 ?_
      refine lv_iload_n hx hb d_Sh_layOut_74 rfl (lv_at hl 2 rfl) ?_
      refine lv_aload_n hx hb d_Sh_layOut_75 rfl (lv_at hl 0 rfl) ?_
      refine lv_iload_n hx hb d_Sh_layOut_76 rfl (lv_at hl 2 rfl) ?_
      have g13 := h.1
      have h := h.2
      have g14 := h.1
      have h := h.2
      refine cl_Vi (b := b_Sh_layOut) (As := [.int x3]) (rest := [.int x3, .ref (q0 3)]) (ws := [(h0, .inr (9, [.int (gI o0 0), .ref (q0 1), .ref (q0 2), .ref (q0 3), .ref (q0 4), .ref (q0 5), .ref (q0 6), .ref (q0 7), .int (gI o0 8), .ref (r0 9), .int (gI o0 10), .ref (r0 11)])), kI G (q0 1) 5 (upd (gA o0 1) x3.toNatClampNeg (o1 x3.toNatClampNeg)), kI G (q0 2) 20 (gA o0 2), kI G (q0 3) 5 (gA o0 3), kI G (q0 4) 5 (gA o0 4), kI G (q0 5) 5 (gA o0 5), kI G (q0 6) 5 (gA o0 6), kI G (q0 7) 5 (gA o0 7), kB G (r0 9) (r0 109) (gA o0 9), kI G (r0 11) (r0 111) (gA o0 11), kI G h1 5 o1]) (wr := [kI G h1 5 o1]) (w2 := fun (u : Ob) => [(h0, .inr (9, [.int (gI u 0), .ref (q0 1), .ref (q0 2), .ref (q0 3), .ref (q0 4), .ref (q0 5), .ref (q0 6), .ref (q0 7), .int (gI u 8), .ref (r0 9), .int (gI u 10), .ref (r0 11)])), kI G (q0 1) 5 (gA u 1), kI G (q0 2) 20 (gA u 2), kI G (q0 3) 5 (gA u 3), kI G (q0 4) 5 (gA u 4), kI G (q0 5) 5 (gA u 5), kI G (q0 6) 5 (gA u 6), kI G (q0 7) 5 (gA u 7), kB G (r0 9) (r0 109) (gA u 9), kI G (r0 11) (r0 111) (gA u 11), kI G h1 5 o1]) C (c_Sh_listChoices (h0 := h0) (q0 := q0) H.size h) wv_Sh_72 ⟨Nat.le_of_ble_eq_true rfl, Nat.le_of_ble_eq_true rfl⟩ hP hD hS 0 rfl rfl [0, 1, 2, 3, 4, 5, 6, 7, 8, 9] [10] rfl rfl (by decide) (by decide) (by decide) [1, 2, 3, 4, 5, 6, 7, 8, 9, 10, 0] (by decide) (fun u => rfl) rfl hl.1 rfl (lv_room (Nat.le_of_ble_eq_true rfl)) d_Sh_layOut_77 ⟨g13, g14⟩ rfl rfl (fun z15 u H locs h hP hD hS => ?_)
      generalize u = u16 at h hP hD
      have hP : va_P G.1 CL [(h0, .inr (9, [.int (gI u16 0), .ref (q0 1), .ref (q0 2), .ref (q0 3), .ref (q0 4), .ref (q0 5), .ref (q0 6), .ref (q0 7), .int (gI u16 8), .ref (r0 9), .int (gI u16 10), .ref (r0 11)])), kI G (q0 1) 5 (gA u16 1), kI G (q0 2) 20 (gA u16 2), kI G (q0 3) 5 (gA u16 3), kI G (q0 4) 5 (gA u16 4), kI G (q0 5) 5 (gA u16 5), kI G (q0 6) 5 (gA u16 6), kI G (q0 7) 5 (gA u16 7), kB G (r0 9) (r0 109) (gA u16 9), kI G (r0 11) (r0 111) (gA u16 11), kI G h1 5 o1] H := hP
      have hD : va_D A [(h0, .inr (9, [.int (gI u16 0), .ref (q0 1), .ref (q0 2), .ref (q0 3), .ref (q0 4), .ref (q0 5), .ref (q0 6), .ref (q0 7), .int (gI u16 8), .ref (r0 9), .int (gI u16 10), .ref (r0 11)])), kI G (q0 1) 5 (gA u16 1), kI G (q0 2) 20 (gA u16 2), kI G (q0 3) 5 (gA u16 3), kI G (q0 4) 5 (gA u16 4), kI G (q0 5) 5 (gA u16 5), kI G (q0 6) 5 (gA u16 6), kI G (q0 7) 5 (gA u16 7), kB G (r0 9) (r0 109) (gA u16 9), kI G (r0 11) (r0 111) (gA u16 11), kI G h1 5 o1] := hD
      have g17 := h.1
      have h := h.2
      refine xa_iast hx hb hK hP hD hS 3 0 rfl rfl g17 (k := x3.toNatClampNeg) rfl d_Sh_layOut_80 (fun H locs hP hD hS => ?_)
      have hP : va_P G.1 CL [(h0, .inr (9, [.int (gI u16 0), .ref (q0 1), .ref (q0 2), .ref (q0 3), .ref (q0 4), .ref (q0 5), .ref (q0 6), .ref (q0 7), .int (gI u16 8), .ref (r0 9), .int (gI u16 10), .ref (r0 11)])), kI G (q0 1) 5 (gA u16 1), kI G (q0 2) 20 (gA u16 2), kI G (q0 3) 5 (upd (gA u16 3) x3.toNatClampNeg z15), kI G (q0 4) 5 (gA u16 4), kI G (q0 5) 5 (gA u16 5), kI G (q0 6) 5 (gA u16 6), kI G (q0 7) 5 (gA u16 7), kB G (r0 9) (r0 109) (gA u16 9), kI G (r0 11) (r0 111) (gA u16 11), kI G h1 5 o1] H := hP
      have hD : va_D A [(h0, .inr (9, [.int (gI u16 0), .ref (q0 1), .ref (q0 2), .ref (q0 3), .ref (q0 4), .ref (q0 5), .ref (q0 6), .ref (q0 7), .int (gI u16 8), .ref (r0 9), .int (gI u16 10), .ref (r0 11)])), kI G (q0 1) 5 (gA u16 1), kI G (q0 2) 20 (gA u16 2), kI G (q0 3) 5 (upd (gA u16 3) x3.toNatClampNeg z15), kI G (q0 4) 5 (gA u16 4), kI G (q0 5) 5 (gA u16 5), kI G (q0 6) 5 (gA u16 6), kI G (q0 7) 5 (gA u16 7), kB G (r0 9) (r0 109) (gA u16 9), kI G (r0 11) (r0 111) (gA u16 11), kI G h1 5 o1] := hD
      refine lv_aload_n hx hb d_Sh_layOut_81 rfl (lv_at hl 0 rfl) ?_
      refine va_get (D := G.1) (ci := 9) (v := .ref (q0 4)) (C := R_Sh) (T := T_Sh) (N := 12) hx hb hts i_Sh hown hK hP 0 rfl rfl 4 (by decide) (hts _ wf_Sh_21) (fun _ h9 => h9) rfl d_Sh_layOut_82 ?_
      refine lv_iload_n hx hb d_Sh_layOut_85 rfl (lv_at hl 2 rfl) ?_
      refine lv_aload_n hx hb d_Sh_layOut_86 rfl (lv_at hl 0 rfl) ?_
      refine va_get (D := G.1) (ci := 9) (v := .int (gI u16 8)) (C := R_Sh) (T := T_Sh) (N := 12) hx hb hts i_Sh hown hK hP 0 rfl rfl 8 (by decide) (hts _ wf_Sh_69) (fun _ h9 => h9) rfl d_Sh_layOut_87 ?_
      have g18 := h.1
      have h := h.2
      refine xa_iast hx hb hK hP hD hS 4 0 rfl rfl g18 (k := x3.toNatClampNeg) rfl d_Sh_layOut_90 (fun H locs hP hD hS => ?_)
      have hP : va_P G.1 CL [(h0, .inr (9, [.int (gI u16 0), .ref (q0 1), .ref (q0 2), .ref (q0 3), .ref (q0 4), .ref (q0 5), .ref (q0 6), .ref (q0 7), .int (gI u16 8), .ref (r0 9), .int (gI u16 10), .ref (r0 11)])), kI G (q0 1) 5 (gA u16 1), kI G (q0 2) 20 (gA u16 2), kI G (q0 3) 5 (upd (gA u16 3) x3.toNatClampNeg z15), kI G (q0 4) 5 (upd (gA u16 4) x3.toNatClampNeg (gI u16 8)), kI G (q0 5) 5 (gA u16 5), kI G (q0 6) 5 (gA u16 6), kI G (q0 7) 5 (gA u16 7), kB G (r0 9) (r0 109) (gA u16 9), kI G (r0 11) (r0 111) (gA u16 11), kI G h1 5 o1] H := hP
      have hD : va_D A [(h0, .inr (9, [.int (gI u16 0), .ref (q0 1), .ref (q0 2), .ref (q0 3), .ref (q0 4), .ref (q0 5), .ref (q0 6), .ref (q0 7), .int (gI u16 8), .ref (r0 9), .int (gI u16 10), .ref (r0 11)])), kI G (q0 1) 5 (gA u16 1), kI G (q0 2) 20 (gA u16 2), kI G (q0 3) 5 (upd (gA u16 3) x3.toNatClampNeg z15), kI G (q0 4) 5 (upd (gA u16 4) x3.toNatClampNeg (gI u16 8)), kI G (q0 5) 5 (gA u16 5), kI G (q0 6) 5 (gA u16 6), kI G (q0 7) 5 (gA u16 7), kB G (r0 9) (r0 109) (gA u16 9), kI G (r0 11) (r0 111) (gA u16 11), kI G h1 5 o1] := hD
      refine lv_aload_n hx hb d_Sh_layOut_91 rfl (lv_at hl 0 rfl) ?_
      refine lv_dup hx hb d_Sh_layOut_92 rfl ?_
      refine va_get (D := G.1) (ci := 9) (v := .int (gI u16 8)) (C := R_Sh) (T := T_Sh) (N := 12) hx hb hts i_Sh hown hK hP 0 rfl rfl 8 (by decide) (hts _ wf_Sh_69) (fun _ h9 => h9) rfl d_Sh_layOut_93 ?_
      refine lv_aload_n hx hb d_Sh_layOut_96 rfl (lv_at hl 0 rfl) ?_
      refine va_get (D := G.1) (ci := 9) (v := .ref (q0 3)) (C := R_Sh) (T := T_Sh) (N := 12) hx hb hts i_Sh hown hK hP 0 rfl rfl 3 (by decide) (hts _ wf_Sh_18) (fun _ h9 => h9) rfl d_Sh_layOut_97 ?_
      refine lv_iload_n hx hb d_Sh_layOut_100 rfl (lv_at hl 2 rfl) ?_
      have g19 := h.1
      have h := h.2
      refine xa_iald hx hb hK hP 3 0 rfl rfl g19 (k := x3.toNatClampNeg) rfl d_Sh_layOut_101 ?_
      refine lv_topi (fun y20 ey20 => ?_)
      have h := h y20 ey20
      refine lv_imul hx hb d_Sh_layOut_102 ?_
      refine va_put (D := G.1) (ci := 9) (v := .int ((gI u16 8) * y20)) (ty := .int) (C := R_Sh) (T := T_Sh) (N := 12) hx hb hts i_Sh ty_Sh ty_Sh_ok nm_Sh hown hK hP hD hS 0 rfl rfl 8 (by decide) (hts _ wf_Sh_69) (fun _ h9 => h9) rfl (ty_Sh_ok 8 (by decide)) rfl rfl (Nat.le_of_ble_eq_true rfl) d_Sh_layOut_103 (fun H locs hP hD hS => ?_)
      have hP : va_P G.1 CL [(h0, .inr (9, [.int (gI u16 0), .ref (q0 1), .ref (q0 2), .ref (q0 3), .ref (q0 4), .ref (q0 5), .ref (q0 6), .ref (q0 7), .int ((gI u16 8) * y20), .ref (r0 9), .int (gI u16 10), .ref (r0 11)])), kI G (q0 1) 5 (gA u16 1), kI G (q0 2) 20 (gA u16 2), kI G (q0 3) 5 (upd (gA u16 3) x3.toNatClampNeg z15), kI G (q0 4) 5 (upd (gA u16 4) x3.toNatClampNeg (gI u16 8)), kI G (q0 5) 5 (gA u16 5), kI G (q0 6) 5 (gA u16 6), kI G (q0 7) 5 (gA u16 7), kB G (r0 9) (r0 109) (gA u16 9), kI G (r0 11) (r0 111) (gA u16 11), kI G h1 5 o1] H := hP
      have hD : va_D A [(h0, .inr (9, [.int (gI u16 0), .ref (q0 1), .ref (q0 2), .ref (q0 3), .ref (q0 4), .ref (q0 5), .ref (q0 6), .ref (q0 7), .int ((gI u16 8) * y20), .ref (r0 9), .int (gI u16 10), .ref (r0 11)])), kI G (q0 1) 5 (gA u16 1), kI G (q0 2) 20 (gA u16 2), kI G (q0 3) 5 (upd (gA u16 3) x3.toNatClampNeg z15), kI G (q0 4) 5 (upd (gA u16 4) x3.toNatClampNeg (gI u16 8)), kI G (q0 5) 5 (gA u16 5), kI G (q0 6) 5 (gA u16 6), kI G (q0 7) 5 (gA u16 7), kB G (r0 9) (r0 109) (gA u16 9), kI G (r0 11) (r0 111) (gA u16 11), kI G h1 5 o1] := hD
      refine lv_iinc (v := (x3 + (-1 : Int32))) (lv' := [(3, .int (x3 + (-1 : Int32))), (0, .ref h0), (1, .ref h1)]) hx hb d_Sh_layOut_106 hl (k := 2) rfl rfl (by decide) rfl (fun ls hl => ?_)
      refine lv_goto (tgt := 57) hx hb d_Sh_layOut_109 (by decide) ?_
      have hl := lv_sub (l' := [(0, .ref h0), (1, .ref h1), (3, .int (x3 + (-1 : Int32)))]) hl [1, 2, 0] rfl
      have hP : va_P G.1 CL (cw_Sh G h0 q0 r0 (sA (sA (sI u16 8 ((gI u16 8) * y20)) 3 (upd (gA u16 3) x3.toNatClampNeg z15)) 4 (upd (gA u16 4) x3.toNatClampNeg (gI u16 8))) ++ ([kI G h1 5 o1])) H := hP
      have hD : va_D A (cw_Sh G h0 q0 r0 (sA (sA (sI u16 8 ((gI u16 8) * y20)) 3 (upd (gA u16 3) x3.toNatClampNeg z15)) 4 (upd (gA u16 4) x3.toNatClampNeg (gI u16 8))) ++ ([kI G h1 5 o1])) := hD
      exact ih cs sl (x3 + (-1 : Int32)) r0 (sA (sA (sI u16 8 ((gI u16 8) * y20)) 3 (upd (gA u16 3) x3.toNatClampNeg z15)) 4 (upd (gA u16 4) x3.toNatClampNeg (gI u16 8))) ls H locs hl hP hD hS h
set_option maxHeartbeats 4000000 in
set_option maxRecDepth 100000 in
theorem t_Sh_layOut_4 {p : Program} {l : Launch} {e : Env} {s : State} {m : MethodId} {args : Array Value} {below : List Frame} {meth : Method} {c : Code} {A : Nat → Prop} {G : Gl} {h0 : Nat} {h1 : Nat} {q0 : Nat → Nat} (o1 : (Nat → Int32)) (Q : (Nat → Nat) → Ob → Prop) (C : Cx p s m args meth c R_Sh b_Sh_layOut 4 none G A) :
    ∀ (n : Nat) (cs sl : Nat) (x2 : Int32) (x3 : Int32) (r0 : (Nat → Nat)) (o0 : Ob) (ls : Array Slot) (H : Heap) (locs : List Loc), lv_has ls 4 [(0, .ref h0), (1, .ref h1), (2, .int x2), (3, .int x3)] → va_P G.1 CL (cw_Sh G h0 q0 r0 o0 ++ ([kI G h1 5 o1])) H → va_D A (cw_Sh G h0 q0 r0 o0 ++ ([kI G h1 5 o1])) → va_S A s.heap H locs → f_Sh_layOut_4 o1 Q n cs sl x2 x3 r0 o0 → W p l e rm_Sh_layOut s m args below meth c H locs cs sl (MQ below (va_Qv (fun (u : (Nat → Nat) × Ob) => Q u.1 u.2) (fun (u : (Nat → Nat) × Ob) t => BW G A (cw_Sh G h0 q0 u.1 u.2 ++ ([kI G h1 5 o1])) t) A) args s 1 5120 A) (F0 m 4 ls []) := by
  obtain ⟨hx, hb, hml, hown, hr, hts, hK, hA, hlocks, hE⟩ := id C
  intro n
  induction n with
  | zero => intro cs sl x2 x3 r0 o0 ls H locs hl hP hD hS h; exact absurd h id
  | succ n ih =>
    intro cs sl x2 x3 r0 o0 ls H locs hl hP hD hS h
    have hP : va_P G.1 CL [(h0, .inr (9, [.int (gI o0 0), .ref (q0 1), .ref (q0 2), .ref (q0 3), .ref (q0 4), .ref (q0 5), .ref (q0 6), .ref (q0 7), .int (gI o0 8), .ref (r0 9), .int (gI o0 10), .ref (r0 11)])), kI G (q0 1) 5 (gA o0 1), kI G (q0 2) 20 (gA o0 2), kI G (q0 3) 5 (gA o0 3), kI G (q0 4) 5 (gA o0 4), kI G (q0 5) 5 (gA o0 5), kI G (q0 6) 5 (gA o0 6), kI G (q0 7) 5 (gA o0 7), kB G (r0 9) (r0 109) (gA o0 9), kI G (r0 11) (r0 111) (gA o0 11), kI G h1 5 o1] H := hP
    have hD : va_D A [(h0, .inr (9, [.int (gI o0 0), .ref (q0 1), .ref (q0 2), .ref (q0 3), .ref (q0 4), .ref (q0 5), .ref (q0 6), .ref (q0 7), .int (gI o0 8), .ref (r0 9), .int (gI o0 10), .ref (r0 11)])), kI G (q0 1) 5 (gA o0 1), kI G (q0 2) 20 (gA o0 2), kI G (q0 3) 5 (gA o0 3), kI G (q0 4) 5 (gA o0 4), kI G (q0 5) 5 (gA o0 5), kI G (q0 6) 5 (gA o0 6), kI G (q0 7) 5 (gA o0 7), kB G (r0 9) (r0 109) (gA o0 9), kI G (r0 11) (r0 111) (gA o0 11), kI G h1 5 o1] := hD
    unfold f_Sh_layOut_4 at h
    refine lv_iload_n hx hb d_Sh_layOut_4 rfl (lv_at hl 3 rfl) ?_
    refine lv_aload_n hx hb d_Sh_layOut_5 rfl (lv_at hl 0 rfl) ?_
    refine va_get (D := G.1) (ci := 9) (v := .int (gI o0 0)) (C := R_Sh) (T := T_Sh) (N := 12) hx hb hts i_Sh hown hK hP 0 rfl rfl 0 (by decide) (hts _ wf_Sh_40) (fun _ h9 => h9) rfl d_Sh_layOut_6 ?_
    refine lv_icmp_ge (tgt := 40) hx hb d_Sh_layOut_9 (by decide) (fun c21 => ?_) (fun c21 => ?_)
    · have h := h.1 c21
      refine lv_iload_n hx hb d_Sh_layOut_40 rfl (lv_at hl 2 rfl) ?_
      refine lv_if_eq (tgt := 45) hx hb d_Sh_layOut_41 (by decide) (fun c22 => ?_) (fun c22 => ?_)
      · have h := h.1 c22
        refine lv_aload_n hx hb d_Sh_layOut_45 rfl (lv_at hl 0 rfl) ?_
        refine lv_iconst (v := (1 : Int32)) hx hb d_Sh_layOut_46 (by decide) ?_
        refine va_put (D := G.1) (ci := 9) (v := .int (1 : Int32)) (ty := .int) (C := R_Sh) (T := T_Sh) (N := 12) hx hb hts i_Sh ty_Sh ty_Sh_ok nm_Sh hown hK hP hD hS 0 rfl rfl 8 (by decide) (hts _ wf_Sh_69) (fun _ h9 => h9) rfl (ty_Sh_ok 8 (by decide)) rfl rfl (Nat.le_of_ble_eq_true rfl) d_Sh_layOut_47 (fun H locs hP hD hS => ?_)
        have hP : va_P G.1 CL [(h0, .inr (9, [.int (gI o0 0), .ref (q0 1), .ref (q0 2), .ref (q0 3), .ref (q0 4), .ref (q0 5), .ref (q0 6), .ref (q0 7), .int (1 : Int32), .ref (r0 9), .int (gI o0 10), .ref (r0 11)])), kI G (q0 1) 5 (gA o0 1), kI G (q0 2) 20 (gA o0 2), kI G (q0 3) 5 (gA o0 3), kI G (q0 4) 5 (gA o0 4), kI G (q0 5) 5 (gA o0 5), kI G (q0 6) 5 (gA o0 6), kI G (q0 7) 5 (gA o0 7), kB G (r0 9) (r0 109) (gA o0 9), kI G (r0 11) (r0 111) (gA o0 11), kI G h1 5 o1] H := hP
        have hD : va_D A [(h0, .inr (9, [.int (gI o0 0), .ref (q0 1), .ref (q0 2), .ref (q0 3), .ref (q0 4), .ref (q0 5), .ref (q0 6), .ref (q0 7), .int (1 : Int32), .ref (r0 9), .int (gI o0 10), .ref (r0 11)])), kI G (q0 1) 5 (gA o0 1), kI G (q0 2) 20 (gA o0 2), kI G (q0 3) 5 (gA o0 3), kI G (q0 4) 5 (gA o0 4), kI G (q0 5) 5 (gA o0 5), kI G (q0 6) 5 (gA o0 6), kI G (q0 7) 5 (gA o0 7), kB G (r0 9) (r0 109) (gA o0 9), kI G (r0 11) (r0 111) (gA o0 11), kI G h1 5 o1] := hD
        refine lv_aload_n hx hb d_Sh_layOut_50 rfl (lv_at hl 0 rfl) ?_
        refine va_get (D := G.1) (ci := 9) (v := .int (gI o0 0)) (C := R_Sh) (T := T_Sh) (N := 12) hx hb hts i_Sh hown hK hP 0 rfl rfl 0 (by decide) (hts _ wf_Sh_40) (fun _ h9 => h9) rfl d_Sh_layOut_51 ?_
        refine lv_iconst (v := (1 : Int32)) hx hb d_Sh_layOut_54 (by decide) ?_
        refine lv_isub hx hb d_Sh_layOut_55 ?_
        refine lv_istore_n (lv' := [(3, .int ((gI o0 0) - (1 : Int32))), (0, .ref h0), (1, .ref h1), (2, .int x2)]) hx hb d_Sh_layOut_56 rfl hl (by decide) rfl (fun ls hl => ?_)
        have hl := lv_sub (l' := [(0, .ref h0), (1, .ref h1), (3, .int ((gI o0 0) - (1 : Int32)))]) hl [1, 2, 0] rfl
        have hP : va_P G.1 CL (cw_Sh G h0 q0 r0 (sI o0 8 (1 : Int32)) ++ ([kI G h1 5 o1])) H := hP
        have hD : va_D A (cw_Sh G h0 q0 r0 (sI o0 8 (1 : Int32)) ++ ([kI G h1 5 o1])) := hD
        obtain ⟨w, h⟩ := h
        exact t_Sh_layOut_57 o1 Q C w cs sl ((gI o0 0) - (1 : Int32)) r0 (sI o0 8 (1 : Int32)) ls _ locs hl hP hD hS h
      · have h := h.2 c22
        have g23 := h.1
        have h := h.2
        have g24 := h.1
        have h := h.2
        refine W.widen (k := 1) (n := 5120) g23 g24 ?_
        have hP : va_P G.1 CL (cw_Sh G h0 q0 r0 o0 ++ ([kI G h1 5 o1])) H := hP
        have hD : va_D A (cw_Sh G h0 q0 r0 o0 ++ ([kI G h1 5 o1])) := hD
        exact W.vret hx hb hr (fun t ht hW => ⟨⟨(r0, o0), rfl, h, by rw [ht]; exact hP, va_K.moved hW.alike hK, hD⟩, hS.F ht⟩) hS.2.2 d_Sh_layOut_44
    · have h := h.2 c21
      refine lv_iload_n hx hb d_Sh_layOut_12 rfl (lv_at hl 2 rfl) ?_
      refine lv_if_eq (tgt := 32) hx hb d_Sh_layOut_13 (by decide) (fun c25 => ?_) (fun c25 => ?_)
      · have h := h.1 c25
        refine lv_iconst (v := (0 : Int32)) hx hb d_Sh_layOut_32 (by decide) ?_
        refine lv_istore_n (lv' := [(2, .int (0 : Int32)), (0, .ref h0), (1, .ref h1), (3, .int x3)]) hx hb d_Sh_layOut_33 rfl hl (by decide) rfl (fun ls hl => ?_)
        refine lv_iinc (v := (x3 + (1 : Int32))) (lv' := [(3, .int (x3 + (1 : Int32))), (2, .int (0 : Int32)), (0, .ref h0), (1, .ref h1)]) hx hb d_Sh_layOut_34 hl (k := 3) rfl rfl (by decide) rfl (fun ls hl => ?_)
        refine lv_goto (tgt := 4) hx hb d_Sh_layOut_37 (by decide) ?_
        have hl := lv_sub (l' := [(0, .ref h0), (1, .ref h1), (2, .int (0 : Int32)), (3, .int (x3 + (1 : Int32)))]) hl [2, 3, 1, 0] rfl
        have hP : va_P G.1 CL (cw_Sh G h0 q0 r0 o0 ++ ([kI G h1 5 o1])) H := hP
        have hD : va_D A (cw_Sh G h0 q0 r0 o0 ++ ([kI G h1 5 o1])) := hD
        exact ih cs sl (0 : Int32) (x3 + (1 : Int32)) r0 o0 ls H locs hl hP hD hS h
      · have h := h.2 c25
        refine lv_aload_n hx hb d_Sh_layOut_16 rfl (lv_at hl 0 rfl) ?_
        refine va_get (D := G.1) (ci := 9) (v := .ref (q0 1)) (C := R_Sh) (T := T_Sh) (N := 12) hx hb hts i_Sh hown hK hP 0 rfl rfl 1 (by decide) (hts _ wf_Sh_9) (fun _ h9 => h9) rfl d_Sh_layOut_17 ?_
        refine lv_iload_n hx hb d_Sh_layOut_20 rfl (lv_at hl 3 rfl) ?_
        have g26 := h.1
        have h := h.2
        refine xa_iald hx hb hK hP 1 0 rfl rfl g26 (k := x3.toNatClampNeg) rfl d_Sh_layOut_21 ?_
        refine lv_aload_n hx hb d_Sh_layOut_22 rfl (lv_at hl 1 rfl) ?_
        refine lv_iload_n hx hb d_Sh_layOut_23 rfl (lv_at hl 3 rfl) ?_
        have g27 := h.1
        have h := h.2
        refine xa_iald hx hb hK hP 10 0 rfl rfl g27 (k := x3.toNatClampNeg) rfl d_Sh_layOut_24 ?_
        refine lv_icmp_ne (tgt := 32) hx hb d_Sh_layOut_25 (by decide) (fun c28 => ?_) (fun c28 => ?_)
        · have h := h.2 c28
          refine lv_iconst (v := (0 : Int32)) hx hb d_Sh_layOut_32 (by decide) ?_
          refine lv_istore_n (lv' := [(2, .int (0 : Int32)), (0, .ref h0), (1, .ref h1), (3, .int x3)]) hx hb d_Sh_layOut_33 rfl hl (by decide) rfl (fun ls hl => ?_)
          refine lv_iinc (v := (x3 + (1 : Int32))) (lv' := [(3, .int (x3 + (1 : Int32))), (2, .int (0 : Int32)), (0, .ref h0), (1, .ref h1)]) hx hb d_Sh_layOut_34 hl (k := 3) rfl rfl (by decide) rfl (fun ls hl => ?_)
          refine lv_goto (tgt := 4) hx hb d_Sh_layOut_37 (by decide) ?_
          have hl := lv_sub (l' := [(0, .ref h0), (1, .ref h1), (2, .int (0 : Int32)), (3, .int (x3 + (1 : Int32)))]) hl [2, 3, 1, 0] rfl
          have hP : va_P G.1 CL (cw_Sh G h0 q0 r0 o0 ++ ([kI G h1 5 o1])) H := hP
          have hD : va_D A (cw_Sh G h0 q0 r0 o0 ++ ([kI G h1 5 o1])) := hD
          exact ih cs sl (0 : Int32) (x3 + (1 : Int32)) r0 o0 ls H locs hl hP hD hS h
        · have h := h.1 c28
          refine lv_iconst (v := (1 : Int32)) hx hb d_Sh_layOut_28 (by decide) ?_
          refine lv_goto (tgt := 33) hx hb d_Sh_layOut_29 (by decide) ?_
          refine lv_istore_n (lv' := [(2, .int (1 : Int32)), (0, .ref h0), (1, .ref h1), (3, .int x3)]) hx hb d_Sh_layOut_33 rfl hl (by decide) rfl (fun ls hl => ?_)
          refine lv_iinc (v := (x3 + (1 : Int32))) (lv' := [(3, .int (x3 + (1 : Int32))), (2, .int (1 : Int32)), (0, .ref h0), (1, .ref h1)]) hx hb d_Sh_layOut_34 hl (k := 3) rfl rfl (by decide) rfl (fun ls hl => ?_)
          refine lv_goto (tgt := 4) hx hb d_Sh_layOut_37 (by decide) ?_
          have hl := lv_sub (l' := [(0, .ref h0), (1, .ref h1), (2, .int (1 : Int32)), (3, .int (x3 + (1 : Int32)))]) hl [2, 3, 1, 0] rfl
          have hP : va_P G.1 CL (cw_Sh G h0 q0 r0 o0 ++ ([kI G h1 5 o1])) H := hP
          have hD : va_D A (cw_Sh G h0 q0 r0 o0 ++ ([kI G h1 5 o1])) := hD
          exact ih cs sl (1 : Int32) (x3 + (1 : Int32)) r0 o0 ls H locs hl hP hD hS h
set_option maxHeartbeats 4000000 in
set_option maxRecDepth 100000 in
theorem c_Sh_layOut {l : Launch} {G : Gl} {h0 : Nat} {h1 : Nat} {q0 : Nat → Nat} {r0 : (Nat → Nat)} {o0 : Ob} {o1 : (Nat → Int32)} {Q : (Nat → Nat) → Ob → Prop} (sz : Nat) (h : f_Sh_layOut r0 o0 o1 Q) : Met l y_Sh_layOut w_Sh_layOut rm_Sh_layOut (PcW G [.ref h0, .ref h1] sz (cw_Sh G h0 q0 r0 o0 ++ ([kI G h1 5 o1]))) (va_Qv (fun (u : (Nat → Nat) × Ob) => Q u.1 u.2) (fun (u : (Nat → Nat) × Ob) t => BW G (va_A (cw_Sh G h0 q0 r0 o0 ++ ([kI G h1 5 o1])) sz) (cw_Sh G h0 q0 u.1 u.2 ++ ([kI G h1 5 o1])) t) (va_A (cw_Sh G h0 q0 r0 o0 ++ ([kI G h1 5 o1])) sz)) 1 5120 (va_A (cw_Sh G h0 q0 r0 o0 ++ ([kI G h1 5 o1])) sz) := by
  refine Met.ofW (cc := b_Sh_layOut) (maxL := 4) (ret := none) (by decide +kernel) rfl ?_
  intro p e s m args below meth c s₁ B hml hv
  obtain ⟨rfl, hsz, hP, hK, hD0, hE⟩ := hv
  have hx := B.exec
  have hb := B.bytes
  have hr := B.returns
  have hts0 := atoms_spec (ws := w_Sh_layOut) B.pre
  have hts : ∀ w ∈ gw_tbl, w.before ([.ref h0, .ref h1]).toArray s = true := fun w hw => hts0 w (List.mem_cons_of_mem _ hw)
  have hown : s.vm.findClass R_Sh = some m.cls := findClass_of_methodNamed B.named
  have hlocks := B.notSynchronized
  subst hsz
  have hD := hD0.self (sz := s.heap.size)
  generalize hAe : va_A (cw_Sh G h0 q0 r0 o0 ++ ([kI G h1 5 o1])) s.heap.size = A at hD hE ⊢
  have hA : ∀ q : Nat, s.heap.size ≤ q → A q := fun q h => by rw [← hAe]; exact Or.inr h
  have hS : va_S A s.heap s.heap [] := va_S.rf
  have C : Cx p s m ([.ref h0, .ref h1]).toArray meth c R_Sh b_Sh_layOut 4 none G A := ⟨hx, hb, hml, hown, hr, hts, hK, hA, hlocks, hE⟩
  have hl := lv_entry ([.ref h0, .ref h1]) (n := 4) (Nat.le_of_ble_eq_true rfl)
  rw [lg_entry_eq]
  generalize (lg_sl ([.ref h0, .ref h1]) ++ List.replicate (4 - (lg_sl ([.ref h0, .ref h1])).length) Slot.unset).toArray = ls at hl ⊢
  have hl : lv_has ls 4 [(0, .ref h0), (1, .ref h1)] := hl
  have hD : va_D A [(h0, .inr (9, [.int (gI o0 0), .ref (q0 1), .ref (q0 2), .ref (q0 3), .ref (q0 4), .ref (q0 5), .ref (q0 6), .ref (q0 7), .int (gI o0 8), .ref (r0 9), .int (gI o0 10), .ref (r0 11)])), kI G (q0 1) 5 (gA o0 1), kI G (q0 2) 20 (gA o0 2), kI G (q0 3) 5 (gA o0 3), kI G (q0 4) 5 (gA o0 4), kI G (q0 5) 5 (gA o0 5), kI G (q0 6) 5 (gA o0 6), kI G (q0 7) 5 (gA o0 7), kB G (r0 9) (r0 109) (gA o0 9), kI G (r0 11) (r0 111) (gA o0 11), kI G h1 5 o1] := hD
  unfold f_Sh_layOut at h
  suffices key : ∀ (H : Heap) (locs : List Loc), va_P G.1 CL [(h0, .inr (9, [.int (gI o0 0), .ref (q0 1), .ref (q0 2), .ref (q0 3), .ref (q0 4), .ref (q0 5), .ref (q0 6), .ref (q0 7), .int (gI o0 8), .ref (r0 9), .int (gI o0 10), .ref (r0 11)])), kI G (q0 1) 5 (gA o0 1), kI G (q0 2) 20 (gA o0 2), kI G (q0 3) 5 (gA o0 3), kI G (q0 4) 5 (gA o0 4), kI G (q0 5) 5 (gA o0 5), kI G (q0 6) 5 (gA o0 6), kI G (q0 7) 5 (gA o0 7), kB G (r0 9) (r0 109) (gA o0 9), kI G (r0 11) (r0 111) (gA o0 11), kI G h1 5 o1] H → va_S A s.heap H locs → W p l e rm_Sh_layOut s m ([.ref h0, .ref h1]).toArray below meth c H locs 0 0 (MQ below (va_Qv (fun (u : (Nat → Nat) × Ob) => Q u.1 u.2) (fun (u : (Nat → Nat) × Ob) t => BW G A (cw_Sh G h0 q0 u.1 u.2 ++ ([kI G h1 5 o1])) t) A) ([.ref h0, .ref h1]).toArray s 1 5120 A) (F0 m 0 ls []) from key s.heap [] hP hS
  intro H locs hP hS
  refine lv_iconst (v := (1 : Int32)) hx hb d_Sh_layOut_0 (by decide) ?_
  refine lv_istore_n (lv' := [(2, .int (1 : Int32)), (0, .ref h0), (1, .ref h1)]) hx hb d_Sh_layOut_1 rfl hl (by decide) rfl (fun ls hl => ?_)
  refine lv_iconst (v := (0 : Int32)) hx hb d_Sh_layOut_2 (by decide) ?_
  refine lv_istore_n (lv' := [(3, .int (0 : Int32)), (2, .int (1 : Int32)), (0, .ref h0), (1, .ref h1)]) hx hb d_Sh_layOut_3 rfl hl (by decide) rfl (fun ls hl => ?_)
  have hl := lv_sub (l' := [(0, .ref h0), (1, .ref h1), (2, .int (1 : Int32)), (3, .int (0 : Int32))]) hl [2, 3, 1, 0] rfl
  have hP : va_P G.1 CL (cw_Sh G h0 q0 r0 o0 ++ ([kI G h1 5 o1])) H := hP
  have hD : va_D A (cw_Sh G h0 q0 r0 o0 ++ ([kI G h1 5 o1])) := hD
  obtain ⟨w, h⟩ := h
  exact t_Sh_layOut_4 o1 Q C w 0 0 (1 : Int32) (0 : Int32) r0 o0 ls _ locs hl hP hD hS h
def f_Sh_layOut0_57 (o1 : (Nat → Int32)) (Q : (Nat → Nat) → Ob → Prop) : Nat → Int32 → (Nat → Nat) → Ob → Prop
  | 0, _, _, _ => False
  | n + 1, x3, r0, o0 => (x3 < 0 → ((((gI o0 8) * (5 : Int32)) ≤ (nI (r0 109)) → (Q r0 (sI o0 10 (0 : Int32)))) ∧ (¬ ((gI o0 8) * (5 : Int32)) ≤ (nI (r0 109)) → (False)))) ∧ (¬ x3 < 0 → ((vp_in x3 5) ∧ ((vp_in x3 5) ∧ (f_Sh_listChoices x3 r0 (sA o0 1 (upd (gA o0 1) x3.toNatClampNeg (o1 x3.toNatClampNeg))) (fun z5 u6 => (vp_in x3 5) ∧ ((vp_in x3 5) ∧ ((vp_in x3 5) ∧ (∀ y10 : Int32, y10 = ((upd (gA u6 3) x3.toNatClampNeg z5) x3.toNatClampNeg) → ((f_Sh_layOut0_57 o1 Q n) (x3 + (-1 : Int32)) r0 (sA (sA (sI u6 8 ((gI u6 8) * y10)) 3 (upd (gA u6 3) x3.toNatClampNeg z5)) 4 (upd (gA u6 4) x3.toNatClampNeg (gI u6 8))))))))))))
def f_Sh_layOut0_4 (o1 : (Nat → Int32)) (Q : (Nat → Nat) → Ob → Prop) : Nat → Int32 → Int32 → (Nat → Nat) → Ob → Prop
  | 0, _, _, _, _ => False
  | n + 1, x2, x3, r0, o0 => ((gI o0 0) ≤ x3 → ((x2 = 0 → ((∃ w, f_Sh_layOut0_57 o1 Q w ((gI o0 0) - (1 : Int32)) r0 (sI o0 8 (1 : Int32))))) ∧ (¬ x2 = 0 → (Q r0 o0)))) ∧ (¬ (gI o0 0) ≤ x3 → ((x2 = 0 → ((f_Sh_layOut0_4 o1 Q n) (0 : Int32) (x3 + (1 : Int32)) r0 o0)) ∧ (¬ x2 = 0 → ((vp_in x3 5) ∧ ((vp_in x3 5) ∧ ((((gA o0 1) x3.toNatClampNeg) = (o1 x3.toNatClampNeg) → ((f_Sh_layOut0_4 o1 Q n) (1 : Int32) (x3 + (1 : Int32)) r0 o0)) ∧ (¬ ((gA o0 1) x3.toNatClampNeg) = (o1 x3.toNatClampNeg) → ((f_Sh_layOut0_4 o1 Q n) (0 : Int32) (x3 + (1 : Int32)) r0 o0))))))))
def f_Sh_layOut0 (r0 : (Nat → Nat)) (o0 : Ob) (o1 : (Nat → Int32)) (Q : (Nat → Nat) → Ob → Prop) : Prop := (∃ w, f_Sh_layOut0_4 o1 Q w (1 : Int32) (0 : Int32) r0 o0)
abbrev rm_Sh_layOut0 : Room := { frames := 1, cells := 0, slots := 0, locals := 23 }
set_option maxHeartbeats 4000000 in
set_option maxRecDepth 100000 in
theorem t_Sh_layOut0_57 {p : Program} {l : Launch} {e : Env} {s : State} {m : MethodId} {args : Array Value} {below : List Frame} {meth : Method} {c : Code} {A : Nat → Prop} {G : Gl} {h0 : Nat} {h1 : Nat} {q0 : Nat → Nat} (o1 : (Nat → Int32)) (Q : (Nat → Nat) → Ob → Prop) (C : Cx p s m args meth c R_Sh b_Sh_layOut 4 none G A) :
    ∀ (n : Nat) (x3 : Int32) (r0 : (Nat → Nat)) (o0 : Ob) (ls : Array Slot) (H : Heap) (locs : List Loc), lv_has ls 4 [(0, .ref h0), (1, .ref h1), (3, .int x3)] → va_P G.1 CL (cw_Sh G h0 q0 r0 o0 ++ ([kI G h1 5 o1])) H → va_D A (cw_Sh G h0 q0 r0 o0 ++ ([kI G h1 5 o1])) → va_S A s.heap H locs → f_Sh_layOut0_57 o1 Q n x3 r0 o0 → W p l e rm_Sh_layOut0 s m args below meth c H locs 0 0 (MQ below (va_Qv (fun (u : (Nat → Nat) × Ob) => Q u.1 u.2) (fun (u : (Nat → Nat) × Ob) t => BW G A (cw_Sh G h0 q0 u.1 u.2 ++ ([kI G h1 5 o1])) t) A) args s 0 0 A) (F0 m 57 ls []) := by
  obtain ⟨hx, hb, hml, hown, hr, hts, hK, hA, hlocks, hE⟩ := id C
  intro n
  induction n with
  | zero => intro x3 r0 o0 ls H locs hl hP hD hS h; exact absurd h id
  | succ n ih =>
    intro x3 r0 o0 ls H locs hl hP hD hS h
    have hP : va_P G.1 CL [(h0, .inr (9, [.int (gI o0 0), .ref (q0 1), .ref (q0 2), .ref (q0 3), .ref (q0 4), .ref (q0 5), .ref (q0 6), .ref (q0 7), .int (gI o0 8), .ref (r0 9), .int (gI o0 10), .ref (r0 11)])), kI G (q0 1) 5 (gA o0 1), kI G (q0 2) 20 (gA o0 2), kI G (q0 3) 5 (gA o0 3), kI G (q0 4) 5 (gA o0 4), kI G (q0 5) 5 (gA o0 5), kI G (q0 6) 5 (gA o0 6), kI G (q0 7) 5 (gA o0 7), kB G (r0 9) (r0 109) (gA o0 9), kI G (r0 11) (r0 111) (gA o0 11), kI G h1 5 o1] H := hP
    have hD : va_D A [(h0, .inr (9, [.int (gI o0 0), .ref (q0 1), .ref (q0 2), .ref (q0 3), .ref (q0 4), .ref (q0 5), .ref (q0 6), .ref (q0 7), .int (gI o0 8), .ref (r0 9), .int (gI o0 10), .ref (r0 11)])), kI G (q0 1) 5 (gA o0 1), kI G (q0 2) 20 (gA o0 2), kI G (q0 3) 5 (gA o0 3), kI G (q0 4) 5 (gA o0 4), kI G (q0 5) 5 (gA o0 5), kI G (q0 6) 5 (gA o0 6), kI G (q0 7) 5 (gA o0 7), kB G (r0 9) (r0 109) (gA o0 9), kI G (r0 11) (r0 111) (gA o0 11), kI G h1 5 o1] := hD
    unfold f_Sh_layOut0_57 at h
    refine lv_iload_n hx hb d_Sh_layOut_57 rfl (lv_at hl 2 rfl) ?_
    refine lv_if_lt (tgt := 112) hx hb d_Sh_layOut_58 (by decide) (fun c1 => ?_) (fun c1 => ?_)
    · have h := h.1 c1
      refine lv_aload_n hx hb d_Sh_layOut_112 rfl (lv_at hl 0 rfl) ?_
      refine lv_iconst (v := (0 : Int32)) hx hb d_Sh_layOut_113 (by decide) ?_
      refine va_put (D := G.1) (ci := 9) (v := .int (0 : Int32)) (ty := .int) (C := R_Sh) (T := T_Sh) (N := 12) hx hb hts i_Sh ty_Sh ty_Sh_ok nm_Sh hown hK hP hD hS 0 rfl rfl 10 (by decide) (hts _ wf_Sh_62) (fun _ h9 => h9) rfl (ty_Sh_ok 10 (by decide)) rfl rfl (Nat.le_of_ble_eq_true rfl) d_Sh_layOut_114 (fun H locs hP hD hS => ?_)
      have hP : va_P G.1 CL [(h0, .inr (9, [.int (gI o0 0), .ref (q0 1), .ref (q0 2), .ref (q0 3), .ref (q0 4), .ref (q0 5), .ref (q0 6), .ref (q0 7), .int (gI o0 8), .ref (r0 9), .int (0 : Int32), .ref (r0 11)])), kI G (q0 1) 5 (gA o0 1), kI G (q0 2) 20 (gA o0 2), kI G (q0 3) 5 (gA o0 3), kI G (q0 4) 5 (gA o0 4), kI G (q0 5) 5 (gA o0 5), kI G (q0 6) 5 (gA o0 6), kI G (q0 7) 5 (gA o0 7), kB G (r0 9) (r0 109) (gA o0 9), kI G (r0 11) (r0 111) (gA o0 11), kI G h1 5 o1] H := hP
      have hD : va_D A [(h0, .inr (9, [.int (gI o0 0), .ref (q0 1), .ref (q0 2), .ref (q0 3), .ref (q0 4), .ref (q0 5), .ref (q0 6), .ref (q0 7), .int (gI o0 8), .ref (r0 9), .int (0 : Int32), .ref (r0 11)])), kI G (q0 1) 5 (gA o0 1), kI G (q0 2) 20 (gA o0 2), kI G (q0 3) 5 (gA o0 3), kI G (q0 4) 5 (gA o0 4), kI G (q0 5) 5 (gA o0 5), kI G (q0 6) 5 (gA o0 6), kI G (q0 7) 5 (gA o0 7), kB G (r0 9) (r0 109) (gA o0 9), kI G (r0 11) (r0 111) (gA o0 11), kI G h1 5 o1] := hD
      refine lv_aload_n hx hb d_Sh_layOut_117 rfl (lv_at hl 0 rfl) ?_
      refine va_get (D := G.1) (ci := 9) (v := .ref (r0 9)) (C := R_Sh) (T := T_Sh) (N := 12) hx hb hts i_Sh hown hK hP 0 rfl rfl 9 (by decide) (hts _ wf_Sh_33) (fun _ h9 => h9) rfl d_Sh_layOut_118 ?_
      refine va_alen hx hb hK hP 8 2 rfl rfl (v := (nI (r0 109))) rfl d_Sh_layOut_121 ?_
      refine lv_aload_n hx hb d_Sh_layOut_122 rfl (lv_at hl 0 rfl) ?_
      refine va_get (D := G.1) (ci := 9) (v := .int (gI o0 8)) (C := R_Sh) (T := T_Sh) (N := 12) hx hb hts i_Sh hown hK hP 0 rfl rfl 8 (by decide) (hts _ wf_Sh_69) (fun _ h9 => h9) rfl d_Sh_layOut_123 ?_
      refine lv_iconst (v := (5 : Int32)) hx hb d_Sh_layOut_126 (by decide) ?_
      refine lv_imul hx hb d_Sh_layOut_127 ?_
      refine lv_icmp_ge (tgt := 143) hx hb d_Sh_layOut_128 (by decide) (fun c2 => ?_) (fun c2 => ?_)
      · have h := h.1 c2
        have hP : va_P G.1 CL (cw_Sh G h0 q0 r0 (sI o0 10 (0 : Int32)) ++ ([kI G h1 5 o1])) H := hP
        have hD : va_D A (cw_Sh G h0 q0 r0 (sI o0 10 (0 : Int32)) ++ ([kI G h1 5 o1])) := hD
        exact W.vret hx hb hr (fun t ht hW => ⟨⟨(r0, (sI o0 10 (0 : Int32))), rfl, h, by rw [ht]; exact hP, va_K.moved hW.alike hK, hD⟩, hS.F ht⟩) hS.2.2 d_Sh_layOut_143
      · have h := h.2 c2
        refine lv_aload_n hx hb d_Sh_layOut_131 rfl (lv_at hl 0 rfl) ?_
        refine lv_aload_n hx hb d_Sh_layOut_132 rfl (lv_at hl 0 rfl) ?_
        refine va_get (D := G.1) (ci := 9) (v := .int (gI o0 8)) (C := R_Sh) (T := T_Sh) (N := 12) hx hb hts i_Sh hown hK hP 0 rfl rfl 8 (by decide) (hts _ wf_Sh_69) (fun _ h9 => h9) rfl d_Sh_layOut_133 ?_
        refine lv_iconst (v := (5 : Int32)) hx hb d_Sh_layOut_136 (by decide) ?_
        refine lv_imul hx hb d_Sh_layOut_137 ?_
        exact absurd h id
    · have h := h.2 c1
      refine lv_aload_n hx hb d_Sh_layOut_61 rfl (lv_at hl 0 rfl) ?_
      refine va_get (D := G.1) (ci := 9) (v := .ref (q0 1)) (C := R_Sh) (T := T_Sh) (N := 12) hx hb hts i_Sh hown hK hP 0 rfl rfl 1 (by decide) (hts _ wf_Sh_9) (fun _ h9 => h9) rfl d_Sh_layOut_62 ?_
      refine lv_iload_n hx hb d_Sh_layOut_65 rfl (lv_at hl 2 rfl) ?_
      refine lv_aload_n hx hb d_Sh_layOut_66 rfl (lv_at hl 1 rfl) ?_
      refine lv_iload_n hx hb d_Sh_layOut_67 rfl (lv_at hl 2 rfl) ?_
      have g3 := h.1
      have h := h.2
      refine xa_iald hx hb hK hP 10 0 rfl rfl g3 (k := x3.toNatClampNeg) rfl d_Sh_layOut_68 ?_
      have g4 := h.1
      have h := h.2
      refine xa_iast hx hb hK hP hD hS 1 0 rfl rfl g4 (k := x3.toNatClampNeg) rfl d_Sh_layOut_69 (fun H locs hP hD hS => ?_)
      have hP : va_P G.1 CL [(h0, .inr (9, [.int (gI o0 0), .ref (q0 1), .ref (q0 2), .ref (q0 3), .ref (q0 4), .ref (q0 5), .ref (q0 6), .ref (q0 7), .int (gI o0 8), .ref (r0 9), .int (gI o0 10), .ref (r0 11)])), kI G (q0 1) 5 (upd (gA o0 1) x3.toNatClampNeg (o1 x3.toNatClampNeg)), kI G (q0 2) 20 (gA o0 2), kI G (q0 3) 5 (gA o0 3), kI G (q0 4) 5 (gA o0 4), kI G (q0 5) 5 (gA o0 5), kI G (q0 6) 5 (gA o0 6), kI G (q0 7) 5 (gA o0 7), kB G (r0 9) (r0 109) (gA o0 9), kI G (r0 11) (r0 111) (gA o0 11), kI G h1 5 o1] H := hP
      have hD : va_D A [(h0, .inr (9, [.int (gI o0 0), .ref (q0 1), .ref (q0 2), .ref (q0 3), .ref (q0 4), .ref (q0 5), .ref (q0 6), .ref (q0 7), .int (gI o0 8), .ref (r0 9), .int (gI o0 10), .ref (r0 11)])), kI G (q0 1) 5 (upd (gA o0 1) x3.toNatClampNeg (o1 x3.toNatClampNeg)), kI G (q0 2) 20 (gA o0 2), kI G (q0 3) 5 (gA o0 3), kI G (q0 4) 5 (gA o0 4), kI G (q0 5) 5 (gA o0 5), kI G (q0 6) 5 (gA o0 6), kI G (q0 7) 5 (gA o0 7), kB G (r0 9) (r0 109) (gA o0 9), kI G (r0 11) (r0 111) (gA o0 11), kI G h1 5 o1] := hD
      refine lv_aload_n hx hb d_Sh_layOut_70 rfl (lv_at hl 0 rfl) ?_
      refine va_get (D := G.1) (ci := 9) (v := .ref (q0 3)) (C := R_Sh) (T := T_Sh) (N := 12) hx hb hts i_Sh hown hK hP 0 rfl rfl 3 (by decide) (hts _ wf_Sh_18) (fun _ h9 => h9) rfl d_Sh_layOut_71 ?_
      refine lv_iload_n hx hb d_Sh_layOut_74 rfl (lv_at hl 2 rfl) ?_
      refine lv_aload_n hx hb d_Sh_layOut_75 rfl (lv_at hl 0 rfl) ?_
      refine lv_iload_n hx hb d_Sh_layOut_76 rfl (lv_at hl 2 rfl) ?_
      refine cl_Vi (b := b_Sh_layOut) (As := [.int x3]) (rest := [.int x3, .ref (q0 3)]) (ws := [(h0, .inr (9, [.int (gI o0 0), .ref (q0 1), .ref (q0 2), .ref (q0 3), .ref (q0 4), .ref (q0 5), .ref (q0 6), .ref (q0 7), .int (gI o0 8), .ref (r0 9), .int (gI o0 10), .ref (r0 11)])), kI G (q0 1) 5 (upd (gA o0 1) x3.toNatClampNeg (o1 x3.toNatClampNeg)), kI G (q0 2) 20 (gA o0 2), kI G (q0 3) 5 (gA o0 3), kI G (q0 4) 5 (gA o0 4), kI G (q0 5) 5 (gA o0 5), kI G (q0 6) 5 (gA o0 6), kI G (q0 7) 5 (gA o0 7), kB G (r0 9) (r0 109) (gA o0 9), kI G (r0 11) (r0 111) (gA o0 11), kI G h1 5 o1]) (wr := [kI G h1 5 o1]) (w2 := fun (u : Ob) => [(h0, .inr (9, [.int (gI u 0), .ref (q0 1), .ref (q0 2), .ref (q0 3), .ref (q0 4), .ref (q0 5), .ref (q0 6), .ref (q0 7), .int (gI u 8), .ref (r0 9), .int (gI u 10), .ref (r0 11)])), kI G (q0 1) 5 (gA u 1), kI G (q0 2) 20 (gA u 2), kI G (q0 3) 5 (gA u 3), kI G (q0 4) 5 (gA u 4), kI G (q0 5) 5 (gA u 5), kI G (q0 6) 5 (gA u 6), kI G (q0 7) 5 (gA u 7), kB G (r0 9) (r0 109) (gA u 9), kI G (r0 11) (r0 111) (gA u 11), kI G h1 5 o1]) C (c_Sh_listChoices (h0 := h0) (q0 := q0) H.size h) wv_Sh_72 ⟨Nat.le_of_ble_eq_true rfl, Nat.le_of_ble_eq_true rfl⟩ hP hD hS 0 rfl rfl [0, 1, 2, 3, 4, 5, 6, 7, 8, 9] [10] rfl rfl (by decide) (by decide) (by decide) [1, 2, 3, 4, 5, 6, 7, 8, 9, 10, 0] (by decide) (fun u => rfl) rfl hl.1 rfl (lv_room (Nat.le_of_ble_eq_true rfl)) d_Sh_layOut_77 ⟨Nat.le_of_ble_eq_true rfl, Nat.le_of_ble_eq_true rfl⟩ rfl rfl (fun z5 u H locs h hP hD hS => ?_)
      generalize u = u6 at h hP hD
      have hP : va_P G.1 CL [(h0, .inr (9, [.int (gI u6 0), .ref (q0 1), .ref (q0 2), .ref (q0 3), .ref (q0 4), .ref (q0 5), .ref (q0 6), .ref (q0 7), .int (gI u6 8), .ref (r0 9), .int (gI u6 10), .ref (r0 11)])), kI G (q0 1) 5 (gA u6 1), kI G (q0 2) 20 (gA u6 2), kI G (q0 3) 5 (gA u6 3), kI G (q0 4) 5 (gA u6 4), kI G (q0 5) 5 (gA u6 5), kI G (q0 6) 5 (gA u6 6), kI G (q0 7) 5 (gA u6 7), kB G (r0 9) (r0 109) (gA u6 9), kI G (r0 11) (r0 111) (gA u6 11), kI G h1 5 o1] H := hP
      have hD : va_D A [(h0, .inr (9, [.int (gI u6 0), .ref (q0 1), .ref (q0 2), .ref (q0 3), .ref (q0 4), .ref (q0 5), .ref (q0 6), .ref (q0 7), .int (gI u6 8), .ref (r0 9), .int (gI u6 10), .ref (r0 11)])), kI G (q0 1) 5 (gA u6 1), kI G (q0 2) 20 (gA u6 2), kI G (q0 3) 5 (gA u6 3), kI G (q0 4) 5 (gA u6 4), kI G (q0 5) 5 (gA u6 5), kI G (q0 6) 5 (gA u6 6), kI G (q0 7) 5 (gA u6 7), kB G (r0 9) (r0 109) (gA u6 9), kI G (r0 11) (r0 111) (gA u6 11), kI G h1 5 o1] := hD
      have g7 := h.1
      have h := h.2
      refine xa_iast hx hb hK hP hD hS 3 0 rfl rfl g7 (k := x3.toNatClampNeg) rfl d_Sh_layOut_80 (fun H locs hP hD hS => ?_)
      have hP : va_P G.1 CL [(h0, .inr (9, [.int (gI u6 0), .ref (q0 1), .ref (q0 2), .ref (q0 3), .ref (q0 4), .ref (q0 5), .ref (q0 6), .ref (q0 7), .int (gI u6 8), .ref (r0 9), .int (gI u6 10), .ref (r0 11)])), kI G (q0 1) 5 (gA u6 1), kI G (q0 2) 20 (gA u6 2), kI G (q0 3) 5 (upd (gA u6 3) x3.toNatClampNeg z5), kI G (q0 4) 5 (gA u6 4), kI G (q0 5) 5 (gA u6 5), kI G (q0 6) 5 (gA u6 6), kI G (q0 7) 5 (gA u6 7), kB G (r0 9) (r0 109) (gA u6 9), kI G (r0 11) (r0 111) (gA u6 11), kI G h1 5 o1] H := hP
      have hD : va_D A [(h0, .inr (9, [.int (gI u6 0), .ref (q0 1), .ref (q0 2), .ref (q0 3), .ref (q0 4), .ref (q0 5), .ref (q0 6), .ref (q0 7), .int (gI u6 8), .ref (r0 9), .int (gI u6 10), .ref (r0 11)])), kI G (q0 1) 5 (gA u6 1), kI G (q0 2) 20 (gA u6 2), kI G (q0 3) 5 (upd (gA u6 3) x3.toNatClampNeg z5), kI G (q0 4) 5 (gA u6 4), kI G (q0 5) 5 (gA u6 5), kI G (q0 6) 5 (gA u6 6), kI G (q0 7) 5 (gA u6 7), kB G (r0 9) (r0 109) (gA u6 9), kI G (r0 11) (r0 111) (gA u6 11), kI G h1 5 o1] := hD
      refine lv_aload_n hx hb d_Sh_layOut_81 rfl (lv_at hl 0 rfl) ?_
      refine va_get (D := G.1) (ci := 9) (v := .ref (q0 4)) (C := R_Sh) (T := T_Sh) (N := 12) hx hb hts i_Sh hown hK hP 0 rfl rfl 4 (by decide) (hts _ wf_Sh_21) (fun _ h9 => h9) rfl d_Sh_layOut_82 ?_
      refine lv_iload_n hx hb d_Sh_layOut_85 rfl (lv_at hl 2 rfl) ?_
      refine lv_aload_n hx hb d_Sh_layOut_86 rfl (lv_at hl 0 rfl) ?_
      refine va_get (D := G.1) (ci := 9) (v := .int (gI u6 8)) (C := R_Sh) (T := T_Sh) (N := 12) hx hb hts i_Sh hown hK hP 0 rfl rfl 8 (by decide) (hts _ wf_Sh_69) (fun _ h9 => h9) rfl d_Sh_layOut_87 ?_
      have g8 := h.1
      have h := h.2
      refine xa_iast hx hb hK hP hD hS 4 0 rfl rfl g8 (k := x3.toNatClampNeg) rfl d_Sh_layOut_90 (fun H locs hP hD hS => ?_)
      have hP : va_P G.1 CL [(h0, .inr (9, [.int (gI u6 0), .ref (q0 1), .ref (q0 2), .ref (q0 3), .ref (q0 4), .ref (q0 5), .ref (q0 6), .ref (q0 7), .int (gI u6 8), .ref (r0 9), .int (gI u6 10), .ref (r0 11)])), kI G (q0 1) 5 (gA u6 1), kI G (q0 2) 20 (gA u6 2), kI G (q0 3) 5 (upd (gA u6 3) x3.toNatClampNeg z5), kI G (q0 4) 5 (upd (gA u6 4) x3.toNatClampNeg (gI u6 8)), kI G (q0 5) 5 (gA u6 5), kI G (q0 6) 5 (gA u6 6), kI G (q0 7) 5 (gA u6 7), kB G (r0 9) (r0 109) (gA u6 9), kI G (r0 11) (r0 111) (gA u6 11), kI G h1 5 o1] H := hP
      have hD : va_D A [(h0, .inr (9, [.int (gI u6 0), .ref (q0 1), .ref (q0 2), .ref (q0 3), .ref (q0 4), .ref (q0 5), .ref (q0 6), .ref (q0 7), .int (gI u6 8), .ref (r0 9), .int (gI u6 10), .ref (r0 11)])), kI G (q0 1) 5 (gA u6 1), kI G (q0 2) 20 (gA u6 2), kI G (q0 3) 5 (upd (gA u6 3) x3.toNatClampNeg z5), kI G (q0 4) 5 (upd (gA u6 4) x3.toNatClampNeg (gI u6 8)), kI G (q0 5) 5 (gA u6 5), kI G (q0 6) 5 (gA u6 6), kI G (q0 7) 5 (gA u6 7), kB G (r0 9) (r0 109) (gA u6 9), kI G (r0 11) (r0 111) (gA u6 11), kI G h1 5 o1] := hD
      refine lv_aload_n hx hb d_Sh_layOut_91 rfl (lv_at hl 0 rfl) ?_
      refine lv_dup hx hb d_Sh_layOut_92 rfl ?_
      refine va_get (D := G.1) (ci := 9) (v := .int (gI u6 8)) (C := R_Sh) (T := T_Sh) (N := 12) hx hb hts i_Sh hown hK hP 0 rfl rfl 8 (by decide) (hts _ wf_Sh_69) (fun _ h9 => h9) rfl d_Sh_layOut_93 ?_
      refine lv_aload_n hx hb d_Sh_layOut_96 rfl (lv_at hl 0 rfl) ?_
      refine va_get (D := G.1) (ci := 9) (v := .ref (q0 3)) (C := R_Sh) (T := T_Sh) (N := 12) hx hb hts i_Sh hown hK hP 0 rfl rfl 3 (by decide) (hts _ wf_Sh_18) (fun _ h9 => h9) rfl d_Sh_layOut_97 ?_
      refine lv_iload_n hx hb d_Sh_layOut_100 rfl (lv_at hl 2 rfl) ?_
      have g9 := h.1
      have h := h.2
      refine xa_iald hx hb hK hP 3 0 rfl rfl g9 (k := x3.toNatClampNeg) rfl d_Sh_layOut_101 ?_
      refine lv_topi (fun y10 ey10 => ?_)
      have h := h y10 ey10
      refine lv_imul hx hb d_Sh_layOut_102 ?_
      refine va_put (D := G.1) (ci := 9) (v := .int ((gI u6 8) * y10)) (ty := .int) (C := R_Sh) (T := T_Sh) (N := 12) hx hb hts i_Sh ty_Sh ty_Sh_ok nm_Sh hown hK hP hD hS 0 rfl rfl 8 (by decide) (hts _ wf_Sh_69) (fun _ h9 => h9) rfl (ty_Sh_ok 8 (by decide)) rfl rfl (Nat.le_of_ble_eq_true rfl) d_Sh_layOut_103 (fun H locs hP hD hS => ?_)
      have hP : va_P G.1 CL [(h0, .inr (9, [.int (gI u6 0), .ref (q0 1), .ref (q0 2), .ref (q0 3), .ref (q0 4), .ref (q0 5), .ref (q0 6), .ref (q0 7), .int ((gI u6 8) * y10), .ref (r0 9), .int (gI u6 10), .ref (r0 11)])), kI G (q0 1) 5 (gA u6 1), kI G (q0 2) 20 (gA u6 2), kI G (q0 3) 5 (upd (gA u6 3) x3.toNatClampNeg z5), kI G (q0 4) 5 (upd (gA u6 4) x3.toNatClampNeg (gI u6 8)), kI G (q0 5) 5 (gA u6 5), kI G (q0 6) 5 (gA u6 6), kI G (q0 7) 5 (gA u6 7), kB G (r0 9) (r0 109) (gA u6 9), kI G (r0 11) (r0 111) (gA u6 11), kI G h1 5 o1] H := hP
      have hD : va_D A [(h0, .inr (9, [.int (gI u6 0), .ref (q0 1), .ref (q0 2), .ref (q0 3), .ref (q0 4), .ref (q0 5), .ref (q0 6), .ref (q0 7), .int ((gI u6 8) * y10), .ref (r0 9), .int (gI u6 10), .ref (r0 11)])), kI G (q0 1) 5 (gA u6 1), kI G (q0 2) 20 (gA u6 2), kI G (q0 3) 5 (upd (gA u6 3) x3.toNatClampNeg z5), kI G (q0 4) 5 (upd (gA u6 4) x3.toNatClampNeg (gI u6 8)), kI G (q0 5) 5 (gA u6 5), kI G (q0 6) 5 (gA u6 6), kI G (q0 7) 5 (gA u6 7), kB G (r0 9) (r0 109) (gA u6 9), kI G (r0 11) (r0 111) (gA u6 11), kI G h1 5 o1] := hD
      refine lv_iinc (v := (x3 + (-1 : Int32))) (lv' := [(3, .int (x3 + (-1 : Int32))), (0, .ref h0), (1, .ref h1)]) hx hb d_Sh_layOut_106 hl (k := 2) rfl rfl (by decide) rfl (fun ls hl => ?_)
      refine lv_goto (tgt := 57) hx hb d_Sh_layOut_109 (by decide) ?_
      have hl := lv_sub (l' := [(0, .ref h0), (1, .ref h1), (3, .int (x3 + (-1 : Int32)))]) hl [1, 2, 0] rfl
      have hP : va_P G.1 CL (cw_Sh G h0 q0 r0 (sA (sA (sI u6 8 ((gI u6 8) * y10)) 3 (upd (gA u6 3) x3.toNatClampNeg z5)) 4 (upd (gA u6 4) x3.toNatClampNeg (gI u6 8))) ++ ([kI G h1 5 o1])) H := hP
      have hD : va_D A (cw_Sh G h0 q0 r0 (sA (sA (sI u6 8 ((gI u6 8) * y10)) 3 (upd (gA u6 3) x3.toNatClampNeg z5)) 4 (upd (gA u6 4) x3.toNatClampNeg (gI u6 8))) ++ ([kI G h1 5 o1])) := hD
      exact ih (x3 + (-1 : Int32)) r0 (sA (sA (sI u6 8 ((gI u6 8) * y10)) 3 (upd (gA u6 3) x3.toNatClampNeg z5)) 4 (upd (gA u6 4) x3.toNatClampNeg (gI u6 8))) ls H locs hl hP hD hS h
set_option maxHeartbeats 4000000 in
set_option maxRecDepth 100000 in
theorem t_Sh_layOut0_4 {p : Program} {l : Launch} {e : Env} {s : State} {m : MethodId} {args : Array Value} {below : List Frame} {meth : Method} {c : Code} {A : Nat → Prop} {G : Gl} {h0 : Nat} {h1 : Nat} {q0 : Nat → Nat} (o1 : (Nat → Int32)) (Q : (Nat → Nat) → Ob → Prop) (C : Cx p s m args meth c R_Sh b_Sh_layOut 4 none G A) :
    ∀ (n : Nat) (x2 : Int32) (x3 : Int32) (r0 : (Nat → Nat)) (o0 : Ob) (ls : Array Slot) (H : Heap) (locs : List Loc), lv_has ls 4 [(0, .ref h0), (1, .ref h1), (2, .int x2), (3, .int x3)] → va_P G.1 CL (cw_Sh G h0 q0 r0 o0 ++ ([kI G h1 5 o1])) H → va_D A (cw_Sh G h0 q0 r0 o0 ++ ([kI G h1 5 o1])) → va_S A s.heap H locs → f_Sh_layOut0_4 o1 Q n x2 x3 r0 o0 → W p l e rm_Sh_layOut0 s m args below meth c H locs 0 0 (MQ below (va_Qv (fun (u : (Nat → Nat) × Ob) => Q u.1 u.2) (fun (u : (Nat → Nat) × Ob) t => BW G A (cw_Sh G h0 q0 u.1 u.2 ++ ([kI G h1 5 o1])) t) A) args s 0 0 A) (F0 m 4 ls []) := by
  obtain ⟨hx, hb, hml, hown, hr, hts, hK, hA, hlocks, hE⟩ := id C
  intro n
  induction n with
  | zero => intro x2 x3 r0 o0 ls H locs hl hP hD hS h; exact absurd h id
  | succ n ih =>
    intro x2 x3 r0 o0 ls H locs hl hP hD hS h
    have hP : va_P G.1 CL [(h0, .inr (9, [.int (gI o0 0), .ref (q0 1), .ref (q0 2), .ref (q0 3), .ref (q0 4), .ref (q0 5), .ref (q0 6), .ref (q0 7), .int (gI o0 8), .ref (r0 9), .int (gI o0 10), .ref (r0 11)])), kI G (q0 1) 5 (gA o0 1), kI G (q0 2) 20 (gA o0 2), kI G (q0 3) 5 (gA o0 3), kI G (q0 4) 5 (gA o0 4), kI G (q0 5) 5 (gA o0 5), kI G (q0 6) 5 (gA o0 6), kI G (q0 7) 5 (gA o0 7), kB G (r0 9) (r0 109) (gA o0 9), kI G (r0 11) (r0 111) (gA o0 11), kI G h1 5 o1] H := hP
    have hD : va_D A [(h0, .inr (9, [.int (gI o0 0), .ref (q0 1), .ref (q0 2), .ref (q0 3), .ref (q0 4), .ref (q0 5), .ref (q0 6), .ref (q0 7), .int (gI o0 8), .ref (r0 9), .int (gI o0 10), .ref (r0 11)])), kI G (q0 1) 5 (gA o0 1), kI G (q0 2) 20 (gA o0 2), kI G (q0 3) 5 (gA o0 3), kI G (q0 4) 5 (gA o0 4), kI G (q0 5) 5 (gA o0 5), kI G (q0 6) 5 (gA o0 6), kI G (q0 7) 5 (gA o0 7), kB G (r0 9) (r0 109) (gA o0 9), kI G (r0 11) (r0 111) (gA o0 11), kI G h1 5 o1] := hD
    unfold f_Sh_layOut0_4 at h
    refine lv_iload_n hx hb d_Sh_layOut_4 rfl (lv_at hl 3 rfl) ?_
    refine lv_aload_n hx hb d_Sh_layOut_5 rfl (lv_at hl 0 rfl) ?_
    refine va_get (D := G.1) (ci := 9) (v := .int (gI o0 0)) (C := R_Sh) (T := T_Sh) (N := 12) hx hb hts i_Sh hown hK hP 0 rfl rfl 0 (by decide) (hts _ wf_Sh_40) (fun _ h9 => h9) rfl d_Sh_layOut_6 ?_
    refine lv_icmp_ge (tgt := 40) hx hb d_Sh_layOut_9 (by decide) (fun c11 => ?_) (fun c11 => ?_)
    · have h := h.1 c11
      refine lv_iload_n hx hb d_Sh_layOut_40 rfl (lv_at hl 2 rfl) ?_
      refine lv_if_eq (tgt := 45) hx hb d_Sh_layOut_41 (by decide) (fun c12 => ?_) (fun c12 => ?_)
      · have h := h.1 c12
        refine lv_aload_n hx hb d_Sh_layOut_45 rfl (lv_at hl 0 rfl) ?_
        refine lv_iconst (v := (1 : Int32)) hx hb d_Sh_layOut_46 (by decide) ?_
        refine va_put (D := G.1) (ci := 9) (v := .int (1 : Int32)) (ty := .int) (C := R_Sh) (T := T_Sh) (N := 12) hx hb hts i_Sh ty_Sh ty_Sh_ok nm_Sh hown hK hP hD hS 0 rfl rfl 8 (by decide) (hts _ wf_Sh_69) (fun _ h9 => h9) rfl (ty_Sh_ok 8 (by decide)) rfl rfl (Nat.le_of_ble_eq_true rfl) d_Sh_layOut_47 (fun H locs hP hD hS => ?_)
        have hP : va_P G.1 CL [(h0, .inr (9, [.int (gI o0 0), .ref (q0 1), .ref (q0 2), .ref (q0 3), .ref (q0 4), .ref (q0 5), .ref (q0 6), .ref (q0 7), .int (1 : Int32), .ref (r0 9), .int (gI o0 10), .ref (r0 11)])), kI G (q0 1) 5 (gA o0 1), kI G (q0 2) 20 (gA o0 2), kI G (q0 3) 5 (gA o0 3), kI G (q0 4) 5 (gA o0 4), kI G (q0 5) 5 (gA o0 5), kI G (q0 6) 5 (gA o0 6), kI G (q0 7) 5 (gA o0 7), kB G (r0 9) (r0 109) (gA o0 9), kI G (r0 11) (r0 111) (gA o0 11), kI G h1 5 o1] H := hP
        have hD : va_D A [(h0, .inr (9, [.int (gI o0 0), .ref (q0 1), .ref (q0 2), .ref (q0 3), .ref (q0 4), .ref (q0 5), .ref (q0 6), .ref (q0 7), .int (1 : Int32), .ref (r0 9), .int (gI o0 10), .ref (r0 11)])), kI G (q0 1) 5 (gA o0 1), kI G (q0 2) 20 (gA o0 2), kI G (q0 3) 5 (gA o0 3), kI G (q0 4) 5 (gA o0 4), kI G (q0 5) 5 (gA o0 5), kI G (q0 6) 5 (gA o0 6), kI G (q0 7) 5 (gA o0 7), kB G (r0 9) (r0 109) (gA o0 9), kI G (r0 11) (r0 111) (gA o0 11), kI G h1 5 o1] := hD
        refine lv_aload_n hx hb d_Sh_layOut_50 rfl (lv_at hl 0 rfl) ?_
        refine va_get (D := G.1) (ci := 9) (v := .int (gI o0 0)) (C := R_Sh) (T := T_Sh) (N := 12) hx hb hts i_Sh hown hK hP 0 rfl rfl 0 (by decide) (hts _ wf_Sh_40) (fun _ h9 => h9) rfl d_Sh_layOut_51 ?_
        refine lv_iconst (v := (1 : Int32)) hx hb d_Sh_layOut_54 (by decide) ?_
        refine lv_isub hx hb d_Sh_layOut_55 ?_
        refine lv_istore_n (lv' := [(3, .int ((gI o0 0) - (1 : Int32))), (0, .ref h0), (1, .ref h1), (2, .int x2)]) hx hb d_Sh_layOut_56 rfl hl (by decide) rfl (fun ls hl => ?_)
        have hl := lv_sub (l' := [(0, .ref h0), (1, .ref h1), (3, .int ((gI o0 0) - (1 : Int32)))]) hl [1, 2, 0] rfl
        have hP : va_P G.1 CL (cw_Sh G h0 q0 r0 (sI o0 8 (1 : Int32)) ++ ([kI G h1 5 o1])) H := hP
        have hD : va_D A (cw_Sh G h0 q0 r0 (sI o0 8 (1 : Int32)) ++ ([kI G h1 5 o1])) := hD
        obtain ⟨w, h⟩ := h
        exact t_Sh_layOut0_57 o1 Q C w ((gI o0 0) - (1 : Int32)) r0 (sI o0 8 (1 : Int32)) ls _ locs hl hP hD hS h
      · have h := h.2 c12
        have hP : va_P G.1 CL (cw_Sh G h0 q0 r0 o0 ++ ([kI G h1 5 o1])) H := hP
        have hD : va_D A (cw_Sh G h0 q0 r0 o0 ++ ([kI G h1 5 o1])) := hD
        exact W.vret hx hb hr (fun t ht hW => ⟨⟨(r0, o0), rfl, h, by rw [ht]; exact hP, va_K.moved hW.alike hK, hD⟩, hS.F ht⟩) hS.2.2 d_Sh_layOut_44
    · have h := h.2 c11
      refine lv_iload_n hx hb d_Sh_layOut_12 rfl (lv_at hl 2 rfl) ?_
      refine lv_if_eq (tgt := 32) hx hb d_Sh_layOut_13 (by decide) (fun c13 => ?_) (fun c13 => ?_)
      · have h := h.1 c13
        refine lv_iconst (v := (0 : Int32)) hx hb d_Sh_layOut_32 (by decide) ?_
        refine lv_istore_n (lv' := [(2, .int (0 : Int32)), (0, .ref h0), (1, .ref h1), (3, .int x3)]) hx hb d_Sh_layOut_33 rfl hl (by decide) rfl (fun ls hl => ?_)
        refine lv_iinc (v := (x3 + (1 : Int32))) (lv' := [(3, .int (x3 + (1 : Int32))), (2, .int (0 : Int32)), (0, .ref h0), (1, .ref h1)]) hx hb d_Sh_layOut_34 hl (k := 3) rfl rfl (by decide) rfl (fun ls hl => ?_)
        refine lv_goto (tgt := 4) hx hb d_Sh_layOut_37 (by decide) ?_
        have hl := lv_sub (l' := [(0, .ref h0), (1, .ref h1), (2, .int (0 : Int32)), (3, .int (x3 + (1 : Int32)))]) hl [2, 3, 1, 0] rfl
        have hP : va_P G.1 CL (cw_Sh G h0 q0 r0 o0 ++ ([kI G h1 5 o1])) H := hP
        have hD : va_D A (cw_Sh G h0 q0 r0 o0 ++ ([kI G h1 5 o1])) := hD
        exact ih (0 : Int32) (x3 + (1 : Int32)) r0 o0 ls H locs hl hP hD hS h
      · have h := h.2 c13
        refine lv_aload_n hx hb d_Sh_layOut_16 rfl (lv_at hl 0 rfl) ?_
        refine va_get (D := G.1) (ci := 9) (v := .ref (q0 1)) (C := R_Sh) (T := T_Sh) (N := 12) hx hb hts i_Sh hown hK hP 0 rfl rfl 1 (by decide) (hts _ wf_Sh_9) (fun _ h9 => h9) rfl d_Sh_layOut_17 ?_
        refine lv_iload_n hx hb d_Sh_layOut_20 rfl (lv_at hl 3 rfl) ?_
        have g14 := h.1
        have h := h.2
        refine xa_iald hx hb hK hP 1 0 rfl rfl g14 (k := x3.toNatClampNeg) rfl d_Sh_layOut_21 ?_
        refine lv_aload_n hx hb d_Sh_layOut_22 rfl (lv_at hl 1 rfl) ?_
        refine lv_iload_n hx hb d_Sh_layOut_23 rfl (lv_at hl 3 rfl) ?_
        have g15 := h.1
        have h := h.2
        refine xa_iald hx hb hK hP 10 0 rfl rfl g15 (k := x3.toNatClampNeg) rfl d_Sh_layOut_24 ?_
        refine lv_icmp_ne (tgt := 32) hx hb d_Sh_layOut_25 (by decide) (fun c16 => ?_) (fun c16 => ?_)
        · have h := h.2 c16
          refine lv_iconst (v := (0 : Int32)) hx hb d_Sh_layOut_32 (by decide) ?_
          refine lv_istore_n (lv' := [(2, .int (0 : Int32)), (0, .ref h0), (1, .ref h1), (3, .int x3)]) hx hb d_Sh_layOut_33 rfl hl (by decide) rfl (fun ls hl => ?_)
          refine lv_iinc (v := (x3 + (1 : Int32))) (lv' := [(3, .int (x3 + (1 : Int32))), (2, .int (0 : Int32)), (0, .ref h0), (1, .ref h1)]) hx hb d_Sh_layOut_34 hl (k := 3) rfl rfl (by decide) rfl (fun ls hl => ?_)
          refine lv_goto (tgt := 4) hx hb d_Sh_layOut_37 (by decide) ?_
          have hl := lv_sub (l' := [(0, .ref h0), (1, .ref h1), (2, .int (0 : Int32)), (3, .int (x3 + (1 : Int32)))]) hl [2, 3, 1, 0] rfl
          have hP : va_P G.1 CL (cw_Sh G h0 q0 r0 o0 ++ ([kI G h1 5 o1])) H := hP
          have hD : va_D A (cw_Sh G h0 q0 r0 o0 ++ ([kI G h1 5 o1])) := hD
          exact ih (0 : Int32) (x3 + (1 : Int32)) r0 o0 ls H locs hl hP hD hS h
        · have h := h.1 c16
          refine lv_iconst (v := (1 : Int32)) hx hb d_Sh_layOut_28 (by decide) ?_
          refine lv_goto (tgt := 33) hx hb d_Sh_layOut_29 (by decide) ?_
          refine lv_istore_n (lv' := [(2, .int (1 : Int32)), (0, .ref h0), (1, .ref h1), (3, .int x3)]) hx hb d_Sh_layOut_33 rfl hl (by decide) rfl (fun ls hl => ?_)
          refine lv_iinc (v := (x3 + (1 : Int32))) (lv' := [(3, .int (x3 + (1 : Int32))), (2, .int (1 : Int32)), (0, .ref h0), (1, .ref h1)]) hx hb d_Sh_layOut_34 hl (k := 3) rfl rfl (by decide) rfl (fun ls hl => ?_)
          refine lv_goto (tgt := 4) hx hb d_Sh_layOut_37 (by decide) ?_
          have hl := lv_sub (l' := [(0, .ref h0), (1, .ref h1), (2, .int (1 : Int32)), (3, .int (x3 + (1 : Int32)))]) hl [2, 3, 1, 0] rfl
          have hP : va_P G.1 CL (cw_Sh G h0 q0 r0 o0 ++ ([kI G h1 5 o1])) H := hP
          have hD : va_D A (cw_Sh G h0 q0 r0 o0 ++ ([kI G h1 5 o1])) := hD
          exact ih (1 : Int32) (x3 + (1 : Int32)) r0 o0 ls H locs hl hP hD hS h
set_option maxHeartbeats 4000000 in
set_option maxRecDepth 100000 in
theorem c_Sh_layOut0 {l : Launch} {G : Gl} {h0 : Nat} {h1 : Nat} {q0 : Nat → Nat} {r0 : (Nat → Nat)} {o0 : Ob} {o1 : (Nat → Int32)} {Q : (Nat → Nat) → Ob → Prop} (sz : Nat) (h : f_Sh_layOut0 r0 o0 o1 Q) : Met l y_Sh_layOut w_Sh_layOut rm_Sh_layOut0 (PcW G [.ref h0, .ref h1] sz (cw_Sh G h0 q0 r0 o0 ++ ([kI G h1 5 o1]))) (va_Qv (fun (u : (Nat → Nat) × Ob) => Q u.1 u.2) (fun (u : (Nat → Nat) × Ob) t => BW G (va_A (cw_Sh G h0 q0 r0 o0 ++ ([kI G h1 5 o1])) sz) (cw_Sh G h0 q0 u.1 u.2 ++ ([kI G h1 5 o1])) t) (va_A (cw_Sh G h0 q0 r0 o0 ++ ([kI G h1 5 o1])) sz)) 0 0 (va_A (cw_Sh G h0 q0 r0 o0 ++ ([kI G h1 5 o1])) sz) := by
  refine Met.ofW (cc := b_Sh_layOut) (maxL := 4) (ret := none) (by decide +kernel) rfl ?_
  intro p e s m args below meth c s₁ B hml hv
  obtain ⟨rfl, hsz, hP, hK, hD0, hE⟩ := hv
  have hx := B.exec
  have hb := B.bytes
  have hr := B.returns
  have hts0 := atoms_spec (ws := w_Sh_layOut) B.pre
  have hts : ∀ w ∈ gw_tbl, w.before ([.ref h0, .ref h1]).toArray s = true := fun w hw => hts0 w (List.mem_cons_of_mem _ hw)
  have hown : s.vm.findClass R_Sh = some m.cls := findClass_of_methodNamed B.named
  have hlocks := B.notSynchronized
  subst hsz
  have hD := hD0.self (sz := s.heap.size)
  generalize hAe : va_A (cw_Sh G h0 q0 r0 o0 ++ ([kI G h1 5 o1])) s.heap.size = A at hD hE ⊢
  have hA : ∀ q : Nat, s.heap.size ≤ q → A q := fun q h => by rw [← hAe]; exact Or.inr h
  have hS : va_S A s.heap s.heap [] := va_S.rf
  have C : Cx p s m ([.ref h0, .ref h1]).toArray meth c R_Sh b_Sh_layOut 4 none G A := ⟨hx, hb, hml, hown, hr, hts, hK, hA, hlocks, hE⟩
  have hl := lv_entry ([.ref h0, .ref h1]) (n := 4) (Nat.le_of_ble_eq_true rfl)
  rw [lg_entry_eq]
  generalize (lg_sl ([.ref h0, .ref h1]) ++ List.replicate (4 - (lg_sl ([.ref h0, .ref h1])).length) Slot.unset).toArray = ls at hl ⊢
  have hl : lv_has ls 4 [(0, .ref h0), (1, .ref h1)] := hl
  have hD : va_D A [(h0, .inr (9, [.int (gI o0 0), .ref (q0 1), .ref (q0 2), .ref (q0 3), .ref (q0 4), .ref (q0 5), .ref (q0 6), .ref (q0 7), .int (gI o0 8), .ref (r0 9), .int (gI o0 10), .ref (r0 11)])), kI G (q0 1) 5 (gA o0 1), kI G (q0 2) 20 (gA o0 2), kI G (q0 3) 5 (gA o0 3), kI G (q0 4) 5 (gA o0 4), kI G (q0 5) 5 (gA o0 5), kI G (q0 6) 5 (gA o0 6), kI G (q0 7) 5 (gA o0 7), kB G (r0 9) (r0 109) (gA o0 9), kI G (r0 11) (r0 111) (gA o0 11), kI G h1 5 o1] := hD
  unfold f_Sh_layOut0 at h
  suffices key : ∀ (H : Heap) (locs : List Loc), va_P G.1 CL [(h0, .inr (9, [.int (gI o0 0), .ref (q0 1), .ref (q0 2), .ref (q0 3), .ref (q0 4), .ref (q0 5), .ref (q0 6), .ref (q0 7), .int (gI o0 8), .ref (r0 9), .int (gI o0 10), .ref (r0 11)])), kI G (q0 1) 5 (gA o0 1), kI G (q0 2) 20 (gA o0 2), kI G (q0 3) 5 (gA o0 3), kI G (q0 4) 5 (gA o0 4), kI G (q0 5) 5 (gA o0 5), kI G (q0 6) 5 (gA o0 6), kI G (q0 7) 5 (gA o0 7), kB G (r0 9) (r0 109) (gA o0 9), kI G (r0 11) (r0 111) (gA o0 11), kI G h1 5 o1] H → va_S A s.heap H locs → W p l e rm_Sh_layOut0 s m ([.ref h0, .ref h1]).toArray below meth c H locs 0 0 (MQ below (va_Qv (fun (u : (Nat → Nat) × Ob) => Q u.1 u.2) (fun (u : (Nat → Nat) × Ob) t => BW G A (cw_Sh G h0 q0 u.1 u.2 ++ ([kI G h1 5 o1])) t) A) ([.ref h0, .ref h1]).toArray s 0 0 A) (F0 m 0 ls []) from key s.heap [] hP hS
  intro H locs hP hS
  refine lv_iconst (v := (1 : Int32)) hx hb d_Sh_layOut_0 (by decide) ?_
  refine lv_istore_n (lv' := [(2, .int (1 : Int32)), (0, .ref h0), (1, .ref h1)]) hx hb d_Sh_layOut_1 rfl hl (by decide) rfl (fun ls hl => ?_)
  refine lv_iconst (v := (0 : Int32)) hx hb d_Sh_layOut_2 (by decide) ?_
  refine lv_istore_n (lv' := [(3, .int (0 : Int32)), (2, .int (1 : Int32)), (0, .ref h0), (1, .ref h1)]) hx hb d_Sh_layOut_3 rfl hl (by decide) rfl (fun ls hl => ?_)
  have hl := lv_sub (l' := [(0, .ref h0), (1, .ref h1), (2, .int (1 : Int32)), (3, .int (0 : Int32))]) hl [2, 3, 1, 0] rfl
  have hP : va_P G.1 CL (cw_Sh G h0 q0 r0 o0 ++ ([kI G h1 5 o1])) H := hP
  have hD : va_D A (cw_Sh G h0 q0 r0 o0 ++ ([kI G h1 5 o1])) := hD
  obtain ⟨w, h⟩ := h
  exact t_Sh_layOut0_4 o1 Q C w (1 : Int32) (0 : Int32) r0 o0 ls _ locs hl hP hD hS h
abbrev b_Sh_ask : ByteArray := prog_10_method_2_code
def y_Sh_ask : MethodName := ⟨R_Sh, "ask", "(LPipeVoice$Moment;LPipeVoice$Heard;I)V"⟩
abbrev w_Sh_ask : List Cond := Cond.code y_Sh_ask b_Sh_ask 5 none :: gw_tbl
theorem d_Sh_ask_0 : decode b_Sh_ask 0 = .ok (.aload_n 0, 1) := by decide +kernel
theorem d_Sh_ask_1 : decode b_Sh_ask 1 = .ok (.aload_n 1, 1) := by decide +kernel
theorem d_Sh_ask_2 : decode b_Sh_ask 2 = .ok (.getfield 44, 3) := by decide +kernel
theorem d_Sh_ask_5 : decode b_Sh_ask 5 = .ok (.invokevirtual 49, 3) := by decide +kernel
theorem d_Sh_ask_8 : decode b_Sh_ask 8 = .ok (.aload_n 2, 1) := by decide +kernel
theorem d_Sh_ask_9 : decode b_Sh_ask 9 = .ok (.iload_n 3, 1) := by decide +kernel
theorem d_Sh_ask_10 : decode b_Sh_ask 10 = .ok (.aload_n 1, 1) := by decide +kernel
theorem d_Sh_ask_11 : decode b_Sh_ask 11 = .ok (.getfield 53, 3) := by decide +kernel
theorem d_Sh_ask_14 : decode b_Sh_ask 14 = .ok (.aload_n 0, 1) := by decide +kernel
theorem d_Sh_ask_15 : decode b_Sh_ask 15 = .ok (.getfield 27, 3) := by decide +kernel
theorem d_Sh_ask_18 : decode b_Sh_ask 18 = .ok (.aload_n 0, 1) := by decide +kernel
theorem d_Sh_ask_19 : decode b_Sh_ask 19 = .ok (.getfield 30, 3) := by decide +kernel
theorem d_Sh_ask_22 : decode b_Sh_ask 22 = .ok (.invokevirtual 56, 3) := by decide +kernel
theorem d_Sh_ask_25 : decode b_Sh_ask 25 = .ok (.iconst 0, 1) := by decide +kernel
theorem d_Sh_ask_26 : decode b_Sh_ask 26 = .ok (.istore 4, 2) := by decide +kernel
theorem d_Sh_ask_28 : decode b_Sh_ask 28 = .ok (.iload 4, 2) := by decide +kernel
theorem d_Sh_ask_30 : decode b_Sh_ask 30 = .ok (.iconst 5, 1) := by decide +kernel
theorem d_Sh_ask_31 : decode b_Sh_ask 31 = .ok (.if_icmp .ge 57, 3) := by decide +kernel
theorem d_Sh_ask_34 : decode b_Sh_ask 34 = .ok (.aload_n 0, 1) := by decide +kernel
theorem d_Sh_ask_35 : decode b_Sh_ask 35 = .ok (.getfield 27, 3) := by decide +kernel
theorem d_Sh_ask_38 : decode b_Sh_ask 38 = .ok (.iload 4, 2) := by decide +kernel
theorem d_Sh_ask_40 : decode b_Sh_ask 40 = .ok (.iaload, 1) := by decide +kernel
theorem d_Sh_ask_41 : decode b_Sh_ask 41 = .ok (.aload_n 0, 1) := by decide +kernel
theorem d_Sh_ask_42 : decode b_Sh_ask 42 = .ok (.getfield 30, 3) := by decide +kernel
theorem d_Sh_ask_45 : decode b_Sh_ask 45 = .ok (.iload 4, 2) := by decide +kernel
theorem d_Sh_ask_47 : decode b_Sh_ask 47 = .ok (.iaload, 1) := by decide +kernel
theorem d_Sh_ask_48 : decode b_Sh_ask 48 = .ok (.if_icmp .gt 34, 3) := by decide +kernel
theorem d_Sh_ask_51 : decode b_Sh_ask 51 = .ok (.aload_n 0, 1) := by decide +kernel
theorem d_Sh_ask_52 : decode b_Sh_ask 52 = .ok (.getfield 62, 3) := by decide +kernel
theorem d_Sh_ask_55 : decode b_Sh_ask 55 = .ok (.iconst 1, 1) := by decide +kernel
theorem d_Sh_ask_56 : decode b_Sh_ask 56 = .ok (.iload 4, 2) := by decide +kernel
theorem d_Sh_ask_58 : decode b_Sh_ask 58 = .ok (.ishl, 1) := by decide +kernel
theorem d_Sh_ask_59 : decode b_Sh_ask 59 = .ok (.iand, 1) := by decide +kernel
theorem d_Sh_ask_60 : decode b_Sh_ask 60 = .ok (.ifCond .ne 22, 3) := by decide +kernel
theorem d_Sh_ask_63 : decode b_Sh_ask 63 = .ok (.aload_n 0, 1) := by decide +kernel
theorem d_Sh_ask_64 : decode b_Sh_ask 64 = .ok (.iload 4, 2) := by decide +kernel
theorem d_Sh_ask_66 : decode b_Sh_ask 66 = .ok (.invokevirtual 65, 3) := by decide +kernel
theorem d_Sh_ask_69 : decode b_Sh_ask 69 = .ok (.aload_n 0, 1) := by decide +kernel
theorem d_Sh_ask_70 : decode b_Sh_ask 70 = .ok (.dup, 1) := by decide +kernel
theorem d_Sh_ask_71 : decode b_Sh_ask 71 = .ok (.getfield 62, 3) := by decide +kernel
theorem d_Sh_ask_74 : decode b_Sh_ask 74 = .ok (.iconst 1, 1) := by decide +kernel
theorem d_Sh_ask_75 : decode b_Sh_ask 75 = .ok (.iload 4, 2) := by decide +kernel
theorem d_Sh_ask_77 : decode b_Sh_ask 77 = .ok (.ishl, 1) := by decide +kernel
theorem d_Sh_ask_78 : decode b_Sh_ask 78 = .ok (.ior, 1) := by decide +kernel
theorem d_Sh_ask_79 : decode b_Sh_ask 79 = .ok (.putfield 62, 3) := by decide +kernel
theorem d_Sh_ask_82 : decode b_Sh_ask 82 = .ok (.iinc 4 1, 3) := by decide +kernel
theorem d_Sh_ask_85 : decode b_Sh_ask 85 = .ok (.goto (-57), 3) := by decide +kernel
theorem d_Sh_ask_88 : decode b_Sh_ask 88 = .ok (.return_, 1) := by decide +kernel
theorem wf_Sh_44 : Cond.fieldLink R_Sh 44 R_Mo "grid" "[I" ∈ gw_tbl := gw_tb (List.mem_of_getElem? (i := 265) (by decide +kernel)) rfl
theorem wv_Sh_49 : wV R_Sh 49 y_Sh_layOut b_Sh_layOut 4 none 1 := ⟨⟨gw_tb (List.mem_of_getElem? (i := 841) (by decide +kernel)) rfl, gw_tb (List.mem_of_getElem? (i := 12) (by decide +kernel)) rfl, gw_tb (List.mem_of_getElem? (i := 844) (by decide +kernel)) rfl, by decide, by decide, by decide +kernel⟩, gw_tb (List.mem_of_getElem? (i := 843) (by decide +kernel)) rfl, gw_of (List.mem_append_left _ (List.mem_of_getElem? (i := 23) (by decide +kernel))) rfl⟩
theorem wf_Sh_53 : Cond.fieldLink R_Sh 53 R_Mo "look" "I" ∈ gw_tbl := gw_tb (List.mem_of_getElem? (i := 269) (by decide +kernel)) rfl
theorem wv_Sh_56 : wV R_Sh 56 y_He_fill b_He_fill 7 none 4 := ⟨⟨gw_tb (List.mem_of_getElem? (i := 849) (by decide +kernel)) rfl, gw_tb (List.mem_of_getElem? (i := 8) (by decide +kernel)) rfl, gw_tb (List.mem_of_getElem? (i := 852) (by decide +kernel)) rfl, by decide, by decide, by decide +kernel⟩, gw_tb (List.mem_of_getElem? (i := 850) (by decide +kernel)) rfl, gw_tb (List.mem_of_getElem? (i := 851) (by decide +kernel)) rfl⟩
theorem wv_Sh_65 : wV R_Sh 65 y_Sh_fillBoxes b_Sh_fillBoxes 4 none 1 := ⟨⟨gw_tb (List.mem_of_getElem? (i := 853) (by decide +kernel)) rfl, gw_tb (List.mem_of_getElem? (i := 12) (by decide +kernel)) rfl, gw_tb (List.mem_of_getElem? (i := 856) (by decide +kernel)) rfl, by decide, by decide, by decide +kernel⟩, gw_tb (List.mem_of_getElem? (i := 855) (by decide +kernel)) rfl, gw_of (List.mem_append_left _ (List.mem_of_getElem? (i := 25) (by decide +kernel))) rfl⟩
def f_Sh_ask_28 (r1 : (Nat → Nat)) (o1 : Ob) (o2 : Ob) (Q : (Nat → Nat) → Ob → Prop) : Nat → Nat → Nat → Int32 → (Nat → Nat) → Ob → Prop
  | 0, _, _, _, _, _ => False
  | n + 1, cs, sl, x4, r0, o0 => ((5 : Int32) ≤ x4 → ((cs ≤ 1) ∧ ((sl ≤ 5120) ∧ (Q r0 o0)))) ∧ (¬ (5 : Int32) ≤ x4 → ((vp_in x4 5) ∧ ((vp_in x4 5) ∧ ((((gA o0 7) x4.toNatClampNeg) < ((gA o0 6) x4.toNatClampNeg) → ((f_Sh_ask_28 r1 o1 o2 Q n) cs sl (x4 + (1 : Int32)) r0 o0)) ∧ (¬ ((gA o0 7) x4.toNatClampNeg) < ((gA o0 6) x4.toNatClampNeg) → ((((gI o0 10) &&& ((1 : Int32) <<< (x4 &&& 31))) = 0 → ((cs ≤ 1) ∧ ((sl ≤ 5120) ∧ (f_Sh_fillBoxes x4 r0 o0 (fun u10 => ∀ y11 : Int32, y11 = ((gI u10 10) ||| ((1 : Int32) <<< (x4 &&& 31))) → ((f_Sh_ask_28 r1 o1 o2 Q n) cs sl (x4 + (1 : Int32)) r0 (sI u10 10 y11))))))) ∧ (¬ ((gI o0 10) &&& ((1 : Int32) <<< (x4 &&& 31))) = 0 → ((f_Sh_ask_28 r1 o1 o2 Q n) cs sl (x4 + (1 : Int32)) r0 o0))))))))
def f_Sh_ask (a2 : Int32) (r0 : (Nat → Nat)) (o0 : Ob) (r1 : (Nat → Nat)) (o1 : Ob) (o2 : Ob) (Q : (Nat → Nat) → Ob → Prop) : Prop := f_Sh_layOut r0 o0 (gA o1 10) (fun u12 u13 => f_He_fill a2 (gI o1 12) o2 (gA u13 6) (gA u13 7) (fun u14 u15 => (∃ w, f_Sh_ask_28 r1 o1 o2 Q w 1 5120 (0 : Int32) u12 (sA (sA u13 6 u14) 7 u15))))
abbrev rm_Sh_ask : Room := { frames := 3, cells := 1, slots := 5120, locals := 86 }
set_option maxHeartbeats 4000000 in
set_option maxRecDepth 100000 in
theorem t_Sh_ask_28 {p : Program} {l : Launch} {e : Env} {s : State} {m : MethodId} {args : Array Value} {below : List Frame} {meth : Method} {c : Code} {A : Nat → Prop} {G : Gl} {h0 : Nat} {h1 : Nat} {h2 : Nat} {q0 : Nat → Nat} {q1 : Nat → Nat} {q2 : Nat → Nat} (r1 : (Nat → Nat)) (o1 : Ob) (o2 : Ob) (Q : (Nat → Nat) → Ob → Prop) (C : Cx p s m args meth c R_Sh b_Sh_ask 5 none G A) :
    ∀ (n : Nat) (cs sl : Nat) (x4 : Int32) (r0 : (Nat → Nat)) (o0 : Ob) (ls : Array Slot) (H : Heap) (locs : List Loc), lv_has ls 5 [(0, .ref h0), (4, .int x4)] → va_P G.1 CL (cw_Sh G h0 q0 r0 o0 ++ (cw_Mo G h1 q1 r1 o1 ++ (cw_He G h2 q2 o2))) H → va_D A (cw_Sh G h0 q0 r0 o0 ++ (cw_Mo G h1 q1 r1 o1 ++ (cw_He G h2 q2 o2))) → va_S A s.heap H locs → f_Sh_ask_28 r1 o1 o2 Q n cs sl x4 r0 o0 → W p l e rm_Sh_ask s m args below meth c H locs cs sl (MQ below (va_Qv (fun (u : (Nat → Nat) × Ob) => Q u.1 u.2) (fun (u : (Nat → Nat) × Ob) t => BW G A (cw_Sh G h0 q0 u.1 u.2 ++ (cw_Mo G h1 q1 r1 o1 ++ (cw_He G h2 q2 o2))) t) A) args s 1 5120 A) (F0 m 28 ls []) := by
  obtain ⟨hx, hb, hml, hown, hr, hts, hK, hA, hlocks, hE⟩ := id C
  intro n
  induction n with
  | zero => intro cs sl x4 r0 o0 ls H locs hl hP hD hS h; exact absurd h id
  | succ n ih =>
    intro cs sl x4 r0 o0 ls H locs hl hP hD hS h
    have hP : va_P G.1 CL [(h0, .inr (9, [.int (gI o0 0), .ref (q0 1), .ref (q0 2), .ref (q0 3), .ref (q0 4), .ref (q0 5), .ref (q0 6), .ref (q0 7), .int (gI o0 8), .ref (r0 9), .int (gI o0 10), .ref (r0 11)])), kI G (q0 1) 5 (gA o0 1), kI G (q0 2) 20 (gA o0 2), kI G (q0 3) 5 (gA o0 3), kI G (q0 4) 5 (gA o0 4), kI G (q0 5) 5 (gA o0 5), kI G (q0 6) 5 (gA o0 6), kI G (q0 7) 5 (gA o0 7), kB G (r0 9) (r0 109) (gA o0 9), kI G (r0 11) (r0 111) (gA o0 11), (h1, .inr (5, [.ref (r1 0), .int (gI o1 1), .int (gI o1 2), .ref (q1 3), .ref (q1 4), .ref (q1 5), .ref (q1 6), .ref (q1 7), .ref (q1 8), .ref (q1 9), .ref (q1 10), .int (gI o1 11), .int (gI o1 12)])), kI G (q1 3) 20 (gA o1 3), kI G (q1 4) 20 (gA o1 4), kI G (q1 5) 5 (gA o1 5), kJ G (q1 6) 5 (gB o1 6), kJ G (q1 7) 5 (gB o1 7), kJ G (q1 8) 6 (gB o1 8), kI G (q1 10) 5 (gA o1 10), (h2, .inr (2, [.ref (q2 0), .ref (q2 1), .ref (q2 2)])), kI G (q2 0) 100 (gA o2 0), kI G (q2 1) 100 (gA o2 1), kI G (q2 2) 100 (gA o2 2)] H := hP
    have hD : va_D A [(h0, .inr (9, [.int (gI o0 0), .ref (q0 1), .ref (q0 2), .ref (q0 3), .ref (q0 4), .ref (q0 5), .ref (q0 6), .ref (q0 7), .int (gI o0 8), .ref (r0 9), .int (gI o0 10), .ref (r0 11)])), kI G (q0 1) 5 (gA o0 1), kI G (q0 2) 20 (gA o0 2), kI G (q0 3) 5 (gA o0 3), kI G (q0 4) 5 (gA o0 4), kI G (q0 5) 5 (gA o0 5), kI G (q0 6) 5 (gA o0 6), kI G (q0 7) 5 (gA o0 7), kB G (r0 9) (r0 109) (gA o0 9), kI G (r0 11) (r0 111) (gA o0 11), (h1, .inr (5, [.ref (r1 0), .int (gI o1 1), .int (gI o1 2), .ref (q1 3), .ref (q1 4), .ref (q1 5), .ref (q1 6), .ref (q1 7), .ref (q1 8), .ref (q1 9), .ref (q1 10), .int (gI o1 11), .int (gI o1 12)])), kI G (q1 3) 20 (gA o1 3), kI G (q1 4) 20 (gA o1 4), kI G (q1 5) 5 (gA o1 5), kJ G (q1 6) 5 (gB o1 6), kJ G (q1 7) 5 (gB o1 7), kJ G (q1 8) 6 (gB o1 8), kI G (q1 10) 5 (gA o1 10), (h2, .inr (2, [.ref (q2 0), .ref (q2 1), .ref (q2 2)])), kI G (q2 0) 100 (gA o2 0), kI G (q2 1) 100 (gA o2 1), kI G (q2 2) 100 (gA o2 2)] := hD
    unfold f_Sh_ask_28 at h
    refine lv_iload hx hb d_Sh_ask_28 (lv_at hl 1 rfl) ?_
    refine lv_iconst (v := (5 : Int32)) hx hb d_Sh_ask_30 (by decide) ?_
    refine lv_icmp_ge (tgt := 88) hx hb d_Sh_ask_31 (by decide) (fun c1 => ?_) (fun c1 => ?_)
    · have h := h.1 c1
      have g2 := h.1
      have h := h.2
      have g3 := h.1
      have h := h.2
      refine W.widen (k := 1) (n := 5120) g2 g3 ?_
      have hP : va_P G.1 CL (cw_Sh G h0 q0 r0 o0 ++ (cw_Mo G h1 q1 r1 o1 ++ (cw_He G h2 q2 o2))) H := hP
      have hD : va_D A (cw_Sh G h0 q0 r0 o0 ++ (cw_Mo G h1 q1 r1 o1 ++ (cw_He G h2 q2 o2))) := hD
      exact W.vret hx hb hr (fun t ht hW => ⟨⟨(r0, o0), rfl, h, by rw [ht]; exact hP, va_K.moved hW.alike hK, hD⟩, hS.F ht⟩) hS.2.2 d_Sh_ask_88
    · have h := h.2 c1
      refine lv_aload_n hx hb d_Sh_ask_34 rfl (lv_at hl 0 rfl) ?_
      refine va_get (D := G.1) (ci := 9) (v := .ref (q0 6)) (C := R_Sh) (T := T_Sh) (N := 12) hx hb hts i_Sh hown hK hP 0 rfl rfl 6 (by decide) (hts _ wf_Sh_27) (fun _ h9 => h9) rfl d_Sh_ask_35 ?_
      refine lv_iload hx hb d_Sh_ask_38 (lv_at hl 1 rfl) ?_
      have g4 := h.1
      have h := h.2
      refine xa_iald hx hb hK hP 6 0 rfl rfl g4 (k := x4.toNatClampNeg) rfl d_Sh_ask_40 ?_
      refine lv_aload_n hx hb d_Sh_ask_41 rfl (lv_at hl 0 rfl) ?_
      refine va_get (D := G.1) (ci := 9) (v := .ref (q0 7)) (C := R_Sh) (T := T_Sh) (N := 12) hx hb hts i_Sh hown hK hP 0 rfl rfl 7 (by decide) (hts _ wf_Sh_30) (fun _ h9 => h9) rfl d_Sh_ask_42 ?_
      refine lv_iload hx hb d_Sh_ask_45 (lv_at hl 1 rfl) ?_
      have g5 := h.1
      have h := h.2
      refine xa_iald hx hb hK hP 7 0 rfl rfl g5 (k := x4.toNatClampNeg) rfl d_Sh_ask_47 ?_
      refine lv_icmp_gt (tgt := 82) hx hb d_Sh_ask_48 (by decide) (fun c6 => ?_) (fun c6 => ?_)
      · have h := h.1 c6
        refine lv_iinc (v := (x4 + (1 : Int32))) (lv' := [(4, .int (x4 + (1 : Int32))), (0, .ref h0)]) hx hb d_Sh_ask_82 hl (k := 1) rfl rfl (by decide) rfl (fun ls hl => ?_)
        refine lv_goto (tgt := 28) hx hb d_Sh_ask_85 (by decide) ?_
        have hl := lv_sub (l' := [(0, .ref h0), (4, .int (x4 + (1 : Int32)))]) hl [1, 0] rfl
        have hP : va_P G.1 CL (cw_Sh G h0 q0 r0 o0 ++ (cw_Mo G h1 q1 r1 o1 ++ (cw_He G h2 q2 o2))) H := hP
        have hD : va_D A (cw_Sh G h0 q0 r0 o0 ++ (cw_Mo G h1 q1 r1 o1 ++ (cw_He G h2 q2 o2))) := hD
        exact ih cs sl (x4 + (1 : Int32)) r0 o0 ls H locs hl hP hD hS h
      · have h := h.2 c6
        refine lv_aload_n hx hb d_Sh_ask_51 rfl (lv_at hl 0 rfl) ?_
        refine va_get (D := G.1) (ci := 9) (v := .int (gI o0 10)) (C := R_Sh) (T := T_Sh) (N := 12) hx hb hts i_Sh hown hK hP 0 rfl rfl 10 (by decide) (hts _ wf_Sh_62) (fun _ h9 => h9) rfl d_Sh_ask_52 ?_
        refine lv_iconst (v := (1 : Int32)) hx hb d_Sh_ask_55 (by decide) ?_
        refine lv_iload hx hb d_Sh_ask_56 (lv_at hl 1 rfl) ?_
        refine lv_ishl hx hb d_Sh_ask_58 ?_
        refine lv_iand hx hb d_Sh_ask_59 ?_
        refine lv_if_ne (tgt := 82) hx hb d_Sh_ask_60 (by decide) (fun c7 => ?_) (fun c7 => ?_)
        · have h := h.2 c7
          refine lv_iinc (v := (x4 + (1 : Int32))) (lv' := [(4, .int (x4 + (1 : Int32))), (0, .ref h0)]) hx hb d_Sh_ask_82 hl (k := 1) rfl rfl (by decide) rfl (fun ls hl => ?_)
          refine lv_goto (tgt := 28) hx hb d_Sh_ask_85 (by decide) ?_
          have hl := lv_sub (l' := [(0, .ref h0), (4, .int (x4 + (1 : Int32)))]) hl [1, 0] rfl
          have hP : va_P G.1 CL (cw_Sh G h0 q0 r0 o0 ++ (cw_Mo G h1 q1 r1 o1 ++ (cw_He G h2 q2 o2))) H := hP
          have hD : va_D A (cw_Sh G h0 q0 r0 o0 ++ (cw_Mo G h1 q1 r1 o1 ++ (cw_He G h2 q2 o2))) := hD
          exact ih cs sl (x4 + (1 : Int32)) r0 o0 ls H locs hl hP hD hS h
        · have h := h.1 c7
          refine lv_aload_n hx hb d_Sh_ask_63 rfl (lv_at hl 0 rfl) ?_
          refine lv_iload hx hb d_Sh_ask_64 (lv_at hl 1 rfl) ?_
          have g8 := h.1
          have h := h.2
          have g9 := h.1
          have h := h.2
          refine cl_Vv (b := b_Sh_ask) (As := [.int x4]) (rest := []) (ws := [(h0, .inr (9, [.int (gI o0 0), .ref (q0 1), .ref (q0 2), .ref (q0 3), .ref (q0 4), .ref (q0 5), .ref (q0 6), .ref (q0 7), .int (gI o0 8), .ref (r0 9), .int (gI o0 10), .ref (r0 11)])), kI G (q0 1) 5 (gA o0 1), kI G (q0 2) 20 (gA o0 2), kI G (q0 3) 5 (gA o0 3), kI G (q0 4) 5 (gA o0 4), kI G (q0 5) 5 (gA o0 5), kI G (q0 6) 5 (gA o0 6), kI G (q0 7) 5 (gA o0 7), kB G (r0 9) (r0 109) (gA o0 9), kI G (r0 11) (r0 111) (gA o0 11), (h1, .inr (5, [.ref (r1 0), .int (gI o1 1), .int (gI o1 2), .ref (q1 3), .ref (q1 4), .ref (q1 5), .ref (q1 6), .ref (q1 7), .ref (q1 8), .ref (q1 9), .ref (q1 10), .int (gI o1 11), .int (gI o1 12)])), kI G (q1 3) 20 (gA o1 3), kI G (q1 4) 20 (gA o1 4), kI G (q1 5) 5 (gA o1 5), kJ G (q1 6) 5 (gB o1 6), kJ G (q1 7) 5 (gB o1 7), kJ G (q1 8) 6 (gB o1 8), kI G (q1 10) 5 (gA o1 10), (h2, .inr (2, [.ref (q2 0), .ref (q2 1), .ref (q2 2)])), kI G (q2 0) 100 (gA o2 0), kI G (q2 1) 100 (gA o2 1), kI G (q2 2) 100 (gA o2 2)]) (wr := [(h1, .inr (5, [.ref (r1 0), .int (gI o1 1), .int (gI o1 2), .ref (q1 3), .ref (q1 4), .ref (q1 5), .ref (q1 6), .ref (q1 7), .ref (q1 8), .ref (q1 9), .ref (q1 10), .int (gI o1 11), .int (gI o1 12)])), kI G (q1 3) 20 (gA o1 3), kI G (q1 4) 20 (gA o1 4), kI G (q1 5) 5 (gA o1 5), kJ G (q1 6) 5 (gB o1 6), kJ G (q1 7) 5 (gB o1 7), kJ G (q1 8) 6 (gB o1 8), kI G (q1 10) 5 (gA o1 10), (h2, .inr (2, [.ref (q2 0), .ref (q2 1), .ref (q2 2)])), kI G (q2 0) 100 (gA o2 0), kI G (q2 1) 100 (gA o2 1), kI G (q2 2) 100 (gA o2 2)]) (w2 := fun (u : Ob) => [(h0, .inr (9, [.int (gI u 0), .ref (q0 1), .ref (q0 2), .ref (q0 3), .ref (q0 4), .ref (q0 5), .ref (q0 6), .ref (q0 7), .int (gI u 8), .ref (r0 9), .int (gI u 10), .ref (r0 11)])), kI G (q0 1) 5 (gA u 1), kI G (q0 2) 20 (gA u 2), kI G (q0 3) 5 (gA u 3), kI G (q0 4) 5 (gA u 4), kI G (q0 5) 5 (gA u 5), kI G (q0 6) 5 (gA u 6), kI G (q0 7) 5 (gA u 7), kB G (r0 9) (r0 109) (gA u 9), kI G (r0 11) (r0 111) (gA u 11), (h1, .inr (5, [.ref (r1 0), .int (gI o1 1), .int (gI o1 2), .ref (q1 3), .ref (q1 4), .ref (q1 5), .ref (q1 6), .ref (q1 7), .ref (q1 8), .ref (q1 9), .ref (q1 10), .int (gI o1 11), .int (gI o1 12)])), kI G (q1 3) 20 (gA o1 3), kI G (q1 4) 20 (gA o1 4), kI G (q1 5) 5 (gA o1 5), kJ G (q1 6) 5 (gB o1 6), kJ G (q1 7) 5 (gB o1 7), kJ G (q1 8) 6 (gB o1 8), kI G (q1 10) 5 (gA o1 10), (h2, .inr (2, [.ref (q2 0), .ref (q2 1), .ref (q2 2)])), kI G (q2 0) 100 (gA o2 0), kI G (q2 1) 100 (gA o2 1), kI G (q2 2) 100 (gA o2 2)]) C (c_Sh_fillBoxes (h0 := h0) (q0 := q0) H.size h) wv_Sh_65 ⟨Nat.le_of_ble_eq_true rfl, Nat.le_of_ble_eq_true rfl⟩ hP hD hS 0 rfl rfl [0, 1, 2, 3, 4, 5, 6, 7, 8, 9] [10, 11, 12, 13, 14, 15, 16, 17, 18, 19, 20, 21] rfl rfl (by decide) (by decide) (by decide) [12, 13, 14, 15, 16, 17, 18, 19, 20, 21, 0, 1, 2, 3, 4, 5, 6, 7, 8, 9, 10, 11] (by decide) (fun u => rfl) rfl hl.1 rfl (lv_room (Nat.le_of_ble_eq_true rfl)) d_Sh_ask_66 ⟨g8, g9⟩ rfl rfl (fun u H locs h hP hD hS => ?_)
          generalize u = u10 at h hP hD
          have hP : va_P G.1 CL [(h0, .inr (9, [.int (gI u10 0), .ref (q0 1), .ref (q0 2), .ref (q0 3), .ref (q0 4), .ref (q0 5), .ref (q0 6), .ref (q0 7), .int (gI u10 8), .ref (r0 9), .int (gI u10 10), .ref (r0 11)])), kI G (q0 1) 5 (gA u10 1), kI G (q0 2) 20 (gA u10 2), kI G (q0 3) 5 (gA u10 3), kI G (q0 4) 5 (gA u10 4), kI G (q0 5) 5 (gA u10 5), kI G (q0 6) 5 (gA u10 6), kI G (q0 7) 5 (gA u10 7), kB G (r0 9) (r0 109) (gA u10 9), kI G (r0 11) (r0 111) (gA u10 11), (h1, .inr (5, [.ref (r1 0), .int (gI o1 1), .int (gI o1 2), .ref (q1 3), .ref (q1 4), .ref (q1 5), .ref (q1 6), .ref (q1 7), .ref (q1 8), .ref (q1 9), .ref (q1 10), .int (gI o1 11), .int (gI o1 12)])), kI G (q1 3) 20 (gA o1 3), kI G (q1 4) 20 (gA o1 4), kI G (q1 5) 5 (gA o1 5), kJ G (q1 6) 5 (gB o1 6), kJ G (q1 7) 5 (gB o1 7), kJ G (q1 8) 6 (gB o1 8), kI G (q1 10) 5 (gA o1 10), (h2, .inr (2, [.ref (q2 0), .ref (q2 1), .ref (q2 2)])), kI G (q2 0) 100 (gA o2 0), kI G (q2 1) 100 (gA o2 1), kI G (q2 2) 100 (gA o2 2)] H := hP
          have hD : va_D A [(h0, .inr (9, [.int (gI u10 0), .ref (q0 1), .ref (q0 2), .ref (q0 3), .ref (q0 4), .ref (q0 5), .ref (q0 6), .ref (q0 7), .int (gI u10 8), .ref (r0 9), .int (gI u10 10), .ref (r0 11)])), kI G (q0 1) 5 (gA u10 1), kI G (q0 2) 20 (gA u10 2), kI G (q0 3) 5 (gA u10 3), kI G (q0 4) 5 (gA u10 4), kI G (q0 5) 5 (gA u10 5), kI G (q0 6) 5 (gA u10 6), kI G (q0 7) 5 (gA u10 7), kB G (r0 9) (r0 109) (gA u10 9), kI G (r0 11) (r0 111) (gA u10 11), (h1, .inr (5, [.ref (r1 0), .int (gI o1 1), .int (gI o1 2), .ref (q1 3), .ref (q1 4), .ref (q1 5), .ref (q1 6), .ref (q1 7), .ref (q1 8), .ref (q1 9), .ref (q1 10), .int (gI o1 11), .int (gI o1 12)])), kI G (q1 3) 20 (gA o1 3), kI G (q1 4) 20 (gA o1 4), kI G (q1 5) 5 (gA o1 5), kJ G (q1 6) 5 (gB o1 6), kJ G (q1 7) 5 (gB o1 7), kJ G (q1 8) 6 (gB o1 8), kI G (q1 10) 5 (gA o1 10), (h2, .inr (2, [.ref (q2 0), .ref (q2 1), .ref (q2 2)])), kI G (q2 0) 100 (gA o2 0), kI G (q2 1) 100 (gA o2 1), kI G (q2 2) 100 (gA o2 2)] := hD
          refine lv_aload_n hx hb d_Sh_ask_69 rfl (lv_at hl 0 rfl) ?_
          refine lv_dup hx hb d_Sh_ask_70 rfl ?_
          refine va_get (D := G.1) (ci := 9) (v := .int (gI u10 10)) (C := R_Sh) (T := T_Sh) (N := 12) hx hb hts i_Sh hown hK hP 0 rfl rfl 10 (by decide) (hts _ wf_Sh_62) (fun _ h9 => h9) rfl d_Sh_ask_71 ?_
          refine lv_iconst (v := (1 : Int32)) hx hb d_Sh_ask_74 (by decide) ?_
          refine lv_iload hx hb d_Sh_ask_75 (lv_at hl 1 rfl) ?_
          refine lv_ishl hx hb d_Sh_ask_77 ?_
          refine lv_ior hx hb d_Sh_ask_78 ?_
          refine lv_topi (fun y11 ey11 => ?_)
          have h := h y11 ey11
          refine va_put (D := G.1) (ci := 9) (v := .int y11) (ty := .int) (C := R_Sh) (T := T_Sh) (N := 12) hx hb hts i_Sh ty_Sh ty_Sh_ok nm_Sh hown hK hP hD hS 0 rfl rfl 10 (by decide) (hts _ wf_Sh_62) (fun _ h9 => h9) rfl (ty_Sh_ok 10 (by decide)) rfl rfl (Nat.le_of_ble_eq_true rfl) d_Sh_ask_79 (fun H locs hP hD hS => ?_)
          have hP : va_P G.1 CL [(h0, .inr (9, [.int (gI u10 0), .ref (q0 1), .ref (q0 2), .ref (q0 3), .ref (q0 4), .ref (q0 5), .ref (q0 6), .ref (q0 7), .int (gI u10 8), .ref (r0 9), .int y11, .ref (r0 11)])), kI G (q0 1) 5 (gA u10 1), kI G (q0 2) 20 (gA u10 2), kI G (q0 3) 5 (gA u10 3), kI G (q0 4) 5 (gA u10 4), kI G (q0 5) 5 (gA u10 5), kI G (q0 6) 5 (gA u10 6), kI G (q0 7) 5 (gA u10 7), kB G (r0 9) (r0 109) (gA u10 9), kI G (r0 11) (r0 111) (gA u10 11), (h1, .inr (5, [.ref (r1 0), .int (gI o1 1), .int (gI o1 2), .ref (q1 3), .ref (q1 4), .ref (q1 5), .ref (q1 6), .ref (q1 7), .ref (q1 8), .ref (q1 9), .ref (q1 10), .int (gI o1 11), .int (gI o1 12)])), kI G (q1 3) 20 (gA o1 3), kI G (q1 4) 20 (gA o1 4), kI G (q1 5) 5 (gA o1 5), kJ G (q1 6) 5 (gB o1 6), kJ G (q1 7) 5 (gB o1 7), kJ G (q1 8) 6 (gB o1 8), kI G (q1 10) 5 (gA o1 10), (h2, .inr (2, [.ref (q2 0), .ref (q2 1), .ref (q2 2)])), kI G (q2 0) 100 (gA o2 0), kI G (q2 1) 100 (gA o2 1), kI G (q2 2) 100 (gA o2 2)] H := hP
          have hD : va_D A [(h0, .inr (9, [.int (gI u10 0), .ref (q0 1), .ref (q0 2), .ref (q0 3), .ref (q0 4), .ref (q0 5), .ref (q0 6), .ref (q0 7), .int (gI u10 8), .ref (r0 9), .int y11, .ref (r0 11)])), kI G (q0 1) 5 (gA u10 1), kI G (q0 2) 20 (gA u10 2), kI G (q0 3) 5 (gA u10 3), kI G (q0 4) 5 (gA u10 4), kI G (q0 5) 5 (gA u10 5), kI G (q0 6) 5 (gA u10 6), kI G (q0 7) 5 (gA u10 7), kB G (r0 9) (r0 109) (gA u10 9), kI G (r0 11) (r0 111) (gA u10 11), (h1, .inr (5, [.ref (r1 0), .int (gI o1 1), .int (gI o1 2), .ref (q1 3), .ref (q1 4), .ref (q1 5), .ref (q1 6), .ref (q1 7), .ref (q1 8), .ref (q1 9), .ref (q1 10), .int (gI o1 11), .int (gI o1 12)])), kI G (q1 3) 20 (gA o1 3), kI G (q1 4) 20 (gA o1 4), kI G (q1 5) 5 (gA o1 5), kJ G (q1 6) 5 (gB o1 6), kJ G (q1 7) 5 (gB o1 7), kJ G (q1 8) 6 (gB o1 8), kI G (q1 10) 5 (gA o1 10), (h2, .inr (2, [.ref (q2 0), .ref (q2 1), .ref (q2 2)])), kI G (q2 0) 100 (gA o2 0), kI G (q2 1) 100 (gA o2 1), kI G (q2 2) 100 (gA o2 2)] := hD
          refine lv_iinc (v := (x4 + (1 : Int32))) (lv' := [(4, .int (x4 + (1 : Int32))), (0, .ref h0)]) hx hb d_Sh_ask_82 hl (k := 1) rfl rfl (by decide) rfl (fun ls hl => ?_)
          refine lv_goto (tgt := 28) hx hb d_Sh_ask_85 (by decide) ?_
          have hl := lv_sub (l' := [(0, .ref h0), (4, .int (x4 + (1 : Int32)))]) hl [1, 0] rfl
          have hP : va_P G.1 CL (cw_Sh G h0 q0 r0 (sI u10 10 y11) ++ (cw_Mo G h1 q1 r1 o1 ++ (cw_He G h2 q2 o2))) H := hP
          have hD : va_D A (cw_Sh G h0 q0 r0 (sI u10 10 y11) ++ (cw_Mo G h1 q1 r1 o1 ++ (cw_He G h2 q2 o2))) := hD
          exact ih cs sl (x4 + (1 : Int32)) r0 (sI u10 10 y11) ls H locs hl hP hD hS h
set_option maxHeartbeats 4000000 in
set_option maxRecDepth 100000 in
theorem c_Sh_ask {l : Launch} {G : Gl} {h0 : Nat} {h1 : Nat} {h2 : Nat} {q0 : Nat → Nat} {q1 : Nat → Nat} {q2 : Nat → Nat} {a2 : Int32} {r0 : (Nat → Nat)} {o0 : Ob} {r1 : (Nat → Nat)} {o1 : Ob} {o2 : Ob} {Q : (Nat → Nat) → Ob → Prop} (sz : Nat) (h : f_Sh_ask a2 r0 o0 r1 o1 o2 Q) : Met l y_Sh_ask w_Sh_ask rm_Sh_ask (PcW G [.ref h0, .ref h1, .ref h2, .int a2] sz (cw_Sh G h0 q0 r0 o0 ++ (cw_Mo G h1 q1 r1 o1 ++ (cw_He G h2 q2 o2)))) (va_Qv (fun (u : (Nat → Nat) × Ob) => Q u.1 u.2) (fun (u : (Nat → Nat) × Ob) t => BW G (va_A (cw_Sh G h0 q0 r0 o0 ++ (cw_Mo G h1 q1 r1 o1 ++ (cw_He G h2 q2 o2))) sz) (cw_Sh G h0 q0 u.1 u.2 ++ (cw_Mo G h1 q1 r1 o1 ++ (cw_He G h2 q2 o2))) t) (va_A (cw_Sh G h0 q0 r0 o0 ++ (cw_Mo G h1 q1 r1 o1 ++ (cw_He G h2 q2 o2))) sz)) 1 5120 (va_A (cw_Sh G h0 q0 r0 o0 ++ (cw_Mo G h1 q1 r1 o1 ++ (cw_He G h2 q2 o2))) sz) := by
  refine Met.ofW (cc := b_Sh_ask) (maxL := 5) (ret := none) (by decide +kernel) rfl ?_
  intro p e s m args below meth c s₁ B hml hv
  obtain ⟨rfl, hsz, hP, hK, hD0, hE⟩ := hv
  have hx := B.exec
  have hb := B.bytes
  have hr := B.returns
  have hts0 := atoms_spec (ws := w_Sh_ask) B.pre
  have hts : ∀ w ∈ gw_tbl, w.before ([.ref h0, .ref h1, .ref h2, .int a2]).toArray s = true := fun w hw => hts0 w (List.mem_cons_of_mem _ hw)
  have hown : s.vm.findClass R_Sh = some m.cls := findClass_of_methodNamed B.named
  have hlocks := B.notSynchronized
  subst hsz
  have hD := hD0.self (sz := s.heap.size)
  generalize hAe : va_A (cw_Sh G h0 q0 r0 o0 ++ (cw_Mo G h1 q1 r1 o1 ++ (cw_He G h2 q2 o2))) s.heap.size = A at hD hE ⊢
  have hA : ∀ q : Nat, s.heap.size ≤ q → A q := fun q h => by rw [← hAe]; exact Or.inr h
  have hS : va_S A s.heap s.heap [] := va_S.rf
  have C : Cx p s m ([.ref h0, .ref h1, .ref h2, .int a2]).toArray meth c R_Sh b_Sh_ask 5 none G A := ⟨hx, hb, hml, hown, hr, hts, hK, hA, hlocks, hE⟩
  have hl := lv_entry ([.ref h0, .ref h1, .ref h2, .int a2]) (n := 5) (Nat.le_of_ble_eq_true rfl)
  rw [lg_entry_eq]
  generalize (lg_sl ([.ref h0, .ref h1, .ref h2, .int a2]) ++ List.replicate (5 - (lg_sl ([.ref h0, .ref h1, .ref h2, .int a2])).length) Slot.unset).toArray = ls at hl ⊢
  have hl : lv_has ls 5 [(0, .ref h0), (1, .ref h1), (2, .ref h2), (3, .int a2)] := hl
  have hD : va_D A [(h0, .inr (9, [.int (gI o0 0), .ref (q0 1), .ref (q0 2), .ref (q0 3), .ref (q0 4), .ref (q0 5), .ref (q0 6), .ref (q0 7), .int (gI o0 8), .ref (r0 9), .int (gI o0 10), .ref (r0 11)])), kI G (q0 1) 5 (gA o0 1), kI G (q0 2) 20 (gA o0 2), kI G (q0 3) 5 (gA o0 3), kI G (q0 4) 5 (gA o0 4), kI G (q0 5) 5 (gA o0 5), kI G (q0 6) 5 (gA o0 6), kI G (q0 7) 5 (gA o0 7), kB G (r0 9) (r0 109) (gA o0 9), kI G (r0 11) (r0 111) (gA o0 11), (h1, .inr (5, [.ref (r1 0), .int (gI o1 1), .int (gI o1 2), .ref (q1 3), .ref (q1 4), .ref (q1 5), .ref (q1 6), .ref (q1 7), .ref (q1 8), .ref (q1 9), .ref (q1 10), .int (gI o1 11), .int (gI o1 12)])), kI G (q1 3) 20 (gA o1 3), kI G (q1 4) 20 (gA o1 4), kI G (q1 5) 5 (gA o1 5), kJ G (q1 6) 5 (gB o1 6), kJ G (q1 7) 5 (gB o1 7), kJ G (q1 8) 6 (gB o1 8), kI G (q1 10) 5 (gA o1 10), (h2, .inr (2, [.ref (q2 0), .ref (q2 1), .ref (q2 2)])), kI G (q2 0) 100 (gA o2 0), kI G (q2 1) 100 (gA o2 1), kI G (q2 2) 100 (gA o2 2)] := hD
  unfold f_Sh_ask at h
  suffices key : ∀ (H : Heap) (locs : List Loc), va_P G.1 CL [(h0, .inr (9, [.int (gI o0 0), .ref (q0 1), .ref (q0 2), .ref (q0 3), .ref (q0 4), .ref (q0 5), .ref (q0 6), .ref (q0 7), .int (gI o0 8), .ref (r0 9), .int (gI o0 10), .ref (r0 11)])), kI G (q0 1) 5 (gA o0 1), kI G (q0 2) 20 (gA o0 2), kI G (q0 3) 5 (gA o0 3), kI G (q0 4) 5 (gA o0 4), kI G (q0 5) 5 (gA o0 5), kI G (q0 6) 5 (gA o0 6), kI G (q0 7) 5 (gA o0 7), kB G (r0 9) (r0 109) (gA o0 9), kI G (r0 11) (r0 111) (gA o0 11), (h1, .inr (5, [.ref (r1 0), .int (gI o1 1), .int (gI o1 2), .ref (q1 3), .ref (q1 4), .ref (q1 5), .ref (q1 6), .ref (q1 7), .ref (q1 8), .ref (q1 9), .ref (q1 10), .int (gI o1 11), .int (gI o1 12)])), kI G (q1 3) 20 (gA o1 3), kI G (q1 4) 20 (gA o1 4), kI G (q1 5) 5 (gA o1 5), kJ G (q1 6) 5 (gB o1 6), kJ G (q1 7) 5 (gB o1 7), kJ G (q1 8) 6 (gB o1 8), kI G (q1 10) 5 (gA o1 10), (h2, .inr (2, [.ref (q2 0), .ref (q2 1), .ref (q2 2)])), kI G (q2 0) 100 (gA o2 0), kI G (q2 1) 100 (gA o2 1), kI G (q2 2) 100 (gA o2 2)] H → va_S A s.heap H locs → W p l e rm_Sh_ask s m ([.ref h0, .ref h1, .ref h2, .int a2]).toArray below meth c H locs 0 0 (MQ below (va_Qv (fun (u : (Nat → Nat) × Ob) => Q u.1 u.2) (fun (u : (Nat → Nat) × Ob) t => BW G A (cw_Sh G h0 q0 u.1 u.2 ++ (cw_Mo G h1 q1 r1 o1 ++ (cw_He G h2 q2 o2))) t) A) ([.ref h0, .ref h1, .ref h2, .int a2]).toArray s 1 5120 A) (F0 m 0 ls []) from key s.heap [] hP hS
  intro H locs hP hS
  refine lv_aload_n hx hb d_Sh_ask_0 rfl (lv_at hl 0 rfl) ?_
  refine lv_aload_n hx hb d_Sh_ask_1 rfl (lv_at hl 1 rfl) ?_
  refine va_get (D := G.1) (ci := 5) (v := .ref (q1 10)) (C := R_Mo) (T := T_Mo) (N := 13) hx hb hts i_Mo hown hK hP 10 rfl rfl 10 (by decide) (hts _ wf_Sh_44) (fun _ h9 => h9) rfl d_Sh_ask_2 ?_
  refine cl_Vv (b := b_Sh_ask) (As := [.ref (q1 10)]) (rest := []) (ws := [(h0, .inr (9, [.int (gI o0 0), .ref (q0 1), .ref (q0 2), .ref (q0 3), .ref (q0 4), .ref (q0 5), .ref (q0 6), .ref (q0 7), .int (gI o0 8), .ref (r0 9), .int (gI o0 10), .ref (r0 11)])), kI G (q0 1) 5 (gA o0 1), kI G (q0 2) 20 (gA o0 2), kI G (q0 3) 5 (gA o0 3), kI G (q0 4) 5 (gA o0 4), kI G (q0 5) 5 (gA o0 5), kI G (q0 6) 5 (gA o0 6), kI G (q0 7) 5 (gA o0 7), kB G (r0 9) (r0 109) (gA o0 9), kI G (r0 11) (r0 111) (gA o0 11), (h1, .inr (5, [.ref (r1 0), .int (gI o1 1), .int (gI o1 2), .ref (q1 3), .ref (q1 4), .ref (q1 5), .ref (q1 6), .ref (q1 7), .ref (q1 8), .ref (q1 9), .ref (q1 10), .int (gI o1 11), .int (gI o1 12)])), kI G (q1 3) 20 (gA o1 3), kI G (q1 4) 20 (gA o1 4), kI G (q1 5) 5 (gA o1 5), kJ G (q1 6) 5 (gB o1 6), kJ G (q1 7) 5 (gB o1 7), kJ G (q1 8) 6 (gB o1 8), kI G (q1 10) 5 (gA o1 10), (h2, .inr (2, [.ref (q2 0), .ref (q2 1), .ref (q2 2)])), kI G (q2 0) 100 (gA o2 0), kI G (q2 1) 100 (gA o2 1), kI G (q2 2) 100 (gA o2 2)]) (wr := [(h1, .inr (5, [.ref (r1 0), .int (gI o1 1), .int (gI o1 2), .ref (q1 3), .ref (q1 4), .ref (q1 5), .ref (q1 6), .ref (q1 7), .ref (q1 8), .ref (q1 9), .ref (q1 10), .int (gI o1 11), .int (gI o1 12)])), kI G (q1 3) 20 (gA o1 3), kI G (q1 4) 20 (gA o1 4), kI G (q1 5) 5 (gA o1 5), kJ G (q1 6) 5 (gB o1 6), kJ G (q1 7) 5 (gB o1 7), kJ G (q1 8) 6 (gB o1 8), (h2, .inr (2, [.ref (q2 0), .ref (q2 1), .ref (q2 2)])), kI G (q2 0) 100 (gA o2 0), kI G (q2 1) 100 (gA o2 1), kI G (q2 2) 100 (gA o2 2)]) (w2 := fun (u : (Nat → Nat) × Ob) => [(h0, .inr (9, [.int (gI u.2 0), .ref (q0 1), .ref (q0 2), .ref (q0 3), .ref (q0 4), .ref (q0 5), .ref (q0 6), .ref (q0 7), .int (gI u.2 8), .ref (u.1 9), .int (gI u.2 10), .ref (u.1 11)])), kI G (q0 1) 5 (gA u.2 1), kI G (q0 2) 20 (gA u.2 2), kI G (q0 3) 5 (gA u.2 3), kI G (q0 4) 5 (gA u.2 4), kI G (q0 5) 5 (gA u.2 5), kI G (q0 6) 5 (gA u.2 6), kI G (q0 7) 5 (gA u.2 7), kB G (u.1 9) (u.1 109) (gA u.2 9), kI G (u.1 11) (u.1 111) (gA u.2 11), (h1, .inr (5, [.ref (r1 0), .int (gI o1 1), .int (gI o1 2), .ref (q1 3), .ref (q1 4), .ref (q1 5), .ref (q1 6), .ref (q1 7), .ref (q1 8), .ref (q1 9), .ref (q1 10), .int (gI o1 11), .int (gI o1 12)])), kI G (q1 3) 20 (gA o1 3), kI G (q1 4) 20 (gA o1 4), kI G (q1 5) 5 (gA o1 5), kJ G (q1 6) 5 (gB o1 6), kJ G (q1 7) 5 (gB o1 7), kJ G (q1 8) 6 (gB o1 8), kI G (q1 10) 5 (gA o1 10), (h2, .inr (2, [.ref (q2 0), .ref (q2 1), .ref (q2 2)])), kI G (q2 0) 100 (gA o2 0), kI G (q2 1) 100 (gA o2 1), kI G (q2 2) 100 (gA o2 2)]) C (c_Sh_layOut (h0 := h0) (q0 := q0) (h1 := (q1 10)) H.size h) wv_Sh_49 ⟨Nat.le_of_ble_eq_true rfl, Nat.le_of_ble_eq_true rfl⟩ hP hD hS 0 rfl rfl [0, 1, 2, 3, 4, 5, 6, 7, 8, 9, 17] [10, 11, 12, 13, 14, 15, 16, 18, 19, 20, 21] rfl rfl (by decide) (by decide) (by decide) [11, 12, 13, 14, 15, 16, 17, 18, 19, 20, 0, 1, 2, 3, 4, 5, 6, 21, 7, 8, 9, 10] (by decide) (fun u => rfl) rfl hl.1 rfl (lv_room (Nat.le_of_ble_eq_true rfl)) d_Sh_ask_5 ⟨Nat.le_of_ble_eq_true rfl, Nat.le_of_ble_eq_true rfl⟩ rfl rfl (fun u H locs h hP hD hS => ?_)
  obtain ⟨u12, u13⟩ := u
  have hP : va_P G.1 CL [(h0, .inr (9, [.int (gI u13 0), .ref (q0 1), .ref (q0 2), .ref (q0 3), .ref (q0 4), .ref (q0 5), .ref (q0 6), .ref (q0 7), .int (gI u13 8), .ref (u12 9), .int (gI u13 10), .ref (u12 11)])), kI G (q0 1) 5 (gA u13 1), kI G (q0 2) 20 (gA u13 2), kI G (q0 3) 5 (gA u13 3), kI G (q0 4) 5 (gA u13 4), kI G (q0 5) 5 (gA u13 5), kI G (q0 6) 5 (gA u13 6), kI G (q0 7) 5 (gA u13 7), kB G (u12 9) (u12 109) (gA u13 9), kI G (u12 11) (u12 111) (gA u13 11), (h1, .inr (5, [.ref (r1 0), .int (gI o1 1), .int (gI o1 2), .ref (q1 3), .ref (q1 4), .ref (q1 5), .ref (q1 6), .ref (q1 7), .ref (q1 8), .ref (q1 9), .ref (q1 10), .int (gI o1 11), .int (gI o1 12)])), kI G (q1 3) 20 (gA o1 3), kI G (q1 4) 20 (gA o1 4), kI G (q1 5) 5 (gA o1 5), kJ G (q1 6) 5 (gB o1 6), kJ G (q1 7) 5 (gB o1 7), kJ G (q1 8) 6 (gB o1 8), kI G (q1 10) 5 (gA o1 10), (h2, .inr (2, [.ref (q2 0), .ref (q2 1), .ref (q2 2)])), kI G (q2 0) 100 (gA o2 0), kI G (q2 1) 100 (gA o2 1), kI G (q2 2) 100 (gA o2 2)] H := hP
  have hD : va_D A [(h0, .inr (9, [.int (gI u13 0), .ref (q0 1), .ref (q0 2), .ref (q0 3), .ref (q0 4), .ref (q0 5), .ref (q0 6), .ref (q0 7), .int (gI u13 8), .ref (u12 9), .int (gI u13 10), .ref (u12 11)])), kI G (q0 1) 5 (gA u13 1), kI G (q0 2) 20 (gA u13 2), kI G (q0 3) 5 (gA u13 3), kI G (q0 4) 5 (gA u13 4), kI G (q0 5) 5 (gA u13 5), kI G (q0 6) 5 (gA u13 6), kI G (q0 7) 5 (gA u13 7), kB G (u12 9) (u12 109) (gA u13 9), kI G (u12 11) (u12 111) (gA u13 11), (h1, .inr (5, [.ref (r1 0), .int (gI o1 1), .int (gI o1 2), .ref (q1 3), .ref (q1 4), .ref (q1 5), .ref (q1 6), .ref (q1 7), .ref (q1 8), .ref (q1 9), .ref (q1 10), .int (gI o1 11), .int (gI o1 12)])), kI G (q1 3) 20 (gA o1 3), kI G (q1 4) 20 (gA o1 4), kI G (q1 5) 5 (gA o1 5), kJ G (q1 6) 5 (gB o1 6), kJ G (q1 7) 5 (gB o1 7), kJ G (q1 8) 6 (gB o1 8), kI G (q1 10) 5 (gA o1 10), (h2, .inr (2, [.ref (q2 0), .ref (q2 1), .ref (q2 2)])), kI G (q2 0) 100 (gA o2 0), kI G (q2 1) 100 (gA o2 1), kI G (q2 2) 100 (gA o2 2)] := hD
  refine lv_aload_n hx hb d_Sh_ask_8 rfl (lv_at hl 2 rfl) ?_
  refine lv_iload_n hx hb d_Sh_ask_9 rfl (lv_at hl 3 rfl) ?_
  refine lv_aload_n hx hb d_Sh_ask_10 rfl (lv_at hl 1 rfl) ?_
  refine va_get (D := G.1) (ci := 5) (v := .int (gI o1 12)) (C := R_Mo) (T := T_Mo) (N := 13) hx hb hts i_Mo hown hK hP 10 rfl rfl 12 (by decide) (hts _ wf_Sh_53) (fun _ h9 => h9) rfl d_Sh_ask_11 ?_
  refine lv_aload_n hx hb d_Sh_ask_14 rfl (lv_at hl 0 rfl) ?_
  refine va_get (D := G.1) (ci := 9) (v := .ref (q0 6)) (C := R_Sh) (T := T_Sh) (N := 12) hx hb hts i_Sh hown hK hP 0 rfl rfl 6 (by decide) (hts _ wf_Sh_27) (fun _ h9 => h9) rfl d_Sh_ask_15 ?_
  refine lv_aload_n hx hb d_Sh_ask_18 rfl (lv_at hl 0 rfl) ?_
  refine va_get (D := G.1) (ci := 9) (v := .ref (q0 7)) (C := R_Sh) (T := T_Sh) (N := 12) hx hb hts i_Sh hown hK hP 0 rfl rfl 7 (by decide) (hts _ wf_Sh_30) (fun _ h9 => h9) rfl d_Sh_ask_19 ?_
  refine cl_Vv (b := b_Sh_ask) (As := [.int a2, .int (gI o1 12), .ref (q0 6), .ref (q0 7)]) (rest := []) (ws := [(h0, .inr (9, [.int (gI u13 0), .ref (q0 1), .ref (q0 2), .ref (q0 3), .ref (q0 4), .ref (q0 5), .ref (q0 6), .ref (q0 7), .int (gI u13 8), .ref (u12 9), .int (gI u13 10), .ref (u12 11)])), kI G (q0 1) 5 (gA u13 1), kI G (q0 2) 20 (gA u13 2), kI G (q0 3) 5 (gA u13 3), kI G (q0 4) 5 (gA u13 4), kI G (q0 5) 5 (gA u13 5), kI G (q0 6) 5 (gA u13 6), kI G (q0 7) 5 (gA u13 7), kB G (u12 9) (u12 109) (gA u13 9), kI G (u12 11) (u12 111) (gA u13 11), (h1, .inr (5, [.ref (r1 0), .int (gI o1 1), .int (gI o1 2), .ref (q1 3), .ref (q1 4), .ref (q1 5), .ref (q1 6), .ref (q1 7), .ref (q1 8), .ref (q1 9), .ref (q1 10), .int (gI o1 11), .int (gI o1 12)])), kI G (q1 3) 20 (gA o1 3), kI G (q1 4) 20 (gA o1 4), kI G (q1 5) 5 (gA o1 5), kJ G (q1 6) 5 (gB o1 6), kJ G (q1 7) 5 (gB o1 7), kJ G (q1 8) 6 (gB o1 8), kI G (q1 10) 5 (gA o1 10), (h2, .inr (2, [.ref (q2 0), .ref (q2 1), .ref (q2 2)])), kI G (q2 0) 100 (gA o2 0), kI G (q2 1) 100 (gA o2 1), kI G (q2 2) 100 (gA o2 2)]) (wr := [(h0, .inr (9, [.int (gI u13 0), .ref (q0 1), .ref (q0 2), .ref (q0 3), .ref (q0 4), .ref (q0 5), .ref (q0 6), .ref (q0 7), .int (gI u13 8), .ref (u12 9), .int (gI u13 10), .ref (u12 11)])), kI G (q0 1) 5 (gA u13 1), kI G (q0 2) 20 (gA u13 2), kI G (q0 3) 5 (gA u13 3), kI G (q0 4) 5 (gA u13 4), kI G (q0 5) 5 (gA u13 5), kB G (u12 9) (u12 109) (gA u13 9), kI G (u12 11) (u12 111) (gA u13 11), (h1, .inr (5, [.ref (r1 0), .int (gI o1 1), .int (gI o1 2), .ref (q1 3), .ref (q1 4), .ref (q1 5), .ref (q1 6), .ref (q1 7), .ref (q1 8), .ref (q1 9), .ref (q1 10), .int (gI o1 11), .int (gI o1 12)])), kI G (q1 3) 20 (gA o1 3), kI G (q1 4) 20 (gA o1 4), kI G (q1 5) 5 (gA o1 5), kJ G (q1 6) 5 (gB o1 6), kJ G (q1 7) 5 (gB o1 7), kJ G (q1 8) 6 (gB o1 8), kI G (q1 10) 5 (gA o1 10)]) (w2 := fun (u : (Nat → Int32) × (Nat → Int32)) => [(h0, .inr (9, [.int (gI u13 0), .ref (q0 1), .ref (q0 2), .ref (q0 3), .ref (q0 4), .ref (q0 5), .ref (q0 6), .ref (q0 7), .int (gI u13 8), .ref (u12 9), .int (gI u13 10), .ref (u12 11)])), kI G (q0 1) 5 (gA u13 1), kI G (q0 2) 20 (gA u13 2), kI G (q0 3) 5 (gA u13 3), kI G (q0 4) 5 (gA u13 4), kI G (q0 5) 5 (gA u13 5), kI G (q0 6) 5 u.1, kI G (q0 7) 5 u.2, kB G (u12 9) (u12 109) (gA u13 9), kI G (u12 11) (u12 111) (gA u13 11), (h1, .inr (5, [.ref (r1 0), .int (gI o1 1), .int (gI o1 2), .ref (q1 3), .ref (q1 4), .ref (q1 5), .ref (q1 6), .ref (q1 7), .ref (q1 8), .ref (q1 9), .ref (q1 10), .int (gI o1 11), .int (gI o1 12)])), kI G (q1 3) 20 (gA o1 3), kI G (q1 4) 20 (gA o1 4), kI G (q1 5) 5 (gA o1 5), kJ G (q1 6) 5 (gB o1 6), kJ G (q1 7) 5 (gB o1 7), kJ G (q1 8) 6 (gB o1 8), kI G (q1 10) 5 (gA o1 10), (h2, .inr (2, [.ref (q2 0), .ref (q2 1), .ref (q2 2)])), kI G (q2 0) 100 (gA o2 0), kI G (q2 1) 100 (gA o2 1), kI G (q2 2) 100 (gA o2 2)]) C (c_He_fill (h0 := h2) (q0 := q2) (h1 := (q0 6)) (h2 := (q0 7)) H.size h) wv_Sh_56 ⟨Nat.le_of_ble_eq_true rfl, Nat.le_of_ble_eq_true rfl⟩ hP hD hS 18 rfl rfl [18, 19, 20, 21, 6, 7] [0, 1, 2, 3, 4, 5, 8, 9, 10, 11, 12, 13, 14, 15, 16, 17] rfl rfl (by decide) (by decide) (by decide) [0, 1, 2, 3, 4, 5, 20, 21, 6, 7, 8, 9, 10, 11, 12, 13, 14, 15, 16, 17, 18, 19] (by decide) (fun u => rfl) rfl hl.1 rfl (lv_room (Nat.le_of_ble_eq_true rfl)) d_Sh_ask_22 ⟨Nat.le_of_ble_eq_true rfl, Nat.le_of_ble_eq_true rfl⟩ rfl rfl (fun u H locs h hP hD hS => ?_)
  obtain ⟨u14, u15⟩ := u
  have hP : va_P G.1 CL [(h0, .inr (9, [.int (gI u13 0), .ref (q0 1), .ref (q0 2), .ref (q0 3), .ref (q0 4), .ref (q0 5), .ref (q0 6), .ref (q0 7), .int (gI u13 8), .ref (u12 9), .int (gI u13 10), .ref (u12 11)])), kI G (q0 1) 5 (gA u13 1), kI G (q0 2) 20 (gA u13 2), kI G (q0 3) 5 (gA u13 3), kI G (q0 4) 5 (gA u13 4), kI G (q0 5) 5 (gA u13 5), kI G (q0 6) 5 u14, kI G (q0 7) 5 u15, kB G (u12 9) (u12 109) (gA u13 9), kI G (u12 11) (u12 111) (gA u13 11), (h1, .inr (5, [.ref (r1 0), .int (gI o1 1), .int (gI o1 2), .ref (q1 3), .ref (q1 4), .ref (q1 5), .ref (q1 6), .ref (q1 7), .ref (q1 8), .ref (q1 9), .ref (q1 10), .int (gI o1 11), .int (gI o1 12)])), kI G (q1 3) 20 (gA o1 3), kI G (q1 4) 20 (gA o1 4), kI G (q1 5) 5 (gA o1 5), kJ G (q1 6) 5 (gB o1 6), kJ G (q1 7) 5 (gB o1 7), kJ G (q1 8) 6 (gB o1 8), kI G (q1 10) 5 (gA o1 10), (h2, .inr (2, [.ref (q2 0), .ref (q2 1), .ref (q2 2)])), kI G (q2 0) 100 (gA o2 0), kI G (q2 1) 100 (gA o2 1), kI G (q2 2) 100 (gA o2 2)] H := hP
  have hD : va_D A [(h0, .inr (9, [.int (gI u13 0), .ref (q0 1), .ref (q0 2), .ref (q0 3), .ref (q0 4), .ref (q0 5), .ref (q0 6), .ref (q0 7), .int (gI u13 8), .ref (u12 9), .int (gI u13 10), .ref (u12 11)])), kI G (q0 1) 5 (gA u13 1), kI G (q0 2) 20 (gA u13 2), kI G (q0 3) 5 (gA u13 3), kI G (q0 4) 5 (gA u13 4), kI G (q0 5) 5 (gA u13 5), kI G (q0 6) 5 u14, kI G (q0 7) 5 u15, kB G (u12 9) (u12 109) (gA u13 9), kI G (u12 11) (u12 111) (gA u13 11), (h1, .inr (5, [.ref (r1 0), .int (gI o1 1), .int (gI o1 2), .ref (q1 3), .ref (q1 4), .ref (q1 5), .ref (q1 6), .ref (q1 7), .ref (q1 8), .ref (q1 9), .ref (q1 10), .int (gI o1 11), .int (gI o1 12)])), kI G (q1 3) 20 (gA o1 3), kI G (q1 4) 20 (gA o1 4), kI G (q1 5) 5 (gA o1 5), kJ G (q1 6) 5 (gB o1 6), kJ G (q1 7) 5 (gB o1 7), kJ G (q1 8) 6 (gB o1 8), kI G (q1 10) 5 (gA o1 10), (h2, .inr (2, [.ref (q2 0), .ref (q2 1), .ref (q2 2)])), kI G (q2 0) 100 (gA o2 0), kI G (q2 1) 100 (gA o2 1), kI G (q2 2) 100 (gA o2 2)] := hD
  refine lv_iconst (v := (0 : Int32)) hx hb d_Sh_ask_25 (by decide) ?_
  refine lv_istore (lv' := [(4, .int (0 : Int32)), (0, .ref h0), (1, .ref h1), (2, .ref h2), (3, .int a2)]) hx hb d_Sh_ask_26 hl (by decide) rfl (fun ls hl => ?_)
  have hl := lv_sub (l' := [(0, .ref h0), (4, .int (0 : Int32))]) hl [1, 0] rfl
  have hP : va_P G.1 CL (cw_Sh G h0 q0 u12 (sA (sA u13 6 u14) 7 u15) ++ (cw_Mo G h1 q1 r1 o1 ++ (cw_He G h2 q2 o2))) H := hP
  have hD : va_D A (cw_Sh G h0 q0 u12 (sA (sA u13 6 u14) 7 u15) ++ (cw_Mo G h1 q1 r1 o1 ++ (cw_He G h2 q2 o2))) := hD
  obtain ⟨w, h⟩ := h
  exact t_Sh_ask_28 r1 o1 o2 Q C w 1 5120 (0 : Int32) u12 (sA (sA u13 6 u14) 7 u15) ls _ locs hl hP hD hS h
def f_Sh_ask0_28 (r1 : (Nat → Nat)) (o1 : Ob) (o2 : Ob) (Q : (Nat → Nat) → Ob → Prop) : Nat → Int32 → (Nat → Nat) → Ob → Prop
  | 0, _, _, _ => False
  | n + 1, x4, r0, o0 => ((5 : Int32) ≤ x4 → (Q r0 o0)) ∧ (¬ (5 : Int32) ≤ x4 → ((vp_in x4 5) ∧ ((vp_in x4 5) ∧ ((((gA o0 7) x4.toNatClampNeg) < ((gA o0 6) x4.toNatClampNeg) → ((f_Sh_ask0_28 r1 o1 o2 Q n) (x4 + (1 : Int32)) r0 o0)) ∧ (¬ ((gA o0 7) x4.toNatClampNeg) < ((gA o0 6) x4.toNatClampNeg) → ((((gI o0 10) &&& ((1 : Int32) <<< (x4 &&& 31))) = 0 → (f_Sh_fillBoxes x4 r0 o0 (fun u6 => (f_Sh_ask0_28 r1 o1 o2 Q n) (x4 + (1 : Int32)) r0 (sI u6 10 ((gI u6 10) ||| ((1 : Int32) <<< (x4 &&& 31))))))) ∧ (¬ ((gI o0 10) &&& ((1 : Int32) <<< (x4 &&& 31))) = 0 → ((f_Sh_ask0_28 r1 o1 o2 Q n) (x4 + (1 : Int32)) r0 o0))))))))
def f_Sh_ask0 (a2 : Int32) (r0 : (Nat → Nat)) (o0 : Ob) (r1 : (Nat → Nat)) (o1 : Ob) (o2 : Ob) (Q : (Nat → Nat) → Ob → Prop) : Prop := f_Sh_layOut0 r0 o0 (gA o1 10) (fun u7 u8 => f_He_fill a2 (gI o1 12) o2 (gA u8 6) (gA u8 7) (fun u9 u10 => (∃ w, f_Sh_ask0_28 r1 o1 o2 Q w (0 : Int32) u7 (sA (sA u8 6 u9) 7 u10))))
abbrev rm_Sh_ask0 : Room := { frames := 3, cells := 0, slots := 0, locals := 86 }
set_option maxHeartbeats 4000000 in
set_option maxRecDepth 100000 in
theorem t_Sh_ask0_28 {p : Program} {l : Launch} {e : Env} {s : State} {m : MethodId} {args : Array Value} {below : List Frame} {meth : Method} {c : Code} {A : Nat → Prop} {G : Gl} {h0 : Nat} {h1 : Nat} {h2 : Nat} {q0 : Nat → Nat} {q1 : Nat → Nat} {q2 : Nat → Nat} (r1 : (Nat → Nat)) (o1 : Ob) (o2 : Ob) (Q : (Nat → Nat) → Ob → Prop) (C : Cx p s m args meth c R_Sh b_Sh_ask 5 none G A) :
    ∀ (n : Nat) (x4 : Int32) (r0 : (Nat → Nat)) (o0 : Ob) (ls : Array Slot) (H : Heap) (locs : List Loc), lv_has ls 5 [(0, .ref h0), (4, .int x4)] → va_P G.1 CL (cw_Sh G h0 q0 r0 o0 ++ (cw_Mo G h1 q1 r1 o1 ++ (cw_He G h2 q2 o2))) H → va_D A (cw_Sh G h0 q0 r0 o0 ++ (cw_Mo G h1 q1 r1 o1 ++ (cw_He G h2 q2 o2))) → va_S A s.heap H locs → f_Sh_ask0_28 r1 o1 o2 Q n x4 r0 o0 → W p l e rm_Sh_ask0 s m args below meth c H locs 0 0 (MQ below (va_Qv (fun (u : (Nat → Nat) × Ob) => Q u.1 u.2) (fun (u : (Nat → Nat) × Ob) t => BW G A (cw_Sh G h0 q0 u.1 u.2 ++ (cw_Mo G h1 q1 r1 o1 ++ (cw_He G h2 q2 o2))) t) A) args s 0 0 A) (F0 m 28 ls []) := by
  obtain ⟨hx, hb, hml, hown, hr, hts, hK, hA, hlocks, hE⟩ := id C
  intro n
  induction n with
  | zero => intro x4 r0 o0 ls H locs hl hP hD hS h; exact absurd h id
  | succ n ih =>
    intro x4 r0 o0 ls H locs hl hP hD hS h
    have hP : va_P G.1 CL [(h0, .inr (9, [.int (gI o0 0), .ref (q0 1), .ref (q0 2), .ref (q0 3), .ref (q0 4), .ref (q0 5), .ref (q0 6), .ref (q0 7), .int (gI o0 8), .ref (r0 9), .int (gI o0 10), .ref (r0 11)])), kI G (q0 1) 5 (gA o0 1), kI G (q0 2) 20 (gA o0 2), kI G (q0 3) 5 (gA o0 3), kI G (q0 4) 5 (gA o0 4), kI G (q0 5) 5 (gA o0 5), kI G (q0 6) 5 (gA o0 6), kI G (q0 7) 5 (gA o0 7), kB G (r0 9) (r0 109) (gA o0 9), kI G (r0 11) (r0 111) (gA o0 11), (h1, .inr (5, [.ref (r1 0), .int (gI o1 1), .int (gI o1 2), .ref (q1 3), .ref (q1 4), .ref (q1 5), .ref (q1 6), .ref (q1 7), .ref (q1 8), .ref (q1 9), .ref (q1 10), .int (gI o1 11), .int (gI o1 12)])), kI G (q1 3) 20 (gA o1 3), kI G (q1 4) 20 (gA o1 4), kI G (q1 5) 5 (gA o1 5), kJ G (q1 6) 5 (gB o1 6), kJ G (q1 7) 5 (gB o1 7), kJ G (q1 8) 6 (gB o1 8), kI G (q1 10) 5 (gA o1 10), (h2, .inr (2, [.ref (q2 0), .ref (q2 1), .ref (q2 2)])), kI G (q2 0) 100 (gA o2 0), kI G (q2 1) 100 (gA o2 1), kI G (q2 2) 100 (gA o2 2)] H := hP
    have hD : va_D A [(h0, .inr (9, [.int (gI o0 0), .ref (q0 1), .ref (q0 2), .ref (q0 3), .ref (q0 4), .ref (q0 5), .ref (q0 6), .ref (q0 7), .int (gI o0 8), .ref (r0 9), .int (gI o0 10), .ref (r0 11)])), kI G (q0 1) 5 (gA o0 1), kI G (q0 2) 20 (gA o0 2), kI G (q0 3) 5 (gA o0 3), kI G (q0 4) 5 (gA o0 4), kI G (q0 5) 5 (gA o0 5), kI G (q0 6) 5 (gA o0 6), kI G (q0 7) 5 (gA o0 7), kB G (r0 9) (r0 109) (gA o0 9), kI G (r0 11) (r0 111) (gA o0 11), (h1, .inr (5, [.ref (r1 0), .int (gI o1 1), .int (gI o1 2), .ref (q1 3), .ref (q1 4), .ref (q1 5), .ref (q1 6), .ref (q1 7), .ref (q1 8), .ref (q1 9), .ref (q1 10), .int (gI o1 11), .int (gI o1 12)])), kI G (q1 3) 20 (gA o1 3), kI G (q1 4) 20 (gA o1 4), kI G (q1 5) 5 (gA o1 5), kJ G (q1 6) 5 (gB o1 6), kJ G (q1 7) 5 (gB o1 7), kJ G (q1 8) 6 (gB o1 8), kI G (q1 10) 5 (gA o1 10), (h2, .inr (2, [.ref (q2 0), .ref (q2 1), .ref (q2 2)])), kI G (q2 0) 100 (gA o2 0), kI G (q2 1) 100 (gA o2 1), kI G (q2 2) 100 (gA o2 2)] := hD
    unfold f_Sh_ask0_28 at h
    refine lv_iload hx hb d_Sh_ask_28 (lv_at hl 1 rfl) ?_
    refine lv_iconst (v := (5 : Int32)) hx hb d_Sh_ask_30 (by decide) ?_
    refine lv_icmp_ge (tgt := 88) hx hb d_Sh_ask_31 (by decide) (fun c1 => ?_) (fun c1 => ?_)
    · have h := h.1 c1
      have hP : va_P G.1 CL (cw_Sh G h0 q0 r0 o0 ++ (cw_Mo G h1 q1 r1 o1 ++ (cw_He G h2 q2 o2))) H := hP
      have hD : va_D A (cw_Sh G h0 q0 r0 o0 ++ (cw_Mo G h1 q1 r1 o1 ++ (cw_He G h2 q2 o2))) := hD
      exact W.vret hx hb hr (fun t ht hW => ⟨⟨(r0, o0), rfl, h, by rw [ht]; exact hP, va_K.moved hW.alike hK, hD⟩, hS.F ht⟩) hS.2.2 d_Sh_ask_88
    · have h := h.2 c1
      refine lv_aload_n hx hb d_Sh_ask_34 rfl (lv_at hl 0 rfl) ?_
      refine va_get (D := G.1) (ci := 9) (v := .ref (q0 6)) (C := R_Sh) (T := T_Sh) (N := 12) hx hb hts i_Sh hown hK hP 0 rfl rfl 6 (by decide) (hts _ wf_Sh_27) (fun _ h9 => h9) rfl d_Sh_ask_35 ?_
      refine lv_iload hx hb d_Sh_ask_38 (lv_at hl 1 rfl) ?_
      have g2 := h.1
      have h := h.2
      refine xa_iald hx hb hK hP 6 0 rfl rfl g2 (k := x4.toNatClampNeg) rfl d_Sh_ask_40 ?_
      refine lv_aload_n hx hb d_Sh_ask_41 rfl (lv_at hl 0 rfl) ?_
      refine va_get (D := G.1) (ci := 9) (v := .ref (q0 7)) (C := R_Sh) (T := T_Sh) (N := 12) hx hb hts i_Sh hown hK hP 0 rfl rfl 7 (by decide) (hts _ wf_Sh_30) (fun _ h9 => h9) rfl d_Sh_ask_42 ?_
      refine lv_iload hx hb d_Sh_ask_45 (lv_at hl 1 rfl) ?_
      have g3 := h.1
      have h := h.2
      refine xa_iald hx hb hK hP 7 0 rfl rfl g3 (k := x4.toNatClampNeg) rfl d_Sh_ask_47 ?_
      refine lv_icmp_gt (tgt := 82) hx hb d_Sh_ask_48 (by decide) (fun c4 => ?_) (fun c4 => ?_)
      · have h := h.1 c4
        refine lv_iinc (v := (x4 + (1 : Int32))) (lv' := [(4, .int (x4 + (1 : Int32))), (0, .ref h0)]) hx hb d_Sh_ask_82 hl (k := 1) rfl rfl (by decide) rfl (fun ls hl => ?_)
        refine lv_goto (tgt := 28) hx hb d_Sh_ask_85 (by decide) ?_
        have hl := lv_sub (l' := [(0, .ref h0), (4, .int (x4 + (1 : Int32)))]) hl [1, 0] rfl
        have hP : va_P G.1 CL (cw_Sh G h0 q0 r0 o0 ++ (cw_Mo G h1 q1 r1 o1 ++ (cw_He G h2 q2 o2))) H := hP
        have hD : va_D A (cw_Sh G h0 q0 r0 o0 ++ (cw_Mo G h1 q1 r1 o1 ++ (cw_He G h2 q2 o2))) := hD
        exact ih (x4 + (1 : Int32)) r0 o0 ls H locs hl hP hD hS h
      · have h := h.2 c4
        refine lv_aload_n hx hb d_Sh_ask_51 rfl (lv_at hl 0 rfl) ?_
        refine va_get (D := G.1) (ci := 9) (v := .int (gI o0 10)) (C := R_Sh) (T := T_Sh) (N := 12) hx hb hts i_Sh hown hK hP 0 rfl rfl 10 (by decide) (hts _ wf_Sh_62) (fun _ h9 => h9) rfl d_Sh_ask_52 ?_
        refine lv_iconst (v := (1 : Int32)) hx hb d_Sh_ask_55 (by decide) ?_
        refine lv_iload hx hb d_Sh_ask_56 (lv_at hl 1 rfl) ?_
        refine lv_ishl hx hb d_Sh_ask_58 ?_
        refine lv_iand hx hb d_Sh_ask_59 ?_
        refine lv_if_ne (tgt := 82) hx hb d_Sh_ask_60 (by decide) (fun c5 => ?_) (fun c5 => ?_)
        · have h := h.2 c5
          refine lv_iinc (v := (x4 + (1 : Int32))) (lv' := [(4, .int (x4 + (1 : Int32))), (0, .ref h0)]) hx hb d_Sh_ask_82 hl (k := 1) rfl rfl (by decide) rfl (fun ls hl => ?_)
          refine lv_goto (tgt := 28) hx hb d_Sh_ask_85 (by decide) ?_
          have hl := lv_sub (l' := [(0, .ref h0), (4, .int (x4 + (1 : Int32)))]) hl [1, 0] rfl
          have hP : va_P G.1 CL (cw_Sh G h0 q0 r0 o0 ++ (cw_Mo G h1 q1 r1 o1 ++ (cw_He G h2 q2 o2))) H := hP
          have hD : va_D A (cw_Sh G h0 q0 r0 o0 ++ (cw_Mo G h1 q1 r1 o1 ++ (cw_He G h2 q2 o2))) := hD
          exact ih (x4 + (1 : Int32)) r0 o0 ls H locs hl hP hD hS h
        · have h := h.1 c5
          refine lv_aload_n hx hb d_Sh_ask_63 rfl (lv_at hl 0 rfl) ?_
          refine lv_iload hx hb d_Sh_ask_64 (lv_at hl 1 rfl) ?_
          refine cl_Vv (b := b_Sh_ask) (As := [.int x4]) (rest := []) (ws := [(h0, .inr (9, [.int (gI o0 0), .ref (q0 1), .ref (q0 2), .ref (q0 3), .ref (q0 4), .ref (q0 5), .ref (q0 6), .ref (q0 7), .int (gI o0 8), .ref (r0 9), .int (gI o0 10), .ref (r0 11)])), kI G (q0 1) 5 (gA o0 1), kI G (q0 2) 20 (gA o0 2), kI G (q0 3) 5 (gA o0 3), kI G (q0 4) 5 (gA o0 4), kI G (q0 5) 5 (gA o0 5), kI G (q0 6) 5 (gA o0 6), kI G (q0 7) 5 (gA o0 7), kB G (r0 9) (r0 109) (gA o0 9), kI G (r0 11) (r0 111) (gA o0 11), (h1, .inr (5, [.ref (r1 0), .int (gI o1 1), .int (gI o1 2), .ref (q1 3), .ref (q1 4), .ref (q1 5), .ref (q1 6), .ref (q1 7), .ref (q1 8), .ref (q1 9), .ref (q1 10), .int (gI o1 11), .int (gI o1 12)])), kI G (q1 3) 20 (gA o1 3), kI G (q1 4) 20 (gA o1 4), kI G (q1 5) 5 (gA o1 5), kJ G (q1 6) 5 (gB o1 6), kJ G (q1 7) 5 (gB o1 7), kJ G (q1 8) 6 (gB o1 8), kI G (q1 10) 5 (gA o1 10), (h2, .inr (2, [.ref (q2 0), .ref (q2 1), .ref (q2 2)])), kI G (q2 0) 100 (gA o2 0), kI G (q2 1) 100 (gA o2 1), kI G (q2 2) 100 (gA o2 2)]) (wr := [(h1, .inr (5, [.ref (r1 0), .int (gI o1 1), .int (gI o1 2), .ref (q1 3), .ref (q1 4), .ref (q1 5), .ref (q1 6), .ref (q1 7), .ref (q1 8), .ref (q1 9), .ref (q1 10), .int (gI o1 11), .int (gI o1 12)])), kI G (q1 3) 20 (gA o1 3), kI G (q1 4) 20 (gA o1 4), kI G (q1 5) 5 (gA o1 5), kJ G (q1 6) 5 (gB o1 6), kJ G (q1 7) 5 (gB o1 7), kJ G (q1 8) 6 (gB o1 8), kI G (q1 10) 5 (gA o1 10), (h2, .inr (2, [.ref (q2 0), .ref (q2 1), .ref (q2 2)])), kI G (q2 0) 100 (gA o2 0), kI G (q2 1) 100 (gA o2 1), kI G (q2 2) 100 (gA o2 2)]) (w2 := fun (u : Ob) => [(h0, .inr (9, [.int (gI u 0), .ref (q0 1), .ref (q0 2), .ref (q0 3), .ref (q0 4), .ref (q0 5), .ref (q0 6), .ref (q0 7), .int (gI u 8), .ref (r0 9), .int (gI u 10), .ref (r0 11)])), kI G (q0 1) 5 (gA u 1), kI G (q0 2) 20 (gA u 2), kI G (q0 3) 5 (gA u 3), kI G (q0 4) 5 (gA u 4), kI G (q0 5) 5 (gA u 5), kI G (q0 6) 5 (gA u 6), kI G (q0 7) 5 (gA u 7), kB G (r0 9) (r0 109) (gA u 9), kI G (r0 11) (r0 111) (gA u 11), (h1, .inr (5, [.ref (r1 0), .int (gI o1 1), .int (gI o1 2), .ref (q1 3), .ref (q1 4), .ref (q1 5), .ref (q1 6), .ref (q1 7), .ref (q1 8), .ref (q1 9), .ref (q1 10), .int (gI o1 11), .int (gI o1 12)])), kI G (q1 3) 20 (gA o1 3), kI G (q1 4) 20 (gA o1 4), kI G (q1 5) 5 (gA o1 5), kJ G (q1 6) 5 (gB o1 6), kJ G (q1 7) 5 (gB o1 7), kJ G (q1 8) 6 (gB o1 8), kI G (q1 10) 5 (gA o1 10), (h2, .inr (2, [.ref (q2 0), .ref (q2 1), .ref (q2 2)])), kI G (q2 0) 100 (gA o2 0), kI G (q2 1) 100 (gA o2 1), kI G (q2 2) 100 (gA o2 2)]) C (c_Sh_fillBoxes (h0 := h0) (q0 := q0) H.size h) wv_Sh_65 ⟨Nat.le_of_ble_eq_true rfl, Nat.le_of_ble_eq_true rfl⟩ hP hD hS 0 rfl rfl [0, 1, 2, 3, 4, 5, 6, 7, 8, 9] [10, 11, 12, 13, 14, 15, 16, 17, 18, 19, 20, 21] rfl rfl (by decide) (by decide) (by decide) [12, 13, 14, 15, 16, 17, 18, 19, 20, 21, 0, 1, 2, 3, 4, 5, 6, 7, 8, 9, 10, 11] (by decide) (fun u => rfl) rfl hl.1 rfl (lv_room (Nat.le_of_ble_eq_true rfl)) d_Sh_ask_66 ⟨Nat.le_of_ble_eq_true rfl, Nat.le_of_ble_eq_true rfl⟩ rfl rfl (fun u H locs h hP hD hS => ?_)
          generalize u = u6 at h hP hD
          have hP : va_P G.1 CL [(h0, .inr (9, [.int (gI u6 0), .ref (q0 1), .ref (q0 2), .ref (q0 3), .ref (q0 4), .ref (q0 5), .ref (q0 6), .ref (q0 7), .int (gI u6 8), .ref (r0 9), .int (gI u6 10), .ref (r0 11)])), kI G (q0 1) 5 (gA u6 1), kI G (q0 2) 20 (gA u6 2), kI G (q0 3) 5 (gA u6 3), kI G (q0 4) 5 (gA u6 4), kI G (q0 5) 5 (gA u6 5), kI G (q0 6) 5 (gA u6 6), kI G (q0 7) 5 (gA u6 7), kB G (r0 9) (r0 109) (gA u6 9), kI G (r0 11) (r0 111) (gA u6 11), (h1, .inr (5, [.ref (r1 0), .int (gI o1 1), .int (gI o1 2), .ref (q1 3), .ref (q1 4), .ref (q1 5), .ref (q1 6), .ref (q1 7), .ref (q1 8), .ref (q1 9), .ref (q1 10), .int (gI o1 11), .int (gI o1 12)])), kI G (q1 3) 20 (gA o1 3), kI G (q1 4) 20 (gA o1 4), kI G (q1 5) 5 (gA o1 5), kJ G (q1 6) 5 (gB o1 6), kJ G (q1 7) 5 (gB o1 7), kJ G (q1 8) 6 (gB o1 8), kI G (q1 10) 5 (gA o1 10), (h2, .inr (2, [.ref (q2 0), .ref (q2 1), .ref (q2 2)])), kI G (q2 0) 100 (gA o2 0), kI G (q2 1) 100 (gA o2 1), kI G (q2 2) 100 (gA o2 2)] H := hP
          have hD : va_D A [(h0, .inr (9, [.int (gI u6 0), .ref (q0 1), .ref (q0 2), .ref (q0 3), .ref (q0 4), .ref (q0 5), .ref (q0 6), .ref (q0 7), .int (gI u6 8), .ref (r0 9), .int (gI u6 10), .ref (r0 11)])), kI G (q0 1) 5 (gA u6 1), kI G (q0 2) 20 (gA u6 2), kI G (q0 3) 5 (gA u6 3), kI G (q0 4) 5 (gA u6 4), kI G (q0 5) 5 (gA u6 5), kI G (q0 6) 5 (gA u6 6), kI G (q0 7) 5 (gA u6 7), kB G (r0 9) (r0 109) (gA u6 9), kI G (r0 11) (r0 111) (gA u6 11), (h1, .inr (5, [.ref (r1 0), .int (gI o1 1), .int (gI o1 2), .ref (q1 3), .ref (q1 4), .ref (q1 5), .ref (q1 6), .ref (q1 7), .ref (q1 8), .ref (q1 9), .ref (q1 10), .int (gI o1 11), .int (gI o1 12)])), kI G (q1 3) 20 (gA o1 3), kI G (q1 4) 20 (gA o1 4), kI G (q1 5) 5 (gA o1 5), kJ G (q1 6) 5 (gB o1 6), kJ G (q1 7) 5 (gB o1 7), kJ G (q1 8) 6 (gB o1 8), kI G (q1 10) 5 (gA o1 10), (h2, .inr (2, [.ref (q2 0), .ref (q2 1), .ref (q2 2)])), kI G (q2 0) 100 (gA o2 0), kI G (q2 1) 100 (gA o2 1), kI G (q2 2) 100 (gA o2 2)] := hD
          refine lv_aload_n hx hb d_Sh_ask_69 rfl (lv_at hl 0 rfl) ?_
          refine lv_dup hx hb d_Sh_ask_70 rfl ?_
          refine va_get (D := G.1) (ci := 9) (v := .int (gI u6 10)) (C := R_Sh) (T := T_Sh) (N := 12) hx hb hts i_Sh hown hK hP 0 rfl rfl 10 (by decide) (hts _ wf_Sh_62) (fun _ h9 => h9) rfl d_Sh_ask_71 ?_
          refine lv_iconst (v := (1 : Int32)) hx hb d_Sh_ask_74 (by decide) ?_
          refine lv_iload hx hb d_Sh_ask_75 (lv_at hl 1 rfl) ?_
          refine lv_ishl hx hb d_Sh_ask_77 ?_
          refine lv_ior hx hb d_Sh_ask_78 ?_
          refine va_put (D := G.1) (ci := 9) (v := .int ((gI u6 10) ||| ((1 : Int32) <<< (x4 &&& 31)))) (ty := .int) (C := R_Sh) (T := T_Sh) (N := 12) hx hb hts i_Sh ty_Sh ty_Sh_ok nm_Sh hown hK hP hD hS 0 rfl rfl 10 (by decide) (hts _ wf_Sh_62) (fun _ h9 => h9) rfl (ty_Sh_ok 10 (by decide)) rfl rfl (Nat.le_of_ble_eq_true rfl) d_Sh_ask_79 (fun H locs hP hD hS => ?_)
          have hP : va_P G.1 CL [(h0, .inr (9, [.int (gI u6 0), .ref (q0 1), .ref (q0 2), .ref (q0 3), .ref (q0 4), .ref (q0 5), .ref (q0 6), .ref (q0 7), .int (gI u6 8), .ref (r0 9), .int ((gI u6 10) ||| ((1 : Int32) <<< (x4 &&& 31))), .ref (r0 11)])), kI G (q0 1) 5 (gA u6 1), kI G (q0 2) 20 (gA u6 2), kI G (q0 3) 5 (gA u6 3), kI G (q0 4) 5 (gA u6 4), kI G (q0 5) 5 (gA u6 5), kI G (q0 6) 5 (gA u6 6), kI G (q0 7) 5 (gA u6 7), kB G (r0 9) (r0 109) (gA u6 9), kI G (r0 11) (r0 111) (gA u6 11), (h1, .inr (5, [.ref (r1 0), .int (gI o1 1), .int (gI o1 2), .ref (q1 3), .ref (q1 4), .ref (q1 5), .ref (q1 6), .ref (q1 7), .ref (q1 8), .ref (q1 9), .ref (q1 10), .int (gI o1 11), .int (gI o1 12)])), kI G (q1 3) 20 (gA o1 3), kI G (q1 4) 20 (gA o1 4), kI G (q1 5) 5 (gA o1 5), kJ G (q1 6) 5 (gB o1 6), kJ G (q1 7) 5 (gB o1 7), kJ G (q1 8) 6 (gB o1 8), kI G (q1 10) 5 (gA o1 10), (h2, .inr (2, [.ref (q2 0), .ref (q2 1), .ref (q2 2)])), kI G (q2 0) 100 (gA o2 0), kI G (q2 1) 100 (gA o2 1), kI G (q2 2) 100 (gA o2 2)] H := hP
          have hD : va_D A [(h0, .inr (9, [.int (gI u6 0), .ref (q0 1), .ref (q0 2), .ref (q0 3), .ref (q0 4), .ref (q0 5), .ref (q0 6), .ref (q0 7), .int (gI u6 8), .ref (r0 9), .int ((gI u6 10) ||| ((1 : Int32) <<< (x4 &&& 31))), .ref (r0 11)])), kI G (q0 1) 5 (gA u6 1), kI G (q0 2) 20 (gA u6 2), kI G (q0 3) 5 (gA u6 3), kI G (q0 4) 5 (gA u6 4), kI G (q0 5) 5 (gA u6 5), kI G (q0 6) 5 (gA u6 6), kI G (q0 7) 5 (gA u6 7), kB G (r0 9) (r0 109) (gA u6 9), kI G (r0 11) (r0 111) (gA u6 11), (h1, .inr (5, [.ref (r1 0), .int (gI o1 1), .int (gI o1 2), .ref (q1 3), .ref (q1 4), .ref (q1 5), .ref (q1 6), .ref (q1 7), .ref (q1 8), .ref (q1 9), .ref (q1 10), .int (gI o1 11), .int (gI o1 12)])), kI G (q1 3) 20 (gA o1 3), kI G (q1 4) 20 (gA o1 4), kI G (q1 5) 5 (gA o1 5), kJ G (q1 6) 5 (gB o1 6), kJ G (q1 7) 5 (gB o1 7), kJ G (q1 8) 6 (gB o1 8), kI G (q1 10) 5 (gA o1 10), (h2, .inr (2, [.ref (q2 0), .ref (q2 1), .ref (q2 2)])), kI G (q2 0) 100 (gA o2 0), kI G (q2 1) 100 (gA o2 1), kI G (q2 2) 100 (gA o2 2)] := hD
          refine lv_iinc (v := (x4 + (1 : Int32))) (lv' := [(4, .int (x4 + (1 : Int32))), (0, .ref h0)]) hx hb d_Sh_ask_82 hl (k := 1) rfl rfl (by decide) rfl (fun ls hl => ?_)
          refine lv_goto (tgt := 28) hx hb d_Sh_ask_85 (by decide) ?_
          have hl := lv_sub (l' := [(0, .ref h0), (4, .int (x4 + (1 : Int32)))]) hl [1, 0] rfl
          have hP : va_P G.1 CL (cw_Sh G h0 q0 r0 (sI u6 10 ((gI u6 10) ||| ((1 : Int32) <<< (x4 &&& 31)))) ++ (cw_Mo G h1 q1 r1 o1 ++ (cw_He G h2 q2 o2))) H := hP
          have hD : va_D A (cw_Sh G h0 q0 r0 (sI u6 10 ((gI u6 10) ||| ((1 : Int32) <<< (x4 &&& 31)))) ++ (cw_Mo G h1 q1 r1 o1 ++ (cw_He G h2 q2 o2))) := hD
          exact ih (x4 + (1 : Int32)) r0 (sI u6 10 ((gI u6 10) ||| ((1 : Int32) <<< (x4 &&& 31)))) ls H locs hl hP hD hS h
set_option maxHeartbeats 4000000 in
set_option maxRecDepth 100000 in
theorem c_Sh_ask0 {l : Launch} {G : Gl} {h0 : Nat} {h1 : Nat} {h2 : Nat} {q0 : Nat → Nat} {q1 : Nat → Nat} {q2 : Nat → Nat} {a2 : Int32} {r0 : (Nat → Nat)} {o0 : Ob} {r1 : (Nat → Nat)} {o1 : Ob} {o2 : Ob} {Q : (Nat → Nat) → Ob → Prop} (sz : Nat) (h : f_Sh_ask0 a2 r0 o0 r1 o1 o2 Q) : Met l y_Sh_ask w_Sh_ask rm_Sh_ask0 (PcW G [.ref h0, .ref h1, .ref h2, .int a2] sz (cw_Sh G h0 q0 r0 o0 ++ (cw_Mo G h1 q1 r1 o1 ++ (cw_He G h2 q2 o2)))) (va_Qv (fun (u : (Nat → Nat) × Ob) => Q u.1 u.2) (fun (u : (Nat → Nat) × Ob) t => BW G (va_A (cw_Sh G h0 q0 r0 o0 ++ (cw_Mo G h1 q1 r1 o1 ++ (cw_He G h2 q2 o2))) sz) (cw_Sh G h0 q0 u.1 u.2 ++ (cw_Mo G h1 q1 r1 o1 ++ (cw_He G h2 q2 o2))) t) (va_A (cw_Sh G h0 q0 r0 o0 ++ (cw_Mo G h1 q1 r1 o1 ++ (cw_He G h2 q2 o2))) sz)) 0 0 (va_A (cw_Sh G h0 q0 r0 o0 ++ (cw_Mo G h1 q1 r1 o1 ++ (cw_He G h2 q2 o2))) sz) := by
  refine Met.ofW (cc := b_Sh_ask) (maxL := 5) (ret := none) (by decide +kernel) rfl ?_
  intro p e s m args below meth c s₁ B hml hv
  obtain ⟨rfl, hsz, hP, hK, hD0, hE⟩ := hv
  have hx := B.exec
  have hb := B.bytes
  have hr := B.returns
  have hts0 := atoms_spec (ws := w_Sh_ask) B.pre
  have hts : ∀ w ∈ gw_tbl, w.before ([.ref h0, .ref h1, .ref h2, .int a2]).toArray s = true := fun w hw => hts0 w (List.mem_cons_of_mem _ hw)
  have hown : s.vm.findClass R_Sh = some m.cls := findClass_of_methodNamed B.named
  have hlocks := B.notSynchronized
  subst hsz
  have hD := hD0.self (sz := s.heap.size)
  generalize hAe : va_A (cw_Sh G h0 q0 r0 o0 ++ (cw_Mo G h1 q1 r1 o1 ++ (cw_He G h2 q2 o2))) s.heap.size = A at hD hE ⊢
  have hA : ∀ q : Nat, s.heap.size ≤ q → A q := fun q h => by rw [← hAe]; exact Or.inr h
  have hS : va_S A s.heap s.heap [] := va_S.rf
  have C : Cx p s m ([.ref h0, .ref h1, .ref h2, .int a2]).toArray meth c R_Sh b_Sh_ask 5 none G A := ⟨hx, hb, hml, hown, hr, hts, hK, hA, hlocks, hE⟩
  have hl := lv_entry ([.ref h0, .ref h1, .ref h2, .int a2]) (n := 5) (Nat.le_of_ble_eq_true rfl)
  rw [lg_entry_eq]
  generalize (lg_sl ([.ref h0, .ref h1, .ref h2, .int a2]) ++ List.replicate (5 - (lg_sl ([.ref h0, .ref h1, .ref h2, .int a2])).length) Slot.unset).toArray = ls at hl ⊢
  have hl : lv_has ls 5 [(0, .ref h0), (1, .ref h1), (2, .ref h2), (3, .int a2)] := hl
  have hD : va_D A [(h0, .inr (9, [.int (gI o0 0), .ref (q0 1), .ref (q0 2), .ref (q0 3), .ref (q0 4), .ref (q0 5), .ref (q0 6), .ref (q0 7), .int (gI o0 8), .ref (r0 9), .int (gI o0 10), .ref (r0 11)])), kI G (q0 1) 5 (gA o0 1), kI G (q0 2) 20 (gA o0 2), kI G (q0 3) 5 (gA o0 3), kI G (q0 4) 5 (gA o0 4), kI G (q0 5) 5 (gA o0 5), kI G (q0 6) 5 (gA o0 6), kI G (q0 7) 5 (gA o0 7), kB G (r0 9) (r0 109) (gA o0 9), kI G (r0 11) (r0 111) (gA o0 11), (h1, .inr (5, [.ref (r1 0), .int (gI o1 1), .int (gI o1 2), .ref (q1 3), .ref (q1 4), .ref (q1 5), .ref (q1 6), .ref (q1 7), .ref (q1 8), .ref (q1 9), .ref (q1 10), .int (gI o1 11), .int (gI o1 12)])), kI G (q1 3) 20 (gA o1 3), kI G (q1 4) 20 (gA o1 4), kI G (q1 5) 5 (gA o1 5), kJ G (q1 6) 5 (gB o1 6), kJ G (q1 7) 5 (gB o1 7), kJ G (q1 8) 6 (gB o1 8), kI G (q1 10) 5 (gA o1 10), (h2, .inr (2, [.ref (q2 0), .ref (q2 1), .ref (q2 2)])), kI G (q2 0) 100 (gA o2 0), kI G (q2 1) 100 (gA o2 1), kI G (q2 2) 100 (gA o2 2)] := hD
  unfold f_Sh_ask0 at h
  suffices key : ∀ (H : Heap) (locs : List Loc), va_P G.1 CL [(h0, .inr (9, [.int (gI o0 0), .ref (q0 1), .ref (q0 2), .ref (q0 3), .ref (q0 4), .ref (q0 5), .ref (q0 6), .ref (q0 7), .int (gI o0 8), .ref (r0 9), .int (gI o0 10), .ref (r0 11)])), kI G (q0 1) 5 (gA o0 1), kI G (q0 2) 20 (gA o0 2), kI G (q0 3) 5 (gA o0 3), kI G (q0 4) 5 (gA o0 4), kI G (q0 5) 5 (gA o0 5), kI G (q0 6) 5 (gA o0 6), kI G (q0 7) 5 (gA o0 7), kB G (r0 9) (r0 109) (gA o0 9), kI G (r0 11) (r0 111) (gA o0 11), (h1, .inr (5, [.ref (r1 0), .int (gI o1 1), .int (gI o1 2), .ref (q1 3), .ref (q1 4), .ref (q1 5), .ref (q1 6), .ref (q1 7), .ref (q1 8), .ref (q1 9), .ref (q1 10), .int (gI o1 11), .int (gI o1 12)])), kI G (q1 3) 20 (gA o1 3), kI G (q1 4) 20 (gA o1 4), kI G (q1 5) 5 (gA o1 5), kJ G (q1 6) 5 (gB o1 6), kJ G (q1 7) 5 (gB o1 7), kJ G (q1 8) 6 (gB o1 8), kI G (q1 10) 5 (gA o1 10), (h2, .inr (2, [.ref (q2 0), .ref (q2 1), .ref (q2 2)])), kI G (q2 0) 100 (gA o2 0), kI G (q2 1) 100 (gA o2 1), kI G (q2 2) 100 (gA o2 2)] H → va_S A s.heap H locs → W p l e rm_Sh_ask0 s m ([.ref h0, .ref h1, .ref h2, .int a2]).toArray below meth c H locs 0 0 (MQ below (va_Qv (fun (u : (Nat → Nat) × Ob) => Q u.1 u.2) (fun (u : (Nat → Nat) × Ob) t => BW G A (cw_Sh G h0 q0 u.1 u.2 ++ (cw_Mo G h1 q1 r1 o1 ++ (cw_He G h2 q2 o2))) t) A) ([.ref h0, .ref h1, .ref h2, .int a2]).toArray s 0 0 A) (F0 m 0 ls []) from key s.heap [] hP hS
  intro H locs hP hS
  refine lv_aload_n hx hb d_Sh_ask_0 rfl (lv_at hl 0 rfl) ?_
  refine lv_aload_n hx hb d_Sh_ask_1 rfl (lv_at hl 1 rfl) ?_
  refine va_get (D := G.1) (ci := 5) (v := .ref (q1 10)) (C := R_Mo) (T := T_Mo) (N := 13) hx hb hts i_Mo hown hK hP 10 rfl rfl 10 (by decide) (hts _ wf_Sh_44) (fun _ h9 => h9) rfl d_Sh_ask_2 ?_
  refine cl_Vv (b := b_Sh_ask) (As := [.ref (q1 10)]) (rest := []) (ws := [(h0, .inr (9, [.int (gI o0 0), .ref (q0 1), .ref (q0 2), .ref (q0 3), .ref (q0 4), .ref (q0 5), .ref (q0 6), .ref (q0 7), .int (gI o0 8), .ref (r0 9), .int (gI o0 10), .ref (r0 11)])), kI G (q0 1) 5 (gA o0 1), kI G (q0 2) 20 (gA o0 2), kI G (q0 3) 5 (gA o0 3), kI G (q0 4) 5 (gA o0 4), kI G (q0 5) 5 (gA o0 5), kI G (q0 6) 5 (gA o0 6), kI G (q0 7) 5 (gA o0 7), kB G (r0 9) (r0 109) (gA o0 9), kI G (r0 11) (r0 111) (gA o0 11), (h1, .inr (5, [.ref (r1 0), .int (gI o1 1), .int (gI o1 2), .ref (q1 3), .ref (q1 4), .ref (q1 5), .ref (q1 6), .ref (q1 7), .ref (q1 8), .ref (q1 9), .ref (q1 10), .int (gI o1 11), .int (gI o1 12)])), kI G (q1 3) 20 (gA o1 3), kI G (q1 4) 20 (gA o1 4), kI G (q1 5) 5 (gA o1 5), kJ G (q1 6) 5 (gB o1 6), kJ G (q1 7) 5 (gB o1 7), kJ G (q1 8) 6 (gB o1 8), kI G (q1 10) 5 (gA o1 10), (h2, .inr (2, [.ref (q2 0), .ref (q2 1), .ref (q2 2)])), kI G (q2 0) 100 (gA o2 0), kI G (q2 1) 100 (gA o2 1), kI G (q2 2) 100 (gA o2 2)]) (wr := [(h1, .inr (5, [.ref (r1 0), .int (gI o1 1), .int (gI o1 2), .ref (q1 3), .ref (q1 4), .ref (q1 5), .ref (q1 6), .ref (q1 7), .ref (q1 8), .ref (q1 9), .ref (q1 10), .int (gI o1 11), .int (gI o1 12)])), kI G (q1 3) 20 (gA o1 3), kI G (q1 4) 20 (gA o1 4), kI G (q1 5) 5 (gA o1 5), kJ G (q1 6) 5 (gB o1 6), kJ G (q1 7) 5 (gB o1 7), kJ G (q1 8) 6 (gB o1 8), (h2, .inr (2, [.ref (q2 0), .ref (q2 1), .ref (q2 2)])), kI G (q2 0) 100 (gA o2 0), kI G (q2 1) 100 (gA o2 1), kI G (q2 2) 100 (gA o2 2)]) (w2 := fun (u : (Nat → Nat) × Ob) => [(h0, .inr (9, [.int (gI u.2 0), .ref (q0 1), .ref (q0 2), .ref (q0 3), .ref (q0 4), .ref (q0 5), .ref (q0 6), .ref (q0 7), .int (gI u.2 8), .ref (u.1 9), .int (gI u.2 10), .ref (u.1 11)])), kI G (q0 1) 5 (gA u.2 1), kI G (q0 2) 20 (gA u.2 2), kI G (q0 3) 5 (gA u.2 3), kI G (q0 4) 5 (gA u.2 4), kI G (q0 5) 5 (gA u.2 5), kI G (q0 6) 5 (gA u.2 6), kI G (q0 7) 5 (gA u.2 7), kB G (u.1 9) (u.1 109) (gA u.2 9), kI G (u.1 11) (u.1 111) (gA u.2 11), (h1, .inr (5, [.ref (r1 0), .int (gI o1 1), .int (gI o1 2), .ref (q1 3), .ref (q1 4), .ref (q1 5), .ref (q1 6), .ref (q1 7), .ref (q1 8), .ref (q1 9), .ref (q1 10), .int (gI o1 11), .int (gI o1 12)])), kI G (q1 3) 20 (gA o1 3), kI G (q1 4) 20 (gA o1 4), kI G (q1 5) 5 (gA o1 5), kJ G (q1 6) 5 (gB o1 6), kJ G (q1 7) 5 (gB o1 7), kJ G (q1 8) 6 (gB o1 8), kI G (q1 10) 5 (gA o1 10), (h2, .inr (2, [.ref (q2 0), .ref (q2 1), .ref (q2 2)])), kI G (q2 0) 100 (gA o2 0), kI G (q2 1) 100 (gA o2 1), kI G (q2 2) 100 (gA o2 2)]) C (c_Sh_layOut0 (h0 := h0) (q0 := q0) (h1 := (q1 10)) H.size h) wv_Sh_49 ⟨Nat.le_of_ble_eq_true rfl, Nat.le_of_ble_eq_true rfl⟩ hP hD hS 0 rfl rfl [0, 1, 2, 3, 4, 5, 6, 7, 8, 9, 17] [10, 11, 12, 13, 14, 15, 16, 18, 19, 20, 21] rfl rfl (by decide) (by decide) (by decide) [11, 12, 13, 14, 15, 16, 17, 18, 19, 20, 0, 1, 2, 3, 4, 5, 6, 21, 7, 8, 9, 10] (by decide) (fun u => rfl) rfl hl.1 rfl (lv_room (Nat.le_of_ble_eq_true rfl)) d_Sh_ask_5 ⟨Nat.le_of_ble_eq_true rfl, Nat.le_of_ble_eq_true rfl⟩ rfl rfl (fun u H locs h hP hD hS => ?_)
  obtain ⟨u7, u8⟩ := u
  have hP : va_P G.1 CL [(h0, .inr (9, [.int (gI u8 0), .ref (q0 1), .ref (q0 2), .ref (q0 3), .ref (q0 4), .ref (q0 5), .ref (q0 6), .ref (q0 7), .int (gI u8 8), .ref (u7 9), .int (gI u8 10), .ref (u7 11)])), kI G (q0 1) 5 (gA u8 1), kI G (q0 2) 20 (gA u8 2), kI G (q0 3) 5 (gA u8 3), kI G (q0 4) 5 (gA u8 4), kI G (q0 5) 5 (gA u8 5), kI G (q0 6) 5 (gA u8 6), kI G (q0 7) 5 (gA u8 7), kB G (u7 9) (u7 109) (gA u8 9), kI G (u7 11) (u7 111) (gA u8 11), (h1, .inr (5, [.ref (r1 0), .int (gI o1 1), .int (gI o1 2), .ref (q1 3), .ref (q1 4), .ref (q1 5), .ref (q1 6), .ref (q1 7), .ref (q1 8), .ref (q1 9), .ref (q1 10), .int (gI o1 11), .int (gI o1 12)])), kI G (q1 3) 20 (gA o1 3), kI G (q1 4) 20 (gA o1 4), kI G (q1 5) 5 (gA o1 5), kJ G (q1 6) 5 (gB o1 6), kJ G (q1 7) 5 (gB o1 7), kJ G (q1 8) 6 (gB o1 8), kI G (q1 10) 5 (gA o1 10), (h2, .inr (2, [.ref (q2 0), .ref (q2 1), .ref (q2 2)])), kI G (q2 0) 100 (gA o2 0), kI G (q2 1) 100 (gA o2 1), kI G (q2 2) 100 (gA o2 2)] H := hP
  have hD : va_D A [(h0, .inr (9, [.int (gI u8 0), .ref (q0 1), .ref (q0 2), .ref (q0 3), .ref (q0 4), .ref (q0 5), .ref (q0 6), .ref (q0 7), .int (gI u8 8), .ref (u7 9), .int (gI u8 10), .ref (u7 11)])), kI G (q0 1) 5 (gA u8 1), kI G (q0 2) 20 (gA u8 2), kI G (q0 3) 5 (gA u8 3), kI G (q0 4) 5 (gA u8 4), kI G (q0 5) 5 (gA u8 5), kI G (q0 6) 5 (gA u8 6), kI G (q0 7) 5 (gA u8 7), kB G (u7 9) (u7 109) (gA u8 9), kI G (u7 11) (u7 111) (gA u8 11), (h1, .inr (5, [.ref (r1 0), .int (gI o1 1), .int (gI o1 2), .ref (q1 3), .ref (q1 4), .ref (q1 5), .ref (q1 6), .ref (q1 7), .ref (q1 8), .ref (q1 9), .ref (q1 10), .int (gI o1 11), .int (gI o1 12)])), kI G (q1 3) 20 (gA o1 3), kI G (q1 4) 20 (gA o1 4), kI G (q1 5) 5 (gA o1 5), kJ G (q1 6) 5 (gB o1 6), kJ G (q1 7) 5 (gB o1 7), kJ G (q1 8) 6 (gB o1 8), kI G (q1 10) 5 (gA o1 10), (h2, .inr (2, [.ref (q2 0), .ref (q2 1), .ref (q2 2)])), kI G (q2 0) 100 (gA o2 0), kI G (q2 1) 100 (gA o2 1), kI G (q2 2) 100 (gA o2 2)] := hD
  refine lv_aload_n hx hb d_Sh_ask_8 rfl (lv_at hl 2 rfl) ?_
  refine lv_iload_n hx hb d_Sh_ask_9 rfl (lv_at hl 3 rfl) ?_
  refine lv_aload_n hx hb d_Sh_ask_10 rfl (lv_at hl 1 rfl) ?_
  refine va_get (D := G.1) (ci := 5) (v := .int (gI o1 12)) (C := R_Mo) (T := T_Mo) (N := 13) hx hb hts i_Mo hown hK hP 10 rfl rfl 12 (by decide) (hts _ wf_Sh_53) (fun _ h9 => h9) rfl d_Sh_ask_11 ?_
  refine lv_aload_n hx hb d_Sh_ask_14 rfl (lv_at hl 0 rfl) ?_
  refine va_get (D := G.1) (ci := 9) (v := .ref (q0 6)) (C := R_Sh) (T := T_Sh) (N := 12) hx hb hts i_Sh hown hK hP 0 rfl rfl 6 (by decide) (hts _ wf_Sh_27) (fun _ h9 => h9) rfl d_Sh_ask_15 ?_
  refine lv_aload_n hx hb d_Sh_ask_18 rfl (lv_at hl 0 rfl) ?_
  refine va_get (D := G.1) (ci := 9) (v := .ref (q0 7)) (C := R_Sh) (T := T_Sh) (N := 12) hx hb hts i_Sh hown hK hP 0 rfl rfl 7 (by decide) (hts _ wf_Sh_30) (fun _ h9 => h9) rfl d_Sh_ask_19 ?_
  refine cl_Vv (b := b_Sh_ask) (As := [.int a2, .int (gI o1 12), .ref (q0 6), .ref (q0 7)]) (rest := []) (ws := [(h0, .inr (9, [.int (gI u8 0), .ref (q0 1), .ref (q0 2), .ref (q0 3), .ref (q0 4), .ref (q0 5), .ref (q0 6), .ref (q0 7), .int (gI u8 8), .ref (u7 9), .int (gI u8 10), .ref (u7 11)])), kI G (q0 1) 5 (gA u8 1), kI G (q0 2) 20 (gA u8 2), kI G (q0 3) 5 (gA u8 3), kI G (q0 4) 5 (gA u8 4), kI G (q0 5) 5 (gA u8 5), kI G (q0 6) 5 (gA u8 6), kI G (q0 7) 5 (gA u8 7), kB G (u7 9) (u7 109) (gA u8 9), kI G (u7 11) (u7 111) (gA u8 11), (h1, .inr (5, [.ref (r1 0), .int (gI o1 1), .int (gI o1 2), .ref (q1 3), .ref (q1 4), .ref (q1 5), .ref (q1 6), .ref (q1 7), .ref (q1 8), .ref (q1 9), .ref (q1 10), .int (gI o1 11), .int (gI o1 12)])), kI G (q1 3) 20 (gA o1 3), kI G (q1 4) 20 (gA o1 4), kI G (q1 5) 5 (gA o1 5), kJ G (q1 6) 5 (gB o1 6), kJ G (q1 7) 5 (gB o1 7), kJ G (q1 8) 6 (gB o1 8), kI G (q1 10) 5 (gA o1 10), (h2, .inr (2, [.ref (q2 0), .ref (q2 1), .ref (q2 2)])), kI G (q2 0) 100 (gA o2 0), kI G (q2 1) 100 (gA o2 1), kI G (q2 2) 100 (gA o2 2)]) (wr := [(h0, .inr (9, [.int (gI u8 0), .ref (q0 1), .ref (q0 2), .ref (q0 3), .ref (q0 4), .ref (q0 5), .ref (q0 6), .ref (q0 7), .int (gI u8 8), .ref (u7 9), .int (gI u8 10), .ref (u7 11)])), kI G (q0 1) 5 (gA u8 1), kI G (q0 2) 20 (gA u8 2), kI G (q0 3) 5 (gA u8 3), kI G (q0 4) 5 (gA u8 4), kI G (q0 5) 5 (gA u8 5), kB G (u7 9) (u7 109) (gA u8 9), kI G (u7 11) (u7 111) (gA u8 11), (h1, .inr (5, [.ref (r1 0), .int (gI o1 1), .int (gI o1 2), .ref (q1 3), .ref (q1 4), .ref (q1 5), .ref (q1 6), .ref (q1 7), .ref (q1 8), .ref (q1 9), .ref (q1 10), .int (gI o1 11), .int (gI o1 12)])), kI G (q1 3) 20 (gA o1 3), kI G (q1 4) 20 (gA o1 4), kI G (q1 5) 5 (gA o1 5), kJ G (q1 6) 5 (gB o1 6), kJ G (q1 7) 5 (gB o1 7), kJ G (q1 8) 6 (gB o1 8), kI G (q1 10) 5 (gA o1 10)]) (w2 := fun (u : (Nat → Int32) × (Nat → Int32)) => [(h0, .inr (9, [.int (gI u8 0), .ref (q0 1), .ref (q0 2), .ref (q0 3), .ref (q0 4), .ref (q0 5), .ref (q0 6), .ref (q0 7), .int (gI u8 8), .ref (u7 9), .int (gI u8 10), .ref (u7 11)])), kI G (q0 1) 5 (gA u8 1), kI G (q0 2) 20 (gA u8 2), kI G (q0 3) 5 (gA u8 3), kI G (q0 4) 5 (gA u8 4), kI G (q0 5) 5 (gA u8 5), kI G (q0 6) 5 u.1, kI G (q0 7) 5 u.2, kB G (u7 9) (u7 109) (gA u8 9), kI G (u7 11) (u7 111) (gA u8 11), (h1, .inr (5, [.ref (r1 0), .int (gI o1 1), .int (gI o1 2), .ref (q1 3), .ref (q1 4), .ref (q1 5), .ref (q1 6), .ref (q1 7), .ref (q1 8), .ref (q1 9), .ref (q1 10), .int (gI o1 11), .int (gI o1 12)])), kI G (q1 3) 20 (gA o1 3), kI G (q1 4) 20 (gA o1 4), kI G (q1 5) 5 (gA o1 5), kJ G (q1 6) 5 (gB o1 6), kJ G (q1 7) 5 (gB o1 7), kJ G (q1 8) 6 (gB o1 8), kI G (q1 10) 5 (gA o1 10), (h2, .inr (2, [.ref (q2 0), .ref (q2 1), .ref (q2 2)])), kI G (q2 0) 100 (gA o2 0), kI G (q2 1) 100 (gA o2 1), kI G (q2 2) 100 (gA o2 2)]) C (c_He_fill (h0 := h2) (q0 := q2) (h1 := (q0 6)) (h2 := (q0 7)) H.size h) wv_Sh_56 ⟨Nat.le_of_ble_eq_true rfl, Nat.le_of_ble_eq_true rfl⟩ hP hD hS 18 rfl rfl [18, 19, 20, 21, 6, 7] [0, 1, 2, 3, 4, 5, 8, 9, 10, 11, 12, 13, 14, 15, 16, 17] rfl rfl (by decide) (by decide) (by decide) [0, 1, 2, 3, 4, 5, 20, 21, 6, 7, 8, 9, 10, 11, 12, 13, 14, 15, 16, 17, 18, 19] (by decide) (fun u => rfl) rfl hl.1 rfl (lv_room (Nat.le_of_ble_eq_true rfl)) d_Sh_ask_22 ⟨Nat.le_of_ble_eq_true rfl, Nat.le_of_ble_eq_true rfl⟩ rfl rfl (fun u H locs h hP hD hS => ?_)
  obtain ⟨u9, u10⟩ := u
  have hP : va_P G.1 CL [(h0, .inr (9, [.int (gI u8 0), .ref (q0 1), .ref (q0 2), .ref (q0 3), .ref (q0 4), .ref (q0 5), .ref (q0 6), .ref (q0 7), .int (gI u8 8), .ref (u7 9), .int (gI u8 10), .ref (u7 11)])), kI G (q0 1) 5 (gA u8 1), kI G (q0 2) 20 (gA u8 2), kI G (q0 3) 5 (gA u8 3), kI G (q0 4) 5 (gA u8 4), kI G (q0 5) 5 (gA u8 5), kI G (q0 6) 5 u9, kI G (q0 7) 5 u10, kB G (u7 9) (u7 109) (gA u8 9), kI G (u7 11) (u7 111) (gA u8 11), (h1, .inr (5, [.ref (r1 0), .int (gI o1 1), .int (gI o1 2), .ref (q1 3), .ref (q1 4), .ref (q1 5), .ref (q1 6), .ref (q1 7), .ref (q1 8), .ref (q1 9), .ref (q1 10), .int (gI o1 11), .int (gI o1 12)])), kI G (q1 3) 20 (gA o1 3), kI G (q1 4) 20 (gA o1 4), kI G (q1 5) 5 (gA o1 5), kJ G (q1 6) 5 (gB o1 6), kJ G (q1 7) 5 (gB o1 7), kJ G (q1 8) 6 (gB o1 8), kI G (q1 10) 5 (gA o1 10), (h2, .inr (2, [.ref (q2 0), .ref (q2 1), .ref (q2 2)])), kI G (q2 0) 100 (gA o2 0), kI G (q2 1) 100 (gA o2 1), kI G (q2 2) 100 (gA o2 2)] H := hP
  have hD : va_D A [(h0, .inr (9, [.int (gI u8 0), .ref (q0 1), .ref (q0 2), .ref (q0 3), .ref (q0 4), .ref (q0 5), .ref (q0 6), .ref (q0 7), .int (gI u8 8), .ref (u7 9), .int (gI u8 10), .ref (u7 11)])), kI G (q0 1) 5 (gA u8 1), kI G (q0 2) 20 (gA u8 2), kI G (q0 3) 5 (gA u8 3), kI G (q0 4) 5 (gA u8 4), kI G (q0 5) 5 (gA u8 5), kI G (q0 6) 5 u9, kI G (q0 7) 5 u10, kB G (u7 9) (u7 109) (gA u8 9), kI G (u7 11) (u7 111) (gA u8 11), (h1, .inr (5, [.ref (r1 0), .int (gI o1 1), .int (gI o1 2), .ref (q1 3), .ref (q1 4), .ref (q1 5), .ref (q1 6), .ref (q1 7), .ref (q1 8), .ref (q1 9), .ref (q1 10), .int (gI o1 11), .int (gI o1 12)])), kI G (q1 3) 20 (gA o1 3), kI G (q1 4) 20 (gA o1 4), kI G (q1 5) 5 (gA o1 5), kJ G (q1 6) 5 (gB o1 6), kJ G (q1 7) 5 (gB o1 7), kJ G (q1 8) 6 (gB o1 8), kI G (q1 10) 5 (gA o1 10), (h2, .inr (2, [.ref (q2 0), .ref (q2 1), .ref (q2 2)])), kI G (q2 0) 100 (gA o2 0), kI G (q2 1) 100 (gA o2 1), kI G (q2 2) 100 (gA o2 2)] := hD
  refine lv_iconst (v := (0 : Int32)) hx hb d_Sh_ask_25 (by decide) ?_
  refine lv_istore (lv' := [(4, .int (0 : Int32)), (0, .ref h0), (1, .ref h1), (2, .ref h2), (3, .int a2)]) hx hb d_Sh_ask_26 hl (by decide) rfl (fun ls hl => ?_)
  have hl := lv_sub (l' := [(0, .ref h0), (4, .int (0 : Int32))]) hl [1, 0] rfl
  have hP : va_P G.1 CL (cw_Sh G h0 q0 u7 (sA (sA u8 6 u9) 7 u10) ++ (cw_Mo G h1 q1 r1 o1 ++ (cw_He G h2 q2 o2))) H := hP
  have hD : va_D A (cw_Sh G h0 q0 u7 (sA (sA u8 6 u9) 7 u10) ++ (cw_Mo G h1 q1 r1 o1 ++ (cw_He G h2 q2 o2))) := hD
  obtain ⟨w, h⟩ := h
  exact t_Sh_ask0_28 r1 o1 o2 Q C w (0 : Int32) u7 (sA (sA u8 6 u9) 7 u10) ls _ locs hl hP hD hS h
abbrev b_Sh_weighRow : ByteArray := prog_10_method_12_code
def y_Sh_weighRow : MethodName := ⟨R_Sh, "weighRow", "(LPipeVoice$Moment;LPipeVoice$Heard;I)V"⟩
abbrev w_Sh_weighRow : List Cond := Cond.code y_Sh_weighRow b_Sh_weighRow 7 none :: gw_tbl
theorem d_Sh_weighRow_0 : decode b_Sh_weighRow 0 = .ok (.iload_n 3, 1) := by decide +kernel
theorem d_Sh_weighRow_1 : decode b_Sh_weighRow 1 = .ok (.iconst 1, 1) := by decide +kernel
theorem d_Sh_weighRow_2 : decode b_Sh_weighRow 2 = .ok (.isub, 1) := by decide +kernel
theorem d_Sh_weighRow_3 : decode b_Sh_weighRow 3 = .ok (.istore 4, 2) := by decide +kernel
theorem d_Sh_weighRow_5 : decode b_Sh_weighRow 5 = .ok (.iload 4, 2) := by decide +kernel
theorem d_Sh_weighRow_7 : decode b_Sh_weighRow 7 = .ok (.ifCond .lt 153, 3) := by decide +kernel
theorem d_Sh_weighRow_10 : decode b_Sh_weighRow 10 = .ok (.aload_n 0, 1) := by decide +kernel
theorem d_Sh_weighRow_11 : decode b_Sh_weighRow 11 = .ok (.aload_n 1, 1) := by decide +kernel
theorem d_Sh_weighRow_12 : decode b_Sh_weighRow 12 = .ok (.aload_n 2, 1) := by decide +kernel
theorem d_Sh_weighRow_13 : decode b_Sh_weighRow 13 = .ok (.iload 4, 2) := by decide +kernel
theorem d_Sh_weighRow_15 : decode b_Sh_weighRow 15 = .ok (.invokevirtual 100, 3) := by decide +kernel
theorem d_Sh_weighRow_18 : decode b_Sh_weighRow 18 = .ok (.aload_n 0, 1) := by decide +kernel
theorem d_Sh_weighRow_19 : decode b_Sh_weighRow 19 = .ok (.getfield 37, 3) := by decide +kernel
theorem d_Sh_weighRow_22 : decode b_Sh_weighRow 22 = .ok (.arraylength, 1) := by decide +kernel
theorem d_Sh_weighRow_23 : decode b_Sh_weighRow 23 = .ok (.aload_n 0, 1) := by decide +kernel
theorem d_Sh_weighRow_24 : decode b_Sh_weighRow 24 = .ok (.getfield 69, 3) := by decide +kernel
theorem d_Sh_weighRow_27 : decode b_Sh_weighRow 27 = .ok (.bipush 8, 2) := by decide +kernel
theorem d_Sh_weighRow_29 : decode b_Sh_weighRow 29 = .ok (.imul, 1) := by decide +kernel
theorem d_Sh_weighRow_30 : decode b_Sh_weighRow 30 = .ok (.if_icmp .ge 16, 3) := by decide +kernel
theorem d_Sh_weighRow_33 : decode b_Sh_weighRow 33 = .ok (.aload_n 0, 1) := by decide +kernel
theorem d_Sh_weighRow_34 : decode b_Sh_weighRow 34 = .ok (.aload_n 0, 1) := by decide +kernel
theorem d_Sh_weighRow_35 : decode b_Sh_weighRow 35 = .ok (.getfield 69, 3) := by decide +kernel
theorem d_Sh_weighRow_38 : decode b_Sh_weighRow 38 = .ok (.bipush 8, 2) := by decide +kernel
theorem d_Sh_weighRow_40 : decode b_Sh_weighRow 40 = .ok (.imul, 1) := by decide +kernel
theorem d_Sh_weighRow_41 : decode b_Sh_weighRow 41 = .ok (.newarray .int, 2) := by decide +kernel
theorem d_Sh_weighRow_43 : decode b_Sh_weighRow 43 = .ok (.putfield 37, 3) := by decide +kernel
theorem d_Sh_weighRow_46 : decode b_Sh_weighRow 46 = .ok (.iload 4, 2) := by decide +kernel
theorem d_Sh_weighRow_48 : decode b_Sh_weighRow 48 = .ok (.aload_n 0, 1) := by decide +kernel
theorem d_Sh_weighRow_49 : decode b_Sh_weighRow 49 = .ok (.getfield 69, 3) := by decide +kernel
theorem d_Sh_weighRow_52 : decode b_Sh_weighRow 52 = .ok (.imul, 1) := by decide +kernel
theorem d_Sh_weighRow_53 : decode b_Sh_weighRow 53 = .ok (.istore 5, 2) := by decide +kernel
theorem d_Sh_weighRow_55 : decode b_Sh_weighRow 55 = .ok (.iload 4, 2) := by decide +kernel
theorem d_Sh_weighRow_57 : decode b_Sh_weighRow 57 = .ok (.iload_n 3, 1) := by decide +kernel
theorem d_Sh_weighRow_58 : decode b_Sh_weighRow 58 = .ok (.iconst 1, 1) := by decide +kernel
theorem d_Sh_weighRow_59 : decode b_Sh_weighRow 59 = .ok (.isub, 1) := by decide +kernel
theorem d_Sh_weighRow_60 : decode b_Sh_weighRow 60 = .ok (.if_icmp .ge 33, 3) := by decide +kernel
theorem d_Sh_weighRow_63 : decode b_Sh_weighRow 63 = .ok (.aload_n 0, 1) := by decide +kernel
theorem d_Sh_weighRow_64 : decode b_Sh_weighRow 64 = .ok (.getfield 37, 3) := by decide +kernel
theorem d_Sh_weighRow_67 : decode b_Sh_weighRow 67 = .ok (.iload 5, 2) := by decide +kernel
theorem d_Sh_weighRow_69 : decode b_Sh_weighRow 69 = .ok (.aload_n 0, 1) := by decide +kernel
theorem d_Sh_weighRow_70 : decode b_Sh_weighRow 70 = .ok (.getfield 69, 3) := by decide +kernel
theorem d_Sh_weighRow_73 : decode b_Sh_weighRow 73 = .ok (.iadd, 1) := by decide +kernel
theorem d_Sh_weighRow_74 : decode b_Sh_weighRow 74 = .ok (.aload_n 0, 1) := by decide +kernel
theorem d_Sh_weighRow_75 : decode b_Sh_weighRow 75 = .ok (.getfield 37, 3) := by decide +kernel
theorem d_Sh_weighRow_78 : decode b_Sh_weighRow 78 = .ok (.iload 5, 2) := by decide +kernel
theorem d_Sh_weighRow_80 : decode b_Sh_weighRow 80 = .ok (.aload_n 0, 1) := by decide +kernel
theorem d_Sh_weighRow_81 : decode b_Sh_weighRow 81 = .ok (.getfield 69, 3) := by decide +kernel
theorem d_Sh_weighRow_84 : decode b_Sh_weighRow 84 = .ok (.invokestatic 104, 3) := by decide +kernel
theorem d_Sh_weighRow_87 : decode b_Sh_weighRow 87 = .ok (.aload_n 0, 1) := by decide +kernel
theorem d_Sh_weighRow_88 : decode b_Sh_weighRow 88 = .ok (.iload 5, 2) := by decide +kernel
theorem d_Sh_weighRow_90 : decode b_Sh_weighRow 90 = .ok (.invokevirtual 110, 3) := by decide +kernel
theorem d_Sh_weighRow_93 : decode b_Sh_weighRow 93 = .ok (.iconst 0, 1) := by decide +kernel
theorem d_Sh_weighRow_94 : decode b_Sh_weighRow 94 = .ok (.istore 6, 2) := by decide +kernel
theorem d_Sh_weighRow_96 : decode b_Sh_weighRow 96 = .ok (.iload 6, 2) := by decide +kernel
theorem d_Sh_weighRow_98 : decode b_Sh_weighRow 98 = .ok (.aload_n 0, 1) := by decide +kernel
theorem d_Sh_weighRow_99 : decode b_Sh_weighRow 99 = .ok (.getfield 69, 3) := by decide +kernel
theorem d_Sh_weighRow_102 : decode b_Sh_weighRow 102 = .ok (.if_icmp .ge 52, 3) := by decide +kernel
theorem d_Sh_weighRow_105 : decode b_Sh_weighRow 105 = .ok (.aload_n 0, 1) := by decide +kernel
theorem d_Sh_weighRow_106 : decode b_Sh_weighRow 106 = .ok (.iload 6, 2) := by decide +kernel
theorem d_Sh_weighRow_108 : decode b_Sh_weighRow 108 = .ok (.invokevirtual 86, 3) := by decide +kernel
theorem d_Sh_weighRow_111 : decode b_Sh_weighRow 111 = .ok (.ifCond .ne 18, 3) := by decide +kernel
theorem d_Sh_weighRow_114 : decode b_Sh_weighRow 114 = .ok (.aload_n 0, 1) := by decide +kernel
theorem d_Sh_weighRow_115 : decode b_Sh_weighRow 115 = .ok (.getfield 37, 3) := by decide +kernel
theorem d_Sh_weighRow_118 : decode b_Sh_weighRow 118 = .ok (.iload 5, 2) := by decide +kernel
theorem d_Sh_weighRow_120 : decode b_Sh_weighRow 120 = .ok (.iload 6, 2) := by decide +kernel
theorem d_Sh_weighRow_122 : decode b_Sh_weighRow 122 = .ok (.iadd, 1) := by decide +kernel
theorem d_Sh_weighRow_123 : decode b_Sh_weighRow 123 = .ok (.ldc 90, 2) := by decide +kernel
theorem d_Sh_weighRow_125 : decode b_Sh_weighRow 125 = .ok (.iastore, 1) := by decide +kernel
theorem d_Sh_weighRow_126 : decode b_Sh_weighRow 126 = .ok (.goto 22, 3) := by decide +kernel
theorem d_Sh_weighRow_129 : decode b_Sh_weighRow 129 = .ok (.iload 4, 2) := by decide +kernel
theorem d_Sh_weighRow_131 : decode b_Sh_weighRow 131 = .ok (.iload_n 3, 1) := by decide +kernel
theorem d_Sh_weighRow_132 : decode b_Sh_weighRow 132 = .ok (.iconst 1, 1) := by decide +kernel
theorem d_Sh_weighRow_133 : decode b_Sh_weighRow 133 = .ok (.isub, 1) := by decide +kernel
theorem d_Sh_weighRow_134 : decode b_Sh_weighRow 134 = .ok (.if_icmp .ne 14, 3) := by decide +kernel
theorem d_Sh_weighRow_137 : decode b_Sh_weighRow 137 = .ok (.aload_n 0, 1) := by decide +kernel
theorem d_Sh_weighRow_138 : decode b_Sh_weighRow 138 = .ok (.getfield 37, 3) := by decide +kernel
theorem d_Sh_weighRow_141 : decode b_Sh_weighRow 141 = .ok (.iload 5, 2) := by decide +kernel
theorem d_Sh_weighRow_143 : decode b_Sh_weighRow 143 = .ok (.iload 6, 2) := by decide +kernel
theorem d_Sh_weighRow_145 : decode b_Sh_weighRow 145 = .ok (.iadd, 1) := by decide +kernel
theorem d_Sh_weighRow_146 : decode b_Sh_weighRow 146 = .ok (.iconst 0, 1) := by decide +kernel
theorem d_Sh_weighRow_147 : decode b_Sh_weighRow 147 = .ok (.iastore, 1) := by decide +kernel
theorem d_Sh_weighRow_148 : decode b_Sh_weighRow 148 = .ok (.iinc 6 1, 3) := by decide +kernel
theorem d_Sh_weighRow_151 : decode b_Sh_weighRow 151 = .ok (.goto (-55), 3) := by decide +kernel
theorem d_Sh_weighRow_154 : decode b_Sh_weighRow 154 = .ok (.iinc 4 (-1), 3) := by decide +kernel
theorem d_Sh_weighRow_157 : decode b_Sh_weighRow 157 = .ok (.goto (-152), 3) := by decide +kernel
theorem d_Sh_weighRow_160 : decode b_Sh_weighRow 160 = .ok (.return_, 1) := by decide +kernel
theorem wv_Sh_100 : wV R_Sh 100 y_Sh_ask b_Sh_ask 5 none 3 := ⟨⟨gw_tb (List.mem_of_getElem? (i := 904) (by decide +kernel)) rfl, gw_tb (List.mem_of_getElem? (i := 12) (by decide +kernel)) rfl, gw_tb (List.mem_of_getElem? (i := 840) (by decide +kernel)) rfl, by decide, by decide, by decide +kernel⟩, gw_tb (List.mem_of_getElem? (i := 838) (by decide +kernel)) rfl, gw_tb (List.mem_of_getElem? (i := 839) (by decide +kernel)) rfl⟩
theorem wa_int : Cond.arrayClass .int ∈ gw_tbl := gw_tb (List.mem_of_getElem? (i := 145) (by decide +kernel)) rfl
theorem wm_Sh_104 : Cond.methodLink R_Sh 104 arraycopyName ∈ gw_tbl := gw_tb (List.mem_of_getElem? (i := 905) (by decide +kernel)) rfl
theorem wv_Sh_110 : wV R_Sh 110 y_Sh_spread b_Sh_spread 6 none 1 := ⟨⟨gw_tb (List.mem_of_getElem? (i := 908) (by decide +kernel)) rfl, gw_tb (List.mem_of_getElem? (i := 12) (by decide +kernel)) rfl, gw_tb (List.mem_of_getElem? (i := 911) (by decide +kernel)) rfl, by decide, by decide, by decide +kernel⟩, gw_tb (List.mem_of_getElem? (i := 910) (by decide +kernel)) rfl, gw_of (List.mem_append_left _ (List.mem_of_getElem? (i := 27) (by decide +kernel))) rfl⟩
def f_Sh_weighRow_96 (r1 : (Nat → Nat)) (o1 : Ob) (o2 : Ob) (k5 : Nat → Nat → Int32 → Int32 → (Nat → Nat) → Ob → Prop) (Q : (Nat → Nat) → Ob → Prop) : Nat → Nat → Nat → Int32 → Int32 → Int32 → Int32 → (Nat → Nat) → Ob → Prop
  | 0, _, _, _, _, _, _, _, _ => False
  | n + 1, cs, sl, x3, x4, x5, x6, r0, o0 => ((gI o0 8) ≤ x6 → (k5 cs sl x3 (x4 + (-1 : Int32)) r0 o0)) ∧ (¬ (gI o0 8) ≤ x6 → ((cs ≤ 2) ∧ ((sl ≤ 13312) ∧ (f_Sh_fits x6 r0 o0 (fun z4 => (z4 = 0 → ((vp_in (x5 + x6) (r0 111)) ∧ ((f_Sh_weighRow_96 r1 o1 o2 k5 Q n) cs sl x3 x4 x5 (x6 + (1 : Int32)) r0 (sA o0 11 (upd (gA o0 11) ((x5 + x6).toNatClampNeg) (1000000 : Int32)))))) ∧ (¬ z4 = 0 → ((x4 = (x3 - (1 : Int32)) → ((vp_in (x5 + x6) (r0 111)) ∧ ((f_Sh_weighRow_96 r1 o1 o2 k5 Q n) cs sl x3 x4 x5 (x6 + (1 : Int32)) r0 (sA o0 11 (upd (gA o0 11) ((x5 + x6).toNatClampNeg) (0 : Int32)))))) ∧ (¬ x4 = (x3 - (1 : Int32)) → ((f_Sh_weighRow_96 r1 o1 o2 k5 Q n) cs sl x3 x4 x5 (x6 + (1 : Int32)) r0 o0)))))))))
def f_Sh_weighRow_46 (r1 : (Nat → Nat)) (o1 : Ob) (o2 : Ob) (k5 : Nat → Nat → Int32 → Int32 → (Nat → Nat) → Ob → Prop) (Q : (Nat → Nat) → Ob → Prop) (cs sl : Nat) (x3 : Int32) (x4 : Int32) (r0 : (Nat → Nat)) (o0 : Ob) : Prop := ((x3 - (1 : Int32)) ≤ x4 → ((∃ w, f_Sh_weighRow_96 r1 o1 o2 k5 Q w cs sl x3 x4 (x4 * (gI o0 8)) (0 : Int32) r0 o0))) ∧ (¬ (x3 - (1 : Int32)) ≤ x4 → ((¬ ((x4 * (gI o0 8)) + (gI o0 8)) < 0) ∧ ((¬ (x4 * (gI o0 8)) < 0) ∧ ((¬ (gI o0 8) < 0) ∧ ((((x4 * (gI o0 8)) + (gI o0 8)).toNatClampNeg + (gI o0 8).toNatClampNeg ≤ (r0 111)) ∧ (((x4 * (gI o0 8)).toNatClampNeg + (gI o0 8).toNatClampNeg ≤ (r0 111)) ∧ ((cs ≤ 2) ∧ ((sl ≤ 13312) ∧ (f_Sh_spread (x4 * (gI o0 8)) r0 (sA o0 11 (va_cpy (gA o0 11) (gA o0 11) ((x4 * (gI o0 8)) + (gI o0 8)).toNatClampNeg (x4 * (gI o0 8)).toNatClampNeg (gI o0 8).toNatClampNeg)) (fun u17 => (∃ w, f_Sh_weighRow_96 r1 o1 o2 k5 Q w cs sl x3 x4 (x4 * (gI o0 8)) (0 : Int32) r0 u17)))))))))))
def f_Sh_weighRow_5 (r1 : (Nat → Nat)) (o1 : Ob) (o2 : Ob) (Q : (Nat → Nat) → Ob → Prop) : Nat → Nat → Nat → Int32 → Int32 → (Nat → Nat) → Ob → Prop
  | 0, _, _, _, _, _, _ => False
  | n + 1, cs, sl, x3, x4, r0, o0 => (x4 < 0 → ((cs ≤ 2) ∧ ((sl ≤ 13312) ∧ (Q r0 o0)))) ∧ (¬ x4 < 0 → (((cs + 1 ≤ 2) ∧ ((sl + 5120 ≤ 13312) ∧ (f_Sh_ask x4 r0 o0 r1 o1 o2 (fun u23 u24 => (((gI u24 8) * (8 : Int32)) ≤ (nI (u23 111)) → (f_Sh_weighRow_46 r1 o1 o2 (f_Sh_weighRow_5 r1 o1 o2 Q n) Q (cs + 1) (sl + 5120) x3 x4 u23 u24)) ∧ (¬ ((gI u24 8) * (8 : Int32)) ≤ (nI (u23 111)) → ((¬ ((gI u24 8) * (8 : Int32)) < 0) ∧ (((cs + 1) + 1 ≤ 2) ∧ (((sl + 5120) + ((gI u24 8) * (8 : Int32)).toNatClampNeg ≤ 13312) ∧ (∀ q29 : Nat, (f_Sh_weighRow_46 r1 o1 o2 (f_Sh_weighRow_5 r1 o1 o2 Q n) Q ((cs + 1) + 1) ((sl + 5120) + ((gI u24 8) * (8 : Int32)).toNatClampNeg) x3 x4 (up (up u23 11 q29) 111 ((gI u24 8) * (8 : Int32)).toNatClampNeg) (sA u24 11 (fun _ => 0)))))))))))) ∨ ((cs ≤ 2) ∧ ((sl ≤ 13312) ∧ (f_Sh_ask0 x4 r0 o0 r1 o1 o2 (fun u32 u33 => (((gI u33 8) * (8 : Int32)) ≤ (nI (u32 111)) → (f_Sh_weighRow_46 r1 o1 o2 (f_Sh_weighRow_5 r1 o1 o2 Q n) Q cs sl x3 x4 u32 u33)) ∧ (¬ ((gI u33 8) * (8 : Int32)) ≤ (nI (u32 111)) → ((¬ ((gI u33 8) * (8 : Int32)) < 0) ∧ ((cs + 1 ≤ 2) ∧ ((sl + ((gI u33 8) * (8 : Int32)).toNatClampNeg ≤ 13312) ∧ (∀ q38 : Nat, (f_Sh_weighRow_46 r1 o1 o2 (f_Sh_weighRow_5 r1 o1 o2 Q n) Q (cs + 1) (sl + ((gI u33 8) * (8 : Int32)).toNatClampNeg) x3 x4 (up (up u32 11 q38) 111 ((gI u33 8) * (8 : Int32)).toNatClampNeg) (sA u33 11 (fun _ => 0))))))))))))))
def f_Sh_weighRow (a2 : Int32) (r0 : (Nat → Nat)) (o0 : Ob) (r1 : (Nat → Nat)) (o1 : Ob) (o2 : Ob) (Q : (Nat → Nat) → Ob → Prop) : Prop := (∃ w, f_Sh_weighRow_5 r1 o1 o2 Q w 0 0 a2 (a2 - (1 : Int32)) r0 o0)
abbrev rm_Sh_weighRow : Room := { frames := 4, cells := 2, slots := 13312, locals := 110 }
set_option maxHeartbeats 4000000 in
set_option maxRecDepth 100000 in
theorem t_Sh_weighRow_96 {p : Program} {l : Launch} {e : Env} {s : State} {m : MethodId} {args : Array Value} {below : List Frame} {meth : Method} {c : Code} {A : Nat → Prop} {G : Gl} {h0 : Nat} {h1 : Nat} {h2 : Nat} {q0 : Nat → Nat} {q1 : Nat → Nat} {q2 : Nat → Nat} (r1 : (Nat → Nat)) (o1 : Ob) (o2 : Ob) (k5 : Nat → Nat → Int32 → Int32 → (Nat → Nat) → Ob → Prop) (Q : (Nat → Nat) → Ob → Prop) (C : Cx p s m args meth c R_Sh b_Sh_weighRow 7 none G A)
    (hk5 : ∀ (cs sl : Nat) (x3 : Int32) (x4 : Int32) (r0 : (Nat → Nat)) (o0 : Ob) (ls : Array Slot) (H : Heap) (locs : List Loc), lv_has ls 7 [(0, .ref h0), (1, .ref h1), (2, .ref h2), (3, .int x3), (4, .int x4)] → va_P G.1 CL (cw_Sh G h0 q0 r0 o0 ++ (cw_Mo G h1 q1 r1 o1 ++ (cw_He G h2 q2 o2))) H → va_D A (cw_Sh G h0 q0 r0 o0 ++ (cw_Mo G h1 q1 r1 o1 ++ (cw_He G h2 q2 o2))) → va_S A s.heap H locs → k5 cs sl x3 x4 r0 o0 → W p l e rm_Sh_weighRow s m args below meth c H locs cs sl (MQ below (va_Qv (fun (u : (Nat → Nat) × Ob) => Q u.1 u.2) (fun (u : (Nat → Nat) × Ob) t => BW G A (cw_Sh G h0 q0 u.1 u.2 ++ (cw_Mo G h1 q1 r1 o1 ++ (cw_He G h2 q2 o2))) t) A) args s 2 13312 A) (F0 m 5 ls [])) :
    ∀ (n : Nat) (cs sl : Nat) (x3 : Int32) (x4 : Int32) (x5 : Int32) (x6 : Int32) (r0 : (Nat → Nat)) (o0 : Ob) (ls : Array Slot) (H : Heap) (locs : List Loc), lv_has ls 7 [(0, .ref h0), (1, .ref h1), (2, .ref h2), (3, .int x3), (4, .int x4), (5, .int x5), (6, .int x6)] → va_P G.1 CL (cw_Sh G h0 q0 r0 o0 ++ (cw_Mo G h1 q1 r1 o1 ++ (cw_He G h2 q2 o2))) H → va_D A (cw_Sh G h0 q0 r0 o0 ++ (cw_Mo G h1 q1 r1 o1 ++ (cw_He G h2 q2 o2))) → va_S A s.heap H locs → f_Sh_weighRow_96 r1 o1 o2 k5 Q n cs sl x3 x4 x5 x6 r0 o0 → W p l e rm_Sh_weighRow s m args below meth c H locs cs sl (MQ below (va_Qv (fun (u : (Nat → Nat) × Ob) => Q u.1 u.2) (fun (u : (Nat → Nat) × Ob) t => BW G A (cw_Sh G h0 q0 u.1 u.2 ++ (cw_Mo G h1 q1 r1 o1 ++ (cw_He G h2 q2 o2))) t) A) args s 2 13312 A) (F0 m 96 ls []) := by
  obtain ⟨hx, hb, hml, hown, hr, hts, hK, hA, hlocks, hE⟩ := id C
  intro n
  induction n with
  | zero => intro cs sl x3 x4 x5 x6 r0 o0 ls H locs hl hP hD hS h; exact absurd h id
  | succ n ih =>
    intro cs sl x3 x4 x5 x6 r0 o0 ls H locs hl hP hD hS h
    have hP : va_P G.1 CL [(h0, .inr (9, [.int (gI o0 0), .ref (q0 1), .ref (q0 2), .ref (q0 3), .ref (q0 4), .ref (q0 5), .ref (q0 6), .ref (q0 7), .int (gI o0 8), .ref (r0 9), .int (gI o0 10), .ref (r0 11)])), kI G (q0 1) 5 (gA o0 1), kI G (q0 2) 20 (gA o0 2), kI G (q0 3) 5 (gA o0 3), kI G (q0 4) 5 (gA o0 4), kI G (q0 5) 5 (gA o0 5), kI G (q0 6) 5 (gA o0 6), kI G (q0 7) 5 (gA o0 7), kB G (r0 9) (r0 109) (gA o0 9), kI G (r0 11) (r0 111) (gA o0 11), (h1, .inr (5, [.ref (r1 0), .int (gI o1 1), .int (gI o1 2), .ref (q1 3), .ref (q1 4), .ref (q1 5), .ref (q1 6), .ref (q1 7), .ref (q1 8), .ref (q1 9), .ref (q1 10), .int (gI o1 11), .int (gI o1 12)])), kI G (q1 3) 20 (gA o1 3), kI G (q1 4) 20 (gA o1 4), kI G (q1 5) 5 (gA o1 5), kJ G (q1 6) 5 (gB o1 6), kJ G (q1 7) 5 (gB o1 7), kJ G (q1 8) 6 (gB o1 8), kI G (q1 10) 5 (gA o1 10), (h2, .inr (2, [.ref (q2 0), .ref (q2 1), .ref (q2 2)])), kI G (q2 0) 100 (gA o2 0), kI G (q2 1) 100 (gA o2 1), kI G (q2 2) 100 (gA o2 2)] H := hP
    have hD : va_D A [(h0, .inr (9, [.int (gI o0 0), .ref (q0 1), .ref (q0 2), .ref (q0 3), .ref (q0 4), .ref (q0 5), .ref (q0 6), .ref (q0 7), .int (gI o0 8), .ref (r0 9), .int (gI o0 10), .ref (r0 11)])), kI G (q0 1) 5 (gA o0 1), kI G (q0 2) 20 (gA o0 2), kI G (q0 3) 5 (gA o0 3), kI G (q0 4) 5 (gA o0 4), kI G (q0 5) 5 (gA o0 5), kI G (q0 6) 5 (gA o0 6), kI G (q0 7) 5 (gA o0 7), kB G (r0 9) (r0 109) (gA o0 9), kI G (r0 11) (r0 111) (gA o0 11), (h1, .inr (5, [.ref (r1 0), .int (gI o1 1), .int (gI o1 2), .ref (q1 3), .ref (q1 4), .ref (q1 5), .ref (q1 6), .ref (q1 7), .ref (q1 8), .ref (q1 9), .ref (q1 10), .int (gI o1 11), .int (gI o1 12)])), kI G (q1 3) 20 (gA o1 3), kI G (q1 4) 20 (gA o1 4), kI G (q1 5) 5 (gA o1 5), kJ G (q1 6) 5 (gB o1 6), kJ G (q1 7) 5 (gB o1 7), kJ G (q1 8) 6 (gB o1 8), kI G (q1 10) 5 (gA o1 10), (h2, .inr (2, [.ref (q2 0), .ref (q2 1), .ref (q2 2)])), kI G (q2 0) 100 (gA o2 0), kI G (q2 1) 100 (gA o2 1), kI G (q2 2) 100 (gA o2 2)] := hD
    unfold f_Sh_weighRow_96 at h
    refine lv_iload hx hb d_Sh_weighRow_96 (lv_at hl 6 rfl) ?_
    refine lv_aload_n hx hb d_Sh_weighRow_98 rfl (lv_at hl 0 rfl) ?_
    refine va_get (D := G.1) (ci := 9) (v := .int (gI o0 8)) (C := R_Sh) (T := T_Sh) (N := 12) hx hb hts i_Sh hown hK hP 0 rfl rfl 8 (by decide) (hts _ wf_Sh_69) (fun _ h9 => h9) rfl d_Sh_weighRow_99 ?_
    refine lv_icmp_ge (tgt := 154) hx hb d_Sh_weighRow_102 (by decide) (fun c1 => ?_) (fun c1 => ?_)
    · have h := h.1 c1
      refine lv_iinc (v := (x4 + (-1 : Int32))) (lv' := [(4, .int (x4 + (-1 : Int32))), (0, .ref h0), (1, .ref h1), (2, .ref h2), (3, .int x3), (5, .int x5), (6, .int x6)]) hx hb d_Sh_weighRow_154 hl (k := 4) rfl rfl (by decide) rfl (fun ls hl => ?_)
      refine lv_goto (tgt := 5) hx hb d_Sh_weighRow_157 (by decide) ?_
      have hl := lv_sub (l' := [(0, .ref h0), (1, .ref h1), (2, .ref h2), (3, .int x3), (4, .int (x4 + (-1 : Int32)))]) hl [1, 2, 3, 4, 0] rfl
      have hP : va_P G.1 CL (cw_Sh G h0 q0 r0 o0 ++ (cw_Mo G h1 q1 r1 o1 ++ (cw_He G h2 q2 o2))) H := hP
      have hD : va_D A (cw_Sh G h0 q0 r0 o0 ++ (cw_Mo G h1 q1 r1 o1 ++ (cw_He G h2 q2 o2))) := hD
      exact hk5 cs sl x3 (x4 + (-1 : Int32)) r0 o0 ls H locs hl hP hD hS h
    · have h := h.2 c1
      refine lv_aload_n hx hb d_Sh_weighRow_105 rfl (lv_at hl 0 rfl) ?_
      refine lv_iload hx hb d_Sh_weighRow_106 (lv_at hl 6 rfl) ?_
      have g2 := h.1
      have h := h.2
      have g3 := h.1
      have h := h.2
      refine cl_Vi (b := b_Sh_weighRow) (As := [.int x6]) (rest := []) (ws := [(h0, .inr (9, [.int (gI o0 0), .ref (q0 1), .ref (q0 2), .ref (q0 3), .ref (q0 4), .ref (q0 5), .ref (q0 6), .ref (q0 7), .int (gI o0 8), .ref (r0 9), .int (gI o0 10), .ref (r0 11)])), kI G (q0 1) 5 (gA o0 1), kI G (q0 2) 20 (gA o0 2), kI G (q0 3) 5 (gA o0 3), kI G (q0 4) 5 (gA o0 4), kI G (q0 5) 5 (gA o0 5), kI G (q0 6) 5 (gA o0 6), kI G (q0 7) 5 (gA o0 7), kB G (r0 9) (r0 109) (gA o0 9), kI G (r0 11) (r0 111) (gA o0 11), (h1, .inr (5, [.ref (r1 0), .int (gI o1 1), .int (gI o1 2), .ref (q1 3), .ref (q1 4), .ref (q1 5), .ref (q1 6), .ref (q1 7), .ref (q1 8), .ref (q1 9), .ref (q1 10), .int (gI o1 11), .int (gI o1 12)])), kI G (q1 3) 20 (gA o1 3), kI G (q1 4) 20 (gA o1 4), kI G (q1 5) 5 (gA o1 5), kJ G (q1 6) 5 (gB o1 6), kJ G (q1 7) 5 (gB o1 7), kJ G (q1 8) 6 (gB o1 8), kI G (q1 10) 5 (gA o1 10), (h2, .inr (2, [.ref (q2 0), .ref (q2 1), .ref (q2 2)])), kI G (q2 0) 100 (gA o2 0), kI G (q2 1) 100 (gA o2 1), kI G (q2 2) 100 (gA o2 2)]) (wr := [(h1, .inr (5, [.ref (r1 0), .int (gI o1 1), .int (gI o1 2), .ref (q1 3), .ref (q1 4), .ref (q1 5), .ref (q1 6), .ref (q1 7), .ref (q1 8), .ref (q1 9), .ref (q1 10), .int (gI o1 11), .int (gI o1 12)])), kI G (q1 3) 20 (gA o1 3), kI G (q1 4) 20 (gA o1 4), kI G (q1 5) 5 (gA o1 5), kJ G (q1 6) 5 (gB o1 6), kJ G (q1 7) 5 (gB o1 7), kJ G (q1 8) 6 (gB o1 8), kI G (q1 10) 5 (gA o1 10), (h2, .inr (2, [.ref (q2 0), .ref (q2 1), .ref (q2 2)])), kI G (q2 0) 100 (gA o2 0), kI G (q2 1) 100 (gA o2 1), kI G (q2 2) 100 (gA o2 2)]) (w2 := fun (u : Unit) => [(h0, .inr (9, [.int (gI o0 0), .ref (q0 1), .ref (q0 2), .ref (q0 3), .ref (q0 4), .ref (q0 5), .ref (q0 6), .ref (q0 7), .int (gI o0 8), .ref (r0 9), .int (gI o0 10), .ref (r0 11)])), kI G (q0 1) 5 (gA o0 1), kI G (q0 2) 20 (gA o0 2), kI G (q0 3) 5 (gA o0 3), kI G (q0 4) 5 (gA o0 4), kI G (q0 5) 5 (gA o0 5), kI G (q0 6) 5 (gA o0 6), kI G (q0 7) 5 (gA o0 7), kB G (r0 9) (r0 109) (gA o0 9), kI G (r0 11) (r0 111) (gA o0 11), (h1, .inr (5, [.ref (r1 0), .int (gI o1 1), .int (gI o1 2), .ref (q1 3), .ref (q1 4), .ref (q1 5), .ref (q1 6), .ref (q1 7), .ref (q1 8), .ref (q1 9), .ref (q1 10), .int (gI o1 11), .int (gI o1 12)])), kI G (q1 3) 20 (gA o1 3), kI G (q1 4) 20 (gA o1 4), kI G (q1 5) 5 (gA o1 5), kJ G (q1 6) 5 (gB o1 6), kJ G (q1 7) 5 (gB o1 7), kJ G (q1 8) 6 (gB o1 8), kI G (q1 10) 5 (gA o1 10), (h2, .inr (2, [.ref (q2 0), .ref (q2 1), .ref (q2 2)])), kI G (q2 0) 100 (gA o2 0), kI G (q2 1) 100 (gA o2 1), kI G (q2 2) 100 (gA o2 2)]) C (c_Sh_fits (h0 := h0) (q0 := q0) H.size h) wv_Sh_86 ⟨Nat.le_of_ble_eq_true rfl, Nat.le_of_ble_eq_true rfl⟩ hP hD hS 0 rfl rfl [0, 1, 2, 3, 4, 5, 6, 7, 8, 9] [10, 11, 12, 13, 14, 15, 16, 17, 18, 19, 20, 21] rfl rfl (by decide) (by decide) (by decide) [12, 13, 14, 15, 16, 17, 18, 19, 20, 21, 0, 1, 2, 3, 4, 5, 6, 7, 8, 9, 10, 11] (by decide) (fun u => rfl) rfl hl.1 rfl (lv_room (Nat.le_of_ble_eq_true rfl)) d_Sh_weighRow_108 ⟨g2, g3⟩ rfl rfl (fun z4 u H locs h hP hD hS => ?_)
      have hP : va_P G.1 CL [(h0, .inr (9, [.int (gI o0 0), .ref (q0 1), .ref (q0 2), .ref (q0 3), .ref (q0 4), .ref (q0 5), .ref (q0 6), .ref (q0 7), .int (gI o0 8), .ref (r0 9), .int (gI o0 10), .ref (r0 11)])), kI G (q0 1) 5 (gA o0 1), kI G (q0 2) 20 (gA o0 2), kI G (q0 3) 5 (gA o0 3), kI G (q0 4) 5 (gA o0 4), kI G (q0 5) 5 (gA o0 5), kI G (q0 6) 5 (gA o0 6), kI G (q0 7) 5 (gA o0 7), kB G (r0 9) (r0 109) (gA o0 9), kI G (r0 11) (r0 111) (gA o0 11), (h1, .inr (5, [.ref (r1 0), .int (gI o1 1), .int (gI o1 2), .ref (q1 3), .ref (q1 4), .ref (q1 5), .ref (q1 6), .ref (q1 7), .ref (q1 8), .ref (q1 9), .ref (q1 10), .int (gI o1 11), .int (gI o1 12)])), kI G (q1 3) 20 (gA o1 3), kI G (q1 4) 20 (gA o1 4), kI G (q1 5) 5 (gA o1 5), kJ G (q1 6) 5 (gB o1 6), kJ G (q1 7) 5 (gB o1 7), kJ G (q1 8) 6 (gB o1 8), kI G (q1 10) 5 (gA o1 10), (h2, .inr (2, [.ref (q2 0), .ref (q2 1), .ref (q2 2)])), kI G (q2 0) 100 (gA o2 0), kI G (q2 1) 100 (gA o2 1), kI G (q2 2) 100 (gA o2 2)] H := hP
      have hD : va_D A [(h0, .inr (9, [.int (gI o0 0), .ref (q0 1), .ref (q0 2), .ref (q0 3), .ref (q0 4), .ref (q0 5), .ref (q0 6), .ref (q0 7), .int (gI o0 8), .ref (r0 9), .int (gI o0 10), .ref (r0 11)])), kI G (q0 1) 5 (gA o0 1), kI G (q0 2) 20 (gA o0 2), kI G (q0 3) 5 (gA o0 3), kI G (q0 4) 5 (gA o0 4), kI G (q0 5) 5 (gA o0 5), kI G (q0 6) 5 (gA o0 6), kI G (q0 7) 5 (gA o0 7), kB G (r0 9) (r0 109) (gA o0 9), kI G (r0 11) (r0 111) (gA o0 11), (h1, .inr (5, [.ref (r1 0), .int (gI o1 1), .int (gI o1 2), .ref (q1 3), .ref (q1 4), .ref (q1 5), .ref (q1 6), .ref (q1 7), .ref (q1 8), .ref (q1 9), .ref (q1 10), .int (gI o1 11), .int (gI o1 12)])), kI G (q1 3) 20 (gA o1 3), kI G (q1 4) 20 (gA o1 4), kI G (q1 5) 5 (gA o1 5), kJ G (q1 6) 5 (gB o1 6), kJ G (q1 7) 5 (gB o1 7), kJ G (q1 8) 6 (gB o1 8), kI G (q1 10) 5 (gA o1 10), (h2, .inr (2, [.ref (q2 0), .ref (q2 1), .ref (q2 2)])), kI G (q2 0) 100 (gA o2 0), kI G (q2 1) 100 (gA o2 1), kI G (q2 2) 100 (gA o2 2)] := hD
      refine lv_if_ne (tgt := 129) hx hb d_Sh_weighRow_111 (by decide) (fun c5 => ?_) (fun c5 => ?_)
      · have h := h.2 c5
        refine lv_iload hx hb d_Sh_weighRow_129 (lv_at hl 4 rfl) ?_
        refine lv_iload_n hx hb d_Sh_weighRow_131 rfl (lv_at hl 3 rfl) ?_
        refine lv_iconst (v := (1 : Int32)) hx hb d_Sh_weighRow_132 (by decide) ?_
        refine lv_isub hx hb d_Sh_weighRow_133 ?_
        refine lv_icmp_ne (tgt := 148) hx hb d_Sh_weighRow_134 (by decide) (fun c6 => ?_) (fun c6 => ?_)
        · have h := h.2 c6
          refine lv_iinc (v := (x6 + (1 : Int32))) (lv' := [(6, .int (x6 + (1 : Int32))), (0, .ref h0), (1, .ref h1), (2, .ref h2), (3, .int x3), (4, .int x4), (5, .int x5)]) hx hb d_Sh_weighRow_148 hl (k := 6) rfl rfl (by decide) rfl (fun ls hl => ?_)
          refine lv_goto (tgt := 96) hx hb d_Sh_weighRow_151 (by decide) ?_
          have hl := lv_sub (l' := [(0, .ref h0), (1, .ref h1), (2, .ref h2), (3, .int x3), (4, .int x4), (5, .int x5), (6, .int (x6 + (1 : Int32)))]) hl [1, 2, 3, 4, 5, 6, 0] rfl
          have hP : va_P G.1 CL (cw_Sh G h0 q0 r0 o0 ++ (cw_Mo G h1 q1 r1 o1 ++ (cw_He G h2 q2 o2))) H := hP
          have hD : va_D A (cw_Sh G h0 q0 r0 o0 ++ (cw_Mo G h1 q1 r1 o1 ++ (cw_He G h2 q2 o2))) := hD
          exact ih cs sl x3 x4 x5 (x6 + (1 : Int32)) r0 o0 ls H locs hl hP hD hS h
        · have h := h.1 c6
          refine lv_aload_n hx hb d_Sh_weighRow_137 rfl (lv_at hl 0 rfl) ?_
          refine va_get (D := G.1) (ci := 9) (v := .ref (r0 11)) (C := R_Sh) (T := T_Sh) (N := 12) hx hb hts i_Sh hown hK hP 0 rfl rfl 11 (by decide) (hts _ wf_Sh_37) (fun _ h9 => h9) rfl d_Sh_weighRow_138 ?_
          refine lv_iload hx hb d_Sh_weighRow_141 (lv_at hl 5 rfl) ?_
          refine lv_iload hx hb d_Sh_weighRow_143 (lv_at hl 6 rfl) ?_
          refine lv_iadd hx hb d_Sh_weighRow_145 ?_
          refine lv_iconst (v := (0 : Int32)) hx hb d_Sh_weighRow_146 (by decide) ?_
          have g7 := h.1
          have h := h.2
          refine xa_iast hx hb hK hP hD hS 9 0 rfl rfl g7 (k := (x5 + x6).toNatClampNeg) rfl d_Sh_weighRow_147 (fun H locs hP hD hS => ?_)
          have hP : va_P G.1 CL [(h0, .inr (9, [.int (gI o0 0), .ref (q0 1), .ref (q0 2), .ref (q0 3), .ref (q0 4), .ref (q0 5), .ref (q0 6), .ref (q0 7), .int (gI o0 8), .ref (r0 9), .int (gI o0 10), .ref (r0 11)])), kI G (q0 1) 5 (gA o0 1), kI G (q0 2) 20 (gA o0 2), kI G (q0 3) 5 (gA o0 3), kI G (q0 4) 5 (gA o0 4), kI G (q0 5) 5 (gA o0 5), kI G (q0 6) 5 (gA o0 6), kI G (q0 7) 5 (gA o0 7), kB G (r0 9) (r0 109) (gA o0 9), kI G (r0 11) (r0 111) (upd (gA o0 11) ((x5 + x6).toNatClampNeg) (0 : Int32)), (h1, .inr (5, [.ref (r1 0), .int (gI o1 1), .int (gI o1 2), .ref (q1 3), .ref (q1 4), .ref (q1 5), .ref (q1 6), .ref (q1 7), .ref (q1 8), .ref (q1 9), .ref (q1 10), .int (gI o1 11), .int (gI o1 12)])), kI G (q1 3) 20 (gA o1 3), kI G (q1 4) 20 (gA o1 4), kI G (q1 5) 5 (gA o1 5), kJ G (q1 6) 5 (gB o1 6), kJ G (q1 7) 5 (gB o1 7), kJ G (q1 8) 6 (gB o1 8), kI G (q1 10) 5 (gA o1 10), (h2, .inr (2, [.ref (q2 0), .ref (q2 1), .ref (q2 2)])), kI G (q2 0) 100 (gA o2 0), kI G (q2 1) 100 (gA o2 1), kI G (q2 2) 100 (gA o2 2)] H := hP
          have hD : va_D A [(h0, .inr (9, [.int (gI o0 0), .ref (q0 1), .ref (q0 2), .ref (q0 3), .ref (q0 4), .ref (q0 5), .ref (q0 6), .ref (q0 7), .int (gI o0 8), .ref (r0 9), .int (gI o0 10), .ref (r0 11)])), kI G (q0 1) 5 (gA o0 1), kI G (q0 2) 20 (gA o0 2), kI G (q0 3) 5 (gA o0 3), kI G (q0 4) 5 (gA o0 4), kI G (q0 5) 5 (gA o0 5), kI G (q0 6) 5 (gA o0 6), kI G (q0 7) 5 (gA o0 7), kB G (r0 9) (r0 109) (gA o0 9), kI G (r0 11) (r0 111) (upd (gA o0 11) ((x5 + x6).toNatClampNeg) (0 : Int32)), (h1, .inr (5, [.ref (r1 0), .int (gI o1 1), .int (gI o1 2), .ref (q1 3), .ref (q1 4), .ref (q1 5), .ref (q1 6), .ref (q1 7), .ref (q1 8), .ref (q1 9), .ref (q1 10), .int (gI o1 11), .int (gI o1 12)])), kI G (q1 3) 20 (gA o1 3), kI G (q1 4) 20 (gA o1 4), kI G (q1 5) 5 (gA o1 5), kJ G (q1 6) 5 (gB o1 6), kJ G (q1 7) 5 (gB o1 7), kJ G (q1 8) 6 (gB o1 8), kI G (q1 10) 5 (gA o1 10), (h2, .inr (2, [.ref (q2 0), .ref (q2 1), .ref (q2 2)])), kI G (q2 0) 100 (gA o2 0), kI G (q2 1) 100 (gA o2 1), kI G (q2 2) 100 (gA o2 2)] := hD
          refine lv_iinc (v := (x6 + (1 : Int32))) (lv' := [(6, .int (x6 + (1 : Int32))), (0, .ref h0), (1, .ref h1), (2, .ref h2), (3, .int x3), (4, .int x4), (5, .int x5)]) hx hb d_Sh_weighRow_148 hl (k := 6) rfl rfl (by decide) rfl (fun ls hl => ?_)
          refine lv_goto (tgt := 96) hx hb d_Sh_weighRow_151 (by decide) ?_
          have hl := lv_sub (l' := [(0, .ref h0), (1, .ref h1), (2, .ref h2), (3, .int x3), (4, .int x4), (5, .int x5), (6, .int (x6 + (1 : Int32)))]) hl [1, 2, 3, 4, 5, 6, 0] rfl
          have hP : va_P G.1 CL (cw_Sh G h0 q0 r0 (sA o0 11 (upd (gA o0 11) ((x5 + x6).toNatClampNeg) (0 : Int32))) ++ (cw_Mo G h1 q1 r1 o1 ++ (cw_He G h2 q2 o2))) H := hP
          have hD : va_D A (cw_Sh G h0 q0 r0 (sA o0 11 (upd (gA o0 11) ((x5 + x6).toNatClampNeg) (0 : Int32))) ++ (cw_Mo G h1 q1 r1 o1 ++ (cw_He G h2 q2 o2))) := hD
          exact ih cs sl x3 x4 x5 (x6 + (1 : Int32)) r0 (sA o0 11 (upd (gA o0 11) ((x5 + x6).toNatClampNeg) (0 : Int32))) ls H locs hl hP hD hS h
      · have h := h.1 c5
        refine lv_aload_n hx hb d_Sh_weighRow_114 rfl (lv_at hl 0 rfl) ?_
        refine va_get (D := G.1) (ci := 9) (v := .ref (r0 11)) (C := R_Sh) (T := T_Sh) (N := 12) hx hb hts i_Sh hown hK hP 0 rfl rfl 11 (by decide) (hts _ wf_Sh_37) (fun _ h9 => h9) rfl d_Sh_weighRow_115 ?_
        refine lv_iload hx hb d_Sh_weighRow_118 (lv_at hl 5 rfl) ?_
        refine lv_iload hx hb d_Sh_weighRow_120 (lv_at hl 6 rfl) ?_
        refine lv_iadd hx hb d_Sh_weighRow_122 ?_
        refine lv_ldc hx hb hown (hts _ wc_Sh_90) d_Sh_weighRow_123 ?_
        have g8 := h.1
        have h := h.2
        refine xa_iast hx hb hK hP hD hS 9 0 rfl rfl g8 (k := (x5 + x6).toNatClampNeg) rfl d_Sh_weighRow_125 (fun H locs hP hD hS => ?_)
        have hP : va_P G.1 CL [(h0, .inr (9, [.int (gI o0 0), .ref (q0 1), .ref (q0 2), .ref (q0 3), .ref (q0 4), .ref (q0 5), .ref (q0 6), .ref (q0 7), .int (gI o0 8), .ref (r0 9), .int (gI o0 10), .ref (r0 11)])), kI G (q0 1) 5 (gA o0 1), kI G (q0 2) 20 (gA o0 2), kI G (q0 3) 5 (gA o0 3), kI G (q0 4) 5 (gA o0 4), kI G (q0 5) 5 (gA o0 5), kI G (q0 6) 5 (gA o0 6), kI G (q0 7) 5 (gA o0 7), kB G (r0 9) (r0 109) (gA o0 9), kI G (r0 11) (r0 111) (upd (gA o0 11) ((x5 + x6).toNatClampNeg) (1000000 : Int32)), (h1, .inr (5, [.ref (r1 0), .int (gI o1 1), .int (gI o1 2), .ref (q1 3), .ref (q1 4), .ref (q1 5), .ref (q1 6), .ref (q1 7), .ref (q1 8), .ref (q1 9), .ref (q1 10), .int (gI o1 11), .int (gI o1 12)])), kI G (q1 3) 20 (gA o1 3), kI G (q1 4) 20 (gA o1 4), kI G (q1 5) 5 (gA o1 5), kJ G (q1 6) 5 (gB o1 6), kJ G (q1 7) 5 (gB o1 7), kJ G (q1 8) 6 (gB o1 8), kI G (q1 10) 5 (gA o1 10), (h2, .inr (2, [.ref (q2 0), .ref (q2 1), .ref (q2 2)])), kI G (q2 0) 100 (gA o2 0), kI G (q2 1) 100 (gA o2 1), kI G (q2 2) 100 (gA o2 2)] H := hP
        have hD : va_D A [(h0, .inr (9, [.int (gI o0 0), .ref (q0 1), .ref (q0 2), .ref (q0 3), .ref (q0 4), .ref (q0 5), .ref (q0 6), .ref (q0 7), .int (gI o0 8), .ref (r0 9), .int (gI o0 10), .ref (r0 11)])), kI G (q0 1) 5 (gA o0 1), kI G (q0 2) 20 (gA o0 2), kI G (q0 3) 5 (gA o0 3), kI G (q0 4) 5 (gA o0 4), kI G (q0 5) 5 (gA o0 5), kI G (q0 6) 5 (gA o0 6), kI G (q0 7) 5 (gA o0 7), kB G (r0 9) (r0 109) (gA o0 9), kI G (r0 11) (r0 111) (upd (gA o0 11) ((x5 + x6).toNatClampNeg) (1000000 : Int32)), (h1, .inr (5, [.ref (r1 0), .int (gI o1 1), .int (gI o1 2), .ref (q1 3), .ref (q1 4), .ref (q1 5), .ref (q1 6), .ref (q1 7), .ref (q1 8), .ref (q1 9), .ref (q1 10), .int (gI o1 11), .int (gI o1 12)])), kI G (q1 3) 20 (gA o1 3), kI G (q1 4) 20 (gA o1 4), kI G (q1 5) 5 (gA o1 5), kJ G (q1 6) 5 (gB o1 6), kJ G (q1 7) 5 (gB o1 7), kJ G (q1 8) 6 (gB o1 8), kI G (q1 10) 5 (gA o1 10), (h2, .inr (2, [.ref (q2 0), .ref (q2 1), .ref (q2 2)])), kI G (q2 0) 100 (gA o2 0), kI G (q2 1) 100 (gA o2 1), kI G (q2 2) 100 (gA o2 2)] := hD
        refine lv_goto (tgt := 148) hx hb d_Sh_weighRow_126 (by decide) ?_
        refine lv_iinc (v := (x6 + (1 : Int32))) (lv' := [(6, .int (x6 + (1 : Int32))), (0, .ref h0), (1, .ref h1), (2, .ref h2), (3, .int x3), (4, .int x4), (5, .int x5)]) hx hb d_Sh_weighRow_148 hl (k := 6) rfl rfl (by decide) rfl (fun ls hl => ?_)
        refine lv_goto (tgt := 96) hx hb d_Sh_weighRow_151 (by decide) ?_
        have hl := lv_sub (l' := [(0, .ref h0), (1, .ref h1), (2, .ref h2), (3, .int x3), (4, .int x4), (5, .int x5), (6, .int (x6 + (1 : Int32)))]) hl [1, 2, 3, 4, 5, 6, 0] rfl
        have hP : va_P G.1 CL (cw_Sh G h0 q0 r0 (sA o0 11 (upd (gA o0 11) ((x5 + x6).toNatClampNeg) (1000000 : Int32))) ++ (cw_Mo G h1 q1 r1 o1 ++ (cw_He G h2 q2 o2))) H := hP
        have hD : va_D A (cw_Sh G h0 q0 r0 (sA o0 11 (upd (gA o0 11) ((x5 + x6).toNatClampNeg) (1000000 : Int32))) ++ (cw_Mo G h1 q1 r1 o1 ++ (cw_He G h2 q2 o2))) := hD
        exact ih cs sl x3 x4 x5 (x6 + (1 : Int32)) r0 (sA o0 11 (upd (gA o0 11) ((x5 + x6).toNatClampNeg) (1000000 : Int32))) ls H locs hl hP hD hS h
set_option maxHeartbeats 4000000 in
set_option maxRecDepth 100000 in
theorem t_Sh_weighRow_46 {p : Program} {l : Launch} {e : Env} {s : State} {m : MethodId} {args : Array Value} {below : List Frame} {meth : Method} {c : Code} {A : Nat → Prop} {G : Gl} {h0 : Nat} {h1 : Nat} {h2 : Nat} {q0 : Nat → Nat} {q1 : Nat → Nat} {q2 : Nat → Nat} (r1 : (Nat → Nat)) (o1 : Ob) (o2 : Ob) (k5 : Nat → Nat → Int32 → Int32 → (Nat → Nat) → Ob → Prop) (Q : (Nat → Nat) → Ob → Prop) (C : Cx p s m args meth c R_Sh b_Sh_weighRow 7 none G A)
    (hk5 : ∀ (cs sl : Nat) (x3 : Int32) (x4 : Int32) (r0 : (Nat → Nat)) (o0 : Ob) (ls : Array Slot) (H : Heap) (locs : List Loc), lv_has ls 7 [(0, .ref h0), (1, .ref h1), (2, .ref h2), (3, .int x3), (4, .int x4)] → va_P G.1 CL (cw_Sh G h0 q0 r0 o0 ++ (cw_Mo G h1 q1 r1 o1 ++ (cw_He G h2 q2 o2))) H → va_D A (cw_Sh G h0 q0 r0 o0 ++ (cw_Mo G h1 q1 r1 o1 ++ (cw_He G h2 q2 o2))) → va_S A s.heap H locs → k5 cs sl x3 x4 r0 o0 → W p l e rm_Sh_weighRow s m args below meth c H locs cs sl (MQ below (va_Qv (fun (u : (Nat → Nat) × Ob) => Q u.1 u.2) (fun (u : (Nat → Nat) × Ob) t => BW G A (cw_Sh G h0 q0 u.1 u.2 ++ (cw_Mo G h1 q1 r1 o1 ++ (cw_He G h2 q2 o2))) t) A) args s 2 13312 A) (F0 m 5 ls [])) :
    ∀ (cs sl : Nat) (x3 : Int32) (x4 : Int32) (r0 : (Nat → Nat)) (o0 : Ob) (ls : Array Slot) (H : Heap) (locs : List Loc), lv_has ls 7 [(0, .ref h0), (1, .ref h1), (2, .ref h2), (3, .int x3), (4, .int x4)] → va_P G.1 CL (cw_Sh G h0 q0 r0 o0 ++ (cw_Mo G h1 q1 r1 o1 ++ (cw_He G h2 q2 o2))) H → va_D A (cw_Sh G h0 q0 r0 o0 ++ (cw_Mo G h1 q1 r1 o1 ++ (cw_He G h2 q2 o2))) → va_S A s.heap H locs → f_Sh_weighRow_46 r1 o1 o2 k5 Q cs sl x3 x4 r0 o0 → W p l e rm_Sh_weighRow s m args below meth c H locs cs sl (MQ below (va_Qv (fun (u : (Nat → Nat) × Ob) => Q u.1 u.2) (fun (u : (Nat → Nat) × Ob) t => BW G A (cw_Sh G h0 q0 u.1 u.2 ++ (cw_Mo G h1 q1 r1 o1 ++ (cw_He G h2 q2 o2))) t) A) args s 2 13312 A) (F0 m 46 ls []) := by
  obtain ⟨hx, hb, hml, hown, hr, hts, hK, hA, hlocks, hE⟩ := id C
  intro cs sl x3 x4 r0 o0 ls H locs hl hP hD hS h
  have hP : va_P G.1 CL [(h0, .inr (9, [.int (gI o0 0), .ref (q0 1), .ref (q0 2), .ref (q0 3), .ref (q0 4), .ref (q0 5), .ref (q0 6), .ref (q0 7), .int (gI o0 8), .ref (r0 9), .int (gI o0 10), .ref (r0 11)])), kI G (q0 1) 5 (gA o0 1), kI G (q0 2) 20 (gA o0 2), kI G (q0 3) 5 (gA o0 3), kI G (q0 4) 5 (gA o0 4), kI G (q0 5) 5 (gA o0 5), kI G (q0 6) 5 (gA o0 6), kI G (q0 7) 5 (gA o0 7), kB G (r0 9) (r0 109) (gA o0 9), kI G (r0 11) (r0 111) (gA o0 11), (h1, .inr (5, [.ref (r1 0), .int (gI o1 1), .int (gI o1 2), .ref (q1 3), .ref (q1 4), .ref (q1 5), .ref (q1 6), .ref (q1 7), .ref (q1 8), .ref (q1 9), .ref (q1 10), .int (gI o1 11), .int (gI o1 12)])), kI G (q1 3) 20 (gA o1 3), kI G (q1 4) 20 (gA o1 4), kI G (q1 5) 5 (gA o1 5), kJ G (q1 6) 5 (gB o1 6), kJ G (q1 7) 5 (gB o1 7), kJ G (q1 8) 6 (gB o1 8), kI G (q1 10) 5 (gA o1 10), (h2, .inr (2, [.ref (q2 0), .ref (q2 1), .ref (q2 2)])), kI G (q2 0) 100 (gA o2 0), kI G (q2 1) 100 (gA o2 1), kI G (q2 2) 100 (gA o2 2)] H := hP
  have hD : va_D A [(h0, .inr (9, [.int (gI o0 0), .ref (q0 1), .ref (q0 2), .ref (q0 3), .ref (q0 4), .ref (q0 5), .ref (q0 6), .ref (q0 7), .int (gI o0 8), .ref (r0 9), .int (gI o0 10), .ref (r0 11)])), kI G (q0 1) 5 (gA o0 1), kI G (q0 2) 20 (gA o0 2), kI G (q0 3) 5 (gA o0 3), kI G (q0 4) 5 (gA o0 4), kI G (q0 5) 5 (gA o0 5), kI G (q0 6) 5 (gA o0 6), kI G (q0 7) 5 (gA o0 7), kB G (r0 9) (r0 109) (gA o0 9), kI G (r0 11) (r0 111) (gA o0 11), (h1, .inr (5, [.ref (r1 0), .int (gI o1 1), .int (gI o1 2), .ref (q1 3), .ref (q1 4), .ref (q1 5), .ref (q1 6), .ref (q1 7), .ref (q1 8), .ref (q1 9), .ref (q1 10), .int (gI o1 11), .int (gI o1 12)])), kI G (q1 3) 20 (gA o1 3), kI G (q1 4) 20 (gA o1 4), kI G (q1 5) 5 (gA o1 5), kJ G (q1 6) 5 (gB o1 6), kJ G (q1 7) 5 (gB o1 7), kJ G (q1 8) 6 (gB o1 8), kI G (q1 10) 5 (gA o1 10), (h2, .inr (2, [.ref (q2 0), .ref (q2 1), .ref (q2 2)])), kI G (q2 0) 100 (gA o2 0), kI G (q2 1) 100 (gA o2 1), kI G (q2 2) 100 (gA o2 2)] := hD
  unfold f_Sh_weighRow_46 at h
  refine lv_iload hx hb d_Sh_weighRow_46 (lv_at hl 4 rfl) ?_
  refine lv_aload_n hx hb d_Sh_weighRow_48 rfl (lv_at hl 0 rfl) ?_
  refine va_get (D := G.1) (ci := 9) (v := .int (gI o0 8)) (C := R_Sh) (T := T_Sh) (N := 12) hx hb hts i_Sh hown hK hP 0 rfl rfl 8 (by decide) (hts _ wf_Sh_69) (fun _ h9 => h9) rfl d_Sh_weighRow_49 ?_
  refine lv_imul hx hb d_Sh_weighRow_52 ?_
  refine lv_istore (lv' := [(5, .int (x4 * (gI o0 8))), (0, .ref h0), (1, .ref h1), (2, .ref h2), (3, .int x3), (4, .int x4)]) hx hb d_Sh_weighRow_53 hl (by decide) rfl (fun ls hl => ?_)
  refine lv_iload hx hb d_Sh_weighRow_55 (lv_at hl 5 rfl) ?_
  refine lv_iload_n hx hb d_Sh_weighRow_57 rfl (lv_at hl 4 rfl) ?_
  refine lv_iconst (v := (1 : Int32)) hx hb d_Sh_weighRow_58 (by decide) ?_
  refine lv_isub hx hb d_Sh_weighRow_59 ?_
  refine lv_icmp_ge (tgt := 93) hx hb d_Sh_weighRow_60 (by decide) (fun c9 => ?_) (fun c9 => ?_)
  · have h := h.1 c9
    refine lv_iconst (v := (0 : Int32)) hx hb d_Sh_weighRow_93 (by decide) ?_
    refine lv_istore (lv' := [(6, .int (0 : Int32)), (5, .int (x4 * (gI o0 8))), (0, .ref h0), (1, .ref h1), (2, .ref h2), (3, .int x3), (4, .int x4)]) hx hb d_Sh_weighRow_94 hl (by decide) rfl (fun ls hl => ?_)
    have hl := lv_sub (l' := [(0, .ref h0), (1, .ref h1), (2, .ref h2), (3, .int x3), (4, .int x4), (5, .int (x4 * (gI o0 8))), (6, .int (0 : Int32))]) hl [2, 3, 4, 5, 6, 1, 0] rfl
    have hP : va_P G.1 CL (cw_Sh G h0 q0 r0 o0 ++ (cw_Mo G h1 q1 r1 o1 ++ (cw_He G h2 q2 o2))) H := hP
    have hD : va_D A (cw_Sh G h0 q0 r0 o0 ++ (cw_Mo G h1 q1 r1 o1 ++ (cw_He G h2 q2 o2))) := hD
    obtain ⟨w, h⟩ := h
    exact t_Sh_weighRow_96 r1 o1 o2 k5 Q C hk5 w cs sl x3 x4 (x4 * (gI o0 8)) (0 : Int32) r0 o0 ls _ locs hl hP hD hS h
  · have h := h.2 c9
    refine lv_aload_n hx hb d_Sh_weighRow_63 rfl (lv_at hl 1 rfl) ?_
    refine va_get (D := G.1) (ci := 9) (v := .ref (r0 11)) (C := R_Sh) (T := T_Sh) (N := 12) hx hb hts i_Sh hown hK hP 0 rfl rfl 11 (by decide) (hts _ wf_Sh_37) (fun _ h9 => h9) rfl d_Sh_weighRow_64 ?_
    refine lv_iload hx hb d_Sh_weighRow_67 (lv_at hl 0 rfl) ?_
    refine lv_aload_n hx hb d_Sh_weighRow_69 rfl (lv_at hl 1 rfl) ?_
    refine va_get (D := G.1) (ci := 9) (v := .int (gI o0 8)) (C := R_Sh) (T := T_Sh) (N := 12) hx hb hts i_Sh hown hK hP 0 rfl rfl 8 (by decide) (hts _ wf_Sh_69) (fun _ h9 => h9) rfl d_Sh_weighRow_70 ?_
    refine lv_iadd hx hb d_Sh_weighRow_73 ?_
    refine lv_aload_n hx hb d_Sh_weighRow_74 rfl (lv_at hl 1 rfl) ?_
    refine va_get (D := G.1) (ci := 9) (v := .ref (r0 11)) (C := R_Sh) (T := T_Sh) (N := 12) hx hb hts i_Sh hown hK hP 0 rfl rfl 11 (by decide) (hts _ wf_Sh_37) (fun _ h9 => h9) rfl d_Sh_weighRow_75 ?_
    refine lv_iload hx hb d_Sh_weighRow_78 (lv_at hl 0 rfl) ?_
    refine lv_aload_n hx hb d_Sh_weighRow_80 rfl (lv_at hl 1 rfl) ?_
    refine va_get (D := G.1) (ci := 9) (v := .int (gI o0 8)) (C := R_Sh) (T := T_Sh) (N := 12) hx hb hts i_Sh hown hK hP 0 rfl rfl 8 (by decide) (hts _ wf_Sh_69) (fun _ h9 => h9) rfl d_Sh_weighRow_81 ?_
    have g10 := h.1
    have h := h.2
    have g11 := h.1
    have h := h.2
    have g12 := h.1
    have h := h.2
    have g13 := h.1
    have h := h.2
    have g14 := h.1
    have h := h.2
    refine va_copyi hx hb (hml.trans hl.1.symm) hown (hts _ wm_Sh_104) (hts _ wac_n) (hts _ wac_s) (hts _ wac_i) hK hP hD hS 9 9 0 0 rfl rfl rfl rfl rfl g10 g11 g12 g13 g14 (fun _ _ => rfl) (Nat.le_of_ble_eq_true rfl) (Nat.le_of_ble_eq_true rfl) d_Sh_weighRow_84 (fun H locs hP hD hS => ?_)
    have hP : va_P G.1 CL [(h0, .inr (9, [.int (gI o0 0), .ref (q0 1), .ref (q0 2), .ref (q0 3), .ref (q0 4), .ref (q0 5), .ref (q0 6), .ref (q0 7), .int (gI o0 8), .ref (r0 9), .int (gI o0 10), .ref (r0 11)])), kI G (q0 1) 5 (gA o0 1), kI G (q0 2) 20 (gA o0 2), kI G (q0 3) 5 (gA o0 3), kI G (q0 4) 5 (gA o0 4), kI G (q0 5) 5 (gA o0 5), kI G (q0 6) 5 (gA o0 6), kI G (q0 7) 5 (gA o0 7), kB G (r0 9) (r0 109) (gA o0 9), kI G (r0 11) (r0 111) (va_cpy (gA o0 11) (gA o0 11) ((x4 * (gI o0 8)) + (gI o0 8)).toNatClampNeg (x4 * (gI o0 8)).toNatClampNeg (gI o0 8).toNatClampNeg), (h1, .inr (5, [.ref (r1 0), .int (gI o1 1), .int (gI o1 2), .ref (q1 3), .ref (q1 4), .ref (q1 5), .ref (q1 6), .ref (q1 7), .ref (q1 8), .ref (q1 9), .ref (q1 10), .int (gI o1 11), .int (gI o1 12)])), kI G (q1 3) 20 (gA o1 3), kI G (q1 4) 20 (gA o1 4), kI G (q1 5) 5 (gA o1 5), kJ G (q1 6) 5 (gB o1 6), kJ G (q1 7) 5 (gB o1 7), kJ G (q1 8) 6 (gB o1 8), kI G (q1 10) 5 (gA o1 10), (h2, .inr (2, [.ref (q2 0), .ref (q2 1), .ref (q2 2)])), kI G (q2 0) 100 (gA o2 0), kI G (q2 1) 100 (gA o2 1), kI G (q2 2) 100 (gA o2 2)] H := hP
    have hD : va_D A [(h0, .inr (9, [.int (gI o0 0), .ref (q0 1), .ref (q0 2), .ref (q0 3), .ref (q0 4), .ref (q0 5), .ref (q0 6), .ref (q0 7), .int (gI o0 8), .ref (r0 9), .int (gI o0 10), .ref (r0 11)])), kI G (q0 1) 5 (gA o0 1), kI G (q0 2) 20 (gA o0 2), kI G (q0 3) 5 (gA o0 3), kI G (q0 4) 5 (gA o0 4), kI G (q0 5) 5 (gA o0 5), kI G (q0 6) 5 (gA o0 6), kI G (q0 7) 5 (gA o0 7), kB G (r0 9) (r0 109) (gA o0 9), kI G (r0 11) (r0 111) (va_cpy (gA o0 11) (gA o0 11) ((x4 * (gI o0 8)) + (gI o0 8)).toNatClampNeg (x4 * (gI o0 8)).toNatClampNeg (gI o0 8).toNatClampNeg), (h1, .inr (5, [.ref (r1 0), .int (gI o1 1), .int (gI o1 2), .ref (q1 3), .ref (q1 4), .ref (q1 5), .ref (q1 6), .ref (q1 7), .ref (q1 8), .ref (q1 9), .ref (q1 10), .int (gI o1 11), .int (gI o1 12)])), kI G (q1 3) 20 (gA o1 3), kI G (q1 4) 20 (gA o1 4), kI G (q1 5) 5 (gA o1 5), kJ G (q1 6) 5 (gB o1 6), kJ G (q1 7) 5 (gB o1 7), kJ G (q1 8) 6 (gB o1 8), kI G (q1 10) 5 (gA o1 10), (h2, .inr (2, [.ref (q2 0), .ref (q2 1), .ref (q2 2)])), kI G (q2 0) 100 (gA o2 0), kI G (q2 1) 100 (gA o2 1), kI G (q2 2) 100 (gA o2 2)] := hD
    refine lv_aload_n hx hb d_Sh_weighRow_87 rfl (lv_at hl 1 rfl) ?_
    refine lv_iload hx hb d_Sh_weighRow_88 (lv_at hl 0 rfl) ?_
    have g15 := h.1
    have h := h.2
    have g16 := h.1
    have h := h.2
    refine cl_Vv (b := b_Sh_weighRow) (As := [.int (x4 * (gI o0 8))]) (rest := []) (ws := [(h0, .inr (9, [.int (gI o0 0), .ref (q0 1), .ref (q0 2), .ref (q0 3), .ref (q0 4), .ref (q0 5), .ref (q0 6), .ref (q0 7), .int (gI o0 8), .ref (r0 9), .int (gI o0 10), .ref (r0 11)])), kI G (q0 1) 5 (gA o0 1), kI G (q0 2) 20 (gA o0 2), kI G (q0 3) 5 (gA o0 3), kI G (q0 4) 5 (gA o0 4), kI G (q0 5) 5 (gA o0 5), kI G (q0 6) 5 (gA o0 6), kI G (q0 7) 5 (gA o0 7), kB G (r0 9) (r0 109) (gA o0 9), kI G (r0 11) (r0 111) (va_cpy (gA o0 11) (gA o0 11) ((x4 * (gI o0 8)) + (gI o0 8)).toNatClampNeg (x4 * (gI o0 8)).toNatClampNeg (gI o0 8).toNatClampNeg), (h1, .inr (5, [.ref (r1 0), .int (gI o1 1), .int (gI o1 2), .ref (q1 3), .ref (q1 4), .ref (q1 5), .ref (q1 6), .ref (q1 7), .ref (q1 8), .ref (q1 9), .ref (q1 10), .int (gI o1 11), .int (gI o1 12)])), kI G (q1 3) 20 (gA o1 3), kI G (q1 4) 20 (gA o1 4), kI G (q1 5) 5 (gA o1 5), kJ G (q1 6) 5 (gB o1 6), kJ G (q1 7) 5 (gB o1 7), kJ G (q1 8) 6 (gB o1 8), kI G (q1 10) 5 (gA o1 10), (h2, .inr (2, [.ref (q2 0), .ref (q2 1), .ref (q2 2)])), kI G (q2 0) 100 (gA o2 0), kI G (q2 1) 100 (gA o2 1), kI G (q2 2) 100 (gA o2 2)]) (wr := [(h1, .inr (5, [.ref (r1 0), .int (gI o1 1), .int (gI o1 2), .ref (q1 3), .ref (q1 4), .ref (q1 5), .ref (q1 6), .ref (q1 7), .ref (q1 8), .ref (q1 9), .ref (q1 10), .int (gI o1 11), .int (gI o1 12)])), kI G (q1 3) 20 (gA o1 3), kI G (q1 4) 20 (gA o1 4), kI G (q1 5) 5 (gA o1 5), kJ G (q1 6) 5 (gB o1 6), kJ G (q1 7) 5 (gB o1 7), kJ G (q1 8) 6 (gB o1 8), kI G (q1 10) 5 (gA o1 10), (h2, .inr (2, [.ref (q2 0), .ref (q2 1), .ref (q2 2)])), kI G (q2 0) 100 (gA o2 0), kI G (q2 1) 100 (gA o2 1), kI G (q2 2) 100 (gA o2 2)]) (w2 := fun (u : Ob) => [(h0, .inr (9, [.int (gI u 0), .ref (q0 1), .ref (q0 2), .ref (q0 3), .ref (q0 4), .ref (q0 5), .ref (q0 6), .ref (q0 7), .int (gI u 8), .ref (r0 9), .int (gI u 10), .ref (r0 11)])), kI G (q0 1) 5 (gA u 1), kI G (q0 2) 20 (gA u 2), kI G (q0 3) 5 (gA u 3), kI G (q0 4) 5 (gA u 4), kI G (q0 5) 5 (gA u 5), kI G (q0 6) 5 (gA u 6), kI G (q0 7) 5 (gA u 7), kB G (r0 9) (r0 109) (gA u 9), kI G (r0 11) (r0 111) (gA u 11), (h1, .inr (5, [.ref (r1 0), .int (gI o1 1), .int (gI o1 2), .ref (q1 3), .ref (q1 4), .ref (q1 5), .ref (q1 6), .ref (q1 7), .ref (q1 8), .ref (q1 9), .ref (q1 10), .int (gI o1 11), .int (gI o1 12)])), kI G (q1 3) 20 (gA o1 3), kI G (q1 4) 20 (gA o1 4), kI G (q1 5) 5 (gA o1 5), kJ G (q1 6) 5 (gB o1 6), kJ G (q1 7) 5 (gB o1 7), kJ G (q1 8) 6 (gB o1 8), kI G (q1 10) 5 (gA o1 10), (h2, .inr (2, [.ref (q2 0), .ref (q2 1), .ref (q2 2)])), kI G (q2 0) 100 (gA o2 0), kI G (q2 1) 100 (gA o2 1), kI G (q2 2) 100 (gA o2 2)]) C (c_Sh_spread (h0 := h0) (q0 := q0) H.size h) wv_Sh_110 ⟨Nat.le_of_ble_eq_true rfl, Nat.le_of_ble_eq_true rfl⟩ hP hD hS 0 rfl rfl [0, 1, 2, 3, 4, 5, 6, 7, 8, 9] [10, 11, 12, 13, 14, 15, 16, 17, 18, 19, 20, 21] rfl rfl (by decide) (by decide) (by decide) [12, 13, 14, 15, 16, 17, 18, 19, 20, 21, 0, 1, 2, 3, 4, 5, 6, 7, 8, 9, 10, 11] (by decide) (fun u => rfl) rfl hl.1 rfl (lv_room (Nat.le_of_ble_eq_true rfl)) d_Sh_weighRow_90 ⟨g15, g16⟩ rfl rfl (fun u H locs h hP hD hS => ?_)
    generalize u = u17 at h hP hD
    have hP : va_P G.1 CL [(h0, .inr (9, [.int (gI u17 0), .ref (q0 1), .ref (q0 2), .ref (q0 3), .ref (q0 4), .ref (q0 5), .ref (q0 6), .ref (q0 7), .int (gI u17 8), .ref (r0 9), .int (gI u17 10), .ref (r0 11)])), kI G (q0 1) 5 (gA u17 1), kI G (q0 2) 20 (gA u17 2), kI G (q0 3) 5 (gA u17 3), kI G (q0 4) 5 (gA u17 4), kI G (q0 5) 5 (gA u17 5), kI G (q0 6) 5 (gA u17 6), kI G (q0 7) 5 (gA u17 7), kB G (r0 9) (r0 109) (gA u17 9), kI G (r0 11) (r0 111) (gA u17 11), (h1, .inr (5, [.ref (r1 0), .int (gI o1 1), .int (gI o1 2), .ref (q1 3), .ref (q1 4), .ref (q1 5), .ref (q1 6), .ref (q1 7), .ref (q1 8), .ref (q1 9), .ref (q1 10), .int (gI o1 11), .int (gI o1 12)])), kI G (q1 3) 20 (gA o1 3), kI G (q1 4) 20 (gA o1 4), kI G (q1 5) 5 (gA o1 5), kJ G (q1 6) 5 (gB o1 6), kJ G (q1 7) 5 (gB o1 7), kJ G (q1 8) 6 (gB o1 8), kI G (q1 10) 5 (gA o1 10), (h2, .inr (2, [.ref (q2 0), .ref (q2 1), .ref (q2 2)])), kI G (q2 0) 100 (gA o2 0), kI G (q2 1) 100 (gA o2 1), kI G (q2 2) 100 (gA o2 2)] H := hP
    have hD : va_D A [(h0, .inr (9, [.int (gI u17 0), .ref (q0 1), .ref (q0 2), .ref (q0 3), .ref (q0 4), .ref (q0 5), .ref (q0 6), .ref (q0 7), .int (gI u17 8), .ref (r0 9), .int (gI u17 10), .ref (r0 11)])), kI G (q0 1) 5 (gA u17 1), kI G (q0 2) 20 (gA u17 2), kI G (q0 3) 5 (gA u17 3), kI G (q0 4) 5 (gA u17 4), kI G (q0 5) 5 (gA u17 5), kI G (q0 6) 5 (gA u17 6), kI G (q0 7) 5 (gA u17 7), kB G (r0 9) (r0 109) (gA u17 9), kI G (r0 11) (r0 111) (gA u17 11), (h1, .inr (5, [.ref (r1 0), .int (gI o1 1), .int (gI o1 2), .ref (q1 3), .ref (q1 4), .ref (q1 5), .ref (q1 6), .ref (q1 7), .ref (q1 8), .ref (q1 9), .ref (q1 10), .int (gI o1 11), .int (gI o1 12)])), kI G (q1 3) 20 (gA o1 3), kI G (q1 4) 20 (gA o1 4), kI G (q1 5) 5 (gA o1 5), kJ G (q1 6) 5 (gB o1 6), kJ G (q1 7) 5 (gB o1 7), kJ G (q1 8) 6 (gB o1 8), kI G (q1 10) 5 (gA o1 10), (h2, .inr (2, [.ref (q2 0), .ref (q2 1), .ref (q2 2)])), kI G (q2 0) 100 (gA o2 0), kI G (q2 1) 100 (gA o2 1), kI G (q2 2) 100 (gA o2 2)] := hD
    refine lv_iconst (v := (0 : Int32)) hx hb d_Sh_weighRow_93 (by decide) ?_
    refine lv_istore (lv' := [(6, .int (0 : Int32)), (5, .int (x4 * (gI o0 8))), (0, .ref h0), (1, .ref h1), (2, .ref h2), (3, .int x3), (4, .int x4)]) hx hb d_Sh_weighRow_94 hl (by decide) rfl (fun ls hl => ?_)
    have hl := lv_sub (l' := [(0, .ref h0), (1, .ref h1), (2, .ref h2), (3, .int x3), (4, .int x4), (5, .int (x4 * (gI o0 8))), (6, .int (0 : Int32))]) hl [2, 3, 4, 5, 6, 1, 0] rfl
    have hP : va_P G.1 CL (cw_Sh G h0 q0 r0 u17 ++ (cw_Mo G h1 q1 r1 o1 ++ (cw_He G h2 q2 o2))) H := hP
    have hD : va_D A (cw_Sh G h0 q0 r0 u17 ++ (cw_Mo G h1 q1 r1 o1 ++ (cw_He G h2 q2 o2))) := hD
    obtain ⟨w, h⟩ := h
    exact t_Sh_weighRow_96 r1 o1 o2 k5 Q C hk5 w cs sl x3 x4 (x4 * (gI o0 8)) (0 : Int32) r0 u17 ls _ locs hl hP hD hS h
set_option maxHeartbeats 4000000 in
set_option maxRecDepth 100000 in
theorem t_Sh_weighRow_5 {p : Program} {l : Launch} {e : Env} {s : State} {m : MethodId} {args : Array Value} {below : List Frame} {meth : Method} {c : Code} {A : Nat → Prop} {G : Gl} {h0 : Nat} {h1 : Nat} {h2 : Nat} {q0 : Nat → Nat} {q1 : Nat → Nat} {q2 : Nat → Nat} (r1 : (Nat → Nat)) (o1 : Ob) (o2 : Ob) (Q : (Nat → Nat) → Ob → Prop) (C : Cx p s m args meth c R_Sh b_Sh_weighRow 7 none G A) :
    ∀ (n : Nat) (cs sl : Nat) (x3 : Int32) (x4 : Int32) (r0 : (Nat → Nat)) (o0 : Ob) (ls : Array Slot) (H : Heap) (locs : List Loc), lv_has ls 7 [(0, .ref h0), (1, .ref h1), (2, .ref h2), (3, .int x3), (4, .int x4)] → va_P G.1 CL (cw_Sh G h0 q0 r0 o0 ++ (cw_Mo G h1 q1 r1 o1 ++ (cw_He G h2 q2 o2))) H → va_D A (cw_Sh G h0 q0 r0 o0 ++ (cw_Mo G h1 q1 r1 o1 ++ (cw_He G h2 q2 o2))) → va_S A s.heap H locs → f_Sh_weighRow_5 r1 o1 o2 Q n cs sl x3 x4 r0 o0 → W p l e rm_Sh_weighRow s m args below meth c H locs cs sl (MQ below (va_Qv (fun (u : (Nat → Nat) × Ob) => Q u.1 u.2) (fun (u : (Nat → Nat) × Ob) t => BW G A (cw_Sh G h0 q0 u.1 u.2 ++ (cw_Mo G h1 q1 r1 o1 ++ (cw_He G h2 q2 o2))) t) A) args s 2 13312 A) (F0 m 5 ls []) := by
  obtain ⟨hx, hb, hml, hown, hr, hts, hK, hA, hlocks, hE⟩ := id C
  intro n
  induction n with
  | zero => intro cs sl x3 x4 r0 o0 ls H locs hl hP hD hS h; exact absurd h id
  | succ n ih =>
    intro cs sl x3 x4 r0 o0 ls H locs hl hP hD hS h
    have hP : va_P G.1 CL [(h0, .inr (9, [.int (gI o0 0), .ref (q0 1), .ref (q0 2), .ref (q0 3), .ref (q0 4), .ref (q0 5), .ref (q0 6), .ref (q0 7), .int (gI o0 8), .ref (r0 9), .int (gI o0 10), .ref (r0 11)])), kI G (q0 1) 5 (gA o0 1), kI G (q0 2) 20 (gA o0 2), kI G (q0 3) 5 (gA o0 3), kI G (q0 4) 5 (gA o0 4), kI G (q0 5) 5 (gA o0 5), kI G (q0 6) 5 (gA o0 6), kI G (q0 7) 5 (gA o0 7), kB G (r0 9) (r0 109) (gA o0 9), kI G (r0 11) (r0 111) (gA o0 11), (h1, .inr (5, [.ref (r1 0), .int (gI o1 1), .int (gI o1 2), .ref (q1 3), .ref (q1 4), .ref (q1 5), .ref (q1 6), .ref (q1 7), .ref (q1 8), .ref (q1 9), .ref (q1 10), .int (gI o1 11), .int (gI o1 12)])), kI G (q1 3) 20 (gA o1 3), kI G (q1 4) 20 (gA o1 4), kI G (q1 5) 5 (gA o1 5), kJ G (q1 6) 5 (gB o1 6), kJ G (q1 7) 5 (gB o1 7), kJ G (q1 8) 6 (gB o1 8), kI G (q1 10) 5 (gA o1 10), (h2, .inr (2, [.ref (q2 0), .ref (q2 1), .ref (q2 2)])), kI G (q2 0) 100 (gA o2 0), kI G (q2 1) 100 (gA o2 1), kI G (q2 2) 100 (gA o2 2)] H := hP
    have hD : va_D A [(h0, .inr (9, [.int (gI o0 0), .ref (q0 1), .ref (q0 2), .ref (q0 3), .ref (q0 4), .ref (q0 5), .ref (q0 6), .ref (q0 7), .int (gI o0 8), .ref (r0 9), .int (gI o0 10), .ref (r0 11)])), kI G (q0 1) 5 (gA o0 1), kI G (q0 2) 20 (gA o0 2), kI G (q0 3) 5 (gA o0 3), kI G (q0 4) 5 (gA o0 4), kI G (q0 5) 5 (gA o0 5), kI G (q0 6) 5 (gA o0 6), kI G (q0 7) 5 (gA o0 7), kB G (r0 9) (r0 109) (gA o0 9), kI G (r0 11) (r0 111) (gA o0 11), (h1, .inr (5, [.ref (r1 0), .int (gI o1 1), .int (gI o1 2), .ref (q1 3), .ref (q1 4), .ref (q1 5), .ref (q1 6), .ref (q1 7), .ref (q1 8), .ref (q1 9), .ref (q1 10), .int (gI o1 11), .int (gI o1 12)])), kI G (q1 3) 20 (gA o1 3), kI G (q1 4) 20 (gA o1 4), kI G (q1 5) 5 (gA o1 5), kJ G (q1 6) 5 (gB o1 6), kJ G (q1 7) 5 (gB o1 7), kJ G (q1 8) 6 (gB o1 8), kI G (q1 10) 5 (gA o1 10), (h2, .inr (2, [.ref (q2 0), .ref (q2 1), .ref (q2 2)])), kI G (q2 0) 100 (gA o2 0), kI G (q2 1) 100 (gA o2 1), kI G (q2 2) 100 (gA o2 2)] := hD
    unfold f_Sh_weighRow_5 at h
    refine lv_iload hx hb d_Sh_weighRow_5 (lv_at hl 4 rfl) ?_
    refine lv_if_lt (tgt := 160) hx hb d_Sh_weighRow_7 (by decide) (fun c18 => ?_) (fun c18 => ?_)
    · have h := h.1 c18
      have g19 := h.1
      have h := h.2
      have g20 := h.1
      have h := h.2
      refine W.widen (k := 2) (n := 13312) g19 g20 ?_
      have hP : va_P G.1 CL (cw_Sh G h0 q0 r0 o0 ++ (cw_Mo G h1 q1 r1 o1 ++ (cw_He G h2 q2 o2))) H := hP
      have hD : va_D A (cw_Sh G h0 q0 r0 o0 ++ (cw_Mo G h1 q1 r1 o1 ++ (cw_He G h2 q2 o2))) := hD
      exact W.vret hx hb hr (fun t ht hW => ⟨⟨(r0, o0), rfl, h, by rw [ht]; exact hP, va_K.moved hW.alike hK, hD⟩, hS.F ht⟩) hS.2.2 d_Sh_weighRow_160
    · have h := h.2 c18
      refine lv_aload_n hx hb d_Sh_weighRow_10 rfl (lv_at hl 0 rfl) ?_
      refine lv_aload_n hx hb d_Sh_weighRow_11 rfl (lv_at hl 1 rfl) ?_
      refine lv_aload_n hx hb d_Sh_weighRow_12 rfl (lv_at hl 2 rfl) ?_
      refine lv_iload hx hb d_Sh_weighRow_13 (lv_at hl 4 rfl) ?_
      rcases h with h | h
      · skip
        have g21 := h.1
        have h := h.2
        have g22 := h.1
        have h := h.2
        refine cl_Vv (b := b_Sh_weighRow) (As := [.ref h1, .ref h2, .int x4]) (rest := []) (ws := [(h0, .inr (9, [.int (gI o0 0), .ref (q0 1), .ref (q0 2), .ref (q0 3), .ref (q0 4), .ref (q0 5), .ref (q0 6), .ref (q0 7), .int (gI o0 8), .ref (r0 9), .int (gI o0 10), .ref (r0 11)])), kI G (q0 1) 5 (gA o0 1), kI G (q0 2) 20 (gA o0 2), kI G (q0 3) 5 (gA o0 3), kI G (q0 4) 5 (gA o0 4), kI G (q0 5) 5 (gA o0 5), kI G (q0 6) 5 (gA o0 6), kI G (q0 7) 5 (gA o0 7), kB G (r0 9) (r0 109) (gA o0 9), kI G (r0 11) (r0 111) (gA o0 11), (h1, .inr (5, [.ref (r1 0), .int (gI o1 1), .int (gI o1 2), .ref (q1 3), .ref (q1 4), .ref (q1 5), .ref (q1 6), .ref (q1 7), .ref (q1 8), .ref (q1 9), .ref (q1 10), .int (gI o1 11), .int (gI o1 12)])), kI G (q1 3) 20 (gA o1 3), kI G (q1 4) 20 (gA o1 4), kI G (q1 5) 5 (gA o1 5), kJ G (q1 6) 5 (gB o1 6), kJ G (q1 7) 5 (gB o1 7), kJ G (q1 8) 6 (gB o1 8), kI G (q1 10) 5 (gA o1 10), (h2, .inr (2, [.ref (q2 0), .ref (q2 1), .ref (q2 2)])), kI G (q2 0) 100 (gA o2 0), kI G (q2 1) 100 (gA o2 1), kI G (q2 2) 100 (gA o2 2)]) (wr := []) (w2 := fun (u : (Nat → Nat) × Ob) => [(h0, .inr (9, [.int (gI u.2 0), .ref (q0 1), .ref (q0 2), .ref (q0 3), .ref (q0 4), .ref (q0 5), .ref (q0 6), .ref (q0 7), .int (gI u.2 8), .ref (u.1 9), .int (gI u.2 10), .ref (u.1 11)])), kI G (q0 1) 5 (gA u.2 1), kI G (q0 2) 20 (gA u.2 2), kI G (q0 3) 5 (gA u.2 3), kI G (q0 4) 5 (gA u.2 4), kI G (q0 5) 5 (gA u.2 5), kI G (q0 6) 5 (gA u.2 6), kI G (q0 7) 5 (gA u.2 7), kB G (u.1 9) (u.1 109) (gA u.2 9), kI G (u.1 11) (u.1 111) (gA u.2 11), (h1, .inr (5, [.ref (r1 0), .int (gI o1 1), .int (gI o1 2), .ref (q1 3), .ref (q1 4), .ref (q1 5), .ref (q1 6), .ref (q1 7), .ref (q1 8), .ref (q1 9), .ref (q1 10), .int (gI o1 11), .int (gI o1 12)])), kI G (q1 3) 20 (gA o1 3), kI G (q1 4) 20 (gA o1 4), kI G (q1 5) 5 (gA o1 5), kJ G (q1 6) 5 (gB o1 6), kJ G (q1 7) 5 (gB o1 7), kJ G (q1 8) 6 (gB o1 8), kI G (q1 10) 5 (gA o1 10), (h2, .inr (2, [.ref (q2 0), .ref (q2 1), .ref (q2 2)])), kI G (q2 0) 100 (gA o2 0), kI G (q2 1) 100 (gA o2 1), kI G (q2 2) 100 (gA o2 2)]) C (c_Sh_ask (h0 := h0) (q0 := q0) (h1 := h1) (q1 := q1) (h2 := h2) (q2 := q2) H.size h) wv_Sh_100 ⟨Nat.le_of_ble_eq_true rfl, Nat.le_of_ble_eq_true rfl⟩ hP hD hS 0 rfl rfl [0, 1, 2, 3, 4, 5, 6, 7, 8, 9, 10, 11, 12, 13, 14, 15, 16, 17, 18, 19, 20, 21] [] rfl rfl (by decide) (by decide) (by decide) [0, 1, 2, 3, 4, 5, 6, 7, 8, 9, 10, 11, 12, 13, 14, 15, 16, 17, 18, 19, 20, 21] (by decide) (fun u => rfl) rfl hl.1 rfl (lv_room (Nat.le_of_ble_eq_true rfl)) d_Sh_weighRow_15 ⟨g21, g22⟩ rfl rfl (fun u H locs h hP hD hS => ?_)
        obtain ⟨u23, u24⟩ := u
        have hP : va_P G.1 CL [(h0, .inr (9, [.int (gI u24 0), .ref (q0 1), .ref (q0 2), .ref (q0 3), .ref (q0 4), .ref (q0 5), .ref (q0 6), .ref (q0 7), .int (gI u24 8), .ref (u23 9), .int (gI u24 10), .ref (u23 11)])), kI G (q0 1) 5 (gA u24 1), kI G (q0 2) 20 (gA u24 2), kI G (q0 3) 5 (gA u24 3), kI G (q0 4) 5 (gA u24 4), kI G (q0 5) 5 (gA u24 5), kI G (q0 6) 5 (gA u24 6), kI G (q0 7) 5 (gA u24 7), kB G (u23 9) (u23 109) (gA u24 9), kI G (u23 11) (u23 111) (gA u24 11), (h1, .inr (5, [.ref (r1 0), .int (gI o1 1), .int (gI o1 2), .ref (q1 3), .ref (q1 4), .ref (q1 5), .ref (q1 6), .ref (q1 7), .ref (q1 8), .ref (q1 9), .ref (q1 10), .int (gI o1 11), .int (gI o1 12)])), kI G (q1 3) 20 (gA o1 3), kI G (q1 4) 20 (gA o1 4), kI G (q1 5) 5 (gA o1 5), kJ G (q1 6) 5 (gB o1 6), kJ G (q1 7) 5 (gB o1 7), kJ G (q1 8) 6 (gB o1 8), kI G (q1 10) 5 (gA o1 10), (h2, .inr (2, [.ref (q2 0), .ref (q2 1), .ref (q2 2)])), kI G (q2 0) 100 (gA o2 0), kI G (q2 1) 100 (gA o2 1), kI G (q2 2) 100 (gA o2 2)] H := hP
        have hD : va_D A [(h0, .inr (9, [.int (gI u24 0), .ref (q0 1), .ref (q0 2), .ref (q0 3), .ref (q0 4), .ref (q0 5), .ref (q0 6), .ref (q0 7), .int (gI u24 8), .ref (u23 9), .int (gI u24 10), .ref (u23 11)])), kI G (q0 1) 5 (gA u24 1), kI G (q0 2) 20 (gA u24 2), kI G (q0 3) 5 (gA u24 3), kI G (q0 4) 5 (gA u24 4), kI G (q0 5) 5 (gA u24 5), kI G (q0 6) 5 (gA u24 6), kI G (q0 7) 5 (gA u24 7), kB G (u23 9) (u23 109) (gA u24 9), kI G (u23 11) (u23 111) (gA u24 11), (h1, .inr (5, [.ref (r1 0), .int (gI o1 1), .int (gI o1 2), .ref (q1 3), .ref (q1 4), .ref (q1 5), .ref (q1 6), .ref (q1 7), .ref (q1 8), .ref (q1 9), .ref (q1 10), .int (gI o1 11), .int (gI o1 12)])), kI G (q1 3) 20 (gA o1 3), kI G (q1 4) 20 (gA o1 4), kI G (q1 5) 5 (gA o1 5), kJ G (q1 6) 5 (gB o1 6), kJ G (q1 7) 5 (gB o1 7), kJ G (q1 8) 6 (gB o1 8), kI G (q1 10) 5 (gA o1 10), (h2, .inr (2, [.ref (q2 0), .ref (q2 1), .ref (q2 2)])), kI G (q2 0) 100 (gA o2 0), kI G (q2 1) 100 (gA o2 1), kI G (q2 2) 100 (gA o2 2)] := hD
        refine lv_aload_n hx hb d_Sh_weighRow_18 rfl (lv_at hl 0 rfl) ?_
        refine va_get (D := G.1) (ci := 9) (v := .ref (u23 11)) (C := R_Sh) (T := T_Sh) (N := 12) hx hb hts i_Sh hown hK hP 0 rfl rfl 11 (by decide) (hts _ wf_Sh_37) (fun _ h9 => h9) rfl d_Sh_weighRow_19 ?_
        refine va_alen hx hb hK hP 9 0 rfl rfl (v := (nI (u23 111))) rfl d_Sh_weighRow_22 ?_
        refine lv_aload_n hx hb d_Sh_weighRow_23 rfl (lv_at hl 0 rfl) ?_
        refine va_get (D := G.1) (ci := 9) (v := .int (gI u24 8)) (C := R_Sh) (T := T_Sh) (N := 12) hx hb hts i_Sh hown hK hP 0 rfl rfl 8 (by decide) (hts _ wf_Sh_69) (fun _ h9 => h9) rfl d_Sh_weighRow_24 ?_
        refine lv_bipush (v := (8 : Int32)) hx hb d_Sh_weighRow_27 (by decide) ?_
        refine lv_imul hx hb d_Sh_weighRow_29 ?_
        refine lv_icmp_ge (tgt := 46) hx hb d_Sh_weighRow_30 (by decide) (fun c25 => ?_) (fun c25 => ?_)
        · have h := h.1 c25
          have hl := lv_sub (l' := [(0, .ref h0), (1, .ref h1), (2, .ref h2), (3, .int x3), (4, .int x4)]) hl [0, 1, 2, 3, 4] rfl
          have hP : va_P G.1 CL (cw_Sh G h0 q0 u23 u24 ++ (cw_Mo G h1 q1 r1 o1 ++ (cw_He G h2 q2 o2))) H := hP
          have hD : va_D A (cw_Sh G h0 q0 u23 u24 ++ (cw_Mo G h1 q1 r1 o1 ++ (cw_He G h2 q2 o2))) := hD
          exact t_Sh_weighRow_46 r1 o1 o2 (f_Sh_weighRow_5 r1 o1 o2 Q n) Q C ih (cs + 1) (sl + 5120) x3 x4 u23 u24 ls _ locs hl hP hD hS h
        · have h := h.2 c25
          refine lv_aload_n hx hb d_Sh_weighRow_33 rfl (lv_at hl 0 rfl) ?_
          refine lv_aload_n hx hb d_Sh_weighRow_34 rfl (lv_at hl 0 rfl) ?_
          refine va_get (D := G.1) (ci := 9) (v := .int (gI u24 8)) (C := R_Sh) (T := T_Sh) (N := 12) hx hb hts i_Sh hown hK hP 0 rfl rfl 8 (by decide) (hts _ wf_Sh_69) (fun _ h9 => h9) rfl d_Sh_weighRow_35 ?_
          refine lv_bipush (v := (8 : Int32)) hx hb d_Sh_weighRow_38 (by decide) ?_
          refine lv_imul hx hb d_Sh_weighRow_40 ?_
          have g26 := h.1
          have h := h.2
          have g27 := h.1
          have h := h.2
          have g28 := h.1
          have h := h.2
          refine xa_newAI C (hts _ wa_int) hP hD hS g26 rfl (Nat.le_trans (Nat.le_trans (Nat.le_add_left _ _) g28) (Nat.le_of_ble_eq_true rfl)) g27 g28 d_Sh_weighRow_41 (fun q29 H hP hD hS => ?_)
          have h := h q29
          have hP : va_P G.1 CL [(h0, .inr (9, [.int (gI u24 0), .ref (q0 1), .ref (q0 2), .ref (q0 3), .ref (q0 4), .ref (q0 5), .ref (q0 6), .ref (q0 7), .int (gI u24 8), .ref (u23 9), .int (gI u24 10), .ref (u23 11)])), kI G (q0 1) 5 (gA u24 1), kI G (q0 2) 20 (gA u24 2), kI G (q0 3) 5 (gA u24 3), kI G (q0 4) 5 (gA u24 4), kI G (q0 5) 5 (gA u24 5), kI G (q0 6) 5 (gA u24 6), kI G (q0 7) 5 (gA u24 7), kB G (u23 9) (u23 109) (gA u24 9), kI G (u23 11) (u23 111) (gA u24 11), (h1, .inr (5, [.ref (r1 0), .int (gI o1 1), .int (gI o1 2), .ref (q1 3), .ref (q1 4), .ref (q1 5), .ref (q1 6), .ref (q1 7), .ref (q1 8), .ref (q1 9), .ref (q1 10), .int (gI o1 11), .int (gI o1 12)])), kI G (q1 3) 20 (gA o1 3), kI G (q1 4) 20 (gA o1 4), kI G (q1 5) 5 (gA o1 5), kJ G (q1 6) 5 (gB o1 6), kJ G (q1 7) 5 (gB o1 7), kJ G (q1 8) 6 (gB o1 8), kI G (q1 10) 5 (gA o1 10), (h2, .inr (2, [.ref (q2 0), .ref (q2 1), .ref (q2 2)])), kI G (q2 0) 100 (gA o2 0), kI G (q2 1) 100 (gA o2 1), kI G (q2 2) 100 (gA o2 2), kI G q29 ((gI u24 8) * (8 : Int32)).toNatClampNeg (fun _ => 0)] H := hP
          have hD : va_D A [(h0, .inr (9, [.int (gI u24 0), .ref (q0 1), .ref (q0 2), .ref (q0 3), .ref (q0 4), .ref (q0 5), .ref (q0 6), .ref (q0 7), .int (gI u24 8), .ref (u23 9), .int (gI u24 10), .ref (u23 11)])), kI G (q0 1) 5 (gA u24 1), kI G (q0 2) 20 (gA u24 2), kI G (q0 3) 5 (gA u24 3), kI G (q0 4) 5 (gA u24 4), kI G (q0 5) 5 (gA u24 5), kI G (q0 6) 5 (gA u24 6), kI G (q0 7) 5 (gA u24 7), kB G (u23 9) (u23 109) (gA u24 9), kI G (u23 11) (u23 111) (gA u24 11), (h1, .inr (5, [.ref (r1 0), .int (gI o1 1), .int (gI o1 2), .ref (q1 3), .ref (q1 4), .ref (q1 5), .ref (q1 6), .ref (q1 7), .ref (q1 8), .ref (q1 9), .ref (q1 10), .int (gI o1 11), .int (gI o1 12)])), kI G (q1 3) 20 (gA o1 3), kI G (q1 4) 20 (gA o1 4), kI G (q1 5) 5 (gA o1 5), kJ G (q1 6) 5 (gB o1 6), kJ G (q1 7) 5 (gB o1 7), kJ G (q1 8) 6 (gB o1 8), kI G (q1 10) 5 (gA o1 10), (h2, .inr (2, [.ref (q2 0), .ref (q2 1), .ref (q2 2)])), kI G (q2 0) 100 (gA o2 0), kI G (q2 1) 100 (gA o2 1), kI G (q2 2) 100 (gA o2 2), kI G q29 ((gI u24 8) * (8 : Int32)).toNatClampNeg (fun _ => 0)] := hD
          refine va_put (D := G.1) (ci := 9) (v := .ref q29) (ty := (.array .int)) (C := R_Sh) (T := T_Sh) (N := 12) hx hb hts i_Sh ty_Sh ty_Sh_ok nm_Sh hown hK hP hD hS 0 rfl rfl 11 (by decide) (hts _ wf_Sh_37) (fun _ h9 => h9) rfl (ty_Sh_ok 11 (by decide)) rfl rfl (Nat.le_of_ble_eq_true rfl) d_Sh_weighRow_43 (fun H locs hP hD hS => ?_)
          obtain ⟨hP, hD⟩ := perm_of (w2 := [(h0, .inr (9, [.int (gI u24 0), .ref (q0 1), .ref (q0 2), .ref (q0 3), .ref (q0 4), .ref (q0 5), .ref (q0 6), .ref (q0 7), .int (gI u24 8), .ref (u23 9), .int (gI u24 10), .ref q29])), kI G (q0 1) 5 (gA u24 1), kI G (q0 2) 20 (gA u24 2), kI G (q0 3) 5 (gA u24 3), kI G (q0 4) 5 (gA u24 4), kI G (q0 5) 5 (gA u24 5), kI G (q0 6) 5 (gA u24 6), kI G (q0 7) 5 (gA u24 7), kB G (u23 9) (u23 109) (gA u24 9), kI G q29 ((gI u24 8) * (8 : Int32)).toNatClampNeg (fun _ => 0), (h1, .inr (5, [.ref (r1 0), .int (gI o1 1), .int (gI o1 2), .ref (q1 3), .ref (q1 4), .ref (q1 5), .ref (q1 6), .ref (q1 7), .ref (q1 8), .ref (q1 9), .ref (q1 10), .int (gI o1 11), .int (gI o1 12)])), kI G (q1 3) 20 (gA o1 3), kI G (q1 4) 20 (gA o1 4), kI G (q1 5) 5 (gA o1 5), kJ G (q1 6) 5 (gB o1 6), kJ G (q1 7) 5 (gB o1 7), kJ G (q1 8) 6 (gB o1 8), kI G (q1 10) 5 (gA o1 10), (h2, .inr (2, [.ref (q2 0), .ref (q2 1), .ref (q2 2)])), kI G (q2 0) 100 (gA o2 0), kI G (q2 1) 100 (gA o2 1), kI G (q2 2) 100 (gA o2 2)]) hP hD [0, 1, 2, 3, 4, 5, 6, 7, 8, 22, 10, 11, 12, 13, 14, 15, 16, 17, 18, 19, 20, 21] (by decide) rfl
          have hP : va_P G.1 CL [(h0, .inr (9, [.int (gI u24 0), .ref (q0 1), .ref (q0 2), .ref (q0 3), .ref (q0 4), .ref (q0 5), .ref (q0 6), .ref (q0 7), .int (gI u24 8), .ref (u23 9), .int (gI u24 10), .ref q29])), kI G (q0 1) 5 (gA u24 1), kI G (q0 2) 20 (gA u24 2), kI G (q0 3) 5 (gA u24 3), kI G (q0 4) 5 (gA u24 4), kI G (q0 5) 5 (gA u24 5), kI G (q0 6) 5 (gA u24 6), kI G (q0 7) 5 (gA u24 7), kB G (u23 9) (u23 109) (gA u24 9), kI G q29 ((gI u24 8) * (8 : Int32)).toNatClampNeg (fun _ => 0), (h1, .inr (5, [.ref (r1 0), .int (gI o1 1), .int (gI o1 2), .ref (q1 3), .ref (q1 4), .ref (q1 5), .ref (q1 6), .ref (q1 7), .ref (q1 8), .ref (q1 9), .ref (q1 10), .int (gI o1 11), .int (gI o1 12)])), kI G (q1 3) 20 (gA o1 3), kI G (q1 4) 20 (gA o1 4), kI G (q1 5) 5 (gA o1 5), kJ G (q1 6) 5 (gB o1 6), kJ G (q1 7) 5 (gB o1 7), kJ G (q1 8) 6 (gB o1 8), kI G (q1 10) 5 (gA o1 10), (h2, .inr (2, [.ref (q2 0), .ref (q2 1), .ref (q2 2)])), kI G (q2 0) 100 (gA o2 0), kI G (q2 1) 100 (gA o2 1), kI G (q2 2) 100 (gA o2 2)] H := hP
          have hD : va_D A [(h0, .inr (9, [.int (gI u24 0), .ref (q0 1), .ref (q0 2), .ref (q0 3), .ref (q0 4), .ref (q0 5), .ref (q0 6), .ref (q0 7), .int (gI u24 8), .ref (u23 9), .int (gI u24 10), .ref q29])), kI G (q0 1) 5 (gA u24 1), kI G (q0 2) 20 (gA u24 2), kI G (q0 3) 5 (gA u24 3), kI G (q0 4) 5 (gA u24 4), kI G (q0 5) 5 (gA u24 5), kI G (q0 6) 5 (gA u24 6), kI G (q0 7) 5 (gA u24 7), kB G (u23 9) (u23 109) (gA u24 9), kI G q29 ((gI u24 8) * (8 : Int32)).toNatClampNeg (fun _ => 0), (h1, .inr (5, [.ref (r1 0), .int (gI o1 1), .int (gI o1 2), .ref (q1 3), .ref (q1 4), .ref (q1 5), .ref (q1 6), .ref (q1 7), .ref (q1 8), .ref (q1 9), .ref (q1 10), .int (gI o1 11), .int (gI o1 12)])), kI G (q1 3) 20 (gA o1 3), kI G (q1 4) 20 (gA o1 4), kI G (q1 5) 5 (gA o1 5), kJ G (q1 6) 5 (gB o1 6), kJ G (q1 7) 5 (gB o1 7), kJ G (q1 8) 6 (gB o1 8), kI G (q1 10) 5 (gA o1 10), (h2, .inr (2, [.ref (q2 0), .ref (q2 1), .ref (q2 2)])), kI G (q2 0) 100 (gA o2 0), kI G (q2 1) 100 (gA o2 1), kI G (q2 2) 100 (gA o2 2)] := hD
          have hl := lv_sub (l' := [(0, .ref h0), (1, .ref h1), (2, .ref h2), (3, .int x3), (4, .int x4)]) hl [0, 1, 2, 3, 4] rfl
          have hP : va_P G.1 CL (cw_Sh G h0 q0 (up (up u23 11 q29) 111 ((gI u24 8) * (8 : Int32)).toNatClampNeg) (sA u24 11 (fun _ => 0)) ++ (cw_Mo G h1 q1 r1 o1 ++ (cw_He G h2 q2 o2))) H := hP
          have hD : va_D A (cw_Sh G h0 q0 (up (up u23 11 q29) 111 ((gI u24 8) * (8 : Int32)).toNatClampNeg) (sA u24 11 (fun _ => 0)) ++ (cw_Mo G h1 q1 r1 o1 ++ (cw_He G h2 q2 o2))) := hD
          exact t_Sh_weighRow_46 r1 o1 o2 (f_Sh_weighRow_5 r1 o1 o2 Q n) Q C ih ((cs + 1) + 1) ((sl + 5120) + ((gI u24 8) * (8 : Int32)).toNatClampNeg) x3 x4 (up (up u23 11 q29) 111 ((gI u24 8) * (8 : Int32)).toNatClampNeg) (sA u24 11 (fun _ => 0)) ls _ locs hl hP hD hS h
      · skip
        have g30 := h.1
        have h := h.2
        have g31 := h.1
        have h := h.2
        refine cl_Vv (b := b_Sh_weighRow) (As := [.ref h1, .ref h2, .int x4]) (rest := []) (ws := [(h0, .inr (9, [.int (gI o0 0), .ref (q0 1), .ref (q0 2), .ref (q0 3), .ref (q0 4), .ref (q0 5), .ref (q0 6), .ref (q0 7), .int (gI o0 8), .ref (r0 9), .int (gI o0 10), .ref (r0 11)])), kI G (q0 1) 5 (gA o0 1), kI G (q0 2) 20 (gA o0 2), kI G (q0 3) 5 (gA o0 3), kI G (q0 4) 5 (gA o0 4), kI G (q0 5) 5 (gA o0 5), kI G (q0 6) 5 (gA o0 6), kI G (q0 7) 5 (gA o0 7), kB G (r0 9) (r0 109) (gA o0 9), kI G (r0 11) (r0 111) (gA o0 11), (h1, .inr (5, [.ref (r1 0), .int (gI o1 1), .int (gI o1 2), .ref (q1 3), .ref (q1 4), .ref (q1 5), .ref (q1 6), .ref (q1 7), .ref (q1 8), .ref (q1 9), .ref (q1 10), .int (gI o1 11), .int (gI o1 12)])), kI G (q1 3) 20 (gA o1 3), kI G (q1 4) 20 (gA o1 4), kI G (q1 5) 5 (gA o1 5), kJ G (q1 6) 5 (gB o1 6), kJ G (q1 7) 5 (gB o1 7), kJ G (q1 8) 6 (gB o1 8), kI G (q1 10) 5 (gA o1 10), (h2, .inr (2, [.ref (q2 0), .ref (q2 1), .ref (q2 2)])), kI G (q2 0) 100 (gA o2 0), kI G (q2 1) 100 (gA o2 1), kI G (q2 2) 100 (gA o2 2)]) (wr := []) (w2 := fun (u : (Nat → Nat) × Ob) => [(h0, .inr (9, [.int (gI u.2 0), .ref (q0 1), .ref (q0 2), .ref (q0 3), .ref (q0 4), .ref (q0 5), .ref (q0 6), .ref (q0 7), .int (gI u.2 8), .ref (u.1 9), .int (gI u.2 10), .ref (u.1 11)])), kI G (q0 1) 5 (gA u.2 1), kI G (q0 2) 20 (gA u.2 2), kI G (q0 3) 5 (gA u.2 3), kI G (q0 4) 5 (gA u.2 4), kI G (q0 5) 5 (gA u.2 5), kI G (q0 6) 5 (gA u.2 6), kI G (q0 7) 5 (gA u.2 7), kB G (u.1 9) (u.1 109) (gA u.2 9), kI G (u.1 11) (u.1 111) (gA u.2 11), (h1, .inr (5, [.ref (r1 0), .int (gI o1 1), .int (gI o1 2), .ref (q1 3), .ref (q1 4), .ref (q1 5), .ref (q1 6), .ref (q1 7), .ref (q1 8), .ref (q1 9), .ref (q1 10), .int (gI o1 11), .int (gI o1 12)])), kI G (q1 3) 20 (gA o1 3), kI G (q1 4) 20 (gA o1 4), kI G (q1 5) 5 (gA o1 5), kJ G (q1 6) 5 (gB o1 6), kJ G (q1 7) 5 (gB o1 7), kJ G (q1 8) 6 (gB o1 8), kI G (q1 10) 5 (gA o1 10), (h2, .inr (2, [.ref (q2 0), .ref (q2 1), .ref (q2 2)])), kI G (q2 0) 100 (gA o2 0), kI G (q2 1) 100 (gA o2 1), kI G (q2 2) 100 (gA o2 2)]) C (c_Sh_ask0 (h0 := h0) (q0 := q0) (h1 := h1) (q1 := q1) (h2 := h2) (q2 := q2) H.size h) wv_Sh_100 ⟨Nat.le_of_ble_eq_true rfl, Nat.le_of_ble_eq_true rfl⟩ hP hD hS 0 rfl rfl [0, 1, 2, 3, 4, 5, 6, 7, 8, 9, 10, 11, 12, 13, 14, 15, 16, 17, 18, 19, 20, 21] [] rfl rfl (by decide) (by decide) (by decide) [0, 1, 2, 3, 4, 5, 6, 7, 8, 9, 10, 11, 12, 13, 14, 15, 16, 17, 18, 19, 20, 21] (by decide) (fun u => rfl) rfl hl.1 rfl (lv_room (Nat.le_of_ble_eq_true rfl)) d_Sh_weighRow_15 ⟨g30, g31⟩ rfl rfl (fun u H locs h hP hD hS => ?_)
        obtain ⟨u32, u33⟩ := u
        have hP : va_P G.1 CL [(h0, .inr (9, [.int (gI u33 0), .ref (q0 1), .ref (q0 2), .ref (q0 3), .ref (q0 4), .ref (q0 5), .ref (q0 6), .ref (q0 7), .int (gI u33 8), .ref (u32 9), .int (gI u33 10), .ref (u32 11)])), kI G (q0 1) 5 (gA u33 1), kI G (q0 2) 20 (gA u33 2), kI G (q0 3) 5 (gA u33 3), kI G (q0 4) 5 (gA u33 4), kI G (q0 5) 5 (gA u33 5), kI G (q0 6) 5 (gA u33 6), kI G (q0 7) 5 (gA u33 7), kB G (u32 9) (u32 109) (gA u33 9), kI G (u32 11) (u32 111) (gA u33 11), (h1, .inr (5, [.ref (r1 0), .int (gI o1 1), .int (gI o1 2), .ref (q1 3), .ref (q1 4), .ref (q1 5), .ref (q1 6), .ref (q1 7), .ref (q1 8), .ref (q1 9), .ref (q1 10), .int (gI o1 11), .int (gI o1 12)])), kI G (q1 3) 20 (gA o1 3), kI G (q1 4) 20 (gA o1 4), kI G (q1 5) 5 (gA o1 5), kJ G (q1 6) 5 (gB o1 6), kJ G (q1 7) 5 (gB o1 7), kJ G (q1 8) 6 (gB o1 8), kI G (q1 10) 5 (gA o1 10), (h2, .inr (2, [.ref (q2 0), .ref (q2 1), .ref (q2 2)])), kI G (q2 0) 100 (gA o2 0), kI G (q2 1) 100 (gA o2 1), kI G (q2 2) 100 (gA o2 2)] H := hP
        have hD : va_D A [(h0, .inr (9, [.int (gI u33 0), .ref (q0 1), .ref (q0 2), .ref (q0 3), .ref (q0 4), .ref (q0 5), .ref (q0 6), .ref (q0 7), .int (gI u33 8), .ref (u32 9), .int (gI u33 10), .ref (u32 11)])), kI G (q0 1) 5 (gA u33 1), kI G (q0 2) 20 (gA u33 2), kI G (q0 3) 5 (gA u33 3), kI G (q0 4) 5 (gA u33 4), kI G (q0 5) 5 (gA u33 5), kI G (q0 6) 5 (gA u33 6), kI G (q0 7) 5 (gA u33 7), kB G (u32 9) (u32 109) (gA u33 9), kI G (u32 11) (u32 111) (gA u33 11), (h1, .inr (5, [.ref (r1 0), .int (gI o1 1), .int (gI o1 2), .ref (q1 3), .ref (q1 4), .ref (q1 5), .ref (q1 6), .ref (q1 7), .ref (q1 8), .ref (q1 9), .ref (q1 10), .int (gI o1 11), .int (gI o1 12)])), kI G (q1 3) 20 (gA o1 3), kI G (q1 4) 20 (gA o1 4), kI G (q1 5) 5 (gA o1 5), kJ G (q1 6) 5 (gB o1 6), kJ G (q1 7) 5 (gB o1 7), kJ G (q1 8) 6 (gB o1 8), kI G (q1 10) 5 (gA o1 10), (h2, .inr (2, [.ref (q2 0), .ref (q2 1), .ref (q2 2)])), kI G (q2 0) 100 (gA o2 0), kI G (q2 1) 100 (gA o2 1), kI G (q2 2) 100 (gA o2 2)] := hD
        refine lv_aload_n hx hb d_Sh_weighRow_18 rfl (lv_at hl 0 rfl) ?_
        refine va_get (D := G.1) (ci := 9) (v := .ref (u32 11)) (C := R_Sh) (T := T_Sh) (N := 12) hx hb hts i_Sh hown hK hP 0 rfl rfl 11 (by decide) (hts _ wf_Sh_37) (fun _ h9 => h9) rfl d_Sh_weighRow_19 ?_
        refine va_alen hx hb hK hP 9 0 rfl rfl (v := (nI (u32 111))) rfl d_Sh_weighRow_22 ?_
        refine lv_aload_n hx hb d_Sh_weighRow_23 rfl (lv_at hl 0 rfl) ?_
        refine va_get (D := G.1) (ci := 9) (v := .int (gI u33 8)) (C := R_Sh) (T := T_Sh) (N := 12) hx hb hts i_Sh hown hK hP 0 rfl rfl 8 (by decide) (hts _ wf_Sh_69) (fun _ h9 => h9) rfl d_Sh_weighRow_24 ?_
        refine lv_bipush (v := (8 : Int32)) hx hb d_Sh_weighRow_27 (by decide) ?_
        refine lv_imul hx hb d_Sh_weighRow_29 ?_
        refine lv_icmp_ge (tgt := 46) hx hb d_Sh_weighRow_30 (by decide) (fun c34 => ?_) (fun c34 => ?_)
        · have h := h.1 c34
          have hl := lv_sub (l' := [(0, .ref h0), (1, .ref h1), (2, .ref h2), (3, .int x3), (4, .int x4)]) hl [0, 1, 2, 3, 4] rfl
          have hP : va_P G.1 CL (cw_Sh G h0 q0 u32 u33 ++ (cw_Mo G h1 q1 r1 o1 ++ (cw_He G h2 q2 o2))) H := hP
          have hD : va_D A (cw_Sh G h0 q0 u32 u33 ++ (cw_Mo G h1 q1 r1 o1 ++ (cw_He G h2 q2 o2))) := hD
          exact t_Sh_weighRow_46 r1 o1 o2 (f_Sh_weighRow_5 r1 o1 o2 Q n) Q C ih cs sl x3 x4 u32 u33 ls _ locs hl hP hD hS h
        · have h := h.2 c34
          refine lv_aload_n hx hb d_Sh_weighRow_33 rfl (lv_at hl 0 rfl) ?_
          refine lv_aload_n hx hb d_Sh_weighRow_34 rfl (lv_at hl 0 rfl) ?_
          refine va_get (D := G.1) (ci := 9) (v := .int (gI u33 8)) (C := R_Sh) (T := T_Sh) (N := 12) hx hb hts i_Sh hown hK hP 0 rfl rfl 8 (by decide) (hts _ wf_Sh_69) (fun _ h9 => h9) rfl d_Sh_weighRow_35 ?_
          refine lv_bipush (v := (8 : Int32)) hx hb d_Sh_weighRow_38 (by decide) ?_
          refine lv_imul hx hb d_Sh_weighRow_40 ?_
          have g35 := h.1
          have h := h.2
          have g36 := h.1
          have h := h.2
          have g37 := h.1
          have h := h.2
          refine xa_newAI C (hts _ wa_int) hP hD hS g35 rfl (Nat.le_trans (Nat.le_trans (Nat.le_add_left _ _) g37) (Nat.le_of_ble_eq_true rfl)) g36 g37 d_Sh_weighRow_41 (fun q38 H hP hD hS => ?_)
          have h := h q38
          have hP : va_P G.1 CL [(h0, .inr (9, [.int (gI u33 0), .ref (q0 1), .ref (q0 2), .ref (q0 3), .ref (q0 4), .ref (q0 5), .ref (q0 6), .ref (q0 7), .int (gI u33 8), .ref (u32 9), .int (gI u33 10), .ref (u32 11)])), kI G (q0 1) 5 (gA u33 1), kI G (q0 2) 20 (gA u33 2), kI G (q0 3) 5 (gA u33 3), kI G (q0 4) 5 (gA u33 4), kI G (q0 5) 5 (gA u33 5), kI G (q0 6) 5 (gA u33 6), kI G (q0 7) 5 (gA u33 7), kB G (u32 9) (u32 109) (gA u33 9), kI G (u32 11) (u32 111) (gA u33 11), (h1, .inr (5, [.ref (r1 0), .int (gI o1 1), .int (gI o1 2), .ref (q1 3), .ref (q1 4), .ref (q1 5), .ref (q1 6), .ref (q1 7), .ref (q1 8), .ref (q1 9), .ref (q1 10), .int (gI o1 11), .int (gI o1 12)])), kI G (q1 3) 20 (gA o1 3), kI G (q1 4) 20 (gA o1 4), kI G (q1 5) 5 (gA o1 5), kJ G (q1 6) 5 (gB o1 6), kJ G (q1 7) 5 (gB o1 7), kJ G (q1 8) 6 (gB o1 8), kI G (q1 10) 5 (gA o1 10), (h2, .inr (2, [.ref (q2 0), .ref (q2 1), .ref (q2 2)])), kI G (q2 0) 100 (gA o2 0), kI G (q2 1) 100 (gA o2 1), kI G (q2 2) 100 (gA o2 2), kI G q38 ((gI u33 8) * (8 : Int32)).toNatClampNeg (fun _ => 0)] H := hP
          have hD : va_D A [(h0, .inr (9, [.int (gI u33 0), .ref (q0 1), .ref (q0 2), .ref (q0 3), .ref (q0 4), .ref (q0 5), .ref (q0 6), .ref (q0 7), .int (gI u33 8), .ref (u32 9), .int (gI u33 10), .ref (u32 11)])), kI G (q0 1) 5 (gA u33 1), kI G (q0 2) 20 (gA u33 2), kI G (q0 3) 5 (gA u33 3), kI G (q0 4) 5 (gA u33 4), kI G (q0 5) 5 (gA u33 5), kI G (q0 6) 5 (gA u33 6), kI G (q0 7) 5 (gA u33 7), kB G (u32 9) (u32 109) (gA u33 9), kI G (u32 11) (u32 111) (gA u33 11), (h1, .inr (5, [.ref (r1 0), .int (gI o1 1), .int (gI o1 2), .ref (q1 3), .ref (q1 4), .ref (q1 5), .ref (q1 6), .ref (q1 7), .ref (q1 8), .ref (q1 9), .ref (q1 10), .int (gI o1 11), .int (gI o1 12)])), kI G (q1 3) 20 (gA o1 3), kI G (q1 4) 20 (gA o1 4), kI G (q1 5) 5 (gA o1 5), kJ G (q1 6) 5 (gB o1 6), kJ G (q1 7) 5 (gB o1 7), kJ G (q1 8) 6 (gB o1 8), kI G (q1 10) 5 (gA o1 10), (h2, .inr (2, [.ref (q2 0), .ref (q2 1), .ref (q2 2)])), kI G (q2 0) 100 (gA o2 0), kI G (q2 1) 100 (gA o2 1), kI G (q2 2) 100 (gA o2 2), kI G q38 ((gI u33 8) * (8 : Int32)).toNatClampNeg (fun _ => 0)] := hD
          refine va_put (D := G.1) (ci := 9) (v := .ref q38) (ty := (.array .int)) (C := R_Sh) (T := T_Sh) (N := 12) hx hb hts i_Sh ty_Sh ty_Sh_ok nm_Sh hown hK hP hD hS 0 rfl rfl 11 (by decide) (hts _ wf_Sh_37) (fun _ h9 => h9) rfl (ty_Sh_ok 11 (by decide)) rfl rfl (Nat.le_of_ble_eq_true rfl) d_Sh_weighRow_43 (fun H locs hP hD hS => ?_)
          obtain ⟨hP, hD⟩ := perm_of (w2 := [(h0, .inr (9, [.int (gI u33 0), .ref (q0 1), .ref (q0 2), .ref (q0 3), .ref (q0 4), .ref (q0 5), .ref (q0 6), .ref (q0 7), .int (gI u33 8), .ref (u32 9), .int (gI u33 10), .ref q38])), kI G (q0 1) 5 (gA u33 1), kI G (q0 2) 20 (gA u33 2), kI G (q0 3) 5 (gA u33 3), kI G (q0 4) 5 (gA u33 4), kI G (q0 5) 5 (gA u33 5), kI G (q0 6) 5 (gA u33 6), kI G (q0 7) 5 (gA u33 7), kB G (u32 9) (u32 109) (gA u33 9), kI G q38 ((gI u33 8) * (8 : Int32)).toNatClampNeg (fun _ => 0), (h1, .inr (5, [.ref (r1 0), .int (gI o1 1), .int (gI o1 2), .ref (q1 3), .ref (q1 4), .ref (q1 5), .ref (q1 6), .ref (q1 7), .ref (q1 8), .ref (q1 9), .ref (q1 10), .int (gI o1 11), .int (gI o1 12)])), kI G (q1 3) 20 (gA o1 3), kI G (q1 4) 20 (gA o1 4), kI G (q1 5) 5 (gA o1 5), kJ G (q1 6) 5 (gB o1 6), kJ G (q1 7) 5 (gB o1 7), kJ G (q1 8) 6 (gB o1 8), kI G (q1 10) 5 (gA o1 10), (h2, .inr (2, [.ref (q2 0), .ref (q2 1), .ref (q2 2)])), kI G (q2 0) 100 (gA o2 0), kI G (q2 1) 100 (gA o2 1), kI G (q2 2) 100 (gA o2 2)]) hP hD [0, 1, 2, 3, 4, 5, 6, 7, 8, 22, 10, 11, 12, 13, 14, 15, 16, 17, 18, 19, 20, 21] (by decide) rfl
          have hP : va_P G.1 CL [(h0, .inr (9, [.int (gI u33 0), .ref (q0 1), .ref (q0 2), .ref (q0 3), .ref (q0 4), .ref (q0 5), .ref (q0 6), .ref (q0 7), .int (gI u33 8), .ref (u32 9), .int (gI u33 10), .ref q38])), kI G (q0 1) 5 (gA u33 1), kI G (q0 2) 20 (gA u33 2), kI G (q0 3) 5 (gA u33 3), kI G (q0 4) 5 (gA u33 4), kI G (q0 5) 5 (gA u33 5), kI G (q0 6) 5 (gA u33 6), kI G (q0 7) 5 (gA u33 7), kB G (u32 9) (u32 109) (gA u33 9), kI G q38 ((gI u33 8) * (8 : Int32)).toNatClampNeg (fun _ => 0), (h1, .inr (5, [.ref (r1 0), .int (gI o1 1), .int (gI o1 2), .ref (q1 3), .ref (q1 4), .ref (q1 5), .ref (q1 6), .ref (q1 7), .ref (q1 8), .ref (q1 9), .ref (q1 10), .int (gI o1 11), .int (gI o1 12)])), kI G (q1 3) 20 (gA o1 3), kI G (q1 4) 20 (gA o1 4), kI G (q1 5) 5 (gA o1 5), kJ G (q1 6) 5 (gB o1 6), kJ G (q1 7) 5 (gB o1 7), kJ G (q1 8) 6 (gB o1 8), kI G (q1 10) 5 (gA o1 10), (h2, .inr (2, [.ref (q2 0), .ref (q2 1), .ref (q2 2)])), kI G (q2 0) 100 (gA o2 0), kI G (q2 1) 100 (gA o2 1), kI G (q2 2) 100 (gA o2 2)] H := hP
          have hD : va_D A [(h0, .inr (9, [.int (gI u33 0), .ref (q0 1), .ref (q0 2), .ref (q0 3), .ref (q0 4), .ref (q0 5), .ref (q0 6), .ref (q0 7), .int (gI u33 8), .ref (u32 9), .int (gI u33 10), .ref q38])), kI G (q0 1) 5 (gA u33 1), kI G (q0 2) 20 (gA u33 2), kI G (q0 3) 5 (gA u33 3), kI G (q0 4) 5 (gA u33 4), kI G (q0 5) 5 (gA u33 5), kI G (q0 6) 5 (gA u33 6), kI G (q0 7) 5 (gA u33 7), kB G (u32 9) (u32 109) (gA u33 9), kI G q38 ((gI u33 8) * (8 : Int32)).toNatClampNeg (fun _ => 0), (h1, .inr (5, [.ref (r1 0), .int (gI o1 1), .int (gI o1 2), .ref (q1 3), .ref (q1 4), .ref (q1 5), .ref (q1 6), .ref (q1 7), .ref (q1 8), .ref (q1 9), .ref (q1 10), .int (gI o1 11), .int (gI o1 12)])), kI G (q1 3) 20 (gA o1 3), kI G (q1 4) 20 (gA o1 4), kI G (q1 5) 5 (gA o1 5), kJ G (q1 6) 5 (gB o1 6), kJ G (q1 7) 5 (gB o1 7), kJ G (q1 8) 6 (gB o1 8), kI G (q1 10) 5 (gA o1 10), (h2, .inr (2, [.ref (q2 0), .ref (q2 1), .ref (q2 2)])), kI G (q2 0) 100 (gA o2 0), kI G (q2 1) 100 (gA o2 1), kI G (q2 2) 100 (gA o2 2)] := hD
          have hl := lv_sub (l' := [(0, .ref h0), (1, .ref h1), (2, .ref h2), (3, .int x3), (4, .int x4)]) hl [0, 1, 2, 3, 4] rfl
          have hP : va_P G.1 CL (cw_Sh G h0 q0 (up (up u32 11 q38) 111 ((gI u33 8) * (8 : Int32)).toNatClampNeg) (sA u33 11 (fun _ => 0)) ++ (cw_Mo G h1 q1 r1 o1 ++ (cw_He G h2 q2 o2))) H := hP
          have hD : va_D A (cw_Sh G h0 q0 (up (up u32 11 q38) 111 ((gI u33 8) * (8 : Int32)).toNatClampNeg) (sA u33 11 (fun _ => 0)) ++ (cw_Mo G h1 q1 r1 o1 ++ (cw_He G h2 q2 o2))) := hD
          exact t_Sh_weighRow_46 r1 o1 o2 (f_Sh_weighRow_5 r1 o1 o2 Q n) Q C ih (cs + 1) (sl + ((gI u33 8) * (8 : Int32)).toNatClampNeg) x3 x4 (up (up u32 11 q38) 111 ((gI u33 8) * (8 : Int32)).toNatClampNeg) (sA u33 11 (fun _ => 0)) ls _ locs hl hP hD hS h
set_option maxHeartbeats 4000000 in
set_option maxRecDepth 100000 in
theorem c_Sh_weighRow {l : Launch} {G : Gl} {h0 : Nat} {h1 : Nat} {h2 : Nat} {q0 : Nat → Nat} {q1 : Nat → Nat} {q2 : Nat → Nat} {a2 : Int32} {r0 : (Nat → Nat)} {o0 : Ob} {r1 : (Nat → Nat)} {o1 : Ob} {o2 : Ob} {Q : (Nat → Nat) → Ob → Prop} (sz : Nat) (h : f_Sh_weighRow a2 r0 o0 r1 o1 o2 Q) : Met l y_Sh_weighRow w_Sh_weighRow rm_Sh_weighRow (PcW G [.ref h0, .ref h1, .ref h2, .int a2] sz (cw_Sh G h0 q0 r0 o0 ++ (cw_Mo G h1 q1 r1 o1 ++ (cw_He G h2 q2 o2)))) (va_Qv (fun (u : (Nat → Nat) × Ob) => Q u.1 u.2) (fun (u : (Nat → Nat) × Ob) t => BW G (va_A (cw_Sh G h0 q0 r0 o0 ++ (cw_Mo G h1 q1 r1 o1 ++ (cw_He G h2 q2 o2))) sz) (cw_Sh G h0 q0 u.1 u.2 ++ (cw_Mo G h1 q1 r1 o1 ++ (cw_He G h2 q2 o2))) t) (va_A (cw_Sh G h0 q0 r0 o0 ++ (cw_Mo G h1 q1 r1 o1 ++ (cw_He G h2 q2 o2))) sz)) 2 13312 (va_A (cw_Sh G h0 q0 r0 o0 ++ (cw_Mo G h1 q1 r1 o1 ++ (cw_He G h2 q2 o2))) sz) := by
  refine Met.ofW (cc := b_Sh_weighRow) (maxL := 7) (ret := none) (by decide +kernel) rfl ?_
  intro p e s m args below meth c s₁ B hml hv
  obtain ⟨rfl, hsz, hP, hK, hD0, hE⟩ := hv
  have hx := B.exec
  have hb := B.bytes
  have hr := B.returns
  have hts0 := atoms_spec (ws := w_Sh_weighRow) B.pre
  have hts : ∀ w ∈ gw_tbl, w.before ([.ref h0, .ref h1, .ref h2, .int a2]).toArray s = true := fun w hw => hts0 w (List.mem_cons_of_mem _ hw)
  have hown : s.vm.findClass R_Sh = some m.cls := findClass_of_methodNamed B.named
  have hlocks := B.notSynchronized
  subst hsz
  have hD := hD0.self (sz := s.heap.size)
  generalize hAe : va_A (cw_Sh G h0 q0 r0 o0 ++ (cw_Mo G h1 q1 r1 o1 ++ (cw_He G h2 q2 o2))) s.heap.size = A at hD hE ⊢
  have hA : ∀ q : Nat, s.heap.size ≤ q → A q := fun q h => by rw [← hAe]; exact Or.inr h
  have hS : va_S A s.heap s.heap [] := va_S.rf
  have C : Cx p s m ([.ref h0, .ref h1, .ref h2, .int a2]).toArray meth c R_Sh b_Sh_weighRow 7 none G A := ⟨hx, hb, hml, hown, hr, hts, hK, hA, hlocks, hE⟩
  have hl := lv_entry ([.ref h0, .ref h1, .ref h2, .int a2]) (n := 7) (Nat.le_of_ble_eq_true rfl)
  rw [lg_entry_eq]
  generalize (lg_sl ([.ref h0, .ref h1, .ref h2, .int a2]) ++ List.replicate (7 - (lg_sl ([.ref h0, .ref h1, .ref h2, .int a2])).length) Slot.unset).toArray = ls at hl ⊢
  have hl : lv_has ls 7 [(0, .ref h0), (1, .ref h1), (2, .ref h2), (3, .int a2)] := hl
  have hD : va_D A [(h0, .inr (9, [.int (gI o0 0), .ref (q0 1), .ref (q0 2), .ref (q0 3), .ref (q0 4), .ref (q0 5), .ref (q0 6), .ref (q0 7), .int (gI o0 8), .ref (r0 9), .int (gI o0 10), .ref (r0 11)])), kI G (q0 1) 5 (gA o0 1), kI G (q0 2) 20 (gA o0 2), kI G (q0 3) 5 (gA o0 3), kI G (q0 4) 5 (gA o0 4), kI G (q0 5) 5 (gA o0 5), kI G (q0 6) 5 (gA o0 6), kI G (q0 7) 5 (gA o0 7), kB G (r0 9) (r0 109) (gA o0 9), kI G (r0 11) (r0 111) (gA o0 11), (h1, .inr (5, [.ref (r1 0), .int (gI o1 1), .int (gI o1 2), .ref (q1 3), .ref (q1 4), .ref (q1 5), .ref (q1 6), .ref (q1 7), .ref (q1 8), .ref (q1 9), .ref (q1 10), .int (gI o1 11), .int (gI o1 12)])), kI G (q1 3) 20 (gA o1 3), kI G (q1 4) 20 (gA o1 4), kI G (q1 5) 5 (gA o1 5), kJ G (q1 6) 5 (gB o1 6), kJ G (q1 7) 5 (gB o1 7), kJ G (q1 8) 6 (gB o1 8), kI G (q1 10) 5 (gA o1 10), (h2, .inr (2, [.ref (q2 0), .ref (q2 1), .ref (q2 2)])), kI G (q2 0) 100 (gA o2 0), kI G (q2 1) 100 (gA o2 1), kI G (q2 2) 100 (gA o2 2)] := hD
  unfold f_Sh_weighRow at h
  suffices key : ∀ (H : Heap) (locs : List Loc), va_P G.1 CL [(h0, .inr (9, [.int (gI o0 0), .ref (q0 1), .ref (q0 2), .ref (q0 3), .ref (q0 4), .ref (q0 5), .ref (q0 6), .ref (q0 7), .int (gI o0 8), .ref (r0 9), .int (gI o0 10), .ref (r0 11)])), kI G (q0 1) 5 (gA o0 1), kI G (q0 2) 20 (gA o0 2), kI G (q0 3) 5 (gA o0 3), kI G (q0 4) 5 (gA o0 4), kI G (q0 5) 5 (gA o0 5), kI G (q0 6) 5 (gA o0 6), kI G (q0 7) 5 (gA o0 7), kB G (r0 9) (r0 109) (gA o0 9), kI G (r0 11) (r0 111) (gA o0 11), (h1, .inr (5, [.ref (r1 0), .int (gI o1 1), .int (gI o1 2), .ref (q1 3), .ref (q1 4), .ref (q1 5), .ref (q1 6), .ref (q1 7), .ref (q1 8), .ref (q1 9), .ref (q1 10), .int (gI o1 11), .int (gI o1 12)])), kI G (q1 3) 20 (gA o1 3), kI G (q1 4) 20 (gA o1 4), kI G (q1 5) 5 (gA o1 5), kJ G (q1 6) 5 (gB o1 6), kJ G (q1 7) 5 (gB o1 7), kJ G (q1 8) 6 (gB o1 8), kI G (q1 10) 5 (gA o1 10), (h2, .inr (2, [.ref (q2 0), .ref (q2 1), .ref (q2 2)])), kI G (q2 0) 100 (gA o2 0), kI G (q2 1) 100 (gA o2 1), kI G (q2 2) 100 (gA o2 2)] H → va_S A s.heap H locs → W p l e rm_Sh_weighRow s m ([.ref h0, .ref h1, .ref h2, .int a2]).toArray below meth c H locs 0 0 (MQ below (va_Qv (fun (u : (Nat → Nat) × Ob) => Q u.1 u.2) (fun (u : (Nat → Nat) × Ob) t => BW G A (cw_Sh G h0 q0 u.1 u.2 ++ (cw_Mo G h1 q1 r1 o1 ++ (cw_He G h2 q2 o2))) t) A) ([.ref h0, .ref h1, .ref h2, .int a2]).toArray s 2 13312 A) (F0 m 0 ls []) from key s.heap [] hP hS
  intro H locs hP hS
  refine lv_iload_n hx hb d_Sh_weighRow_0 rfl (lv_at hl 3 rfl) ?_
  refine lv_iconst (v := (1 : Int32)) hx hb d_Sh_weighRow_1 (by decide) ?_
  refine lv_isub hx hb d_Sh_weighRow_2 ?_
  refine lv_istore (lv' := [(4, .int (a2 - (1 : Int32))), (0, .ref h0), (1, .ref h1), (2, .ref h2), (3, .int a2)]) hx hb d_Sh_weighRow_3 hl (by decide) rfl (fun ls hl => ?_)
  have hl := lv_sub (l' := [(0, .ref h0), (1, .ref h1), (2, .ref h2), (3, .int a2), (4, .int (a2 - (1 : Int32)))]) hl [1, 2, 3, 4, 0] rfl
  have hP : va_P G.1 CL (cw_Sh G h0 q0 r0 o0 ++ (cw_Mo G h1 q1 r1 o1 ++ (cw_He G h2 q2 o2))) H := hP
  have hD : va_D A (cw_Sh G h0 q0 r0 o0 ++ (cw_Mo G h1 q1 r1 o1 ++ (cw_He G h2 q2 o2))) := hD
  obtain ⟨w, h⟩ := h
  exact t_Sh_weighRow_5 r1 o1 o2 Q C w 0 0 a2 (a2 - (1 : Int32)) r0 o0 ls _ locs hl hP hD hS h
