-- calls, over worlds of any list of cells
def wB (own : String) (index : Nat) (y : MethodName) (bytes : ByteArray) (maxL : Nat) (rty : Option FieldType) (n : Nat) : Prop :=
  Cond.methodLink own index y ∈ gw_tbl ∧ Cond.initialized y.cls ∈ gw_tbl ∧ Cond.code y bytes maxL rty ∈ gw_tbl ∧ y.cls ≠ "java/lang/invoke/MethodHandle" ∧ y.cls ≠ "java/lang/invoke/VarHandle" ∧ (parseMethodDescriptor y.desc).map (fun d => d.parameters.length) = some n
def wV (own : String) (index : Nat) (y : MethodName) (bytes : ByteArray) (maxL : Nat) (rty : Option FieldType) (n : Nat) : Prop := wB own index y bytes maxL rty n ∧ Cond.instanceMethod y ∈ gw_tbl ∧ Cond.selects y.cls y y ∈ gw_tbl
def wS (own : String) (index : Nat) (y : MethodName) (bytes : ByteArray) (maxL : Nat) (rty : Option FieldType) (n : Nat) : Prop := wB own index y bytes maxL rty n ∧ Cond.static y ∈ gw_tbl
def wI (own : String) (index : Nat) (y : MethodName) (bytes : ByteArray) (maxL : Nat) (n : Nat) : Prop := wB own index y bytes maxL none n ∧ y.name = "<init>" ∧ Cond.instanceMethod y ∈ gw_tbl
section CALLS
variable {p : Program} {l : Launch} {e : Env} {R : Room} {s : State} {m : MethodId} {args : Array Value} {below : List Frame} {meth : Method} {c : Code} {H : Heap} {locs : List Loc} {cells slots : Nat} {Q : State → Prop}
variable {own : String} {b : ByteArray} {nL : Nat} {ret : Option FieldType} {G : Gl} {A : Nat → Prop}
variable {y : MethodName} {bytes : ByteArray} {maxL mc ms n index : Nat} {rty : Option FieldType} {rm : Room}
theorem wB.of (C : Cx p s m args meth c own b nL ret G A) (h : wB own index y bytes maxL rty n) (hrc : rm.cells = mc) (hrs : rm.slots = ms) (hR : rm.frames + 1 ≤ R.frames ∧ 8 + (maxL + 11) + rm.locals ≤ R.locals) : CallB R s args own index y bytes maxL rty (Cond.code y bytes maxL rty :: gw_tbl) rm mc ms n := by
  obtain ⟨h1, h2, h3, hd⟩ := h
  obtain ⟨hx, hb, hml, hown, hr, hts, hK, hA, hlocks, hE⟩ := C
  exact callB_of n hts (gw_cons h3) rfl hrc hrs (hts _ h2) (hts _ h1) hd hR
theorem preS_of {av : List Value} {wc : va_W} (C : Cx p s m args meth c own b nL ret G A) (hS : va_S A s.heap H locs) (hFc : ∀ q, va_A wc H.size q → A q) (hPc : va_P G.1 CL wc H) (hDc : va_D A wc) : PreS s H (PcW G av H.size wc) av := by
  obtain ⟨hx, hb, hml, hown, hr, hts, hK, hA, hlocks, hE⟩ := C
  exact ⟨PcW.blind, fun U hU hW => ⟨rfl, by rw [hU], by rw [hU]; exact hPc, va_K.moved hW.alike hK, hDc.weaken (fun _ _ _ _ => trivial), by rw [hU]; exact ((hE.1.kept hS.2.1).narrow hFc).moved hW.alike, fun i hi => (hE.2.1 i hi).warm hW, hE.2.2.warm hW⟩⟩
theorem preV_of {bq : Nat} {As : List Value} {wc : va_W} {Cn : String} {T : u_T} {N ci q0 : Nat} {fs : List Value} {ws : va_W} (C : Cx p s m args meth c own b nL ret G A) (hS : va_S A s.heap H locs) (hFc : ∀ q, va_A wc H.size q → A q) (hPc : va_P G.1 CL wc H) (hDc : va_D A wc) (hP : va_P G.1 CL ws H) (he : ws[q0]? = some (bq, .inr (ci, fs))) (hc : CL[ci]? = some (Cn, T, N)) : PreV s H Cn bq (PcW G (.ref bq :: As) H.size wc) As := by
  have C' := C
  obtain ⟨hx, hb, hml, hown, hr, hts, hK, hA, hlocks, hE⟩ := C'
  obtain ⟨h1, h2⟩ := preS_of (av := .ref bq :: As) C hS hFc hPc hDc
  exact ⟨h1, va_recv hK hP hc he, h2⟩
theorem sub_of {ws wc : va_W} (hP : va_P G.1 CL ws H) (isC : List Nat) (hC : isC.map (fun i => ws[i]?) = wc.map some) : va_P G.1 CL wc H := by
  intro k q hq
  have h1 : (isC.map (fun i => ws[i]?))[k]? = some (some q) := by rw [hC, List.getElem?_map, hq]; rfl
  rw [List.getElem?_map] at h1
  cases hi : isC[k]? with
  | none => rw [hi] at h1; cases h1
  | some i => rw [hi] at h1; exact hP i q (Option.some.inj h1)
variable {pc : Nat} {ls : Array Slot} {rest st0 : List Value} {wc wr ws : va_W}
theorem perm_of {A : Nat → Prop} {w w2 : va_W} {H1 : Heap} (hP : va_P G.1 CL w H1) (hD : va_D A w) (pm : List Nat) (hn : va_nd pm = true) (hm : pm.map (fun i => w[i]?) = w2.map some) : va_P G.1 CL w2 H1 ∧ va_D A w2 := ⟨sub_of hP pm hm, hD.sub pm hn hm⟩

theorem cl_Vi {S : Type} {post : Int32 → S → Prop} {w1 w2 : S → va_W} {bq : Nat} {As : List Value} (C : Cx p s m args meth c own b nL ret G A)
    (hM : Met l y (Cond.code y bytes maxL rty :: gw_tbl) rm (PcW G (.ref bq :: As) H.size wc) (va_Qi post (fun u t => BW G (va_A wc H.size) (w1 u) t) (va_A wc H.size)) mc ms (va_A wc H.size))
    (hw : wV own index y bytes maxL rty n) (hR : rm.frames + 1 ≤ R.frames ∧ 8 + (maxL + 11) + rm.locals ≤ R.locals) (hP : va_P G.1 CL ws H) (hD : va_D A ws) (hS : va_S A s.heap H locs) {T : u_T} {N ci : Nat} (q0 : Nat) {fs : List Value} (he : ws[q0]? = some (bq, .inr (ci, fs))) (hc : CL[ci]? = some (y.cls, T, N))
    (isC isR : List Nat) (hC : isC.map (fun i => ws[i]?) = wc.map some) (hRR : isR.map (fun i => ws[i]?) = wr.map some) (hnC : va_nd isC = true) (hnd : va_nd isR = true) (hdis : ∀ i ∈ isR, i ∉ isC)
    (pm : List Nat) (hpn : va_nd pm = true) (hpm : ∀ u, pm.map (fun i => (wr ++ w1 u)[i]?) = (w2 u).map some)
    (hn : As.length = n) (hsz : ls.size = nL) (hst : st0 = As.reverse ++ .ref bq :: rest) (hW : 2 * (F0 m pc ls st0).monitorRoom + (rest.map fun v => v.category).sum ≤ 8) (hdg : decode b pc = .ok (.invokevirtual index, 3)) (hf : cells + mc ≤ R.cells ∧ slots + ms ≤ R.slots) (hrc : rm.cells = mc) (hrs : rm.slots = ms)
    (kk : ∀ (r : Int32) (u : S) (H1 : Heap) (locs1 : List Loc), post r u → va_P G.1 CL (w2 u) H1 → va_D A (w2 u) → va_S A s.heap H1 locs1 → W p l e R s m args below meth c H1 locs1 (cells + mc) (slots + ms) Q (F0 m (pc + 3) ls (.int r :: rest))) : W p l e R s m args below meth c H locs cells slots Q (F0 m pc ls st0) := by
  have C' := C
  obtain ⟨hx, hb, hml, hown, hr, hts, hK, hA, hlocks, hE⟩ := C'
  have hPc := sub_of hP isC hC
  have hDc := hD.sub isC hnC hC
  have hFc := va_free hD hS hA isC hC
  obtain ⟨hw1, hw2, hw3⟩ := hw
  refine va_calli (va_runV (As := As) (rest := rest) (g := F0 m pc ls st0) ⟨hx, hb, hml, hown, hts⟩ hM ⟨wB.of C hw1 hrc hrs hR, hts _ hw2, hts _ hw3⟩ (preV_of C hS hFc hPc hDc hP he hc) rfl hn hsz hst hW hdg hf) hS (fun q _ h => hFc q h) (fun q h => hFc q h) (fun r u t H1 locs1 ht hvm hpost hB hz hk1 hS1 => ?_)
  obtain ⟨hP1, hK1, hD1⟩ := hB
  rw [ht] at hP1
  obtain ⟨hP2, hD2⟩ := va_join hP hD isC isR hC hRR hnd hdis hk1 hFc hP1 hD1
  obtain ⟨hP3, hD3⟩ := perm_of hP2 hD2 pm hpn (hpm u)
  exact kk r u H1 locs1 hpost hP3 hD3 hS1
theorem cl_Si {S : Type} {post : Int32 → S → Prop} {w1 w2 : S → va_W} {As : List Value} (C : Cx p s m args meth c own b nL ret G A)
    (hM : Met l y (Cond.code y bytes maxL rty :: gw_tbl) rm (PcW G (As) H.size wc) (va_Qi post (fun u t => BW G (va_A wc H.size) (w1 u) t) (va_A wc H.size)) mc ms (va_A wc H.size))
    (hw : wS own index y bytes maxL rty n) (hR : rm.frames + 1 ≤ R.frames ∧ 8 + (maxL + 11) + rm.locals ≤ R.locals) (hP : va_P G.1 CL ws H) (hD : va_D A ws) (hS : va_S A s.heap H locs)
    (isC isR : List Nat) (hC : isC.map (fun i => ws[i]?) = wc.map some) (hRR : isR.map (fun i => ws[i]?) = wr.map some) (hnC : va_nd isC = true) (hnd : va_nd isR = true) (hdis : ∀ i ∈ isR, i ∉ isC)
    (pm : List Nat) (hpn : va_nd pm = true) (hpm : ∀ u, pm.map (fun i => (wr ++ w1 u)[i]?) = (w2 u).map some)
    (hn : As.length = n) (hsz : ls.size = nL) (hst : st0 = As.reverse ++ rest) (hW : 2 * (F0 m pc ls st0).monitorRoom + (rest.map fun v => v.category).sum ≤ 8) (hdg : decode b pc = .ok (.invokestatic index, 3)) (hf : cells + mc ≤ R.cells ∧ slots + ms ≤ R.slots) (hrc : rm.cells = mc) (hrs : rm.slots = ms)
    (kk : ∀ (r : Int32) (u : S) (H1 : Heap) (locs1 : List Loc), post r u → va_P G.1 CL (w2 u) H1 → va_D A (w2 u) → va_S A s.heap H1 locs1 → W p l e R s m args below meth c H1 locs1 (cells + mc) (slots + ms) Q (F0 m (pc + 3) ls (.int r :: rest))) : W p l e R s m args below meth c H locs cells slots Q (F0 m pc ls st0) := by
  have C' := C
  obtain ⟨hx, hb, hml, hown, hr, hts, hK, hA, hlocks, hE⟩ := C'
  have hPc := sub_of hP isC hC
  have hDc := hD.sub isC hnC hC
  have hFc := va_free hD hS hA isC hC
  obtain ⟨hw1, hw2⟩ := hw
  refine va_calli (va_runS (As := As) (rest := rest) (g := F0 m pc ls st0) ⟨hx, hb, hml, hown, hts⟩ hM ⟨wB.of C hw1 hrc hrs hR, hts _ hw2⟩ (preS_of C hS hFc hPc hDc) rfl hn hsz hst hW hdg hf) hS (fun q _ h => hFc q h) (fun q h => hFc q h) (fun r u t H1 locs1 ht hvm hpost hB hz hk1 hS1 => ?_)
  obtain ⟨hP1, hK1, hD1⟩ := hB
  rw [ht] at hP1
  obtain ⟨hP2, hD2⟩ := va_join hP hD isC isR hC hRR hnd hdis hk1 hFc hP1 hD1
  obtain ⟨hP3, hD3⟩ := perm_of hP2 hD2 pm hpn (hpm u)
  exact kk r u H1 locs1 hpost hP3 hD3 hS1
theorem cl_Vl {S : Type} {post : Int64 → S → Prop} {w1 w2 : S → va_W} {bq : Nat} {As : List Value} (C : Cx p s m args meth c own b nL ret G A)
    (hM : Met l y (Cond.code y bytes maxL rty :: gw_tbl) rm (PcW G (.ref bq :: As) H.size wc) (va_Ql post (fun u t => BW G (va_A wc H.size) (w1 u) t) (va_A wc H.size)) mc ms (va_A wc H.size))
    (hw : wV own index y bytes maxL rty n) (hR : rm.frames + 1 ≤ R.frames ∧ 8 + (maxL + 11) + rm.locals ≤ R.locals) (hP : va_P G.1 CL ws H) (hD : va_D A ws) (hS : va_S A s.heap H locs) {T : u_T} {N ci : Nat} (q0 : Nat) {fs : List Value} (he : ws[q0]? = some (bq, .inr (ci, fs))) (hc : CL[ci]? = some (y.cls, T, N))
    (isC isR : List Nat) (hC : isC.map (fun i => ws[i]?) = wc.map some) (hRR : isR.map (fun i => ws[i]?) = wr.map some) (hnC : va_nd isC = true) (hnd : va_nd isR = true) (hdis : ∀ i ∈ isR, i ∉ isC)
    (pm : List Nat) (hpn : va_nd pm = true) (hpm : ∀ u, pm.map (fun i => (wr ++ w1 u)[i]?) = (w2 u).map some)
    (hn : As.length = n) (hsz : ls.size = nL) (hst : st0 = As.reverse ++ .ref bq :: rest) (hW : 2 * (F0 m pc ls st0).monitorRoom + (rest.map fun v => v.category).sum ≤ 8) (hdg : decode b pc = .ok (.invokevirtual index, 3)) (hf : cells + mc ≤ R.cells ∧ slots + ms ≤ R.slots) (hrc : rm.cells = mc) (hrs : rm.slots = ms)
    (kk : ∀ (r : Int64) (u : S) (H1 : Heap) (locs1 : List Loc), post r u → va_P G.1 CL (w2 u) H1 → va_D A (w2 u) → va_S A s.heap H1 locs1 → W p l e R s m args below meth c H1 locs1 (cells + mc) (slots + ms) Q (F0 m (pc + 3) ls (.long r :: rest))) : W p l e R s m args below meth c H locs cells slots Q (F0 m pc ls st0) := by
  have C' := C
  obtain ⟨hx, hb, hml, hown, hr, hts, hK, hA, hlocks, hE⟩ := C'
  have hPc := sub_of hP isC hC
  have hDc := hD.sub isC hnC hC
  have hFc := va_free hD hS hA isC hC
  obtain ⟨hw1, hw2, hw3⟩ := hw
  refine va_calll (va_runV (As := As) (rest := rest) (g := F0 m pc ls st0) ⟨hx, hb, hml, hown, hts⟩ hM ⟨wB.of C hw1 hrc hrs hR, hts _ hw2, hts _ hw3⟩ (preV_of C hS hFc hPc hDc hP he hc) rfl hn hsz hst hW hdg hf) hS (fun q _ h => hFc q h) (fun q h => hFc q h) (fun r u t H1 locs1 ht hvm hpost hB hz hk1 hS1 => ?_)
  obtain ⟨hP1, hK1, hD1⟩ := hB
  rw [ht] at hP1
  obtain ⟨hP2, hD2⟩ := va_join hP hD isC isR hC hRR hnd hdis hk1 hFc hP1 hD1
  obtain ⟨hP3, hD3⟩ := perm_of hP2 hD2 pm hpn (hpm u)
  exact kk r u H1 locs1 hpost hP3 hD3 hS1
theorem cl_Sl {S : Type} {post : Int64 → S → Prop} {w1 w2 : S → va_W} {As : List Value} (C : Cx p s m args meth c own b nL ret G A)
    (hM : Met l y (Cond.code y bytes maxL rty :: gw_tbl) rm (PcW G (As) H.size wc) (va_Ql post (fun u t => BW G (va_A wc H.size) (w1 u) t) (va_A wc H.size)) mc ms (va_A wc H.size))
    (hw : wS own index y bytes maxL rty n) (hR : rm.frames + 1 ≤ R.frames ∧ 8 + (maxL + 11) + rm.locals ≤ R.locals) (hP : va_P G.1 CL ws H) (hD : va_D A ws) (hS : va_S A s.heap H locs)
    (isC isR : List Nat) (hC : isC.map (fun i => ws[i]?) = wc.map some) (hRR : isR.map (fun i => ws[i]?) = wr.map some) (hnC : va_nd isC = true) (hnd : va_nd isR = true) (hdis : ∀ i ∈ isR, i ∉ isC)
    (pm : List Nat) (hpn : va_nd pm = true) (hpm : ∀ u, pm.map (fun i => (wr ++ w1 u)[i]?) = (w2 u).map some)
    (hn : As.length = n) (hsz : ls.size = nL) (hst : st0 = As.reverse ++ rest) (hW : 2 * (F0 m pc ls st0).monitorRoom + (rest.map fun v => v.category).sum ≤ 8) (hdg : decode b pc = .ok (.invokestatic index, 3)) (hf : cells + mc ≤ R.cells ∧ slots + ms ≤ R.slots) (hrc : rm.cells = mc) (hrs : rm.slots = ms)
    (kk : ∀ (r : Int64) (u : S) (H1 : Heap) (locs1 : List Loc), post r u → va_P G.1 CL (w2 u) H1 → va_D A (w2 u) → va_S A s.heap H1 locs1 → W p l e R s m args below meth c H1 locs1 (cells + mc) (slots + ms) Q (F0 m (pc + 3) ls (.long r :: rest))) : W p l e R s m args below meth c H locs cells slots Q (F0 m pc ls st0) := by
  have C' := C
  obtain ⟨hx, hb, hml, hown, hr, hts, hK, hA, hlocks, hE⟩ := C'
  have hPc := sub_of hP isC hC
  have hDc := hD.sub isC hnC hC
  have hFc := va_free hD hS hA isC hC
  obtain ⟨hw1, hw2⟩ := hw
  refine va_calll (va_runS (As := As) (rest := rest) (g := F0 m pc ls st0) ⟨hx, hb, hml, hown, hts⟩ hM ⟨wB.of C hw1 hrc hrs hR, hts _ hw2⟩ (preS_of C hS hFc hPc hDc) rfl hn hsz hst hW hdg hf) hS (fun q _ h => hFc q h) (fun q h => hFc q h) (fun r u t H1 locs1 ht hvm hpost hB hz hk1 hS1 => ?_)
  obtain ⟨hP1, hK1, hD1⟩ := hB
  rw [ht] at hP1
  obtain ⟨hP2, hD2⟩ := va_join hP hD isC isR hC hRR hnd hdis hk1 hFc hP1 hD1
  obtain ⟨hP3, hD3⟩ := perm_of hP2 hD2 pm hpn (hpm u)
  exact kk r u H1 locs1 hpost hP3 hD3 hS1
theorem cl_Vv {S : Type} {post : S → Prop} {w1 w2 : S → va_W} {bq : Nat} {As : List Value} (C : Cx p s m args meth c own b nL ret G A)
    (hM : Met l y (Cond.code y bytes maxL rty :: gw_tbl) rm (PcW G (.ref bq :: As) H.size wc) (va_Qv post (fun u t => BW G (va_A wc H.size) (w1 u) t) (va_A wc H.size)) mc ms (va_A wc H.size))
    (hw : wV own index y bytes maxL rty n) (hR : rm.frames + 1 ≤ R.frames ∧ 8 + (maxL + 11) + rm.locals ≤ R.locals) (hP : va_P G.1 CL ws H) (hD : va_D A ws) (hS : va_S A s.heap H locs) {T : u_T} {N ci : Nat} (q0 : Nat) {fs : List Value} (he : ws[q0]? = some (bq, .inr (ci, fs))) (hc : CL[ci]? = some (y.cls, T, N))
    (isC isR : List Nat) (hC : isC.map (fun i => ws[i]?) = wc.map some) (hRR : isR.map (fun i => ws[i]?) = wr.map some) (hnC : va_nd isC = true) (hnd : va_nd isR = true) (hdis : ∀ i ∈ isR, i ∉ isC)
    (pm : List Nat) (hpn : va_nd pm = true) (hpm : ∀ u, pm.map (fun i => (wr ++ w1 u)[i]?) = (w2 u).map some)
    (hn : As.length = n) (hsz : ls.size = nL) (hst : st0 = As.reverse ++ .ref bq :: rest) (hW : 2 * (F0 m pc ls st0).monitorRoom + (rest.map fun v => v.category).sum ≤ 8) (hdg : decode b pc = .ok (.invokevirtual index, 3)) (hf : cells + mc ≤ R.cells ∧ slots + ms ≤ R.slots) (hrc : rm.cells = mc) (hrs : rm.slots = ms)
    (kk : ∀ (u : S) (H1 : Heap) (locs1 : List Loc), post u → va_P G.1 CL (w2 u) H1 → va_D A (w2 u) → va_S A s.heap H1 locs1 → W p l e R s m args below meth c H1 locs1 (cells + mc) (slots + ms) Q (F0 m (pc + 3) ls rest)) : W p l e R s m args below meth c H locs cells slots Q (F0 m pc ls st0) := by
  have C' := C
  obtain ⟨hx, hb, hml, hown, hr, hts, hK, hA, hlocks, hE⟩ := C'
  have hPc := sub_of hP isC hC
  have hDc := hD.sub isC hnC hC
  have hFc := va_free hD hS hA isC hC
  obtain ⟨hw1, hw2, hw3⟩ := hw
  refine va_callv (va_runV (As := As) (rest := rest) (g := F0 m pc ls st0) ⟨hx, hb, hml, hown, hts⟩ hM ⟨wB.of C hw1 hrc hrs hR, hts _ hw2, hts _ hw3⟩ (preV_of C hS hFc hPc hDc hP he hc) rfl hn hsz hst hW hdg hf) hS (fun q _ h => hFc q h) (fun q h => hFc q h) (fun u t H1 locs1 ht hvm hpost hB hz hk1 hS1 => ?_)
  obtain ⟨hP1, hK1, hD1⟩ := hB
  rw [ht] at hP1
  obtain ⟨hP2, hD2⟩ := va_join hP hD isC isR hC hRR hnd hdis hk1 hFc hP1 hD1
  obtain ⟨hP3, hD3⟩ := perm_of hP2 hD2 pm hpn (hpm u)
  exact kk u H1 locs1 hpost hP3 hD3 hS1
theorem cl_Sv {S : Type} {post : S → Prop} {w1 w2 : S → va_W} {As : List Value} (C : Cx p s m args meth c own b nL ret G A)
    (hM : Met l y (Cond.code y bytes maxL rty :: gw_tbl) rm (PcW G (As) H.size wc) (va_Qv post (fun u t => BW G (va_A wc H.size) (w1 u) t) (va_A wc H.size)) mc ms (va_A wc H.size))
    (hw : wS own index y bytes maxL rty n) (hR : rm.frames + 1 ≤ R.frames ∧ 8 + (maxL + 11) + rm.locals ≤ R.locals) (hP : va_P G.1 CL ws H) (hD : va_D A ws) (hS : va_S A s.heap H locs)
    (isC isR : List Nat) (hC : isC.map (fun i => ws[i]?) = wc.map some) (hRR : isR.map (fun i => ws[i]?) = wr.map some) (hnC : va_nd isC = true) (hnd : va_nd isR = true) (hdis : ∀ i ∈ isR, i ∉ isC)
    (pm : List Nat) (hpn : va_nd pm = true) (hpm : ∀ u, pm.map (fun i => (wr ++ w1 u)[i]?) = (w2 u).map some)
    (hn : As.length = n) (hsz : ls.size = nL) (hst : st0 = As.reverse ++ rest) (hW : 2 * (F0 m pc ls st0).monitorRoom + (rest.map fun v => v.category).sum ≤ 8) (hdg : decode b pc = .ok (.invokestatic index, 3)) (hf : cells + mc ≤ R.cells ∧ slots + ms ≤ R.slots) (hrc : rm.cells = mc) (hrs : rm.slots = ms)
    (kk : ∀ (u : S) (H1 : Heap) (locs1 : List Loc), post u → va_P G.1 CL (w2 u) H1 → va_D A (w2 u) → va_S A s.heap H1 locs1 → W p l e R s m args below meth c H1 locs1 (cells + mc) (slots + ms) Q (F0 m (pc + 3) ls rest)) : W p l e R s m args below meth c H locs cells slots Q (F0 m pc ls st0) := by
  have C' := C
  obtain ⟨hx, hb, hml, hown, hr, hts, hK, hA, hlocks, hE⟩ := C'
  have hPc := sub_of hP isC hC
  have hDc := hD.sub isC hnC hC
  have hFc := va_free hD hS hA isC hC
  obtain ⟨hw1, hw2⟩ := hw
  refine va_callv (va_runS (As := As) (rest := rest) (g := F0 m pc ls st0) ⟨hx, hb, hml, hown, hts⟩ hM ⟨wB.of C hw1 hrc hrs hR, hts _ hw2⟩ (preS_of C hS hFc hPc hDc) rfl hn hsz hst hW hdg hf) hS (fun q _ h => hFc q h) (fun q h => hFc q h) (fun u t H1 locs1 ht hvm hpost hB hz hk1 hS1 => ?_)
  obtain ⟨hP1, hK1, hD1⟩ := hB
  rw [ht] at hP1
  obtain ⟨hP2, hD2⟩ := va_join hP hD isC isR hC hRR hnd hdis hk1 hFc hP1 hD1
  obtain ⟨hP3, hD3⟩ := perm_of hP2 hD2 pm hpn (hpm u)
  exact kk u H1 locs1 hpost hP3 hD3 hS1
theorem cl_Iv {S : Type} {post : S → Prop} {w1 w2 : S → va_W} {bq : Nat} {As : List Value} (C : Cx p s m args meth c own b nL ret G A)
    (hM : Met l y (Cond.code y bytes maxL none :: gw_tbl) rm (PcW G (.ref bq :: As) H.size wc) (va_Qv post (fun u t => BW G (va_A wc H.size) (w1 u) t) (va_A wc H.size)) mc ms (va_A wc H.size))
    (hw : wI own index y bytes maxL n) (hR : rm.frames + 1 ≤ R.frames ∧ 8 + (maxL + 11) + rm.locals ≤ R.locals) (hP : va_P G.1 CL ws H) (hD : va_D A ws) (hS : va_S A s.heap H locs)
    (isC isR : List Nat) (hC : isC.map (fun i => ws[i]?) = wc.map some) (hRR : isR.map (fun i => ws[i]?) = wr.map some) (hnC : va_nd isC = true) (hnd : va_nd isR = true) (hdis : ∀ i ∈ isR, i ∉ isC)
    (pm : List Nat) (hpn : va_nd pm = true) (hpm : ∀ u, pm.map (fun i => (wr ++ w1 u)[i]?) = (w2 u).map some)
    (hn : As.length = n) (hsz : ls.size = nL) (hst : st0 = As.reverse ++ .ref bq :: rest) (hW : 2 * (F0 m pc ls st0).monitorRoom + (rest.map fun v => v.category).sum ≤ 8) (hdg : decode b pc = .ok (.invokespecial index, 3)) (hf : cells + mc ≤ R.cells ∧ slots + ms ≤ R.slots) (hrc : rm.cells = mc) (hrs : rm.slots = ms)
    (kk : ∀ (u : S) (H1 : Heap) (locs1 : List Loc), post u → va_P G.1 CL (w2 u) H1 → va_D A (w2 u) → va_S A s.heap H1 locs1 → W p l e R s m args below meth c H1 locs1 (cells + mc) (slots + ms) Q (F0 m (pc + 3) ls rest)) : W p l e R s m args below meth c H locs cells slots Q (F0 m pc ls st0) := by
  have C' := C
  obtain ⟨hx, hb, hml, hown, hr, hts, hK, hA, hlocks, hE⟩ := C'
  have hPc := sub_of hP isC hC
  have hDc := hD.sub isC hnC hC
  have hFc := va_free hD hS hA isC hC
  obtain ⟨hw1, hw2, hw3⟩ := hw
  refine va_callv (va_runI (As := As) (rest := rest) (g := F0 m pc ls st0) ⟨hx, hb, hml, hown, hts⟩ hM ⟨wB.of C hw1 hrc hrs hR, hw2, hts _ hw3⟩ (preS_of C hS hFc hPc hDc) rfl hn hsz hst hW hdg hf) hS (fun q _ h => hFc q h) (fun q h => hFc q h) (fun u t H1 locs1 ht hvm hpost hB hz hk1 hS1 => ?_)
  obtain ⟨hP1, hK1, hD1⟩ := hB
  rw [ht] at hP1
  obtain ⟨hP2, hD2⟩ := va_join hP hD isC isR hC hRR hnd hdis hk1 hFc hP1 hD1
  obtain ⟨hP3, hD3⟩ := perm_of hP2 hD2 pm hpn (hpm u)
  exact kk u H1 locs1 hpost hP3 hD3 hS1
theorem cl_Vr {S : Type} {post : Nat × S → Prop} {w1 w2 : S → va_W} {bq : Nat} {As : List Value} (C : Cx p s m args meth c own b nL ret G A)
    (hM : Met l y (Cond.code y bytes maxL rty :: gw_tbl) rm (PcW G (.ref bq :: As) H.size wc) (va_Qr post (fun u a t => a = u.1 ∧ BW G (va_A wc H.size) (w1 u.2) t) (va_A wc H.size)) mc ms (va_A wc H.size))
    (hw : wV own index y bytes maxL rty n) (hR : rm.frames + 1 ≤ R.frames ∧ 8 + (maxL + 11) + rm.locals ≤ R.locals) (hP : va_P G.1 CL ws H) (hD : va_D A ws) (hS : va_S A s.heap H locs) {T : u_T} {N ci : Nat} (q0 : Nat) {fs : List Value} (he : ws[q0]? = some (bq, .inr (ci, fs))) (hc : CL[ci]? = some (y.cls, T, N))
    (isC isR : List Nat) (hC : isC.map (fun i => ws[i]?) = wc.map some) (hRR : isR.map (fun i => ws[i]?) = wr.map some) (hnC : va_nd isC = true) (hnd : va_nd isR = true) (hdis : ∀ i ∈ isR, i ∉ isC)
    (pm : List Nat) (hpn : va_nd pm = true) (hpm : ∀ u, pm.map (fun i => (wr ++ w1 u)[i]?) = (w2 u).map some)
    (hn : As.length = n) (hsz : ls.size = nL) (hst : st0 = As.reverse ++ .ref bq :: rest) (hW : 2 * (F0 m pc ls st0).monitorRoom + (rest.map fun v => v.category).sum ≤ 8) (hdg : decode b pc = .ok (.invokevirtual index, 3)) (hf : cells + mc ≤ R.cells ∧ slots + ms ≤ R.slots) (hrc : rm.cells = mc) (hrs : rm.slots = ms)
    (kk : ∀ (z : Nat) (u : S) (H1 : Heap) (locs1 : List Loc), post (z, u) → va_P G.1 CL (w2 u) H1 → va_D A (w2 u) → va_S A s.heap H1 locs1 → W p l e R s m args below meth c H1 locs1 (cells + mc) (slots + ms) Q (F0 m (pc + 3) ls (.ref z :: rest))) : W p l e R s m args below meth c H locs cells slots Q (F0 m pc ls st0) := by
  have C' := C
  obtain ⟨hx, hb, hml, hown, hr, hts, hK, hA, hlocks, hE⟩ := C'
  have hPc := sub_of hP isC hC
  have hDc := hD.sub isC hnC hC
  have hFc := va_free hD hS hA isC hC
  obtain ⟨hw1, hw2, hw3⟩ := hw
  refine va_callr (va_runV (As := As) (rest := rest) (g := F0 m pc ls st0) ⟨hx, hb, hml, hown, hts⟩ hM ⟨wB.of C hw1 hrc hrs hR, hts _ hw2, hts _ hw3⟩ (preV_of C hS hFc hPc hDc hP he hc) rfl hn hsz hst hW hdg hf) hS (fun q _ h => hFc q h) (fun q h => hFc q h) (fun u ra t H1 locs1 ht hvm hpost hB hz hk1 hS1 => ?_)
  obtain ⟨hra, hP1, hK1, hD1⟩ := hB
  rw [ht] at hP1
  obtain ⟨hP2, hD2⟩ := va_join hP hD isC isR hC hRR hnd hdis hk1 hFc hP1 hD1
  obtain ⟨hP3, hD3⟩ := perm_of hP2 hD2 pm hpn (hpm u.2)
  subst hra
  exact kk u.1 u.2 H1 locs1 hpost hP3 hD3 hS1
end CALLS
