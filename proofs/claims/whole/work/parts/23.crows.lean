def zo : Ob := (fun _ => 0, fun _ => 0, fun _ _ => 0, fun _ _ => 0)
theorem va_P.chg {D : va_G} {cl : List vw_C} {ws : va_W} {H : Heap} (h : va_P D cl ws H) (k : Nat) {x x' : Nat × va_E} (he : ws[k]? = some x) (hx : va_at D cl x H → va_at D cl x' H) : va_P D cl (ws.set k x') H := by
  have hl := (List.getElem?_eq_some_iff.mp he).1
  intro j q hj
  by_cases hk : j = k
  · subst hk
    rw [List.getElem?_set_self hl] at hj
    obtain rfl := Option.some.inj hj
    exact hx (h j x he)
  · rw [List.getElem?_set_ne (Ne.symm hk)] at hj
    exact h j q hj
theorem va_D.chg {A : Nat → Prop} {ws : va_W} (hD : va_D A ws) (k : Nat) {x x' : Nat × va_E} (he : ws[k]? = some x) (hx : x'.1 = x.1) : va_D A (ws.set k x') := by
  obtain ⟨a, e⟩ := x
  obtain ⟨a', e'⟩ := x'
  simp only at hx
  subst hx
  exact hD.set he
theorem kQ_congr {G : Gl} {q n : Nat} {f g : Nat → Option Nat} {H : Heap} (h : ∀ j, j < n → f j = g j) : va_at G.1 CL (kQ G q n f) H → va_at G.1 CL (kQ G q n g) H := by
  have e : arrV (G.2.1 4) n (fun j => va_rf (f j)) = arrV (G.2.1 4) n (fun j => va_rf (g j)) := by
    unfold arrV
    congr 1
    congr 1
    funext j
    show va_rf (f j.val) = va_rf (g j.val)
    rw [h j.val j.isLt]
  intro h1
  have h2 : H[q]? = some (arrV (G.2.1 4) n (fun j => va_rf (f j))) := h1
  show H[q]? = some (arrV (G.2.1 4) n (fun j => va_rf (g j)))
  rw [← e]
  exact h2
def wN (own : String) (index : Nat) (y : MethodName) (bytes : ByteArray) (maxL : Nat) (n : Nat) : Prop := Cond.methodLinkNest own index y "PipeVoice" ∈ nxL ∧ Cond.initialized y.cls ∈ gw_tbl ∧ Cond.code y bytes maxL none ∈ gw_tbl ∧ y.cls ≠ "java/lang/invoke/MethodHandle" ∧ y.cls ≠ "java/lang/invoke/VarHandle" ∧ (parseMethodDescriptor y.desc).map (fun d => d.parameters.length) = some n ∧ y.name = "<init>" ∧ Cond.instanceMethod y ∈ gw_tbl
/-- where an array of laws is made: somebody has made one before -/
def PcA (G : Gl) (av : List Value) (sz : Nat) (ws : va_W) : Array Value → State → Prop := fun v U => PcW G av sz ws v U ∧ va_AO R_La U
theorem PcA.blind {G : Gl} {av : List Value} {sz : Nat} {ws : va_W} : FrameBlind (PcA G av sz ws) := by
  intro a U g mk h
  exact ⟨PcW.blind a U g mk h.1, va_AO.moved (u := U) (U := U.calling g mk a) (Vm.Alike.refl U.vm) h.2⟩
section CTO
variable {p : Program} {l : Launch} {e : Env} {R : Room} {s : State} {m : MethodId} {args : Array Value} {below : List Frame} {meth : Method} {c : Code} {H : Heap} {locs : List Loc} {cells slots : Nat} {Q : State → Prop}
variable {own : String} {b : ByteArray} {nL : Nat} {ret : Option FieldType} {G : Gl} {A : Nat → Prop}
variable {y : MethodName} {bytes : ByteArray} {maxL mc ms n index : Nat} {rm : Room} {pc : Nat} {ls : Array Slot} {rest st0 : List Value} {wc wr ws : va_W}
theorem cl_Nv {S : Type} {post : S → Prop} {w1 w2 : S → va_W} {bq : Nat} {As : List Value} (C : Cx p s m args meth c own b nL ret G A)
    (hM : Met l y (Cond.code y bytes maxL none :: gw_tbl) rm (PcW G (.ref bq :: As) H.size wc) (va_Qv post (fun u t => BW G (va_A wc H.size) (w1 u) t) (va_A wc H.size)) mc ms (va_A wc H.size))
    (hw : wN own index y bytes maxL n) (hR : rm.frames + 1 ≤ R.frames ∧ 8 + (maxL + 11) + rm.locals ≤ R.locals) (hP : va_P G.1 CL ws H) (hD : va_D A ws) (hS : va_S A s.heap H locs)
    (isC isR : List Nat) (hC : isC.map (fun i => ws[i]?) = wc.map some) (hRR : isR.map (fun i => ws[i]?) = wr.map some) (hnC : va_nd isC = true) (hnd : va_nd isR = true) (hdis : ∀ i ∈ isR, i ∉ isC)
    (pm : List Nat) (hpn : va_nd pm = true) (hpm : ∀ u, pm.map (fun i => (wr ++ w1 u)[i]?) = (w2 u).map some)
    (hn : As.length = n) (hsz : ls.size = nL) (hst : st0 = As.reverse ++ .ref bq :: rest) (hW : 2 * (F0 m pc ls st0).monitorRoom + (rest.map fun v => v.category).sum ≤ 8) (hdg : decode b pc = .ok (.invokespecial index, 3)) (hf : cells + mc ≤ R.cells ∧ slots + ms ≤ R.slots) (hrc : rm.cells = mc) (hrs : rm.slots = ms)
    (kk : ∀ (u : S) (H1 : Heap) (locs1 : List Loc), post u → va_P G.1 CL (w2 u) H1 → va_D A (w2 u) → va_S A s.heap H1 locs1 → W p l e R s m args below meth c H1 locs1 (cells + mc) (slots + ms) Q (F0 m (pc + 3) ls rest)) : W p l e R s m args below meth c H locs cells slots Q (F0 m pc ls st0) := by
  have C' := C
  obtain ⟨hx, hb, hml, hown, hr, hts, hK, hA, hlocks, hE⟩ := C'
  have hPc := sub_of hP isC hC
  have hDc := hD.sub isC hnC hC
  have hFc := va_free hD hS hA isC hC
  obtain ⟨hw1, hw2, hw3, hd1, hd2, hd3, hw4, hw5⟩ := hw
  refine va_callv (va_runIN (As := As) (rest := rest) (g := F0 m pc ls st0) (host := "PipeVoice") ⟨hx, hb, hml, hown, hts⟩ hM ⟨va_cnB n hts (gw_cons hw3) rfl hrc hrs (hE.2.2 _ hw1) (hts _ hw2) ⟨hd1, hd2, hd3⟩ hR, hw4, hts _ hw5⟩ (preS_of C hS hFc hPc hDc) rfl hn hsz hst hW hdg hf) hS (fun q _ h => hFc q h) (fun q h => hFc q h) (fun u t H1 locs1 ht hvm hpost hB hz hk1 hS1 => ?_)
  obtain ⟨hP1, hK1, hD1⟩ := hB
  rw [ht] at hP1
  obtain ⟨hP2, hD2⟩ := va_join hP hD isC isR hC hRR hnd hdis hk1 hFc hP1 hD1
  obtain ⟨hP3, hD3⟩ := perm_of hP2 hD2 pm hpn (hpm u)
  exact kk u H1 locs1 hpost hP3 hD3 hS1
theorem xa_newAL (C : Cx p s m args meth c own b nL ret G A) (hcl : (Cond.classLink own index R_La).before args s = true) (hini : (Cond.initialized R_La).before args s = true) (hov : va_AO R_La s) (hP : va_P G.1 CL ws H) (hD : va_D A ws) (hS : va_S A s.heap H locs) {k : Int32} {N : Nat} (hn : ¬ k < 0) (hN : k.toNatClampNeg = N) (hcells : cells + 1 ≤ R.cells) (hslots : slots + N ≤ R.slots) (hby : N * 4 ≤ 536870912 := by decide) (hdg : decode b pc = .ok (.anewarray index, 3))
    (kk : ∀ (q : Nat) (H1 : Heap), va_P G.1 CL (ws ++ [kQ G q N (fun _ => none)]) H1 → va_D A (ws ++ [kQ G q N (fun _ => none)]) → va_S A s.heap H1 locs → W p l e R s m args below meth c H1 locs (cells + 1) (slots + N) Q (F0 m (pc + 3) ls (.ref q :: rest))) : W p l e R s m args below meth c H locs cells slots Q (F0 m pc ls (.int k :: rest)) := by
  obtain ⟨hx, hb, hml, hown, hr, hts, hK, hA, hlocks, hE⟩ := id C
  refine va_newq (C := R_La) hx hb hown hcl hov hK hP hD hS hA hn hN hby hcells hslots hdg (fun q cA H1 hK1 hP1 hD1 hS1 => ?_)
  obtain ⟨kA1, comp1, -, -, -, e1⟩ := (hK.2 4 _ rfl).2
  obtain ⟨kA2, comp2, -, -, -, e2⟩ := (hK1.2 5 _ rfl).2
  have e3 : cA = G.2.1 4 := Option.some.inj (e2.symm.trans e1)
  subst e3
  exact kk q H1 hP1 hD1 hS1
theorem cl_IvA {S : Type} {post : S → Prop} {w1 w2 : S → va_W} {bq : Nat} {As : List Value} (C : Cx p s m args meth c own b nL ret G A) (hO : va_AO R_La s)
    (hM : Met l y (Cond.code y bytes maxL none :: gw_tbl) rm (PcA G (.ref bq :: As) H.size wc) (va_Qv post (fun u t => BW G (va_A wc H.size) (w1 u) t) (va_A wc H.size)) mc ms (va_A wc H.size))
    (hw : wI own index y bytes maxL n) (hR : rm.frames + 1 ≤ R.frames ∧ 8 + (maxL + 11) + rm.locals ≤ R.locals) (hP : va_P G.1 CL ws H) (hD : va_D A ws) (hS : va_S A s.heap H locs)
    (isC isR : List Nat) (hC : isC.map (fun i => ws[i]?) = wc.map some) (hRR : isR.map (fun i => ws[i]?) = wr.map some) (hnC : va_nd isC = true) (hnd : va_nd isR = true) (hdis : ∀ i ∈ isR, i ∉ isC)
    (pm : List Nat) (hpn : va_nd pm = true) (hpm : ∀ u, pm.map (fun i => (wr ++ w1 u)[i]?) = (w2 u).map some)
    (hn : As.length = n) (hsz : ls.size = nL) (hst : st0 = As.reverse ++ .ref bq :: rest) (hW : 2 * (F0 m pc ls st0).monitorRoom + (rest.map fun v => v.category).sum ≤ 8) (hdg : decode b pc = .ok (.invokespecial index, 3)) (hf : cells + mc ≤ R.cells ∧ slots + ms ≤ R.slots) (hrc : rm.cells = mc) (hrs : rm.slots = ms)
    (kk : ∀ (u : S) (H1 : Heap) (locs1 : List Loc), post u → va_P G.1 CL (w2 u) H1 → va_D A (w2 u) → va_S A s.heap H1 locs1 → W p l e R s m args below meth c H1 locs1 (cells + mc) (slots + ms) Q (F0 m (pc + 3) ls rest)) : W p l e R s m args below meth c H locs cells slots Q (F0 m pc ls st0) := by
  have C' := C
  obtain ⟨hx, hb, hml, hown, hr, hts, hK, hA, hlocks, hE⟩ := C'
  have hPc := sub_of hP isC hC
  have hDc := hD.sub isC hnC hC
  have hFc := va_free hD hS hA isC hC
  obtain ⟨hw1, hw2, hw3⟩ := hw
  refine va_callv (va_runI (As := As) (rest := rest) (g := F0 m pc ls st0) ⟨hx, hb, hml, hown, hts⟩ hM ⟨wB.of C hw1 hrc hrs hR, hw2, hts _ hw3⟩ ⟨PcA.blind, fun U hU hW => ⟨(preS_of C hS hFc hPc hDc).2 U hU hW, hO.moved hW.alike⟩⟩ rfl hn hsz hst hW hdg hf) hS (fun q _ h => hFc q h) (fun q h => hFc q h) (fun u t H1 locs1 ht hvm hpost hB hz hk1 hS1 => ?_)
  obtain ⟨hP1, hK1, hD1⟩ := hB
  rw [ht] at hP1
  obtain ⟨hP2, hD2⟩ := va_join hP hD isC isR hC hRR hnd hdis hk1 hFc hP1 hD1
  obtain ⟨hP3, hD3⟩ := perm_of hP2 hD2 pm hpn (hpm u)
  exact kk u H1 locs1 hpost hP3 hD3 hS1
end CTO
