/-! THROWING, AS THE CLASS DOES IT: what a throw stands on, carried through the calls; one row a throw, one row a call that throws -/
abbrev sx_RE : String := "java/lang/RuntimeException"
def sx_NS : List String := ["java/lang/Exception"]
abbrev sx_IAE : String := "java/lang/IllegalArgumentException"
abbrev sx_NSE : String := "java/util/NoSuchElementException"
def sx_LI : List Cond := (sx_own RX 24 sx_IAE sx_RE 7 prog_5_method_2_code sx_NS).filter vx_no
def sx_LN : List Cond := (sx_own RX 116 sx_NSE sx_RE 13 prog_11_method_4_code sx_NS).filter vx_no
def sx_L : List Cond := sx_LI ++ sx_LN
theorem sx_L_on : ∀ w ∈ sx_L, w.onTables = true := by decide +kernel
theorem sx_L_wb : ∀ w ∈ sx_L, w.warmB [] = true := by decide +kernel
set_option maxRecDepth 20000 in
theorem sx_L_in : ∀ w ∈ sx_L, w ∈ lw_tbl := by decide +kernel
def sx_Ok (U : State) : Prop := ∀ w ∈ sx_L, w.before #[] U = true
theorem sx_any {w : Cond} {a a' : Array Value} {U : State} (hw : w.onTables = true) (h : w.before a U = true) : w.before a' U = true := by
  have e := Cond.onTables_vm (A := a) (A' := a') (U := U) (U' := U) U.vm w hw
  rw [State.setVm_self] at e
  rw [← e]; exact h
theorem sx_Ok.warm {s U : State} (h : sx_Ok s) (hW : s.WarmedH U.vm) : sx_Ok U := fun w hw => by
  have h1 := Cond.before_warmed (args := #[]) hW w (Cond.warmOk_of_B (names := []) (fun _ z => nomatch z) w (sx_L_wb w hw)) (h w hw)
  rw [Cond.onTables_vm (A' := #[]) (U' := U) U.vm w (sx_L_on w hw), State.setVm_self] at h1
  exact h1
/-- the texts of the throws: their entries in the class's pool -/
def sx_T : List (Nat × String) := [(22, "n is not 16 .. 16384"), (34, "fields or words is not 0 .. 2000"), (104, "what is not 0 .. 6"), (114, "no such root"), (120, "no such object"), (125, "no such field"), (130, "no such word")]
def sx_G (A : Nat → Prop) (U : State) (H : Heap) : Prop := sx_Ok U ∧ vx_Zq Bundle.tN "UNASSIGNED_STACK" Bundle.steD A U H ∧ vx_Zq Bundle.tN "SUPPRESSED_SENTINEL" Bundle.listD A U H ∧ ∀ q ∈ sx_T, ∃ sa, vk_R RX q.1 q.2 sa U
theorem sx_G.warm {A : Nat → Prop} {s U : State} {H : Heap} (h : sx_G A s H) (hW : s.WarmedH U.vm) : sx_G A U H :=
  ⟨h.1.warm hW, h.2.1.moved hW.alike, h.2.2.1.moved hW.alike, fun q hq => by obtain ⟨sa, h1⟩ := h.2.2.2 q hq; exact ⟨sa, vk_R.warm hW h1⟩⟩
theorem sx_G.kept {A : Nat → Prop} {s : State} {H H1 : Heap} (h : sx_G A s H) (hq : ∀ a : Nat, a < H.size → ¬ A a → H1[a]? = H[a]?) : sx_G A s H1 := ⟨h.1, h.2.1.kept hq, h.2.2.1.kept hq, h.2.2.2⟩
theorem sx_G.narrow {A B : Nat → Prop} {s : State} {H : Heap} (h : sx_G A s H) (hAB : ∀ q, B q → A q) : sx_G B s H := ⟨h.1, h.2.1.narrow hAB, h.2.2.1.narrow hAB, h.2.2.2⟩
theorem sx_G.calling {A : Nat → Prop} {U : State} {H : Heap} (g : JFrame) (mk : MethodId) (a : Array Value) (h : sx_G A U H) : sx_G A (U.calling g mk a) H := h.warm (State.WarmedH.refl U)
abbrev sy_Mx (l : Launch) (y : MethodName) (wds : List Cond) (rm : Room) (D : va_G) (cl : List vw_C) (tys : List (ClassId × FieldType)) (av : List Value) (ws : va_W) (sz : Nat) (E : String) (mc ms : Nat) : Prop :=
  vx_Met l y wds rm (va_Pc av (fun U => sy_in D cl tys ws sz U ∧ sx_G (va_A ws sz) U U.heap)) (fun _ _ _ _ => False) (vx_X (fun (_ : Unit) => True) (fun E' _ t => E' = E ∧ sy_out D cl tys (va_A ws sz) ws t) (va_A ws sz)) mc ms (va_A ws sz)
theorem sx_goodI : ∀ w ∈ Cond.classLink RX 20 sx_IAE :: Cond.initialized sx_IAE :: sx_LI, vx_ot w = true := by decide +kernel
theorem sx_goodN : ∀ w ∈ Cond.classLink RX 112 sx_NSE :: Cond.initialized sx_NSE :: sx_LN, vx_ot w = true := by decide +kernel
section TX
variable {p : Program} {l : Launch} {e : Env} {R : Room} {s : State} {m : MethodId} {args : Array Value} {below : List Frame} {meth : Method} {c : Code} {H : Heap} {locs : List Loc} {cells slots : Nat} {Q : State → Prop}
variable {cc : ByteArray} {pc mc ms : Nat} {rest : List Value} {ls : Array Slot} {D : va_G} {cl : List vw_C} {tys : List (ClassId × FieldType)} {A : Nat → Prop} {ws : va_W}
/-- throw new E("text"), by the class -/
theorem sy_throw {E text : String} {ik is ic i1 : Nat} {b1 : ByteArray} (hE : (E = sx_IAE ∧ ik = 20 ∧ ic = 24 ∧ i1 = 7 ∧ b1 = prog_5_method_2_code) ∨ (E = sx_NSE ∧ ik = 112 ∧ ic = 116 ∧ i1 = 13 ∧ b1 = prog_11_method_4_code)) (hexec : p.tables.exec = Jvm.exec) (hb : c.code = cc) (hst : l.stackTraces = false) (hown : s.vm.findClass RX = some m.cls) (hbg : ∀ w ∈ sr_big, w.before args s = true) (ht : (is, text) ∈ sx_T)
    (hG : sx_G A s s.heap) (hP : va_P D cl ws H) (hK : va_K D cl tys s) (hD : va_D A ws) (hS : va_S A s.heap H locs) (hsize : ls.size = c.maxLocals)
    (d0 : decode cc pc = .ok (.new ik, 3)) (d3 : decode cc (pc + 3) = .ok (.dup, 1)) (d4 : decode cc (pc + 4) = .ok (.ldc is, 2)) (d6 : decode cc (pc + 6) = .ok (.invokespecial ic, 3)) (d9 : decode cc (pc + 9) = .ok (.athrow, 1))
    (htab : ∀ x ∈ c.exceptionTable.toList, False) (hRframes : 5 < R.frames) (hRlocals : (rest.map fun v => v.category).sum + 82 ≤ R.locals) (hRcells : cells + 1 ≤ R.cells) (hRslots : slots + 6 ≤ R.slots) (hlocks : meth.locks = false) (hc : cells + 1 ≤ mc) (hs : slots + 6 ≤ ms) :
    W p l e R s m args below meth c H locs cells slots (vx_MQ below (fun _ _ _ _ => False) (vx_X (fun (_ : Unit) => True) (fun E' _ t => E' = E ∧ sy_out D cl tys A ws t) A) args s mc ms A) (F0 m pc ls rest) := by
  obtain ⟨sa, hstr⟩ := hG.2.2.2 _ ht
  have hx : ∀ t : State, s.vm.Alike t.vm → H.size ≤ t.heap.size → (∀ q : Nat, q < H.size → t.heap[q]? = H[q]?) → vx_X (fun (_ : Unit) => True) (fun E' _ t => E' = E ∧ sy_out D cl tys A ws t) A E s t := fun t hal hz hq =>
    ⟨(), trivial, ⟨rfl, hP.kept (fun k q hk => hq q.1 (hP k q hk).lt), va_K.moved hal hK, hD⟩, Nat.le_trans hS.1 hz, fun q h1 h2 => (hq q (Nat.lt_of_lt_of_le h1 hS.1)).trans (hS.2.1 q h1 h2)⟩
  have hout : ∀ x ∈ c.exceptionTable.toList, covers x (pc + 9) = false := fun x h => (htab x h).elim
  obtain ⟨hat, hgood, hk, hini, hfit, g0, g1, g2, g5⟩ : (∀ w ∈ (sx_own RX ic E sx_RE i1 b1 sx_NS).filter vx_no, w.before args s = true) ∧ (∀ w ∈ Cond.classLink RX ik E :: Cond.initialized E :: (sx_own RX ic E sx_RE i1 b1 sx_NS).filter vx_no, vx_ot w = true) ∧ (Cond.classLink RX ik E).before args s = true ∧ (Cond.initialized E).before args s = true ∧ Bundle.fit E = true ∧
      decode b1 0 = .ok (.aload_n 0, 1) ∧ decode b1 1 = .ok (.aload_n 1, 1) ∧ decode b1 2 = .ok (.invokespecial i1, 3) ∧ decode b1 5 = .ok (.return_, 1) := by
    rcases hE with ⟨rfl, rfl, rfl, rfl, rfl⟩ | ⟨rfl, rfl, rfl, rfl, rfl⟩
    · exact ⟨fun w hw => sx_any (sx_L_on w (List.mem_append_left _ hw)) (hG.1 w (List.mem_append_left _ hw)), sx_goodI, hbg _ (by decide +kernel), hbg _ (by decide +kernel), by decide +kernel, by decide +kernel, by decide +kernel, by decide +kernel, by decide +kernel⟩
    · exact ⟨fun w hw => sx_any (sx_L_on w (List.mem_append_right _ hw)) (hG.1 w (List.mem_append_right _ hw)), sx_goodN, hbg _ (by decide +kernel), hbg _ (by decide +kernel), by decide +kernel, by decide +kernel, by decide +kernel, by decide +kernel, by decide +kernel⟩
  intro T hT X
  have htr : e.platform.stackTraces = false := (show e.platform.stackTraces = l.stackTraces by rw [X.admits.platform]).trans hst
  have Y := vx_rebase X (R' := { frames := R.frames, locals := R.locals, cells := 1, slots := 6 }) (Nat.le_refl _) (Nat.le_refl _) hRcells hRslots
  obtain ⟨s', hA⟩ : ∃ z, z = (T.setVm s.vm).setFrames (.invoking m args :: below) := ⟨_, rfl⟩
  rw [← hA] at Y
  have hvm : s'.vm = s.vm := by rw [hA]; rfl
  have hhp : s'.heap = H := by rw [hA]; exact hT
  have hW0 : s.WarmedH s'.vm := by rw [hvm]; exact State.WarmedH.refl s
  have hat' : ∀ w ∈ (sx_own RX ic E sx_RE i1 b1 sx_NS).filter vx_no, w.before args s' = true := fun w hw => vx_ot_at hW0 hvm.symm (hgood w (List.mem_cons_of_mem _ (List.mem_cons_of_mem _ hw))) (hat w hw)
  have hk' : (Cond.classLink RX ik E).before args s' = true := vx_ot_at hW0 hvm.symm (hgood _ List.mem_cons_self) hk
  have hini' : (Cond.initialized E).before args s' = true := vx_ot_at hW0 hvm.symm (hgood _ (List.mem_cons_of_mem _ List.mem_cons_self)) hini
  have hU' : vx_Zq Bundle.tN "UNASSIGNED_STACK" Bundle.steD A s' s'.heap := by rw [hhp]; exact vx_Zq.moved hW0.alike (hG.2.1.kept hS.2.1)
  have hN' : vx_Zq Bundle.tN "SUPPRESSED_SENTINEL" Bundle.listD A s' s'.heap := by rw [hhp]; exact vx_Zq.moved hW0.alike (hG.2.2.1.kept hS.2.1)
  have h : ∀ w ∈ sx_own RX ic E sx_RE i1 b1 sx_NS, w.before args s' = true := vx_own hat' (vx_isRefq hU'.1) (vx_isRefq hN'.1) hU'.2.word hN'.2.word
  have hown' : s'.vm.findClass RX = some m.cls := by rw [hvm]; exact hown
  have hins : (Cond.instantiable E 6).before args s' = true := h _ (by simp [sx_own, sx_tail])
  obtain ⟨vm₁, cX, kX, hfX, hkX, -, -, X₁, st1⟩ := Y.newCold hexec (own := RX) (C := E) (index := ik) (n := 6) hown' hk' hins hini'
    (g := F0 m pc ls rest) rfl (by rw [hb]; exact d0) (Nat.le_refl _) (Nat.le_refl _)
  generalize hT1 : (T.setVm vm₁).pushCell { cls := cX, slots := kX.instanceTypes.map defaultValue, vm := .none } = T1 at X₁ st1
  have hcat : (Value.ref T.heap.size).category = 1 := rfl
  have hcellA : T1.heap[T.heap.size]? = some (freshCell cX kX) := by rw [← hT1]; exact State.heap_pushCell_size _ _
  have d3' : decode c.code (pc + 3) = .ok (.dup, 1) := by rw [hb]; exact d3
  have d4' : decode c.code (pc + 4) = .ok (.ldc is, 2) := by rw [hb]; exact d4
  have hstr' : vk_R RX is text sa s' := vk_R.warm hW0 hstr
  obtain ⟨U, hsteps, hrun, hend, hW, hsame, ce, hce, hcv, hcl0⟩ := sx_ctor X₁ hexec htr (own := RX) (cls := E) (Y := sx_RE) (names := sx_NS) (ic := ic) (i1 := i1) (b1 := b1) hown' hfit (by decide +kernel) (by decide +kernel) g0 g1 g2 g5 h (vx_isRefq hU'.1) (vx_isRefq hN'.1) (fun x hx => nomatch hx) hfX hkX hcellA (by rw [hhp, hT]; exact Nat.le_refl _) (msg := .ref sa) rfl
    (g := { method := m, pc := pc + 6, locals := ls, stack := .ref sa :: .ref T.heap.size :: .ref T.heap.size :: rest, locked := none }) rfl hsize rfl rfl (rest := rest) rfl
    (by rw [hb]; exact d6) (by rw [hb]; exact d9) hout hRframes (by simp only [List.map_cons, List.sum_cons, hcat, sx_NS, List.length_cons, List.length_nil]; have : (F0 m pc ls rest).monitorRoom = 0 := rfl; omega) hlocks
  obtain ⟨f1, f2⟩ := vx_frame hsame
  rw [hhp] at f1 f2
  have hWs : s.WarmedH U.vm := State.WarmedH.trans hW0 hW
  have hcl : s.vm.findClass E = some ce.cls := by rw [hvm] at hcl0; exact hcl0
  have hall : s.sameButNew ({ U with vm := s.vm } : State) locs mc ms := by
    subst hA
    obtain ⟨e1, e2⟩ := hsame
    rw [State.setFrames_setFrames] at e1
    have h2 : (T.setVm s.vm).sameButNew ({ U with vm := s.vm } : State) [] (0 + 1) (0 + 6) := ⟨e1, e2⟩
    have h3 := X.same.trans h2
    rw [List.append_nil] at h3
    exact h3.mono hc hs
  refine ⟨U, ?_, .threw T.heap.size, hrun, hend, Or.inr ⟨T.heap.size, rfl, E, ce, locs, hx U hWs.alike f1 (fun q hq => f2 q hq (fun z hz => nomatch hz)), hce, hcv, hcl, hWs, hall, hS.2.2⟩⟩
  refine st1 _ ?_
  show Steps p.tables e below (T1.setTop { method := m, pc := pc + 3, locals := ls, stack := .ref T.heap.size :: rest, locked := none }) _
  jvm_step X₁.here [X₁.here.top, hexec, d3', Value.category]
  exact X₁.ldcString hexec (own := RX) (text := text) (index := is) (a := sa) hown' hstr'.1 hstr'.2
    (g := { method := m, pc := pc + 4, locals := ls, stack := .ref T.heap.size :: .ref T.heap.size :: rest, locked := none }) rfl d4' _ hsteps
variable {y : MethodName} {bytes : ByteArray} {maxL nL n index : Nat} {ret : Option FieldType} {wds : List Cond} {rm : Room} {Ts : List Cond} {own C E : String} {b : Addr} {As st0 : List Value} {tys0 : List (ClassId × FieldType)} {wc wr : va_W} {q0 ci N : Nat} {T : u_T} {fs : List Value}
/-- a call that throws -/
theorem sy_cVx (S : CallFix p m c cc nL s args Ts own) (hM : sy_Mx l y wds rm D cl tys0 (.ref b :: As) wc H.size E mc ms) (cw : CallW R s args own C index y bytes maxL ret wds rm mc ms n)
    (hK : va_K D cl tys s) (tks : List Nat) (htk : tks.filterMap (fun i => tys[i]?) = tys0) (hP : va_P D cl ws H) (hD : va_D A ws) (hS : va_S A s.heap H locs) (hA : ∀ q, s.heap.size ≤ q → A q) (hG : sx_G A s s.heap)
    (isC isR : List Nat) (hC : isC.map (fun i => ws[i]?) = wc.map some) (hR : isR.map (fun i => ws[i]?) = wr.map some) (hnC : va_nd isC = true) (hnR : va_nd isR = true) (hdis : ∀ i ∈ isR, i ∉ isC)
    (hc : cl[ci]? = some (C, T, N)) (he : wc[q0]? = some (b, .inr (ci, fs)))
    (hn : As.length = n) (hsize : ls.size = nL) (hstack : st0 = As.reverse ++ .ref b :: rest) (hW : (rest.map fun v => v.category).sum ≤ 8) (hdg : decode cc pc = .ok (.invokevirtual index, 3)) (hf : cells + mc ≤ R.cells ∧ slots + ms ≤ R.slots)
    (kx : ∀ (q : Addr) (ce : Cell) (H1 : Heap) (locs1 : List Loc), va_P D cl (wr ++ wc) H1 → va_D A (wr ++ wc) → va_S A s.heap H1 locs1 → H1[q]? = some ce → ce.vm = .none → s.vm.findClass E = some ce.cls → vx_W p l e R s m args below meth c H1 locs1 (cells + mc) (slots + ms) Q (F0 m pc ls rest) q) :
    W p l e R s m args below meth c H locs cells slots Q (F0 m pc ls st0) := by
  have hPc : va_P D cl wc H := fun k q hk => by
    have h1 : (isC.map (fun i => ws[i]?))[k]? = some (some q) := by rw [hC, List.getElem?_map, hk]; rfl
    rw [List.getElem?_map] at h1
    cases hi : isC[k]? with
    | none => rw [hi] at h1; cases h1
    | some i => rw [hi] at h1; exact hP i q (Option.some.inj h1)
  have hDc : va_D A wc := hD.sub isC hnC hC
  have hKc : va_K D cl tys0 s := hK.sub tks htk
  have hFc := va_free (wc := wc) hD hS hA isC hC
  have hGc : sx_G (va_A wc H.size) s H := (hG.kept hS.2.1).narrow hFc
  have hbl : FrameBlind (va_Pc (.ref b :: As) (fun U => sy_in D cl tys0 wc H.size U ∧ sx_G (va_A wc H.size) U U.heap)) := fun a U g mk q => by
    obtain ⟨q0, ⟨q1, qP, qK, qD⟩, qG⟩ := q
    exact ⟨q0, ⟨q1, qP, va_K.moved (u := U) (U := U.calling g mk a) (Vm.Alike.refl U.vm) qK, qD⟩, qG.calling g mk a⟩
  intro T0 hT X
  rcases vx_runV (g := F0 m pc ls st0) (As := As) (rest := rest) S hM cw ⟨hbl, va_recv hKc hPc hc he, fun U hU hWm => ⟨rfl, ⟨by rw [hU], by rw [hU]; exact hPc, va_K.moved hWm.alike hKc, hDc.weaken (fun _ _ _ _ => trivial)⟩, by rw [hU]; exact hGc.warm hWm⟩⟩ rfl hn hsize hstack (lv_room hW) hdg hf T0 hT X with ⟨v, st₀, t, T', L, h0, X', hL, e1, e2, hq, st⟩ | ⟨q, st₀, t, T', L, E', ce, h0, X', hL, e1, e2, ⟨u, -, ⟨hE', hP1, hK1, hD1⟩, hF⟩, hce, hcv, hcl, st⟩
  · exact hq.elim
  · subst hE'
    obtain ⟨k1, k2, k3⟩ := vx_keep h0 e1 hS (fun q _ h => hFc q h) hFc hL hF
    rw [← e1] at hP1 hce
    obtain ⟨hP2, hD2⟩ := va_join hP hD isC isR hC hR hnR hdis k2 hFc hP1 hD1
    obtain ⟨t2, a1, b1⟩ := kx q ce T'.heap (locs ++ L) hP2 hD2 k3 hce hcv hcl T' rfl X'
    exact ⟨t2, st.trans a1, b1⟩
/-- not caught here -/
theorem sy_outx {q : Addr} {ce : Cell} {mc2 ms2 : Nat} (htab : ∀ x ∈ c.exceptionTable.toList, False) (hlocks : meth.locks = false) (hP : va_P D cl ws H) (hK : va_K D cl tys s) (hD : va_D A ws) (hS : va_S A s.heap H locs) (hcell : H[q]? = some ce) (hv : ce.vm = .none) (hcl : s.vm.findClass E = some ce.cls) (h1 : cells ≤ mc2) (h2 : slots ≤ ms2) :
    vx_W p l e R s m args below meth c H locs cells slots (vx_MQ below (fun _ _ _ _ => False) (vx_X (fun (_ : Unit) => True) (fun E' _ t => E' = E ∧ sy_out D cl tys A ws t) A) args s mc2 ms2 A) (F0 m pc ls rest) q :=
  vx_out (fun x h => (htab x h).elim) hlocks hcell hv hcl (fun t ht hal => ⟨(), trivial, ⟨rfl, by rw [ht]; exact hP, va_K.moved hal hK, hD⟩, hS.F ht⟩) hS.2.2 h1 h2
end TX
