/-! THE LAW'S WRAPPERS (rows laid by wip/gen) -/
def sx_CW : List Cond := [Cond.castable sx_IAE sx_IAE, Cond.castable sx_NSE sx_NSE]
theorem sx_CW_on : ∀ w ∈ sx_CW, w.onTables = true := by decide +kernel
theorem sx_CW_wb : ∀ w ∈ sx_CW, w.warmB [] = true := by decide +kernel
set_option maxRecDepth 20000 in
theorem sx_CW_in : ∀ w ∈ sx_CW, w ∈ lw_tbl := by decide +kernel
def sx_H (A : Nat → Prop) (U : State) (H : Heap) : Prop := sx_G A U H ∧ ∀ w ∈ sx_CW, w.before #[] U = true
theorem sx_H.warm {A : Nat → Prop} {s U : State} {H : Heap} (h : sx_H A s H) (hW : s.WarmedH U.vm) : sx_H A U H := ⟨h.1.warm hW, fun w hw => by
  have h1 := Cond.before_warmed (args := #[]) hW w (Cond.warmOk_of_B (names := []) (fun _ z => nomatch z) w (sx_CW_wb w hw)) (h.2 w hw)
  rw [Cond.onTables_vm (A' := #[]) (U' := U) U.vm w (sx_CW_on w hw), State.setVm_self] at h1
  exact h1⟩
theorem sx_H.kept {A : Nat → Prop} {s : State} {H H1 : Heap} (h : sx_H A s H) (hq : ∀ a : Nat, a < H.size → ¬ A a → H1[a]? = H[a]?) : sx_H A s H1 := ⟨h.1.kept hq, h.2⟩
theorem sx_H.narrow {A B : Nat → Prop} {s : State} {H : Heap} (h : sx_H A s H) (hAB : ∀ q, B q → A q) : sx_H B s H := ⟨h.1.narrow hAB, h.2⟩
theorem sx_H.calling {A : Nat → Prop} {U : State} {H : Heap} (g : JFrame) (mk : MethodId) (a : Array Value) (h : sx_H A U H) : sx_H A (U.calling g mk a) H := h.warm (State.WarmedH.refl U)
/-- a wrapper's contract: it comes back with r, behind it a world that may have a new address -/
abbrev sy_Mg (l : Launch) (y : MethodName) (wds : List Cond) (rm : Room) (D : va_G) (cl : List vw_C) (tys : List (ClassId × FieldType)) (av : List Value) (ws : va_W) (sz : Nat) (r : Int32) (w1 : Nat → va_W) (mc ms : Nat) : Prop :=
  Met l y wds rm (va_Pc av (fun U => sy_in D cl tys ws sz U ∧ sx_H (va_A ws sz) U U.heap)) (va_Qi (fun r' (_ : Nat) => r' = r) (fun q => sy_out D cl tys (va_A ws sz) (w1 q)) (va_A ws sz)) mc ms (va_A ws sz)
theorem sx_tab {L : List ExceptionTableEntry} {a b c d : Nat} (h : L.map (fun h => (h.startPc, h.endPc, h.handlerPc, h.catchType)) = [(a, b, c, d)]) : ∃ x, L = [x] ∧ x.startPc = a ∧ x.endPc = b ∧ x.handlerPc = c ∧ x.catchType = d := by
  cases L with
  | nil => cases h
  | cons x L =>
    cases L with
    | nil =>
      simp only [List.map_cons, List.map_nil, List.cons.injEq, Prod.mk.injEq, and_true] at h
      exact ⟨x, rfl, h.1, h.2.1, h.2.2.1, h.2.2.2⟩
    | cons z L => simp at h
theorem sx_in01 : vp_in (0 : Int32) 1 := vp_in_nI (n := 0) (by decide) (by decide)
section GC
variable {p : Program} {l : Launch} {e : Env} {R : Room} {s : State} {m : MethodId} {args : Array Value} {below : List Frame} {meth : Method} {c : Code} {H : Heap} {locs : List Loc} {cells slots : Nat} {Q : State → Prop}
variable {y : MethodName} {bytes cc : ByteArray} {maxL nL mc ms n index pc : Nat} {ret : Option FieldType} {hh : List (Nat × Nat × Nat × Nat)} {wds : List Cond} {rm : Room} {Ts : List Cond} {own C : String} {b : Addr} {As rest st0 : List Value} {ls : Array Slot}
variable {D : va_G} {cl : List vw_C} {tys tys0 : List (ClassId × FieldType)} {A : Nat → Prop} {H0 : Heap} {ws wc wr : va_W} {w1 : Nat → va_W} {r : Int32} {q0 ci N : Nat} {T : u_T} {fs : List Value}
/-- the class's space that makes new cells, called -/
theorem sy_cVe (S : CallFix p m c cc nL s args Ts own) (hM : sy_Me l y wds rm D cl tys0 (.ref b :: As) wc H.size r w1 mc ms) (cw : CallW R s args own C index y bytes maxL ret wds rm mc ms n)
    (hK : va_K D cl tys s) (tks : List Nat) (htk : tks.filterMap (fun i => tys[i]?) = tys0) (hP : va_P D cl ws H) (hD : va_D A ws) (hS : va_S A H0 H locs) (hA : ∀ q, H0.size ≤ q → A q)
    (isC isR : List Nat) (hC : isC.map (fun i => ws[i]?) = wc.map some) (hR : isR.map (fun i => ws[i]?) = wr.map some) (hnC : va_nd isC = true) (hnR : va_nd isR = true) (hdis : ∀ i ∈ isR, i ∉ isC)
    (hc : cl[ci]? = some (C, T, N)) (he : wc[q0]? = some (b, .inr (ci, fs)))
    (hn : As.length = n) (hsize : ls.size = nL) (hstack : st0 = As.reverse ++ .ref b :: rest) (hW : (rest.map fun v => v.category).sum ≤ 8) (hdg : decode cc pc = .ok (.invokevirtual index, 3)) (hf : cells + mc ≤ R.cells ∧ slots + ms ≤ R.slots)
    (kk : ∀ (q : Nat) (H1 : Heap) (locs1 : List Loc), va_P D cl (wr ++ w1 q) H1 → va_D A (wr ++ w1 q) → va_S A H0 H1 locs1 → W p l e R s m args below meth c H1 locs1 (cells + mc) (slots + ms) Q (F0 m (pc + 3) ls (.int r :: rest))) :
    W p l e R s m args below meth c H locs cells slots Q (F0 m pc ls st0) := by
  have hPc : va_P D cl wc H := fun k q hk => by
    have h1 : (isC.map (fun i => ws[i]?))[k]? = some (some q) := by rw [hC, List.getElem?_map, hk]; rfl
    rw [List.getElem?_map] at h1
    cases hi : isC[k]? with
    | none => rw [hi] at h1; cases h1
    | some i => rw [hi] at h1; exact hP i q (Option.some.inj h1)
  have hDc : va_D A wc := hD.sub isC hnC hC
  have hKc : va_K D cl tys0 s := hK.sub tks htk
  have hFc := va_free (wc := wc) hD hS hA isC hC
  refine va_calli (va_runV (As := As) (rest := rest) S hM cw ⟨sy_blind, va_recv hKc hPc hc he, fun U hU hWm => ⟨rfl, by rw [hU], by rw [hU]; exact hPc, va_K.moved hWm.alike hKc, hDc.weaken (fun _ _ _ _ => trivial)⟩⟩ rfl hn hsize hstack (lv_room hW) hdg hf) hS (fun q _ h => hFc q h) hFc (fun r' u t H1 locs1 ht hvm hw hB hz1 hk1 hS1 => ?_)
  subst hw
  obtain ⟨hP1, -, hD1⟩ := hB
  rw [ht] at hP1
  obtain ⟨hP2, hD2⟩ := va_join hP hD isC isR hC hR hnR hdis hk1 hFc hP1 hD1
  exact kk u H1 locs1 hP2 hD2 hS1
/-- a wrapper, called -/
theorem sy_cSg (S : CallFix p m c cc nL s args Ts own) (hM : sy_Mg l y wds rm D cl tys0 As wc H.size r w1 mc ms) (cw : vx_CSW R s args own index y bytes maxL ret hh wds rm mc ms n)
    (hK : va_K D cl tys s) (tks : List Nat) (htk : tks.filterMap (fun i => tys[i]?) = tys0) (hP : va_P D cl ws H) (hD : va_D A ws) (hS : va_S A s.heap H locs) (hA : ∀ q, s.heap.size ≤ q → A q) (hG : sx_H A s s.heap)
    (isC isR : List Nat) (hC : isC.map (fun i => ws[i]?) = wc.map some) (hR : isR.map (fun i => ws[i]?) = wr.map some) (hnC : va_nd isC = true) (hnR : va_nd isR = true) (hdis : ∀ i ∈ isR, i ∉ isC)
    (hn : As.length = n) (hsize : ls.size = nL) (hstack : st0 = As.reverse ++ rest) (hW : (rest.map fun v => v.category).sum ≤ 8) (hdg : decode cc pc = .ok (.invokestatic index, 3)) (hf : cells + mc ≤ R.cells ∧ slots + ms ≤ R.slots)
    (kk : ∀ (q : Nat) (H1 : Heap) (locs1 : List Loc), va_P D cl (wr ++ w1 q) H1 → va_D A (wr ++ w1 q) → va_S A s.heap H1 locs1 → W p l e R s m args below meth c H1 locs1 (cells + mc) (slots + ms) Q (F0 m (pc + 3) ls (.int r :: rest))) :
    W p l e R s m args below meth c H locs cells slots Q (F0 m pc ls st0) := by
  have hPc : va_P D cl wc H := fun k q hk => by
    have h1 : (isC.map (fun i => ws[i]?))[k]? = some (some q) := by rw [hC, List.getElem?_map, hk]; rfl
    rw [List.getElem?_map] at h1
    cases hi : isC[k]? with
    | none => rw [hi] at h1; cases h1
    | some i => rw [hi] at h1; exact hP i q (Option.some.inj h1)
  have hDc : va_D A wc := hD.sub isC hnC hC
  have hKc : va_K D cl tys0 s := hK.sub tks htk
  have hFc := va_free (wc := wc) hD hS hA isC hC
  have hGc : sx_H (va_A wc H.size) s H := (hG.kept hS.2.1).narrow hFc
  have hbl : FrameBlind (va_Pc As (fun U => sy_in D cl tys0 wc H.size U ∧ sx_H (va_A wc H.size) U U.heap)) := fun a U g mk q => by
    obtain ⟨q0, ⟨q1, qP, qK, qD⟩, qG⟩ := q
    exact ⟨q0, ⟨q1, qP, va_K.moved (u := U) (U := U.calling g mk a) (Vm.Alike.refl U.vm) qK, qD⟩, qG.calling g mk a⟩
  refine va_calli (vx_runSW (As := As) (rest := rest) S hM cw ⟨hbl, fun U hU hWm => ⟨rfl, ⟨by rw [hU], by rw [hU]; exact hPc, va_K.moved hWm.alike hKc, hDc.weaken (fun _ _ _ _ => trivial)⟩, by rw [hU]; exact hGc.warm hWm⟩⟩ rfl hn hsize hstack (lv_room hW) hdg hf) hS (fun q _ h => hFc q h) hFc (fun r' u t H1 locs1 ht hvm hw hB hz1 hk1 hS1 => ?_)
  subst hw
  obtain ⟨hP1, -, hD1⟩ := hB
  rw [ht] at hP1
  obtain ⟨hP2, hD2⟩ := va_join hP hD isC isR hC hR hnR hdis hk1 hFc hP1 hD1
  exact kk u H1 locs1 hP2 hD2 hS1
end GC

set_option maxHeartbeats 4000000 in
set_option maxRecDepth 100000 in
theorem wk_space (l : Launch) (D : va_G) (h rr cc : Nat) (cI : ClassId) (N : Nat) (R C : Nat → Int32) (li us ob sl go gi fr la re : Int32) (sz : Nat) (oo : Nat) (cJ : ClassId) (O : Nat → Int64) (x : Int32) (r : Int32) (w1 : va_W) (hM : ∀ sz, sy_Mi l yX_space (Cond.code yX_space bX_space 3 (some .int) :: sr_big) { frames := 6, cells := 0, slots := 0, locals := 90 } D vwC [(cI, .int)] [.ref h, .int x] (wX h rr cc cI N R C li us ob sl go gi fr la re) sz r w1 0 0) : sy_Mg l yL_space (Cond.codeWith yL_space bL_space 4 (some .int) [(0, 9, 12, 13)] :: sr_big) { frames := 7, cells := 1, slots := 6, locals := 112 } D vwC [(cI, .int), (cJ, .long)] [.ref h, .int x, .ref oo] ([(oo, .inl (cJ, 1, .inr (.inl O)))] ++ wX h rr cc cI N R C li us ob sl go gi fr la re) sz 0 (fun _ => [(oo, .inl (cJ, 1, .inr (.inl (vp_updL O 0 r.toInt64))))] ++ w1) 1 6 := by
  refine va_MetW (cc := bL_space) (maxL := 4) (ret := (some .int)) (by decide) rfl ?_
  intro p e s m args below meth c s₁ B hml hv
  obtain ⟨rfl, ⟨hsz, hP, hK, hD0⟩, hG⟩ := hv
  have hx := B.exec
  have hb := B.bytes
  have hr := B.returns
  have hbg : ∀ w ∈ sr_big, w.before _ s = true := fun w h => atoms_spec (ws := Cond.codeWith yL_space bL_space 4 (some .int) [(0, 9, 12, 13)] :: sr_big) B.pre w (List.mem_cons_of_mem _ h)
  have hown : s.vm.findClass RL = some m.cls := findClass_of_methodNamed B.named
  have hlocks := B.notSynchronized
  subst hsz
  have hD := hD0.self (sz := s.heap.size)
  generalize hAe : va_A ([(oo, .inl (cJ, 1, .inr (.inl O)))] ++ wX h rr cc cI N R C li us ob sl go gi fr la re) s.heap.size = A at *
  have hA : ∀ q : Nat, s.heap.size ≤ q → A q := fun q h => by rw [← hAe]; exact Or.inr h
  have hS : va_S A s.heap s.heap [] := va_S.rf
  have hl := lv_entry ([.ref h, .int x, .ref oo]) (n := 4) (Nat.le_of_ble_eq_true rfl)
  rw [lg_entry_eq]
  generalize (lg_sl ([.ref h, .int x, .ref oo]) ++ List.replicate (4 - (lg_sl ([.ref h, .int x, .ref oo])).length) Slot.unset).toArray = ls at hl ⊢
  have hl : lv_has ls 4 [(0, .ref h), (1, .int x), (2, .ref oo)] := hl
  refine lv_aload_n hx hb dL_space_0 rfl (lv_at hl 2 rfl) ?_
  refine lv_iconst (v := 0) hx hb dL_space_1 (by decide) ?_
  refine lv_aload_n hx hb dL_space_2 rfl (lv_at hl 0 rfl) ?_
  refine lv_iload_n hx hb dL_space_3 rfl (lv_at hl 1 rfl) ?_
  refine sy_cVi (wc := wX h rr cc cI N R C li us ob sl go gi fr la re) (wr := [(oo, .inl (cJ, 1, .inr (.inl O)))]) (w1 := w1) (ci := 0) (q0 := 0) (As := [.int x]) (rest := [.int 0, .ref oo]) ⟨hx, hb, hml, hown, hbg⟩ (hM s.heap.size) (cwV 1 hbg (bg_V bw_134 bw_135 bw_136 bw_34 bw_137) rfl rfl rfl (by decide +kernel) ⟨Nat.le_of_ble_eq_true rfl, Nat.le_of_ble_eq_true rfl⟩) hK [0] rfl hP hD hS hA [1, 2, 3] [0] rfl rfl rfl rfl (by decide) rfl rfl rfl hl.1 rfl (Nat.le_of_ble_eq_true rfl) dL_space_4 ⟨Nat.le_of_ble_eq_true rfl, Nat.le_of_ble_eq_true rfl⟩ (fun H locs hP hD hS => ?_)
  refine lv_i2l (v := r.toInt64) hx hb dL_space_7 rfl ?_
  refine va_last hx hb hK hP hD hS 0 1 rfl rfl sx_in01 dL_space_8 (fun H locs hP hD hS => ?_)
  have hP : va_P D vwC ([(oo, .inl (cJ, 1, .inr (.inl (vp_updL O 0 r.toInt64))))] ++ w1) H := hP
  have hD : va_D A ([(oo, .inl (cJ, 1, .inr (.inl (vp_updL O 0 r.toInt64))))] ++ w1) := hD
  refine lv_goto (tgt := 15) hx hb dL_space_9 (by decide) ?_
  refine lv_iconst (v := 0) hx hb dL_space_15 (by decide) ?_
  refine W.widen (k := 1) (n := 6) (Nat.le_of_ble_eq_true rfl) (Nat.le_of_ble_eq_true rfl) ?_
  exact W.iret (v := 0) hx hb hr (fun t9 ht hW => ⟨⟨0, 0, rfl, rfl, by rw [ht]; exact hP, va_K.moved hW.alike hK, hD⟩, hS.F ht⟩) hS.2.2 dL_space_16

set_option maxHeartbeats 4000000 in
set_option maxRecDepth 100000 in
theorem wb_space (l : Launch) (D : va_G) (h rr cc : Nat) (cI : ClassId) (N : Nat) (R C : Nat → Int32) (li us ob sl go gi fr la re : Int32) (sz : Nat) (oo : Nat) (cJ : ClassId) (O : Nat → Int64) (x : Int32) (hM : ∀ sz, sy_Mx l yX_space (Cond.code yX_space bX_space 3 (some .int) :: sr_big) { frames := 6, cells := 1, slots := 6, locals := 90 } D vwC [(cI, .int)] [.ref h, .int x] (wX h rr cc cI N R C li us ob sl go gi fr la re) sz sx_IAE 1 6) : sy_Mg l yL_space (Cond.codeWith yL_space bL_space 4 (some .int) [(0, 9, 12, 13)] :: sr_big) { frames := 7, cells := 1, slots := 6, locals := 112 } D vwC [(cI, .int), (cJ, .long)] [.ref h, .int x, .ref oo] ([(oo, .inl (cJ, 1, .inr (.inl O)))] ++ wX h rr cc cI N R C li us ob sl go gi fr la re) sz 1 (fun _ => [(oo, .inl (cJ, 1, .inr (.inl O)))] ++ wX h rr cc cI N R C li us ob sl go gi fr la re) 1 6 := by
  refine va_MetW (cc := bL_space) (maxL := 4) (ret := (some .int)) (by decide) rfl ?_
  intro p e s m args below meth c s₁ B hml hv
  obtain ⟨rfl, ⟨hsz, hP, hK, hD0⟩, hG⟩ := hv
  have hx := B.exec
  have hb := B.bytes
  have hr := B.returns
  have hbg : ∀ w ∈ sr_big, w.before _ s = true := fun w h => atoms_spec (ws := Cond.codeWith yL_space bL_space 4 (some .int) [(0, 9, 12, 13)] :: sr_big) B.pre w (List.mem_cons_of_mem _ h)
  have hown : s.vm.findClass RL = some m.cls := findClass_of_methodNamed B.named
  have hlocks := B.notSynchronized
  subst hsz
  have hD := hD0.self (sz := s.heap.size)
  generalize hAe : va_A ([(oo, .inl (cJ, 1, .inr (.inl O)))] ++ wX h rr cc cI N R C li us ob sl go gi fr la re) s.heap.size = A at *
  have hA : ∀ q : Nat, s.heap.size ≤ q → A q := fun q h => by rw [← hAe]; exact Or.inr h
  have hS : va_S A s.heap s.heap [] := va_S.rf
  have hl := lv_entry ([.ref h, .int x, .ref oo]) (n := 4) (Nat.le_of_ble_eq_true rfl)
  rw [lg_entry_eq]
  generalize (lg_sl ([.ref h, .int x, .ref oo]) ++ List.replicate (4 - (lg_sl ([.ref h, .int x, .ref oo])).length) Slot.unset).toArray = ls at hl ⊢
  have hl : lv_has ls 4 [(0, .ref h), (1, .int x), (2, .ref oo)] := hl
  obtain ⟨m9, meth9, c9, n1, n2, n3, -, -, htb, -⟩ := Cond.codeWith_spec (atoms_spec (ws := Cond.codeWith yL_space bL_space 4 (some .int) [(0, 9, 12, 13)] :: sr_big) B.pre _ List.mem_cons_self)
  cases Option.some.inj (n1.symm.trans B.named)
  cases Option.some.inj (n2.symm.trans B.method)
  cases Option.some.inj (n3.symm.trans (Stand.of_body B).code)
  obtain ⟨x9, hx9, t1, t2, t3, t4⟩ := sx_tab htb
  refine lv_aload_n hx hb dL_space_0 rfl (lv_at hl 2 rfl) ?_
  refine lv_iconst (v := 0) hx hb dL_space_1 (by decide) ?_
  refine lv_aload_n hx hb dL_space_2 rfl (lv_at hl 0 rfl) ?_
  refine lv_iload_n hx hb dL_space_3 rfl (lv_at hl 1 rfl) ?_
  refine sy_cVx (wc := wX h rr cc cI N R C li us ob sl go gi fr la re) (wr := [(oo, .inl (cJ, 1, .inr (.inl O)))]) (ci := 0) (q0 := 0) (As := [.int x]) (rest := [.int 0, .ref oo]) ⟨hx, hb, hml, hown, hbg⟩ (hM s.heap.size) (cwV 1 hbg (bg_V bw_134 bw_135 bw_136 bw_34 bw_137) rfl rfl rfl (by decide +kernel) ⟨Nat.le_of_ble_eq_true rfl, Nat.le_of_ble_eq_true rfl⟩) hK [0] rfl hP hD hS hA hG.1 [1, 2, 3] [0] rfl rfl rfl rfl (by decide) rfl rfl rfl hl.1 rfl (Nat.le_of_ble_eq_true rfl) dL_space_4 ⟨Nat.le_of_ble_eq_true rfl, Nat.le_of_ble_eq_true rfl⟩ (fun q ce H locs hP hD hS hcell hcv hcl => ?_)
  have hP : va_P D vwC ([(oo, .inl (cJ, 1, .inr (.inl O)))] ++ wX h rr cc cI N R C li us ob sl go gi fr la re) H := hP
  have hD : va_D A ([(oo, .inl (cJ, 1, .inr (.inl O)))] ++ wX h rr cc cI N R C li us ob sl go gi fr la re) := hD
  refine vx_catch (own := RL) (name := sx_IAE) (E := sx_IAE) hown [] x9 [] (by rw [hx9]; rfl) (fun z hz => nomatch hz) (by unfold covers; rw [t1, t2]; decide) (by rw [t4]; decide) (by rw [t4]; exact hbg _ bw_133) (sx_any (sx_CW_on _ (by decide +kernel)) (hG.2 _ (by decide +kernel))) hcell hcv hcl ?_
  rw [t3]
  refine lv_astore_n (lv' := [(3, .ref q), (0, .ref h), (1, .int x), (2, .ref oo)]) hx hb dL_space_12 rfl hl (by decide) rfl (fun ls hl => ?_)
  refine lv_iconst (v := 1) hx hb dL_space_13 (by decide) ?_
  refine W.widen (k := 1) (n := 6) (Nat.le_of_ble_eq_true rfl) (Nat.le_of_ble_eq_true rfl) ?_
  exact W.iret (v := 1) hx hb hr (fun t9 ht hW => ⟨⟨1, 0, rfl, rfl, by rw [ht]; exact hP, va_K.moved hW.alike hK, hD⟩, hS.F ht⟩) hS.2.2 dL_space_14

set_option maxHeartbeats 4000000 in
set_option maxRecDepth 100000 in
theorem wk_make (l : Launch) (D : va_G) (h rr cc : Nat) (cI : ClassId) (N : Nat) (R C : Nat → Int32) (li us ob sl go gi fr la re : Int32) (sz : Nat) (oo : Nat) (cJ : ClassId) (O : Nat → Int64) (f w : Int32) (r : Int32) (w1 : va_W) (hM : ∀ sz, sy_Mi l yX_make (Cond.code yX_make bX_make 5 (some .int) :: sr_big) { frames := 6, cells := 0, slots := 0, locals := 90 } D vwC [(cI, .int)] [.ref h, .int f, .int w] (wX h rr cc cI N R C li us ob sl go gi fr la re) sz r w1 0 0) : sy_Mg l yL_make (Cond.codeWith yL_make bL_make 5 (some .int) [(0, 10, 13, 13)] :: sr_big) { frames := 7, cells := 1, slots := 6, locals := 114 } D vwC [(cI, .int), (cJ, .long)] [.ref h, .int f, .int w, .ref oo] ([(oo, .inl (cJ, 1, .inr (.inl O)))] ++ wX h rr cc cI N R C li us ob sl go gi fr la re) sz 0 (fun _ => [(oo, .inl (cJ, 1, .inr (.inl (vp_updL O 0 r.toInt64))))] ++ w1) 1 6 := by
  refine va_MetW (cc := bL_make) (maxL := 5) (ret := (some .int)) (by decide) rfl ?_
  intro p e s m args below meth c s₁ B hml hv
  obtain ⟨rfl, ⟨hsz, hP, hK, hD0⟩, hG⟩ := hv
  have hx := B.exec
  have hb := B.bytes
  have hr := B.returns
  have hbg : ∀ w ∈ sr_big, w.before _ s = true := fun w h => atoms_spec (ws := Cond.codeWith yL_make bL_make 5 (some .int) [(0, 10, 13, 13)] :: sr_big) B.pre w (List.mem_cons_of_mem _ h)
  have hown : s.vm.findClass RL = some m.cls := findClass_of_methodNamed B.named
  have hlocks := B.notSynchronized
  subst hsz
  have hD := hD0.self (sz := s.heap.size)
  generalize hAe : va_A ([(oo, .inl (cJ, 1, .inr (.inl O)))] ++ wX h rr cc cI N R C li us ob sl go gi fr la re) s.heap.size = A at *
  have hA : ∀ q : Nat, s.heap.size ≤ q → A q := fun q h => by rw [← hAe]; exact Or.inr h
  have hS : va_S A s.heap s.heap [] := va_S.rf
  have hl := lv_entry ([.ref h, .int f, .int w, .ref oo]) (n := 5) (Nat.le_of_ble_eq_true rfl)
  rw [lg_entry_eq]
  generalize (lg_sl ([.ref h, .int f, .int w, .ref oo]) ++ List.replicate (5 - (lg_sl ([.ref h, .int f, .int w, .ref oo])).length) Slot.unset).toArray = ls at hl ⊢
  have hl : lv_has ls 5 [(0, .ref h), (1, .int f), (2, .int w), (3, .ref oo)] := hl
  refine lv_aload_n hx hb dL_make_0 rfl (lv_at hl 3 rfl) ?_
  refine lv_iconst (v := 0) hx hb dL_make_1 (by decide) ?_
  refine lv_aload_n hx hb dL_make_2 rfl (lv_at hl 0 rfl) ?_
  refine lv_iload_n hx hb dL_make_3 rfl (lv_at hl 1 rfl) ?_
  refine lv_iload_n hx hb dL_make_4 rfl (lv_at hl 2 rfl) ?_
  refine sy_cVi (wc := wX h rr cc cI N R C li us ob sl go gi fr la re) (wr := [(oo, .inl (cJ, 1, .inr (.inl O)))]) (w1 := w1) (ci := 0) (q0 := 0) (As := [.int f, .int w]) (rest := [.int 0, .ref oo]) ⟨hx, hb, hml, hown, hbg⟩ (hM s.heap.size) (cwV 2 hbg (bg_V bw_192 bw_193 bw_194 bw_34 bw_195) rfl rfl rfl (by decide +kernel) ⟨Nat.le_of_ble_eq_true rfl, Nat.le_of_ble_eq_true rfl⟩) hK [0] rfl hP hD hS hA [1, 2, 3] [0] rfl rfl rfl rfl (by decide) rfl rfl rfl hl.1 rfl (Nat.le_of_ble_eq_true rfl) dL_make_5 ⟨Nat.le_of_ble_eq_true rfl, Nat.le_of_ble_eq_true rfl⟩ (fun H locs hP hD hS => ?_)
  refine lv_i2l (v := r.toInt64) hx hb dL_make_8 rfl ?_
  refine va_last hx hb hK hP hD hS 0 1 rfl rfl sx_in01 dL_make_9 (fun H locs hP hD hS => ?_)
  have hP : va_P D vwC ([(oo, .inl (cJ, 1, .inr (.inl (vp_updL O 0 r.toInt64))))] ++ w1) H := hP
  have hD : va_D A ([(oo, .inl (cJ, 1, .inr (.inl (vp_updL O 0 r.toInt64))))] ++ w1) := hD
  refine lv_goto (tgt := 17) hx hb dL_make_10 (by decide) ?_
  refine lv_iconst (v := 0) hx hb dL_make_17 (by decide) ?_
  refine W.widen (k := 1) (n := 6) (Nat.le_of_ble_eq_true rfl) (Nat.le_of_ble_eq_true rfl) ?_
  exact W.iret (v := 0) hx hb hr (fun t9 ht hW => ⟨⟨0, 0, rfl, rfl, by rw [ht]; exact hP, va_K.moved hW.alike hK, hD⟩, hS.F ht⟩) hS.2.2 dL_make_18

set_option maxHeartbeats 4000000 in
set_option maxRecDepth 100000 in
theorem wb_make (l : Launch) (D : va_G) (h rr cc : Nat) (cI : ClassId) (N : Nat) (R C : Nat → Int32) (li us ob sl go gi fr la re : Int32) (sz : Nat) (oo : Nat) (cJ : ClassId) (O : Nat → Int64) (f w : Int32) (hM : ∀ sz, sy_Mx l yX_make (Cond.code yX_make bX_make 5 (some .int) :: sr_big) { frames := 6, cells := 1, slots := 6, locals := 90 } D vwC [(cI, .int)] [.ref h, .int f, .int w] (wX h rr cc cI N R C li us ob sl go gi fr la re) sz sx_IAE 1 6) : sy_Mg l yL_make (Cond.codeWith yL_make bL_make 5 (some .int) [(0, 10, 13, 13)] :: sr_big) { frames := 7, cells := 1, slots := 6, locals := 114 } D vwC [(cI, .int), (cJ, .long)] [.ref h, .int f, .int w, .ref oo] ([(oo, .inl (cJ, 1, .inr (.inl O)))] ++ wX h rr cc cI N R C li us ob sl go gi fr la re) sz 1 (fun _ => [(oo, .inl (cJ, 1, .inr (.inl O)))] ++ wX h rr cc cI N R C li us ob sl go gi fr la re) 1 6 := by
  refine va_MetW (cc := bL_make) (maxL := 5) (ret := (some .int)) (by decide) rfl ?_
  intro p e s m args below meth c s₁ B hml hv
  obtain ⟨rfl, ⟨hsz, hP, hK, hD0⟩, hG⟩ := hv
  have hx := B.exec
  have hb := B.bytes
  have hr := B.returns
  have hbg : ∀ w ∈ sr_big, w.before _ s = true := fun w h => atoms_spec (ws := Cond.codeWith yL_make bL_make 5 (some .int) [(0, 10, 13, 13)] :: sr_big) B.pre w (List.mem_cons_of_mem _ h)
  have hown : s.vm.findClass RL = some m.cls := findClass_of_methodNamed B.named
  have hlocks := B.notSynchronized
  subst hsz
  have hD := hD0.self (sz := s.heap.size)
  generalize hAe : va_A ([(oo, .inl (cJ, 1, .inr (.inl O)))] ++ wX h rr cc cI N R C li us ob sl go gi fr la re) s.heap.size = A at *
  have hA : ∀ q : Nat, s.heap.size ≤ q → A q := fun q h => by rw [← hAe]; exact Or.inr h
  have hS : va_S A s.heap s.heap [] := va_S.rf
  have hl := lv_entry ([.ref h, .int f, .int w, .ref oo]) (n := 5) (Nat.le_of_ble_eq_true rfl)
  rw [lg_entry_eq]
  generalize (lg_sl ([.ref h, .int f, .int w, .ref oo]) ++ List.replicate (5 - (lg_sl ([.ref h, .int f, .int w, .ref oo])).length) Slot.unset).toArray = ls at hl ⊢
  have hl : lv_has ls 5 [(0, .ref h), (1, .int f), (2, .int w), (3, .ref oo)] := hl
  obtain ⟨m9, meth9, c9, n1, n2, n3, -, -, htb, -⟩ := Cond.codeWith_spec (atoms_spec (ws := Cond.codeWith yL_make bL_make 5 (some .int) [(0, 10, 13, 13)] :: sr_big) B.pre _ List.mem_cons_self)
  cases Option.some.inj (n1.symm.trans B.named)
  cases Option.some.inj (n2.symm.trans B.method)
  cases Option.some.inj (n3.symm.trans (Stand.of_body B).code)
  obtain ⟨x9, hx9, t1, t2, t3, t4⟩ := sx_tab htb
  refine lv_aload_n hx hb dL_make_0 rfl (lv_at hl 3 rfl) ?_
  refine lv_iconst (v := 0) hx hb dL_make_1 (by decide) ?_
  refine lv_aload_n hx hb dL_make_2 rfl (lv_at hl 0 rfl) ?_
  refine lv_iload_n hx hb dL_make_3 rfl (lv_at hl 1 rfl) ?_
  refine lv_iload_n hx hb dL_make_4 rfl (lv_at hl 2 rfl) ?_
  refine sy_cVx (wc := wX h rr cc cI N R C li us ob sl go gi fr la re) (wr := [(oo, .inl (cJ, 1, .inr (.inl O)))]) (ci := 0) (q0 := 0) (As := [.int f, .int w]) (rest := [.int 0, .ref oo]) ⟨hx, hb, hml, hown, hbg⟩ (hM s.heap.size) (cwV 2 hbg (bg_V bw_192 bw_193 bw_194 bw_34 bw_195) rfl rfl rfl (by decide +kernel) ⟨Nat.le_of_ble_eq_true rfl, Nat.le_of_ble_eq_true rfl⟩) hK [0] rfl hP hD hS hA hG.1 [1, 2, 3] [0] rfl rfl rfl rfl (by decide) rfl rfl rfl hl.1 rfl (Nat.le_of_ble_eq_true rfl) dL_make_5 ⟨Nat.le_of_ble_eq_true rfl, Nat.le_of_ble_eq_true rfl⟩ (fun q ce H locs hP hD hS hcell hcv hcl => ?_)
  have hP : va_P D vwC ([(oo, .inl (cJ, 1, .inr (.inl O)))] ++ wX h rr cc cI N R C li us ob sl go gi fr la re) H := hP
  have hD : va_D A ([(oo, .inl (cJ, 1, .inr (.inl O)))] ++ wX h rr cc cI N R C li us ob sl go gi fr la re) := hD
  refine vx_catch (own := RL) (name := sx_IAE) (E := sx_IAE) hown [] x9 [] (by rw [hx9]; rfl) (fun z hz => nomatch hz) (by unfold covers; rw [t1, t2]; decide) (by rw [t4]; decide) (by rw [t4]; exact hbg _ bw_133) (sx_any (sx_CW_on _ (by decide +kernel)) (hG.2 _ (by decide +kernel))) hcell hcv hcl ?_
  rw [t3]
  refine lv_astore (lv' := [(4, .ref q), (0, .ref h), (1, .int f), (2, .int w), (3, .ref oo)]) hx hb dL_make_13 hl (by decide) rfl (fun ls hl => ?_)
  refine lv_iconst (v := 1) hx hb dL_make_15 (by decide) ?_
  refine W.widen (k := 1) (n := 6) (Nat.le_of_ble_eq_true rfl) (Nat.le_of_ble_eq_true rfl) ?_
  exact W.iret (v := 1) hx hb hr (fun t9 ht hW => ⟨⟨1, 0, rfl, rfl, by rw [ht]; exact hP, va_K.moved hW.alike hK, hD⟩, hS.F ht⟩) hS.2.2 dL_make_16

set_option maxHeartbeats 4000000 in
set_option maxRecDepth 100000 in
theorem wk_set (l : Launch) (D : va_G) (h rr cc : Nat) (cI : ClassId) (N : Nat) (R C : Nat → Int32) (li us ob sl go gi fr la re : Int32) (sz : Nat) (oo : Nat) (cJ : ClassId) (O : Nat → Int64) (a f b : Int32) (r : Int32) (w1 : va_W) (hM : ∀ sz, sy_Mi l yX_set (Cond.code yX_set bX_set 5 (some .int) :: sr_big) { frames := 8, cells := 0, slots := 0, locals := 133 } D vwC [(cI, .int)] [.ref h, .int a, .int f, .int b] (wX h rr cc cI N R C li us ob sl go gi fr la re) sz r w1 0 0) : sy_Mg l yL_set (Cond.codeWith yL_set bL_set 6 (some .int) [(0, 12, 15, 23)] :: sr_big) { frames := 9, cells := 1, slots := 6, locals := 157 } D vwC [(cI, .int), (cJ, .long)] [.ref h, .int a, .int f, .int b, .ref oo] ([(oo, .inl (cJ, 1, .inr (.inl O)))] ++ wX h rr cc cI N R C li us ob sl go gi fr la re) sz 0 (fun _ => [(oo, .inl (cJ, 1, .inr (.inl (vp_updL O 0 r.toInt64))))] ++ w1) 1 6 := by
  refine va_MetW (cc := bL_set) (maxL := 6) (ret := (some .int)) (by decide) rfl ?_
  intro p e s m args below meth c s₁ B hml hv
  obtain ⟨rfl, ⟨hsz, hP, hK, hD0⟩, hG⟩ := hv
  have hx := B.exec
  have hb := B.bytes
  have hr := B.returns
  have hbg : ∀ w ∈ sr_big, w.before _ s = true := fun w h => atoms_spec (ws := Cond.codeWith yL_set bL_set 6 (some .int) [(0, 12, 15, 23)] :: sr_big) B.pre w (List.mem_cons_of_mem _ h)
  have hown : s.vm.findClass RL = some m.cls := findClass_of_methodNamed B.named
  have hlocks := B.notSynchronized
  subst hsz
  have hD := hD0.self (sz := s.heap.size)
  generalize hAe : va_A ([(oo, .inl (cJ, 1, .inr (.inl O)))] ++ wX h rr cc cI N R C li us ob sl go gi fr la re) s.heap.size = A at *
  have hA : ∀ q : Nat, s.heap.size ≤ q → A q := fun q h => by rw [← hAe]; exact Or.inr h
  have hS : va_S A s.heap s.heap [] := va_S.rf
  have hl := lv_entry ([.ref h, .int a, .int f, .int b, .ref oo]) (n := 6) (Nat.le_of_ble_eq_true rfl)
  rw [lg_entry_eq]
  generalize (lg_sl ([.ref h, .int a, .int f, .int b, .ref oo]) ++ List.replicate (6 - (lg_sl ([.ref h, .int a, .int f, .int b, .ref oo])).length) Slot.unset).toArray = ls at hl ⊢
  have hl : lv_has ls 6 [(0, .ref h), (1, .int a), (2, .int f), (3, .int b), (4, .ref oo)] := hl
  refine lv_aload hx hb dL_set_0 (lv_at hl 4 rfl) ?_
  refine lv_iconst (v := 0) hx hb dL_set_2 (by decide) ?_
  refine lv_aload_n hx hb dL_set_3 rfl (lv_at hl 0 rfl) ?_
  refine lv_iload_n hx hb dL_set_4 rfl (lv_at hl 1 rfl) ?_
  refine lv_iload_n hx hb dL_set_5 rfl (lv_at hl 2 rfl) ?_
  refine lv_iload_n hx hb dL_set_6 rfl (lv_at hl 3 rfl) ?_
  refine sy_cVi (wc := wX h rr cc cI N R C li us ob sl go gi fr la re) (wr := [(oo, .inl (cJ, 1, .inr (.inl O)))]) (w1 := w1) (ci := 0) (q0 := 0) (As := [.int a, .int f, .int b]) (rest := [.int 0, .ref oo]) ⟨hx, hb, hml, hown, hbg⟩ (hM s.heap.size) (cwV 3 hbg (bg_V bw_206 bw_207 bw_208 bw_34 bw_209) rfl rfl rfl (by decide +kernel) ⟨Nat.le_of_ble_eq_true rfl, Nat.le_of_ble_eq_true rfl⟩) hK [0] rfl hP hD hS hA [1, 2, 3] [0] rfl rfl rfl rfl (by decide) rfl rfl rfl hl.1 rfl (Nat.le_of_ble_eq_true rfl) dL_set_7 ⟨Nat.le_of_ble_eq_true rfl, Nat.le_of_ble_eq_true rfl⟩ (fun H locs hP hD hS => ?_)
  refine lv_i2l (v := r.toInt64) hx hb dL_set_10 rfl ?_
  refine va_last hx hb hK hP hD hS 0 1 rfl rfl sx_in01 dL_set_11 (fun H locs hP hD hS => ?_)
  have hP : va_P D vwC ([(oo, .inl (cJ, 1, .inr (.inl (vp_updL O 0 r.toInt64))))] ++ w1) H := hP
  have hD : va_D A ([(oo, .inl (cJ, 1, .inr (.inl (vp_updL O 0 r.toInt64))))] ++ w1) := hD
  refine lv_goto (tgt := 19) hx hb dL_set_12 (by decide) ?_
  refine lv_iconst (v := 0) hx hb dL_set_19 (by decide) ?_
  refine W.widen (k := 1) (n := 6) (Nat.le_of_ble_eq_true rfl) (Nat.le_of_ble_eq_true rfl) ?_
  exact W.iret (v := 0) hx hb hr (fun t9 ht hW => ⟨⟨0, 0, rfl, rfl, by rw [ht]; exact hP, va_K.moved hW.alike hK, hD⟩, hS.F ht⟩) hS.2.2 dL_set_20

set_option maxHeartbeats 4000000 in
set_option maxRecDepth 100000 in
theorem wb_set (l : Launch) (D : va_G) (h rr cc : Nat) (cI : ClassId) (N : Nat) (R C : Nat → Int32) (li us ob sl go gi fr la re : Int32) (sz : Nat) (oo : Nat) (cJ : ClassId) (O : Nat → Int64) (a f b : Int32) (hM : ∀ sz, sy_Mx l yX_set (Cond.code yX_set bX_set 5 (some .int) :: sr_big) { frames := 8, cells := 1, slots := 6, locals := 133 } D vwC [(cI, .int)] [.ref h, .int a, .int f, .int b] (wX h rr cc cI N R C li us ob sl go gi fr la re) sz sx_NSE 1 6) : sy_Mg l yL_set (Cond.codeWith yL_set bL_set 6 (some .int) [(0, 12, 15, 23)] :: sr_big) { frames := 9, cells := 1, slots := 6, locals := 157 } D vwC [(cI, .int), (cJ, .long)] [.ref h, .int a, .int f, .int b, .ref oo] ([(oo, .inl (cJ, 1, .inr (.inl O)))] ++ wX h rr cc cI N R C li us ob sl go gi fr la re) sz 1 (fun _ => [(oo, .inl (cJ, 1, .inr (.inl O)))] ++ wX h rr cc cI N R C li us ob sl go gi fr la re) 1 6 := by
  refine va_MetW (cc := bL_set) (maxL := 6) (ret := (some .int)) (by decide) rfl ?_
  intro p e s m args below meth c s₁ B hml hv
  obtain ⟨rfl, ⟨hsz, hP, hK, hD0⟩, hG⟩ := hv
  have hx := B.exec
  have hb := B.bytes
  have hr := B.returns
  have hbg : ∀ w ∈ sr_big, w.before _ s = true := fun w h => atoms_spec (ws := Cond.codeWith yL_set bL_set 6 (some .int) [(0, 12, 15, 23)] :: sr_big) B.pre w (List.mem_cons_of_mem _ h)
  have hown : s.vm.findClass RL = some m.cls := findClass_of_methodNamed B.named
  have hlocks := B.notSynchronized
  subst hsz
  have hD := hD0.self (sz := s.heap.size)
  generalize hAe : va_A ([(oo, .inl (cJ, 1, .inr (.inl O)))] ++ wX h rr cc cI N R C li us ob sl go gi fr la re) s.heap.size = A at *
  have hA : ∀ q : Nat, s.heap.size ≤ q → A q := fun q h => by rw [← hAe]; exact Or.inr h
  have hS : va_S A s.heap s.heap [] := va_S.rf
  have hl := lv_entry ([.ref h, .int a, .int f, .int b, .ref oo]) (n := 6) (Nat.le_of_ble_eq_true rfl)
  rw [lg_entry_eq]
  generalize (lg_sl ([.ref h, .int a, .int f, .int b, .ref oo]) ++ List.replicate (6 - (lg_sl ([.ref h, .int a, .int f, .int b, .ref oo])).length) Slot.unset).toArray = ls at hl ⊢
  have hl : lv_has ls 6 [(0, .ref h), (1, .int a), (2, .int f), (3, .int b), (4, .ref oo)] := hl
  obtain ⟨m9, meth9, c9, n1, n2, n3, -, -, htb, -⟩ := Cond.codeWith_spec (atoms_spec (ws := Cond.codeWith yL_set bL_set 6 (some .int) [(0, 12, 15, 23)] :: sr_big) B.pre _ List.mem_cons_self)
  cases Option.some.inj (n1.symm.trans B.named)
  cases Option.some.inj (n2.symm.trans B.method)
  cases Option.some.inj (n3.symm.trans (Stand.of_body B).code)
  obtain ⟨x9, hx9, t1, t2, t3, t4⟩ := sx_tab htb
  refine lv_aload hx hb dL_set_0 (lv_at hl 4 rfl) ?_
  refine lv_iconst (v := 0) hx hb dL_set_2 (by decide) ?_
  refine lv_aload_n hx hb dL_set_3 rfl (lv_at hl 0 rfl) ?_
  refine lv_iload_n hx hb dL_set_4 rfl (lv_at hl 1 rfl) ?_
  refine lv_iload_n hx hb dL_set_5 rfl (lv_at hl 2 rfl) ?_
  refine lv_iload_n hx hb dL_set_6 rfl (lv_at hl 3 rfl) ?_
  refine sy_cVx (wc := wX h rr cc cI N R C li us ob sl go gi fr la re) (wr := [(oo, .inl (cJ, 1, .inr (.inl O)))]) (ci := 0) (q0 := 0) (As := [.int a, .int f, .int b]) (rest := [.int 0, .ref oo]) ⟨hx, hb, hml, hown, hbg⟩ (hM s.heap.size) (cwV 3 hbg (bg_V bw_206 bw_207 bw_208 bw_34 bw_209) rfl rfl rfl (by decide +kernel) ⟨Nat.le_of_ble_eq_true rfl, Nat.le_of_ble_eq_true rfl⟩) hK [0] rfl hP hD hS hA hG.1 [1, 2, 3] [0] rfl rfl rfl rfl (by decide) rfl rfl rfl hl.1 rfl (Nat.le_of_ble_eq_true rfl) dL_set_7 ⟨Nat.le_of_ble_eq_true rfl, Nat.le_of_ble_eq_true rfl⟩ (fun q ce H locs hP hD hS hcell hcv hcl => ?_)
  have hP : va_P D vwC ([(oo, .inl (cJ, 1, .inr (.inl O)))] ++ wX h rr cc cI N R C li us ob sl go gi fr la re) H := hP
  have hD : va_D A ([(oo, .inl (cJ, 1, .inr (.inl O)))] ++ wX h rr cc cI N R C li us ob sl go gi fr la re) := hD
  refine vx_catch (own := RL) (name := sx_NSE) (E := sx_NSE) hown [] x9 [] (by rw [hx9]; rfl) (fun z hz => nomatch hz) (by unfold covers; rw [t1, t2]; decide) (by rw [t4]; decide) (by rw [t4]; exact hbg _ bw_205) (sx_any (sx_CW_on _ (by decide +kernel)) (hG.2 _ (by decide +kernel))) hcell hcv hcl ?_
  rw [t3]
  refine lv_astore (lv' := [(5, .ref q), (0, .ref h), (1, .int a), (2, .int f), (3, .int b), (4, .ref oo)]) hx hb dL_set_15 hl (by decide) rfl (fun ls hl => ?_)
  refine lv_iconst (v := 1) hx hb dL_set_17 (by decide) ?_
  refine W.widen (k := 1) (n := 6) (Nat.le_of_ble_eq_true rfl) (Nat.le_of_ble_eq_true rfl) ?_
  exact W.iret (v := 1) hx hb hr (fun t9 ht hW => ⟨⟨1, 0, rfl, rfl, by rw [ht]; exact hP, va_K.moved hW.alike hK, hD⟩, hS.F ht⟩) hS.2.2 dL_set_18

set_option maxHeartbeats 4000000 in
set_option maxRecDepth 100000 in
theorem wk_get (l : Launch) (D : va_G) (h rr cc : Nat) (cI : ClassId) (N : Nat) (R C : Nat → Int32) (li us ob sl go gi fr la re : Int32) (sz : Nat) (oo : Nat) (cJ : ClassId) (O : Nat → Int64) (a f : Int32) (r : Int32) (w1 : va_W) (hM : ∀ sz, sy_Mi l yX_get (Cond.code yX_get bX_get 3 (some .int) :: sr_big) { frames := 8, cells := 0, slots := 0, locals := 133 } D vwC [(cI, .int)] [.ref h, .int a, .int f] (wX h rr cc cI N R C li us ob sl go gi fr la re) sz r w1 0 0) : sy_Mg l yL_get (Cond.codeWith yL_get bL_get 5 (some .int) [(0, 10, 13, 23)] :: sr_big) { frames := 9, cells := 1, slots := 6, locals := 155 } D vwC [(cI, .int), (cJ, .long)] [.ref h, .int a, .int f, .ref oo] ([(oo, .inl (cJ, 1, .inr (.inl O)))] ++ wX h rr cc cI N R C li us ob sl go gi fr la re) sz 0 (fun _ => [(oo, .inl (cJ, 1, .inr (.inl (vp_updL O 0 r.toInt64))))] ++ w1) 1 6 := by
  refine va_MetW (cc := bL_get) (maxL := 5) (ret := (some .int)) (by decide) rfl ?_
  intro p e s m args below meth c s₁ B hml hv
  obtain ⟨rfl, ⟨hsz, hP, hK, hD0⟩, hG⟩ := hv
  have hx := B.exec
  have hb := B.bytes
  have hr := B.returns
  have hbg : ∀ w ∈ sr_big, w.before _ s = true := fun w h => atoms_spec (ws := Cond.codeWith yL_get bL_get 5 (some .int) [(0, 10, 13, 23)] :: sr_big) B.pre w (List.mem_cons_of_mem _ h)
  have hown : s.vm.findClass RL = some m.cls := findClass_of_methodNamed B.named
  have hlocks := B.notSynchronized
  subst hsz
  have hD := hD0.self (sz := s.heap.size)
  generalize hAe : va_A ([(oo, .inl (cJ, 1, .inr (.inl O)))] ++ wX h rr cc cI N R C li us ob sl go gi fr la re) s.heap.size = A at *
  have hA : ∀ q : Nat, s.heap.size ≤ q → A q := fun q h => by rw [← hAe]; exact Or.inr h
  have hS : va_S A s.heap s.heap [] := va_S.rf
  have hl := lv_entry ([.ref h, .int a, .int f, .ref oo]) (n := 5) (Nat.le_of_ble_eq_true rfl)
  rw [lg_entry_eq]
  generalize (lg_sl ([.ref h, .int a, .int f, .ref oo]) ++ List.replicate (5 - (lg_sl ([.ref h, .int a, .int f, .ref oo])).length) Slot.unset).toArray = ls at hl ⊢
  have hl : lv_has ls 5 [(0, .ref h), (1, .int a), (2, .int f), (3, .ref oo)] := hl
  refine lv_aload_n hx hb dL_get_0 rfl (lv_at hl 3 rfl) ?_
  refine lv_iconst (v := 0) hx hb dL_get_1 (by decide) ?_
  refine lv_aload_n hx hb dL_get_2 rfl (lv_at hl 0 rfl) ?_
  refine lv_iload_n hx hb dL_get_3 rfl (lv_at hl 1 rfl) ?_
  refine lv_iload_n hx hb dL_get_4 rfl (lv_at hl 2 rfl) ?_
  refine sy_cVi (wc := wX h rr cc cI N R C li us ob sl go gi fr la re) (wr := [(oo, .inl (cJ, 1, .inr (.inl O)))]) (w1 := w1) (ci := 0) (q0 := 0) (As := [.int a, .int f]) (rest := [.int 0, .ref oo]) ⟨hx, hb, hml, hown, hbg⟩ (hM s.heap.size) (cwV 2 hbg (bg_V bw_241 bw_242 bw_243 bw_34 bw_244) rfl rfl rfl (by decide +kernel) ⟨Nat.le_of_ble_eq_true rfl, Nat.le_of_ble_eq_true rfl⟩) hK [0] rfl hP hD hS hA [1, 2, 3] [0] rfl rfl rfl rfl (by decide) rfl rfl rfl hl.1 rfl (Nat.le_of_ble_eq_true rfl) dL_get_5 ⟨Nat.le_of_ble_eq_true rfl, Nat.le_of_ble_eq_true rfl⟩ (fun H locs hP hD hS => ?_)
  refine lv_i2l (v := r.toInt64) hx hb dL_get_8 rfl ?_
  refine va_last hx hb hK hP hD hS 0 1 rfl rfl sx_in01 dL_get_9 (fun H locs hP hD hS => ?_)
  have hP : va_P D vwC ([(oo, .inl (cJ, 1, .inr (.inl (vp_updL O 0 r.toInt64))))] ++ w1) H := hP
  have hD : va_D A ([(oo, .inl (cJ, 1, .inr (.inl (vp_updL O 0 r.toInt64))))] ++ w1) := hD
  refine lv_goto (tgt := 17) hx hb dL_get_10 (by decide) ?_
  refine lv_iconst (v := 0) hx hb dL_get_17 (by decide) ?_
  refine W.widen (k := 1) (n := 6) (Nat.le_of_ble_eq_true rfl) (Nat.le_of_ble_eq_true rfl) ?_
  exact W.iret (v := 0) hx hb hr (fun t9 ht hW => ⟨⟨0, 0, rfl, rfl, by rw [ht]; exact hP, va_K.moved hW.alike hK, hD⟩, hS.F ht⟩) hS.2.2 dL_get_18

set_option maxHeartbeats 4000000 in
set_option maxRecDepth 100000 in
theorem wb_get (l : Launch) (D : va_G) (h rr cc : Nat) (cI : ClassId) (N : Nat) (R C : Nat → Int32) (li us ob sl go gi fr la re : Int32) (sz : Nat) (oo : Nat) (cJ : ClassId) (O : Nat → Int64) (a f : Int32) (hM : ∀ sz, sy_Mx l yX_get (Cond.code yX_get bX_get 3 (some .int) :: sr_big) { frames := 8, cells := 1, slots := 6, locals := 133 } D vwC [(cI, .int)] [.ref h, .int a, .int f] (wX h rr cc cI N R C li us ob sl go gi fr la re) sz sx_NSE 1 6) : sy_Mg l yL_get (Cond.codeWith yL_get bL_get 5 (some .int) [(0, 10, 13, 23)] :: sr_big) { frames := 9, cells := 1, slots := 6, locals := 155 } D vwC [(cI, .int), (cJ, .long)] [.ref h, .int a, .int f, .ref oo] ([(oo, .inl (cJ, 1, .inr (.inl O)))] ++ wX h rr cc cI N R C li us ob sl go gi fr la re) sz 1 (fun _ => [(oo, .inl (cJ, 1, .inr (.inl O)))] ++ wX h rr cc cI N R C li us ob sl go gi fr la re) 1 6 := by
  refine va_MetW (cc := bL_get) (maxL := 5) (ret := (some .int)) (by decide) rfl ?_
  intro p e s m args below meth c s₁ B hml hv
  obtain ⟨rfl, ⟨hsz, hP, hK, hD0⟩, hG⟩ := hv
  have hx := B.exec
  have hb := B.bytes
  have hr := B.returns
  have hbg : ∀ w ∈ sr_big, w.before _ s = true := fun w h => atoms_spec (ws := Cond.codeWith yL_get bL_get 5 (some .int) [(0, 10, 13, 23)] :: sr_big) B.pre w (List.mem_cons_of_mem _ h)
  have hown : s.vm.findClass RL = some m.cls := findClass_of_methodNamed B.named
  have hlocks := B.notSynchronized
  subst hsz
  have hD := hD0.self (sz := s.heap.size)
  generalize hAe : va_A ([(oo, .inl (cJ, 1, .inr (.inl O)))] ++ wX h rr cc cI N R C li us ob sl go gi fr la re) s.heap.size = A at *
  have hA : ∀ q : Nat, s.heap.size ≤ q → A q := fun q h => by rw [← hAe]; exact Or.inr h
  have hS : va_S A s.heap s.heap [] := va_S.rf
  have hl := lv_entry ([.ref h, .int a, .int f, .ref oo]) (n := 5) (Nat.le_of_ble_eq_true rfl)
  rw [lg_entry_eq]
  generalize (lg_sl ([.ref h, .int a, .int f, .ref oo]) ++ List.replicate (5 - (lg_sl ([.ref h, .int a, .int f, .ref oo])).length) Slot.unset).toArray = ls at hl ⊢
  have hl : lv_has ls 5 [(0, .ref h), (1, .int a), (2, .int f), (3, .ref oo)] := hl
  obtain ⟨m9, meth9, c9, n1, n2, n3, -, -, htb, -⟩ := Cond.codeWith_spec (atoms_spec (ws := Cond.codeWith yL_get bL_get 5 (some .int) [(0, 10, 13, 23)] :: sr_big) B.pre _ List.mem_cons_self)
  cases Option.some.inj (n1.symm.trans B.named)
  cases Option.some.inj (n2.symm.trans B.method)
  cases Option.some.inj (n3.symm.trans (Stand.of_body B).code)
  obtain ⟨x9, hx9, t1, t2, t3, t4⟩ := sx_tab htb
  refine lv_aload_n hx hb dL_get_0 rfl (lv_at hl 3 rfl) ?_
  refine lv_iconst (v := 0) hx hb dL_get_1 (by decide) ?_
  refine lv_aload_n hx hb dL_get_2 rfl (lv_at hl 0 rfl) ?_
  refine lv_iload_n hx hb dL_get_3 rfl (lv_at hl 1 rfl) ?_
  refine lv_iload_n hx hb dL_get_4 rfl (lv_at hl 2 rfl) ?_
  refine sy_cVx (wc := wX h rr cc cI N R C li us ob sl go gi fr la re) (wr := [(oo, .inl (cJ, 1, .inr (.inl O)))]) (ci := 0) (q0 := 0) (As := [.int a, .int f]) (rest := [.int 0, .ref oo]) ⟨hx, hb, hml, hown, hbg⟩ (hM s.heap.size) (cwV 2 hbg (bg_V bw_241 bw_242 bw_243 bw_34 bw_244) rfl rfl rfl (by decide +kernel) ⟨Nat.le_of_ble_eq_true rfl, Nat.le_of_ble_eq_true rfl⟩) hK [0] rfl hP hD hS hA hG.1 [1, 2, 3] [0] rfl rfl rfl rfl (by decide) rfl rfl rfl hl.1 rfl (Nat.le_of_ble_eq_true rfl) dL_get_5 ⟨Nat.le_of_ble_eq_true rfl, Nat.le_of_ble_eq_true rfl⟩ (fun q ce H locs hP hD hS hcell hcv hcl => ?_)
  have hP : va_P D vwC ([(oo, .inl (cJ, 1, .inr (.inl O)))] ++ wX h rr cc cI N R C li us ob sl go gi fr la re) H := hP
  have hD : va_D A ([(oo, .inl (cJ, 1, .inr (.inl O)))] ++ wX h rr cc cI N R C li us ob sl go gi fr la re) := hD
  refine vx_catch (own := RL) (name := sx_NSE) (E := sx_NSE) hown [] x9 [] (by rw [hx9]; rfl) (fun z hz => nomatch hz) (by unfold covers; rw [t1, t2]; decide) (by rw [t4]; decide) (by rw [t4]; exact hbg _ bw_205) (sx_any (sx_CW_on _ (by decide +kernel)) (hG.2 _ (by decide +kernel))) hcell hcv hcl ?_
  rw [t3]
  refine lv_astore (lv' := [(4, .ref q), (0, .ref h), (1, .int a), (2, .int f), (3, .ref oo)]) hx hb dL_get_13 hl (by decide) rfl (fun ls hl => ?_)
  refine lv_iconst (v := 1) hx hb dL_get_15 (by decide) ?_
  refine W.widen (k := 1) (n := 6) (Nat.le_of_ble_eq_true rfl) (Nat.le_of_ble_eq_true rfl) ?_
  exact W.iret (v := 1) hx hb hr (fun t9 ht hW => ⟨⟨1, 0, rfl, rfl, by rw [ht]; exact hP, va_K.moved hW.alike hK, hD⟩, hS.F ht⟩) hS.2.2 dL_get_16

set_option maxHeartbeats 4000000 in
set_option maxRecDepth 100000 in
theorem wk_put (l : Launch) (D : va_G) (h rr cc : Nat) (cI : ClassId) (N : Nat) (R C : Nat → Int32) (li us ob sl go gi fr la re : Int32) (sz : Nat) (oo : Nat) (cJ : ClassId) (O : Nat → Int64) (a f v : Int32) (r : Int32) (w1 : va_W) (hM : ∀ sz, sy_Mi l yX_put (Cond.code yX_put bX_put 4 (some .int) :: sr_big) { frames := 8, cells := 0, slots := 0, locals := 133 } D vwC [(cI, .int)] [.ref h, .int a, .int f, .int v] (wX h rr cc cI N R C li us ob sl go gi fr la re) sz r w1 0 0) : sy_Mg l yL_put (Cond.codeWith yL_put bL_put 6 (some .int) [(0, 12, 15, 23)] :: sr_big) { frames := 9, cells := 1, slots := 6, locals := 156 } D vwC [(cI, .int), (cJ, .long)] [.ref h, .int a, .int f, .int v, .ref oo] ([(oo, .inl (cJ, 1, .inr (.inl O)))] ++ wX h rr cc cI N R C li us ob sl go gi fr la re) sz 0 (fun _ => [(oo, .inl (cJ, 1, .inr (.inl (vp_updL O 0 r.toInt64))))] ++ w1) 1 6 := by
  refine va_MetW (cc := bL_put) (maxL := 6) (ret := (some .int)) (by decide) rfl ?_
  intro p e s m args below meth c s₁ B hml hv
  obtain ⟨rfl, ⟨hsz, hP, hK, hD0⟩, hG⟩ := hv
  have hx := B.exec
  have hb := B.bytes
  have hr := B.returns
  have hbg : ∀ w ∈ sr_big, w.before _ s = true := fun w h => atoms_spec (ws := Cond.codeWith yL_put bL_put 6 (some .int) [(0, 12, 15, 23)] :: sr_big) B.pre w (List.mem_cons_of_mem _ h)
  have hown : s.vm.findClass RL = some m.cls := findClass_of_methodNamed B.named
  have hlocks := B.notSynchronized
  subst hsz
  have hD := hD0.self (sz := s.heap.size)
  generalize hAe : va_A ([(oo, .inl (cJ, 1, .inr (.inl O)))] ++ wX h rr cc cI N R C li us ob sl go gi fr la re) s.heap.size = A at *
  have hA : ∀ q : Nat, s.heap.size ≤ q → A q := fun q h => by rw [← hAe]; exact Or.inr h
  have hS : va_S A s.heap s.heap [] := va_S.rf
  have hl := lv_entry ([.ref h, .int a, .int f, .int v, .ref oo]) (n := 6) (Nat.le_of_ble_eq_true rfl)
  rw [lg_entry_eq]
  generalize (lg_sl ([.ref h, .int a, .int f, .int v, .ref oo]) ++ List.replicate (6 - (lg_sl ([.ref h, .int a, .int f, .int v, .ref oo])).length) Slot.unset).toArray = ls at hl ⊢
  have hl : lv_has ls 6 [(0, .ref h), (1, .int a), (2, .int f), (3, .int v), (4, .ref oo)] := hl
  refine lv_aload hx hb dL_put_0 (lv_at hl 4 rfl) ?_
  refine lv_iconst (v := 0) hx hb dL_put_2 (by decide) ?_
  refine lv_aload_n hx hb dL_put_3 rfl (lv_at hl 0 rfl) ?_
  refine lv_iload_n hx hb dL_put_4 rfl (lv_at hl 1 rfl) ?_
  refine lv_iload_n hx hb dL_put_5 rfl (lv_at hl 2 rfl) ?_
  refine lv_iload_n hx hb dL_put_6 rfl (lv_at hl 3 rfl) ?_
  refine sy_cVi (wc := wX h rr cc cI N R C li us ob sl go gi fr la re) (wr := [(oo, .inl (cJ, 1, .inr (.inl O)))]) (w1 := w1) (ci := 0) (q0 := 0) (As := [.int a, .int f, .int v]) (rest := [.int 0, .ref oo]) ⟨hx, hb, hml, hown, hbg⟩ (hM s.heap.size) (cwV 3 hbg (bg_V bw_248 bw_249 bw_250 bw_34 bw_251) rfl rfl rfl (by decide +kernel) ⟨Nat.le_of_ble_eq_true rfl, Nat.le_of_ble_eq_true rfl⟩) hK [0] rfl hP hD hS hA [1, 2, 3] [0] rfl rfl rfl rfl (by decide) rfl rfl rfl hl.1 rfl (Nat.le_of_ble_eq_true rfl) dL_put_7 ⟨Nat.le_of_ble_eq_true rfl, Nat.le_of_ble_eq_true rfl⟩ (fun H locs hP hD hS => ?_)
  refine lv_i2l (v := r.toInt64) hx hb dL_put_10 rfl ?_
  refine va_last hx hb hK hP hD hS 0 1 rfl rfl sx_in01 dL_put_11 (fun H locs hP hD hS => ?_)
  have hP : va_P D vwC ([(oo, .inl (cJ, 1, .inr (.inl (vp_updL O 0 r.toInt64))))] ++ w1) H := hP
  have hD : va_D A ([(oo, .inl (cJ, 1, .inr (.inl (vp_updL O 0 r.toInt64))))] ++ w1) := hD
  refine lv_goto (tgt := 19) hx hb dL_put_12 (by decide) ?_
  refine lv_iconst (v := 0) hx hb dL_put_19 (by decide) ?_
  refine W.widen (k := 1) (n := 6) (Nat.le_of_ble_eq_true rfl) (Nat.le_of_ble_eq_true rfl) ?_
  exact W.iret (v := 0) hx hb hr (fun t9 ht hW => ⟨⟨0, 0, rfl, rfl, by rw [ht]; exact hP, va_K.moved hW.alike hK, hD⟩, hS.F ht⟩) hS.2.2 dL_put_20

set_option maxHeartbeats 4000000 in
set_option maxRecDepth 100000 in
theorem wb_put (l : Launch) (D : va_G) (h rr cc : Nat) (cI : ClassId) (N : Nat) (R C : Nat → Int32) (li us ob sl go gi fr la re : Int32) (sz : Nat) (oo : Nat) (cJ : ClassId) (O : Nat → Int64) (a f v : Int32) (hM : ∀ sz, sy_Mx l yX_put (Cond.code yX_put bX_put 4 (some .int) :: sr_big) { frames := 8, cells := 1, slots := 6, locals := 133 } D vwC [(cI, .int)] [.ref h, .int a, .int f, .int v] (wX h rr cc cI N R C li us ob sl go gi fr la re) sz sx_NSE 1 6) : sy_Mg l yL_put (Cond.codeWith yL_put bL_put 6 (some .int) [(0, 12, 15, 23)] :: sr_big) { frames := 9, cells := 1, slots := 6, locals := 156 } D vwC [(cI, .int), (cJ, .long)] [.ref h, .int a, .int f, .int v, .ref oo] ([(oo, .inl (cJ, 1, .inr (.inl O)))] ++ wX h rr cc cI N R C li us ob sl go gi fr la re) sz 1 (fun _ => [(oo, .inl (cJ, 1, .inr (.inl O)))] ++ wX h rr cc cI N R C li us ob sl go gi fr la re) 1 6 := by
  refine va_MetW (cc := bL_put) (maxL := 6) (ret := (some .int)) (by decide) rfl ?_
  intro p e s m args below meth c s₁ B hml hv
  obtain ⟨rfl, ⟨hsz, hP, hK, hD0⟩, hG⟩ := hv
  have hx := B.exec
  have hb := B.bytes
  have hr := B.returns
  have hbg : ∀ w ∈ sr_big, w.before _ s = true := fun w h => atoms_spec (ws := Cond.codeWith yL_put bL_put 6 (some .int) [(0, 12, 15, 23)] :: sr_big) B.pre w (List.mem_cons_of_mem _ h)
  have hown : s.vm.findClass RL = some m.cls := findClass_of_methodNamed B.named
  have hlocks := B.notSynchronized
  subst hsz
  have hD := hD0.self (sz := s.heap.size)
  generalize hAe : va_A ([(oo, .inl (cJ, 1, .inr (.inl O)))] ++ wX h rr cc cI N R C li us ob sl go gi fr la re) s.heap.size = A at *
  have hA : ∀ q : Nat, s.heap.size ≤ q → A q := fun q h => by rw [← hAe]; exact Or.inr h
  have hS : va_S A s.heap s.heap [] := va_S.rf
  have hl := lv_entry ([.ref h, .int a, .int f, .int v, .ref oo]) (n := 6) (Nat.le_of_ble_eq_true rfl)
  rw [lg_entry_eq]
  generalize (lg_sl ([.ref h, .int a, .int f, .int v, .ref oo]) ++ List.replicate (6 - (lg_sl ([.ref h, .int a, .int f, .int v, .ref oo])).length) Slot.unset).toArray = ls at hl ⊢
  have hl : lv_has ls 6 [(0, .ref h), (1, .int a), (2, .int f), (3, .int v), (4, .ref oo)] := hl
  obtain ⟨m9, meth9, c9, n1, n2, n3, -, -, htb, -⟩ := Cond.codeWith_spec (atoms_spec (ws := Cond.codeWith yL_put bL_put 6 (some .int) [(0, 12, 15, 23)] :: sr_big) B.pre _ List.mem_cons_self)
  cases Option.some.inj (n1.symm.trans B.named)
  cases Option.some.inj (n2.symm.trans B.method)
  cases Option.some.inj (n3.symm.trans (Stand.of_body B).code)
  obtain ⟨x9, hx9, t1, t2, t3, t4⟩ := sx_tab htb
  refine lv_aload hx hb dL_put_0 (lv_at hl 4 rfl) ?_
  refine lv_iconst (v := 0) hx hb dL_put_2 (by decide) ?_
  refine lv_aload_n hx hb dL_put_3 rfl (lv_at hl 0 rfl) ?_
  refine lv_iload_n hx hb dL_put_4 rfl (lv_at hl 1 rfl) ?_
  refine lv_iload_n hx hb dL_put_5 rfl (lv_at hl 2 rfl) ?_
  refine lv_iload_n hx hb dL_put_6 rfl (lv_at hl 3 rfl) ?_
  refine sy_cVx (wc := wX h rr cc cI N R C li us ob sl go gi fr la re) (wr := [(oo, .inl (cJ, 1, .inr (.inl O)))]) (ci := 0) (q0 := 0) (As := [.int a, .int f, .int v]) (rest := [.int 0, .ref oo]) ⟨hx, hb, hml, hown, hbg⟩ (hM s.heap.size) (cwV 3 hbg (bg_V bw_248 bw_249 bw_250 bw_34 bw_251) rfl rfl rfl (by decide +kernel) ⟨Nat.le_of_ble_eq_true rfl, Nat.le_of_ble_eq_true rfl⟩) hK [0] rfl hP hD hS hA hG.1 [1, 2, 3] [0] rfl rfl rfl rfl (by decide) rfl rfl rfl hl.1 rfl (Nat.le_of_ble_eq_true rfl) dL_put_7 ⟨Nat.le_of_ble_eq_true rfl, Nat.le_of_ble_eq_true rfl⟩ (fun q ce H locs hP hD hS hcell hcv hcl => ?_)
  have hP : va_P D vwC ([(oo, .inl (cJ, 1, .inr (.inl O)))] ++ wX h rr cc cI N R C li us ob sl go gi fr la re) H := hP
  have hD : va_D A ([(oo, .inl (cJ, 1, .inr (.inl O)))] ++ wX h rr cc cI N R C li us ob sl go gi fr la re) := hD
  refine vx_catch (own := RL) (name := sx_NSE) (E := sx_NSE) hown [] x9 [] (by rw [hx9]; rfl) (fun z hz => nomatch hz) (by unfold covers; rw [t1, t2]; decide) (by rw [t4]; decide) (by rw [t4]; exact hbg _ bw_205) (sx_any (sx_CW_on _ (by decide +kernel)) (hG.2 _ (by decide +kernel))) hcell hcv hcl ?_
  rw [t3]
  refine lv_astore (lv' := [(5, .ref q), (0, .ref h), (1, .int a), (2, .int f), (3, .int v), (4, .ref oo)]) hx hb dL_put_15 hl (by decide) rfl (fun ls hl => ?_)
  refine lv_iconst (v := 1) hx hb dL_put_17 (by decide) ?_
  refine W.widen (k := 1) (n := 6) (Nat.le_of_ble_eq_true rfl) (Nat.le_of_ble_eq_true rfl) ?_
  exact W.iret (v := 1) hx hb hr (fun t9 ht hW => ⟨⟨1, 0, rfl, rfl, by rw [ht]; exact hP, va_K.moved hW.alike hK, hD⟩, hS.F ht⟩) hS.2.2 dL_put_18

set_option maxHeartbeats 4000000 in
set_option maxRecDepth 100000 in
theorem wk_word (l : Launch) (D : va_G) (h rr cc : Nat) (cI : ClassId) (N : Nat) (R C : Nat → Int32) (li us ob sl go gi fr la re : Int32) (sz : Nat) (oo : Nat) (cJ : ClassId) (O : Nat → Int64) (a f : Int32) (r : Int32) (w1 : va_W) (hM : ∀ sz, sy_Mi l yX_word (Cond.code yX_word bX_word 3 (some .int) :: sr_big) { frames := 8, cells := 0, slots := 0, locals := 133 } D vwC [(cI, .int)] [.ref h, .int a, .int f] (wX h rr cc cI N R C li us ob sl go gi fr la re) sz r w1 0 0) : sy_Mg l yL_word (Cond.codeWith yL_word bL_word 5 (some .int) [(0, 10, 13, 23)] :: sr_big) { frames := 9, cells := 1, slots := 6, locals := 155 } D vwC [(cI, .int), (cJ, .long)] [.ref h, .int a, .int f, .ref oo] ([(oo, .inl (cJ, 1, .inr (.inl O)))] ++ wX h rr cc cI N R C li us ob sl go gi fr la re) sz 0 (fun _ => [(oo, .inl (cJ, 1, .inr (.inl (vp_updL O 0 r.toInt64))))] ++ w1) 1 6 := by
  refine va_MetW (cc := bL_word) (maxL := 5) (ret := (some .int)) (by decide) rfl ?_
  intro p e s m args below meth c s₁ B hml hv
  obtain ⟨rfl, ⟨hsz, hP, hK, hD0⟩, hG⟩ := hv
  have hx := B.exec
  have hb := B.bytes
  have hr := B.returns
  have hbg : ∀ w ∈ sr_big, w.before _ s = true := fun w h => atoms_spec (ws := Cond.codeWith yL_word bL_word 5 (some .int) [(0, 10, 13, 23)] :: sr_big) B.pre w (List.mem_cons_of_mem _ h)
  have hown : s.vm.findClass RL = some m.cls := findClass_of_methodNamed B.named
  have hlocks := B.notSynchronized
  subst hsz
  have hD := hD0.self (sz := s.heap.size)
  generalize hAe : va_A ([(oo, .inl (cJ, 1, .inr (.inl O)))] ++ wX h rr cc cI N R C li us ob sl go gi fr la re) s.heap.size = A at *
  have hA : ∀ q : Nat, s.heap.size ≤ q → A q := fun q h => by rw [← hAe]; exact Or.inr h
  have hS : va_S A s.heap s.heap [] := va_S.rf
  have hl := lv_entry ([.ref h, .int a, .int f, .ref oo]) (n := 5) (Nat.le_of_ble_eq_true rfl)
  rw [lg_entry_eq]
  generalize (lg_sl ([.ref h, .int a, .int f, .ref oo]) ++ List.replicate (5 - (lg_sl ([.ref h, .int a, .int f, .ref oo])).length) Slot.unset).toArray = ls at hl ⊢
  have hl : lv_has ls 5 [(0, .ref h), (1, .int a), (2, .int f), (3, .ref oo)] := hl
  refine lv_aload_n hx hb dL_word_0 rfl (lv_at hl 3 rfl) ?_
  refine lv_iconst (v := 0) hx hb dL_word_1 (by decide) ?_
  refine lv_aload_n hx hb dL_word_2 rfl (lv_at hl 0 rfl) ?_
  refine lv_iload_n hx hb dL_word_3 rfl (lv_at hl 1 rfl) ?_
  refine lv_iload_n hx hb dL_word_4 rfl (lv_at hl 2 rfl) ?_
  refine sy_cVi (wc := wX h rr cc cI N R C li us ob sl go gi fr la re) (wr := [(oo, .inl (cJ, 1, .inr (.inl O)))]) (w1 := w1) (ci := 0) (q0 := 0) (As := [.int a, .int f]) (rest := [.int 0, .ref oo]) ⟨hx, hb, hml, hown, hbg⟩ (hM s.heap.size) (cwV 2 hbg (bg_V bw_261 bw_262 bw_263 bw_34 bw_264) rfl rfl rfl (by decide +kernel) ⟨Nat.le_of_ble_eq_true rfl, Nat.le_of_ble_eq_true rfl⟩) hK [0] rfl hP hD hS hA [1, 2, 3] [0] rfl rfl rfl rfl (by decide) rfl rfl rfl hl.1 rfl (Nat.le_of_ble_eq_true rfl) dL_word_5 ⟨Nat.le_of_ble_eq_true rfl, Nat.le_of_ble_eq_true rfl⟩ (fun H locs hP hD hS => ?_)
  refine lv_i2l (v := r.toInt64) hx hb dL_word_8 rfl ?_
  refine va_last hx hb hK hP hD hS 0 1 rfl rfl sx_in01 dL_word_9 (fun H locs hP hD hS => ?_)
  have hP : va_P D vwC ([(oo, .inl (cJ, 1, .inr (.inl (vp_updL O 0 r.toInt64))))] ++ w1) H := hP
  have hD : va_D A ([(oo, .inl (cJ, 1, .inr (.inl (vp_updL O 0 r.toInt64))))] ++ w1) := hD
  refine lv_goto (tgt := 17) hx hb dL_word_10 (by decide) ?_
  refine lv_iconst (v := 0) hx hb dL_word_17 (by decide) ?_
  refine W.widen (k := 1) (n := 6) (Nat.le_of_ble_eq_true rfl) (Nat.le_of_ble_eq_true rfl) ?_
  exact W.iret (v := 0) hx hb hr (fun t9 ht hW => ⟨⟨0, 0, rfl, rfl, by rw [ht]; exact hP, va_K.moved hW.alike hK, hD⟩, hS.F ht⟩) hS.2.2 dL_word_18

set_option maxHeartbeats 4000000 in
set_option maxRecDepth 100000 in
theorem wb_word (l : Launch) (D : va_G) (h rr cc : Nat) (cI : ClassId) (N : Nat) (R C : Nat → Int32) (li us ob sl go gi fr la re : Int32) (sz : Nat) (oo : Nat) (cJ : ClassId) (O : Nat → Int64) (a f : Int32) (hM : ∀ sz, sy_Mx l yX_word (Cond.code yX_word bX_word 3 (some .int) :: sr_big) { frames := 8, cells := 1, slots := 6, locals := 133 } D vwC [(cI, .int)] [.ref h, .int a, .int f] (wX h rr cc cI N R C li us ob sl go gi fr la re) sz sx_NSE 1 6) : sy_Mg l yL_word (Cond.codeWith yL_word bL_word 5 (some .int) [(0, 10, 13, 23)] :: sr_big) { frames := 9, cells := 1, slots := 6, locals := 155 } D vwC [(cI, .int), (cJ, .long)] [.ref h, .int a, .int f, .ref oo] ([(oo, .inl (cJ, 1, .inr (.inl O)))] ++ wX h rr cc cI N R C li us ob sl go gi fr la re) sz 1 (fun _ => [(oo, .inl (cJ, 1, .inr (.inl O)))] ++ wX h rr cc cI N R C li us ob sl go gi fr la re) 1 6 := by
  refine va_MetW (cc := bL_word) (maxL := 5) (ret := (some .int)) (by decide) rfl ?_
  intro p e s m args below meth c s₁ B hml hv
  obtain ⟨rfl, ⟨hsz, hP, hK, hD0⟩, hG⟩ := hv
  have hx := B.exec
  have hb := B.bytes
  have hr := B.returns
  have hbg : ∀ w ∈ sr_big, w.before _ s = true := fun w h => atoms_spec (ws := Cond.codeWith yL_word bL_word 5 (some .int) [(0, 10, 13, 23)] :: sr_big) B.pre w (List.mem_cons_of_mem _ h)
  have hown : s.vm.findClass RL = some m.cls := findClass_of_methodNamed B.named
  have hlocks := B.notSynchronized
  subst hsz
  have hD := hD0.self (sz := s.heap.size)
  generalize hAe : va_A ([(oo, .inl (cJ, 1, .inr (.inl O)))] ++ wX h rr cc cI N R C li us ob sl go gi fr la re) s.heap.size = A at *
  have hA : ∀ q : Nat, s.heap.size ≤ q → A q := fun q h => by rw [← hAe]; exact Or.inr h
  have hS : va_S A s.heap s.heap [] := va_S.rf
  have hl := lv_entry ([.ref h, .int a, .int f, .ref oo]) (n := 5) (Nat.le_of_ble_eq_true rfl)
  rw [lg_entry_eq]
  generalize (lg_sl ([.ref h, .int a, .int f, .ref oo]) ++ List.replicate (5 - (lg_sl ([.ref h, .int a, .int f, .ref oo])).length) Slot.unset).toArray = ls at hl ⊢
  have hl : lv_has ls 5 [(0, .ref h), (1, .int a), (2, .int f), (3, .ref oo)] := hl
  obtain ⟨m9, meth9, c9, n1, n2, n3, -, -, htb, -⟩ := Cond.codeWith_spec (atoms_spec (ws := Cond.codeWith yL_word bL_word 5 (some .int) [(0, 10, 13, 23)] :: sr_big) B.pre _ List.mem_cons_self)
  cases Option.some.inj (n1.symm.trans B.named)
  cases Option.some.inj (n2.symm.trans B.method)
  cases Option.some.inj (n3.symm.trans (Stand.of_body B).code)
  obtain ⟨x9, hx9, t1, t2, t3, t4⟩ := sx_tab htb
  refine lv_aload_n hx hb dL_word_0 rfl (lv_at hl 3 rfl) ?_
  refine lv_iconst (v := 0) hx hb dL_word_1 (by decide) ?_
  refine lv_aload_n hx hb dL_word_2 rfl (lv_at hl 0 rfl) ?_
  refine lv_iload_n hx hb dL_word_3 rfl (lv_at hl 1 rfl) ?_
  refine lv_iload_n hx hb dL_word_4 rfl (lv_at hl 2 rfl) ?_
  refine sy_cVx (wc := wX h rr cc cI N R C li us ob sl go gi fr la re) (wr := [(oo, .inl (cJ, 1, .inr (.inl O)))]) (ci := 0) (q0 := 0) (As := [.int a, .int f]) (rest := [.int 0, .ref oo]) ⟨hx, hb, hml, hown, hbg⟩ (hM s.heap.size) (cwV 2 hbg (bg_V bw_261 bw_262 bw_263 bw_34 bw_264) rfl rfl rfl (by decide +kernel) ⟨Nat.le_of_ble_eq_true rfl, Nat.le_of_ble_eq_true rfl⟩) hK [0] rfl hP hD hS hA hG.1 [1, 2, 3] [0] rfl rfl rfl rfl (by decide) rfl rfl rfl hl.1 rfl (Nat.le_of_ble_eq_true rfl) dL_word_5 ⟨Nat.le_of_ble_eq_true rfl, Nat.le_of_ble_eq_true rfl⟩ (fun q ce H locs hP hD hS hcell hcv hcl => ?_)
  have hP : va_P D vwC ([(oo, .inl (cJ, 1, .inr (.inl O)))] ++ wX h rr cc cI N R C li us ob sl go gi fr la re) H := hP
  have hD : va_D A ([(oo, .inl (cJ, 1, .inr (.inl O)))] ++ wX h rr cc cI N R C li us ob sl go gi fr la re) := hD
  refine vx_catch (own := RL) (name := sx_NSE) (E := sx_NSE) hown [] x9 [] (by rw [hx9]; rfl) (fun z hz => nomatch hz) (by unfold covers; rw [t1, t2]; decide) (by rw [t4]; decide) (by rw [t4]; exact hbg _ bw_205) (sx_any (sx_CW_on _ (by decide +kernel)) (hG.2 _ (by decide +kernel))) hcell hcv hcl ?_
  rw [t3]
  refine lv_astore (lv' := [(4, .ref q), (0, .ref h), (1, .int a), (2, .int f), (3, .ref oo)]) hx hb dL_word_13 hl (by decide) rfl (fun ls hl => ?_)
  refine lv_iconst (v := 1) hx hb dL_word_15 (by decide) ?_
  refine W.widen (k := 1) (n := 6) (Nat.le_of_ble_eq_true rfl) (Nat.le_of_ble_eq_true rfl) ?_
  exact W.iret (v := 1) hx hb hr (fun t9 ht hW => ⟨⟨1, 0, rfl, rfl, by rw [ht]; exact hP, va_K.moved hW.alike hK, hD⟩, hS.F ht⟩) hS.2.2 dL_word_16

set_option maxHeartbeats 4000000 in
set_option maxRecDepth 100000 in
theorem wk_root (l : Launch) (D : va_G) (h rr cc : Nat) (cI : ClassId) (N : Nat) (R C : Nat → Int32) (li us ob sl go gi fr la re : Int32) (sz : Nat) (oo : Nat) (cJ : ClassId) (O : Nat → Int64) (x a : Int32) (r : Int32) (w1 : va_W) (hM : ∀ sz, sy_Mi l yX_root (Cond.code yX_root bX_root 4 (some .int) :: sr_big) { frames := 8, cells := 0, slots := 0, locals := 132 } D vwC [(cI, .int)] [.ref h, .int x, .int a] (wX h rr cc cI N R C li us ob sl go gi fr la re) sz r w1 0 0) : sy_Mg l yL_root (Cond.codeWith yL_root bL_root 5 (some .int) [(0, 10, 13, 23)] :: sr_big) { frames := 9, cells := 1, slots := 6, locals := 155 } D vwC [(cI, .int), (cJ, .long)] [.ref h, .int x, .int a, .ref oo] ([(oo, .inl (cJ, 1, .inr (.inl O)))] ++ wX h rr cc cI N R C li us ob sl go gi fr la re) sz 0 (fun _ => [(oo, .inl (cJ, 1, .inr (.inl (vp_updL O 0 r.toInt64))))] ++ w1) 1 6 := by
  refine va_MetW (cc := bL_root) (maxL := 5) (ret := (some .int)) (by decide) rfl ?_
  intro p e s m args below meth c s₁ B hml hv
  obtain ⟨rfl, ⟨hsz, hP, hK, hD0⟩, hG⟩ := hv
  have hx := B.exec
  have hb := B.bytes
  have hr := B.returns
  have hbg : ∀ w ∈ sr_big, w.before _ s = true := fun w h => atoms_spec (ws := Cond.codeWith yL_root bL_root 5 (some .int) [(0, 10, 13, 23)] :: sr_big) B.pre w (List.mem_cons_of_mem _ h)
  have hown : s.vm.findClass RL = some m.cls := findClass_of_methodNamed B.named
  have hlocks := B.notSynchronized
  subst hsz
  have hD := hD0.self (sz := s.heap.size)
  generalize hAe : va_A ([(oo, .inl (cJ, 1, .inr (.inl O)))] ++ wX h rr cc cI N R C li us ob sl go gi fr la re) s.heap.size = A at *
  have hA : ∀ q : Nat, s.heap.size ≤ q → A q := fun q h => by rw [← hAe]; exact Or.inr h
  have hS : va_S A s.heap s.heap [] := va_S.rf
  have hl := lv_entry ([.ref h, .int x, .int a, .ref oo]) (n := 5) (Nat.le_of_ble_eq_true rfl)
  rw [lg_entry_eq]
  generalize (lg_sl ([.ref h, .int x, .int a, .ref oo]) ++ List.replicate (5 - (lg_sl ([.ref h, .int x, .int a, .ref oo])).length) Slot.unset).toArray = ls at hl ⊢
  have hl : lv_has ls 5 [(0, .ref h), (1, .int x), (2, .int a), (3, .ref oo)] := hl
  refine lv_aload_n hx hb dL_root_0 rfl (lv_at hl 3 rfl) ?_
  refine lv_iconst (v := 0) hx hb dL_root_1 (by decide) ?_
  refine lv_aload_n hx hb dL_root_2 rfl (lv_at hl 0 rfl) ?_
  refine lv_iload_n hx hb dL_root_3 rfl (lv_at hl 1 rfl) ?_
  refine lv_iload_n hx hb dL_root_4 rfl (lv_at hl 2 rfl) ?_
  refine sy_cVi (wc := wX h rr cc cI N R C li us ob sl go gi fr la re) (wr := [(oo, .inl (cJ, 1, .inr (.inl O)))]) (w1 := w1) (ci := 0) (q0 := 0) (As := [.int x, .int a]) (rest := [.int 0, .ref oo]) ⟨hx, hb, hml, hown, hbg⟩ (hM s.heap.size) (cwV 2 hbg (bg_V bw_268 bw_269 bw_270 bw_34 bw_271) rfl rfl rfl (by decide +kernel) ⟨Nat.le_of_ble_eq_true rfl, Nat.le_of_ble_eq_true rfl⟩) hK [0] rfl hP hD hS hA [1, 2, 3] [0] rfl rfl rfl rfl (by decide) rfl rfl rfl hl.1 rfl (Nat.le_of_ble_eq_true rfl) dL_root_5 ⟨Nat.le_of_ble_eq_true rfl, Nat.le_of_ble_eq_true rfl⟩ (fun H locs hP hD hS => ?_)
  refine lv_i2l (v := r.toInt64) hx hb dL_root_8 rfl ?_
  refine va_last hx hb hK hP hD hS 0 1 rfl rfl sx_in01 dL_root_9 (fun H locs hP hD hS => ?_)
  have hP : va_P D vwC ([(oo, .inl (cJ, 1, .inr (.inl (vp_updL O 0 r.toInt64))))] ++ w1) H := hP
  have hD : va_D A ([(oo, .inl (cJ, 1, .inr (.inl (vp_updL O 0 r.toInt64))))] ++ w1) := hD
  refine lv_goto (tgt := 17) hx hb dL_root_10 (by decide) ?_
  refine lv_iconst (v := 0) hx hb dL_root_17 (by decide) ?_
  refine W.widen (k := 1) (n := 6) (Nat.le_of_ble_eq_true rfl) (Nat.le_of_ble_eq_true rfl) ?_
  exact W.iret (v := 0) hx hb hr (fun t9 ht hW => ⟨⟨0, 0, rfl, rfl, by rw [ht]; exact hP, va_K.moved hW.alike hK, hD⟩, hS.F ht⟩) hS.2.2 dL_root_18

set_option maxHeartbeats 4000000 in
set_option maxRecDepth 100000 in
theorem wb_root (l : Launch) (D : va_G) (h rr cc : Nat) (cI : ClassId) (N : Nat) (R C : Nat → Int32) (li us ob sl go gi fr la re : Int32) (sz : Nat) (oo : Nat) (cJ : ClassId) (O : Nat → Int64) (x a : Int32) (hM : ∀ sz, sy_Mx l yX_root (Cond.code yX_root bX_root 4 (some .int) :: sr_big) { frames := 8, cells := 1, slots := 6, locals := 132 } D vwC [(cI, .int)] [.ref h, .int x, .int a] (wX h rr cc cI N R C li us ob sl go gi fr la re) sz sx_NSE 1 6) : sy_Mg l yL_root (Cond.codeWith yL_root bL_root 5 (some .int) [(0, 10, 13, 23)] :: sr_big) { frames := 9, cells := 1, slots := 6, locals := 155 } D vwC [(cI, .int), (cJ, .long)] [.ref h, .int x, .int a, .ref oo] ([(oo, .inl (cJ, 1, .inr (.inl O)))] ++ wX h rr cc cI N R C li us ob sl go gi fr la re) sz 1 (fun _ => [(oo, .inl (cJ, 1, .inr (.inl O)))] ++ wX h rr cc cI N R C li us ob sl go gi fr la re) 1 6 := by
  refine va_MetW (cc := bL_root) (maxL := 5) (ret := (some .int)) (by decide) rfl ?_
  intro p e s m args below meth c s₁ B hml hv
  obtain ⟨rfl, ⟨hsz, hP, hK, hD0⟩, hG⟩ := hv
  have hx := B.exec
  have hb := B.bytes
  have hr := B.returns
  have hbg : ∀ w ∈ sr_big, w.before _ s = true := fun w h => atoms_spec (ws := Cond.codeWith yL_root bL_root 5 (some .int) [(0, 10, 13, 23)] :: sr_big) B.pre w (List.mem_cons_of_mem _ h)
  have hown : s.vm.findClass RL = some m.cls := findClass_of_methodNamed B.named
  have hlocks := B.notSynchronized
  subst hsz
  have hD := hD0.self (sz := s.heap.size)
  generalize hAe : va_A ([(oo, .inl (cJ, 1, .inr (.inl O)))] ++ wX h rr cc cI N R C li us ob sl go gi fr la re) s.heap.size = A at *
  have hA : ∀ q : Nat, s.heap.size ≤ q → A q := fun q h => by rw [← hAe]; exact Or.inr h
  have hS : va_S A s.heap s.heap [] := va_S.rf
  have hl := lv_entry ([.ref h, .int x, .int a, .ref oo]) (n := 5) (Nat.le_of_ble_eq_true rfl)
  rw [lg_entry_eq]
  generalize (lg_sl ([.ref h, .int x, .int a, .ref oo]) ++ List.replicate (5 - (lg_sl ([.ref h, .int x, .int a, .ref oo])).length) Slot.unset).toArray = ls at hl ⊢
  have hl : lv_has ls 5 [(0, .ref h), (1, .int x), (2, .int a), (3, .ref oo)] := hl
  obtain ⟨m9, meth9, c9, n1, n2, n3, -, -, htb, -⟩ := Cond.codeWith_spec (atoms_spec (ws := Cond.codeWith yL_root bL_root 5 (some .int) [(0, 10, 13, 23)] :: sr_big) B.pre _ List.mem_cons_self)
  cases Option.some.inj (n1.symm.trans B.named)
  cases Option.some.inj (n2.symm.trans B.method)
  cases Option.some.inj (n3.symm.trans (Stand.of_body B).code)
  obtain ⟨x9, hx9, t1, t2, t3, t4⟩ := sx_tab htb
  refine lv_aload_n hx hb dL_root_0 rfl (lv_at hl 3 rfl) ?_
  refine lv_iconst (v := 0) hx hb dL_root_1 (by decide) ?_
  refine lv_aload_n hx hb dL_root_2 rfl (lv_at hl 0 rfl) ?_
  refine lv_iload_n hx hb dL_root_3 rfl (lv_at hl 1 rfl) ?_
  refine lv_iload_n hx hb dL_root_4 rfl (lv_at hl 2 rfl) ?_
  refine sy_cVx (wc := wX h rr cc cI N R C li us ob sl go gi fr la re) (wr := [(oo, .inl (cJ, 1, .inr (.inl O)))]) (ci := 0) (q0 := 0) (As := [.int x, .int a]) (rest := [.int 0, .ref oo]) ⟨hx, hb, hml, hown, hbg⟩ (hM s.heap.size) (cwV 2 hbg (bg_V bw_268 bw_269 bw_270 bw_34 bw_271) rfl rfl rfl (by decide +kernel) ⟨Nat.le_of_ble_eq_true rfl, Nat.le_of_ble_eq_true rfl⟩) hK [0] rfl hP hD hS hA hG.1 [1, 2, 3] [0] rfl rfl rfl rfl (by decide) rfl rfl rfl hl.1 rfl (Nat.le_of_ble_eq_true rfl) dL_root_5 ⟨Nat.le_of_ble_eq_true rfl, Nat.le_of_ble_eq_true rfl⟩ (fun q ce H locs hP hD hS hcell hcv hcl => ?_)
  have hP : va_P D vwC ([(oo, .inl (cJ, 1, .inr (.inl O)))] ++ wX h rr cc cI N R C li us ob sl go gi fr la re) H := hP
  have hD : va_D A ([(oo, .inl (cJ, 1, .inr (.inl O)))] ++ wX h rr cc cI N R C li us ob sl go gi fr la re) := hD
  refine vx_catch (own := RL) (name := sx_NSE) (E := sx_NSE) hown [] x9 [] (by rw [hx9]; rfl) (fun z hz => nomatch hz) (by unfold covers; rw [t1, t2]; decide) (by rw [t4]; decide) (by rw [t4]; exact hbg _ bw_205) (sx_any (sx_CW_on _ (by decide +kernel)) (hG.2 _ (by decide +kernel))) hcell hcv hcl ?_
  rw [t3]
  refine lv_astore (lv' := [(4, .ref q), (0, .ref h), (1, .int x), (2, .int a), (3, .ref oo)]) hx hb dL_root_13 hl (by decide) rfl (fun ls hl => ?_)
  refine lv_iconst (v := 1) hx hb dL_root_15 (by decide) ?_
  refine W.widen (k := 1) (n := 6) (Nat.le_of_ble_eq_true rfl) (Nat.le_of_ble_eq_true rfl) ?_
  exact W.iret (v := 1) hx hb hr (fun t9 ht hW => ⟨⟨1, 0, rfl, rfl, by rw [ht]; exact hP, va_K.moved hW.alike hK, hD⟩, hS.F ht⟩) hS.2.2 dL_root_16

set_option maxHeartbeats 4000000 in
set_option maxRecDepth 100000 in
theorem wk_rooted (l : Launch) (D : va_G) (h rr cc : Nat) (cI : ClassId) (N : Nat) (R C : Nat → Int32) (li us ob sl go gi fr la re : Int32) (sz : Nat) (oo : Nat) (cJ : ClassId) (O : Nat → Int64) (x : Int32) (r : Int32) (w1 : va_W) (hM : ∀ sz, sy_Mi l yX_rooted (Cond.code yX_rooted bX_rooted 2 (some .int) :: sr_big) { frames := 7, cells := 0, slots := 0, locals := 111 } D vwC [(cI, .int)] [.ref h, .int x] (wX h rr cc cI N R C li us ob sl go gi fr la re) sz r w1 0 0) : sy_Mg l yL_rooted (Cond.codeWith yL_rooted bL_rooted 4 (some .int) [(0, 9, 12, 23)] :: sr_big) { frames := 8, cells := 1, slots := 6, locals := 132 } D vwC [(cI, .int), (cJ, .long)] [.ref h, .int x, .ref oo] ([(oo, .inl (cJ, 1, .inr (.inl O)))] ++ wX h rr cc cI N R C li us ob sl go gi fr la re) sz 0 (fun _ => [(oo, .inl (cJ, 1, .inr (.inl (vp_updL O 0 r.toInt64))))] ++ w1) 1 6 := by
  refine va_MetW (cc := bL_rooted) (maxL := 4) (ret := (some .int)) (by decide) rfl ?_
  intro p e s m args below meth c s₁ B hml hv
  obtain ⟨rfl, ⟨hsz, hP, hK, hD0⟩, hG⟩ := hv
  have hx := B.exec
  have hb := B.bytes
  have hr := B.returns
  have hbg : ∀ w ∈ sr_big, w.before _ s = true := fun w h => atoms_spec (ws := Cond.codeWith yL_rooted bL_rooted 4 (some .int) [(0, 9, 12, 23)] :: sr_big) B.pre w (List.mem_cons_of_mem _ h)
  have hown : s.vm.findClass RL = some m.cls := findClass_of_methodNamed B.named
  have hlocks := B.notSynchronized
  subst hsz
  have hD := hD0.self (sz := s.heap.size)
  generalize hAe : va_A ([(oo, .inl (cJ, 1, .inr (.inl O)))] ++ wX h rr cc cI N R C li us ob sl go gi fr la re) s.heap.size = A at *
  have hA : ∀ q : Nat, s.heap.size ≤ q → A q := fun q h => by rw [← hAe]; exact Or.inr h
  have hS : va_S A s.heap s.heap [] := va_S.rf
  have hl := lv_entry ([.ref h, .int x, .ref oo]) (n := 4) (Nat.le_of_ble_eq_true rfl)
  rw [lg_entry_eq]
  generalize (lg_sl ([.ref h, .int x, .ref oo]) ++ List.replicate (4 - (lg_sl ([.ref h, .int x, .ref oo])).length) Slot.unset).toArray = ls at hl ⊢
  have hl : lv_has ls 4 [(0, .ref h), (1, .int x), (2, .ref oo)] := hl
  refine lv_aload_n hx hb dL_rooted_0 rfl (lv_at hl 2 rfl) ?_
  refine lv_iconst (v := 0) hx hb dL_rooted_1 (by decide) ?_
  refine lv_aload_n hx hb dL_rooted_2 rfl (lv_at hl 0 rfl) ?_
  refine lv_iload_n hx hb dL_rooted_3 rfl (lv_at hl 1 rfl) ?_
  refine sy_cVi (wc := wX h rr cc cI N R C li us ob sl go gi fr la re) (wr := [(oo, .inl (cJ, 1, .inr (.inl O)))]) (w1 := w1) (ci := 0) (q0 := 0) (As := [.int x]) (rest := [.int 0, .ref oo]) ⟨hx, hb, hml, hown, hbg⟩ (hM s.heap.size) (cwV 1 hbg (bg_V bw_278 bw_279 bw_280 bw_34 bw_281) rfl rfl rfl (by decide +kernel) ⟨Nat.le_of_ble_eq_true rfl, Nat.le_of_ble_eq_true rfl⟩) hK [0] rfl hP hD hS hA [1, 2, 3] [0] rfl rfl rfl rfl (by decide) rfl rfl rfl hl.1 rfl (Nat.le_of_ble_eq_true rfl) dL_rooted_4 ⟨Nat.le_of_ble_eq_true rfl, Nat.le_of_ble_eq_true rfl⟩ (fun H locs hP hD hS => ?_)
  refine lv_i2l (v := r.toInt64) hx hb dL_rooted_7 rfl ?_
  refine va_last hx hb hK hP hD hS 0 1 rfl rfl sx_in01 dL_rooted_8 (fun H locs hP hD hS => ?_)
  have hP : va_P D vwC ([(oo, .inl (cJ, 1, .inr (.inl (vp_updL O 0 r.toInt64))))] ++ w1) H := hP
  have hD : va_D A ([(oo, .inl (cJ, 1, .inr (.inl (vp_updL O 0 r.toInt64))))] ++ w1) := hD
  refine lv_goto (tgt := 15) hx hb dL_rooted_9 (by decide) ?_
  refine lv_iconst (v := 0) hx hb dL_rooted_15 (by decide) ?_
  refine W.widen (k := 1) (n := 6) (Nat.le_of_ble_eq_true rfl) (Nat.le_of_ble_eq_true rfl) ?_
  exact W.iret (v := 0) hx hb hr (fun t9 ht hW => ⟨⟨0, 0, rfl, rfl, by rw [ht]; exact hP, va_K.moved hW.alike hK, hD⟩, hS.F ht⟩) hS.2.2 dL_rooted_16

set_option maxHeartbeats 4000000 in
set_option maxRecDepth 100000 in
theorem wb_rooted (l : Launch) (D : va_G) (h rr cc : Nat) (cI : ClassId) (N : Nat) (R C : Nat → Int32) (li us ob sl go gi fr la re : Int32) (sz : Nat) (oo : Nat) (cJ : ClassId) (O : Nat → Int64) (x : Int32) (hM : ∀ sz, sy_Mx l yX_rooted (Cond.code yX_rooted bX_rooted 2 (some .int) :: sr_big) { frames := 7, cells := 1, slots := 6, locals := 111 } D vwC [(cI, .int)] [.ref h, .int x] (wX h rr cc cI N R C li us ob sl go gi fr la re) sz sx_NSE 1 6) : sy_Mg l yL_rooted (Cond.codeWith yL_rooted bL_rooted 4 (some .int) [(0, 9, 12, 23)] :: sr_big) { frames := 8, cells := 1, slots := 6, locals := 132 } D vwC [(cI, .int), (cJ, .long)] [.ref h, .int x, .ref oo] ([(oo, .inl (cJ, 1, .inr (.inl O)))] ++ wX h rr cc cI N R C li us ob sl go gi fr la re) sz 1 (fun _ => [(oo, .inl (cJ, 1, .inr (.inl O)))] ++ wX h rr cc cI N R C li us ob sl go gi fr la re) 1 6 := by
  refine va_MetW (cc := bL_rooted) (maxL := 4) (ret := (some .int)) (by decide) rfl ?_
  intro p e s m args below meth c s₁ B hml hv
  obtain ⟨rfl, ⟨hsz, hP, hK, hD0⟩, hG⟩ := hv
  have hx := B.exec
  have hb := B.bytes
  have hr := B.returns
  have hbg : ∀ w ∈ sr_big, w.before _ s = true := fun w h => atoms_spec (ws := Cond.codeWith yL_rooted bL_rooted 4 (some .int) [(0, 9, 12, 23)] :: sr_big) B.pre w (List.mem_cons_of_mem _ h)
  have hown : s.vm.findClass RL = some m.cls := findClass_of_methodNamed B.named
  have hlocks := B.notSynchronized
  subst hsz
  have hD := hD0.self (sz := s.heap.size)
  generalize hAe : va_A ([(oo, .inl (cJ, 1, .inr (.inl O)))] ++ wX h rr cc cI N R C li us ob sl go gi fr la re) s.heap.size = A at *
  have hA : ∀ q : Nat, s.heap.size ≤ q → A q := fun q h => by rw [← hAe]; exact Or.inr h
  have hS : va_S A s.heap s.heap [] := va_S.rf
  have hl := lv_entry ([.ref h, .int x, .ref oo]) (n := 4) (Nat.le_of_ble_eq_true rfl)
  rw [lg_entry_eq]
  generalize (lg_sl ([.ref h, .int x, .ref oo]) ++ List.replicate (4 - (lg_sl ([.ref h, .int x, .ref oo])).length) Slot.unset).toArray = ls at hl ⊢
  have hl : lv_has ls 4 [(0, .ref h), (1, .int x), (2, .ref oo)] := hl
  obtain ⟨m9, meth9, c9, n1, n2, n3, -, -, htb, -⟩ := Cond.codeWith_spec (atoms_spec (ws := Cond.codeWith yL_rooted bL_rooted 4 (some .int) [(0, 9, 12, 23)] :: sr_big) B.pre _ List.mem_cons_self)
  cases Option.some.inj (n1.symm.trans B.named)
  cases Option.some.inj (n2.symm.trans B.method)
  cases Option.some.inj (n3.symm.trans (Stand.of_body B).code)
  obtain ⟨x9, hx9, t1, t2, t3, t4⟩ := sx_tab htb
  refine lv_aload_n hx hb dL_rooted_0 rfl (lv_at hl 2 rfl) ?_
  refine lv_iconst (v := 0) hx hb dL_rooted_1 (by decide) ?_
  refine lv_aload_n hx hb dL_rooted_2 rfl (lv_at hl 0 rfl) ?_
  refine lv_iload_n hx hb dL_rooted_3 rfl (lv_at hl 1 rfl) ?_
  refine sy_cVx (wc := wX h rr cc cI N R C li us ob sl go gi fr la re) (wr := [(oo, .inl (cJ, 1, .inr (.inl O)))]) (ci := 0) (q0 := 0) (As := [.int x]) (rest := [.int 0, .ref oo]) ⟨hx, hb, hml, hown, hbg⟩ (hM s.heap.size) (cwV 1 hbg (bg_V bw_278 bw_279 bw_280 bw_34 bw_281) rfl rfl rfl (by decide +kernel) ⟨Nat.le_of_ble_eq_true rfl, Nat.le_of_ble_eq_true rfl⟩) hK [0] rfl hP hD hS hA hG.1 [1, 2, 3] [0] rfl rfl rfl rfl (by decide) rfl rfl rfl hl.1 rfl (Nat.le_of_ble_eq_true rfl) dL_rooted_4 ⟨Nat.le_of_ble_eq_true rfl, Nat.le_of_ble_eq_true rfl⟩ (fun q ce H locs hP hD hS hcell hcv hcl => ?_)
  have hP : va_P D vwC ([(oo, .inl (cJ, 1, .inr (.inl O)))] ++ wX h rr cc cI N R C li us ob sl go gi fr la re) H := hP
  have hD : va_D A ([(oo, .inl (cJ, 1, .inr (.inl O)))] ++ wX h rr cc cI N R C li us ob sl go gi fr la re) := hD
  refine vx_catch (own := RL) (name := sx_NSE) (E := sx_NSE) hown [] x9 [] (by rw [hx9]; rfl) (fun z hz => nomatch hz) (by unfold covers; rw [t1, t2]; decide) (by rw [t4]; decide) (by rw [t4]; exact hbg _ bw_205) (sx_any (sx_CW_on _ (by decide +kernel)) (hG.2 _ (by decide +kernel))) hcell hcv hcl ?_
  rw [t3]
  refine lv_astore_n (lv' := [(3, .ref q), (0, .ref h), (1, .int x), (2, .ref oo)]) hx hb dL_rooted_12 rfl hl (by decide) rfl (fun ls hl => ?_)
  refine lv_iconst (v := 1) hx hb dL_rooted_13 (by decide) ?_
  refine W.widen (k := 1) (n := 6) (Nat.le_of_ble_eq_true rfl) (Nat.le_of_ble_eq_true rfl) ?_
  exact W.iret (v := 1) hx hb hr (fun t9 ht hW => ⟨⟨1, 0, rfl, rfl, by rw [ht]; exact hP, va_K.moved hW.alike hK, hD⟩, hS.F ht⟩) hS.2.2 dL_rooted_14

set_option maxHeartbeats 4000000 in
set_option maxRecDepth 100000 in
theorem wk_number (l : Launch) (D : va_G) (h rr cc : Nat) (cI : ClassId) (N : Nat) (R C : Nat → Int32) (li us ob sl go gi fr la re : Int32) (sz : Nat) (oo : Nat) (cJ : ClassId) (O : Nat → Int64) (a : Int32) (r : Int32) (w1 : va_W) (hM : ∀ sz, sy_Mi l yX_number (Cond.code yX_number bX_number 2 (some .int) :: sr_big) { frames := 7, cells := 0, slots := 0, locals := 111 } D vwC [(cI, .int)] [.ref h, .int a] (wX h rr cc cI N R C li us ob sl go gi fr la re) sz r w1 0 0) : sy_Mg l yL_number (Cond.codeWith yL_number bL_number 4 (some .int) [(0, 9, 12, 23)] :: sr_big) { frames := 8, cells := 1, slots := 6, locals := 132 } D vwC [(cI, .int), (cJ, .long)] [.ref h, .int a, .ref oo] ([(oo, .inl (cJ, 1, .inr (.inl O)))] ++ wX h rr cc cI N R C li us ob sl go gi fr la re) sz 0 (fun _ => [(oo, .inl (cJ, 1, .inr (.inl (vp_updL O 0 r.toInt64))))] ++ w1) 1 6 := by
  refine va_MetW (cc := bL_number) (maxL := 4) (ret := (some .int)) (by decide) rfl ?_
  intro p e s m args below meth c s₁ B hml hv
  obtain ⟨rfl, ⟨hsz, hP, hK, hD0⟩, hG⟩ := hv
  have hx := B.exec
  have hb := B.bytes
  have hr := B.returns
  have hbg : ∀ w ∈ sr_big, w.before _ s = true := fun w h => atoms_spec (ws := Cond.codeWith yL_number bL_number 4 (some .int) [(0, 9, 12, 23)] :: sr_big) B.pre w (List.mem_cons_of_mem _ h)
  have hown : s.vm.findClass RL = some m.cls := findClass_of_methodNamed B.named
  have hlocks := B.notSynchronized
  subst hsz
  have hD := hD0.self (sz := s.heap.size)
  generalize hAe : va_A ([(oo, .inl (cJ, 1, .inr (.inl O)))] ++ wX h rr cc cI N R C li us ob sl go gi fr la re) s.heap.size = A at *
  have hA : ∀ q : Nat, s.heap.size ≤ q → A q := fun q h => by rw [← hAe]; exact Or.inr h
  have hS : va_S A s.heap s.heap [] := va_S.rf
  have hl := lv_entry ([.ref h, .int a, .ref oo]) (n := 4) (Nat.le_of_ble_eq_true rfl)
  rw [lg_entry_eq]
  generalize (lg_sl ([.ref h, .int a, .ref oo]) ++ List.replicate (4 - (lg_sl ([.ref h, .int a, .ref oo])).length) Slot.unset).toArray = ls at hl ⊢
  have hl : lv_has ls 4 [(0, .ref h), (1, .int a), (2, .ref oo)] := hl
  refine lv_aload_n hx hb dL_number_0 rfl (lv_at hl 2 rfl) ?_
  refine lv_iconst (v := 0) hx hb dL_number_1 (by decide) ?_
  refine lv_aload_n hx hb dL_number_2 rfl (lv_at hl 0 rfl) ?_
  refine lv_iload_n hx hb dL_number_3 rfl (lv_at hl 1 rfl) ?_
  refine sy_cVi (wc := wX h rr cc cI N R C li us ob sl go gi fr la re) (wr := [(oo, .inl (cJ, 1, .inr (.inl O)))]) (w1 := w1) (ci := 0) (q0 := 0) (As := [.int a]) (rest := [.int 0, .ref oo]) ⟨hx, hb, hml, hown, hbg⟩ (hM s.heap.size) (cwV 1 hbg (bg_V bw_285 bw_286 bw_287 bw_34 bw_288) rfl rfl rfl (by decide +kernel) ⟨Nat.le_of_ble_eq_true rfl, Nat.le_of_ble_eq_true rfl⟩) hK [0] rfl hP hD hS hA [1, 2, 3] [0] rfl rfl rfl rfl (by decide) rfl rfl rfl hl.1 rfl (Nat.le_of_ble_eq_true rfl) dL_number_4 ⟨Nat.le_of_ble_eq_true rfl, Nat.le_of_ble_eq_true rfl⟩ (fun H locs hP hD hS => ?_)
  refine lv_i2l (v := r.toInt64) hx hb dL_number_7 rfl ?_
  refine va_last hx hb hK hP hD hS 0 1 rfl rfl sx_in01 dL_number_8 (fun H locs hP hD hS => ?_)
  have hP : va_P D vwC ([(oo, .inl (cJ, 1, .inr (.inl (vp_updL O 0 r.toInt64))))] ++ w1) H := hP
  have hD : va_D A ([(oo, .inl (cJ, 1, .inr (.inl (vp_updL O 0 r.toInt64))))] ++ w1) := hD
  refine lv_goto (tgt := 15) hx hb dL_number_9 (by decide) ?_
  refine lv_iconst (v := 0) hx hb dL_number_15 (by decide) ?_
  refine W.widen (k := 1) (n := 6) (Nat.le_of_ble_eq_true rfl) (Nat.le_of_ble_eq_true rfl) ?_
  exact W.iret (v := 0) hx hb hr (fun t9 ht hW => ⟨⟨0, 0, rfl, rfl, by rw [ht]; exact hP, va_K.moved hW.alike hK, hD⟩, hS.F ht⟩) hS.2.2 dL_number_16

set_option maxHeartbeats 4000000 in
set_option maxRecDepth 100000 in
theorem wb_number (l : Launch) (D : va_G) (h rr cc : Nat) (cI : ClassId) (N : Nat) (R C : Nat → Int32) (li us ob sl go gi fr la re : Int32) (sz : Nat) (oo : Nat) (cJ : ClassId) (O : Nat → Int64) (a : Int32) (hM : ∀ sz, sy_Mx l yX_number (Cond.code yX_number bX_number 2 (some .int) :: sr_big) { frames := 7, cells := 1, slots := 6, locals := 111 } D vwC [(cI, .int)] [.ref h, .int a] (wX h rr cc cI N R C li us ob sl go gi fr la re) sz sx_NSE 1 6) : sy_Mg l yL_number (Cond.codeWith yL_number bL_number 4 (some .int) [(0, 9, 12, 23)] :: sr_big) { frames := 8, cells := 1, slots := 6, locals := 132 } D vwC [(cI, .int), (cJ, .long)] [.ref h, .int a, .ref oo] ([(oo, .inl (cJ, 1, .inr (.inl O)))] ++ wX h rr cc cI N R C li us ob sl go gi fr la re) sz 1 (fun _ => [(oo, .inl (cJ, 1, .inr (.inl O)))] ++ wX h rr cc cI N R C li us ob sl go gi fr la re) 1 6 := by
  refine va_MetW (cc := bL_number) (maxL := 4) (ret := (some .int)) (by decide) rfl ?_
  intro p e s m args below meth c s₁ B hml hv
  obtain ⟨rfl, ⟨hsz, hP, hK, hD0⟩, hG⟩ := hv
  have hx := B.exec
  have hb := B.bytes
  have hr := B.returns
  have hbg : ∀ w ∈ sr_big, w.before _ s = true := fun w h => atoms_spec (ws := Cond.codeWith yL_number bL_number 4 (some .int) [(0, 9, 12, 23)] :: sr_big) B.pre w (List.mem_cons_of_mem _ h)
  have hown : s.vm.findClass RL = some m.cls := findClass_of_methodNamed B.named
  have hlocks := B.notSynchronized
  subst hsz
  have hD := hD0.self (sz := s.heap.size)
  generalize hAe : va_A ([(oo, .inl (cJ, 1, .inr (.inl O)))] ++ wX h rr cc cI N R C li us ob sl go gi fr la re) s.heap.size = A at *
  have hA : ∀ q : Nat, s.heap.size ≤ q → A q := fun q h => by rw [← hAe]; exact Or.inr h
  have hS : va_S A s.heap s.heap [] := va_S.rf
  have hl := lv_entry ([.ref h, .int a, .ref oo]) (n := 4) (Nat.le_of_ble_eq_true rfl)
  rw [lg_entry_eq]
  generalize (lg_sl ([.ref h, .int a, .ref oo]) ++ List.replicate (4 - (lg_sl ([.ref h, .int a, .ref oo])).length) Slot.unset).toArray = ls at hl ⊢
  have hl : lv_has ls 4 [(0, .ref h), (1, .int a), (2, .ref oo)] := hl
  obtain ⟨m9, meth9, c9, n1, n2, n3, -, -, htb, -⟩ := Cond.codeWith_spec (atoms_spec (ws := Cond.codeWith yL_number bL_number 4 (some .int) [(0, 9, 12, 23)] :: sr_big) B.pre _ List.mem_cons_self)
  cases Option.some.inj (n1.symm.trans B.named)
  cases Option.some.inj (n2.symm.trans B.method)
  cases Option.some.inj (n3.symm.trans (Stand.of_body B).code)
  obtain ⟨x9, hx9, t1, t2, t3, t4⟩ := sx_tab htb
  refine lv_aload_n hx hb dL_number_0 rfl (lv_at hl 2 rfl) ?_
  refine lv_iconst (v := 0) hx hb dL_number_1 (by decide) ?_
  refine lv_aload_n hx hb dL_number_2 rfl (lv_at hl 0 rfl) ?_
  refine lv_iload_n hx hb dL_number_3 rfl (lv_at hl 1 rfl) ?_
  refine sy_cVx (wc := wX h rr cc cI N R C li us ob sl go gi fr la re) (wr := [(oo, .inl (cJ, 1, .inr (.inl O)))]) (ci := 0) (q0 := 0) (As := [.int a]) (rest := [.int 0, .ref oo]) ⟨hx, hb, hml, hown, hbg⟩ (hM s.heap.size) (cwV 1 hbg (bg_V bw_285 bw_286 bw_287 bw_34 bw_288) rfl rfl rfl (by decide +kernel) ⟨Nat.le_of_ble_eq_true rfl, Nat.le_of_ble_eq_true rfl⟩) hK [0] rfl hP hD hS hA hG.1 [1, 2, 3] [0] rfl rfl rfl rfl (by decide) rfl rfl rfl hl.1 rfl (Nat.le_of_ble_eq_true rfl) dL_number_4 ⟨Nat.le_of_ble_eq_true rfl, Nat.le_of_ble_eq_true rfl⟩ (fun q ce H locs hP hD hS hcell hcv hcl => ?_)
  have hP : va_P D vwC ([(oo, .inl (cJ, 1, .inr (.inl O)))] ++ wX h rr cc cI N R C li us ob sl go gi fr la re) H := hP
  have hD : va_D A ([(oo, .inl (cJ, 1, .inr (.inl O)))] ++ wX h rr cc cI N R C li us ob sl go gi fr la re) := hD
  refine vx_catch (own := RL) (name := sx_NSE) (E := sx_NSE) hown [] x9 [] (by rw [hx9]; rfl) (fun z hz => nomatch hz) (by unfold covers; rw [t1, t2]; decide) (by rw [t4]; decide) (by rw [t4]; exact hbg _ bw_205) (sx_any (sx_CW_on _ (by decide +kernel)) (hG.2 _ (by decide +kernel))) hcell hcv hcl ?_
  rw [t3]
  refine lv_astore_n (lv' := [(3, .ref q), (0, .ref h), (1, .int a), (2, .ref oo)]) hx hb dL_number_12 rfl hl (by decide) rfl (fun ls hl => ?_)
  refine lv_iconst (v := 1) hx hb dL_number_13 (by decide) ?_
  refine W.widen (k := 1) (n := 6) (Nat.le_of_ble_eq_true rfl) (Nat.le_of_ble_eq_true rfl) ?_
  exact W.iret (v := 1) hx hb hr (fun t9 ht hW => ⟨⟨1, 0, rfl, rfl, by rw [ht]; exact hP, va_K.moved hW.alike hK, hD⟩, hS.F ht⟩) hS.2.2 dL_number_14

set_option maxHeartbeats 4000000 in
set_option maxRecDepth 100000 in
theorem wk_next (l : Launch) (D : va_G) (h rr cc : Nat) (cI : ClassId) (N : Nat) (R C : Nat → Int32) (li us ob sl go gi fr la re : Int32) (sz : Nat) (oo : Nat) (cJ : ClassId) (O : Nat → Int64) (a : Int32) (r : Int32) (w1 : va_W) (hM : ∀ sz, sy_Mi l yX_next (Cond.code yX_next bX_next 3 (some .int) :: sr_big) { frames := 8, cells := 0, slots := 0, locals := 132 } D vwC [(cI, .int)] [.ref h, .int a] (wX h rr cc cI N R C li us ob sl go gi fr la re) sz r w1 0 0) : sy_Mg l yL_next (Cond.codeWith yL_next bL_next 4 (some .int) [(0, 9, 12, 23)] :: sr_big) { frames := 9, cells := 1, slots := 6, locals := 154 } D vwC [(cI, .int), (cJ, .long)] [.ref h, .int a, .ref oo] ([(oo, .inl (cJ, 1, .inr (.inl O)))] ++ wX h rr cc cI N R C li us ob sl go gi fr la re) sz 0 (fun _ => [(oo, .inl (cJ, 1, .inr (.inl (vp_updL O 0 r.toInt64))))] ++ w1) 1 6 := by
  refine va_MetW (cc := bL_next) (maxL := 4) (ret := (some .int)) (by decide) rfl ?_
  intro p e s m args below meth c s₁ B hml hv
  obtain ⟨rfl, ⟨hsz, hP, hK, hD0⟩, hG⟩ := hv
  have hx := B.exec
  have hb := B.bytes
  have hr := B.returns
  have hbg : ∀ w ∈ sr_big, w.before _ s = true := fun w h => atoms_spec (ws := Cond.codeWith yL_next bL_next 4 (some .int) [(0, 9, 12, 23)] :: sr_big) B.pre w (List.mem_cons_of_mem _ h)
  have hown : s.vm.findClass RL = some m.cls := findClass_of_methodNamed B.named
  have hlocks := B.notSynchronized
  subst hsz
  have hD := hD0.self (sz := s.heap.size)
  generalize hAe : va_A ([(oo, .inl (cJ, 1, .inr (.inl O)))] ++ wX h rr cc cI N R C li us ob sl go gi fr la re) s.heap.size = A at *
  have hA : ∀ q : Nat, s.heap.size ≤ q → A q := fun q h => by rw [← hAe]; exact Or.inr h
  have hS : va_S A s.heap s.heap [] := va_S.rf
  have hl := lv_entry ([.ref h, .int a, .ref oo]) (n := 4) (Nat.le_of_ble_eq_true rfl)
  rw [lg_entry_eq]
  generalize (lg_sl ([.ref h, .int a, .ref oo]) ++ List.replicate (4 - (lg_sl ([.ref h, .int a, .ref oo])).length) Slot.unset).toArray = ls at hl ⊢
  have hl : lv_has ls 4 [(0, .ref h), (1, .int a), (2, .ref oo)] := hl
  refine lv_aload_n hx hb dL_next_0 rfl (lv_at hl 2 rfl) ?_
  refine lv_iconst (v := 0) hx hb dL_next_1 (by decide) ?_
  refine lv_aload_n hx hb dL_next_2 rfl (lv_at hl 0 rfl) ?_
  refine lv_iload_n hx hb dL_next_3 rfl (lv_at hl 1 rfl) ?_
  refine sy_cVi (wc := wX h rr cc cI N R C li us ob sl go gi fr la re) (wr := [(oo, .inl (cJ, 1, .inr (.inl O)))]) (w1 := w1) (ci := 0) (q0 := 0) (As := [.int a]) (rest := [.int 0, .ref oo]) ⟨hx, hb, hml, hown, hbg⟩ (hM s.heap.size) (cwV 1 hbg (bg_V bw_292 bw_293 bw_294 bw_34 bw_295) rfl rfl rfl (by decide +kernel) ⟨Nat.le_of_ble_eq_true rfl, Nat.le_of_ble_eq_true rfl⟩) hK [0] rfl hP hD hS hA [1, 2, 3] [0] rfl rfl rfl rfl (by decide) rfl rfl rfl hl.1 rfl (Nat.le_of_ble_eq_true rfl) dL_next_4 ⟨Nat.le_of_ble_eq_true rfl, Nat.le_of_ble_eq_true rfl⟩ (fun H locs hP hD hS => ?_)
  refine lv_i2l (v := r.toInt64) hx hb dL_next_7 rfl ?_
  refine va_last hx hb hK hP hD hS 0 1 rfl rfl sx_in01 dL_next_8 (fun H locs hP hD hS => ?_)
  have hP : va_P D vwC ([(oo, .inl (cJ, 1, .inr (.inl (vp_updL O 0 r.toInt64))))] ++ w1) H := hP
  have hD : va_D A ([(oo, .inl (cJ, 1, .inr (.inl (vp_updL O 0 r.toInt64))))] ++ w1) := hD
  refine lv_goto (tgt := 15) hx hb dL_next_9 (by decide) ?_
  refine lv_iconst (v := 0) hx hb dL_next_15 (by decide) ?_
  refine W.widen (k := 1) (n := 6) (Nat.le_of_ble_eq_true rfl) (Nat.le_of_ble_eq_true rfl) ?_
  exact W.iret (v := 0) hx hb hr (fun t9 ht hW => ⟨⟨0, 0, rfl, rfl, by rw [ht]; exact hP, va_K.moved hW.alike hK, hD⟩, hS.F ht⟩) hS.2.2 dL_next_16

set_option maxHeartbeats 4000000 in
set_option maxRecDepth 100000 in
theorem wb_next (l : Launch) (D : va_G) (h rr cc : Nat) (cI : ClassId) (N : Nat) (R C : Nat → Int32) (li us ob sl go gi fr la re : Int32) (sz : Nat) (oo : Nat) (cJ : ClassId) (O : Nat → Int64) (a : Int32) (hM : ∀ sz, sy_Mx l yX_next (Cond.code yX_next bX_next 3 (some .int) :: sr_big) { frames := 8, cells := 1, slots := 6, locals := 132 } D vwC [(cI, .int)] [.ref h, .int a] (wX h rr cc cI N R C li us ob sl go gi fr la re) sz sx_NSE 1 6) : sy_Mg l yL_next (Cond.codeWith yL_next bL_next 4 (some .int) [(0, 9, 12, 23)] :: sr_big) { frames := 9, cells := 1, slots := 6, locals := 154 } D vwC [(cI, .int), (cJ, .long)] [.ref h, .int a, .ref oo] ([(oo, .inl (cJ, 1, .inr (.inl O)))] ++ wX h rr cc cI N R C li us ob sl go gi fr la re) sz 1 (fun _ => [(oo, .inl (cJ, 1, .inr (.inl O)))] ++ wX h rr cc cI N R C li us ob sl go gi fr la re) 1 6 := by
  refine va_MetW (cc := bL_next) (maxL := 4) (ret := (some .int)) (by decide) rfl ?_
  intro p e s m args below meth c s₁ B hml hv
  obtain ⟨rfl, ⟨hsz, hP, hK, hD0⟩, hG⟩ := hv
  have hx := B.exec
  have hb := B.bytes
  have hr := B.returns
  have hbg : ∀ w ∈ sr_big, w.before _ s = true := fun w h => atoms_spec (ws := Cond.codeWith yL_next bL_next 4 (some .int) [(0, 9, 12, 23)] :: sr_big) B.pre w (List.mem_cons_of_mem _ h)
  have hown : s.vm.findClass RL = some m.cls := findClass_of_methodNamed B.named
  have hlocks := B.notSynchronized
  subst hsz
  have hD := hD0.self (sz := s.heap.size)
  generalize hAe : va_A ([(oo, .inl (cJ, 1, .inr (.inl O)))] ++ wX h rr cc cI N R C li us ob sl go gi fr la re) s.heap.size = A at *
  have hA : ∀ q : Nat, s.heap.size ≤ q → A q := fun q h => by rw [← hAe]; exact Or.inr h
  have hS : va_S A s.heap s.heap [] := va_S.rf
  have hl := lv_entry ([.ref h, .int a, .ref oo]) (n := 4) (Nat.le_of_ble_eq_true rfl)
  rw [lg_entry_eq]
  generalize (lg_sl ([.ref h, .int a, .ref oo]) ++ List.replicate (4 - (lg_sl ([.ref h, .int a, .ref oo])).length) Slot.unset).toArray = ls at hl ⊢
  have hl : lv_has ls 4 [(0, .ref h), (1, .int a), (2, .ref oo)] := hl
  obtain ⟨m9, meth9, c9, n1, n2, n3, -, -, htb, -⟩ := Cond.codeWith_spec (atoms_spec (ws := Cond.codeWith yL_next bL_next 4 (some .int) [(0, 9, 12, 23)] :: sr_big) B.pre _ List.mem_cons_self)
  cases Option.some.inj (n1.symm.trans B.named)
  cases Option.some.inj (n2.symm.trans B.method)
  cases Option.some.inj (n3.symm.trans (Stand.of_body B).code)
  obtain ⟨x9, hx9, t1, t2, t3, t4⟩ := sx_tab htb
  refine lv_aload_n hx hb dL_next_0 rfl (lv_at hl 2 rfl) ?_
  refine lv_iconst (v := 0) hx hb dL_next_1 (by decide) ?_
  refine lv_aload_n hx hb dL_next_2 rfl (lv_at hl 0 rfl) ?_
  refine lv_iload_n hx hb dL_next_3 rfl (lv_at hl 1 rfl) ?_
  refine sy_cVx (wc := wX h rr cc cI N R C li us ob sl go gi fr la re) (wr := [(oo, .inl (cJ, 1, .inr (.inl O)))]) (ci := 0) (q0 := 0) (As := [.int a]) (rest := [.int 0, .ref oo]) ⟨hx, hb, hml, hown, hbg⟩ (hM s.heap.size) (cwV 1 hbg (bg_V bw_292 bw_293 bw_294 bw_34 bw_295) rfl rfl rfl (by decide +kernel) ⟨Nat.le_of_ble_eq_true rfl, Nat.le_of_ble_eq_true rfl⟩) hK [0] rfl hP hD hS hA hG.1 [1, 2, 3] [0] rfl rfl rfl rfl (by decide) rfl rfl rfl hl.1 rfl (Nat.le_of_ble_eq_true rfl) dL_next_4 ⟨Nat.le_of_ble_eq_true rfl, Nat.le_of_ble_eq_true rfl⟩ (fun q ce H locs hP hD hS hcell hcv hcl => ?_)
  have hP : va_P D vwC ([(oo, .inl (cJ, 1, .inr (.inl O)))] ++ wX h rr cc cI N R C li us ob sl go gi fr la re) H := hP
  have hD : va_D A ([(oo, .inl (cJ, 1, .inr (.inl O)))] ++ wX h rr cc cI N R C li us ob sl go gi fr la re) := hD
  refine vx_catch (own := RL) (name := sx_NSE) (E := sx_NSE) hown [] x9 [] (by rw [hx9]; rfl) (fun z hz => nomatch hz) (by unfold covers; rw [t1, t2]; decide) (by rw [t4]; decide) (by rw [t4]; exact hbg _ bw_205) (sx_any (sx_CW_on _ (by decide +kernel)) (hG.2 _ (by decide +kernel))) hcell hcv hcl ?_
  rw [t3]
  refine lv_astore_n (lv' := [(3, .ref q), (0, .ref h), (1, .int a), (2, .ref oo)]) hx hb dL_next_12 rfl hl (by decide) rfl (fun ls hl => ?_)
  refine lv_iconst (v := 1) hx hb dL_next_13 (by decide) ?_
  refine W.widen (k := 1) (n := 6) (Nat.le_of_ble_eq_true rfl) (Nat.le_of_ble_eq_true rfl) ?_
  exact W.iret (v := 1) hx hb hr (fun t9 ht hW => ⟨⟨1, 0, rfl, rfl, by rw [ht]; exact hP, va_K.moved hW.alike hK, hD⟩, hS.F ht⟩) hS.2.2 dL_next_14

set_option maxHeartbeats 4000000 in
set_option maxRecDepth 100000 in
theorem wk_count (l : Launch) (D : va_G) (h rr cc : Nat) (cI : ClassId) (N : Nat) (R C : Nat → Int32) (li us ob sl go gi fr la re : Int32) (sz : Nat) (oo : Nat) (cJ : ClassId) (O : Nat → Int64) (x : Int32) (r : Int32) (w1 : va_W) (hM : ∀ sz, sy_Mi l yX_count (Cond.code yX_count bX_count 2 (some .int) :: sr_big) { frames := 6, cells := 0, slots := 0, locals := 90 } D vwC [(cI, .int)] [.ref h, .int x] (wX h rr cc cI N R C li us ob sl go gi fr la re) sz r w1 0 0) : sy_Mg l yL_count (Cond.codeWith yL_count bL_count 4 (some .int) [(0, 9, 12, 13)] :: sr_big) { frames := 7, cells := 1, slots := 6, locals := 111 } D vwC [(cI, .int), (cJ, .long)] [.ref h, .int x, .ref oo] ([(oo, .inl (cJ, 1, .inr (.inl O)))] ++ wX h rr cc cI N R C li us ob sl go gi fr la re) sz 0 (fun _ => [(oo, .inl (cJ, 1, .inr (.inl (vp_updL O 0 r.toInt64))))] ++ w1) 1 6 := by
  refine va_MetW (cc := bL_count) (maxL := 4) (ret := (some .int)) (by decide) rfl ?_
  intro p e s m args below meth c s₁ B hml hv
  obtain ⟨rfl, ⟨hsz, hP, hK, hD0⟩, hG⟩ := hv
  have hx := B.exec
  have hb := B.bytes
  have hr := B.returns
  have hbg : ∀ w ∈ sr_big, w.before _ s = true := fun w h => atoms_spec (ws := Cond.codeWith yL_count bL_count 4 (some .int) [(0, 9, 12, 13)] :: sr_big) B.pre w (List.mem_cons_of_mem _ h)
  have hown : s.vm.findClass RL = some m.cls := findClass_of_methodNamed B.named
  have hlocks := B.notSynchronized
  subst hsz
  have hD := hD0.self (sz := s.heap.size)
  generalize hAe : va_A ([(oo, .inl (cJ, 1, .inr (.inl O)))] ++ wX h rr cc cI N R C li us ob sl go gi fr la re) s.heap.size = A at *
  have hA : ∀ q : Nat, s.heap.size ≤ q → A q := fun q h => by rw [← hAe]; exact Or.inr h
  have hS : va_S A s.heap s.heap [] := va_S.rf
  have hl := lv_entry ([.ref h, .int x, .ref oo]) (n := 4) (Nat.le_of_ble_eq_true rfl)
  rw [lg_entry_eq]
  generalize (lg_sl ([.ref h, .int x, .ref oo]) ++ List.replicate (4 - (lg_sl ([.ref h, .int x, .ref oo])).length) Slot.unset).toArray = ls at hl ⊢
  have hl : lv_has ls 4 [(0, .ref h), (1, .int x), (2, .ref oo)] := hl
  refine lv_aload_n hx hb dL_count_0 rfl (lv_at hl 2 rfl) ?_
  refine lv_iconst (v := 0) hx hb dL_count_1 (by decide) ?_
  refine lv_aload_n hx hb dL_count_2 rfl (lv_at hl 0 rfl) ?_
  refine lv_iload_n hx hb dL_count_3 rfl (lv_at hl 1 rfl) ?_
  refine sy_cVi (wc := wX h rr cc cI N R C li us ob sl go gi fr la re) (wr := [(oo, .inl (cJ, 1, .inr (.inl O)))]) (w1 := w1) (ci := 0) (q0 := 0) (As := [.int x]) (rest := [.int 0, .ref oo]) ⟨hx, hb, hml, hown, hbg⟩ (hM s.heap.size) (cwV 1 hbg (bg_V bw_299 bw_300 bw_301 bw_34 bw_302) rfl rfl rfl (by decide +kernel) ⟨Nat.le_of_ble_eq_true rfl, Nat.le_of_ble_eq_true rfl⟩) hK [0] rfl hP hD hS hA [1, 2, 3] [0] rfl rfl rfl rfl (by decide) rfl rfl rfl hl.1 rfl (Nat.le_of_ble_eq_true rfl) dL_count_4 ⟨Nat.le_of_ble_eq_true rfl, Nat.le_of_ble_eq_true rfl⟩ (fun H locs hP hD hS => ?_)
  refine lv_i2l (v := r.toInt64) hx hb dL_count_7 rfl ?_
  refine va_last hx hb hK hP hD hS 0 1 rfl rfl sx_in01 dL_count_8 (fun H locs hP hD hS => ?_)
  have hP : va_P D vwC ([(oo, .inl (cJ, 1, .inr (.inl (vp_updL O 0 r.toInt64))))] ++ w1) H := hP
  have hD : va_D A ([(oo, .inl (cJ, 1, .inr (.inl (vp_updL O 0 r.toInt64))))] ++ w1) := hD
  refine lv_goto (tgt := 15) hx hb dL_count_9 (by decide) ?_
  refine lv_iconst (v := 0) hx hb dL_count_15 (by decide) ?_
  refine W.widen (k := 1) (n := 6) (Nat.le_of_ble_eq_true rfl) (Nat.le_of_ble_eq_true rfl) ?_
  exact W.iret (v := 0) hx hb hr (fun t9 ht hW => ⟨⟨0, 0, rfl, rfl, by rw [ht]; exact hP, va_K.moved hW.alike hK, hD⟩, hS.F ht⟩) hS.2.2 dL_count_16

set_option maxHeartbeats 4000000 in
set_option maxRecDepth 100000 in
theorem wb_count (l : Launch) (D : va_G) (h rr cc : Nat) (cI : ClassId) (N : Nat) (R C : Nat → Int32) (li us ob sl go gi fr la re : Int32) (sz : Nat) (oo : Nat) (cJ : ClassId) (O : Nat → Int64) (x : Int32) (hM : ∀ sz, sy_Mx l yX_count (Cond.code yX_count bX_count 2 (some .int) :: sr_big) { frames := 6, cells := 1, slots := 6, locals := 90 } D vwC [(cI, .int)] [.ref h, .int x] (wX h rr cc cI N R C li us ob sl go gi fr la re) sz sx_IAE 1 6) : sy_Mg l yL_count (Cond.codeWith yL_count bL_count 4 (some .int) [(0, 9, 12, 13)] :: sr_big) { frames := 7, cells := 1, slots := 6, locals := 111 } D vwC [(cI, .int), (cJ, .long)] [.ref h, .int x, .ref oo] ([(oo, .inl (cJ, 1, .inr (.inl O)))] ++ wX h rr cc cI N R C li us ob sl go gi fr la re) sz 1 (fun _ => [(oo, .inl (cJ, 1, .inr (.inl O)))] ++ wX h rr cc cI N R C li us ob sl go gi fr la re) 1 6 := by
  refine va_MetW (cc := bL_count) (maxL := 4) (ret := (some .int)) (by decide) rfl ?_
  intro p e s m args below meth c s₁ B hml hv
  obtain ⟨rfl, ⟨hsz, hP, hK, hD0⟩, hG⟩ := hv
  have hx := B.exec
  have hb := B.bytes
  have hr := B.returns
  have hbg : ∀ w ∈ sr_big, w.before _ s = true := fun w h => atoms_spec (ws := Cond.codeWith yL_count bL_count 4 (some .int) [(0, 9, 12, 13)] :: sr_big) B.pre w (List.mem_cons_of_mem _ h)
  have hown : s.vm.findClass RL = some m.cls := findClass_of_methodNamed B.named
  have hlocks := B.notSynchronized
  subst hsz
  have hD := hD0.self (sz := s.heap.size)
  generalize hAe : va_A ([(oo, .inl (cJ, 1, .inr (.inl O)))] ++ wX h rr cc cI N R C li us ob sl go gi fr la re) s.heap.size = A at *
  have hA : ∀ q : Nat, s.heap.size ≤ q → A q := fun q h => by rw [← hAe]; exact Or.inr h
  have hS : va_S A s.heap s.heap [] := va_S.rf
  have hl := lv_entry ([.ref h, .int x, .ref oo]) (n := 4) (Nat.le_of_ble_eq_true rfl)
  rw [lg_entry_eq]
  generalize (lg_sl ([.ref h, .int x, .ref oo]) ++ List.replicate (4 - (lg_sl ([.ref h, .int x, .ref oo])).length) Slot.unset).toArray = ls at hl ⊢
  have hl : lv_has ls 4 [(0, .ref h), (1, .int x), (2, .ref oo)] := hl
  obtain ⟨m9, meth9, c9, n1, n2, n3, -, -, htb, -⟩ := Cond.codeWith_spec (atoms_spec (ws := Cond.codeWith yL_count bL_count 4 (some .int) [(0, 9, 12, 13)] :: sr_big) B.pre _ List.mem_cons_self)
  cases Option.some.inj (n1.symm.trans B.named)
  cases Option.some.inj (n2.symm.trans B.method)
  cases Option.some.inj (n3.symm.trans (Stand.of_body B).code)
  obtain ⟨x9, hx9, t1, t2, t3, t4⟩ := sx_tab htb
  refine lv_aload_n hx hb dL_count_0 rfl (lv_at hl 2 rfl) ?_
  refine lv_iconst (v := 0) hx hb dL_count_1 (by decide) ?_
  refine lv_aload_n hx hb dL_count_2 rfl (lv_at hl 0 rfl) ?_
  refine lv_iload_n hx hb dL_count_3 rfl (lv_at hl 1 rfl) ?_
  refine sy_cVx (wc := wX h rr cc cI N R C li us ob sl go gi fr la re) (wr := [(oo, .inl (cJ, 1, .inr (.inl O)))]) (ci := 0) (q0 := 0) (As := [.int x]) (rest := [.int 0, .ref oo]) ⟨hx, hb, hml, hown, hbg⟩ (hM s.heap.size) (cwV 1 hbg (bg_V bw_299 bw_300 bw_301 bw_34 bw_302) rfl rfl rfl (by decide +kernel) ⟨Nat.le_of_ble_eq_true rfl, Nat.le_of_ble_eq_true rfl⟩) hK [0] rfl hP hD hS hA hG.1 [1, 2, 3] [0] rfl rfl rfl rfl (by decide) rfl rfl rfl hl.1 rfl (Nat.le_of_ble_eq_true rfl) dL_count_4 ⟨Nat.le_of_ble_eq_true rfl, Nat.le_of_ble_eq_true rfl⟩ (fun q ce H locs hP hD hS hcell hcv hcl => ?_)
  have hP : va_P D vwC ([(oo, .inl (cJ, 1, .inr (.inl O)))] ++ wX h rr cc cI N R C li us ob sl go gi fr la re) H := hP
  have hD : va_D A ([(oo, .inl (cJ, 1, .inr (.inl O)))] ++ wX h rr cc cI N R C li us ob sl go gi fr la re) := hD
  refine vx_catch (own := RL) (name := sx_IAE) (E := sx_IAE) hown [] x9 [] (by rw [hx9]; rfl) (fun z hz => nomatch hz) (by unfold covers; rw [t1, t2]; decide) (by rw [t4]; decide) (by rw [t4]; exact hbg _ bw_133) (sx_any (sx_CW_on _ (by decide +kernel)) (hG.2 _ (by decide +kernel))) hcell hcv hcl ?_
  rw [t3]
  refine lv_astore_n (lv' := [(3, .ref q), (0, .ref h), (1, .int x), (2, .ref oo)]) hx hb dL_count_12 rfl hl (by decide) rfl (fun ls hl => ?_)
  refine lv_iconst (v := 1) hx hb dL_count_13 (by decide) ?_
  refine W.widen (k := 1) (n := 6) (Nat.le_of_ble_eq_true rfl) (Nat.le_of_ble_eq_true rfl) ?_
  exact W.iret (v := 1) hx hb hr (fun t9 ht hW => ⟨⟨1, 0, rfl, rfl, by rw [ht]; exact hP, va_K.moved hW.alike hK, hD⟩, hS.F ht⟩) hS.2.2 dL_count_14

set_option maxHeartbeats 4000000 in
set_option maxRecDepth 100000 in
theorem we_space (l : Launch) (D : va_G) (h rr cc : Nat) (cI : ClassId) (N : Nat) (R C : Nat → Int32) (li us ob sl go gi fr la re : Int32) (sz : Nat) (oo : Nat) (cJ : ClassId) (O : Nat → Int64) (x : Int32) (r : Int32) (w1 : Nat → va_W) (hM : ∀ sz, sy_Me l yX_space (Cond.code yX_space bX_space 3 (some .int) :: sr_big) { frames := 6, cells := 1, slots := 16385, locals := 90 } D vwC [(cI, .int)] [.ref h, .int x] (wX h rr cc cI N R C li us ob sl go gi fr la re) sz r w1 1 16385) : sy_Mg l yL_space (Cond.codeWith yL_space bL_space 4 (some .int) [(0, 9, 12, 13)] :: sr_big) { frames := 7, cells := 1, slots := 16385, locals := 112 } D vwC [(cI, .int), (cJ, .long)] [.ref h, .int x, .ref oo] ([(oo, .inl (cJ, 1, .inr (.inl O)))] ++ wX h rr cc cI N R C li us ob sl go gi fr la re) sz 0 (fun q => [(oo, .inl (cJ, 1, .inr (.inl (vp_updL O 0 r.toInt64))))] ++ w1 q) 1 16385 := by
  refine va_MetW (cc := bL_space) (maxL := 4) (ret := (some .int)) (by decide) rfl ?_
  intro p e s m args below meth c s₁ B hml hv
  obtain ⟨rfl, ⟨hsz, hP, hK, hD0⟩, hG⟩ := hv
  have hx := B.exec
  have hb := B.bytes
  have hr := B.returns
  have hbg : ∀ w ∈ sr_big, w.before _ s = true := fun w h => atoms_spec (ws := Cond.codeWith yL_space bL_space 4 (some .int) [(0, 9, 12, 13)] :: sr_big) B.pre w (List.mem_cons_of_mem _ h)
  have hown : s.vm.findClass RL = some m.cls := findClass_of_methodNamed B.named
  have hlocks := B.notSynchronized
  subst hsz
  have hD := hD0.self (sz := s.heap.size)
  generalize hAe : va_A ([(oo, .inl (cJ, 1, .inr (.inl O)))] ++ wX h rr cc cI N R C li us ob sl go gi fr la re) s.heap.size = A at *
  have hA : ∀ q : Nat, s.heap.size ≤ q → A q := fun q h => by rw [← hAe]; exact Or.inr h
  have hS : va_S A s.heap s.heap [] := va_S.rf
  have hl := lv_entry ([.ref h, .int x, .ref oo]) (n := 4) (Nat.le_of_ble_eq_true rfl)
  rw [lg_entry_eq]
  generalize (lg_sl ([.ref h, .int x, .ref oo]) ++ List.replicate (4 - (lg_sl ([.ref h, .int x, .ref oo])).length) Slot.unset).toArray = ls at hl ⊢
  have hl : lv_has ls 4 [(0, .ref h), (1, .int x), (2, .ref oo)] := hl
  refine lv_aload_n hx hb dL_space_0 rfl (lv_at hl 2 rfl) ?_
  refine lv_iconst (v := 0) hx hb dL_space_1 (by decide) ?_
  refine lv_aload_n hx hb dL_space_2 rfl (lv_at hl 0 rfl) ?_
  refine lv_iload_n hx hb dL_space_3 rfl (lv_at hl 1 rfl) ?_
  refine sy_cVe (wc := wX h rr cc cI N R C li us ob sl go gi fr la re) (wr := [(oo, .inl (cJ, 1, .inr (.inl O)))]) (w1 := w1) (ci := 0) (q0 := 0) (As := [.int x]) (rest := [.int 0, .ref oo]) ⟨hx, hb, hml, hown, hbg⟩ (hM s.heap.size) (cwV 1 hbg (bg_V bw_134 bw_135 bw_136 bw_34 bw_137) rfl rfl rfl (by decide +kernel) ⟨Nat.le_of_ble_eq_true rfl, Nat.le_of_ble_eq_true rfl⟩) hK [0] rfl hP hD hS hA [1, 2, 3] [0] rfl rfl rfl rfl (by decide) rfl rfl rfl hl.1 rfl (Nat.le_of_ble_eq_true rfl) dL_space_4 ⟨Nat.le_of_ble_eq_true rfl, Nat.le_of_ble_eq_true rfl⟩ (fun q H locs hP hD hS => ?_)
  refine lv_i2l (v := r.toInt64) hx hb dL_space_7 rfl ?_
  refine va_last hx hb hK hP hD hS 0 1 rfl rfl sx_in01 dL_space_8 (fun H locs hP hD hS => ?_)
  have hP : va_P D vwC ([(oo, .inl (cJ, 1, .inr (.inl (vp_updL O 0 r.toInt64))))] ++ w1 q) H := hP
  have hD : va_D A ([(oo, .inl (cJ, 1, .inr (.inl (vp_updL O 0 r.toInt64))))] ++ w1 q) := hD
  refine lv_goto (tgt := 15) hx hb dL_space_9 (by decide) ?_
  refine lv_iconst (v := 0) hx hb dL_space_15 (by decide) ?_
  refine W.widen (k := 1) (n := 16385) (Nat.le_of_ble_eq_true rfl) (Nat.le_of_ble_eq_true rfl) ?_
  exact W.iret (v := 0) hx hb hr (fun t9 ht hW => ⟨⟨0, q, rfl, rfl, by rw [ht]; exact hP, va_K.moved hW.alike hK, hD⟩, hS.F ht⟩) hS.2.2 dL_space_16
