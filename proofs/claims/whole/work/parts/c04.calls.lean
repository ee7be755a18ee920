/-! CONTRACTS OF SlideRow: its calls that may throw: what each does where it returns, and that it throws where it must (rows laid by wip/gen) -/

set_option maxHeartbeats 4000000 in
set_option maxRecDepth 100000 in
theorem ct_X_needRoot_k (l : Launch) (D : va_G) (h rr cc : Nat) (cI : ClassId) (N : Nat) (R C : Nat → Int32) (li us ob sl go gi fr la re : Int32) (sz : Nat) (x : Int32) (hN : N < 2 ^ 31) (h1 : ¬ x < 0) (h2 : x < nI 16) : sy_Mv l yX_needRoot (Cond.code yX_needRoot bX_needRoot 2 none :: sr_big) { frames := 6, cells := 0, slots := 0, locals := 90 } D vwC [(cI, .int)] [.ref h, .int x] (wX h rr cc cI N R C li us ob sl go gi fr la re) sz (wX h rr cc cI N R C li us ob sl go gi fr la re) 0 0 := by
  refine Met.ofW (cc := bX_needRoot) (maxL := 2) (ret := none) (by decide) rfl ?_
  intro p e s m args below meth c s₁ B hml hv
  obtain ⟨rfl, hsz, hP, hK, hD0⟩ := hv
  have hx := B.exec
  have hb := B.bytes
  have hr := B.returns
  have hbg : ∀ w ∈ sr_big, w.before _ s = true := fun w h => atoms_spec (ws := Cond.code yX_needRoot bX_needRoot 2 none :: sr_big) B.pre w (List.mem_cons_of_mem _ h)
  have hown : s.vm.findClass RX = some m.cls := findClass_of_methodNamed B.named
  have hlocks := B.notSynchronized
  subst hsz
  have hD := hD0.self (sz := s.heap.size)
  generalize hAe : va_A (wX h rr cc cI N R C li us ob sl go gi fr la re) s.heap.size = A at *
  have hA : ∀ q : Nat, s.heap.size ≤ q → A q := fun q h => by rw [← hAe]; exact Or.inr h
  have hS : va_S A s.heap s.heap [] := va_S.rf
  have hl := lv_entry ([.ref h, .int x]) (n := 2) (Nat.le_of_ble_eq_true rfl)
  rw [lg_entry_eq]
  generalize (lg_sl ([.ref h, .int x]) ++ List.replicate (2 - (lg_sl ([.ref h, .int x])).length) Slot.unset).toArray = ls at hl ⊢
  have hl : lv_has ls 2 [(0, .ref h), (1, .int x)] := hl
  refine lv_iload_n hx hb dX_needRoot_0 rfl (lv_at hl 1 rfl) ?_
  refine lv_if_lt (tgt := 13) hx hb dX_needRoot_1 (by decide) (fun z => absurd z h1) (fun _ => ?_)
  refine lv_iload_n hx hb dX_needRoot_4 rfl (lv_at hl 1 rfl) ?_
  refine lv_aload_n hx hb dX_needRoot_5 rfl (lv_at hl 0 rfl) ?_
  refine va_get (D := D) (ci := 0) (v := .ref rr) (C := RX) (T := TX) (N := 11) hx hb hbg bg_X hown hK hP 0 rfl rfl 0 (by decide) (hbg _ bw_51) (fun _ h9 => h9) rfl dX_needRoot_6 ?_
  refine va_alen hx hb hK hP 1 0 rfl rfl (v := nI 16) rfl dX_needRoot_9 ?_
  refine lv_icmp_lt (tgt := 23) hx hb dX_needRoot_10 (by decide) (fun _ => ?_) (fun z => absurd h2 z)
  refine W.widen (k := 0) (n := 0) (Nat.le_of_ble_eq_true rfl) (Nat.le_of_ble_eq_true rfl) ?_
  exact W.vret hx hb hr (fun t ht hW => ⟨⟨(), rfl, trivial, by rw [ht]; exact hP, va_K.moved hW.alike hK, hD⟩, hS.F ht⟩) hS.2.2 dX_needRoot_23

set_option maxHeartbeats 4000000 in
set_option maxRecDepth 100000 in
theorem ct_X_needRoot_b (l : Launch) (D : va_G) (h rr cc : Nat) (cI : ClassId) (N : Nat) (R C : Nat → Int32) (li us ob sl go gi fr la re : Int32) (sz : Nat) (x : Int32) (hN : N < 2 ^ 31) (hst : l.stackTraces = false) (hg : x < 0 ∨ ¬ x < nI 16) : sy_Mx l yX_needRoot (Cond.code yX_needRoot bX_needRoot 2 none :: sr_big) { frames := 6, cells := 1, slots := 6, locals := 90 } D vwC [(cI, .int)] [.ref h, .int x] (wX h rr cc cI N R C li us ob sl go gi fr la re) sz sx_NSE 1 6 := by
  refine vx_ofW (cc := bX_needRoot) (maxL := 2) (ret := none) (by decide) rfl ?_
  intro p e s m args below meth c s₁ B hml htab hv
  obtain ⟨rfl, ⟨hsz, hP, hK, hD0⟩, hG⟩ := hv
  have hx := B.exec
  have hb := B.bytes
  have hr := B.returns
  have hbg : ∀ w ∈ sr_big, w.before _ s = true := fun w h => atoms_spec (ws := Cond.code yX_needRoot bX_needRoot 2 none :: sr_big) B.pre w (List.mem_cons_of_mem _ h)
  have hown : s.vm.findClass RX = some m.cls := findClass_of_methodNamed B.named
  have hlocks := B.notSynchronized
  subst hsz
  have hD := hD0.self (sz := s.heap.size)
  generalize hAe : va_A (wX h rr cc cI N R C li us ob sl go gi fr la re) s.heap.size = A at *
  have hA : ∀ q : Nat, s.heap.size ≤ q → A q := fun q h => by rw [← hAe]; exact Or.inr h
  have hS : va_S A s.heap s.heap [] := va_S.rf
  have hl := lv_entry ([.ref h, .int x]) (n := 2) (Nat.le_of_ble_eq_true rfl)
  rw [lg_entry_eq]
  generalize (lg_sl ([.ref h, .int x]) ++ List.replicate (2 - (lg_sl ([.ref h, .int x])).length) Slot.unset).toArray = ls at hl ⊢
  have hl : lv_has ls 2 [(0, .ref h), (1, .int x)] := hl
  refine lv_iload_n hx hb dX_needRoot_0 rfl (lv_at hl 1 rfl) ?_
  refine lv_if_lt (tgt := 13) hx hb dX_needRoot_1 (by decide) (fun c_1 => ?_) (fun c_1 => ?_)
  · exact sy_throw (E := sx_NSE) (text := "no such root") (Or.inr ⟨rfl, rfl, rfl, rfl, rfl⟩) hx hb hst hown hbg (by decide) hG hP hK hD hS (hl.1.trans hml.symm) dX_needRoot_13 dX_needRoot_16 dX_needRoot_17 dX_needRoot_19 dX_needRoot_22 htab (Nat.le_of_ble_eq_true rfl) (Nat.le_of_ble_eq_true rfl) (Nat.le_of_ble_eq_true rfl) (Nat.le_of_ble_eq_true rfl) hlocks (Nat.le_of_ble_eq_true rfl) (Nat.le_of_ble_eq_true rfl)
  · refine lv_iload_n hx hb dX_needRoot_4 rfl (lv_at hl 1 rfl) ?_
    refine lv_aload_n hx hb dX_needRoot_5 rfl (lv_at hl 0 rfl) ?_
    refine va_get (D := D) (ci := 0) (v := .ref rr) (C := RX) (T := TX) (N := 11) hx hb hbg bg_X hown hK hP 0 rfl rfl 0 (by decide) (hbg _ bw_51) (fun _ h9 => h9) rfl dX_needRoot_6 ?_
    refine va_alen hx hb hK hP 1 0 rfl rfl (v := nI 16) rfl dX_needRoot_9 ?_
    refine lv_icmp_lt (tgt := 23) hx hb dX_needRoot_10 (by decide) (fun z => absurd z (hg.resolve_left c_1)) (fun _ => ?_)
    exact sy_throw (E := sx_NSE) (text := "no such root") (Or.inr ⟨rfl, rfl, rfl, rfl, rfl⟩) hx hb hst hown hbg (by decide) hG hP hK hD hS (hl.1.trans hml.symm) dX_needRoot_13 dX_needRoot_16 dX_needRoot_17 dX_needRoot_19 dX_needRoot_22 htab (Nat.le_of_ble_eq_true rfl) (Nat.le_of_ble_eq_true rfl) (Nat.le_of_ble_eq_true rfl) (Nat.le_of_ble_eq_true rfl) hlocks (Nat.le_of_ble_eq_true rfl) (Nat.le_of_ble_eq_true rfl)

set_option maxHeartbeats 4000000 in
set_option maxRecDepth 100000 in
theorem ct_X_needObject_k (l : Launch) (D : va_G) (h rr cc : Nat) (cI : ClassId) (N : Nat) (R C : Nat → Int32) (li us ob sl go gi fr la re : Int32) (sz : Nat) (a : Int32) (hN : N < 2 ^ 31) (hg : sr_isO N C a ob.toNatClampNeg 1 = true) : sy_Mv l yX_needObject (Cond.code yX_needObject bX_needObject 2 none :: sr_big) { frames := 6, cells := 0, slots := 0, locals := 90 } D vwC [(cI, .int)] [.ref h, .int a] (wX h rr cc cI N R C li us ob sl go gi fr la re) sz (wX h rr cc cI N R C li us ob sl go gi fr la re) 0 0 := by
  refine Met.ofW (cc := bX_needObject) (maxL := 2) (ret := none) (by decide) rfl ?_
  intro p e s m args below meth c s₁ B hml hv
  obtain ⟨rfl, hsz, hP, hK, hD0⟩ := hv
  have hx := B.exec
  have hb := B.bytes
  have hr := B.returns
  have hbg : ∀ w ∈ sr_big, w.before _ s = true := fun w h => atoms_spec (ws := Cond.code yX_needObject bX_needObject 2 none :: sr_big) B.pre w (List.mem_cons_of_mem _ h)
  have hown : s.vm.findClass RX = some m.cls := findClass_of_methodNamed B.named
  have hlocks := B.notSynchronized
  subst hsz
  have hD := hD0.self (sz := s.heap.size)
  generalize hAe : va_A (wX h rr cc cI N R C li us ob sl go gi fr la re) s.heap.size = A at *
  have hA : ∀ q : Nat, s.heap.size ≤ q → A q := fun q h => by rw [← hAe]; exact Or.inr h
  have hS : va_S A s.heap s.heap [] := va_S.rf
  have hl := lv_entry ([.ref h, .int a]) (n := 2) (Nat.le_of_ble_eq_true rfl)
  rw [lg_entry_eq]
  generalize (lg_sl ([.ref h, .int a]) ++ List.replicate (2 - (lg_sl ([.ref h, .int a])).length) Slot.unset).toArray = ls at hl ⊢
  have hl : lv_has ls 2 [(0, .ref h), (1, .int a)] := hl
  refine lv_aload_n hx hb dX_needObject_0 rfl (lv_at hl 0 rfl) ?_
  refine lv_iload_n hx hb dX_needObject_1 rfl (lv_at hl 1 rfl) ?_
  refine sy_cVi (wc := wX h rr cc cI N R C li us ob sl go gi fr la re) (wr := []) (w1 := wX h rr cc cI N R C li us ob sl go gi fr la re) (ci := 0) (q0 := 0) (As := [.int a]) (rest := []) ⟨hx, hb, hml, hown, hbg⟩ (ct_X_isObject l D h rr cc cI N R C li us ob sl go gi fr la re s.heap.size a hN) (cwV 1 hbg (bg_V bw_216 bw_217 bw_19 bw_34 bw_218) rfl rfl rfl (by decide +kernel) ⟨Nat.le_of_ble_eq_true rfl, Nat.le_of_ble_eq_true rfl⟩) hK [0] rfl hP hD hS hA [0, 1, 2] [] rfl rfl rfl rfl (by decide) rfl rfl rfl hl.1 rfl (Nat.le_of_ble_eq_true rfl) dX_needObject_2 ⟨Nat.le_of_ble_eq_true rfl, Nat.le_of_ble_eq_true rfl⟩ (fun H locs hP hD hS => ?_)
  have hP : va_P D vwC (wX h rr cc cI N R C li us ob sl go gi fr la re) H := hP
  have hD : va_D A (wX h rr cc cI N R C li us ob sl go gi fr la re) := hD
  refine lv_if_ne (tgt := 18) hx hb dX_needObject_5 (by decide) (fun _ => ?_) (fun z => absurd z (by rw [if_pos hg]; decide))
  refine W.widen (k := 0) (n := 0) (Nat.le_of_ble_eq_true rfl) (Nat.le_of_ble_eq_true rfl) ?_
  exact W.vret hx hb hr (fun t ht hW => ⟨⟨(), rfl, trivial, by rw [ht]; exact hP, va_K.moved hW.alike hK, hD⟩, hS.F ht⟩) hS.2.2 dX_needObject_18

set_option maxHeartbeats 4000000 in
set_option maxRecDepth 100000 in
theorem ct_X_needObject_b (l : Launch) (D : va_G) (h rr cc : Nat) (cI : ClassId) (N : Nat) (R C : Nat → Int32) (li us ob sl go gi fr la re : Int32) (sz : Nat) (a : Int32) (hN : N < 2 ^ 31) (hst : l.stackTraces = false) (hg : sr_isO N C a ob.toNatClampNeg 1 = false) : sy_Mx l yX_needObject (Cond.code yX_needObject bX_needObject 2 none :: sr_big) { frames := 6, cells := 1, slots := 6, locals := 90 } D vwC [(cI, .int)] [.ref h, .int a] (wX h rr cc cI N R C li us ob sl go gi fr la re) sz sx_NSE 1 6 := by
  refine vx_ofW (cc := bX_needObject) (maxL := 2) (ret := none) (by decide) rfl ?_
  intro p e s m args below meth c s₁ B hml htab hv
  obtain ⟨rfl, ⟨hsz, hP, hK, hD0⟩, hG⟩ := hv
  have hx := B.exec
  have hb := B.bytes
  have hr := B.returns
  have hbg : ∀ w ∈ sr_big, w.before _ s = true := fun w h => atoms_spec (ws := Cond.code yX_needObject bX_needObject 2 none :: sr_big) B.pre w (List.mem_cons_of_mem _ h)
  have hown : s.vm.findClass RX = some m.cls := findClass_of_methodNamed B.named
  have hlocks := B.notSynchronized
  subst hsz
  have hD := hD0.self (sz := s.heap.size)
  generalize hAe : va_A (wX h rr cc cI N R C li us ob sl go gi fr la re) s.heap.size = A at *
  have hA : ∀ q : Nat, s.heap.size ≤ q → A q := fun q h => by rw [← hAe]; exact Or.inr h
  have hS : va_S A s.heap s.heap [] := va_S.rf
  have hl := lv_entry ([.ref h, .int a]) (n := 2) (Nat.le_of_ble_eq_true rfl)
  rw [lg_entry_eq]
  generalize (lg_sl ([.ref h, .int a]) ++ List.replicate (2 - (lg_sl ([.ref h, .int a])).length) Slot.unset).toArray = ls at hl ⊢
  have hl : lv_has ls 2 [(0, .ref h), (1, .int a)] := hl
  refine lv_aload_n hx hb dX_needObject_0 rfl (lv_at hl 0 rfl) ?_
  refine lv_iload_n hx hb dX_needObject_1 rfl (lv_at hl 1 rfl) ?_
  refine sy_cVi (wc := wX h rr cc cI N R C li us ob sl go gi fr la re) (wr := []) (w1 := wX h rr cc cI N R C li us ob sl go gi fr la re) (ci := 0) (q0 := 0) (As := [.int a]) (rest := []) ⟨hx, hb, hml, hown, hbg⟩ (ct_X_isObject l D h rr cc cI N R C li us ob sl go gi fr la re s.heap.size a hN) (cwV 1 hbg (bg_V bw_216 bw_217 bw_19 bw_34 bw_218) rfl rfl rfl (by decide +kernel) ⟨Nat.le_of_ble_eq_true rfl, Nat.le_of_ble_eq_true rfl⟩) hK [0] rfl hP hD hS hA [0, 1, 2] [] rfl rfl rfl rfl (by decide) rfl rfl rfl hl.1 rfl (Nat.le_of_ble_eq_true rfl) dX_needObject_2 ⟨Nat.le_of_ble_eq_true rfl, Nat.le_of_ble_eq_true rfl⟩ (fun H locs hP hD hS => ?_)
  have hP : va_P D vwC (wX h rr cc cI N R C li us ob sl go gi fr la re) H := hP
  have hD : va_D A (wX h rr cc cI N R C li us ob sl go gi fr la re) := hD
  refine lv_if_ne (tgt := 18) hx hb dX_needObject_5 (by decide) (fun z => absurd (by rw [hg]; rfl) z) (fun _ => ?_)
  exact sy_throw (E := sx_NSE) (text := "no such object") (Or.inr ⟨rfl, rfl, rfl, rfl, rfl⟩) hx hb hst hown hbg (by decide) hG hP hK hD hS (hl.1.trans hml.symm) dX_needObject_8 dX_needObject_11 dX_needObject_12 dX_needObject_14 dX_needObject_17 htab (Nat.le_of_ble_eq_true rfl) (Nat.le_of_ble_eq_true rfl) (Nat.le_of_ble_eq_true rfl) (Nat.le_of_ble_eq_true rfl) hlocks (Nat.le_of_ble_eq_true rfl) (Nat.le_of_ble_eq_true rfl)

set_option maxHeartbeats 4000000 in
set_option maxRecDepth 100000 in
theorem ct_X_needObjectOrNothing_k (l : Launch) (D : va_G) (h rr cc : Nat) (cI : ClassId) (N : Nat) (R C : Nat → Int32) (li us ob sl go gi fr la re : Int32) (sz : Nat) (a : Int32) (hN : N < 2 ^ 31) (hg : a = 0 ∨ sr_isO N C a ob.toNatClampNeg 1 = true) : sy_Mv l yX_needObjectOrNothing (Cond.code yX_needObjectOrNothing bX_needObjectOrNothing 2 none :: sr_big) { frames := 7, cells := 0, slots := 0, locals := 111 } D vwC [(cI, .int)] [.ref h, .int a] (wX h rr cc cI N R C li us ob sl go gi fr la re) sz (wX h rr cc cI N R C li us ob sl go gi fr la re) 0 0 := by
  refine Met.ofW (cc := bX_needObjectOrNothing) (maxL := 2) (ret := none) (by decide) rfl ?_
  intro p e s m args below meth c s₁ B hml hv
  obtain ⟨rfl, hsz, hP, hK, hD0⟩ := hv
  have hx := B.exec
  have hb := B.bytes
  have hr := B.returns
  have hbg : ∀ w ∈ sr_big, w.before _ s = true := fun w h => atoms_spec (ws := Cond.code yX_needObjectOrNothing bX_needObjectOrNothing 2 none :: sr_big) B.pre w (List.mem_cons_of_mem _ h)
  have hown : s.vm.findClass RX = some m.cls := findClass_of_methodNamed B.named
  have hlocks := B.notSynchronized
  subst hsz
  have hD := hD0.self (sz := s.heap.size)
  generalize hAe : va_A (wX h rr cc cI N R C li us ob sl go gi fr la re) s.heap.size = A at *
  have hA : ∀ q : Nat, s.heap.size ≤ q → A q := fun q h => by rw [← hAe]; exact Or.inr h
  have hS : va_S A s.heap s.heap [] := va_S.rf
  have hl := lv_entry ([.ref h, .int a]) (n := 2) (Nat.le_of_ble_eq_true rfl)
  rw [lg_entry_eq]
  generalize (lg_sl ([.ref h, .int a]) ++ List.replicate (2 - (lg_sl ([.ref h, .int a])).length) Slot.unset).toArray = ls at hl ⊢
  have hl : lv_has ls 2 [(0, .ref h), (1, .int a)] := hl
  refine lv_iload_n hx hb dX_needObjectOrNothing_0 rfl (lv_at hl 1 rfl) ?_
  refine lv_if_eq (tgt := 9) hx hb dX_needObjectOrNothing_1 (by decide) (fun c_1 => ?_) (fun c_1 => ?_)
  · refine W.widen (k := 0) (n := 0) (Nat.le_of_ble_eq_true rfl) (Nat.le_of_ble_eq_true rfl) ?_
    exact W.vret hx hb hr (fun t ht hW => ⟨⟨(), rfl, trivial, by rw [ht]; exact hP, va_K.moved hW.alike hK, hD⟩, hS.F ht⟩) hS.2.2 dX_needObjectOrNothing_9
  · refine lv_aload_n hx hb dX_needObjectOrNothing_4 rfl (lv_at hl 0 rfl) ?_
    refine lv_iload_n hx hb dX_needObjectOrNothing_5 rfl (lv_at hl 1 rfl) ?_
    refine sy_cVv (wc := wX h rr cc cI N R C li us ob sl go gi fr la re) (wr := []) (w1 := wX h rr cc cI N R C li us ob sl go gi fr la re) (ci := 0) (q0 := 0) (As := [.int a]) (rest := []) ⟨hx, hb, hml, hown, hbg⟩ (ct_X_needObject_k l D h rr cc cI N R C li us ob sl go gi fr la re s.heap.size a hN (hg.resolve_left c_1)) (cwV 1 hbg (bg_V bw_213 bw_214 bw_18 bw_34 bw_215) rfl rfl rfl (by decide +kernel) ⟨Nat.le_of_ble_eq_true rfl, Nat.le_of_ble_eq_true rfl⟩) hK [0] rfl hP hD hS hA [0, 1, 2] [] rfl rfl rfl rfl (by decide) rfl rfl rfl hl.1 rfl (Nat.le_of_ble_eq_true rfl) dX_needObjectOrNothing_6 ⟨Nat.le_of_ble_eq_true rfl, Nat.le_of_ble_eq_true rfl⟩ (fun H locs hP hD hS => ?_)
    have hP : va_P D vwC (wX h rr cc cI N R C li us ob sl go gi fr la re) H := hP
    have hD : va_D A (wX h rr cc cI N R C li us ob sl go gi fr la re) := hD
    refine W.widen (k := 0) (n := 0) (Nat.le_of_ble_eq_true rfl) (Nat.le_of_ble_eq_true rfl) ?_
    exact W.vret hx hb hr (fun t ht hW => ⟨⟨(), rfl, trivial, by rw [ht]; exact hP, va_K.moved hW.alike hK, hD⟩, hS.F ht⟩) hS.2.2 dX_needObjectOrNothing_9

set_option maxHeartbeats 4000000 in
set_option maxRecDepth 100000 in
theorem ct_X_needObjectOrNothing_b (l : Launch) (D : va_G) (h rr cc : Nat) (cI : ClassId) (N : Nat) (R C : Nat → Int32) (li us ob sl go gi fr la re : Int32) (sz : Nat) (a : Int32) (hN : N < 2 ^ 31) (hst : l.stackTraces = false) (h0 : ¬ a = 0) (hg : sr_isO N C a ob.toNatClampNeg 1 = false) : sy_Mx l yX_needObjectOrNothing (Cond.code yX_needObjectOrNothing bX_needObjectOrNothing 2 none :: sr_big) { frames := 7, cells := 1, slots := 6, locals := 111 } D vwC [(cI, .int)] [.ref h, .int a] (wX h rr cc cI N R C li us ob sl go gi fr la re) sz sx_NSE 1 6 := by
  refine vx_ofW (cc := bX_needObjectOrNothing) (maxL := 2) (ret := none) (by decide) rfl ?_
  intro p e s m args below meth c s₁ B hml htab hv
  obtain ⟨rfl, ⟨hsz, hP, hK, hD0⟩, hG⟩ := hv
  have hx := B.exec
  have hb := B.bytes
  have hr := B.returns
  have hbg : ∀ w ∈ sr_big, w.before _ s = true := fun w h => atoms_spec (ws := Cond.code yX_needObjectOrNothing bX_needObjectOrNothing 2 none :: sr_big) B.pre w (List.mem_cons_of_mem _ h)
  have hown : s.vm.findClass RX = some m.cls := findClass_of_methodNamed B.named
  have hlocks := B.notSynchronized
  subst hsz
  have hD := hD0.self (sz := s.heap.size)
  generalize hAe : va_A (wX h rr cc cI N R C li us ob sl go gi fr la re) s.heap.size = A at *
  have hA : ∀ q : Nat, s.heap.size ≤ q → A q := fun q h => by rw [← hAe]; exact Or.inr h
  have hS : va_S A s.heap s.heap [] := va_S.rf
  have hl := lv_entry ([.ref h, .int a]) (n := 2) (Nat.le_of_ble_eq_true rfl)
  rw [lg_entry_eq]
  generalize (lg_sl ([.ref h, .int a]) ++ List.replicate (2 - (lg_sl ([.ref h, .int a])).length) Slot.unset).toArray = ls at hl ⊢
  have hl : lv_has ls 2 [(0, .ref h), (1, .int a)] := hl
  refine lv_iload_n hx hb dX_needObjectOrNothing_0 rfl (lv_at hl 1 rfl) ?_
  refine lv_if_eq (tgt := 9) hx hb dX_needObjectOrNothing_1 (by decide) (fun z => absurd z h0) (fun _ => ?_)
  refine lv_aload_n hx hb dX_needObjectOrNothing_4 rfl (lv_at hl 0 rfl) ?_
  refine lv_iload_n hx hb dX_needObjectOrNothing_5 rfl (lv_at hl 1 rfl) ?_
  refine sy_cVx (wc := wX h rr cc cI N R C li us ob sl go gi fr la re) (wr := []) (ci := 0) (q0 := 0) (As := [.int a]) (rest := []) ⟨hx, hb, hml, hown, hbg⟩ (ct_X_needObject_b l D h rr cc cI N R C li us ob sl go gi fr la re s.heap.size a hN hst hg) (cwV 1 hbg (bg_V bw_213 bw_214 bw_18 bw_34 bw_215) rfl rfl rfl (by decide +kernel) ⟨Nat.le_of_ble_eq_true rfl, Nat.le_of_ble_eq_true rfl⟩) hK [0] rfl hP hD hS hA hG [0, 1, 2] [] rfl rfl rfl rfl (by decide) rfl rfl rfl hl.1 rfl (Nat.le_of_ble_eq_true rfl) dX_needObjectOrNothing_6 ⟨Nat.le_of_ble_eq_true rfl, Nat.le_of_ble_eq_true rfl⟩ (fun q ce H locs hP hD hS hcell hcv hcl => ?_)
  exact sy_outx htab hlocks hP hK hD hS hcell hcv hcl (Nat.le_of_ble_eq_true rfl) (Nat.le_of_ble_eq_true rfl)

set_option maxHeartbeats 4000000 in
set_option maxRecDepth 100000 in
theorem ct_X_fieldCell_k (l : Launch) (D : va_G) (h rr cc : Nat) (cI : ClassId) (N : Nat) (R C : Nat → Int32) (li us ob sl go gi fr la re : Int32) (sz : Nat) (a f : Int32) (hN : N < 2 ^ 31) (hg : sr_isO N C a ob.toNatClampNeg 1 = true) (h1 : ¬ f < 0) (h2 : f < sr_fi N C a) : sy_Mi l yX_fieldCell (Cond.code yX_fieldCell bX_fieldCell 3 (some .int) :: sr_big) { frames := 7, cells := 0, slots := 0, locals := 111 } D vwC [(cI, .int)] [.ref h, .int a, .int f] (wX h rr cc cI N R C li us ob sl go gi fr la re) sz (a + 3 + f) (wX h rr cc cI N R C li us ob sl go gi fr la re) 0 0 := by
  refine Met.ofW (cc := bX_fieldCell) (maxL := 3) (ret := (some .int)) (by decide) rfl ?_
  intro p e s m args below meth c s₁ B hml hv
  obtain ⟨rfl, hsz, hP, hK, hD0⟩ := hv
  have hx := B.exec
  have hb := B.bytes
  have hr := B.returns
  have hbg : ∀ w ∈ sr_big, w.before _ s = true := fun w h => atoms_spec (ws := Cond.code yX_fieldCell bX_fieldCell 3 (some .int) :: sr_big) B.pre w (List.mem_cons_of_mem _ h)
  have hown : s.vm.findClass RX = some m.cls := findClass_of_methodNamed B.named
  have hlocks := B.notSynchronized
  subst hsz
  have hD := hD0.self (sz := s.heap.size)
  generalize hAe : va_A (wX h rr cc cI N R C li us ob sl go gi fr la re) s.heap.size = A at *
  have hA : ∀ q : Nat, s.heap.size ≤ q → A q := fun q h => by rw [← hAe]; exact Or.inr h
  have hS : va_S A s.heap s.heap [] := va_S.rf
  have hl := lv_entry ([.ref h, .int a, .int f]) (n := 3) (Nat.le_of_ble_eq_true rfl)
  rw [lg_entry_eq]
  generalize (lg_sl ([.ref h, .int a, .int f]) ++ List.replicate (3 - (lg_sl ([.ref h, .int a, .int f])).length) Slot.unset).toArray = ls at hl ⊢
  have hl : lv_has ls 3 [(0, .ref h), (1, .int a), (2, .int f)] := hl
  refine lv_aload_n hx hb dX_fieldCell_0 rfl (lv_at hl 0 rfl) ?_
  refine lv_iload_n hx hb dX_fieldCell_1 rfl (lv_at hl 1 rfl) ?_
  refine sy_cVv (wc := wX h rr cc cI N R C li us ob sl go gi fr la re) (wr := []) (w1 := wX h rr cc cI N R C li us ob sl go gi fr la re) (ci := 0) (q0 := 0) (As := [.int a]) (rest := []) ⟨hx, hb, hml, hown, hbg⟩ (ct_X_needObject_k l D h rr cc cI N R C li us ob sl go gi fr la re s.heap.size a hN hg) (cwV 1 hbg (bg_V bw_213 bw_214 bw_18 bw_34 bw_215) rfl rfl rfl (by decide +kernel) ⟨Nat.le_of_ble_eq_true rfl, Nat.le_of_ble_eq_true rfl⟩) hK [0] rfl hP hD hS hA [0, 1, 2] [] rfl rfl rfl rfl (by decide) rfl rfl rfl hl.1 rfl (Nat.le_of_ble_eq_true rfl) dX_fieldCell_2 ⟨Nat.le_of_ble_eq_true rfl, Nat.le_of_ble_eq_true rfl⟩ (fun H locs hP hD hS => ?_)
  have hP : va_P D vwC (wX h rr cc cI N R C li us ob sl go gi fr la re) H := hP
  have hD : va_D A (wX h rr cc cI N R C li us ob sl go gi fr la re) := hD
  refine lv_iload_n hx hb dX_fieldCell_5 rfl (lv_at hl 2 rfl) ?_
  refine lv_if_lt (tgt := 18) hx hb dX_fieldCell_6 (by decide) (fun z => absurd z h1) (fun _ => ?_)
  refine lv_iload_n hx hb dX_fieldCell_9 rfl (lv_at hl 2 rfl) ?_
  refine lv_aload_n hx hb dX_fieldCell_10 rfl (lv_at hl 0 rfl) ?_
  refine lv_iload_n hx hb dX_fieldCell_11 rfl (lv_at hl 1 rfl) ?_
  refine sy_cVi (wc := wX h rr cc cI N R C li us ob sl go gi fr la re) (wr := []) (w1 := wX h rr cc cI N R C li us ob sl go gi fr la re) (ci := 0) (q0 := 0) (As := [.int a]) (rest := [.int f]) ⟨hx, hb, hml, hown, hbg⟩ (ct_X_fieldsOf l D h rr cc cI N R C li us ob sl go gi fr la re H.size a hN) (cwV 1 hbg (bg_V bw_99 bw_100 bw_7 bw_34 bw_101) rfl rfl rfl (by decide +kernel) ⟨Nat.le_of_ble_eq_true rfl, Nat.le_of_ble_eq_true rfl⟩) hK [0] rfl hP hD hS hA [0, 1, 2] [] rfl rfl rfl rfl (by decide) rfl rfl rfl hl.1 rfl (Nat.le_of_ble_eq_true rfl) dX_fieldCell_12 ⟨Nat.le_of_ble_eq_true rfl, Nat.le_of_ble_eq_true rfl⟩ (fun H locs hP hD hS => ?_)
  have hP : va_P D vwC (wX h rr cc cI N R C li us ob sl go gi fr la re) H := hP
  have hD : va_D A (wX h rr cc cI N R C li us ob sl go gi fr la re) := hD
  refine lv_icmp_lt (tgt := 28) hx hb dX_fieldCell_15 (by decide) (fun _ => ?_) (fun z => absurd h2 z)
  refine lv_iload_n hx hb dX_fieldCell_28 rfl (lv_at hl 1 rfl) ?_
  refine lv_iconst (v := 3) hx hb dX_fieldCell_29 (by decide) ?_
  refine lv_iadd hx hb dX_fieldCell_30 ?_
  refine lv_iload_n hx hb dX_fieldCell_31 rfl (lv_at hl 2 rfl) ?_
  refine lv_iadd hx hb dX_fieldCell_32 ?_
  refine W.widen (k := 0) (n := 0) (Nat.le_of_ble_eq_true rfl) (Nat.le_of_ble_eq_true rfl) ?_
  exact W.iret (v := (a + 3) + f) hx hb hr (fun t ht hW => ⟨⟨(a + 3) + f, (), rfl, rfl, by rw [ht]; exact hP, va_K.moved hW.alike hK, hD⟩, hS.F ht⟩) hS.2.2 dX_fieldCell_33

set_option maxHeartbeats 4000000 in
set_option maxRecDepth 100000 in
theorem ct_X_fieldCell_b1 (l : Launch) (D : va_G) (h rr cc : Nat) (cI : ClassId) (N : Nat) (R C : Nat → Int32) (li us ob sl go gi fr la re : Int32) (sz : Nat) (a f : Int32) (hN : N < 2 ^ 31) (hst : l.stackTraces = false) (hg : sr_isO N C a ob.toNatClampNeg 1 = false) : sy_Mx l yX_fieldCell (Cond.code yX_fieldCell bX_fieldCell 3 (some .int) :: sr_big) { frames := 7, cells := 1, slots := 6, locals := 111 } D vwC [(cI, .int)] [.ref h, .int a, .int f] (wX h rr cc cI N R C li us ob sl go gi fr la re) sz sx_NSE 1 6 := by
  refine vx_ofW (cc := bX_fieldCell) (maxL := 3) (ret := (some .int)) (by decide) rfl ?_
  intro p e s m args below meth c s₁ B hml htab hv
  obtain ⟨rfl, ⟨hsz, hP, hK, hD0⟩, hG⟩ := hv
  have hx := B.exec
  have hb := B.bytes
  have hr := B.returns
  have hbg : ∀ w ∈ sr_big, w.before _ s = true := fun w h => atoms_spec (ws := Cond.code yX_fieldCell bX_fieldCell 3 (some .int) :: sr_big) B.pre w (List.mem_cons_of_mem _ h)
  have hown : s.vm.findClass RX = some m.cls := findClass_of_methodNamed B.named
  have hlocks := B.notSynchronized
  subst hsz
  have hD := hD0.self (sz := s.heap.size)
  generalize hAe : va_A (wX h rr cc cI N R C li us ob sl go gi fr la re) s.heap.size = A at *
  have hA : ∀ q : Nat, s.heap.size ≤ q → A q := fun q h => by rw [← hAe]; exact Or.inr h
  have hS : va_S A s.heap s.heap [] := va_S.rf
  have hl := lv_entry ([.ref h, .int a, .int f]) (n := 3) (Nat.le_of_ble_eq_true rfl)
  rw [lg_entry_eq]
  generalize (lg_sl ([.ref h, .int a, .int f]) ++ List.replicate (3 - (lg_sl ([.ref h, .int a, .int f])).length) Slot.unset).toArray = ls at hl ⊢
  have hl : lv_has ls 3 [(0, .ref h), (1, .int a), (2, .int f)] := hl
  refine lv_aload_n hx hb dX_fieldCell_0 rfl (lv_at hl 0 rfl) ?_
  refine lv_iload_n hx hb dX_fieldCell_1 rfl (lv_at hl 1 rfl) ?_
  refine sy_cVx (wc := wX h rr cc cI N R C li us ob sl go gi fr la re) (wr := []) (ci := 0) (q0 := 0) (As := [.int a]) (rest := []) ⟨hx, hb, hml, hown, hbg⟩ (ct_X_needObject_b l D h rr cc cI N R C li us ob sl go gi fr la re s.heap.size a hN hst hg) (cwV 1 hbg (bg_V bw_213 bw_214 bw_18 bw_34 bw_215) rfl rfl rfl (by decide +kernel) ⟨Nat.le_of_ble_eq_true rfl, Nat.le_of_ble_eq_true rfl⟩) hK [0] rfl hP hD hS hA hG [0, 1, 2] [] rfl rfl rfl rfl (by decide) rfl rfl rfl hl.1 rfl (Nat.le_of_ble_eq_true rfl) dX_fieldCell_2 ⟨Nat.le_of_ble_eq_true rfl, Nat.le_of_ble_eq_true rfl⟩ (fun q ce H locs hP hD hS hcell hcv hcl => ?_)
  exact sy_outx htab hlocks hP hK hD hS hcell hcv hcl (Nat.le_of_ble_eq_true rfl) (Nat.le_of_ble_eq_true rfl)

set_option maxHeartbeats 4000000 in
set_option maxRecDepth 100000 in
theorem ct_X_fieldCell_b2 (l : Launch) (D : va_G) (h rr cc : Nat) (cI : ClassId) (N : Nat) (R C : Nat → Int32) (li us ob sl go gi fr la re : Int32) (sz : Nat) (a f : Int32) (hN : N < 2 ^ 31) (hst : l.stackTraces = false) (hg : sr_isO N C a ob.toNatClampNeg 1 = true) (h1 : f < 0 ∨ ¬ f < sr_fi N C a) : sy_Mx l yX_fieldCell (Cond.code yX_fieldCell bX_fieldCell 3 (some .int) :: sr_big) { frames := 7, cells := 1, slots := 6, locals := 111 } D vwC [(cI, .int)] [.ref h, .int a, .int f] (wX h rr cc cI N R C li us ob sl go gi fr la re) sz sx_NSE 1 6 := by
  refine vx_ofW (cc := bX_fieldCell) (maxL := 3) (ret := (some .int)) (by decide) rfl ?_
  intro p e s m args below meth c s₁ B hml htab hv
  obtain ⟨rfl, ⟨hsz, hP, hK, hD0⟩, hG⟩ := hv
  have hx := B.exec
  have hb := B.bytes
  have hr := B.returns
  have hbg : ∀ w ∈ sr_big, w.before _ s = true := fun w h => atoms_spec (ws := Cond.code yX_fieldCell bX_fieldCell 3 (some .int) :: sr_big) B.pre w (List.mem_cons_of_mem _ h)
  have hown : s.vm.findClass RX = some m.cls := findClass_of_methodNamed B.named
  have hlocks := B.notSynchronized
  subst hsz
  have hD := hD0.self (sz := s.heap.size)
  generalize hAe : va_A (wX h rr cc cI N R C li us ob sl go gi fr la re) s.heap.size = A at *
  have hA : ∀ q : Nat, s.heap.size ≤ q → A q := fun q h => by rw [← hAe]; exact Or.inr h
  have hS : va_S A s.heap s.heap [] := va_S.rf
  have hl := lv_entry ([.ref h, .int a, .int f]) (n := 3) (Nat.le_of_ble_eq_true rfl)
  rw [lg_entry_eq]
  generalize (lg_sl ([.ref h, .int a, .int f]) ++ List.replicate (3 - (lg_sl ([.ref h, .int a, .int f])).length) Slot.unset).toArray = ls at hl ⊢
  have hl : lv_has ls 3 [(0, .ref h), (1, .int a), (2, .int f)] := hl
  refine lv_aload_n hx hb dX_fieldCell_0 rfl (lv_at hl 0 rfl) ?_
  refine lv_iload_n hx hb dX_fieldCell_1 rfl (lv_at hl 1 rfl) ?_
  refine sy_cVv (wc := wX h rr cc cI N R C li us ob sl go gi fr la re) (wr := []) (w1 := wX h rr cc cI N R C li us ob sl go gi fr la re) (ci := 0) (q0 := 0) (As := [.int a]) (rest := []) ⟨hx, hb, hml, hown, hbg⟩ (ct_X_needObject_k l D h rr cc cI N R C li us ob sl go gi fr la re s.heap.size a hN hg) (cwV 1 hbg (bg_V bw_213 bw_214 bw_18 bw_34 bw_215) rfl rfl rfl (by decide +kernel) ⟨Nat.le_of_ble_eq_true rfl, Nat.le_of_ble_eq_true rfl⟩) hK [0] rfl hP hD hS hA [0, 1, 2] [] rfl rfl rfl rfl (by decide) rfl rfl rfl hl.1 rfl (Nat.le_of_ble_eq_true rfl) dX_fieldCell_2 ⟨Nat.le_of_ble_eq_true rfl, Nat.le_of_ble_eq_true rfl⟩ (fun H locs hP hD hS => ?_)
  have hP : va_P D vwC (wX h rr cc cI N R C li us ob sl go gi fr la re) H := hP
  have hD : va_D A (wX h rr cc cI N R C li us ob sl go gi fr la re) := hD
  refine lv_iload_n hx hb dX_fieldCell_5 rfl (lv_at hl 2 rfl) ?_
  refine lv_if_lt (tgt := 18) hx hb dX_fieldCell_6 (by decide) (fun c_6 => ?_) (fun c_6 => ?_)
  · exact sy_throw (E := sx_NSE) (text := "no such field") (Or.inr ⟨rfl, rfl, rfl, rfl, rfl⟩) hx hb hst hown hbg (by decide) hG hP hK hD hS (hl.1.trans hml.symm) dX_fieldCell_18 dX_fieldCell_21 dX_fieldCell_22 dX_fieldCell_24 dX_fieldCell_27 htab (Nat.le_of_ble_eq_true rfl) (Nat.le_of_ble_eq_true rfl) (Nat.le_of_ble_eq_true rfl) (Nat.le_of_ble_eq_true rfl) hlocks (Nat.le_of_ble_eq_true rfl) (Nat.le_of_ble_eq_true rfl)
  · refine lv_iload_n hx hb dX_fieldCell_9 rfl (lv_at hl 2 rfl) ?_
    refine lv_aload_n hx hb dX_fieldCell_10 rfl (lv_at hl 0 rfl) ?_
    refine lv_iload_n hx hb dX_fieldCell_11 rfl (lv_at hl 1 rfl) ?_
    refine sy_cVi (wc := wX h rr cc cI N R C li us ob sl go gi fr la re) (wr := []) (w1 := wX h rr cc cI N R C li us ob sl go gi fr la re) (ci := 0) (q0 := 0) (As := [.int a]) (rest := [.int f]) ⟨hx, hb, hml, hown, hbg⟩ (ct_X_fieldsOf l D h rr cc cI N R C li us ob sl go gi fr la re H.size a hN) (cwV 1 hbg (bg_V bw_99 bw_100 bw_7 bw_34 bw_101) rfl rfl rfl (by decide +kernel) ⟨Nat.le_of_ble_eq_true rfl, Nat.le_of_ble_eq_true rfl⟩) hK [0] rfl hP hD hS hA [0, 1, 2] [] rfl rfl rfl rfl (by decide) rfl rfl rfl hl.1 rfl (Nat.le_of_ble_eq_true rfl) dX_fieldCell_12 ⟨Nat.le_of_ble_eq_true rfl, Nat.le_of_ble_eq_true rfl⟩ (fun H locs hP hD hS => ?_)
    have hP : va_P D vwC (wX h rr cc cI N R C li us ob sl go gi fr la re) H := hP
    have hD : va_D A (wX h rr cc cI N R C li us ob sl go gi fr la re) := hD
    refine lv_icmp_lt (tgt := 28) hx hb dX_fieldCell_15 (by decide) (fun z => absurd z (h1.resolve_left c_6)) (fun _ => ?_)
    exact sy_throw (E := sx_NSE) (text := "no such field") (Or.inr ⟨rfl, rfl, rfl, rfl, rfl⟩) hx hb hst hown hbg (by decide) hG hP hK hD hS (hl.1.trans hml.symm) dX_fieldCell_18 dX_fieldCell_21 dX_fieldCell_22 dX_fieldCell_24 dX_fieldCell_27 htab (Nat.le_of_ble_eq_true rfl) (Nat.le_of_ble_eq_true rfl) (Nat.le_of_ble_eq_true rfl) (Nat.le_of_ble_eq_true rfl) hlocks (Nat.le_of_ble_eq_true rfl) (Nat.le_of_ble_eq_true rfl)

theorem ct_X_fieldCell_b (l : Launch) (D : va_G) (h rr cc : Nat) (cI : ClassId) (N : Nat) (R C : Nat → Int32) (li us ob sl go gi fr la re : Int32) (sz : Nat) (a f : Int32) (hN : N < 2 ^ 31) (hst : l.stackTraces = false) (hg : sr_isO N C a ob.toNatClampNeg 1 = false ∨ (sr_isO N C a ob.toNatClampNeg 1 = true ∧ (f < 0 ∨ ¬ f < sr_fi N C a))) : sy_Mx l yX_fieldCell (Cond.code yX_fieldCell bX_fieldCell 3 (some .int) :: sr_big) { frames := 7, cells := 1, slots := 6, locals := 111 } D vwC [(cI, .int)] [.ref h, .int a, .int f] (wX h rr cc cI N R C li us ob sl go gi fr la re) sz sx_NSE 1 6 := by
  rcases hg with hg | ⟨hg, h1⟩
  · exact ct_X_fieldCell_b1 l D h rr cc cI N R C li us ob sl go gi fr la re sz a f hN hst hg
  · exact ct_X_fieldCell_b2 l D h rr cc cI N R C li us ob sl go gi fr la re sz a f hN hst hg h1

set_option maxHeartbeats 4000000 in
set_option maxRecDepth 100000 in
theorem ct_X_wordCell_k (l : Launch) (D : va_G) (h rr cc : Nat) (cI : ClassId) (N : Nat) (R C : Nat → Int32) (li us ob sl go gi fr la re : Int32) (sz : Nat) (a f : Int32) (hN : N < 2 ^ 31) (hg : sr_isO N C a ob.toNatClampNeg 1 = true) (h1 : ¬ f < 0) (h2 : f < sr_wi N C a) : sy_Mi l yX_wordCell (Cond.code yX_wordCell bX_wordCell 3 (some .int) :: sr_big) { frames := 7, cells := 0, slots := 0, locals := 111 } D vwC [(cI, .int)] [.ref h, .int a, .int f] (wX h rr cc cI N R C li us ob sl go gi fr la re) sz (a + 3 + sr_fi N C a + f) (wX h rr cc cI N R C li us ob sl go gi fr la re) 0 0 := by
  refine Met.ofW (cc := bX_wordCell) (maxL := 3) (ret := (some .int)) (by decide) rfl ?_
  intro p e s m args below meth c s₁ B hml hv
  obtain ⟨rfl, hsz, hP, hK, hD0⟩ := hv
  have hx := B.exec
  have hb := B.bytes
  have hr := B.returns
  have hbg : ∀ w ∈ sr_big, w.before _ s = true := fun w h => atoms_spec (ws := Cond.code yX_wordCell bX_wordCell 3 (some .int) :: sr_big) B.pre w (List.mem_cons_of_mem _ h)
  have hown : s.vm.findClass RX = some m.cls := findClass_of_methodNamed B.named
  have hlocks := B.notSynchronized
  subst hsz
  have hD := hD0.self (sz := s.heap.size)
  generalize hAe : va_A (wX h rr cc cI N R C li us ob sl go gi fr la re) s.heap.size = A at *
  have hA : ∀ q : Nat, s.heap.size ≤ q → A q := fun q h => by rw [← hAe]; exact Or.inr h
  have hS : va_S A s.heap s.heap [] := va_S.rf
  have hl := lv_entry ([.ref h, .int a, .int f]) (n := 3) (Nat.le_of_ble_eq_true rfl)
  rw [lg_entry_eq]
  generalize (lg_sl ([.ref h, .int a, .int f]) ++ List.replicate (3 - (lg_sl ([.ref h, .int a, .int f])).length) Slot.unset).toArray = ls at hl ⊢
  have hl : lv_has ls 3 [(0, .ref h), (1, .int a), (2, .int f)] := hl
  refine lv_aload_n hx hb dX_wordCell_0 rfl (lv_at hl 0 rfl) ?_
  refine lv_iload_n hx hb dX_wordCell_1 rfl (lv_at hl 1 rfl) ?_
  refine sy_cVv (wc := wX h rr cc cI N R C li us ob sl go gi fr la re) (wr := []) (w1 := wX h rr cc cI N R C li us ob sl go gi fr la re) (ci := 0) (q0 := 0) (As := [.int a]) (rest := []) ⟨hx, hb, hml, hown, hbg⟩ (ct_X_needObject_k l D h rr cc cI N R C li us ob sl go gi fr la re s.heap.size a hN hg) (cwV 1 hbg (bg_V bw_213 bw_214 bw_18 bw_34 bw_215) rfl rfl rfl (by decide +kernel) ⟨Nat.le_of_ble_eq_true rfl, Nat.le_of_ble_eq_true rfl⟩) hK [0] rfl hP hD hS hA [0, 1, 2] [] rfl rfl rfl rfl (by decide) rfl rfl rfl hl.1 rfl (Nat.le_of_ble_eq_true rfl) dX_wordCell_2 ⟨Nat.le_of_ble_eq_true rfl, Nat.le_of_ble_eq_true rfl⟩ (fun H locs hP hD hS => ?_)
  have hP : va_P D vwC (wX h rr cc cI N R C li us ob sl go gi fr la re) H := hP
  have hD : va_D A (wX h rr cc cI N R C li us ob sl go gi fr la re) := hD
  refine lv_iload_n hx hb dX_wordCell_5 rfl (lv_at hl 2 rfl) ?_
  refine lv_if_lt (tgt := 18) hx hb dX_wordCell_6 (by decide) (fun z => absurd z h1) (fun _ => ?_)
  refine lv_iload_n hx hb dX_wordCell_9 rfl (lv_at hl 2 rfl) ?_
  refine lv_aload_n hx hb dX_wordCell_10 rfl (lv_at hl 0 rfl) ?_
  refine lv_iload_n hx hb dX_wordCell_11 rfl (lv_at hl 1 rfl) ?_
  refine sy_cVi (wc := wX h rr cc cI N R C li us ob sl go gi fr la re) (wr := []) (w1 := wX h rr cc cI N R C li us ob sl go gi fr la re) (ci := 0) (q0 := 0) (As := [.int a]) (rest := [.int f]) ⟨hx, hb, hml, hown, hbg⟩ (ct_X_wordsOf l D h rr cc cI N R C li us ob sl go gi fr la re H.size a hN) (cwV 1 hbg (bg_V bw_255 bw_256 bw_23 bw_34 bw_257) rfl rfl rfl (by decide +kernel) ⟨Nat.le_of_ble_eq_true rfl, Nat.le_of_ble_eq_true rfl⟩) hK [0] rfl hP hD hS hA [0, 1, 2] [] rfl rfl rfl rfl (by decide) rfl rfl rfl hl.1 rfl (Nat.le_of_ble_eq_true rfl) dX_wordCell_12 ⟨Nat.le_of_ble_eq_true rfl, Nat.le_of_ble_eq_true rfl⟩ (fun H locs hP hD hS => ?_)
  have hP : va_P D vwC (wX h rr cc cI N R C li us ob sl go gi fr la re) H := hP
  have hD : va_D A (wX h rr cc cI N R C li us ob sl go gi fr la re) := hD
  refine lv_icmp_lt (tgt := 28) hx hb dX_wordCell_15 (by decide) (fun _ => ?_) (fun z => absurd h2 z)
  refine lv_iload_n hx hb dX_wordCell_28 rfl (lv_at hl 1 rfl) ?_
  refine lv_iconst (v := 3) hx hb dX_wordCell_29 (by decide) ?_
  refine lv_iadd hx hb dX_wordCell_30 ?_
  refine lv_aload_n hx hb dX_wordCell_31 rfl (lv_at hl 0 rfl) ?_
  refine lv_iload_n hx hb dX_wordCell_32 rfl (lv_at hl 1 rfl) ?_
  refine sy_cVi (wc := wX h rr cc cI N R C li us ob sl go gi fr la re) (wr := []) (w1 := wX h rr cc cI N R C li us ob sl go gi fr la re) (ci := 0) (q0 := 0) (As := [.int a]) (rest := [.int (a + 3)]) ⟨hx, hb, hml, hown, hbg⟩ (ct_X_fieldsOf l D h rr cc cI N R C li us ob sl go gi fr la re H.size a hN) (cwV 1 hbg (bg_V bw_99 bw_100 bw_7 bw_34 bw_101) rfl rfl rfl (by decide +kernel) ⟨Nat.le_of_ble_eq_true rfl, Nat.le_of_ble_eq_true rfl⟩) hK [0] rfl hP hD hS hA [0, 1, 2] [] rfl rfl rfl rfl (by decide) rfl rfl rfl hl.1 rfl (Nat.le_of_ble_eq_true rfl) dX_wordCell_33 ⟨Nat.le_of_ble_eq_true rfl, Nat.le_of_ble_eq_true rfl⟩ (fun H locs hP hD hS => ?_)
  have hP : va_P D vwC (wX h rr cc cI N R C li us ob sl go gi fr la re) H := hP
  have hD : va_D A (wX h rr cc cI N R C li us ob sl go gi fr la re) := hD
  refine lv_iadd hx hb dX_wordCell_36 ?_
  refine lv_iload_n hx hb dX_wordCell_37 rfl (lv_at hl 2 rfl) ?_
  refine lv_iadd hx hb dX_wordCell_38 ?_
  refine W.widen (k := 0) (n := 0) (Nat.le_of_ble_eq_true rfl) (Nat.le_of_ble_eq_true rfl) ?_
  exact W.iret (v := ((a + 3) + (sr_fi N C a)) + f) hx hb hr (fun t ht hW => ⟨⟨((a + 3) + (sr_fi N C a)) + f, (), rfl, rfl, by rw [ht]; exact hP, va_K.moved hW.alike hK, hD⟩, hS.F ht⟩) hS.2.2 dX_wordCell_39

set_option maxHeartbeats 4000000 in
set_option maxRecDepth 100000 in
theorem ct_X_wordCell_b1 (l : Launch) (D : va_G) (h rr cc : Nat) (cI : ClassId) (N : Nat) (R C : Nat → Int32) (li us ob sl go gi fr la re : Int32) (sz : Nat) (a f : Int32) (hN : N < 2 ^ 31) (hst : l.stackTraces = false) (hg : sr_isO N C a ob.toNatClampNeg 1 = false) : sy_Mx l yX_wordCell (Cond.code yX_wordCell bX_wordCell 3 (some .int) :: sr_big) { frames := 7, cells := 1, slots := 6, locals := 111 } D vwC [(cI, .int)] [.ref h, .int a, .int f] (wX h rr cc cI N R C li us ob sl go gi fr la re) sz sx_NSE 1 6 := by
  refine vx_ofW (cc := bX_wordCell) (maxL := 3) (ret := (some .int)) (by decide) rfl ?_
  intro p e s m args below meth c s₁ B hml htab hv
  obtain ⟨rfl, ⟨hsz, hP, hK, hD0⟩, hG⟩ := hv
  have hx := B.exec
  have hb := B.bytes
  have hr := B.returns
  have hbg : ∀ w ∈ sr_big, w.before _ s = true := fun w h => atoms_spec (ws := Cond.code yX_wordCell bX_wordCell 3 (some .int) :: sr_big) B.pre w (List.mem_cons_of_mem _ h)
  have hown : s.vm.findClass RX = some m.cls := findClass_of_methodNamed B.named
  have hlocks := B.notSynchronized
  subst hsz
  have hD := hD0.self (sz := s.heap.size)
  generalize hAe : va_A (wX h rr cc cI N R C li us ob sl go gi fr la re) s.heap.size = A at *
  have hA : ∀ q : Nat, s.heap.size ≤ q → A q := fun q h => by rw [← hAe]; exact Or.inr h
  have hS : va_S A s.heap s.heap [] := va_S.rf
  have hl := lv_entry ([.ref h, .int a, .int f]) (n := 3) (Nat.le_of_ble_eq_true rfl)
  rw [lg_entry_eq]
  generalize (lg_sl ([.ref h, .int a, .int f]) ++ List.replicate (3 - (lg_sl ([.ref h, .int a, .int f])).length) Slot.unset).toArray = ls at hl ⊢
  have hl : lv_has ls 3 [(0, .ref h), (1, .int a), (2, .int f)] := hl
  refine lv_aload_n hx hb dX_wordCell_0 rfl (lv_at hl 0 rfl) ?_
  refine lv_iload_n hx hb dX_wordCell_1 rfl (lv_at hl 1 rfl) ?_
  refine sy_cVx (wc := wX h rr cc cI N R C li us ob sl go gi fr la re) (wr := []) (ci := 0) (q0 := 0) (As := [.int a]) (rest := []) ⟨hx, hb, hml, hown, hbg⟩ (ct_X_needObject_b l D h rr cc cI N R C li us ob sl go gi fr la re s.heap.size a hN hst hg) (cwV 1 hbg (bg_V bw_213 bw_214 bw_18 bw_34 bw_215) rfl rfl rfl (by decide +kernel) ⟨Nat.le_of_ble_eq_true rfl, Nat.le_of_ble_eq_true rfl⟩) hK [0] rfl hP hD hS hA hG [0, 1, 2] [] rfl rfl rfl rfl (by decide) rfl rfl rfl hl.1 rfl (Nat.le_of_ble_eq_true rfl) dX_wordCell_2 ⟨Nat.le_of_ble_eq_true rfl, Nat.le_of_ble_eq_true rfl⟩ (fun q ce H locs hP hD hS hcell hcv hcl => ?_)
  exact sy_outx htab hlocks hP hK hD hS hcell hcv hcl (Nat.le_of_ble_eq_true rfl) (Nat.le_of_ble_eq_true rfl)

set_option maxHeartbeats 4000000 in
set_option maxRecDepth 100000 in
theorem ct_X_wordCell_b2 (l : Launch) (D : va_G) (h rr cc : Nat) (cI : ClassId) (N : Nat) (R C : Nat → Int32) (li us ob sl go gi fr la re : Int32) (sz : Nat) (a f : Int32) (hN : N < 2 ^ 31) (hst : l.stackTraces = false) (hg : sr_isO N C a ob.toNatClampNeg 1 = true) (h1 : f < 0 ∨ ¬ f < sr_wi N C a) : sy_Mx l yX_wordCell (Cond.code yX_wordCell bX_wordCell 3 (some .int) :: sr_big) { frames := 7, cells := 1, slots := 6, locals := 111 } D vwC [(cI, .int)] [.ref h, .int a, .int f] (wX h rr cc cI N R C li us ob sl go gi fr la re) sz sx_NSE 1 6 := by
  refine vx_ofW (cc := bX_wordCell) (maxL := 3) (ret := (some .int)) (by decide) rfl ?_
  intro p e s m args below meth c s₁ B hml htab hv
  obtain ⟨rfl, ⟨hsz, hP, hK, hD0⟩, hG⟩ := hv
  have hx := B.exec
  have hb := B.bytes
  have hr := B.returns
  have hbg : ∀ w ∈ sr_big, w.before _ s = true := fun w h => atoms_spec (ws := Cond.code yX_wordCell bX_wordCell 3 (some .int) :: sr_big) B.pre w (List.mem_cons_of_mem _ h)
  have hown : s.vm.findClass RX = some m.cls := findClass_of_methodNamed B.named
  have hlocks := B.notSynchronized
  subst hsz
  have hD := hD0.self (sz := s.heap.size)
  generalize hAe : va_A (wX h rr cc cI N R C li us ob sl go gi fr la re) s.heap.size = A at *
  have hA : ∀ q : Nat, s.heap.size ≤ q → A q := fun q h => by rw [← hAe]; exact Or.inr h
  have hS : va_S A s.heap s.heap [] := va_S.rf
  have hl := lv_entry ([.ref h, .int a, .int f]) (n := 3) (Nat.le_of_ble_eq_true rfl)
  rw [lg_entry_eq]
  generalize (lg_sl ([.ref h, .int a, .int f]) ++ List.replicate (3 - (lg_sl ([.ref h, .int a, .int f])).length) Slot.unset).toArray = ls at hl ⊢
  have hl : lv_has ls 3 [(0, .ref h), (1, .int a), (2, .int f)] := hl
  refine lv_aload_n hx hb dX_wordCell_0 rfl (lv_at hl 0 rfl) ?_
  refine lv_iload_n hx hb dX_wordCell_1 rfl (lv_at hl 1 rfl) ?_
  refine sy_cVv (wc := wX h rr cc cI N R C li us ob sl go gi fr la re) (wr := []) (w1 := wX h rr cc cI N R C li us ob sl go gi fr la re) (ci := 0) (q0 := 0) (As := [.int a]) (rest := []) ⟨hx, hb, hml, hown, hbg⟩ (ct_X_needObject_k l D h rr cc cI N R C li us ob sl go gi fr la re s.heap.size a hN hg) (cwV 1 hbg (bg_V bw_213 bw_214 bw_18 bw_34 bw_215) rfl rfl rfl (by decide +kernel) ⟨Nat.le_of_ble_eq_true rfl, Nat.le_of_ble_eq_true rfl⟩) hK [0] rfl hP hD hS hA [0, 1, 2] [] rfl rfl rfl rfl (by decide) rfl rfl rfl hl.1 rfl (Nat.le_of_ble_eq_true rfl) dX_wordCell_2 ⟨Nat.le_of_ble_eq_true rfl, Nat.le_of_ble_eq_true rfl⟩ (fun H locs hP hD hS => ?_)
  have hP : va_P D vwC (wX h rr cc cI N R C li us ob sl go gi fr la re) H := hP
  have hD : va_D A (wX h rr cc cI N R C li us ob sl go gi fr la re) := hD
  refine lv_iload_n hx hb dX_wordCell_5 rfl (lv_at hl 2 rfl) ?_
  refine lv_if_lt (tgt := 18) hx hb dX_wordCell_6 (by decide) (fun c_6 => ?_) (fun c_6 => ?_)
  · exact sy_throw (E := sx_NSE) (text := "no such word") (Or.inr ⟨rfl, rfl, rfl, rfl, rfl⟩) hx hb hst hown hbg (by decide) hG hP hK hD hS (hl.1.trans hml.symm) dX_wordCell_18 dX_wordCell_21 dX_wordCell_22 dX_wordCell_24 dX_wordCell_27 htab (Nat.le_of_ble_eq_true rfl) (Nat.le_of_ble_eq_true rfl) (Nat.le_of_ble_eq_true rfl) (Nat.le_of_ble_eq_true rfl) hlocks (Nat.le_of_ble_eq_true rfl) (Nat.le_of_ble_eq_true rfl)
  · refine lv_iload_n hx hb dX_wordCell_9 rfl (lv_at hl 2 rfl) ?_
    refine lv_aload_n hx hb dX_wordCell_10 rfl (lv_at hl 0 rfl) ?_
    refine lv_iload_n hx hb dX_wordCell_11 rfl (lv_at hl 1 rfl) ?_
    refine sy_cVi (wc := wX h rr cc cI N R C li us ob sl go gi fr la re) (wr := []) (w1 := wX h rr cc cI N R C li us ob sl go gi fr la re) (ci := 0) (q0 := 0) (As := [.int a]) (rest := [.int f]) ⟨hx, hb, hml, hown, hbg⟩ (ct_X_wordsOf l D h rr cc cI N R C li us ob sl go gi fr la re H.size a hN) (cwV 1 hbg (bg_V bw_255 bw_256 bw_23 bw_34 bw_257) rfl rfl rfl (by decide +kernel) ⟨Nat.le_of_ble_eq_true rfl, Nat.le_of_ble_eq_true rfl⟩) hK [0] rfl hP hD hS hA [0, 1, 2] [] rfl rfl rfl rfl (by decide) rfl rfl rfl hl.1 rfl (Nat.le_of_ble_eq_true rfl) dX_wordCell_12 ⟨Nat.le_of_ble_eq_true rfl, Nat.le_of_ble_eq_true rfl⟩ (fun H locs hP hD hS => ?_)
    have hP : va_P D vwC (wX h rr cc cI N R C li us ob sl go gi fr la re) H := hP
    have hD : va_D A (wX h rr cc cI N R C li us ob sl go gi fr la re) := hD
    refine lv_icmp_lt (tgt := 28) hx hb dX_wordCell_15 (by decide) (fun z => absurd z (h1.resolve_left c_6)) (fun _ => ?_)
    exact sy_throw (E := sx_NSE) (text := "no such word") (Or.inr ⟨rfl, rfl, rfl, rfl, rfl⟩) hx hb hst hown hbg (by decide) hG hP hK hD hS (hl.1.trans hml.symm) dX_wordCell_18 dX_wordCell_21 dX_wordCell_22 dX_wordCell_24 dX_wordCell_27 htab (Nat.le_of_ble_eq_true rfl) (Nat.le_of_ble_eq_true rfl) (Nat.le_of_ble_eq_true rfl) (Nat.le_of_ble_eq_true rfl) hlocks (Nat.le_of_ble_eq_true rfl) (Nat.le_of_ble_eq_true rfl)

theorem ct_X_wordCell_b (l : Launch) (D : va_G) (h rr cc : Nat) (cI : ClassId) (N : Nat) (R C : Nat → Int32) (li us ob sl go gi fr la re : Int32) (sz : Nat) (a f : Int32) (hN : N < 2 ^ 31) (hst : l.stackTraces = false) (hg : sr_isO N C a ob.toNatClampNeg 1 = false ∨ (sr_isO N C a ob.toNatClampNeg 1 = true ∧ (f < 0 ∨ ¬ f < sr_wi N C a))) : sy_Mx l yX_wordCell (Cond.code yX_wordCell bX_wordCell 3 (some .int) :: sr_big) { frames := 7, cells := 1, slots := 6, locals := 111 } D vwC [(cI, .int)] [.ref h, .int a, .int f] (wX h rr cc cI N R C li us ob sl go gi fr la re) sz sx_NSE 1 6 := by
  rcases hg with hg | ⟨hg, h1⟩
  · exact ct_X_wordCell_b1 l D h rr cc cI N R C li us ob sl go gi fr la re sz a f hN hst hg
  · exact ct_X_wordCell_b2 l D h rr cc cI N R C li us ob sl go gi fr la re sz a f hN hst hg h1

set_option maxHeartbeats 4000000 in
set_option maxRecDepth 100000 in
theorem ct_X_get_k (l : Launch) (D : va_G) (h rr cc : Nat) (cI : ClassId) (N : Nat) (R C : Nat → Int32) (li us ob sl go gi fr la re : Int32) (sz : Nat) (a f : Int32) (hN : N < 2 ^ 31) (hg : sr_isO N C a ob.toNatClampNeg 1 = true) (h1 : ¬ f < 0) (h2 : f < sr_fi N C a) : sy_Mi l yX_get (Cond.code yX_get bX_get 3 (some .int) :: sr_big) { frames := 8, cells := 0, slots := 0, locals := 133 } D vwC [(cI, .int)] [.ref h, .int a, .int f] (wX h rr cc cI N R C li us ob sl go gi fr la re) sz (sr_rd N C (a + 3 + f)) (wX h rr cc cI N R C li us ob sl go gi fr la re) 0 0 := by
  refine Met.ofW (cc := bX_get) (maxL := 3) (ret := (some .int)) (by decide) rfl ?_
  intro p e s m args below meth c s₁ B hml hv
  obtain ⟨rfl, hsz, hP, hK, hD0⟩ := hv
  have hx := B.exec
  have hb := B.bytes
  have hr := B.returns
  have hbg : ∀ w ∈ sr_big, w.before _ s = true := fun w h => atoms_spec (ws := Cond.code yX_get bX_get 3 (some .int) :: sr_big) B.pre w (List.mem_cons_of_mem _ h)
  have hown : s.vm.findClass RX = some m.cls := findClass_of_methodNamed B.named
  have hlocks := B.notSynchronized
  subst hsz
  have hD := hD0.self (sz := s.heap.size)
  generalize hAe : va_A (wX h rr cc cI N R C li us ob sl go gi fr la re) s.heap.size = A at *
  have hA : ∀ q : Nat, s.heap.size ≤ q → A q := fun q h => by rw [← hAe]; exact Or.inr h
  have hS : va_S A s.heap s.heap [] := va_S.rf
  have hl := lv_entry ([.ref h, .int a, .int f]) (n := 3) (Nat.le_of_ble_eq_true rfl)
  rw [lg_entry_eq]
  generalize (lg_sl ([.ref h, .int a, .int f]) ++ List.replicate (3 - (lg_sl ([.ref h, .int a, .int f])).length) Slot.unset).toArray = ls at hl ⊢
  have hl : lv_has ls 3 [(0, .ref h), (1, .int a), (2, .int f)] := hl
  refine lv_aload_n hx hb dX_get_0 rfl (lv_at hl 0 rfl) ?_
  refine lv_aload_n hx hb dX_get_1 rfl (lv_at hl 0 rfl) ?_
  refine lv_iload_n hx hb dX_get_2 rfl (lv_at hl 1 rfl) ?_
  refine lv_iload_n hx hb dX_get_3 rfl (lv_at hl 2 rfl) ?_
  refine sy_cVi (wc := wX h rr cc cI N R C li us ob sl go gi fr la re) (wr := []) (w1 := wX h rr cc cI N R C li us ob sl go gi fr la re) (ci := 0) (q0 := 0) (As := [.int a, .int f]) (rest := [.ref h]) ⟨hx, hb, hml, hown, hbg⟩ (ct_X_fieldCell_k l D h rr cc cI N R C li us ob sl go gi fr la re s.heap.size a f hN hg h1 h2) (cwV 2 hbg (bg_V bw_210 bw_211 bw_17 bw_34 bw_212) rfl rfl rfl (by decide +kernel) ⟨Nat.le_of_ble_eq_true rfl, Nat.le_of_ble_eq_true rfl⟩) hK [0] rfl hP hD hS hA [0, 1, 2] [] rfl rfl rfl rfl (by decide) rfl rfl rfl hl.1 rfl (Nat.le_of_ble_eq_true rfl) dX_get_4 ⟨Nat.le_of_ble_eq_true rfl, Nat.le_of_ble_eq_true rfl⟩ (fun H locs hP hD hS => ?_)
  have hP : va_P D vwC (wX h rr cc cI N R C li us ob sl go gi fr la re) H := hP
  have hD : va_D A (wX h rr cc cI N R C li us ob sl go gi fr la re) := hD
  refine sy_cVi (wc := wX h rr cc cI N R C li us ob sl go gi fr la re) (wr := []) (w1 := wX h rr cc cI N R C li us ob sl go gi fr la re) (ci := 0) (q0 := 0) (As := [.int (a + 3 + f)]) (rest := []) ⟨hx, hb, hml, hown, hbg⟩ (ct_X_read l D h rr cc cI N R C li us ob sl go gi fr la re H.size (a + 3 + f) hN) (cwV 1 hbg (bg_V bw_90 bw_91 bw_4 bw_34 bw_92) rfl rfl rfl (by decide +kernel) ⟨Nat.le_of_ble_eq_true rfl, Nat.le_of_ble_eq_true rfl⟩) hK [0] rfl hP hD hS hA [0, 1, 2] [] rfl rfl rfl rfl (by decide) rfl rfl rfl hl.1 rfl (Nat.le_of_ble_eq_true rfl) dX_get_7 ⟨Nat.le_of_ble_eq_true rfl, Nat.le_of_ble_eq_true rfl⟩ (fun H locs hP hD hS => ?_)
  have hP : va_P D vwC (wX h rr cc cI N R C li us ob sl go gi fr la re) H := hP
  have hD : va_D A (wX h rr cc cI N R C li us ob sl go gi fr la re) := hD
  refine W.widen (k := 0) (n := 0) (Nat.le_of_ble_eq_true rfl) (Nat.le_of_ble_eq_true rfl) ?_
  exact W.iret (v := sr_rd N C (a + 3 + f)) hx hb hr (fun t ht hW => ⟨⟨sr_rd N C (a + 3 + f), (), rfl, rfl, by rw [ht]; exact hP, va_K.moved hW.alike hK, hD⟩, hS.F ht⟩) hS.2.2 dX_get_10

set_option maxHeartbeats 4000000 in
set_option maxRecDepth 100000 in
theorem ct_X_get_b (l : Launch) (D : va_G) (h rr cc : Nat) (cI : ClassId) (N : Nat) (R C : Nat → Int32) (li us ob sl go gi fr la re : Int32) (sz : Nat) (a f : Int32) (hN : N < 2 ^ 31) (hst : l.stackTraces = false) (hg : sr_isO N C a ob.toNatClampNeg 1 = false ∨ (sr_isO N C a ob.toNatClampNeg 1 = true ∧ (f < 0 ∨ ¬ f < sr_fi N C a))) : sy_Mx l yX_get (Cond.code yX_get bX_get 3 (some .int) :: sr_big) { frames := 8, cells := 1, slots := 6, locals := 133 } D vwC [(cI, .int)] [.ref h, .int a, .int f] (wX h rr cc cI N R C li us ob sl go gi fr la re) sz sx_NSE 1 6 := by
  refine vx_ofW (cc := bX_get) (maxL := 3) (ret := (some .int)) (by decide) rfl ?_
  intro p e s m args below meth c s₁ B hml htab hv
  obtain ⟨rfl, ⟨hsz, hP, hK, hD0⟩, hG⟩ := hv
  have hx := B.exec
  have hb := B.bytes
  have hr := B.returns
  have hbg : ∀ w ∈ sr_big, w.before _ s = true := fun w h => atoms_spec (ws := Cond.code yX_get bX_get 3 (some .int) :: sr_big) B.pre w (List.mem_cons_of_mem _ h)
  have hown : s.vm.findClass RX = some m.cls := findClass_of_methodNamed B.named
  have hlocks := B.notSynchronized
  subst hsz
  have hD := hD0.self (sz := s.heap.size)
  generalize hAe : va_A (wX h rr cc cI N R C li us ob sl go gi fr la re) s.heap.size = A at *
  have hA : ∀ q : Nat, s.heap.size ≤ q → A q := fun q h => by rw [← hAe]; exact Or.inr h
  have hS : va_S A s.heap s.heap [] := va_S.rf
  have hl := lv_entry ([.ref h, .int a, .int f]) (n := 3) (Nat.le_of_ble_eq_true rfl)
  rw [lg_entry_eq]
  generalize (lg_sl ([.ref h, .int a, .int f]) ++ List.replicate (3 - (lg_sl ([.ref h, .int a, .int f])).length) Slot.unset).toArray = ls at hl ⊢
  have hl : lv_has ls 3 [(0, .ref h), (1, .int a), (2, .int f)] := hl
  refine lv_aload_n hx hb dX_get_0 rfl (lv_at hl 0 rfl) ?_
  refine lv_aload_n hx hb dX_get_1 rfl (lv_at hl 0 rfl) ?_
  refine lv_iload_n hx hb dX_get_2 rfl (lv_at hl 1 rfl) ?_
  refine lv_iload_n hx hb dX_get_3 rfl (lv_at hl 2 rfl) ?_
  refine sy_cVx (wc := wX h rr cc cI N R C li us ob sl go gi fr la re) (wr := []) (ci := 0) (q0 := 0) (As := [.int a, .int f]) (rest := [.ref h]) ⟨hx, hb, hml, hown, hbg⟩ (ct_X_fieldCell_b l D h rr cc cI N R C li us ob sl go gi fr la re s.heap.size a f hN hst hg) (cwV 2 hbg (bg_V bw_210 bw_211 bw_17 bw_34 bw_212) rfl rfl rfl (by decide +kernel) ⟨Nat.le_of_ble_eq_true rfl, Nat.le_of_ble_eq_true rfl⟩) hK [0] rfl hP hD hS hA hG [0, 1, 2] [] rfl rfl rfl rfl (by decide) rfl rfl rfl hl.1 rfl (Nat.le_of_ble_eq_true rfl) dX_get_4 ⟨Nat.le_of_ble_eq_true rfl, Nat.le_of_ble_eq_true rfl⟩ (fun q ce H locs hP hD hS hcell hcv hcl => ?_)
  exact sy_outx htab hlocks hP hK hD hS hcell hcv hcl (Nat.le_of_ble_eq_true rfl) (Nat.le_of_ble_eq_true rfl)

set_option maxHeartbeats 4000000 in
set_option maxRecDepth 100000 in
theorem ct_X_word_k (l : Launch) (D : va_G) (h rr cc : Nat) (cI : ClassId) (N : Nat) (R C : Nat → Int32) (li us ob sl go gi fr la re : Int32) (sz : Nat) (a f : Int32) (hN : N < 2 ^ 31) (hg : sr_isO N C a ob.toNatClampNeg 1 = true) (h1 : ¬ f < 0) (h2 : f < sr_wi N C a) : sy_Mi l yX_word (Cond.code yX_word bX_word 3 (some .int) :: sr_big) { frames := 8, cells := 0, slots := 0, locals := 133 } D vwC [(cI, .int)] [.ref h, .int a, .int f] (wX h rr cc cI N R C li us ob sl go gi fr la re) sz (sr_rd N C (a + 3 + sr_fi N C a + f)) (wX h rr cc cI N R C li us ob sl go gi fr la re) 0 0 := by
  refine Met.ofW (cc := bX_word) (maxL := 3) (ret := (some .int)) (by decide) rfl ?_
  intro p e s m args below meth c s₁ B hml hv
  obtain ⟨rfl, hsz, hP, hK, hD0⟩ := hv
  have hx := B.exec
  have hb := B.bytes
  have hr := B.returns
  have hbg : ∀ w ∈ sr_big, w.before _ s = true := fun w h => atoms_spec (ws := Cond.code yX_word bX_word 3 (some .int) :: sr_big) B.pre w (List.mem_cons_of_mem _ h)
  have hown : s.vm.findClass RX = some m.cls := findClass_of_methodNamed B.named
  have hlocks := B.notSynchronized
  subst hsz
  have hD := hD0.self (sz := s.heap.size)
  generalize hAe : va_A (wX h rr cc cI N R C li us ob sl go gi fr la re) s.heap.size = A at *
  have hA : ∀ q : Nat, s.heap.size ≤ q → A q := fun q h => by rw [← hAe]; exact Or.inr h
  have hS : va_S A s.heap s.heap [] := va_S.rf
  have hl := lv_entry ([.ref h, .int a, .int f]) (n := 3) (Nat.le_of_ble_eq_true rfl)
  rw [lg_entry_eq]
  generalize (lg_sl ([.ref h, .int a, .int f]) ++ List.replicate (3 - (lg_sl ([.ref h, .int a, .int f])).length) Slot.unset).toArray = ls at hl ⊢
  have hl : lv_has ls 3 [(0, .ref h), (1, .int a), (2, .int f)] := hl
  refine lv_aload_n hx hb dX_word_0 rfl (lv_at hl 0 rfl) ?_
  refine lv_aload_n hx hb dX_word_1 rfl (lv_at hl 0 rfl) ?_
  refine lv_iload_n hx hb dX_word_2 rfl (lv_at hl 1 rfl) ?_
  refine lv_iload_n hx hb dX_word_3 rfl (lv_at hl 2 rfl) ?_
  refine sy_cVi (wc := wX h rr cc cI N R C li us ob sl go gi fr la re) (wr := []) (w1 := wX h rr cc cI N R C li us ob sl go gi fr la re) (ci := 0) (q0 := 0) (As := [.int a, .int f]) (rest := [.ref h]) ⟨hx, hb, hml, hown, hbg⟩ (ct_X_wordCell_k l D h rr cc cI N R C li us ob sl go gi fr la re s.heap.size a f hN hg h1 h2) (cwV 2 hbg (bg_V bw_252 bw_253 bw_22 bw_34 bw_254) rfl rfl rfl (by decide +kernel) ⟨Nat.le_of_ble_eq_true rfl, Nat.le_of_ble_eq_true rfl⟩) hK [0] rfl hP hD hS hA [0, 1, 2] [] rfl rfl rfl rfl (by decide) rfl rfl rfl hl.1 rfl (Nat.le_of_ble_eq_true rfl) dX_word_4 ⟨Nat.le_of_ble_eq_true rfl, Nat.le_of_ble_eq_true rfl⟩ (fun H locs hP hD hS => ?_)
  have hP : va_P D vwC (wX h rr cc cI N R C li us ob sl go gi fr la re) H := hP
  have hD : va_D A (wX h rr cc cI N R C li us ob sl go gi fr la re) := hD
  refine sy_cVi (wc := wX h rr cc cI N R C li us ob sl go gi fr la re) (wr := []) (w1 := wX h rr cc cI N R C li us ob sl go gi fr la re) (ci := 0) (q0 := 0) (As := [.int (a + 3 + sr_fi N C a + f)]) (rest := []) ⟨hx, hb, hml, hown, hbg⟩ (ct_X_read l D h rr cc cI N R C li us ob sl go gi fr la re H.size (a + 3 + sr_fi N C a + f) hN) (cwV 1 hbg (bg_V bw_90 bw_91 bw_4 bw_34 bw_92) rfl rfl rfl (by decide +kernel) ⟨Nat.le_of_ble_eq_true rfl, Nat.le_of_ble_eq_true rfl⟩) hK [0] rfl hP hD hS hA [0, 1, 2] [] rfl rfl rfl rfl (by decide) rfl rfl rfl hl.1 rfl (Nat.le_of_ble_eq_true rfl) dX_word_7 ⟨Nat.le_of_ble_eq_true rfl, Nat.le_of_ble_eq_true rfl⟩ (fun H locs hP hD hS => ?_)
  have hP : va_P D vwC (wX h rr cc cI N R C li us ob sl go gi fr la re) H := hP
  have hD : va_D A (wX h rr cc cI N R C li us ob sl go gi fr la re) := hD
  refine W.widen (k := 0) (n := 0) (Nat.le_of_ble_eq_true rfl) (Nat.le_of_ble_eq_true rfl) ?_
  exact W.iret (v := sr_rd N C (a + 3 + sr_fi N C a + f)) hx hb hr (fun t ht hW => ⟨⟨sr_rd N C (a + 3 + sr_fi N C a + f), (), rfl, rfl, by rw [ht]; exact hP, va_K.moved hW.alike hK, hD⟩, hS.F ht⟩) hS.2.2 dX_word_10

set_option maxHeartbeats 4000000 in
set_option maxRecDepth 100000 in
theorem ct_X_word_b (l : Launch) (D : va_G) (h rr cc : Nat) (cI : ClassId) (N : Nat) (R C : Nat → Int32) (li us ob sl go gi fr la re : Int32) (sz : Nat) (a f : Int32) (hN : N < 2 ^ 31) (hst : l.stackTraces = false) (hg : sr_isO N C a ob.toNatClampNeg 1 = false ∨ (sr_isO N C a ob.toNatClampNeg 1 = true ∧ (f < 0 ∨ ¬ f < sr_wi N C a))) : sy_Mx l yX_word (Cond.code yX_word bX_word 3 (some .int) :: sr_big) { frames := 8, cells := 1, slots := 6, locals := 133 } D vwC [(cI, .int)] [.ref h, .int a, .int f] (wX h rr cc cI N R C li us ob sl go gi fr la re) sz sx_NSE 1 6 := by
  refine vx_ofW (cc := bX_word) (maxL := 3) (ret := (some .int)) (by decide) rfl ?_
  intro p e s m args below meth c s₁ B hml htab hv
  obtain ⟨rfl, ⟨hsz, hP, hK, hD0⟩, hG⟩ := hv
  have hx := B.exec
  have hb := B.bytes
  have hr := B.returns
  have hbg : ∀ w ∈ sr_big, w.before _ s = true := fun w h => atoms_spec (ws := Cond.code yX_word bX_word 3 (some .int) :: sr_big) B.pre w (List.mem_cons_of_mem _ h)
  have hown : s.vm.findClass RX = some m.cls := findClass_of_methodNamed B.named
  have hlocks := B.notSynchronized
  subst hsz
  have hD := hD0.self (sz := s.heap.size)
  generalize hAe : va_A (wX h rr cc cI N R C li us ob sl go gi fr la re) s.heap.size = A at *
  have hA : ∀ q : Nat, s.heap.size ≤ q → A q := fun q h => by rw [← hAe]; exact Or.inr h
  have hS : va_S A s.heap s.heap [] := va_S.rf
  have hl := lv_entry ([.ref h, .int a, .int f]) (n := 3) (Nat.le_of_ble_eq_true rfl)
  rw [lg_entry_eq]
  generalize (lg_sl ([.ref h, .int a, .int f]) ++ List.replicate (3 - (lg_sl ([.ref h, .int a, .int f])).length) Slot.unset).toArray = ls at hl ⊢
  have hl : lv_has ls 3 [(0, .ref h), (1, .int a), (2, .int f)] := hl
  refine lv_aload_n hx hb dX_word_0 rfl (lv_at hl 0 rfl) ?_
  refine lv_aload_n hx hb dX_word_1 rfl (lv_at hl 0 rfl) ?_
  refine lv_iload_n hx hb dX_word_2 rfl (lv_at hl 1 rfl) ?_
  refine lv_iload_n hx hb dX_word_3 rfl (lv_at hl 2 rfl) ?_
  refine sy_cVx (wc := wX h rr cc cI N R C li us ob sl go gi fr la re) (wr := []) (ci := 0) (q0 := 0) (As := [.int a, .int f]) (rest := [.ref h]) ⟨hx, hb, hml, hown, hbg⟩ (ct_X_wordCell_b l D h rr cc cI N R C li us ob sl go gi fr la re s.heap.size a f hN hst hg) (cwV 2 hbg (bg_V bw_252 bw_253 bw_22 bw_34 bw_254) rfl rfl rfl (by decide +kernel) ⟨Nat.le_of_ble_eq_true rfl, Nat.le_of_ble_eq_true rfl⟩) hK [0] rfl hP hD hS hA hG [0, 1, 2] [] rfl rfl rfl rfl (by decide) rfl rfl rfl hl.1 rfl (Nat.le_of_ble_eq_true rfl) dX_word_4 ⟨Nat.le_of_ble_eq_true rfl, Nat.le_of_ble_eq_true rfl⟩ (fun q ce H locs hP hD hS hcell hcv hcl => ?_)
  exact sy_outx htab hlocks hP hK hD hS hcell hcv hcl (Nat.le_of_ble_eq_true rfl) (Nat.le_of_ble_eq_true rfl)

set_option maxHeartbeats 4000000 in
set_option maxRecDepth 100000 in
theorem ct_X_put_k (l : Launch) (D : va_G) (h rr cc : Nat) (cI : ClassId) (N : Nat) (R C : Nat → Int32) (li us ob sl go gi fr la re : Int32) (sz : Nat) (a f v : Int32) (hN : N < 2 ^ 31) (hg : sr_isO N C a ob.toNatClampNeg 1 = true) (h1 : ¬ f < 0) (h2 : f < sr_wi N C a) : sy_Mi l yX_put (Cond.code yX_put bX_put 4 (some .int) :: sr_big) { frames := 8, cells := 0, slots := 0, locals := 133 } D vwC [(cI, .int)] [.ref h, .int a, .int f, .int v] (wX h rr cc cI N R C li us ob sl go gi fr la re) sz (sr_rd N C (a + 3 + sr_fi N C a + f)) (wX h rr cc cI N R (sr_wr N C (a + 3 + sr_fi N C a + f) v) li us ob sl go gi fr la re) 0 0 := by
  refine Met.ofW (cc := bX_put) (maxL := 4) (ret := (some .int)) (by decide) rfl ?_
  intro p e s m args below meth c s₁ B hml hv
  obtain ⟨rfl, hsz, hP, hK, hD0⟩ := hv
  have hx := B.exec
  have hb := B.bytes
  have hr := B.returns
  have hbg : ∀ w ∈ sr_big, w.before _ s = true := fun w h => atoms_spec (ws := Cond.code yX_put bX_put 4 (some .int) :: sr_big) B.pre w (List.mem_cons_of_mem _ h)
  have hown : s.vm.findClass RX = some m.cls := findClass_of_methodNamed B.named
  have hlocks := B.notSynchronized
  subst hsz
  have hD := hD0.self (sz := s.heap.size)
  generalize hAe : va_A (wX h rr cc cI N R C li us ob sl go gi fr la re) s.heap.size = A at *
  have hA : ∀ q : Nat, s.heap.size ≤ q → A q := fun q h => by rw [← hAe]; exact Or.inr h
  have hS : va_S A s.heap s.heap [] := va_S.rf
  have hl := lv_entry ([.ref h, .int a, .int f, .int v]) (n := 4) (Nat.le_of_ble_eq_true rfl)
  rw [lg_entry_eq]
  generalize (lg_sl ([.ref h, .int a, .int f, .int v]) ++ List.replicate (4 - (lg_sl ([.ref h, .int a, .int f, .int v])).length) Slot.unset).toArray = ls at hl ⊢
  have hl : lv_has ls 4 [(0, .ref h), (1, .int a), (2, .int f), (3, .int v)] := hl
  refine lv_aload_n hx hb dX_put_0 rfl (lv_at hl 0 rfl) ?_
  refine lv_aload_n hx hb dX_put_1 rfl (lv_at hl 0 rfl) ?_
  refine lv_iload_n hx hb dX_put_2 rfl (lv_at hl 1 rfl) ?_
  refine lv_iload_n hx hb dX_put_3 rfl (lv_at hl 2 rfl) ?_
  refine sy_cVi (wc := wX h rr cc cI N R C li us ob sl go gi fr la re) (wr := []) (w1 := wX h rr cc cI N R C li us ob sl go gi fr la re) (ci := 0) (q0 := 0) (As := [.int a, .int f]) (rest := [.ref h]) ⟨hx, hb, hml, hown, hbg⟩ (ct_X_wordCell_k l D h rr cc cI N R C li us ob sl go gi fr la re s.heap.size a f hN hg h1 h2) (cwV 2 hbg (bg_V bw_252 bw_253 bw_22 bw_34 bw_254) rfl rfl rfl (by decide +kernel) ⟨Nat.le_of_ble_eq_true rfl, Nat.le_of_ble_eq_true rfl⟩) hK [0] rfl hP hD hS hA [0, 1, 2] [] rfl rfl rfl rfl (by decide) rfl rfl rfl hl.1 rfl (Nat.le_of_ble_eq_true rfl) dX_put_4 ⟨Nat.le_of_ble_eq_true rfl, Nat.le_of_ble_eq_true rfl⟩ (fun H locs hP hD hS => ?_)
  have hP : va_P D vwC (wX h rr cc cI N R C li us ob sl go gi fr la re) H := hP
  have hD : va_D A (wX h rr cc cI N R C li us ob sl go gi fr la re) := hD
  refine lv_iload_n hx hb dX_put_7 rfl (lv_at hl 3 rfl) ?_
  refine sy_cVi (wc := wX h rr cc cI N R C li us ob sl go gi fr la re) (wr := []) (w1 := wX h rr cc cI N R (sr_wr N C (a + 3 + sr_fi N C a + f) v) li us ob sl go gi fr la re) (ci := 0) (q0 := 0) (As := [.int (a + 3 + sr_fi N C a + f), .int v]) (rest := []) ⟨hx, hb, hml, hown, hbg⟩ (ct_X_replace l D h rr cc cI N R C li us ob sl go gi fr la re H.size (a + 3 + sr_fi N C a + f) v hN) (cwV 2 hbg (bg_V bw_235 bw_236 bw_21 bw_34 bw_237) rfl rfl rfl (by decide +kernel) ⟨Nat.le_of_ble_eq_true rfl, Nat.le_of_ble_eq_true rfl⟩) hK [0] rfl hP hD hS hA [0, 1, 2] [] rfl rfl rfl rfl (by decide) rfl rfl rfl hl.1 rfl (Nat.le_of_ble_eq_true rfl) dX_put_8 ⟨Nat.le_of_ble_eq_true rfl, Nat.le_of_ble_eq_true rfl⟩ (fun H locs hP hD hS => ?_)
  have hP : va_P D vwC (wX h rr cc cI N R (sr_wr N C (a + 3 + sr_fi N C a + f) v) li us ob sl go gi fr la re) H := hP
  have hD : va_D A (wX h rr cc cI N R (sr_wr N C (a + 3 + sr_fi N C a + f) v) li us ob sl go gi fr la re) := hD
  refine W.widen (k := 0) (n := 0) (Nat.le_of_ble_eq_true rfl) (Nat.le_of_ble_eq_true rfl) ?_
  exact W.iret (v := sr_rd N C (a + 3 + sr_fi N C a + f)) hx hb hr (fun t ht hW => ⟨⟨sr_rd N C (a + 3 + sr_fi N C a + f), (), rfl, rfl, by rw [ht]; exact hP, va_K.moved hW.alike hK, hD⟩, hS.F ht⟩) hS.2.2 dX_put_11

set_option maxHeartbeats 4000000 in
set_option maxRecDepth 100000 in
theorem ct_X_put_b (l : Launch) (D : va_G) (h rr cc : Nat) (cI : ClassId) (N : Nat) (R C : Nat → Int32) (li us ob sl go gi fr la re : Int32) (sz : Nat) (a f v : Int32) (hN : N < 2 ^ 31) (hst : l.stackTraces = false) (hg : sr_isO N C a ob.toNatClampNeg 1 = false ∨ (sr_isO N C a ob.toNatClampNeg 1 = true ∧ (f < 0 ∨ ¬ f < sr_wi N C a))) : sy_Mx l yX_put (Cond.code yX_put bX_put 4 (some .int) :: sr_big) { frames := 8, cells := 1, slots := 6, locals := 133 } D vwC [(cI, .int)] [.ref h, .int a, .int f, .int v] (wX h rr cc cI N R C li us ob sl go gi fr la re) sz sx_NSE 1 6 := by
  refine vx_ofW (cc := bX_put) (maxL := 4) (ret := (some .int)) (by decide) rfl ?_
  intro p e s m args below meth c s₁ B hml htab hv
  obtain ⟨rfl, ⟨hsz, hP, hK, hD0⟩, hG⟩ := hv
  have hx := B.exec
  have hb := B.bytes
  have hr := B.returns
  have hbg : ∀ w ∈ sr_big, w.before _ s = true := fun w h => atoms_spec (ws := Cond.code yX_put bX_put 4 (some .int) :: sr_big) B.pre w (List.mem_cons_of_mem _ h)
  have hown : s.vm.findClass RX = some m.cls := findClass_of_methodNamed B.named
  have hlocks := B.notSynchronized
  subst hsz
  have hD := hD0.self (sz := s.heap.size)
  generalize hAe : va_A (wX h rr cc cI N R C li us ob sl go gi fr la re) s.heap.size = A at *
  have hA : ∀ q : Nat, s.heap.size ≤ q → A q := fun q h => by rw [← hAe]; exact Or.inr h
  have hS : va_S A s.heap s.heap [] := va_S.rf
  have hl := lv_entry ([.ref h, .int a, .int f, .int v]) (n := 4) (Nat.le_of_ble_eq_true rfl)
  rw [lg_entry_eq]
  generalize (lg_sl ([.ref h, .int a, .int f, .int v]) ++ List.replicate (4 - (lg_sl ([.ref h, .int a, .int f, .int v])).length) Slot.unset).toArray = ls at hl ⊢
  have hl : lv_has ls 4 [(0, .ref h), (1, .int a), (2, .int f), (3, .int v)] := hl
  refine lv_aload_n hx hb dX_put_0 rfl (lv_at hl 0 rfl) ?_
  refine lv_aload_n hx hb dX_put_1 rfl (lv_at hl 0 rfl) ?_
  refine lv_iload_n hx hb dX_put_2 rfl (lv_at hl 1 rfl) ?_
  refine lv_iload_n hx hb dX_put_3 rfl (lv_at hl 2 rfl) ?_
  refine sy_cVx (wc := wX h rr cc cI N R C li us ob sl go gi fr la re) (wr := []) (ci := 0) (q0 := 0) (As := [.int a, .int f]) (rest := [.ref h]) ⟨hx, hb, hml, hown, hbg⟩ (ct_X_wordCell_b l D h rr cc cI N R C li us ob sl go gi fr la re s.heap.size a f hN hst hg) (cwV 2 hbg (bg_V bw_252 bw_253 bw_22 bw_34 bw_254) rfl rfl rfl (by decide +kernel) ⟨Nat.le_of_ble_eq_true rfl, Nat.le_of_ble_eq_true rfl⟩) hK [0] rfl hP hD hS hA hG [0, 1, 2] [] rfl rfl rfl rfl (by decide) rfl rfl rfl hl.1 rfl (Nat.le_of_ble_eq_true rfl) dX_put_4 ⟨Nat.le_of_ble_eq_true rfl, Nat.le_of_ble_eq_true rfl⟩ (fun q ce H locs hP hD hS hcell hcv hcl => ?_)
  exact sy_outx htab hlocks hP hK hD hS hcell hcv hcl (Nat.le_of_ble_eq_true rfl) (Nat.le_of_ble_eq_true rfl)

set_option maxHeartbeats 4000000 in
set_option maxRecDepth 100000 in
theorem ct_X_set_k (l : Launch) (D : va_G) (h rr cc : Nat) (cI : ClassId) (N : Nat) (R C : Nat → Int32) (li us ob sl go gi fr la re : Int32) (sz : Nat) (a f b : Int32) (hN : N < 2 ^ 31) (hg : sr_isO N C a ob.toNatClampNeg 1 = true) (h1 : ¬ f < 0) (h2 : f < sr_fi N C a) (h3 : b = 0 ∨ sr_isO N C b ob.toNatClampNeg 1 = true) : sy_Mi l yX_set (Cond.code yX_set bX_set 5 (some .int) :: sr_big) { frames := 8, cells := 0, slots := 0, locals := 133 } D vwC [(cI, .int)] [.ref h, .int a, .int f, .int b] (wX h rr cc cI N R C li us ob sl go gi fr la re) sz (sr_rd N C (a + 3 + f)) (wX h rr cc cI N R (sr_wr N C (a + 3 + f) b) li us ob sl go gi fr la re) 0 0 := by
  refine Met.ofW (cc := bX_set) (maxL := 5) (ret := (some .int)) (by decide) rfl ?_
  intro p e s m args below meth c s₁ B hml hv
  obtain ⟨rfl, hsz, hP, hK, hD0⟩ := hv
  have hx := B.exec
  have hb := B.bytes
  have hr := B.returns
  have hbg : ∀ w ∈ sr_big, w.before _ s = true := fun w h => atoms_spec (ws := Cond.code yX_set bX_set 5 (some .int) :: sr_big) B.pre w (List.mem_cons_of_mem _ h)
  have hown : s.vm.findClass RX = some m.cls := findClass_of_methodNamed B.named
  have hlocks := B.notSynchronized
  subst hsz
  have hD := hD0.self (sz := s.heap.size)
  generalize hAe : va_A (wX h rr cc cI N R C li us ob sl go gi fr la re) s.heap.size = A at *
  have hA : ∀ q : Nat, s.heap.size ≤ q → A q := fun q h => by rw [← hAe]; exact Or.inr h
  have hS : va_S A s.heap s.heap [] := va_S.rf
  have hl := lv_entry ([.ref h, .int a, .int f, .int b]) (n := 5) (Nat.le_of_ble_eq_true rfl)
  rw [lg_entry_eq]
  generalize (lg_sl ([.ref h, .int a, .int f, .int b]) ++ List.replicate (5 - (lg_sl ([.ref h, .int a, .int f, .int b])).length) Slot.unset).toArray = ls at hl ⊢
  have hl : lv_has ls 5 [(0, .ref h), (1, .int a), (2, .int f), (3, .int b)] := hl
  refine lv_aload_n hx hb dX_set_0 rfl (lv_at hl 0 rfl) ?_
  refine lv_iload_n hx hb dX_set_1 rfl (lv_at hl 1 rfl) ?_
  refine lv_iload_n hx hb dX_set_2 rfl (lv_at hl 2 rfl) ?_
  refine sy_cVi (wc := wX h rr cc cI N R C li us ob sl go gi fr la re) (wr := []) (w1 := wX h rr cc cI N R C li us ob sl go gi fr la re) (ci := 0) (q0 := 0) (As := [.int a, .int f]) (rest := []) ⟨hx, hb, hml, hown, hbg⟩ (ct_X_fieldCell_k l D h rr cc cI N R C li us ob sl go gi fr la re s.heap.size a f hN hg h1 h2) (cwV 2 hbg (bg_V bw_210 bw_211 bw_17 bw_34 bw_212) rfl rfl rfl (by decide +kernel) ⟨Nat.le_of_ble_eq_true rfl, Nat.le_of_ble_eq_true rfl⟩) hK [0] rfl hP hD hS hA [0, 1, 2] [] rfl rfl rfl rfl (by decide) rfl rfl rfl hl.1 rfl (Nat.le_of_ble_eq_true rfl) dX_set_3 ⟨Nat.le_of_ble_eq_true rfl, Nat.le_of_ble_eq_true rfl⟩ (fun H locs hP hD hS => ?_)
  have hP : va_P D vwC (wX h rr cc cI N R C li us ob sl go gi fr la re) H := hP
  have hD : va_D A (wX h rr cc cI N R C li us ob sl go gi fr la re) := hD
  refine lv_istore (lv' := [(4, .int (a + 3 + f)), (0, .ref h), (1, .int a), (2, .int f), (3, .int b)]) hx hb dX_set_6 hl (by decide) rfl (fun ls hl => ?_)
  refine lv_aload_n hx hb dX_set_8 rfl (lv_at hl 1 rfl) ?_
  refine lv_iload_n hx hb dX_set_9 rfl (lv_at hl 4 rfl) ?_
  refine sy_cVv (wc := wX h rr cc cI N R C li us ob sl go gi fr la re) (wr := []) (w1 := wX h rr cc cI N R C li us ob sl go gi fr la re) (ci := 0) (q0 := 0) (As := [.int b]) (rest := []) ⟨hx, hb, hml, hown, hbg⟩ (ct_X_needObjectOrNothing_k l D h rr cc cI N R C li us ob sl go gi fr la re H.size b hN h3) (cwV 1 hbg (bg_V bw_232 bw_233 bw_20 bw_34 bw_234) rfl rfl rfl (by decide +kernel) ⟨Nat.le_of_ble_eq_true rfl, Nat.le_of_ble_eq_true rfl⟩) hK [0] rfl hP hD hS hA [0, 1, 2] [] rfl rfl rfl rfl (by decide) rfl rfl rfl hl.1 rfl (Nat.le_of_ble_eq_true rfl) dX_set_10 ⟨Nat.le_of_ble_eq_true rfl, Nat.le_of_ble_eq_true rfl⟩ (fun H locs hP hD hS => ?_)
  have hP : va_P D vwC (wX h rr cc cI N R C li us ob sl go gi fr la re) H := hP
  have hD : va_D A (wX h rr cc cI N R C li us ob sl go gi fr la re) := hD
  refine lv_aload_n hx hb dX_set_13 rfl (lv_at hl 1 rfl) ?_
  refine lv_iload hx hb dX_set_14 (lv_at hl 0 rfl) ?_
  refine lv_iload_n hx hb dX_set_16 rfl (lv_at hl 4 rfl) ?_
  refine sy_cVi (wc := wX h rr cc cI N R C li us ob sl go gi fr la re) (wr := []) (w1 := wX h rr cc cI N R (sr_wr N C (a + 3 + f) b) li us ob sl go gi fr la re) (ci := 0) (q0 := 0) (As := [.int (a + 3 + f), .int b]) (rest := []) ⟨hx, hb, hml, hown, hbg⟩ (ct_X_replace l D h rr cc cI N R C li us ob sl go gi fr la re H.size (a + 3 + f) b hN) (cwV 2 hbg (bg_V bw_235 bw_236 bw_21 bw_34 bw_237) rfl rfl rfl (by decide +kernel) ⟨Nat.le_of_ble_eq_true rfl, Nat.le_of_ble_eq_true rfl⟩) hK [0] rfl hP hD hS hA [0, 1, 2] [] rfl rfl rfl rfl (by decide) rfl rfl rfl hl.1 rfl (Nat.le_of_ble_eq_true rfl) dX_set_17 ⟨Nat.le_of_ble_eq_true rfl, Nat.le_of_ble_eq_true rfl⟩ (fun H locs hP hD hS => ?_)
  have hP : va_P D vwC (wX h rr cc cI N R (sr_wr N C (a + 3 + f) b) li us ob sl go gi fr la re) H := hP
  have hD : va_D A (wX h rr cc cI N R (sr_wr N C (a + 3 + f) b) li us ob sl go gi fr la re) := hD
  refine W.widen (k := 0) (n := 0) (Nat.le_of_ble_eq_true rfl) (Nat.le_of_ble_eq_true rfl) ?_
  exact W.iret (v := sr_rd N C (a + 3 + f)) hx hb hr (fun t ht hW => ⟨⟨sr_rd N C (a + 3 + f), (), rfl, rfl, by rw [ht]; exact hP, va_K.moved hW.alike hK, hD⟩, hS.F ht⟩) hS.2.2 dX_set_20

set_option maxHeartbeats 4000000 in
set_option maxRecDepth 100000 in
theorem ct_X_set_b1 (l : Launch) (D : va_G) (h rr cc : Nat) (cI : ClassId) (N : Nat) (R C : Nat → Int32) (li us ob sl go gi fr la re : Int32) (sz : Nat) (a f b : Int32) (hN : N < 2 ^ 31) (hst : l.stackTraces = false) (hg : sr_isO N C a ob.toNatClampNeg 1 = false ∨ (sr_isO N C a ob.toNatClampNeg 1 = true ∧ (f < 0 ∨ ¬ f < sr_fi N C a))) : sy_Mx l yX_set (Cond.code yX_set bX_set 5 (some .int) :: sr_big) { frames := 8, cells := 1, slots := 6, locals := 133 } D vwC [(cI, .int)] [.ref h, .int a, .int f, .int b] (wX h rr cc cI N R C li us ob sl go gi fr la re) sz sx_NSE 1 6 := by
  refine vx_ofW (cc := bX_set) (maxL := 5) (ret := (some .int)) (by decide) rfl ?_
  intro p e s m args below meth c s₁ B hml htab hv
  obtain ⟨rfl, ⟨hsz, hP, hK, hD0⟩, hG⟩ := hv
  have hx := B.exec
  have hb := B.bytes
  have hr := B.returns
  have hbg : ∀ w ∈ sr_big, w.before _ s = true := fun w h => atoms_spec (ws := Cond.code yX_set bX_set 5 (some .int) :: sr_big) B.pre w (List.mem_cons_of_mem _ h)
  have hown : s.vm.findClass RX = some m.cls := findClass_of_methodNamed B.named
  have hlocks := B.notSynchronized
  subst hsz
  have hD := hD0.self (sz := s.heap.size)
  generalize hAe : va_A (wX h rr cc cI N R C li us ob sl go gi fr la re) s.heap.size = A at *
  have hA : ∀ q : Nat, s.heap.size ≤ q → A q := fun q h => by rw [← hAe]; exact Or.inr h
  have hS : va_S A s.heap s.heap [] := va_S.rf
  have hl := lv_entry ([.ref h, .int a, .int f, .int b]) (n := 5) (Nat.le_of_ble_eq_true rfl)
  rw [lg_entry_eq]
  generalize (lg_sl ([.ref h, .int a, .int f, .int b]) ++ List.replicate (5 - (lg_sl ([.ref h, .int a, .int f, .int b])).length) Slot.unset).toArray = ls at hl ⊢
  have hl : lv_has ls 5 [(0, .ref h), (1, .int a), (2, .int f), (3, .int b)] := hl
  refine lv_aload_n hx hb dX_set_0 rfl (lv_at hl 0 rfl) ?_
  refine lv_iload_n hx hb dX_set_1 rfl (lv_at hl 1 rfl) ?_
  refine lv_iload_n hx hb dX_set_2 rfl (lv_at hl 2 rfl) ?_
  refine sy_cVx (wc := wX h rr cc cI N R C li us ob sl go gi fr la re) (wr := []) (ci := 0) (q0 := 0) (As := [.int a, .int f]) (rest := []) ⟨hx, hb, hml, hown, hbg⟩ (ct_X_fieldCell_b l D h rr cc cI N R C li us ob sl go gi fr la re s.heap.size a f hN hst hg) (cwV 2 hbg (bg_V bw_210 bw_211 bw_17 bw_34 bw_212) rfl rfl rfl (by decide +kernel) ⟨Nat.le_of_ble_eq_true rfl, Nat.le_of_ble_eq_true rfl⟩) hK [0] rfl hP hD hS hA hG [0, 1, 2] [] rfl rfl rfl rfl (by decide) rfl rfl rfl hl.1 rfl (Nat.le_of_ble_eq_true rfl) dX_set_3 ⟨Nat.le_of_ble_eq_true rfl, Nat.le_of_ble_eq_true rfl⟩ (fun q ce H locs hP hD hS hcell hcv hcl => ?_)
  exact sy_outx htab hlocks hP hK hD hS hcell hcv hcl (Nat.le_of_ble_eq_true rfl) (Nat.le_of_ble_eq_true rfl)

set_option maxHeartbeats 4000000 in
set_option maxRecDepth 100000 in
theorem ct_X_set_b2 (l : Launch) (D : va_G) (h rr cc : Nat) (cI : ClassId) (N : Nat) (R C : Nat → Int32) (li us ob sl go gi fr la re : Int32) (sz : Nat) (a f b : Int32) (hN : N < 2 ^ 31) (hst : l.stackTraces = false) (hg : sr_isO N C a ob.toNatClampNeg 1 = true) (h1 : ¬ f < 0) (h2 : f < sr_fi N C a) (h0 : ¬ b = 0) (h3 : sr_isO N C b ob.toNatClampNeg 1 = false) : sy_Mx l yX_set (Cond.code yX_set bX_set 5 (some .int) :: sr_big) { frames := 8, cells := 1, slots := 6, locals := 133 } D vwC [(cI, .int)] [.ref h, .int a, .int f, .int b] (wX h rr cc cI N R C li us ob sl go gi fr la re) sz sx_NSE 1 6 := by
  refine vx_ofW (cc := bX_set) (maxL := 5) (ret := (some .int)) (by decide) rfl ?_
  intro p e s m args below meth c s₁ B hml htab hv
  obtain ⟨rfl, ⟨hsz, hP, hK, hD0⟩, hG⟩ := hv
  have hx := B.exec
  have hb := B.bytes
  have hr := B.returns
  have hbg : ∀ w ∈ sr_big, w.before _ s = true := fun w h => atoms_spec (ws := Cond.code yX_set bX_set 5 (some .int) :: sr_big) B.pre w (List.mem_cons_of_mem _ h)
  have hown : s.vm.findClass RX = some m.cls := findClass_of_methodNamed B.named
  have hlocks := B.notSynchronized
  subst hsz
  have hD := hD0.self (sz := s.heap.size)
  generalize hAe : va_A (wX h rr cc cI N R C li us ob sl go gi fr la re) s.heap.size = A at *
  have hA : ∀ q : Nat, s.heap.size ≤ q → A q := fun q h => by rw [← hAe]; exact Or.inr h
  have hS : va_S A s.heap s.heap [] := va_S.rf
  have hl := lv_entry ([.ref h, .int a, .int f, .int b]) (n := 5) (Nat.le_of_ble_eq_true rfl)
  rw [lg_entry_eq]
  generalize (lg_sl ([.ref h, .int a, .int f, .int b]) ++ List.replicate (5 - (lg_sl ([.ref h, .int a, .int f, .int b])).length) Slot.unset).toArray = ls at hl ⊢
  have hl : lv_has ls 5 [(0, .ref h), (1, .int a), (2, .int f), (3, .int b)] := hl
  refine lv_aload_n hx hb dX_set_0 rfl (lv_at hl 0 rfl) ?_
  refine lv_iload_n hx hb dX_set_1 rfl (lv_at hl 1 rfl) ?_
  refine lv_iload_n hx hb dX_set_2 rfl (lv_at hl 2 rfl) ?_
  refine sy_cVi (wc := wX h rr cc cI N R C li us ob sl go gi fr la re) (wr := []) (w1 := wX h rr cc cI N R C li us ob sl go gi fr la re) (ci := 0) (q0 := 0) (As := [.int a, .int f]) (rest := []) ⟨hx, hb, hml, hown, hbg⟩ (ct_X_fieldCell_k l D h rr cc cI N R C li us ob sl go gi fr la re s.heap.size a f hN hg h1 h2) (cwV 2 hbg (bg_V bw_210 bw_211 bw_17 bw_34 bw_212) rfl rfl rfl (by decide +kernel) ⟨Nat.le_of_ble_eq_true rfl, Nat.le_of_ble_eq_true rfl⟩) hK [0] rfl hP hD hS hA [0, 1, 2] [] rfl rfl rfl rfl (by decide) rfl rfl rfl hl.1 rfl (Nat.le_of_ble_eq_true rfl) dX_set_3 ⟨Nat.le_of_ble_eq_true rfl, Nat.le_of_ble_eq_true rfl⟩ (fun H locs hP hD hS => ?_)
  have hP : va_P D vwC (wX h rr cc cI N R C li us ob sl go gi fr la re) H := hP
  have hD : va_D A (wX h rr cc cI N R C li us ob sl go gi fr la re) := hD
  refine lv_istore (lv' := [(4, .int (a + 3 + f)), (0, .ref h), (1, .int a), (2, .int f), (3, .int b)]) hx hb dX_set_6 hl (by decide) rfl (fun ls hl => ?_)
  refine lv_aload_n hx hb dX_set_8 rfl (lv_at hl 1 rfl) ?_
  refine lv_iload_n hx hb dX_set_9 rfl (lv_at hl 4 rfl) ?_
  refine sy_cVx (wc := wX h rr cc cI N R C li us ob sl go gi fr la re) (wr := []) (ci := 0) (q0 := 0) (As := [.int b]) (rest := []) ⟨hx, hb, hml, hown, hbg⟩ (ct_X_needObjectOrNothing_b l D h rr cc cI N R C li us ob sl go gi fr la re H.size b hN hst h0 h3) (cwV 1 hbg (bg_V bw_232 bw_233 bw_20 bw_34 bw_234) rfl rfl rfl (by decide +kernel) ⟨Nat.le_of_ble_eq_true rfl, Nat.le_of_ble_eq_true rfl⟩) hK [0] rfl hP hD hS hA hG [0, 1, 2] [] rfl rfl rfl rfl (by decide) rfl rfl rfl hl.1 rfl (Nat.le_of_ble_eq_true rfl) dX_set_10 ⟨Nat.le_of_ble_eq_true rfl, Nat.le_of_ble_eq_true rfl⟩ (fun q ce H locs hP hD hS hcell hcv hcl => ?_)
  exact sy_outx htab hlocks hP hK hD hS hcell hcv hcl (Nat.le_of_ble_eq_true rfl) (Nat.le_of_ble_eq_true rfl)

theorem sr_vin0 {x : Int32} (h1 : ¬ x < 0) (h2 : x < nI 16) : vp_in x 16 := by
  have e0 : (0 : Int32).toInt = 0 := by decide
  rw [vp_in_iff]
  rw [Int32.lt_iff_toInt_lt, e0] at h1
  rw [Int32.lt_iff_toInt_lt, nI_toInt (by omega)] at h2
  omega

set_option maxHeartbeats 4000000 in
set_option maxRecDepth 100000 in
theorem ct_X_rooted_k (l : Launch) (D : va_G) (h rr cc : Nat) (cI : ClassId) (N : Nat) (R C : Nat → Int32) (li us ob sl go gi fr la re : Int32) (sz : Nat) (x : Int32) (hN : N < 2 ^ 31) (h1 : ¬ x < 0) (h2 : x < nI 16) : sy_Mi l yX_rooted (Cond.code yX_rooted bX_rooted 2 (some .int) :: sr_big) { frames := 7, cells := 0, slots := 0, locals := 111 } D vwC [(cI, .int)] [.ref h, .int x] (wX h rr cc cI N R C li us ob sl go gi fr la re) sz (R x.toNatClampNeg) (wX h rr cc cI N R C li us ob sl go gi fr la re) 0 0 := by
  refine Met.ofW (cc := bX_rooted) (maxL := 2) (ret := (some .int)) (by decide) rfl ?_
  intro p e s m args below meth c s₁ B hml hv
  obtain ⟨rfl, hsz, hP, hK, hD0⟩ := hv
  have hx := B.exec
  have hb := B.bytes
  have hr := B.returns
  have hbg : ∀ w ∈ sr_big, w.before _ s = true := fun w h => atoms_spec (ws := Cond.code yX_rooted bX_rooted 2 (some .int) :: sr_big) B.pre w (List.mem_cons_of_mem _ h)
  have hown : s.vm.findClass RX = some m.cls := findClass_of_methodNamed B.named
  have hlocks := B.notSynchronized
  subst hsz
  have hD := hD0.self (sz := s.heap.size)
  generalize hAe : va_A (wX h rr cc cI N R C li us ob sl go gi fr la re) s.heap.size = A at *
  have hA : ∀ q : Nat, s.heap.size ≤ q → A q := fun q h => by rw [← hAe]; exact Or.inr h
  have hS : va_S A s.heap s.heap [] := va_S.rf
  have hl := lv_entry ([.ref h, .int x]) (n := 2) (Nat.le_of_ble_eq_true rfl)
  rw [lg_entry_eq]
  generalize (lg_sl ([.ref h, .int x]) ++ List.replicate (2 - (lg_sl ([.ref h, .int x])).length) Slot.unset).toArray = ls at hl ⊢
  have hl : lv_has ls 2 [(0, .ref h), (1, .int x)] := hl
  refine lv_aload_n hx hb dX_rooted_0 rfl (lv_at hl 0 rfl) ?_
  refine lv_iload_n hx hb dX_rooted_1 rfl (lv_at hl 1 rfl) ?_
  refine sy_cVv (wc := wX h rr cc cI N R C li us ob sl go gi fr la re) (wr := []) (w1 := wX h rr cc cI N R C li us ob sl go gi fr la re) (ci := 0) (q0 := 0) (As := [.int x]) (rest := []) ⟨hx, hb, hml, hown, hbg⟩ (ct_X_needRoot_k l D h rr cc cI N R C li us ob sl go gi fr la re s.heap.size x hN h1 h2) (cwV 1 hbg (bg_V bw_272 bw_273 bw_24 bw_34 bw_274) rfl rfl rfl (by decide +kernel) ⟨Nat.le_of_ble_eq_true rfl, Nat.le_of_ble_eq_true rfl⟩) hK [0] rfl hP hD hS hA [0, 1, 2] [] rfl rfl rfl rfl (by decide) rfl rfl rfl hl.1 rfl (Nat.le_of_ble_eq_true rfl) dX_rooted_2 ⟨Nat.le_of_ble_eq_true rfl, Nat.le_of_ble_eq_true rfl⟩ (fun H locs hP hD hS => ?_)
  have hP : va_P D vwC (wX h rr cc cI N R C li us ob sl go gi fr la re) H := hP
  have hD : va_D A (wX h rr cc cI N R C li us ob sl go gi fr la re) := hD
  refine lv_aload_n hx hb dX_rooted_5 rfl (lv_at hl 0 rfl) ?_
  refine va_get (D := D) (ci := 0) (v := .ref rr) (C := RX) (T := TX) (N := 11) hx hb hbg bg_X hown hK hP 0 rfl rfl 0 (by decide) (hbg _ bw_51) (fun _ h9 => h9) rfl dX_rooted_6 ?_
  refine lv_iload_n hx hb dX_rooted_9 rfl (lv_at hl 1 rfl) ?_
  refine va_iald hx hb hK hP 1 0 rfl rfl (sr_vin0 h1 h2) dX_rooted_10 ?_
  refine W.widen (k := 0) (n := 0) (Nat.le_of_ble_eq_true rfl) (Nat.le_of_ble_eq_true rfl) ?_
  exact W.iret (v := R x.toNatClampNeg) hx hb hr (fun t ht hW => ⟨⟨R x.toNatClampNeg, (), rfl, rfl, by rw [ht]; exact hP, va_K.moved hW.alike hK, hD⟩, hS.F ht⟩) hS.2.2 dX_rooted_11

set_option maxHeartbeats 4000000 in
set_option maxRecDepth 100000 in
theorem ct_X_rooted_b (l : Launch) (D : va_G) (h rr cc : Nat) (cI : ClassId) (N : Nat) (R C : Nat → Int32) (li us ob sl go gi fr la re : Int32) (sz : Nat) (x : Int32) (hN : N < 2 ^ 31) (hst : l.stackTraces = false) (hg : x < 0 ∨ ¬ x < nI 16) : sy_Mx l yX_rooted (Cond.code yX_rooted bX_rooted 2 (some .int) :: sr_big) { frames := 7, cells := 1, slots := 6, locals := 111 } D vwC [(cI, .int)] [.ref h, .int x] (wX h rr cc cI N R C li us ob sl go gi fr la re) sz sx_NSE 1 6 := by
  refine vx_ofW (cc := bX_rooted) (maxL := 2) (ret := (some .int)) (by decide) rfl ?_
  intro p e s m args below meth c s₁ B hml htab hv
  obtain ⟨rfl, ⟨hsz, hP, hK, hD0⟩, hG⟩ := hv
  have hx := B.exec
  have hb := B.bytes
  have hr := B.returns
  have hbg : ∀ w ∈ sr_big, w.before _ s = true := fun w h => atoms_spec (ws := Cond.code yX_rooted bX_rooted 2 (some .int) :: sr_big) B.pre w (List.mem_cons_of_mem _ h)
  have hown : s.vm.findClass RX = some m.cls := findClass_of_methodNamed B.named
  have hlocks := B.notSynchronized
  subst hsz
  have hD := hD0.self (sz := s.heap.size)
  generalize hAe : va_A (wX h rr cc cI N R C li us ob sl go gi fr la re) s.heap.size = A at *
  have hA : ∀ q : Nat, s.heap.size ≤ q → A q := fun q h => by rw [← hAe]; exact Or.inr h
  have hS : va_S A s.heap s.heap [] := va_S.rf
  have hl := lv_entry ([.ref h, .int x]) (n := 2) (Nat.le_of_ble_eq_true rfl)
  rw [lg_entry_eq]
  generalize (lg_sl ([.ref h, .int x]) ++ List.replicate (2 - (lg_sl ([.ref h, .int x])).length) Slot.unset).toArray = ls at hl ⊢
  have hl : lv_has ls 2 [(0, .ref h), (1, .int x)] := hl
  refine lv_aload_n hx hb dX_rooted_0 rfl (lv_at hl 0 rfl) ?_
  refine lv_iload_n hx hb dX_rooted_1 rfl (lv_at hl 1 rfl) ?_
  refine sy_cVx (wc := wX h rr cc cI N R C li us ob sl go gi fr la re) (wr := []) (ci := 0) (q0 := 0) (As := [.int x]) (rest := []) ⟨hx, hb, hml, hown, hbg⟩ (ct_X_needRoot_b l D h rr cc cI N R C li us ob sl go gi fr la re s.heap.size x hN hst hg) (cwV 1 hbg (bg_V bw_272 bw_273 bw_24 bw_34 bw_274) rfl rfl rfl (by decide +kernel) ⟨Nat.le_of_ble_eq_true rfl, Nat.le_of_ble_eq_true rfl⟩) hK [0] rfl hP hD hS hA hG [0, 1, 2] [] rfl rfl rfl rfl (by decide) rfl rfl rfl hl.1 rfl (Nat.le_of_ble_eq_true rfl) dX_rooted_2 ⟨Nat.le_of_ble_eq_true rfl, Nat.le_of_ble_eq_true rfl⟩ (fun q ce H locs hP hD hS hcell hcv hcl => ?_)
  exact sy_outx htab hlocks hP hK hD hS hcell hcv hcl (Nat.le_of_ble_eq_true rfl) (Nat.le_of_ble_eq_true rfl)

set_option maxHeartbeats 4000000 in
set_option maxRecDepth 100000 in
theorem ct_X_root_k (l : Launch) (D : va_G) (h rr cc : Nat) (cI : ClassId) (N : Nat) (R C : Nat → Int32) (li us ob sl go gi fr la re : Int32) (sz : Nat) (x a : Int32) (hN : N < 2 ^ 31) (h1 : ¬ x < 0) (h2 : x < nI 16) (h3 : a = 0 ∨ sr_isO N C a ob.toNatClampNeg 1 = true) : sy_Mi l yX_root (Cond.code yX_root bX_root 4 (some .int) :: sr_big) { frames := 8, cells := 0, slots := 0, locals := 132 } D vwC [(cI, .int)] [.ref h, .int x, .int a] (wX h rr cc cI N R C li us ob sl go gi fr la re) sz (R x.toNatClampNeg) (wX h rr cc cI N (upd R x.toNatClampNeg a) C li us ob sl go gi fr la re) 0 0 := by
  refine Met.ofW (cc := bX_root) (maxL := 4) (ret := (some .int)) (by decide) rfl ?_
  intro p e s m args below meth c s₁ B hml hv
  obtain ⟨rfl, hsz, hP, hK, hD0⟩ := hv
  have hx := B.exec
  have hb := B.bytes
  have hr := B.returns
  have hbg : ∀ w ∈ sr_big, w.before _ s = true := fun w h => atoms_spec (ws := Cond.code yX_root bX_root 4 (some .int) :: sr_big) B.pre w (List.mem_cons_of_mem _ h)
  have hown : s.vm.findClass RX = some m.cls := findClass_of_methodNamed B.named
  have hlocks := B.notSynchronized
  subst hsz
  have hD := hD0.self (sz := s.heap.size)
  generalize hAe : va_A (wX h rr cc cI N R C li us ob sl go gi fr la re) s.heap.size = A at *
  have hA : ∀ q : Nat, s.heap.size ≤ q → A q := fun q h => by rw [← hAe]; exact Or.inr h
  have hS : va_S A s.heap s.heap [] := va_S.rf
  have hl := lv_entry ([.ref h, .int x, .int a]) (n := 4) (Nat.le_of_ble_eq_true rfl)
  rw [lg_entry_eq]
  generalize (lg_sl ([.ref h, .int x, .int a]) ++ List.replicate (4 - (lg_sl ([.ref h, .int x, .int a])).length) Slot.unset).toArray = ls at hl ⊢
  have hl : lv_has ls 4 [(0, .ref h), (1, .int x), (2, .int a)] := hl
  refine lv_aload_n hx hb dX_root_0 rfl (lv_at hl 0 rfl) ?_
  refine lv_iload_n hx hb dX_root_1 rfl (lv_at hl 1 rfl) ?_
  refine sy_cVv (wc := wX h rr cc cI N R C li us ob sl go gi fr la re) (wr := []) (w1 := wX h rr cc cI N R C li us ob sl go gi fr la re) (ci := 0) (q0 := 0) (As := [.int x]) (rest := []) ⟨hx, hb, hml, hown, hbg⟩ (ct_X_needRoot_k l D h rr cc cI N R C li us ob sl go gi fr la re s.heap.size x hN h1 h2) (cwV 1 hbg (bg_V bw_272 bw_273 bw_24 bw_34 bw_274) rfl rfl rfl (by decide +kernel) ⟨Nat.le_of_ble_eq_true rfl, Nat.le_of_ble_eq_true rfl⟩) hK [0] rfl hP hD hS hA [0, 1, 2] [] rfl rfl rfl rfl (by decide) rfl rfl rfl hl.1 rfl (Nat.le_of_ble_eq_true rfl) dX_root_2 ⟨Nat.le_of_ble_eq_true rfl, Nat.le_of_ble_eq_true rfl⟩ (fun H locs hP hD hS => ?_)
  have hP : va_P D vwC (wX h rr cc cI N R C li us ob sl go gi fr la re) H := hP
  have hD : va_D A (wX h rr cc cI N R C li us ob sl go gi fr la re) := hD
  refine lv_aload_n hx hb dX_root_5 rfl (lv_at hl 0 rfl) ?_
  refine lv_iload_n hx hb dX_root_6 rfl (lv_at hl 2 rfl) ?_
  refine sy_cVv (wc := wX h rr cc cI N R C li us ob sl go gi fr la re) (wr := []) (w1 := wX h rr cc cI N R C li us ob sl go gi fr la re) (ci := 0) (q0 := 0) (As := [.int a]) (rest := []) ⟨hx, hb, hml, hown, hbg⟩ (ct_X_needObjectOrNothing_k l D h rr cc cI N R C li us ob sl go gi fr la re H.size a hN h3) (cwV 1 hbg (bg_V bw_232 bw_233 bw_20 bw_34 bw_234) rfl rfl rfl (by decide +kernel) ⟨Nat.le_of_ble_eq_true rfl, Nat.le_of_ble_eq_true rfl⟩) hK [0] rfl hP hD hS hA [0, 1, 2] [] rfl rfl rfl rfl (by decide) rfl rfl rfl hl.1 rfl (Nat.le_of_ble_eq_true rfl) dX_root_7 ⟨Nat.le_of_ble_eq_true rfl, Nat.le_of_ble_eq_true rfl⟩ (fun H locs hP hD hS => ?_)
  have hP : va_P D vwC (wX h rr cc cI N R C li us ob sl go gi fr la re) H := hP
  have hD : va_D A (wX h rr cc cI N R C li us ob sl go gi fr la re) := hD
  refine lv_aload_n hx hb dX_root_10 rfl (lv_at hl 0 rfl) ?_
  refine va_get (D := D) (ci := 0) (v := .ref rr) (C := RX) (T := TX) (N := 11) hx hb hbg bg_X hown hK hP 0 rfl rfl 0 (by decide) (hbg _ bw_51) (fun _ h9 => h9) rfl dX_root_11 ?_
  refine lv_iload_n hx hb dX_root_14 rfl (lv_at hl 1 rfl) ?_
  refine va_iald hx hb hK hP 1 0 rfl rfl (sr_vin0 h1 h2) dX_root_15 ?_
  refine lv_istore_n (lv' := [(3, .int (R x.toNatClampNeg)), (0, .ref h), (1, .int x), (2, .int a)]) hx hb dX_root_16 rfl hl (by decide) rfl (fun ls hl => ?_)
  refine lv_aload_n hx hb dX_root_17 rfl (lv_at hl 1 rfl) ?_
  refine va_get (D := D) (ci := 0) (v := .ref rr) (C := RX) (T := TX) (N := 11) hx hb hbg bg_X hown hK hP 0 rfl rfl 0 (by decide) (hbg _ bw_51) (fun _ h9 => h9) rfl dX_root_18 ?_
  refine lv_iload_n hx hb dX_root_21 rfl (lv_at hl 2 rfl) ?_
  refine lv_iload_n hx hb dX_root_22 rfl (lv_at hl 3 rfl) ?_
  refine va_iast hx hb hK hP hD hS 1 0 rfl rfl (sr_vin0 h1 h2) dX_root_23 (fun H locs hP hD hS => ?_)
  have hP : va_P D vwC (wX h rr cc cI N (upd R x.toNatClampNeg a) C li us ob sl go gi fr la re) H := hP
  have hD : va_D A (wX h rr cc cI N (upd R x.toNatClampNeg a) C li us ob sl go gi fr la re) := hD
  refine lv_iload_n hx hb dX_root_24 rfl (lv_at hl 0 rfl) ?_
  refine W.widen (k := 0) (n := 0) (Nat.le_of_ble_eq_true rfl) (Nat.le_of_ble_eq_true rfl) ?_
  exact W.iret (v := R x.toNatClampNeg) hx hb hr (fun t ht hW => ⟨⟨R x.toNatClampNeg, (), rfl, rfl, by rw [ht]; exact hP, va_K.moved hW.alike hK, hD⟩, hS.F ht⟩) hS.2.2 dX_root_25

set_option maxHeartbeats 4000000 in
set_option maxRecDepth 100000 in
theorem ct_X_root_b1 (l : Launch) (D : va_G) (h rr cc : Nat) (cI : ClassId) (N : Nat) (R C : Nat → Int32) (li us ob sl go gi fr la re : Int32) (sz : Nat) (x a : Int32) (hN : N < 2 ^ 31) (hst : l.stackTraces = false) (hg : x < 0 ∨ ¬ x < nI 16) : sy_Mx l yX_root (Cond.code yX_root bX_root 4 (some .int) :: sr_big) { frames := 8, cells := 1, slots := 6, locals := 132 } D vwC [(cI, .int)] [.ref h, .int x, .int a] (wX h rr cc cI N R C li us ob sl go gi fr la re) sz sx_NSE 1 6 := by
  refine vx_ofW (cc := bX_root) (maxL := 4) (ret := (some .int)) (by decide) rfl ?_
  intro p e s m args below meth c s₁ B hml htab hv
  obtain ⟨rfl, ⟨hsz, hP, hK, hD0⟩, hG⟩ := hv
  have hx := B.exec
  have hb := B.bytes
  have hr := B.returns
  have hbg : ∀ w ∈ sr_big, w.before _ s = true := fun w h => atoms_spec (ws := Cond.code yX_root bX_root 4 (some .int) :: sr_big) B.pre w (List.mem_cons_of_mem _ h)
  have hown : s.vm.findClass RX = some m.cls := findClass_of_methodNamed B.named
  have hlocks := B.notSynchronized
  subst hsz
  have hD := hD0.self (sz := s.heap.size)
  generalize hAe : va_A (wX h rr cc cI N R C li us ob sl go gi fr la re) s.heap.size = A at *
  have hA : ∀ q : Nat, s.heap.size ≤ q → A q := fun q h => by rw [← hAe]; exact Or.inr h
  have hS : va_S A s.heap s.heap [] := va_S.rf
  have hl := lv_entry ([.ref h, .int x, .int a]) (n := 4) (Nat.le_of_ble_eq_true rfl)
  rw [lg_entry_eq]
  generalize (lg_sl ([.ref h, .int x, .int a]) ++ List.replicate (4 - (lg_sl ([.ref h, .int x, .int a])).length) Slot.unset).toArray = ls at hl ⊢
  have hl : lv_has ls 4 [(0, .ref h), (1, .int x), (2, .int a)] := hl
  refine lv_aload_n hx hb dX_root_0 rfl (lv_at hl 0 rfl) ?_
  refine lv_iload_n hx hb dX_root_1 rfl (lv_at hl 1 rfl) ?_
  refine sy_cVx (wc := wX h rr cc cI N R C li us ob sl go gi fr la re) (wr := []) (ci := 0) (q0 := 0) (As := [.int x]) (rest := []) ⟨hx, hb, hml, hown, hbg⟩ (ct_X_needRoot_b l D h rr cc cI N R C li us ob sl go gi fr la re s.heap.size x hN hst hg) (cwV 1 hbg (bg_V bw_272 bw_273 bw_24 bw_34 bw_274) rfl rfl rfl (by decide +kernel) ⟨Nat.le_of_ble_eq_true rfl, Nat.le_of_ble_eq_true rfl⟩) hK [0] rfl hP hD hS hA hG [0, 1, 2] [] rfl rfl rfl rfl (by decide) rfl rfl rfl hl.1 rfl (Nat.le_of_ble_eq_true rfl) dX_root_2 ⟨Nat.le_of_ble_eq_true rfl, Nat.le_of_ble_eq_true rfl⟩ (fun q ce H locs hP hD hS hcell hcv hcl => ?_)
  exact sy_outx htab hlocks hP hK hD hS hcell hcv hcl (Nat.le_of_ble_eq_true rfl) (Nat.le_of_ble_eq_true rfl)

set_option maxHeartbeats 4000000 in
set_option maxRecDepth 100000 in
theorem ct_X_root_b2 (l : Launch) (D : va_G) (h rr cc : Nat) (cI : ClassId) (N : Nat) (R C : Nat → Int32) (li us ob sl go gi fr la re : Int32) (sz : Nat) (x a : Int32) (hN : N < 2 ^ 31) (hst : l.stackTraces = false) (h1 : ¬ x < 0) (h2 : x < nI 16) (h0 : ¬ a = 0) (h3 : sr_isO N C a ob.toNatClampNeg 1 = false) : sy_Mx l yX_root (Cond.code yX_root bX_root 4 (some .int) :: sr_big) { frames := 8, cells := 1, slots := 6, locals := 132 } D vwC [(cI, .int)] [.ref h, .int x, .int a] (wX h rr cc cI N R C li us ob sl go gi fr la re) sz sx_NSE 1 6 := by
  refine vx_ofW (cc := bX_root) (maxL := 4) (ret := (some .int)) (by decide) rfl ?_
  intro p e s m args below meth c s₁ B hml htab hv
  obtain ⟨rfl, ⟨hsz, hP, hK, hD0⟩, hG⟩ := hv
  have hx := B.exec
  have hb := B.bytes
  have hr := B.returns
  have hbg : ∀ w ∈ sr_big, w.before _ s = true := fun w h => atoms_spec (ws := Cond.code yX_root bX_root 4 (some .int) :: sr_big) B.pre w (List.mem_cons_of_mem _ h)
  have hown : s.vm.findClass RX = some m.cls := findClass_of_methodNamed B.named
  have hlocks := B.notSynchronized
  subst hsz
  have hD := hD0.self (sz := s.heap.size)
  generalize hAe : va_A (wX h rr cc cI N R C li us ob sl go gi fr la re) s.heap.size = A at *
  have hA : ∀ q : Nat, s.heap.size ≤ q → A q := fun q h => by rw [← hAe]; exact Or.inr h
  have hS : va_S A s.heap s.heap [] := va_S.rf
  have hl := lv_entry ([.ref h, .int x, .int a]) (n := 4) (Nat.le_of_ble_eq_true rfl)
  rw [lg_entry_eq]
  generalize (lg_sl ([.ref h, .int x, .int a]) ++ List.replicate (4 - (lg_sl ([.ref h, .int x, .int a])).length) Slot.unset).toArray = ls at hl ⊢
  have hl : lv_has ls 4 [(0, .ref h), (1, .int x), (2, .int a)] := hl
  refine lv_aload_n hx hb dX_root_0 rfl (lv_at hl 0 rfl) ?_
  refine lv_iload_n hx hb dX_root_1 rfl (lv_at hl 1 rfl) ?_
  refine sy_cVv (wc := wX h rr cc cI N R C li us ob sl go gi fr la re) (wr := []) (w1 := wX h rr cc cI N R C li us ob sl go gi fr la re) (ci := 0) (q0 := 0) (As := [.int x]) (rest := []) ⟨hx, hb, hml, hown, hbg⟩ (ct_X_needRoot_k l D h rr cc cI N R C li us ob sl go gi fr la re s.heap.size x hN h1 h2) (cwV 1 hbg (bg_V bw_272 bw_273 bw_24 bw_34 bw_274) rfl rfl rfl (by decide +kernel) ⟨Nat.le_of_ble_eq_true rfl, Nat.le_of_ble_eq_true rfl⟩) hK [0] rfl hP hD hS hA [0, 1, 2] [] rfl rfl rfl rfl (by decide) rfl rfl rfl hl.1 rfl (Nat.le_of_ble_eq_true rfl) dX_root_2 ⟨Nat.le_of_ble_eq_true rfl, Nat.le_of_ble_eq_true rfl⟩ (fun H locs hP hD hS => ?_)
  have hP : va_P D vwC (wX h rr cc cI N R C li us ob sl go gi fr la re) H := hP
  have hD : va_D A (wX h rr cc cI N R C li us ob sl go gi fr la re) := hD
  refine lv_aload_n hx hb dX_root_5 rfl (lv_at hl 0 rfl) ?_
  refine lv_iload_n hx hb dX_root_6 rfl (lv_at hl 2 rfl) ?_
  refine sy_cVx (wc := wX h rr cc cI N R C li us ob sl go gi fr la re) (wr := []) (ci := 0) (q0 := 0) (As := [.int a]) (rest := []) ⟨hx, hb, hml, hown, hbg⟩ (ct_X_needObjectOrNothing_b l D h rr cc cI N R C li us ob sl go gi fr la re H.size a hN hst h0 h3) (cwV 1 hbg (bg_V bw_232 bw_233 bw_20 bw_34 bw_234) rfl rfl rfl (by decide +kernel) ⟨Nat.le_of_ble_eq_true rfl, Nat.le_of_ble_eq_true rfl⟩) hK [0] rfl hP hD hS hA hG [0, 1, 2] [] rfl rfl rfl rfl (by decide) rfl rfl rfl hl.1 rfl (Nat.le_of_ble_eq_true rfl) dX_root_7 ⟨Nat.le_of_ble_eq_true rfl, Nat.le_of_ble_eq_true rfl⟩ (fun q ce H locs hP hD hS hcell hcv hcl => ?_)
  exact sy_outx htab hlocks hP hK hD hS hcell hcv hcl (Nat.le_of_ble_eq_true rfl) (Nat.le_of_ble_eq_true rfl)

set_option maxHeartbeats 4000000 in
set_option maxRecDepth 100000 in
theorem ct_X_number_k1 (l : Launch) (D : va_G) (h rr cc : Nat) (cI : ClassId) (N : Nat) (R C : Nat → Int32) (li us ob sl go gi fr la re : Int32) (sz : Nat) (a : Int32) (hN : N < 2 ^ 31) (hg : sr_isO N C a ob.toNatClampNeg 1 = true) (h1 : sr_rd N C (a + 1) = 0) : sy_Mi l yX_number (Cond.code yX_number bX_number 2 (some .int) :: sr_big) { frames := 7, cells := 0, slots := 0, locals := 111 } D vwC [(cI, .int)] [.ref h, .int a] (wX h rr cc cI N R C li us ob sl go gi fr la re) sz (sr_rd N (sr_wr N C (a + 1) (gi + 1)) (a + 1) - 1) (wX h rr cc cI N R (sr_wr N C (a + 1) (gi + 1)) li us ob sl go (gi + 1) fr la re) 0 0 := by
  refine Met.ofW (cc := bX_number) (maxL := 2) (ret := (some .int)) (by decide) rfl ?_
  intro p e s m args below meth c s₁ B hml hv
  obtain ⟨rfl, hsz, hP, hK, hD0⟩ := hv
  have hx := B.exec
  have hb := B.bytes
  have hr := B.returns
  have hbg : ∀ w ∈ sr_big, w.before _ s = true := fun w h => atoms_spec (ws := Cond.code yX_number bX_number 2 (some .int) :: sr_big) B.pre w (List.mem_cons_of_mem _ h)
  have hown : s.vm.findClass RX = some m.cls := findClass_of_methodNamed B.named
  have hlocks := B.notSynchronized
  subst hsz
  have hD := hD0.self (sz := s.heap.size)
  generalize hAe : va_A (wX h rr cc cI N R C li us ob sl go gi fr la re) s.heap.size = A at *
  have hA : ∀ q : Nat, s.heap.size ≤ q → A q := fun q h => by rw [← hAe]; exact Or.inr h
  have hS : va_S A s.heap s.heap [] := va_S.rf
  have hl := lv_entry ([.ref h, .int a]) (n := 2) (Nat.le_of_ble_eq_true rfl)
  rw [lg_entry_eq]
  generalize (lg_sl ([.ref h, .int a]) ++ List.replicate (2 - (lg_sl ([.ref h, .int a])).length) Slot.unset).toArray = ls at hl ⊢
  have hl : lv_has ls 2 [(0, .ref h), (1, .int a)] := hl
  refine lv_aload_n hx hb dX_number_0 rfl (lv_at hl 0 rfl) ?_
  refine lv_iload_n hx hb dX_number_1 rfl (lv_at hl 1 rfl) ?_
  refine sy_cVv (wc := wX h rr cc cI N R C li us ob sl go gi fr la re) (wr := []) (w1 := wX h rr cc cI N R C li us ob sl go gi fr la re) (ci := 0) (q0 := 0) (As := [.int a]) (rest := []) ⟨hx, hb, hml, hown, hbg⟩ (ct_X_needObject_k l D h rr cc cI N R C li us ob sl go gi fr la re s.heap.size a hN hg) (cwV 1 hbg (bg_V bw_213 bw_214 bw_18 bw_34 bw_215) rfl rfl rfl (by decide +kernel) ⟨Nat.le_of_ble_eq_true rfl, Nat.le_of_ble_eq_true rfl⟩) hK [0] rfl hP hD hS hA [0, 1, 2] [] rfl rfl rfl rfl (by decide) rfl rfl rfl hl.1 rfl (Nat.le_of_ble_eq_true rfl) dX_number_2 ⟨Nat.le_of_ble_eq_true rfl, Nat.le_of_ble_eq_true rfl⟩ (fun H locs hP hD hS => ?_)
  have hP : va_P D vwC (wX h rr cc cI N R C li us ob sl go gi fr la re) H := hP
  have hD : va_D A (wX h rr cc cI N R C li us ob sl go gi fr la re) := hD
  refine lv_aload_n hx hb dX_number_5 rfl (lv_at hl 0 rfl) ?_
  refine lv_iload_n hx hb dX_number_6 rfl (lv_at hl 1 rfl) ?_
  refine lv_iconst (v := 1) hx hb dX_number_7 (by decide) ?_
  refine lv_iadd hx hb dX_number_8 ?_
  refine sy_cVi (wc := wX h rr cc cI N R C li us ob sl go gi fr la re) (wr := []) (w1 := wX h rr cc cI N R C li us ob sl go gi fr la re) (ci := 0) (q0 := 0) (As := [.int (a + 1)]) (rest := []) ⟨hx, hb, hml, hown, hbg⟩ (ct_X_read l D h rr cc cI N R C li us ob sl go gi fr la re H.size (a + 1) hN) (cwV 1 hbg (bg_V bw_90 bw_91 bw_4 bw_34 bw_92) rfl rfl rfl (by decide +kernel) ⟨Nat.le_of_ble_eq_true rfl, Nat.le_of_ble_eq_true rfl⟩) hK [0] rfl hP hD hS hA [0, 1, 2] [] rfl rfl rfl rfl (by decide) rfl rfl rfl hl.1 rfl (Nat.le_of_ble_eq_true rfl) dX_number_9 ⟨Nat.le_of_ble_eq_true rfl, Nat.le_of_ble_eq_true rfl⟩ (fun H locs hP hD hS => ?_)
  have hP : va_P D vwC (wX h rr cc cI N R C li us ob sl go gi fr la re) H := hP
  have hD : va_D A (wX h rr cc cI N R C li us ob sl go gi fr la re) := hD
  refine lv_if_ne (tgt := 36) hx hb dX_number_12 (by decide) (fun z => absurd h1 z) (fun _ => ?_)
  refine lv_aload_n hx hb dX_number_15 rfl (lv_at hl 0 rfl) ?_
  refine lv_dup hx hb dX_number_16 rfl ?_
  refine va_get (D := D) (ci := 0) (v := .int gi) (C := RX) (T := TX) (N := 11) hx hb hbg bg_X hown hK hP 0 rfl rfl 7 (by decide) (hbg _ bw_58) (fun _ h9 => h9) rfl dX_number_17 ?_
  refine lv_iconst (v := 1) hx hb dX_number_20 (by decide) ?_
  refine lv_iadd hx hb dX_number_21 ?_
  refine va_put (D := D) (ci := 0) (v := .int (gi + 1)) (ty := .int) (C := RX) (T := TX) (N := 11) hx hb hbg bg_X tX tX_ok nX hown hK hP hD hS 0 rfl rfl 7 (by decide) (hbg _ bw_58) (fun _ h9 => h9) rfl (by decide +kernel) rfl rfl (Nat.le_of_ble_eq_true rfl) dX_number_22 (fun H locs hP hD hS => ?_)
  have hP : va_P D vwC (wX h rr cc cI N R C li us ob sl go (gi + 1) fr la re) H := hP
  have hD : va_D A (wX h rr cc cI N R C li us ob sl go (gi + 1) fr la re) := hD
  refine lv_aload_n hx hb dX_number_25 rfl (lv_at hl 0 rfl) ?_
  refine lv_iload_n hx hb dX_number_26 rfl (lv_at hl 1 rfl) ?_
  refine lv_iconst (v := 1) hx hb dX_number_27 (by decide) ?_
  refine lv_iadd hx hb dX_number_28 ?_
  refine lv_aload_n hx hb dX_number_29 rfl (lv_at hl 0 rfl) ?_
  refine va_get (D := D) (ci := 0) (v := .int (gi + 1)) (C := RX) (T := TX) (N := 11) hx hb hbg bg_X hown hK hP 0 rfl rfl 7 (by decide) (hbg _ bw_58) (fun _ h9 => h9) rfl dX_number_30 ?_
  refine sy_cVv (wc := wX h rr cc cI N R C li us ob sl go (gi + 1) fr la re) (wr := []) (w1 := wX h rr cc cI N R (sr_wr N C (a + 1) (gi + 1)) li us ob sl go (gi + 1) fr la re) (ci := 0) (q0 := 0) (As := [.int (a + 1), .int (gi + 1)]) (rest := []) ⟨hx, hb, hml, hown, hbg⟩ (ct_X_write l D h rr cc cI N R C li us ob sl go (gi + 1) fr la re H.size (a + 1) (gi + 1) hN) (cwV 2 hbg (bg_V bw_84 bw_85 bw_2 bw_34 bw_86) rfl rfl rfl (by decide +kernel) ⟨Nat.le_of_ble_eq_true rfl, Nat.le_of_ble_eq_true rfl⟩) hK [0] rfl hP hD hS hA [0, 1, 2] [] rfl rfl rfl rfl (by decide) rfl rfl rfl hl.1 rfl (Nat.le_of_ble_eq_true rfl) dX_number_33 ⟨Nat.le_of_ble_eq_true rfl, Nat.le_of_ble_eq_true rfl⟩ (fun H locs hP hD hS => ?_)
  have hP : va_P D vwC (wX h rr cc cI N R (sr_wr N C (a + 1) (gi + 1)) li us ob sl go (gi + 1) fr la re) H := hP
  have hD : va_D A (wX h rr cc cI N R (sr_wr N C (a + 1) (gi + 1)) li us ob sl go (gi + 1) fr la re) := hD
  refine lv_aload_n hx hb dX_number_36 rfl (lv_at hl 0 rfl) ?_
  refine lv_iload_n hx hb dX_number_37 rfl (lv_at hl 1 rfl) ?_
  refine lv_iconst (v := 1) hx hb dX_number_38 (by decide) ?_
  refine lv_iadd hx hb dX_number_39 ?_
  refine sy_cVi (wc := wX h rr cc cI N R (sr_wr N C (a + 1) (gi + 1)) li us ob sl go (gi + 1) fr la re) (wr := []) (w1 := wX h rr cc cI N R (sr_wr N C (a + 1) (gi + 1)) li us ob sl go (gi + 1) fr la re) (ci := 0) (q0 := 0) (As := [.int (a + 1)]) (rest := []) ⟨hx, hb, hml, hown, hbg⟩ (ct_X_read l D h rr cc cI N R (sr_wr N C (a + 1) (gi + 1)) li us ob sl go (gi + 1) fr la re H.size (a + 1) hN) (cwV 1 hbg (bg_V bw_90 bw_91 bw_4 bw_34 bw_92) rfl rfl rfl (by decide +kernel) ⟨Nat.le_of_ble_eq_true rfl, Nat.le_of_ble_eq_true rfl⟩) hK [0] rfl hP hD hS hA [0, 1, 2] [] rfl rfl rfl rfl (by decide) rfl rfl rfl hl.1 rfl (Nat.le_of_ble_eq_true rfl) dX_number_40 ⟨Nat.le_of_ble_eq_true rfl, Nat.le_of_ble_eq_true rfl⟩ (fun H locs hP hD hS => ?_)
  have hP : va_P D vwC (wX h rr cc cI N R (sr_wr N C (a + 1) (gi + 1)) li us ob sl go (gi + 1) fr la re) H := hP
  have hD : va_D A (wX h rr cc cI N R (sr_wr N C (a + 1) (gi + 1)) li us ob sl go (gi + 1) fr la re) := hD
  refine lv_iconst (v := 1) hx hb dX_number_43 (by decide) ?_
  refine lv_isub hx hb dX_number_44 ?_
  refine W.widen (k := 0) (n := 0) (Nat.le_of_ble_eq_true rfl) (Nat.le_of_ble_eq_true rfl) ?_
  exact W.iret (v := (sr_rd N (sr_wr N C (a + 1) (gi + 1)) (a + 1)) - 1) hx hb hr (fun t ht hW => ⟨⟨(sr_rd N (sr_wr N C (a + 1) (gi + 1)) (a + 1)) - 1, (), rfl, rfl, by rw [ht]; exact hP, va_K.moved hW.alike hK, hD⟩, hS.F ht⟩) hS.2.2 dX_number_45

set_option maxHeartbeats 4000000 in
set_option maxRecDepth 100000 in
theorem ct_X_number_k2 (l : Launch) (D : va_G) (h rr cc : Nat) (cI : ClassId) (N : Nat) (R C : Nat → Int32) (li us ob sl go gi fr la re : Int32) (sz : Nat) (a : Int32) (hN : N < 2 ^ 31) (hg : sr_isO N C a ob.toNatClampNeg 1 = true) (h1 : ¬ sr_rd N C (a + 1) = 0) : sy_Mi l yX_number (Cond.code yX_number bX_number 2 (some .int) :: sr_big) { frames := 7, cells := 0, slots := 0, locals := 111 } D vwC [(cI, .int)] [.ref h, .int a] (wX h rr cc cI N R C li us ob sl go gi fr la re) sz (sr_rd N C (a + 1) - 1) (wX h rr cc cI N R C li us ob sl go gi fr la re) 0 0 := by
  refine Met.ofW (cc := bX_number) (maxL := 2) (ret := (some .int)) (by decide) rfl ?_
  intro p e s m args below meth c s₁ B hml hv
  obtain ⟨rfl, hsz, hP, hK, hD0⟩ := hv
  have hx := B.exec
  have hb := B.bytes
  have hr := B.returns
  have hbg : ∀ w ∈ sr_big, w.before _ s = true := fun w h => atoms_spec (ws := Cond.code yX_number bX_number 2 (some .int) :: sr_big) B.pre w (List.mem_cons_of_mem _ h)
  have hown : s.vm.findClass RX = some m.cls := findClass_of_methodNamed B.named
  have hlocks := B.notSynchronized
  subst hsz
  have hD := hD0.self (sz := s.heap.size)
  generalize hAe : va_A (wX h rr cc cI N R C li us ob sl go gi fr la re) s.heap.size = A at *
  have hA : ∀ q : Nat, s.heap.size ≤ q → A q := fun q h => by rw [← hAe]; exact Or.inr h
  have hS : va_S A s.heap s.heap [] := va_S.rf
  have hl := lv_entry ([.ref h, .int a]) (n := 2) (Nat.le_of_ble_eq_true rfl)
  rw [lg_entry_eq]
  generalize (lg_sl ([.ref h, .int a]) ++ List.replicate (2 - (lg_sl ([.ref h, .int a])).length) Slot.unset).toArray = ls at hl ⊢
  have hl : lv_has ls 2 [(0, .ref h), (1, .int a)] := hl
  refine lv_aload_n hx hb dX_number_0 rfl (lv_at hl 0 rfl) ?_
  refine lv_iload_n hx hb dX_number_1 rfl (lv_at hl 1 rfl) ?_
  refine sy_cVv (wc := wX h rr cc cI N R C li us ob sl go gi fr la re) (wr := []) (w1 := wX h rr cc cI N R C li us ob sl go gi fr la re) (ci := 0) (q0 := 0) (As := [.int a]) (rest := []) ⟨hx, hb, hml, hown, hbg⟩ (ct_X_needObject_k l D h rr cc cI N R C li us ob sl go gi fr la re s.heap.size a hN hg) (cwV 1 hbg (bg_V bw_213 bw_214 bw_18 bw_34 bw_215) rfl rfl rfl (by decide +kernel) ⟨Nat.le_of_ble_eq_true rfl, Nat.le_of_ble_eq_true rfl⟩) hK [0] rfl hP hD hS hA [0, 1, 2] [] rfl rfl rfl rfl (by decide) rfl rfl rfl hl.1 rfl (Nat.le_of_ble_eq_true rfl) dX_number_2 ⟨Nat.le_of_ble_eq_true rfl, Nat.le_of_ble_eq_true rfl⟩ (fun H locs hP hD hS => ?_)
  have hP : va_P D vwC (wX h rr cc cI N R C li us ob sl go gi fr la re) H := hP
  have hD : va_D A (wX h rr cc cI N R C li us ob sl go gi fr la re) := hD
  refine lv_aload_n hx hb dX_number_5 rfl (lv_at hl 0 rfl) ?_
  refine lv_iload_n hx hb dX_number_6 rfl (lv_at hl 1 rfl) ?_
  refine lv_iconst (v := 1) hx hb dX_number_7 (by decide) ?_
  refine lv_iadd hx hb dX_number_8 ?_
  refine sy_cVi (wc := wX h rr cc cI N R C li us ob sl go gi fr la re) (wr := []) (w1 := wX h rr cc cI N R C li us ob sl go gi fr la re) (ci := 0) (q0 := 0) (As := [.int (a + 1)]) (rest := []) ⟨hx, hb, hml, hown, hbg⟩ (ct_X_read l D h rr cc cI N R C li us ob sl go gi fr la re H.size (a + 1) hN) (cwV 1 hbg (bg_V bw_90 bw_91 bw_4 bw_34 bw_92) rfl rfl rfl (by decide +kernel) ⟨Nat.le_of_ble_eq_true rfl, Nat.le_of_ble_eq_true rfl⟩) hK [0] rfl hP hD hS hA [0, 1, 2] [] rfl rfl rfl rfl (by decide) rfl rfl rfl hl.1 rfl (Nat.le_of_ble_eq_true rfl) dX_number_9 ⟨Nat.le_of_ble_eq_true rfl, Nat.le_of_ble_eq_true rfl⟩ (fun H locs hP hD hS => ?_)
  have hP : va_P D vwC (wX h rr cc cI N R C li us ob sl go gi fr la re) H := hP
  have hD : va_D A (wX h rr cc cI N R C li us ob sl go gi fr la re) := hD
  refine lv_if_ne (tgt := 36) hx hb dX_number_12 (by decide) (fun _ => ?_) (fun z => absurd z h1)
  refine lv_aload_n hx hb dX_number_36 rfl (lv_at hl 0 rfl) ?_
  refine lv_iload_n hx hb dX_number_37 rfl (lv_at hl 1 rfl) ?_
  refine lv_iconst (v := 1) hx hb dX_number_38 (by decide) ?_
  refine lv_iadd hx hb dX_number_39 ?_
  refine sy_cVi (wc := wX h rr cc cI N R C li us ob sl go gi fr la re) (wr := []) (w1 := wX h rr cc cI N R C li us ob sl go gi fr la re) (ci := 0) (q0 := 0) (As := [.int (a + 1)]) (rest := []) ⟨hx, hb, hml, hown, hbg⟩ (ct_X_read l D h rr cc cI N R C li us ob sl go gi fr la re H.size (a + 1) hN) (cwV 1 hbg (bg_V bw_90 bw_91 bw_4 bw_34 bw_92) rfl rfl rfl (by decide +kernel) ⟨Nat.le_of_ble_eq_true rfl, Nat.le_of_ble_eq_true rfl⟩) hK [0] rfl hP hD hS hA [0, 1, 2] [] rfl rfl rfl rfl (by decide) rfl rfl rfl hl.1 rfl (Nat.le_of_ble_eq_true rfl) dX_number_40 ⟨Nat.le_of_ble_eq_true rfl, Nat.le_of_ble_eq_true rfl⟩ (fun H locs hP hD hS => ?_)
  have hP : va_P D vwC (wX h rr cc cI N R C li us ob sl go gi fr la re) H := hP
  have hD : va_D A (wX h rr cc cI N R C li us ob sl go gi fr la re) := hD
  refine lv_iconst (v := 1) hx hb dX_number_43 (by decide) ?_
  refine lv_isub hx hb dX_number_44 ?_
  refine W.widen (k := 0) (n := 0) (Nat.le_of_ble_eq_true rfl) (Nat.le_of_ble_eq_true rfl) ?_
  exact W.iret (v := (sr_rd N C (a + 1)) - 1) hx hb hr (fun t ht hW => ⟨⟨(sr_rd N C (a + 1)) - 1, (), rfl, rfl, by rw [ht]; exact hP, va_K.moved hW.alike hK, hD⟩, hS.F ht⟩) hS.2.2 dX_number_45

set_option maxHeartbeats 4000000 in
set_option maxRecDepth 100000 in
theorem ct_X_number_b (l : Launch) (D : va_G) (h rr cc : Nat) (cI : ClassId) (N : Nat) (R C : Nat → Int32) (li us ob sl go gi fr la re : Int32) (sz : Nat) (a : Int32) (hN : N < 2 ^ 31) (hst : l.stackTraces = false) (hg : sr_isO N C a ob.toNatClampNeg 1 = false) : sy_Mx l yX_number (Cond.code yX_number bX_number 2 (some .int) :: sr_big) { frames := 7, cells := 1, slots := 6, locals := 111 } D vwC [(cI, .int)] [.ref h, .int a] (wX h rr cc cI N R C li us ob sl go gi fr la re) sz sx_NSE 1 6 := by
  refine vx_ofW (cc := bX_number) (maxL := 2) (ret := (some .int)) (by decide) rfl ?_
  intro p e s m args below meth c s₁ B hml htab hv
  obtain ⟨rfl, ⟨hsz, hP, hK, hD0⟩, hG⟩ := hv
  have hx := B.exec
  have hb := B.bytes
  have hr := B.returns
  have hbg : ∀ w ∈ sr_big, w.before _ s = true := fun w h => atoms_spec (ws := Cond.code yX_number bX_number 2 (some .int) :: sr_big) B.pre w (List.mem_cons_of_mem _ h)
  have hown : s.vm.findClass RX = some m.cls := findClass_of_methodNamed B.named
  have hlocks := B.notSynchronized
  subst hsz
  have hD := hD0.self (sz := s.heap.size)
  generalize hAe : va_A (wX h rr cc cI N R C li us ob sl go gi fr la re) s.heap.size = A at *
  have hA : ∀ q : Nat, s.heap.size ≤ q → A q := fun q h => by rw [← hAe]; exact Or.inr h
  have hS : va_S A s.heap s.heap [] := va_S.rf
  have hl := lv_entry ([.ref h, .int a]) (n := 2) (Nat.le_of_ble_eq_true rfl)
  rw [lg_entry_eq]
  generalize (lg_sl ([.ref h, .int a]) ++ List.replicate (2 - (lg_sl ([.ref h, .int a])).length) Slot.unset).toArray = ls at hl ⊢
  have hl : lv_has ls 2 [(0, .ref h), (1, .int a)] := hl
  refine lv_aload_n hx hb dX_number_0 rfl (lv_at hl 0 rfl) ?_
  refine lv_iload_n hx hb dX_number_1 rfl (lv_at hl 1 rfl) ?_
  refine sy_cVx (wc := wX h rr cc cI N R C li us ob sl go gi fr la re) (wr := []) (ci := 0) (q0 := 0) (As := [.int a]) (rest := []) ⟨hx, hb, hml, hown, hbg⟩ (ct_X_needObject_b l D h rr cc cI N R C li us ob sl go gi fr la re s.heap.size a hN hst hg) (cwV 1 hbg (bg_V bw_213 bw_214 bw_18 bw_34 bw_215) rfl rfl rfl (by decide +kernel) ⟨Nat.le_of_ble_eq_true rfl, Nat.le_of_ble_eq_true rfl⟩) hK [0] rfl hP hD hS hA hG [0, 1, 2] [] rfl rfl rfl rfl (by decide) rfl rfl rfl hl.1 rfl (Nat.le_of_ble_eq_true rfl) dX_number_2 ⟨Nat.le_of_ble_eq_true rfl, Nat.le_of_ble_eq_true rfl⟩ (fun q ce H locs hP hD hS hcell hcv hcl => ?_)
  exact sy_outx htab hlocks hP hK hD hS hcell hcv hcl (Nat.le_of_ble_eq_true rfl) (Nat.le_of_ble_eq_true rfl)

set_option maxHeartbeats 4000000 in
set_option maxRecDepth 100000 in
theorem ct_X_next_k (l : Launch) (D : va_G) (h rr cc : Nat) (cI : ClassId) (N : Nat) (R C : Nat → Int32) (li us ob sl go gi fr la re : Int32) (sz : Nat) (a : Int32) (hN : N < 2 ^ 31) (h3 : a = 0 ∨ sr_isO N C a ob.toNatClampNeg 1 = true) : sy_Mi l yX_next (Cond.code yX_next bX_next 3 (some .int) :: sr_big) { frames := 8, cells := 0, slots := 0, locals := 132 } D vwC [(cI, .int)] [.ref h, .int a] (wX h rr cc cI N R C li us ob sl go gi fr la re) sz (if us < (if a = 0 then 1 else a + sr_si N C a) then 0 else (if a = 0 then 1 else a + sr_si N C a)) (wX h rr cc cI N R C li us ob sl go gi fr la re) 0 0 := by
  refine Met.ofW (cc := bX_next) (maxL := 3) (ret := (some .int)) (by decide) rfl ?_
  intro p e s m args below meth c s₁ B hml hv
  obtain ⟨rfl, hsz, hP, hK, hD0⟩ := hv
  have hx := B.exec
  have hb := B.bytes
  have hr := B.returns
  have hbg : ∀ w ∈ sr_big, w.before _ s = true := fun w h => atoms_spec (ws := Cond.code yX_next bX_next 3 (some .int) :: sr_big) B.pre w (List.mem_cons_of_mem _ h)
  have hown : s.vm.findClass RX = some m.cls := findClass_of_methodNamed B.named
  have hlocks := B.notSynchronized
  subst hsz
  have hD := hD0.self (sz := s.heap.size)
  generalize hAe : va_A (wX h rr cc cI N R C li us ob sl go gi fr la re) s.heap.size = A at *
  have hA : ∀ q : Nat, s.heap.size ≤ q → A q := fun q h => by rw [← hAe]; exact Or.inr h
  have hS : va_S A s.heap s.heap [] := va_S.rf
  have hl := lv_entry ([.ref h, .int a]) (n := 3) (Nat.le_of_ble_eq_true rfl)
  rw [lg_entry_eq]
  generalize (lg_sl ([.ref h, .int a]) ++ List.replicate (3 - (lg_sl ([.ref h, .int a])).length) Slot.unset).toArray = ls at hl ⊢
  have hl : lv_has ls 3 [(0, .ref h), (1, .int a)] := hl
  refine lv_aload_n hx hb dX_next_0 rfl (lv_at hl 0 rfl) ?_
  refine lv_iload_n hx hb dX_next_1 rfl (lv_at hl 1 rfl) ?_
  refine sy_cVv (wc := wX h rr cc cI N R C li us ob sl go gi fr la re) (wr := []) (w1 := wX h rr cc cI N R C li us ob sl go gi fr la re) (ci := 0) (q0 := 0) (As := [.int a]) (rest := []) ⟨hx, hb, hml, hown, hbg⟩ (ct_X_needObjectOrNothing_k l D h rr cc cI N R C li us ob sl go gi fr la re s.heap.size a hN h3) (cwV 1 hbg (bg_V bw_232 bw_233 bw_20 bw_34 bw_234) rfl rfl rfl (by decide +kernel) ⟨Nat.le_of_ble_eq_true rfl, Nat.le_of_ble_eq_true rfl⟩) hK [0] rfl hP hD hS hA [0, 1, 2] [] rfl rfl rfl rfl (by decide) rfl rfl rfl hl.1 rfl (Nat.le_of_ble_eq_true rfl) dX_next_2 ⟨Nat.le_of_ble_eq_true rfl, Nat.le_of_ble_eq_true rfl⟩ (fun H locs hP hD hS => ?_)
  have hP : va_P D vwC (wX h rr cc cI N R C li us ob sl go gi fr la re) H := hP
  have hD : va_D A (wX h rr cc cI N R C li us ob sl go gi fr la re) := hD
  refine lv_iload_n hx hb dX_next_5 rfl (lv_at hl 1 rfl) ?_
  refine lv_if_ne (tgt := 13) hx hb dX_next_6 (by decide) (fun c_6 => ?_) (fun c_6 => ?_)
  · refine lv_iload_n hx hb dX_next_13 rfl (lv_at hl 1 rfl) ?_
    refine lv_aload_n hx hb dX_next_14 rfl (lv_at hl 0 rfl) ?_
    refine lv_iload_n hx hb dX_next_15 rfl (lv_at hl 1 rfl) ?_
    refine sy_cVi (wc := wX h rr cc cI N R C li us ob sl go gi fr la re) (wr := []) (w1 := wX h rr cc cI N R C li us ob sl go gi fr la re) (ci := 0) (q0 := 0) (As := [.int a]) (rest := [.int a]) ⟨hx, hb, hml, hown, hbg⟩ (ct_X_sizeOf l D h rr cc cI N R C li us ob sl go gi fr la re H.size a hN) (cwV 1 hbg (bg_V bw_87 bw_88 bw_3 bw_34 bw_89) rfl rfl rfl (by decide +kernel) ⟨Nat.le_of_ble_eq_true rfl, Nat.le_of_ble_eq_true rfl⟩) hK [0] rfl hP hD hS hA [0, 1, 2] [] rfl rfl rfl rfl (by decide) rfl rfl rfl hl.1 rfl (Nat.le_of_ble_eq_true rfl) dX_next_16 ⟨Nat.le_of_ble_eq_true rfl, Nat.le_of_ble_eq_true rfl⟩ (fun H locs hP hD hS => ?_)
    have hP : va_P D vwC (wX h rr cc cI N R C li us ob sl go gi fr la re) H := hP
    have hD : va_D A (wX h rr cc cI N R C li us ob sl go gi fr la re) := hD
    refine lv_iadd hx hb dX_next_19 ?_
    refine lv_istore_n (lv' := [(2, .int (a + (sr_si N C a))), (0, .ref h), (1, .int a)]) hx hb dX_next_20 rfl hl (by decide) rfl (fun ls hl => ?_)
    refine lv_iload_n hx hb dX_next_21 rfl (lv_at hl 0 rfl) ?_
    refine lv_aload_n hx hb dX_next_22 rfl (lv_at hl 1 rfl) ?_
    refine va_get (D := D) (ci := 0) (v := .int us) (C := RX) (T := TX) (N := 11) hx hb hbg bg_X hown hK hP 0 rfl rfl 3 (by decide) (hbg _ bw_54) (fun _ h9 => h9) rfl dX_next_23 ?_
    refine lv_icmp_gt (tgt := 33) hx hb dX_next_26 (by decide) (fun c_26 => ?_) (fun c_26 => ?_)
    · refine lv_iconst (v := 0) hx hb dX_next_33 (by decide) ?_
      refine W.widen (k := 0) (n := 0) (Nat.le_of_ble_eq_true rfl) (Nat.le_of_ble_eq_true rfl) ?_
      exact W.iret (v := 0) hx hb hr (fun t ht hW => ⟨⟨0, (), rfl, (by simp only [c_6, c_26, ↓reduceIte]), by rw [ht]; exact hP, va_K.moved hW.alike hK, hD⟩, hS.F ht⟩) hS.2.2 dX_next_34
    · refine lv_iload_n hx hb dX_next_29 rfl (lv_at hl 0 rfl) ?_
      refine lv_goto (tgt := 34) hx hb dX_next_30 (by decide) ?_
      refine W.widen (k := 0) (n := 0) (Nat.le_of_ble_eq_true rfl) (Nat.le_of_ble_eq_true rfl) ?_
      exact W.iret (v := a + (sr_si N C a)) hx hb hr (fun t ht hW => ⟨⟨a + (sr_si N C a), (), rfl, (by simp only [c_6, c_26, ↓reduceIte]), by rw [ht]; exact hP, va_K.moved hW.alike hK, hD⟩, hS.F ht⟩) hS.2.2 dX_next_34
  · refine lv_iconst (v := 1) hx hb dX_next_9 (by decide) ?_
    refine lv_goto (tgt := 20) hx hb dX_next_10 (by decide) ?_
    refine lv_istore_n (lv' := [(2, .int 1), (0, .ref h), (1, .int a)]) hx hb dX_next_20 rfl hl (by decide) rfl (fun ls hl => ?_)
    refine lv_iload_n hx hb dX_next_21 rfl (lv_at hl 0 rfl) ?_
    refine lv_aload_n hx hb dX_next_22 rfl (lv_at hl 1 rfl) ?_
    refine va_get (D := D) (ci := 0) (v := .int us) (C := RX) (T := TX) (N := 11) hx hb hbg bg_X hown hK hP 0 rfl rfl 3 (by decide) (hbg _ bw_54) (fun _ h9 => h9) rfl dX_next_23 ?_
    refine lv_icmp_gt (tgt := 33) hx hb dX_next_26 (by decide) (fun c_26 => ?_) (fun c_26 => ?_)
    · refine lv_iconst (v := 0) hx hb dX_next_33 (by decide) ?_
      refine W.widen (k := 0) (n := 0) (Nat.le_of_ble_eq_true rfl) (Nat.le_of_ble_eq_true rfl) ?_
      exact W.iret (v := 0) hx hb hr (fun t ht hW => ⟨⟨0, (), rfl, (by simp only [c_6, c_26, ↓reduceIte]), by rw [ht]; exact hP, va_K.moved hW.alike hK, hD⟩, hS.F ht⟩) hS.2.2 dX_next_34
    · refine lv_iload_n hx hb dX_next_29 rfl (lv_at hl 0 rfl) ?_
      refine lv_goto (tgt := 34) hx hb dX_next_30 (by decide) ?_
      refine W.widen (k := 0) (n := 0) (Nat.le_of_ble_eq_true rfl) (Nat.le_of_ble_eq_true rfl) ?_
      exact W.iret (v := 1) hx hb hr (fun t ht hW => ⟨⟨1, (), rfl, (by simp only [c_6, c_26, ↓reduceIte]), by rw [ht]; exact hP, va_K.moved hW.alike hK, hD⟩, hS.F ht⟩) hS.2.2 dX_next_34

set_option maxHeartbeats 4000000 in
set_option maxRecDepth 100000 in
theorem ct_X_next_b (l : Launch) (D : va_G) (h rr cc : Nat) (cI : ClassId) (N : Nat) (R C : Nat → Int32) (li us ob sl go gi fr la re : Int32) (sz : Nat) (a : Int32) (hN : N < 2 ^ 31) (hst : l.stackTraces = false) (h0 : ¬ a = 0) (h3 : sr_isO N C a ob.toNatClampNeg 1 = false) : sy_Mx l yX_next (Cond.code yX_next bX_next 3 (some .int) :: sr_big) { frames := 8, cells := 1, slots := 6, locals := 132 } D vwC [(cI, .int)] [.ref h, .int a] (wX h rr cc cI N R C li us ob sl go gi fr la re) sz sx_NSE 1 6 := by
  refine vx_ofW (cc := bX_next) (maxL := 3) (ret := (some .int)) (by decide) rfl ?_
  intro p e s m args below meth c s₁ B hml htab hv
  obtain ⟨rfl, ⟨hsz, hP, hK, hD0⟩, hG⟩ := hv
  have hx := B.exec
  have hb := B.bytes
  have hr := B.returns
  have hbg : ∀ w ∈ sr_big, w.before _ s = true := fun w h => atoms_spec (ws := Cond.code yX_next bX_next 3 (some .int) :: sr_big) B.pre w (List.mem_cons_of_mem _ h)
  have hown : s.vm.findClass RX = some m.cls := findClass_of_methodNamed B.named
  have hlocks := B.notSynchronized
  subst hsz
  have hD := hD0.self (sz := s.heap.size)
  generalize hAe : va_A (wX h rr cc cI N R C li us ob sl go gi fr la re) s.heap.size = A at *
  have hA : ∀ q : Nat, s.heap.size ≤ q → A q := fun q h => by rw [← hAe]; exact Or.inr h
  have hS : va_S A s.heap s.heap [] := va_S.rf
  have hl := lv_entry ([.ref h, .int a]) (n := 3) (Nat.le_of_ble_eq_true rfl)
  rw [lg_entry_eq]
  generalize (lg_sl ([.ref h, .int a]) ++ List.replicate (3 - (lg_sl ([.ref h, .int a])).length) Slot.unset).toArray = ls at hl ⊢
  have hl : lv_has ls 3 [(0, .ref h), (1, .int a)] := hl
  refine lv_aload_n hx hb dX_next_0 rfl (lv_at hl 0 rfl) ?_
  refine lv_iload_n hx hb dX_next_1 rfl (lv_at hl 1 rfl) ?_
  refine sy_cVx (wc := wX h rr cc cI N R C li us ob sl go gi fr la re) (wr := []) (ci := 0) (q0 := 0) (As := [.int a]) (rest := []) ⟨hx, hb, hml, hown, hbg⟩ (ct_X_needObjectOrNothing_b l D h rr cc cI N R C li us ob sl go gi fr la re s.heap.size a hN hst h0 h3) (cwV 1 hbg (bg_V bw_232 bw_233 bw_20 bw_34 bw_234) rfl rfl rfl (by decide +kernel) ⟨Nat.le_of_ble_eq_true rfl, Nat.le_of_ble_eq_true rfl⟩) hK [0] rfl hP hD hS hA hG [0, 1, 2] [] rfl rfl rfl rfl (by decide) rfl rfl rfl hl.1 rfl (Nat.le_of_ble_eq_true rfl) dX_next_2 ⟨Nat.le_of_ble_eq_true rfl, Nat.le_of_ble_eq_true rfl⟩ (fun q ce H locs hP hD hS hcell hcv hcl => ?_)
  exact sy_outx htab hlocks hP hK hD hS hcell hcv hcl (Nat.le_of_ble_eq_true rfl) (Nat.le_of_ble_eq_true rfl)

set_option maxHeartbeats 4000000 in
set_option maxRecDepth 100000 in
theorem ct_X_count_0 (l : Launch) (D : va_G) (h rr cc : Nat) (cI : ClassId) (N : Nat) (R C : Nat → Int32) (li us ob sl go gi fr la re : Int32) (sz : Nat) (hN : N < 2 ^ 31) : sy_Mi l yX_count (Cond.code yX_count bX_count 2 (some .int) :: sr_big) { frames := 6, cells := 0, slots := 0, locals := 90 } D vwC [(cI, .int)] [.ref h, .int 0] (wX h rr cc cI N R C li us ob sl go gi fr la re) sz ob (wX h rr cc cI N R C li us ob sl go gi fr la re) 0 0 := by
  refine Met.ofW (cc := bX_count) (maxL := 2) (ret := (some .int)) (by decide) rfl ?_
  intro p e s m args below meth c s₁ B hml hv
  obtain ⟨rfl, hsz, hP, hK, hD0⟩ := hv
  have hx := B.exec
  have hb := B.bytes
  have hr := B.returns
  have hbg : ∀ w ∈ sr_big, w.before _ s = true := fun w h => atoms_spec (ws := Cond.code yX_count bX_count 2 (some .int) :: sr_big) B.pre w (List.mem_cons_of_mem _ h)
  have hown : s.vm.findClass RX = some m.cls := findClass_of_methodNamed B.named
  have hlocks := B.notSynchronized
  subst hsz
  have hD := hD0.self (sz := s.heap.size)
  generalize hAe : va_A (wX h rr cc cI N R C li us ob sl go gi fr la re) s.heap.size = A at *
  have hA : ∀ q : Nat, s.heap.size ≤ q → A q := fun q h => by rw [← hAe]; exact Or.inr h
  have hS : va_S A s.heap s.heap [] := va_S.rf
  have hl := lv_entry ([.ref h, .int 0]) (n := 2) (Nat.le_of_ble_eq_true rfl)
  rw [lg_entry_eq]
  generalize (lg_sl ([.ref h, .int 0]) ++ List.replicate (2 - (lg_sl ([.ref h, .int 0])).length) Slot.unset).toArray = ls at hl ⊢
  have hl : lv_has ls 2 [(0, .ref h), (1, .int 0)] := hl
  refine lv_iload_n hx hb dX_count_0 rfl (lv_at hl 1 rfl) ?_
  refine lv_tableIn (off := 43) (tgt := 44) hx hb dX_count_1 (by decide) (by decide) rfl (by decide) ?_
  refine lv_aload_n hx hb dX_count_44 rfl (lv_at hl 0 rfl) ?_
  refine va_get (D := D) (ci := 0) (v := .int ob) (C := RX) (T := TX) (N := 11) hx hb hbg bg_X hown hK hP 0 rfl rfl 4 (by decide) (hbg _ bw_55) (fun _ h9 => h9) rfl dX_count_45 ?_
  refine W.widen (k := 0) (n := 0) (Nat.le_of_ble_eq_true rfl) (Nat.le_of_ble_eq_true rfl) ?_
  exact W.iret (v := ob) hx hb hr (fun t ht hW => ⟨⟨ob, (), rfl, rfl, by rw [ht]; exact hP, va_K.moved hW.alike hK, hD⟩, hS.F ht⟩) hS.2.2 dX_count_48

set_option maxHeartbeats 4000000 in
set_option maxRecDepth 100000 in
theorem ct_X_count_1 (l : Launch) (D : va_G) (h rr cc : Nat) (cI : ClassId) (N : Nat) (R C : Nat → Int32) (li us ob sl go gi fr la re : Int32) (sz : Nat) (hN : N < 2 ^ 31) : sy_Mi l yX_count (Cond.code yX_count bX_count 2 (some .int) :: sr_big) { frames := 6, cells := 0, slots := 0, locals := 90 } D vwC [(cI, .int)] [.ref h, .int 1] (wX h rr cc cI N R C li us ob sl go gi fr la re) sz us (wX h rr cc cI N R C li us ob sl go gi fr la re) 0 0 := by
  refine Met.ofW (cc := bX_count) (maxL := 2) (ret := (some .int)) (by decide) rfl ?_
  intro p e s m args below meth c s₁ B hml hv
  obtain ⟨rfl, hsz, hP, hK, hD0⟩ := hv
  have hx := B.exec
  have hb := B.bytes
  have hr := B.returns
  have hbg : ∀ w ∈ sr_big, w.before _ s = true := fun w h => atoms_spec (ws := Cond.code yX_count bX_count 2 (some .int) :: sr_big) B.pre w (List.mem_cons_of_mem _ h)
  have hown : s.vm.findClass RX = some m.cls := findClass_of_methodNamed B.named
  have hlocks := B.notSynchronized
  subst hsz
  have hD := hD0.self (sz := s.heap.size)
  generalize hAe : va_A (wX h rr cc cI N R C li us ob sl go gi fr la re) s.heap.size = A at *
  have hA : ∀ q : Nat, s.heap.size ≤ q → A q := fun q h => by rw [← hAe]; exact Or.inr h
  have hS : va_S A s.heap s.heap [] := va_S.rf
  have hl := lv_entry ([.ref h, .int 1]) (n := 2) (Nat.le_of_ble_eq_true rfl)
  rw [lg_entry_eq]
  generalize (lg_sl ([.ref h, .int 1]) ++ List.replicate (2 - (lg_sl ([.ref h, .int 1])).length) Slot.unset).toArray = ls at hl ⊢
  have hl : lv_has ls 2 [(0, .ref h), (1, .int 1)] := hl
  refine lv_iload_n hx hb dX_count_0 rfl (lv_at hl 1 rfl) ?_
  refine lv_tableIn (off := 48) (tgt := 49) hx hb dX_count_1 (by decide) (by decide) rfl (by decide) ?_
  refine lv_aload_n hx hb dX_count_49 rfl (lv_at hl 0 rfl) ?_
  refine va_get (D := D) (ci := 0) (v := .int us) (C := RX) (T := TX) (N := 11) hx hb hbg bg_X hown hK hP 0 rfl rfl 3 (by decide) (hbg _ bw_54) (fun _ h9 => h9) rfl dX_count_50 ?_
  refine W.widen (k := 0) (n := 0) (Nat.le_of_ble_eq_true rfl) (Nat.le_of_ble_eq_true rfl) ?_
  exact W.iret (v := us) hx hb hr (fun t ht hW => ⟨⟨us, (), rfl, rfl, by rw [ht]; exact hP, va_K.moved hW.alike hK, hD⟩, hS.F ht⟩) hS.2.2 dX_count_53

set_option maxHeartbeats 4000000 in
set_option maxRecDepth 100000 in
theorem ct_X_count_2 (l : Launch) (D : va_G) (h rr cc : Nat) (cI : ClassId) (N : Nat) (R C : Nat → Int32) (li us ob sl go gi fr la re : Int32) (sz : Nat) (hN : N < 2 ^ 31) : sy_Mi l yX_count (Cond.code yX_count bX_count 2 (some .int) :: sr_big) { frames := 6, cells := 0, slots := 0, locals := 90 } D vwC [(cI, .int)] [.ref h, .int 2] (wX h rr cc cI N R C li us ob sl go gi fr la re) sz ((sr_chR N R ob.toNatClampNeg C).2.2.2) (wX h rr cc cI N R ((sr_chR N R ob.toNatClampNeg C).1) li us ob sl go gi ((sr_chR N R ob.toNatClampNeg C).2.1) ((sr_chR N R ob.toNatClampNeg C).2.2.1) ((sr_chR N R ob.toNatClampNeg C).2.2.2)) 0 0 := by
  refine Met.ofW (cc := bX_count) (maxL := 2) (ret := (some .int)) (by decide) rfl ?_
  intro p e s m args below meth c s₁ B hml hv
  obtain ⟨rfl, hsz, hP, hK, hD0⟩ := hv
  have hx := B.exec
  have hb := B.bytes
  have hr := B.returns
  have hbg : ∀ w ∈ sr_big, w.before _ s = true := fun w h => atoms_spec (ws := Cond.code yX_count bX_count 2 (some .int) :: sr_big) B.pre w (List.mem_cons_of_mem _ h)
  have hown : s.vm.findClass RX = some m.cls := findClass_of_methodNamed B.named
  have hlocks := B.notSynchronized
  subst hsz
  have hD := hD0.self (sz := s.heap.size)
  generalize hAe : va_A (wX h rr cc cI N R C li us ob sl go gi fr la re) s.heap.size = A at *
  have hA : ∀ q : Nat, s.heap.size ≤ q → A q := fun q h => by rw [← hAe]; exact Or.inr h
  have hS : va_S A s.heap s.heap [] := va_S.rf
  have hl := lv_entry ([.ref h, .int 2]) (n := 2) (Nat.le_of_ble_eq_true rfl)
  rw [lg_entry_eq]
  generalize (lg_sl ([.ref h, .int 2]) ++ List.replicate (2 - (lg_sl ([.ref h, .int 2])).length) Slot.unset).toArray = ls at hl ⊢
  have hl : lv_has ls 2 [(0, .ref h), (1, .int 2)] := hl
  refine lv_iload_n hx hb dX_count_0 rfl (lv_at hl 1 rfl) ?_
  refine lv_tableIn (off := 53) (tgt := 54) hx hb dX_count_1 (by decide) (by decide) rfl (by decide) ?_
  refine lv_aload_n hx hb dX_count_54 rfl (lv_at hl 0 rfl) ?_
  refine sy_cVv (wc := wX h rr cc cI N R C li us ob sl go gi fr la re) (wr := []) (w1 := wX h rr cc cI N R ((sr_chR N R ob.toNatClampNeg C).1) li us ob sl go gi ((sr_chR N R ob.toNatClampNeg C).2.1) ((sr_chR N R ob.toNatClampNeg C).2.2.1) ((sr_chR N R ob.toNatClampNeg C).2.2.2)) (ci := 0) (q0 := 0) (As := []) (rest := []) ⟨hx, hb, hml, hown, hbg⟩ (ct_X_chainReached l D h rr cc cI N R C li us ob sl go gi fr la re s.heap.size  hN) (cwV 0 hbg (bg_V bw_78 bw_79 bw_0 bw_34 bw_80) rfl rfl rfl (by decide +kernel) ⟨Nat.le_of_ble_eq_true rfl, Nat.le_of_ble_eq_true rfl⟩) hK [0] rfl hP hD hS hA [0, 1, 2] [] rfl rfl rfl rfl (by decide) rfl rfl rfl hl.1 rfl (Nat.le_of_ble_eq_true rfl) dX_count_55 ⟨Nat.le_of_ble_eq_true rfl, Nat.le_of_ble_eq_true rfl⟩ (fun H locs hP hD hS => ?_)
  have hP : va_P D vwC (wX h rr cc cI N R ((sr_chR N R ob.toNatClampNeg C).1) li us ob sl go gi ((sr_chR N R ob.toNatClampNeg C).2.1) ((sr_chR N R ob.toNatClampNeg C).2.2.1) ((sr_chR N R ob.toNatClampNeg C).2.2.2)) H := hP
  have hD : va_D A (wX h rr cc cI N R ((sr_chR N R ob.toNatClampNeg C).1) li us ob sl go gi ((sr_chR N R ob.toNatClampNeg C).2.1) ((sr_chR N R ob.toNatClampNeg C).2.2.1) ((sr_chR N R ob.toNatClampNeg C).2.2.2)) := hD
  refine lv_aload_n hx hb dX_count_58 rfl (lv_at hl 0 rfl) ?_
  refine va_get (D := D) (ci := 0) (v := .int ((sr_chR N R ob.toNatClampNeg C).2.2.2)) (C := RX) (T := TX) (N := 11) hx hb hbg bg_X hown hK hP 0 rfl rfl 10 (by decide) (hbg _ bw_61) (fun _ h9 => h9) rfl dX_count_59 ?_
  refine W.widen (k := 0) (n := 0) (Nat.le_of_ble_eq_true rfl) (Nat.le_of_ble_eq_true rfl) ?_
  exact W.iret (v := (sr_chR N R ob.toNatClampNeg C).2.2.2) hx hb hr (fun t ht hW => ⟨⟨(sr_chR N R ob.toNatClampNeg C).2.2.2, (), rfl, rfl, by rw [ht]; exact hP, va_K.moved hW.alike hK, hD⟩, hS.F ht⟩) hS.2.2 dX_count_62

set_option maxHeartbeats 4000000 in
set_option maxRecDepth 100000 in
theorem ct_X_count_3 (l : Launch) (D : va_G) (h rr cc : Nat) (cI : ClassId) (N : Nat) (R C : Nat → Int32) (li us ob sl go gi fr la re : Int32) (sz : Nat) (hN : N < 2 ^ 31) : sy_Mi l yX_count (Cond.code yX_count bX_count 2 (some .int) :: sr_big) { frames := 6, cells := 0, slots := 0, locals := 90 } D vwC [(cI, .int)] [.ref h, .int 3] (wX h rr cc cI N R C li us ob sl go gi fr la re) sz sl (wX h rr cc cI N R C li us ob sl go gi fr la re) 0 0 := by
  refine Met.ofW (cc := bX_count) (maxL := 2) (ret := (some .int)) (by decide) rfl ?_
  intro p e s m args below meth c s₁ B hml hv
  obtain ⟨rfl, hsz, hP, hK, hD0⟩ := hv
  have hx := B.exec
  have hb := B.bytes
  have hr := B.returns
  have hbg : ∀ w ∈ sr_big, w.before _ s = true := fun w h => atoms_spec (ws := Cond.code yX_count bX_count 2 (some .int) :: sr_big) B.pre w (List.mem_cons_of_mem _ h)
  have hown : s.vm.findClass RX = some m.cls := findClass_of_methodNamed B.named
  have hlocks := B.notSynchronized
  subst hsz
  have hD := hD0.self (sz := s.heap.size)
  generalize hAe : va_A (wX h rr cc cI N R C li us ob sl go gi fr la re) s.heap.size = A at *
  have hA : ∀ q : Nat, s.heap.size ≤ q → A q := fun q h => by rw [← hAe]; exact Or.inr h
  have hS : va_S A s.heap s.heap [] := va_S.rf
  have hl := lv_entry ([.ref h, .int 3]) (n := 2) (Nat.le_of_ble_eq_true rfl)
  rw [lg_entry_eq]
  generalize (lg_sl ([.ref h, .int 3]) ++ List.replicate (2 - (lg_sl ([.ref h, .int 3])).length) Slot.unset).toArray = ls at hl ⊢
  have hl : lv_has ls 2 [(0, .ref h), (1, .int 3)] := hl
  refine lv_iload_n hx hb dX_count_0 rfl (lv_at hl 1 rfl) ?_
  refine lv_tableIn (off := 62) (tgt := 63) hx hb dX_count_1 (by decide) (by decide) rfl (by decide) ?_
  refine lv_aload_n hx hb dX_count_63 rfl (lv_at hl 0 rfl) ?_
  refine va_get (D := D) (ci := 0) (v := .int sl) (C := RX) (T := TX) (N := 11) hx hb hbg bg_X hown hK hP 0 rfl rfl 5 (by decide) (hbg _ bw_56) (fun _ h9 => h9) rfl dX_count_64 ?_
  refine W.widen (k := 0) (n := 0) (Nat.le_of_ble_eq_true rfl) (Nat.le_of_ble_eq_true rfl) ?_
  exact W.iret (v := sl) hx hb hr (fun t ht hW => ⟨⟨sl, (), rfl, rfl, by rw [ht]; exact hP, va_K.moved hW.alike hK, hD⟩, hS.F ht⟩) hS.2.2 dX_count_67

set_option maxHeartbeats 4000000 in
set_option maxRecDepth 100000 in
theorem ct_X_count_4 (l : Launch) (D : va_G) (h rr cc : Nat) (cI : ClassId) (N : Nat) (R C : Nat → Int32) (li us ob sl go gi fr la re : Int32) (sz : Nat) (hN : N < 2 ^ 31) : sy_Mi l yX_count (Cond.code yX_count bX_count 2 (some .int) :: sr_big) { frames := 6, cells := 0, slots := 0, locals := 90 } D vwC [(cI, .int)] [.ref h, .int 4] (wX h rr cc cI N R C li us ob sl go gi fr la re) sz go (wX h rr cc cI N R C li us ob sl go gi fr la re) 0 0 := by
  refine Met.ofW (cc := bX_count) (maxL := 2) (ret := (some .int)) (by decide) rfl ?_
  intro p e s m args below meth c s₁ B hml hv
  obtain ⟨rfl, hsz, hP, hK, hD0⟩ := hv
  have hx := B.exec
  have hb := B.bytes
  have hr := B.returns
  have hbg : ∀ w ∈ sr_big, w.before _ s = true := fun w h => atoms_spec (ws := Cond.code yX_count bX_count 2 (some .int) :: sr_big) B.pre w (List.mem_cons_of_mem _ h)
  have hown : s.vm.findClass RX = some m.cls := findClass_of_methodNamed B.named
  have hlocks := B.notSynchronized
  subst hsz
  have hD := hD0.self (sz := s.heap.size)
  generalize hAe : va_A (wX h rr cc cI N R C li us ob sl go gi fr la re) s.heap.size = A at *
  have hA : ∀ q : Nat, s.heap.size ≤ q → A q := fun q h => by rw [← hAe]; exact Or.inr h
  have hS : va_S A s.heap s.heap [] := va_S.rf
  have hl := lv_entry ([.ref h, .int 4]) (n := 2) (Nat.le_of_ble_eq_true rfl)
  rw [lg_entry_eq]
  generalize (lg_sl ([.ref h, .int 4]) ++ List.replicate (2 - (lg_sl ([.ref h, .int 4])).length) Slot.unset).toArray = ls at hl ⊢
  have hl : lv_has ls 2 [(0, .ref h), (1, .int 4)] := hl
  refine lv_iload_n hx hb dX_count_0 rfl (lv_at hl 1 rfl) ?_
  refine lv_tableIn (off := 67) (tgt := 68) hx hb dX_count_1 (by decide) (by decide) rfl (by decide) ?_
  refine lv_aload_n hx hb dX_count_68 rfl (lv_at hl 0 rfl) ?_
  refine va_get (D := D) (ci := 0) (v := .int go) (C := RX) (T := TX) (N := 11) hx hb hbg bg_X hown hK hP 0 rfl rfl 6 (by decide) (hbg _ bw_57) (fun _ h9 => h9) rfl dX_count_69 ?_
  refine W.widen (k := 0) (n := 0) (Nat.le_of_ble_eq_true rfl) (Nat.le_of_ble_eq_true rfl) ?_
  exact W.iret (v := go) hx hb hr (fun t ht hW => ⟨⟨go, (), rfl, rfl, by rw [ht]; exact hP, va_K.moved hW.alike hK, hD⟩, hS.F ht⟩) hS.2.2 dX_count_72

set_option maxHeartbeats 4000000 in
set_option maxRecDepth 100000 in
theorem ct_X_count_5 (l : Launch) (D : va_G) (h rr cc : Nat) (cI : ClassId) (N : Nat) (R C : Nat → Int32) (li us ob sl go gi fr la re : Int32) (sz : Nat) (hN : N < 2 ^ 31) : sy_Mi l yX_count (Cond.code yX_count bX_count 2 (some .int) :: sr_big) { frames := 6, cells := 0, slots := 0, locals := 90 } D vwC [(cI, .int)] [.ref h, .int 5] (wX h rr cc cI N R C li us ob sl go gi fr la re) sz gi (wX h rr cc cI N R C li us ob sl go gi fr la re) 0 0 := by
  refine Met.ofW (cc := bX_count) (maxL := 2) (ret := (some .int)) (by decide) rfl ?_
  intro p e s m args below meth c s₁ B hml hv
  obtain ⟨rfl, hsz, hP, hK, hD0⟩ := hv
  have hx := B.exec
  have hb := B.bytes
  have hr := B.returns
  have hbg : ∀ w ∈ sr_big, w.before _ s = true := fun w h => atoms_spec (ws := Cond.code yX_count bX_count 2 (some .int) :: sr_big) B.pre w (List.mem_cons_of_mem _ h)
  have hown : s.vm.findClass RX = some m.cls := findClass_of_methodNamed B.named
  have hlocks := B.notSynchronized
  subst hsz
  have hD := hD0.self (sz := s.heap.size)
  generalize hAe : va_A (wX h rr cc cI N R C li us ob sl go gi fr la re) s.heap.size = A at *
  have hA : ∀ q : Nat, s.heap.size ≤ q → A q := fun q h => by rw [← hAe]; exact Or.inr h
  have hS : va_S A s.heap s.heap [] := va_S.rf
  have hl := lv_entry ([.ref h, .int 5]) (n := 2) (Nat.le_of_ble_eq_true rfl)
  rw [lg_entry_eq]
  generalize (lg_sl ([.ref h, .int 5]) ++ List.replicate (2 - (lg_sl ([.ref h, .int 5])).length) Slot.unset).toArray = ls at hl ⊢
  have hl : lv_has ls 2 [(0, .ref h), (1, .int 5)] := hl
  refine lv_iload_n hx hb dX_count_0 rfl (lv_at hl 1 rfl) ?_
  refine lv_tableIn (off := 72) (tgt := 73) hx hb dX_count_1 (by decide) (by decide) rfl (by decide) ?_
  refine lv_aload_n hx hb dX_count_73 rfl (lv_at hl 0 rfl) ?_
  refine va_get (D := D) (ci := 0) (v := .int gi) (C := RX) (T := TX) (N := 11) hx hb hbg bg_X hown hK hP 0 rfl rfl 7 (by decide) (hbg _ bw_58) (fun _ h9 => h9) rfl dX_count_74 ?_
  refine W.widen (k := 0) (n := 0) (Nat.le_of_ble_eq_true rfl) (Nat.le_of_ble_eq_true rfl) ?_
  exact W.iret (v := gi) hx hb hr (fun t ht hW => ⟨⟨gi, (), rfl, rfl, by rw [ht]; exact hP, va_K.moved hW.alike hK, hD⟩, hS.F ht⟩) hS.2.2 dX_count_77

set_option maxHeartbeats 4000000 in
set_option maxRecDepth 100000 in
theorem ct_X_count_6 (l : Launch) (D : va_G) (h rr cc : Nat) (cI : ClassId) (N : Nat) (R C : Nat → Int32) (li us ob sl go gi fr la re : Int32) (sz : Nat) (hN : N < 2 ^ 31) : sy_Mi l yX_count (Cond.code yX_count bX_count 2 (some .int) :: sr_big) { frames := 6, cells := 0, slots := 0, locals := 90 } D vwC [(cI, .int)] [.ref h, .int 6] (wX h rr cc cI N R C li us ob sl go gi fr la re) sz li (wX h rr cc cI N R C li us ob sl go gi fr la re) 0 0 := by
  refine Met.ofW (cc := bX_count) (maxL := 2) (ret := (some .int)) (by decide) rfl ?_
  intro p e s m args below meth c s₁ B hml hv
  obtain ⟨rfl, hsz, hP, hK, hD0⟩ := hv
  have hx := B.exec
  have hb := B.bytes
  have hr := B.returns
  have hbg : ∀ w ∈ sr_big, w.before _ s = true := fun w h => atoms_spec (ws := Cond.code yX_count bX_count 2 (some .int) :: sr_big) B.pre w (List.mem_cons_of_mem _ h)
  have hown : s.vm.findClass RX = some m.cls := findClass_of_methodNamed B.named
  have hlocks := B.notSynchronized
  subst hsz
  have hD := hD0.self (sz := s.heap.size)
  generalize hAe : va_A (wX h rr cc cI N R C li us ob sl go gi fr la re) s.heap.size = A at *
  have hA : ∀ q : Nat, s.heap.size ≤ q → A q := fun q h => by rw [← hAe]; exact Or.inr h
  have hS : va_S A s.heap s.heap [] := va_S.rf
  have hl := lv_entry ([.ref h, .int 6]) (n := 2) (Nat.le_of_ble_eq_true rfl)
  rw [lg_entry_eq]
  generalize (lg_sl ([.ref h, .int 6]) ++ List.replicate (2 - (lg_sl ([.ref h, .int 6])).length) Slot.unset).toArray = ls at hl ⊢
  have hl : lv_has ls 2 [(0, .ref h), (1, .int 6)] := hl
  refine lv_iload_n hx hb dX_count_0 rfl (lv_at hl 1 rfl) ?_
  refine lv_tableIn (off := 77) (tgt := 78) hx hb dX_count_1 (by decide) (by decide) rfl (by decide) ?_
  refine lv_aload_n hx hb dX_count_78 rfl (lv_at hl 0 rfl) ?_
  refine va_get (D := D) (ci := 0) (v := .int li) (C := RX) (T := TX) (N := 11) hx hb hbg bg_X hown hK hP 0 rfl rfl 2 (by decide) (hbg _ bw_53) (fun _ h9 => h9) rfl dX_count_79 ?_
  refine W.widen (k := 0) (n := 0) (Nat.le_of_ble_eq_true rfl) (Nat.le_of_ble_eq_true rfl) ?_
  exact W.iret (v := li) hx hb hr (fun t ht hW => ⟨⟨li, (), rfl, rfl, by rw [ht]; exact hP, va_K.moved hW.alike hK, hD⟩, hS.F ht⟩) hS.2.2 dX_count_82

set_option maxHeartbeats 4000000 in
set_option maxRecDepth 100000 in
theorem ct_X_count_b (l : Launch) (D : va_G) (h rr cc : Nat) (cI : ClassId) (N : Nat) (R C : Nat → Int32) (li us ob sl go gi fr la re : Int32) (sz : Nat) (x : Int32) (hN : N < 2 ^ 31) (hst : l.stackTraces = false) (hg : x.toInt < 0 ∨ 6 < x.toInt) : sy_Mx l yX_count (Cond.code yX_count bX_count 2 (some .int) :: sr_big) { frames := 6, cells := 1, slots := 6, locals := 90 } D vwC [(cI, .int)] [.ref h, .int x] (wX h rr cc cI N R C li us ob sl go gi fr la re) sz sx_IAE 1 6 := by
  refine vx_ofW (cc := bX_count) (maxL := 2) (ret := (some .int)) (by decide) rfl ?_
  intro p e s m args below meth c s₁ B hml htab hv
  obtain ⟨rfl, ⟨hsz, hP, hK, hD0⟩, hG⟩ := hv
  have hx := B.exec
  have hb := B.bytes
  have hr := B.returns
  have hbg : ∀ w ∈ sr_big, w.before _ s = true := fun w h => atoms_spec (ws := Cond.code yX_count bX_count 2 (some .int) :: sr_big) B.pre w (List.mem_cons_of_mem _ h)
  have hown : s.vm.findClass RX = some m.cls := findClass_of_methodNamed B.named
  have hlocks := B.notSynchronized
  subst hsz
  have hD := hD0.self (sz := s.heap.size)
  generalize hAe : va_A (wX h rr cc cI N R C li us ob sl go gi fr la re) s.heap.size = A at *
  have hA : ∀ q : Nat, s.heap.size ≤ q → A q := fun q h => by rw [← hAe]; exact Or.inr h
  have hS : va_S A s.heap s.heap [] := va_S.rf
  have hl := lv_entry ([.ref h, .int x]) (n := 2) (Nat.le_of_ble_eq_true rfl)
  rw [lg_entry_eq]
  generalize (lg_sl ([.ref h, .int x]) ++ List.replicate (2 - (lg_sl ([.ref h, .int x])).length) Slot.unset).toArray = ls at hl ⊢
  have hl : lv_has ls 2 [(0, .ref h), (1, .int x)] := hl
  refine lv_iload_n hx hb dX_count_0 rfl (lv_at hl 1 rfl) ?_
  refine lv_tableOut (tgt := 83) hx hb dX_count_1 hg (by decide) ?_
  exact sy_throw (E := sx_IAE) (text := "what is not 0 .. 6") (Or.inl ⟨rfl, rfl, rfl, rfl, rfl⟩) hx hb hst hown hbg (by decide) hG hP hK hD hS (hl.1.trans hml.symm) dX_count_83 dX_count_86 dX_count_87 dX_count_89 dX_count_92 htab (Nat.le_of_ble_eq_true rfl) (Nat.le_of_ble_eq_true rfl) (Nat.le_of_ble_eq_true rfl) (Nat.le_of_ble_eq_true rfl) hlocks (Nat.le_of_ble_eq_true rfl) (Nat.le_of_ble_eq_true rfl)
