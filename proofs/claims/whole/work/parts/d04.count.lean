/-! CONTRACTS OF SlideRowModel: count (rows laid by wip/gen) -/

set_option maxHeartbeats 4000000 in
set_option maxRecDepth 100000 in
theorem ct_M_count_0 (l : Launch) (D : va_G) (g fA wA nA tA rA dA oA : Nat) (cI cZ : ClassId) (F Wd Nm Tg Rc Dt Rt : Nat → Int32) (th ce sl go gi : Int32) (sz : Nat) (us : List sr_O) (t : Nat) (hst : 1 + sr_tot us = t ∧ sr_hd F Wd 1 us) (h5 : t ≤ 16385)  : sy_Mi l yM_count (Cond.code yM_count bM_count 2 (some .int) :: sr_big) { frames := 2, cells := 0, slots := 0, locals := 46 } D vwC [(cI, .int), (cZ, .boolean)] [.ref g, .int 0] (wM g fA wA nA tA rA dA oA cI cZ F Wd Nm Tg Rc Dt Rt th ce (nI t) sl go gi) sz (nI us.length) (wM g fA wA nA tA rA dA oA cI cZ F Wd Nm Tg Rc Dt Rt 0 ce (nI t) sl go gi) 0 0 := by
  refine Met.ofW (cc := bM_count) (maxL := 2) (ret := (some .int)) (by decide) rfl ?_
  intro p e s m args below meth c s₁ B hml hv
  obtain ⟨rfl, hsz, hP, hK, hD0⟩ := hv
  have hx := B.exec
  have hb := B.bytes
  have hr := B.returns
  have hbg : ∀ w ∈ sr_big, w.before _ s = true := fun w h => atoms_spec (ws := Cond.code yM_count bM_count 2 (some .int) :: sr_big) B.pre w (List.mem_cons_of_mem _ h)
  have hown : s.vm.findClass RM = some m.cls := findClass_of_methodNamed B.named
  have hlocks := B.notSynchronized
  subst hsz
  have hD := hD0.self (sz := s.heap.size)
  generalize hAe : va_A (wM g fA wA nA tA rA dA oA cI cZ F Wd Nm Tg Rc Dt Rt th ce (nI t) sl go gi) s.heap.size = A at *
  have hA : ∀ q : Nat, s.heap.size ≤ q → A q := fun q h => by rw [← hAe]; exact Or.inr h
  have hS : va_S A s.heap s.heap [] := va_S.rf
  have hl := lv_entry ([.ref g, .int 0]) (n := 2) (Nat.le_of_ble_eq_true rfl)
  rw [lg_entry_eq]
  generalize (lg_sl ([.ref g, .int 0]) ++ List.replicate (2 - (lg_sl ([.ref g, .int 0])).length) Slot.unset).toArray = ls at hl ⊢
  have hl : lv_has ls 2 [(0, .ref g), (1, .int 0)] := hl
  refine lv_aload_n hx hb dM_count_0 rfl (lv_at hl 0 rfl) ?_
  refine lv_iload_n hx hb dM_count_1 rfl (lv_at hl 1 rfl) ?_
  refine lv_if_lt (tgt := 15) hx hb dM_count_2 (by decide) (fun z => absurd z (by decide)) (fun _ => ?_)
  refine lv_iload_n hx hb dM_count_5 rfl (lv_at hl 1 rfl) ?_
  refine lv_bipush (v := 6) hx hb dM_count_6 (by decide) ?_
  refine lv_icmp_gt (tgt := 15) hx hb dM_count_8 (by decide) (fun z => absurd z (by decide)) (fun _ => ?_)
  refine lv_iconst (v := 1) hx hb dM_count_11 (by decide) ?_
  refine lv_goto (tgt := 16) hx hb dM_count_12 (by decide) ?_
  refine sy_cVi (wc := wM g fA wA nA tA rA dA oA cI cZ F Wd Nm Tg Rc Dt Rt th ce (nI t) sl go gi) (wr := []) (w1 := wM g fA wA nA tA rA dA oA cI cZ F Wd Nm Tg Rc Dt Rt 0 ce (nI t) sl go gi) (ci := 1) (q0 := 0) (As := [.int 1]) (rest := []) ⟨hx, hb, hml, hown, hbg⟩ (ct_M_goes_k l D g fA wA nA tA rA dA oA cI cZ F Wd Nm Tg Rc Dt Rt th ce (nI t) sl go gi s.heap.size 1 rfl) (cwV 1 hbg (bg_V bw_344 bw_345 bw_25 bw_35 bw_346) rfl rfl rfl (by decide +kernel) ⟨Nat.le_of_ble_eq_true rfl, Nat.le_of_ble_eq_true rfl⟩) hK [0, 1] rfl hP hD hS hA [0, 1, 2, 3, 4, 5, 6, 7] [] rfl rfl rfl rfl (by decide) rfl rfl rfl hl.1 rfl (Nat.le_of_ble_eq_true rfl) dM_count_16 ⟨Nat.le_of_ble_eq_true rfl, Nat.le_of_ble_eq_true rfl⟩ (fun H locs hP hD hS => ?_)
  have hP : va_P D vwC (wM g fA wA nA tA rA dA oA cI cZ F Wd Nm Tg Rc Dt Rt 0 ce (nI t) sl go gi) H := hP
  have hD : va_D A (wM g fA wA nA tA rA dA oA cI cZ F Wd Nm Tg Rc Dt Rt 0 ce (nI t) sl go gi) := hD
  refine lv_if_ne (tgt := 24) hx hb dM_count_19 (by decide) (fun _ => ?_) (fun z => absurd z (by decide))
  refine lv_iload_n hx hb dM_count_24 rfl (lv_at hl 1 rfl) ?_
  refine lv_tableIn (off := 39) (tgt := 64) hx hb dM_count_25 (by decide) (by decide) rfl (by decide) ?_
  refine lv_aload_n hx hb dM_count_64 rfl (lv_at hl 0 rfl) ?_
  refine sy_cVi (wc := wM g fA wA nA tA rA dA oA cI cZ F Wd Nm Tg Rc Dt Rt 0 ce (nI t) sl go gi) (wr := []) (w1 := wM g fA wA nA tA rA dA oA cI cZ F Wd Nm Tg Rc Dt Rt 0 ce (nI t) sl go gi) (ci := 1) (q0 := 0) (As := []) (rest := []) ⟨hx, hb, hml, hown, hbg⟩ (ct_M_objects l D g fA wA nA tA rA dA oA cI cZ F Wd Nm Tg Rc Dt Rt 0 ce sl go gi H.size us t hst h5) (cwV 0 hbg (bg_V bw_397 bw_398 bw_31 bw_35 bw_399) rfl rfl rfl (by decide +kernel) ⟨Nat.le_of_ble_eq_true rfl, Nat.le_of_ble_eq_true rfl⟩) hK [0, 1] rfl hP hD hS hA [0, 1, 2, 3, 4, 5, 6, 7] [] rfl rfl rfl rfl (by decide) rfl rfl rfl hl.1 rfl (Nat.le_of_ble_eq_true rfl) dM_count_65 ⟨Nat.le_of_ble_eq_true rfl, Nat.le_of_ble_eq_true rfl⟩ (fun H locs hP hD hS => ?_)
  have hP : va_P D vwC (wM g fA wA nA tA rA dA oA cI cZ F Wd Nm Tg Rc Dt Rt 0 ce (nI t) sl go gi) H := hP
  have hD : va_D A (wM g fA wA nA tA rA dA oA cI cZ F Wd Nm Tg Rc Dt Rt 0 ce (nI t) sl go gi) := hD
  refine W.widen (k := 0) (n := 0) (Nat.le_of_ble_eq_true rfl) (Nat.le_of_ble_eq_true rfl) ?_
  exact W.iret (v := nI us.length) hx hb hr (fun t9 ht hW => ⟨⟨nI us.length, (), rfl, rfl, by rw [ht]; exact hP, va_K.moved hW.alike hK, hD⟩, hS.F ht⟩) hS.2.2 dM_count_68

set_option maxHeartbeats 4000000 in
set_option maxRecDepth 100000 in
theorem ct_M_count_2 (l : Launch) (D : va_G) (g fA wA nA tA rA dA oA : Nat) (cI cZ : ClassId) (F Wd Nm Tg Rc Dt Rt : Nat → Int32) (th ce sl go gi : Int32) (sz : Nat) (us : List sr_O) (t : Nat) (hst : 1 + sr_tot us = t ∧ sr_hd F Wd 1 us) (h5 : t ≤ 16385) (hR : ∀ r1, r1 < 16 → vp_in (Rt r1) 16386) (hV : ∀ q1 o1, sr_ob 1 us q1 o1 → ∀ i1, i1 < o1.1 → vp_in (Dt (q1 + 3 + i1)) 16386)  : sy_Mi l yM_count (Cond.code yM_count bM_count 2 (some .int) :: sr_big) { frames := 2, cells := 0, slots := 0, locals := 46 } D vwC [(cI, .int), (cZ, .boolean)] [.ref g, .int 2] (wM g fA wA nA tA rA dA oA cI cZ F Wd Nm Tg Rc Dt Rt th ce (nI t) sl go gi) sz (nI (sr_kp (sr_mm (sm_rc Dt Rt us t Rc)) 1 us).length) (wM g fA wA nA tA rA dA oA cI cZ F Wd Nm Tg (sm_rc Dt Rt us t Rc) Dt Rt 0 ce (nI t) sl go gi) 0 0 := by
  refine Met.ofW (cc := bM_count) (maxL := 2) (ret := (some .int)) (by decide) rfl ?_
  intro p e s m args below meth c s₁ B hml hv
  obtain ⟨rfl, hsz, hP, hK, hD0⟩ := hv
  have hx := B.exec
  have hb := B.bytes
  have hr := B.returns
  have hbg : ∀ w ∈ sr_big, w.before _ s = true := fun w h => atoms_spec (ws := Cond.code yM_count bM_count 2 (some .int) :: sr_big) B.pre w (List.mem_cons_of_mem _ h)
  have hown : s.vm.findClass RM = some m.cls := findClass_of_methodNamed B.named
  have hlocks := B.notSynchronized
  subst hsz
  have hD := hD0.self (sz := s.heap.size)
  generalize hAe : va_A (wM g fA wA nA tA rA dA oA cI cZ F Wd Nm Tg Rc Dt Rt th ce (nI t) sl go gi) s.heap.size = A at *
  have hA : ∀ q : Nat, s.heap.size ≤ q → A q := fun q h => by rw [← hAe]; exact Or.inr h
  have hS : va_S A s.heap s.heap [] := va_S.rf
  have hl := lv_entry ([.ref g, .int 2]) (n := 2) (Nat.le_of_ble_eq_true rfl)
  rw [lg_entry_eq]
  generalize (lg_sl ([.ref g, .int 2]) ++ List.replicate (2 - (lg_sl ([.ref g, .int 2])).length) Slot.unset).toArray = ls at hl ⊢
  have hl : lv_has ls 2 [(0, .ref g), (1, .int 2)] := hl
  refine lv_aload_n hx hb dM_count_0 rfl (lv_at hl 0 rfl) ?_
  refine lv_iload_n hx hb dM_count_1 rfl (lv_at hl 1 rfl) ?_
  refine lv_if_lt (tgt := 15) hx hb dM_count_2 (by decide) (fun z => absurd z (by decide)) (fun _ => ?_)
  refine lv_iload_n hx hb dM_count_5 rfl (lv_at hl 1 rfl) ?_
  refine lv_bipush (v := 6) hx hb dM_count_6 (by decide) ?_
  refine lv_icmp_gt (tgt := 15) hx hb dM_count_8 (by decide) (fun z => absurd z (by decide)) (fun _ => ?_)
  refine lv_iconst (v := 1) hx hb dM_count_11 (by decide) ?_
  refine lv_goto (tgt := 16) hx hb dM_count_12 (by decide) ?_
  refine sy_cVi (wc := wM g fA wA nA tA rA dA oA cI cZ F Wd Nm Tg Rc Dt Rt th ce (nI t) sl go gi) (wr := []) (w1 := wM g fA wA nA tA rA dA oA cI cZ F Wd Nm Tg Rc Dt Rt 0 ce (nI t) sl go gi) (ci := 1) (q0 := 0) (As := [.int 1]) (rest := []) ⟨hx, hb, hml, hown, hbg⟩ (ct_M_goes_k l D g fA wA nA tA rA dA oA cI cZ F Wd Nm Tg Rc Dt Rt th ce (nI t) sl go gi s.heap.size 1 rfl) (cwV 1 hbg (bg_V bw_344 bw_345 bw_25 bw_35 bw_346) rfl rfl rfl (by decide +kernel) ⟨Nat.le_of_ble_eq_true rfl, Nat.le_of_ble_eq_true rfl⟩) hK [0, 1] rfl hP hD hS hA [0, 1, 2, 3, 4, 5, 6, 7] [] rfl rfl rfl rfl (by decide) rfl rfl rfl hl.1 rfl (Nat.le_of_ble_eq_true rfl) dM_count_16 ⟨Nat.le_of_ble_eq_true rfl, Nat.le_of_ble_eq_true rfl⟩ (fun H locs hP hD hS => ?_)
  have hP : va_P D vwC (wM g fA wA nA tA rA dA oA cI cZ F Wd Nm Tg Rc Dt Rt 0 ce (nI t) sl go gi) H := hP
  have hD : va_D A (wM g fA wA nA tA rA dA oA cI cZ F Wd Nm Tg Rc Dt Rt 0 ce (nI t) sl go gi) := hD
  refine lv_if_ne (tgt := 24) hx hb dM_count_19 (by decide) (fun _ => ?_) (fun z => absurd z (by decide))
  refine lv_iload_n hx hb dM_count_24 rfl (lv_at hl 1 rfl) ?_
  refine lv_tableIn (off := 51) (tgt := 76) hx hb dM_count_25 (by decide) (by decide) rfl (by decide) ?_
  refine lv_aload_n hx hb dM_count_76 rfl (lv_at hl 0 rfl) ?_
  refine sy_cVi (wc := wM g fA wA nA tA rA dA oA cI cZ F Wd Nm Tg Rc Dt Rt 0 ce (nI t) sl go gi) (wr := []) (w1 := wM g fA wA nA tA rA dA oA cI cZ F Wd Nm Tg (sm_rc Dt Rt us t Rc) Dt Rt 0 ce (nI t) sl go gi) (ci := 1) (q0 := 0) (As := []) (rest := []) ⟨hx, hb, hml, hown, hbg⟩ (ct_M_reach l D g fA wA nA tA rA dA oA cI cZ F Wd Nm Tg Rc Dt Rt 0 ce sl go gi H.size us t hst h5 hR hV) (cwV 0 hbg (bg_V bw_391 bw_392 bw_29 bw_35 bw_393) rfl rfl rfl (by decide +kernel) ⟨Nat.le_of_ble_eq_true rfl, Nat.le_of_ble_eq_true rfl⟩) hK [0, 1] rfl hP hD hS hA [0, 1, 2, 3, 4, 5, 6, 7] [] rfl rfl rfl rfl (by decide) rfl rfl rfl hl.1 rfl (Nat.le_of_ble_eq_true rfl) dM_count_77 ⟨Nat.le_of_ble_eq_true rfl, Nat.le_of_ble_eq_true rfl⟩ (fun H locs hP hD hS => ?_)
  have hP : va_P D vwC (wM g fA wA nA tA rA dA oA cI cZ F Wd Nm Tg (sm_rc Dt Rt us t Rc) Dt Rt 0 ce (nI t) sl go gi) H := hP
  have hD : va_D A (wM g fA wA nA tA rA dA oA cI cZ F Wd Nm Tg (sm_rc Dt Rt us t Rc) Dt Rt 0 ce (nI t) sl go gi) := hD
  refine W.widen (k := 0) (n := 0) (Nat.le_of_ble_eq_true rfl) (Nat.le_of_ble_eq_true rfl) ?_
  exact W.iret (v := nI (sr_kp (sr_mm (sm_rc Dt Rt us t Rc)) 1 us).length) hx hb hr (fun t9 ht hW => ⟨⟨nI (sr_kp (sr_mm (sm_rc Dt Rt us t Rc)) 1 us).length, (), rfl, rfl, by rw [ht]; exact hP, va_K.moved hW.alike hK, hD⟩, hS.F ht⟩) hS.2.2 dM_count_80

set_option maxHeartbeats 4000000 in
set_option maxRecDepth 100000 in
theorem ct_M_count_1 (l : Launch) (D : va_G) (g fA wA nA tA rA dA oA : Nat) (cI cZ : ClassId) (F Wd Nm Tg Rc Dt Rt : Nat → Int32) (th ce tp sl go gi : Int32) (sz : Nat)  : sy_Mi l yM_count (Cond.code yM_count bM_count 2 (some .int) :: sr_big) { frames := 2, cells := 0, slots := 0, locals := 46 } D vwC [(cI, .int), (cZ, .boolean)] [.ref g, .int 1] (wM g fA wA nA tA rA dA oA cI cZ F Wd Nm Tg Rc Dt Rt th ce tp sl go gi) sz (tp - 1) (wM g fA wA nA tA rA dA oA cI cZ F Wd Nm Tg Rc Dt Rt 0 ce tp sl go gi) 0 0 := by
  refine Met.ofW (cc := bM_count) (maxL := 2) (ret := (some .int)) (by decide) rfl ?_
  intro p e s m args below meth c s₁ B hml hv
  obtain ⟨rfl, hsz, hP, hK, hD0⟩ := hv
  have hx := B.exec
  have hb := B.bytes
  have hr := B.returns
  have hbg : ∀ w ∈ sr_big, w.before _ s = true := fun w h => atoms_spec (ws := Cond.code yM_count bM_count 2 (some .int) :: sr_big) B.pre w (List.mem_cons_of_mem _ h)
  have hown : s.vm.findClass RM = some m.cls := findClass_of_methodNamed B.named
  have hlocks := B.notSynchronized
  subst hsz
  have hD := hD0.self (sz := s.heap.size)
  generalize hAe : va_A (wM g fA wA nA tA rA dA oA cI cZ F Wd Nm Tg Rc Dt Rt th ce tp sl go gi) s.heap.size = A at *
  have hA : ∀ q : Nat, s.heap.size ≤ q → A q := fun q h => by rw [← hAe]; exact Or.inr h
  have hS : va_S A s.heap s.heap [] := va_S.rf
  have hl := lv_entry ([.ref g, .int 1]) (n := 2) (Nat.le_of_ble_eq_true rfl)
  rw [lg_entry_eq]
  generalize (lg_sl ([.ref g, .int 1]) ++ List.replicate (2 - (lg_sl ([.ref g, .int 1])).length) Slot.unset).toArray = ls at hl ⊢
  have hl : lv_has ls 2 [(0, .ref g), (1, .int 1)] := hl
  refine lv_aload_n hx hb dM_count_0 rfl (lv_at hl 0 rfl) ?_
  refine lv_iload_n hx hb dM_count_1 rfl (lv_at hl 1 rfl) ?_
  refine lv_if_lt (tgt := 15) hx hb dM_count_2 (by decide) (fun z => absurd z (by decide)) (fun _ => ?_)
  refine lv_iload_n hx hb dM_count_5 rfl (lv_at hl 1 rfl) ?_
  refine lv_bipush (v := 6) hx hb dM_count_6 (by decide) ?_
  refine lv_icmp_gt (tgt := 15) hx hb dM_count_8 (by decide) (fun z => absurd z (by decide)) (fun _ => ?_)
  refine lv_iconst (v := 1) hx hb dM_count_11 (by decide) ?_
  refine lv_goto (tgt := 16) hx hb dM_count_12 (by decide) ?_
  refine sy_cVi (wc := wM g fA wA nA tA rA dA oA cI cZ F Wd Nm Tg Rc Dt Rt th ce tp sl go gi) (wr := []) (w1 := wM g fA wA nA tA rA dA oA cI cZ F Wd Nm Tg Rc Dt Rt 0 ce tp sl go gi) (ci := 1) (q0 := 0) (As := [.int 1]) (rest := []) ⟨hx, hb, hml, hown, hbg⟩ (ct_M_goes_k l D g fA wA nA tA rA dA oA cI cZ F Wd Nm Tg Rc Dt Rt th ce tp sl go gi s.heap.size 1 rfl) (cwV 1 hbg (bg_V bw_344 bw_345 bw_25 bw_35 bw_346) rfl rfl rfl (by decide +kernel) ⟨Nat.le_of_ble_eq_true rfl, Nat.le_of_ble_eq_true rfl⟩) hK [0, 1] rfl hP hD hS hA [0, 1, 2, 3, 4, 5, 6, 7] [] rfl rfl rfl rfl (by decide) rfl rfl rfl hl.1 rfl (Nat.le_of_ble_eq_true rfl) dM_count_16 ⟨Nat.le_of_ble_eq_true rfl, Nat.le_of_ble_eq_true rfl⟩ (fun H locs hP hD hS => ?_)
  have hP : va_P D vwC (wM g fA wA nA tA rA dA oA cI cZ F Wd Nm Tg Rc Dt Rt 0 ce tp sl go gi) H := hP
  have hD : va_D A (wM g fA wA nA tA rA dA oA cI cZ F Wd Nm Tg Rc Dt Rt 0 ce tp sl go gi) := hD
  refine lv_if_ne (tgt := 24) hx hb dM_count_19 (by decide) (fun _ => ?_) (fun z => absurd z (by decide))
  refine lv_iload_n hx hb dM_count_24 rfl (lv_at hl 1 rfl) ?_
  refine lv_tableIn (off := 44) (tgt := 69) hx hb dM_count_25 (by decide) (by decide) rfl (by decide) ?_
  refine lv_aload_n hx hb dM_count_69 rfl (lv_at hl 0 rfl) ?_
  refine va_get (D := D) (ci := 1) (v := .int tp) (C := RM) (T := TM) (N := 13) hx hb hbg bg_M hown hK hP 0 rfl rfl 2 (by decide) (hbg _ bw_311) (fun _ h9 => h9) rfl dM_count_70 ?_
  refine lv_iconst (v := 1) hx hb dM_count_73 (by decide) ?_
  refine lv_isub hx hb dM_count_74 ?_
  refine W.widen (k := 0) (n := 0) (Nat.le_of_ble_eq_true rfl) (Nat.le_of_ble_eq_true rfl) ?_
  exact W.iret (v := tp - 1) hx hb hr (fun t9 ht hW => ⟨⟨tp - 1, (), rfl, rfl, by rw [ht]; exact hP, va_K.moved hW.alike hK, hD⟩, hS.F ht⟩) hS.2.2 dM_count_75

set_option maxHeartbeats 4000000 in
set_option maxRecDepth 100000 in
theorem ct_M_count_3 (l : Launch) (D : va_G) (g fA wA nA tA rA dA oA : Nat) (cI cZ : ClassId) (F Wd Nm Tg Rc Dt Rt : Nat → Int32) (th ce tp sl go gi : Int32) (sz : Nat)  : sy_Mi l yM_count (Cond.code yM_count bM_count 2 (some .int) :: sr_big) { frames := 2, cells := 0, slots := 0, locals := 46 } D vwC [(cI, .int), (cZ, .boolean)] [.ref g, .int 3] (wM g fA wA nA tA rA dA oA cI cZ F Wd Nm Tg Rc Dt Rt th ce tp sl go gi) sz sl (wM g fA wA nA tA rA dA oA cI cZ F Wd Nm Tg Rc Dt Rt 0 ce tp sl go gi) 0 0 := by
  refine Met.ofW (cc := bM_count) (maxL := 2) (ret := (some .int)) (by decide) rfl ?_
  intro p e s m args below meth c s₁ B hml hv
  obtain ⟨rfl, hsz, hP, hK, hD0⟩ := hv
  have hx := B.exec
  have hb := B.bytes
  have hr := B.returns
  have hbg : ∀ w ∈ sr_big, w.before _ s = true := fun w h => atoms_spec (ws := Cond.code yM_count bM_count 2 (some .int) :: sr_big) B.pre w (List.mem_cons_of_mem _ h)
  have hown : s.vm.findClass RM = some m.cls := findClass_of_methodNamed B.named
  have hlocks := B.notSynchronized
  subst hsz
  have hD := hD0.self (sz := s.heap.size)
  generalize hAe : va_A (wM g fA wA nA tA rA dA oA cI cZ F Wd Nm Tg Rc Dt Rt th ce tp sl go gi) s.heap.size = A at *
  have hA : ∀ q : Nat, s.heap.size ≤ q → A q := fun q h => by rw [← hAe]; exact Or.inr h
  have hS : va_S A s.heap s.heap [] := va_S.rf
  have hl := lv_entry ([.ref g, .int 3]) (n := 2) (Nat.le_of_ble_eq_true rfl)
  rw [lg_entry_eq]
  generalize (lg_sl ([.ref g, .int 3]) ++ List.replicate (2 - (lg_sl ([.ref g, .int 3])).length) Slot.unset).toArray = ls at hl ⊢
  have hl : lv_has ls 2 [(0, .ref g), (1, .int 3)] := hl
  refine lv_aload_n hx hb dM_count_0 rfl (lv_at hl 0 rfl) ?_
  refine lv_iload_n hx hb dM_count_1 rfl (lv_at hl 1 rfl) ?_
  refine lv_if_lt (tgt := 15) hx hb dM_count_2 (by decide) (fun z => absurd z (by decide)) (fun _ => ?_)
  refine lv_iload_n hx hb dM_count_5 rfl (lv_at hl 1 rfl) ?_
  refine lv_bipush (v := 6) hx hb dM_count_6 (by decide) ?_
  refine lv_icmp_gt (tgt := 15) hx hb dM_count_8 (by decide) (fun z => absurd z (by decide)) (fun _ => ?_)
  refine lv_iconst (v := 1) hx hb dM_count_11 (by decide) ?_
  refine lv_goto (tgt := 16) hx hb dM_count_12 (by decide) ?_
  refine sy_cVi (wc := wM g fA wA nA tA rA dA oA cI cZ F Wd Nm Tg Rc Dt Rt th ce tp sl go gi) (wr := []) (w1 := wM g fA wA nA tA rA dA oA cI cZ F Wd Nm Tg Rc Dt Rt 0 ce tp sl go gi) (ci := 1) (q0 := 0) (As := [.int 1]) (rest := []) ⟨hx, hb, hml, hown, hbg⟩ (ct_M_goes_k l D g fA wA nA tA rA dA oA cI cZ F Wd Nm Tg Rc Dt Rt th ce tp sl go gi s.heap.size 1 rfl) (cwV 1 hbg (bg_V bw_344 bw_345 bw_25 bw_35 bw_346) rfl rfl rfl (by decide +kernel) ⟨Nat.le_of_ble_eq_true rfl, Nat.le_of_ble_eq_true rfl⟩) hK [0, 1] rfl hP hD hS hA [0, 1, 2, 3, 4, 5, 6, 7] [] rfl rfl rfl rfl (by decide) rfl rfl rfl hl.1 rfl (Nat.le_of_ble_eq_true rfl) dM_count_16 ⟨Nat.le_of_ble_eq_true rfl, Nat.le_of_ble_eq_true rfl⟩ (fun H locs hP hD hS => ?_)
  have hP : va_P D vwC (wM g fA wA nA tA rA dA oA cI cZ F Wd Nm Tg Rc Dt Rt 0 ce tp sl go gi) H := hP
  have hD : va_D A (wM g fA wA nA tA rA dA oA cI cZ F Wd Nm Tg Rc Dt Rt 0 ce tp sl go gi) := hD
  refine lv_if_ne (tgt := 24) hx hb dM_count_19 (by decide) (fun _ => ?_) (fun z => absurd z (by decide))
  refine lv_iload_n hx hb dM_count_24 rfl (lv_at hl 1 rfl) ?_
  refine lv_tableIn (off := 56) (tgt := 81) hx hb dM_count_25 (by decide) (by decide) rfl (by decide) ?_
  refine lv_aload_n hx hb dM_count_81 rfl (lv_at hl 0 rfl) ?_
  refine va_get (D := D) (ci := 1) (v := .int sl) (C := RM) (T := TM) (N := 13) hx hb hbg bg_M hown hK hP 0 rfl rfl 10 (by decide) (hbg _ bw_319) (fun _ h9 => h9) rfl dM_count_82 ?_
  refine W.widen (k := 0) (n := 0) (Nat.le_of_ble_eq_true rfl) (Nat.le_of_ble_eq_true rfl) ?_
  exact W.iret (v := sl) hx hb hr (fun t9 ht hW => ⟨⟨sl, (), rfl, rfl, by rw [ht]; exact hP, va_K.moved hW.alike hK, hD⟩, hS.F ht⟩) hS.2.2 dM_count_85

set_option maxHeartbeats 4000000 in
set_option maxRecDepth 100000 in
theorem ct_M_count_4 (l : Launch) (D : va_G) (g fA wA nA tA rA dA oA : Nat) (cI cZ : ClassId) (F Wd Nm Tg Rc Dt Rt : Nat → Int32) (th ce tp sl go gi : Int32) (sz : Nat)  : sy_Mi l yM_count (Cond.code yM_count bM_count 2 (some .int) :: sr_big) { frames := 2, cells := 0, slots := 0, locals := 46 } D vwC [(cI, .int), (cZ, .boolean)] [.ref g, .int 4] (wM g fA wA nA tA rA dA oA cI cZ F Wd Nm Tg Rc Dt Rt th ce tp sl go gi) sz go (wM g fA wA nA tA rA dA oA cI cZ F Wd Nm Tg Rc Dt Rt 0 ce tp sl go gi) 0 0 := by
  refine Met.ofW (cc := bM_count) (maxL := 2) (ret := (some .int)) (by decide) rfl ?_
  intro p e s m args below meth c s₁ B hml hv
  obtain ⟨rfl, hsz, hP, hK, hD0⟩ := hv
  have hx := B.exec
  have hb := B.bytes
  have hr := B.returns
  have hbg : ∀ w ∈ sr_big, w.before _ s = true := fun w h => atoms_spec (ws := Cond.code yM_count bM_count 2 (some .int) :: sr_big) B.pre w (List.mem_cons_of_mem _ h)
  have hown : s.vm.findClass RM = some m.cls := findClass_of_methodNamed B.named
  have hlocks := B.notSynchronized
  subst hsz
  have hD := hD0.self (sz := s.heap.size)
  generalize hAe : va_A (wM g fA wA nA tA rA dA oA cI cZ F Wd Nm Tg Rc Dt Rt th ce tp sl go gi) s.heap.size = A at *
  have hA : ∀ q : Nat, s.heap.size ≤ q → A q := fun q h => by rw [← hAe]; exact Or.inr h
  have hS : va_S A s.heap s.heap [] := va_S.rf
  have hl := lv_entry ([.ref g, .int 4]) (n := 2) (Nat.le_of_ble_eq_true rfl)
  rw [lg_entry_eq]
  generalize (lg_sl ([.ref g, .int 4]) ++ List.replicate (2 - (lg_sl ([.ref g, .int 4])).length) Slot.unset).toArray = ls at hl ⊢
  have hl : lv_has ls 2 [(0, .ref g), (1, .int 4)] := hl
  refine lv_aload_n hx hb dM_count_0 rfl (lv_at hl 0 rfl) ?_
  refine lv_iload_n hx hb dM_count_1 rfl (lv_at hl 1 rfl) ?_
  refine lv_if_lt (tgt := 15) hx hb dM_count_2 (by decide) (fun z => absurd z (by decide)) (fun _ => ?_)
  refine lv_iload_n hx hb dM_count_5 rfl (lv_at hl 1 rfl) ?_
  refine lv_bipush (v := 6) hx hb dM_count_6 (by decide) ?_
  refine lv_icmp_gt (tgt := 15) hx hb dM_count_8 (by decide) (fun z => absurd z (by decide)) (fun _ => ?_)
  refine lv_iconst (v := 1) hx hb dM_count_11 (by decide) ?_
  refine lv_goto (tgt := 16) hx hb dM_count_12 (by decide) ?_
  refine sy_cVi (wc := wM g fA wA nA tA rA dA oA cI cZ F Wd Nm Tg Rc Dt Rt th ce tp sl go gi) (wr := []) (w1 := wM g fA wA nA tA rA dA oA cI cZ F Wd Nm Tg Rc Dt Rt 0 ce tp sl go gi) (ci := 1) (q0 := 0) (As := [.int 1]) (rest := []) ⟨hx, hb, hml, hown, hbg⟩ (ct_M_goes_k l D g fA wA nA tA rA dA oA cI cZ F Wd Nm Tg Rc Dt Rt th ce tp sl go gi s.heap.size 1 rfl) (cwV 1 hbg (bg_V bw_344 bw_345 bw_25 bw_35 bw_346) rfl rfl rfl (by decide +kernel) ⟨Nat.le_of_ble_eq_true rfl, Nat.le_of_ble_eq_true rfl⟩) hK [0, 1] rfl hP hD hS hA [0, 1, 2, 3, 4, 5, 6, 7] [] rfl rfl rfl rfl (by decide) rfl rfl rfl hl.1 rfl (Nat.le_of_ble_eq_true rfl) dM_count_16 ⟨Nat.le_of_ble_eq_true rfl, Nat.le_of_ble_eq_true rfl⟩ (fun H locs hP hD hS => ?_)
  have hP : va_P D vwC (wM g fA wA nA tA rA dA oA cI cZ F Wd Nm Tg Rc Dt Rt 0 ce tp sl go gi) H := hP
  have hD : va_D A (wM g fA wA nA tA rA dA oA cI cZ F Wd Nm Tg Rc Dt Rt 0 ce tp sl go gi) := hD
  refine lv_if_ne (tgt := 24) hx hb dM_count_19 (by decide) (fun _ => ?_) (fun z => absurd z (by decide))
  refine lv_iload_n hx hb dM_count_24 rfl (lv_at hl 1 rfl) ?_
  refine lv_tableIn (off := 61) (tgt := 86) hx hb dM_count_25 (by decide) (by decide) rfl (by decide) ?_
  refine lv_aload_n hx hb dM_count_86 rfl (lv_at hl 0 rfl) ?_
  refine va_get (D := D) (ci := 1) (v := .int go) (C := RM) (T := TM) (N := 13) hx hb hbg bg_M hown hK hP 0 rfl rfl 11 (by decide) (hbg _ bw_320) (fun _ h9 => h9) rfl dM_count_87 ?_
  refine W.widen (k := 0) (n := 0) (Nat.le_of_ble_eq_true rfl) (Nat.le_of_ble_eq_true rfl) ?_
  exact W.iret (v := go) hx hb hr (fun t9 ht hW => ⟨⟨go, (), rfl, rfl, by rw [ht]; exact hP, va_K.moved hW.alike hK, hD⟩, hS.F ht⟩) hS.2.2 dM_count_90

set_option maxHeartbeats 4000000 in
set_option maxRecDepth 100000 in
theorem ct_M_count_5 (l : Launch) (D : va_G) (g fA wA nA tA rA dA oA : Nat) (cI cZ : ClassId) (F Wd Nm Tg Rc Dt Rt : Nat → Int32) (th ce tp sl go gi : Int32) (sz : Nat)  : sy_Mi l yM_count (Cond.code yM_count bM_count 2 (some .int) :: sr_big) { frames := 2, cells := 0, slots := 0, locals := 46 } D vwC [(cI, .int), (cZ, .boolean)] [.ref g, .int 5] (wM g fA wA nA tA rA dA oA cI cZ F Wd Nm Tg Rc Dt Rt th ce tp sl go gi) sz gi (wM g fA wA nA tA rA dA oA cI cZ F Wd Nm Tg Rc Dt Rt 0 ce tp sl go gi) 0 0 := by
  refine Met.ofW (cc := bM_count) (maxL := 2) (ret := (some .int)) (by decide) rfl ?_
  intro p e s m args below meth c s₁ B hml hv
  obtain ⟨rfl, hsz, hP, hK, hD0⟩ := hv
  have hx := B.exec
  have hb := B.bytes
  have hr := B.returns
  have hbg : ∀ w ∈ sr_big, w.before _ s = true := fun w h => atoms_spec (ws := Cond.code yM_count bM_count 2 (some .int) :: sr_big) B.pre w (List.mem_cons_of_mem _ h)
  have hown : s.vm.findClass RM = some m.cls := findClass_of_methodNamed B.named
  have hlocks := B.notSynchronized
  subst hsz
  have hD := hD0.self (sz := s.heap.size)
  generalize hAe : va_A (wM g fA wA nA tA rA dA oA cI cZ F Wd Nm Tg Rc Dt Rt th ce tp sl go gi) s.heap.size = A at *
  have hA : ∀ q : Nat, s.heap.size ≤ q → A q := fun q h => by rw [← hAe]; exact Or.inr h
  have hS : va_S A s.heap s.heap [] := va_S.rf
  have hl := lv_entry ([.ref g, .int 5]) (n := 2) (Nat.le_of_ble_eq_true rfl)
  rw [lg_entry_eq]
  generalize (lg_sl ([.ref g, .int 5]) ++ List.replicate (2 - (lg_sl ([.ref g, .int 5])).length) Slot.unset).toArray = ls at hl ⊢
  have hl : lv_has ls 2 [(0, .ref g), (1, .int 5)] := hl
  refine lv_aload_n hx hb dM_count_0 rfl (lv_at hl 0 rfl) ?_
  refine lv_iload_n hx hb dM_count_1 rfl (lv_at hl 1 rfl) ?_
  refine lv_if_lt (tgt := 15) hx hb dM_count_2 (by decide) (fun z => absurd z (by decide)) (fun _ => ?_)
  refine lv_iload_n hx hb dM_count_5 rfl (lv_at hl 1 rfl) ?_
  refine lv_bipush (v := 6) hx hb dM_count_6 (by decide) ?_
  refine lv_icmp_gt (tgt := 15) hx hb dM_count_8 (by decide) (fun z => absurd z (by decide)) (fun _ => ?_)
  refine lv_iconst (v := 1) hx hb dM_count_11 (by decide) ?_
  refine lv_goto (tgt := 16) hx hb dM_count_12 (by decide) ?_
  refine sy_cVi (wc := wM g fA wA nA tA rA dA oA cI cZ F Wd Nm Tg Rc Dt Rt th ce tp sl go gi) (wr := []) (w1 := wM g fA wA nA tA rA dA oA cI cZ F Wd Nm Tg Rc Dt Rt 0 ce tp sl go gi) (ci := 1) (q0 := 0) (As := [.int 1]) (rest := []) ⟨hx, hb, hml, hown, hbg⟩ (ct_M_goes_k l D g fA wA nA tA rA dA oA cI cZ F Wd Nm Tg Rc Dt Rt th ce tp sl go gi s.heap.size 1 rfl) (cwV 1 hbg (bg_V bw_344 bw_345 bw_25 bw_35 bw_346) rfl rfl rfl (by decide +kernel) ⟨Nat.le_of_ble_eq_true rfl, Nat.le_of_ble_eq_true rfl⟩) hK [0, 1] rfl hP hD hS hA [0, 1, 2, 3, 4, 5, 6, 7] [] rfl rfl rfl rfl (by decide) rfl rfl rfl hl.1 rfl (Nat.le_of_ble_eq_true rfl) dM_count_16 ⟨Nat.le_of_ble_eq_true rfl, Nat.le_of_ble_eq_true rfl⟩ (fun H locs hP hD hS => ?_)
  have hP : va_P D vwC (wM g fA wA nA tA rA dA oA cI cZ F Wd Nm Tg Rc Dt Rt 0 ce tp sl go gi) H := hP
  have hD : va_D A (wM g fA wA nA tA rA dA oA cI cZ F Wd Nm Tg Rc Dt Rt 0 ce tp sl go gi) := hD
  refine lv_if_ne (tgt := 24) hx hb dM_count_19 (by decide) (fun _ => ?_) (fun z => absurd z (by decide))
  refine lv_iload_n hx hb dM_count_24 rfl (lv_at hl 1 rfl) ?_
  refine lv_tableIn (off := 66) (tgt := 91) hx hb dM_count_25 (by decide) (by decide) rfl (by decide) ?_
  refine lv_aload_n hx hb dM_count_91 rfl (lv_at hl 0 rfl) ?_
  refine va_get (D := D) (ci := 1) (v := .int gi) (C := RM) (T := TM) (N := 13) hx hb hbg bg_M hown hK hP 0 rfl rfl 12 (by decide) (hbg _ bw_321) (fun _ h9 => h9) rfl dM_count_92 ?_
  refine W.widen (k := 0) (n := 0) (Nat.le_of_ble_eq_true rfl) (Nat.le_of_ble_eq_true rfl) ?_
  exact W.iret (v := gi) hx hb hr (fun t9 ht hW => ⟨⟨gi, (), rfl, rfl, by rw [ht]; exact hP, va_K.moved hW.alike hK, hD⟩, hS.F ht⟩) hS.2.2 dM_count_95

set_option maxHeartbeats 4000000 in
set_option maxRecDepth 100000 in
theorem ct_M_count_6 (l : Launch) (D : va_G) (g fA wA nA tA rA dA oA : Nat) (cI cZ : ClassId) (F Wd Nm Tg Rc Dt Rt : Nat → Int32) (th ce tp sl go gi : Int32) (sz : Nat)  : sy_Mi l yM_count (Cond.code yM_count bM_count 2 (some .int) :: sr_big) { frames := 2, cells := 0, slots := 0, locals := 46 } D vwC [(cI, .int), (cZ, .boolean)] [.ref g, .int 6] (wM g fA wA nA tA rA dA oA cI cZ F Wd Nm Tg Rc Dt Rt th ce tp sl go gi) sz ce (wM g fA wA nA tA rA dA oA cI cZ F Wd Nm Tg Rc Dt Rt 0 ce tp sl go gi) 0 0 := by
  refine Met.ofW (cc := bM_count) (maxL := 2) (ret := (some .int)) (by decide) rfl ?_
  intro p e s m args below meth c s₁ B hml hv
  obtain ⟨rfl, hsz, hP, hK, hD0⟩ := hv
  have hx := B.exec
  have hb := B.bytes
  have hr := B.returns
  have hbg : ∀ w ∈ sr_big, w.before _ s = true := fun w h => atoms_spec (ws := Cond.code yM_count bM_count 2 (some .int) :: sr_big) B.pre w (List.mem_cons_of_mem _ h)
  have hown : s.vm.findClass RM = some m.cls := findClass_of_methodNamed B.named
  have hlocks := B.notSynchronized
  subst hsz
  have hD := hD0.self (sz := s.heap.size)
  generalize hAe : va_A (wM g fA wA nA tA rA dA oA cI cZ F Wd Nm Tg Rc Dt Rt th ce tp sl go gi) s.heap.size = A at *
  have hA : ∀ q : Nat, s.heap.size ≤ q → A q := fun q h => by rw [← hAe]; exact Or.inr h
  have hS : va_S A s.heap s.heap [] := va_S.rf
  have hl := lv_entry ([.ref g, .int 6]) (n := 2) (Nat.le_of_ble_eq_true rfl)
  rw [lg_entry_eq]
  generalize (lg_sl ([.ref g, .int 6]) ++ List.replicate (2 - (lg_sl ([.ref g, .int 6])).length) Slot.unset).toArray = ls at hl ⊢
  have hl : lv_has ls 2 [(0, .ref g), (1, .int 6)] := hl
  refine lv_aload_n hx hb dM_count_0 rfl (lv_at hl 0 rfl) ?_
  refine lv_iload_n hx hb dM_count_1 rfl (lv_at hl 1 rfl) ?_
  refine lv_if_lt (tgt := 15) hx hb dM_count_2 (by decide) (fun z => absurd z (by decide)) (fun _ => ?_)
  refine lv_iload_n hx hb dM_count_5 rfl (lv_at hl 1 rfl) ?_
  refine lv_bipush (v := 6) hx hb dM_count_6 (by decide) ?_
  refine lv_icmp_gt (tgt := 15) hx hb dM_count_8 (by decide) (fun z => absurd z (by decide)) (fun _ => ?_)
  refine lv_iconst (v := 1) hx hb dM_count_11 (by decide) ?_
  refine lv_goto (tgt := 16) hx hb dM_count_12 (by decide) ?_
  refine sy_cVi (wc := wM g fA wA nA tA rA dA oA cI cZ F Wd Nm Tg Rc Dt Rt th ce tp sl go gi) (wr := []) (w1 := wM g fA wA nA tA rA dA oA cI cZ F Wd Nm Tg Rc Dt Rt 0 ce tp sl go gi) (ci := 1) (q0 := 0) (As := [.int 1]) (rest := []) ⟨hx, hb, hml, hown, hbg⟩ (ct_M_goes_k l D g fA wA nA tA rA dA oA cI cZ F Wd Nm Tg Rc Dt Rt th ce tp sl go gi s.heap.size 1 rfl) (cwV 1 hbg (bg_V bw_344 bw_345 bw_25 bw_35 bw_346) rfl rfl rfl (by decide +kernel) ⟨Nat.le_of_ble_eq_true rfl, Nat.le_of_ble_eq_true rfl⟩) hK [0, 1] rfl hP hD hS hA [0, 1, 2, 3, 4, 5, 6, 7] [] rfl rfl rfl rfl (by decide) rfl rfl rfl hl.1 rfl (Nat.le_of_ble_eq_true rfl) dM_count_16 ⟨Nat.le_of_ble_eq_true rfl, Nat.le_of_ble_eq_true rfl⟩ (fun H locs hP hD hS => ?_)
  have hP : va_P D vwC (wM g fA wA nA tA rA dA oA cI cZ F Wd Nm Tg Rc Dt Rt 0 ce tp sl go gi) H := hP
  have hD : va_D A (wM g fA wA nA tA rA dA oA cI cZ F Wd Nm Tg Rc Dt Rt 0 ce tp sl go gi) := hD
  refine lv_if_ne (tgt := 24) hx hb dM_count_19 (by decide) (fun _ => ?_) (fun z => absurd z (by decide))
  refine lv_iload_n hx hb dM_count_24 rfl (lv_at hl 1 rfl) ?_
  refine lv_tableOut (tgt := 96) hx hb dM_count_25 (Or.inr (by decide)) (by decide) ?_
  refine lv_aload_n hx hb dM_count_96 rfl (lv_at hl 0 rfl) ?_
  refine va_get (D := D) (ci := 1) (v := .int ce) (C := RM) (T := TM) (N := 13) hx hb hbg bg_M hown hK hP 0 rfl rfl 1 (by decide) (hbg _ bw_310) (fun _ h9 => h9) rfl dM_count_97 ?_
  refine W.widen (k := 0) (n := 0) (Nat.le_of_ble_eq_true rfl) (Nat.le_of_ble_eq_true rfl) ?_
  exact W.iret (v := ce) hx hb hr (fun t9 ht hW => ⟨⟨ce, (), rfl, rfl, by rw [ht]; exact hP, va_K.moved hW.alike hK, hD⟩, hS.F ht⟩) hS.2.2 dM_count_100

set_option maxHeartbeats 4000000 in
set_option maxRecDepth 100000 in
theorem ct_M_count_b (l : Launch) (D : va_G) (g fA wA nA tA rA dA oA : Nat) (cI cZ : ClassId) (F Wd Nm Tg Rc Dt Rt : Nat → Int32) (th ce tp sl go gi : Int32) (sz : Nat) (x : Int32) (hg : x < 0 ∨ 6 < x) : sy_Mi l yM_count (Cond.code yM_count bM_count 2 (some .int) :: sr_big) { frames := 2, cells := 0, slots := 0, locals := 46 } D vwC [(cI, .int), (cZ, .boolean)] [.ref g, .int x] (wM g fA wA nA tA rA dA oA cI cZ F Wd Nm Tg Rc Dt Rt th ce tp sl go gi) sz 0 (wM g fA wA nA tA rA dA oA cI cZ F Wd Nm Tg Rc Dt Rt 1 ce tp sl go gi) 0 0 := by
  refine Met.ofW (cc := bM_count) (maxL := 2) (ret := (some .int)) (by decide) rfl ?_
  intro p e s m args below meth c s₁ B hml hv
  obtain ⟨rfl, hsz, hP, hK, hD0⟩ := hv
  have hx := B.exec
  have hb := B.bytes
  have hr := B.returns
  have hbg : ∀ w ∈ sr_big, w.before _ s = true := fun w h => atoms_spec (ws := Cond.code yM_count bM_count 2 (some .int) :: sr_big) B.pre w (List.mem_cons_of_mem _ h)
  have hown : s.vm.findClass RM = some m.cls := findClass_of_methodNamed B.named
  have hlocks := B.notSynchronized
  subst hsz
  have hD := hD0.self (sz := s.heap.size)
  generalize hAe : va_A (wM g fA wA nA tA rA dA oA cI cZ F Wd Nm Tg Rc Dt Rt th ce tp sl go gi) s.heap.size = A at *
  have hA : ∀ q : Nat, s.heap.size ≤ q → A q := fun q h => by rw [← hAe]; exact Or.inr h
  have hS : va_S A s.heap s.heap [] := va_S.rf
  have hl := lv_entry ([.ref g, .int x]) (n := 2) (Nat.le_of_ble_eq_true rfl)
  rw [lg_entry_eq]
  generalize (lg_sl ([.ref g, .int x]) ++ List.replicate (2 - (lg_sl ([.ref g, .int x])).length) Slot.unset).toArray = ls at hl ⊢
  have hl : lv_has ls 2 [(0, .ref g), (1, .int x)] := hl
  refine lv_aload_n hx hb dM_count_0 rfl (lv_at hl 0 rfl) ?_
  refine lv_iload_n hx hb dM_count_1 rfl (lv_at hl 1 rfl) ?_
  refine lv_if_lt (tgt := 15) hx hb dM_count_2 (by decide) (fun c_2 => ?_) (fun c_2 => ?_)
  · refine lv_iconst (v := 0) hx hb dM_count_15 (by decide) ?_
    refine sy_cVi (wc := wM g fA wA nA tA rA dA oA cI cZ F Wd Nm Tg Rc Dt Rt th ce tp sl go gi) (wr := []) (w1 := wM g fA wA nA tA rA dA oA cI cZ F Wd Nm Tg Rc Dt Rt 1 ce tp sl go gi) (ci := 1) (q0 := 0) (As := [.int 0]) (rest := []) ⟨hx, hb, hml, hown, hbg⟩ (ct_M_goes_b l D g fA wA nA tA rA dA oA cI cZ F Wd Nm Tg Rc Dt Rt th ce tp sl go gi s.heap.size 0 rfl) (cwV 1 hbg (bg_V bw_344 bw_345 bw_25 bw_35 bw_346) rfl rfl rfl (by decide +kernel) ⟨Nat.le_of_ble_eq_true rfl, Nat.le_of_ble_eq_true rfl⟩) hK [0, 1] rfl hP hD hS hA [0, 1, 2, 3, 4, 5, 6, 7] [] rfl rfl rfl rfl (by decide) rfl rfl rfl hl.1 rfl (Nat.le_of_ble_eq_true rfl) dM_count_16 ⟨Nat.le_of_ble_eq_true rfl, Nat.le_of_ble_eq_true rfl⟩ (fun H locs hP hD hS => ?_)
    have hP : va_P D vwC (wM g fA wA nA tA rA dA oA cI cZ F Wd Nm Tg Rc Dt Rt 1 ce tp sl go gi) H := hP
    have hD : va_D A (wM g fA wA nA tA rA dA oA cI cZ F Wd Nm Tg Rc Dt Rt 1 ce tp sl go gi) := hD
    refine lv_if_ne (tgt := 24) hx hb dM_count_19 (by decide) (fun z => absurd rfl z) (fun _ => ?_)
    refine lv_iconst (v := 0) hx hb dM_count_22 (by decide) ?_
    refine W.widen (k := 0) (n := 0) (Nat.le_of_ble_eq_true rfl) (Nat.le_of_ble_eq_true rfl) ?_
    exact W.iret (v := 0) hx hb hr (fun t9 ht hW => ⟨⟨0, (), rfl, rfl, by rw [ht]; exact hP, va_K.moved hW.alike hK, hD⟩, hS.F ht⟩) hS.2.2 dM_count_23
  · refine lv_iload_n hx hb dM_count_5 rfl (lv_at hl 1 rfl) ?_
    refine lv_bipush (v := 6) hx hb dM_count_6 (by decide) ?_
    refine lv_icmp_gt (tgt := 15) hx hb dM_count_8 (by decide) (fun _ => ?_) (fun z => absurd (hg.resolve_left c_2) z)
    refine lv_iconst (v := 0) hx hb dM_count_15 (by decide) ?_
    refine sy_cVi (wc := wM g fA wA nA tA rA dA oA cI cZ F Wd Nm Tg Rc Dt Rt th ce tp sl go gi) (wr := []) (w1 := wM g fA wA nA tA rA dA oA cI cZ F Wd Nm Tg Rc Dt Rt 1 ce tp sl go gi) (ci := 1) (q0 := 0) (As := [.int 0]) (rest := []) ⟨hx, hb, hml, hown, hbg⟩ (ct_M_goes_b l D g fA wA nA tA rA dA oA cI cZ F Wd Nm Tg Rc Dt Rt th ce tp sl go gi s.heap.size 0 rfl) (cwV 1 hbg (bg_V bw_344 bw_345 bw_25 bw_35 bw_346) rfl rfl rfl (by decide +kernel) ⟨Nat.le_of_ble_eq_true rfl, Nat.le_of_ble_eq_true rfl⟩) hK [0, 1] rfl hP hD hS hA [0, 1, 2, 3, 4, 5, 6, 7] [] rfl rfl rfl rfl (by decide) rfl rfl rfl hl.1 rfl (Nat.le_of_ble_eq_true rfl) dM_count_16 ⟨Nat.le_of_ble_eq_true rfl, Nat.le_of_ble_eq_true rfl⟩ (fun H locs hP hD hS => ?_)
    have hP : va_P D vwC (wM g fA wA nA tA rA dA oA cI cZ F Wd Nm Tg Rc Dt Rt 1 ce tp sl go gi) H := hP
    have hD : va_D A (wM g fA wA nA tA rA dA oA cI cZ F Wd Nm Tg Rc Dt Rt 1 ce tp sl go gi) := hD
    refine lv_if_ne (tgt := 24) hx hb dM_count_19 (by decide) (fun z => absurd rfl z) (fun _ => ?_)
    refine lv_iconst (v := 0) hx hb dM_count_22 (by decide) ?_
    refine W.widen (k := 0) (n := 0) (Nat.le_of_ble_eq_true rfl) (Nat.le_of_ble_eq_true rfl) ?_
    exact W.iret (v := 0) hx hb hr (fun t9 ht hW => ⟨⟨0, (), rfl, rfl, by rw [ht]; exact hP, va_K.moved hW.alike hK, hD⟩, hS.F ht⟩) hS.2.2 dM_count_23
