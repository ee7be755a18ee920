/-! THE TWO CONSTRUCTORS (rows laid by wip/gen) -/
abbrev wM (g fA wA nA tA rA dA oA : Nat) (cI cZ : ClassId) (F Wd Nm Tg Rc Dt Rt : Nat → Int32) (th ce tp sl go gi : Int32) : va_W := [(g, .inr (1, [.int th, .int ce, .int tp, .ref fA, .ref wA, .ref nA, .ref tA, .ref rA, .ref dA, .ref oA, .int sl, .int go, .int gi])), (fA, .inl (cI, 16386, .inl F)), (wA, .inl (cI, 16386, .inl Wd)), (nA, .inl (cI, 16386, .inl Nm)), (tA, .inl (cI, 16386, .inl Tg)), (rA, .inl (cZ, 16386, .inl Rc)), (dA, .inl (cI, 16386, .inl Dt)), (oA, .inl (cI, 16, .inl Rt))]

set_option maxHeartbeats 4000000 in
set_option maxRecDepth 100000 in
theorem ct_X_init (l : Launch) (D : va_G) (h sz : Nat) : Met l yX_init (Cond.code yX_init bX_init 1 none :: sr_big) { frames := 1, cells := 2, slots := 2065, locals := 24 } (va_Pc [.ref h] (sy_in D vwC [] [(h, .inr (0, [.null, .null, .int 0, .int 0, .int 0, .int 0, .int 0, .int 0, .int 0, .int 0, .int 0]))] sz)) (va_Qv (fun (_ : Nat × Nat × ClassId) => True) (fun u => sy_out D vwC [(u.2.2, .int)] (va_A [(h, .inr (0, [.null, .null, .int 0, .int 0, .int 0, .int 0, .int 0, .int 0, .int 0, .int 0, .int 0]))] sz) (wX h u.1 u.2.1 u.2.2 2049 (fun _ => 0) (fun _ => 0) 2048 0 0 0 0 0 0 0 0)) (va_A [(h, .inr (0, [.null, .null, .int 0, .int 0, .int 0, .int 0, .int 0, .int 0, .int 0, .int 0, .int 0]))] sz)) 2 2065 (va_A [(h, .inr (0, [.null, .null, .int 0, .int 0, .int 0, .int 0, .int 0, .int 0, .int 0, .int 0, .int 0]))] sz) := by
  refine Met.ofW (cc := bX_init) (maxL := 1) (ret := none) (by decide) rfl ?_
  intro p e s m args below meth c s₁ B hml hv
  obtain ⟨rfl, hsz, hP, hK, hD0⟩ := hv
  have hx := B.exec
  have hb := B.bytes
  have hr := B.returns
  have hbg : ∀ w ∈ sr_big, w.before _ s = true := fun w h => atoms_spec (ws := Cond.code yX_init bX_init 1 none :: sr_big) B.pre w (List.mem_cons_of_mem _ h)
  have hown : s.vm.findClass RX = some m.cls := findClass_of_methodNamed B.named
  have hlocks := B.notSynchronized
  subst hsz
  have hD := hD0.self (sz := s.heap.size)
  generalize hAe : va_A ([(h, .inr (0, [.null, .null, .int 0, .int 0, .int 0, .int 0, .int 0, .int 0, .int 0, .int 0, .int 0]))]) s.heap.size = A at *
  have hA : ∀ q : Nat, s.heap.size ≤ q → A q := fun q h => by rw [← hAe]; exact Or.inr h
  have hS : va_S A s.heap s.heap [] := va_S.rf
  have hl := lv_entry ([.ref h]) (n := 1) (Nat.le_of_ble_eq_true rfl)
  rw [lg_entry_eq]
  generalize (lg_sl ([.ref h]) ++ List.replicate (1 - (lg_sl ([.ref h])).length) Slot.unset).toArray = ls at hl ⊢
  have hl : lv_has ls 1 [(0, .ref h)] := hl
  have hin : meth.name = "<init>" := (name_of_methodNamed B.named B.method).1
  refine lv_aload_n hx hb dX_init_0 rfl (lv_at hl 0 rfl) ?_
  refine W.objInit hx hb hown (hbg _ bw_48) (hbg _ bw_49) (hbg _ bw_50) rfl (by rw [hml]; exact hl.1) rfl dX_init_1 (Nat.le_of_ble_eq_true rfl) (Nat.le_of_ble_eq_true rfl) ?_
  refine W.eq (g2 := F0 m 4 ls []) rfl ?_
  refine lv_aload_n hx hb dX_init_4 rfl (lv_at hl 0 rfl) ?_
  refine lv_bipush (v := 16) hx hb dX_init_5 (by decide) ?_
  refine va_newa (atype := .int) (ty := .int) (N' := 16) (a0 := (16, .inl (fun _ => 0))) hx hb (hbg _ bw_73) rfl hK hP hD hS hA (fun _ => rfl) (by decide) (by decide) (by decide) (Nat.le_of_ble_eq_true rfl) (Nat.le_of_ble_eq_true rfl) dX_init_7 (fun q1 cA1 H hK hP hD hS => ?_)
  have hK : va_K D vwC [(cA1, .int)] s := hK
  have hP : va_P D vwC [(h, .inr (0, [.null, .null, .int 0, .int 0, .int 0, .int 0, .int 0, .int 0, .int 0, .int 0, .int 0])), (q1, .inl (cA1, 16, .inl (fun _ => 0)))] H := hP
  have hD : va_D A [(h, .inr (0, [.null, .null, .int 0, .int 0, .int 0, .int 0, .int 0, .int 0, .int 0, .int 0, .int 0])), (q1, .inl (cA1, 16, .inl (fun _ => 0)))] := hD
  refine va_putF (D := D) (ci := 0) (v := .ref q1) (ty := .array .int) (C := RX) (T := TX) (N := 11) hx hb hbg bg_X tX tX_ok nX hown hK hP hD hS 0 rfl rfl 0 (by decide) (hbg _ bw_51) (fun _ h9 => h9) rfl hin rfl (by decide +kernel) rfl rfl (Nat.le_of_ble_eq_true rfl) dX_init_9 (fun H locs hP hD hS => ?_)
  have hP : va_P D vwC [(h, .inr (0, [.ref q1, .null, .int 0, .int 0, .int 0, .int 0, .int 0, .int 0, .int 0, .int 0, .int 0])), (q1, .inl (cA1, 16, .inl (fun _ => 0)))] H := hP
  have hD : va_D A [(h, .inr (0, [.ref q1, .null, .int 0, .int 0, .int 0, .int 0, .int 0, .int 0, .int 0, .int 0, .int 0])), (q1, .inl (cA1, 16, .inl (fun _ => 0)))] := hD
  refine lv_aload_n hx hb dX_init_12 rfl (lv_at hl 0 rfl) ?_
  refine lv_sipush (v := 2049) hx hb dX_init_13 (by decide) ?_
  refine va_newa (atype := .int) (ty := .int) (N' := 2049) (a0 := (2049, .inl (fun _ => 0))) hx hb (hbg _ bw_73) rfl hK hP hD hS hA (fun _ => rfl) (by decide) (by decide) (by decide) (Nat.le_of_ble_eq_true rfl) (Nat.le_of_ble_eq_true rfl) dX_init_16 (fun q2 cA2 H hK hP hD hS => ?_)
  obtain rfl : cA1 = cA2 := Option.some.inj ((hK.2 0 _ rfl).2.symm.trans (hK.2 1 _ rfl).2)
  have hK : va_K D vwC [(cA1, .int)] s := hK.sub [0] rfl
  have hP : va_P D vwC [(h, .inr (0, [.ref q1, .null, .int 0, .int 0, .int 0, .int 0, .int 0, .int 0, .int 0, .int 0, .int 0])), (q1, .inl (cA1, 16, .inl (fun _ => 0))), (q2, .inl (cA1, 2049, .inl (fun _ => 0)))] H := hP
  have hD : va_D A [(h, .inr (0, [.ref q1, .null, .int 0, .int 0, .int 0, .int 0, .int 0, .int 0, .int 0, .int 0, .int 0])), (q1, .inl (cA1, 16, .inl (fun _ => 0))), (q2, .inl (cA1, 2049, .inl (fun _ => 0)))] := hD
  refine va_put (D := D) (ci := 0) (v := .ref q2) (ty := .array .int) (C := RX) (T := TX) (N := 11) hx hb hbg bg_X tX tX_ok nX hown hK hP hD hS 0 rfl rfl 1 (by decide) (hbg _ bw_52) (fun _ h9 => h9) rfl (by decide +kernel) rfl rfl (Nat.le_of_ble_eq_true rfl) dX_init_18 (fun H locs hP hD hS => ?_)
  have hP : va_P D vwC [(h, .inr (0, [.ref q1, .ref q2, .int 0, .int 0, .int 0, .int 0, .int 0, .int 0, .int 0, .int 0, .int 0])), (q1, .inl (cA1, 16, .inl (fun _ => 0))), (q2, .inl (cA1, 2049, .inl (fun _ => 0)))] H := hP
  have hD : va_D A [(h, .inr (0, [.ref q1, .ref q2, .int 0, .int 0, .int 0, .int 0, .int 0, .int 0, .int 0, .int 0, .int 0])), (q1, .inl (cA1, 16, .inl (fun _ => 0))), (q2, .inl (cA1, 2049, .inl (fun _ => 0)))] := hD
  refine lv_aload_n hx hb dX_init_21 rfl (lv_at hl 0 rfl) ?_
  refine lv_sipush (v := 2048) hx hb dX_init_22 (by decide) ?_
  refine va_put (D := D) (ci := 0) (v := .int 2048) (ty := .int) (C := RX) (T := TX) (N := 11) hx hb hbg bg_X tX tX_ok nX hown hK hP hD hS 0 rfl rfl 2 (by decide) (hbg _ bw_53) (fun _ h9 => h9) rfl (by decide +kernel) rfl rfl (Nat.le_of_ble_eq_true rfl) dX_init_25 (fun H locs hP hD hS => ?_)
  have hP : va_P D vwC [(h, .inr (0, [.ref q1, .ref q2, .int 2048, .int 0, .int 0, .int 0, .int 0, .int 0, .int 0, .int 0, .int 0])), (q1, .inl (cA1, 16, .inl (fun _ => 0))), (q2, .inl (cA1, 2049, .inl (fun _ => 0)))] H := hP
  have hD : va_D A [(h, .inr (0, [.ref q1, .ref q2, .int 2048, .int 0, .int 0, .int 0, .int 0, .int 0, .int 0, .int 0, .int 0])), (q1, .inl (cA1, 16, .inl (fun _ => 0))), (q2, .inl (cA1, 2049, .inl (fun _ => 0)))] := hD
  refine W.widen (k := 2) (n := 2065) (Nat.le_of_ble_eq_true rfl) (Nat.le_of_ble_eq_true rfl) ?_
  exact W.vret hx hb hr (fun t ht hW => ⟨⟨(q1, q2, cA1), rfl, trivial, by rw [ht]; exact hP, va_K.moved hW.alike hK, hD⟩, hS.F ht⟩) hS.2.2 dX_init_28

set_option maxHeartbeats 4000000 in
set_option maxRecDepth 100000 in
theorem ct_M_init (l : Launch) (D : va_G) (g sz : Nat) : Met l yM_init (Cond.code yM_init bM_init 1 none :: sr_big) { frames := 1, cells := 7, slots := 98332, locals := 24 } (va_Pc [.ref g] (sy_in D vwC [] [(g, .inr (1, [.int 0, .int 0, .int 0, .null, .null, .null, .null, .null, .null, .null, .int 0, .int 0, .int 0]))] sz)) (va_Qv (fun (_ : (Nat × Nat × Nat × Nat × Nat × Nat × Nat) × ClassId × ClassId) => True) (fun u => sy_out D vwC [(u.2.1, .int), (u.2.2, .boolean)] (va_A [(g, .inr (1, [.int 0, .int 0, .int 0, .null, .null, .null, .null, .null, .null, .null, .int 0, .int 0, .int 0]))] sz) (wM g u.1.1 u.1.2.1 u.1.2.2.1 u.1.2.2.2.1 u.1.2.2.2.2.1 u.1.2.2.2.2.2.1 u.1.2.2.2.2.2.2 u.2.1 u.2.2 (fun _ => 0) (fun _ => 0) (fun _ => 0) (fun _ => 0) (fun _ => 0) (fun _ => 0) (fun _ => 0) 0 2048 1 0 0 0)) (va_A [(g, .inr (1, [.int 0, .int 0, .int 0, .null, .null, .null, .null, .null, .null, .null, .int 0, .int 0, .int 0]))] sz)) 7 98332 (va_A [(g, .inr (1, [.int 0, .int 0, .int 0, .null, .null, .null, .null, .null, .null, .null, .int 0, .int 0, .int 0]))] sz) := by
  refine Met.ofW (cc := bM_init) (maxL := 1) (ret := none) (by decide) rfl ?_
  intro p e s m args below meth c s₁ B hml hv
  obtain ⟨rfl, hsz, hP, hK, hD0⟩ := hv
  have hx := B.exec
  have hb := B.bytes
  have hr := B.returns
  have hbg : ∀ w ∈ sr_big, w.before _ s = true := fun w h => atoms_spec (ws := Cond.code yM_init bM_init 1 none :: sr_big) B.pre w (List.mem_cons_of_mem _ h)
  have hown : s.vm.findClass RM = some m.cls := findClass_of_methodNamed B.named
  have hlocks := B.notSynchronized
  subst hsz
  have hD := hD0.self (sz := s.heap.size)
  generalize hAe : va_A ([(g, .inr (1, [.int 0, .int 0, .int 0, .null, .null, .null, .null, .null, .null, .null, .int 0, .int 0, .int 0]))]) s.heap.size = A at *
  have hA : ∀ q : Nat, s.heap.size ≤ q → A q := fun q h => by rw [← hAe]; exact Or.inr h
  have hS : va_S A s.heap s.heap [] := va_S.rf
  have hl := lv_entry ([.ref g]) (n := 1) (Nat.le_of_ble_eq_true rfl)
  rw [lg_entry_eq]
  generalize (lg_sl ([.ref g]) ++ List.replicate (1 - (lg_sl ([.ref g])).length) Slot.unset).toArray = ls at hl ⊢
  have hl : lv_has ls 1 [(0, .ref g)] := hl
  have hin : meth.name = "<init>" := (name_of_methodNamed B.named B.method).1
  refine lv_aload_n hx hb dM_init_0 rfl (lv_at hl 0 rfl) ?_
  refine W.objInit hx hb hown (hbg _ bw_308) (hbg _ bw_49) (hbg _ bw_50) rfl (by rw [hml]; exact hl.1) rfl dM_init_1 (Nat.le_of_ble_eq_true rfl) (Nat.le_of_ble_eq_true rfl) ?_
  refine W.eq (g2 := F0 m 4 ls []) rfl ?_
  refine lv_aload_n hx hb dM_init_4 rfl (lv_at hl 0 rfl) ?_
  refine lv_sipush (v := 2048) hx hb dM_init_5 (by decide) ?_
  refine va_put (D := D) (ci := 1) (v := .int 2048) (ty := .int) (C := RM) (T := TM) (N := 13) hx hb hbg bg_M tM tM_ok nM hown hK hP hD hS 0 rfl rfl 1 (by decide) (hbg _ bw_310) (fun _ h9 => h9) rfl (by decide +kernel) rfl rfl (Nat.le_of_ble_eq_true rfl) dM_init_8 (fun H locs hP hD hS => ?_)
  have hP : va_P D vwC [(g, .inr (1, [.int 0, .int 2048, .int 0, .null, .null, .null, .null, .null, .null, .null, .int 0, .int 0, .int 0]))] H := hP
  have hD : va_D A [(g, .inr (1, [.int 0, .int 2048, .int 0, .null, .null, .null, .null, .null, .null, .null, .int 0, .int 0, .int 0]))] := hD
  refine lv_aload_n hx hb dM_init_11 rfl (lv_at hl 0 rfl) ?_
  refine lv_iconst (v := 1) hx hb dM_init_12 (by decide) ?_
  refine va_put (D := D) (ci := 1) (v := .int 1) (ty := .int) (C := RM) (T := TM) (N := 13) hx hb hbg bg_M tM tM_ok nM hown hK hP hD hS 0 rfl rfl 2 (by decide) (hbg _ bw_311) (fun _ h9 => h9) rfl (by decide +kernel) rfl rfl (Nat.le_of_ble_eq_true rfl) dM_init_13 (fun H locs hP hD hS => ?_)
  have hP : va_P D vwC [(g, .inr (1, [.int 0, .int 2048, .int 1, .null, .null, .null, .null, .null, .null, .null, .int 0, .int 0, .int 0]))] H := hP
  have hD : va_D A [(g, .inr (1, [.int 0, .int 2048, .int 1, .null, .null, .null, .null, .null, .null, .null, .int 0, .int 0, .int 0]))] := hD
  refine lv_aload_n hx hb dM_init_16 rfl (lv_at hl 0 rfl) ?_
  refine lv_sipush (v := 16386) hx hb dM_init_17 (by decide) ?_
  refine va_newa (atype := .int) (ty := .int) (N' := 16386) (a0 := (16386, .inl (fun _ => 0))) hx hb (hbg _ bw_73) rfl hK hP hD hS hA (fun _ => rfl) (by decide) (by decide) (by decide) (Nat.le_of_ble_eq_true rfl) (Nat.le_of_ble_eq_true rfl) dM_init_20 (fun q1 cA1 H hK hP hD hS => ?_)
  have hK : va_K D vwC [(cA1, .int)] s := hK
  have hP : va_P D vwC [(g, .inr (1, [.int 0, .int 2048, .int 1, .null, .null, .null, .null, .null, .null, .null, .int 0, .int 0, .int 0])), (q1, .inl (cA1, 16386, .inl (fun _ => 0)))] H := hP
  have hD : va_D A [(g, .inr (1, [.int 0, .int 2048, .int 1, .null, .null, .null, .null, .null, .null, .null, .int 0, .int 0, .int 0])), (q1, .inl (cA1, 16386, .inl (fun _ => 0)))] := hD
  refine va_putF (D := D) (ci := 1) (v := .ref q1) (ty := .array .int) (C := RM) (T := TM) (N := 13) hx hb hbg bg_M tM tM_ok nM hown hK hP hD hS 0 rfl rfl 3 (by decide) (hbg _ bw_312) (fun _ h9 => h9) rfl hin rfl (by decide +kernel) rfl rfl (Nat.le_of_ble_eq_true rfl) dM_init_22 (fun H locs hP hD hS => ?_)
  have hP : va_P D vwC [(g, .inr (1, [.int 0, .int 2048, .int 1, .ref q1, .null, .null, .null, .null, .null, .null, .int 0, .int 0, .int 0])), (q1, .inl (cA1, 16386, .inl (fun _ => 0)))] H := hP
  have hD : va_D A [(g, .inr (1, [.int 0, .int 2048, .int 1, .ref q1, .null, .null, .null, .null, .null, .null, .int 0, .int 0, .int 0])), (q1, .inl (cA1, 16386, .inl (fun _ => 0)))] := hD
  refine lv_aload_n hx hb dM_init_25 rfl (lv_at hl 0 rfl) ?_
  refine lv_sipush (v := 16386) hx hb dM_init_26 (by decide) ?_
  refine va_newa (atype := .int) (ty := .int) (N' := 16386) (a0 := (16386, .inl (fun _ => 0))) hx hb (hbg _ bw_73) rfl hK hP hD hS hA (fun _ => rfl) (by decide) (by decide) (by decide) (Nat.le_of_ble_eq_true rfl) (Nat.le_of_ble_eq_true rfl) dM_init_29 (fun q2 cA2 H hK hP hD hS => ?_)
  obtain rfl : cA1 = cA2 := Option.some.inj ((hK.2 0 _ rfl).2.symm.trans (hK.2 1 _ rfl).2)
  have hK : va_K D vwC [(cA1, .int)] s := hK.sub [0] rfl
  have hP : va_P D vwC [(g, .inr (1, [.int 0, .int 2048, .int 1, .ref q1, .null, .null, .null, .null, .null, .null, .int 0, .int 0, .int 0])), (q1, .inl (cA1, 16386, .inl (fun _ => 0))), (q2, .inl (cA1, 16386, .inl (fun _ => 0)))] H := hP
  have hD : va_D A [(g, .inr (1, [.int 0, .int 2048, .int 1, .ref q1, .null, .null, .null, .null, .null, .null, .int 0, .int 0, .int 0])), (q1, .inl (cA1, 16386, .inl (fun _ => 0))), (q2, .inl (cA1, 16386, .inl (fun _ => 0)))] := hD
  refine va_putF (D := D) (ci := 1) (v := .ref q2) (ty := .array .int) (C := RM) (T := TM) (N := 13) hx hb hbg bg_M tM tM_ok nM hown hK hP hD hS 0 rfl rfl 4 (by decide) (hbg _ bw_313) (fun _ h9 => h9) rfl hin rfl (by decide +kernel) rfl rfl (Nat.le_of_ble_eq_true rfl) dM_init_31 (fun H locs hP hD hS => ?_)
  have hP : va_P D vwC [(g, .inr (1, [.int 0, .int 2048, .int 1, .ref q1, .ref q2, .null, .null, .null, .null, .null, .int 0, .int 0, .int 0])), (q1, .inl (cA1, 16386, .inl (fun _ => 0))), (q2, .inl (cA1, 16386, .inl (fun _ => 0)))] H := hP
  have hD : va_D A [(g, .inr (1, [.int 0, .int 2048, .int 1, .ref q1, .ref q2, .null, .null, .null, .null, .null, .int 0, .int 0, .int 0])), (q1, .inl (cA1, 16386, .inl (fun _ => 0))), (q2, .inl (cA1, 16386, .inl (fun _ => 0)))] := hD
  refine lv_aload_n hx hb dM_init_34 rfl (lv_at hl 0 rfl) ?_
  refine lv_sipush (v := 16386) hx hb dM_init_35 (by decide) ?_
  refine va_newa (atype := .int) (ty := .int) (N' := 16386) (a0 := (16386, .inl (fun _ => 0))) hx hb (hbg _ bw_73) rfl hK hP hD hS hA (fun _ => rfl) (by decide) (by decide) (by decide) (Nat.le_of_ble_eq_true rfl) (Nat.le_of_ble_eq_true rfl) dM_init_38 (fun q3 cA3 H hK hP hD hS => ?_)
  obtain rfl : cA1 = cA3 := Option.some.inj ((hK.2 0 _ rfl).2.symm.trans (hK.2 1 _ rfl).2)
  have hK : va_K D vwC [(cA1, .int)] s := hK.sub [0] rfl
  have hP : va_P D vwC [(g, .inr (1, [.int 0, .int 2048, .int 1, .ref q1, .ref q2, .null, .null, .null, .null, .null, .int 0, .int 0, .int 0])), (q1, .inl (cA1, 16386, .inl (fun _ => 0))), (q2, .inl (cA1, 16386, .inl (fun _ => 0))), (q3, .inl (cA1, 16386, .inl (fun _ => 0)))] H := hP
  have hD : va_D A [(g, .inr (1, [.int 0, .int 2048, .int 1, .ref q1, .ref q2, .null, .null, .null, .null, .null, .int 0, .int 0, .int 0])), (q1, .inl (cA1, 16386, .inl (fun _ => 0))), (q2, .inl (cA1, 16386, .inl (fun _ => 0))), (q3, .inl (cA1, 16386, .inl (fun _ => 0)))] := hD
  refine va_putF (D := D) (ci := 1) (v := .ref q3) (ty := .array .int) (C := RM) (T := TM) (N := 13) hx hb hbg bg_M tM tM_ok nM hown hK hP hD hS 0 rfl rfl 5 (by decide) (hbg _ bw_314) (fun _ h9 => h9) rfl hin rfl (by decide +kernel) rfl rfl (Nat.le_of_ble_eq_true rfl) dM_init_40 (fun H locs hP hD hS => ?_)
  have hP : va_P D vwC [(g, .inr (1, [.int 0, .int 2048, .int 1, .ref q1, .ref q2, .ref q3, .null, .null, .null, .null, .int 0, .int 0, .int 0])), (q1, .inl (cA1, 16386, .inl (fun _ => 0))), (q2, .inl (cA1, 16386, .inl (fun _ => 0))), (q3, .inl (cA1, 16386, .inl (fun _ => 0)))] H := hP
  have hD : va_D A [(g, .inr (1, [.int 0, .int 2048, .int 1, .ref q1, .ref q2, .ref q3, .null, .null, .null, .null, .int 0, .int 0, .int 0])), (q1, .inl (cA1, 16386, .inl (fun _ => 0))), (q2, .inl (cA1, 16386, .inl (fun _ => 0))), (q3, .inl (cA1, 16386, .inl (fun _ => 0)))] := hD
  refine lv_aload_n hx hb dM_init_43 rfl (lv_at hl 0 rfl) ?_
  refine lv_sipush (v := 16386) hx hb dM_init_44 (by decide) ?_
  refine va_newa (atype := .int) (ty := .int) (N' := 16386) (a0 := (16386, .inl (fun _ => 0))) hx hb (hbg _ bw_73) rfl hK hP hD hS hA (fun _ => rfl) (by decide) (by decide) (by decide) (Nat.le_of_ble_eq_true rfl) (Nat.le_of_ble_eq_true rfl) dM_init_47 (fun q4 cA4 H hK hP hD hS => ?_)
  obtain rfl : cA1 = cA4 := Option.some.inj ((hK.2 0 _ rfl).2.symm.trans (hK.2 1 _ rfl).2)
  have hK : va_K D vwC [(cA1, .int)] s := hK.sub [0] rfl
  have hP : va_P D vwC [(g, .inr (1, [.int 0, .int 2048, .int 1, .ref q1, .ref q2, .ref q3, .null, .null, .null, .null, .int 0, .int 0, .int 0])), (q1, .inl (cA1, 16386, .inl (fun _ => 0))), (q2, .inl (cA1, 16386, .inl (fun _ => 0))), (q3, .inl (cA1, 16386, .inl (fun _ => 0))), (q4, .inl (cA1, 16386, .inl (fun _ => 0)))] H := hP
  have hD : va_D A [(g, .inr (1, [.int 0, .int 2048, .int 1, .ref q1, .ref q2, .ref q3, .null, .null, .null, .null, .int 0, .int 0, .int 0])), (q1, .inl (cA1, 16386, .inl (fun _ => 0))), (q2, .inl (cA1, 16386, .inl (fun _ => 0))), (q3, .inl (cA1, 16386, .inl (fun _ => 0))), (q4, .inl (cA1, 16386, .inl (fun _ => 0)))] := hD
  refine va_putF (D := D) (ci := 1) (v := .ref q4) (ty := .array .int) (C := RM) (T := TM) (N := 13) hx hb hbg bg_M tM tM_ok nM hown hK hP hD hS 0 rfl rfl 6 (by decide) (hbg _ bw_315) (fun _ h9 => h9) rfl hin rfl (by decide +kernel) rfl rfl (Nat.le_of_ble_eq_true rfl) dM_init_49 (fun H locs hP hD hS => ?_)
  have hP : va_P D vwC [(g, .inr (1, [.int 0, .int 2048, .int 1, .ref q1, .ref q2, .ref q3, .ref q4, .null, .null, .null, .int 0, .int 0, .int 0])), (q1, .inl (cA1, 16386, .inl (fun _ => 0))), (q2, .inl (cA1, 16386, .inl (fun _ => 0))), (q3, .inl (cA1, 16386, .inl (fun _ => 0))), (q4, .inl (cA1, 16386, .inl (fun _ => 0)))] H := hP
  have hD : va_D A [(g, .inr (1, [.int 0, .int 2048, .int 1, .ref q1, .ref q2, .ref q3, .ref q4, .null, .null, .null, .int 0, .int 0, .int 0])), (q1, .inl (cA1, 16386, .inl (fun _ => 0))), (q2, .inl (cA1, 16386, .inl (fun _ => 0))), (q3, .inl (cA1, 16386, .inl (fun _ => 0))), (q4, .inl (cA1, 16386, .inl (fun _ => 0)))] := hD
  refine lv_aload_n hx hb dM_init_52 rfl (lv_at hl 0 rfl) ?_
  refine lv_sipush (v := 16386) hx hb dM_init_53 (by decide) ?_
  refine va_newa (atype := .boolean) (ty := .boolean) (N' := 16386) (a0 := (16386, .inl (fun _ => 0))) hx hb (hbg _ bw_335) rfl hK hP hD hS hA (fun _ => rfl) (by decide) (by decide) (by decide) (Nat.le_of_ble_eq_true rfl) (Nat.le_of_ble_eq_true rfl) dM_init_56 (fun q5 cA5 H hK hP hD hS => ?_)
  have hK : va_K D vwC [(cA1, .int), (cA5, .boolean)] s := hK
  have hP : va_P D vwC [(g, .inr (1, [.int 0, .int 2048, .int 1, .ref q1, .ref q2, .ref q3, .ref q4, .null, .null, .null, .int 0, .int 0, .int 0])), (q1, .inl (cA1, 16386, .inl (fun _ => 0))), (q2, .inl (cA1, 16386, .inl (fun _ => 0))), (q3, .inl (cA1, 16386, .inl (fun _ => 0))), (q4, .inl (cA1, 16386, .inl (fun _ => 0))), (q5, .inl (cA5, 16386, .inl (fun _ => 0)))] H := hP
  have hD : va_D A [(g, .inr (1, [.int 0, .int 2048, .int 1, .ref q1, .ref q2, .ref q3, .ref q4, .null, .null, .null, .int 0, .int 0, .int 0])), (q1, .inl (cA1, 16386, .inl (fun _ => 0))), (q2, .inl (cA1, 16386, .inl (fun _ => 0))), (q3, .inl (cA1, 16386, .inl (fun _ => 0))), (q4, .inl (cA1, 16386, .inl (fun _ => 0))), (q5, .inl (cA5, 16386, .inl (fun _ => 0)))] := hD
  refine va_putF (D := D) (ci := 1) (v := .ref q5) (ty := .array .boolean) (C := RM) (T := TM) (N := 13) hx hb hbg bg_M tM tM_ok nM hown hK hP hD hS 0 rfl rfl 7 (by decide) (hbg _ bw_316) (fun _ h9 => h9) rfl hin rfl (by decide +kernel) rfl rfl (Nat.le_of_ble_eq_true rfl) dM_init_58 (fun H locs hP hD hS => ?_)
  have hP : va_P D vwC [(g, .inr (1, [.int 0, .int 2048, .int 1, .ref q1, .ref q2, .ref q3, .ref q4, .ref q5, .null, .null, .int 0, .int 0, .int 0])), (q1, .inl (cA1, 16386, .inl (fun _ => 0))), (q2, .inl (cA1, 16386, .inl (fun _ => 0))), (q3, .inl (cA1, 16386, .inl (fun _ => 0))), (q4, .inl (cA1, 16386, .inl (fun _ => 0))), (q5, .inl (cA5, 16386, .inl (fun _ => 0)))] H := hP
  have hD : va_D A [(g, .inr (1, [.int 0, .int 2048, .int 1, .ref q1, .ref q2, .ref q3, .ref q4, .ref q5, .null, .null, .int 0, .int 0, .int 0])), (q1, .inl (cA1, 16386, .inl (fun _ => 0))), (q2, .inl (cA1, 16386, .inl (fun _ => 0))), (q3, .inl (cA1, 16386, .inl (fun _ => 0))), (q4, .inl (cA1, 16386, .inl (fun _ => 0))), (q5, .inl (cA5, 16386, .inl (fun _ => 0)))] := hD
  refine lv_aload_n hx hb dM_init_61 rfl (lv_at hl 0 rfl) ?_
  refine lv_sipush (v := 16386) hx hb dM_init_62 (by decide) ?_
  refine va_newa (atype := .int) (ty := .int) (N' := 16386) (a0 := (16386, .inl (fun _ => 0))) hx hb (hbg _ bw_73) rfl hK hP hD hS hA (fun _ => rfl) (by decide) (by decide) (by decide) (Nat.le_of_ble_eq_true rfl) (Nat.le_of_ble_eq_true rfl) dM_init_65 (fun q6 cA6 H hK hP hD hS => ?_)
  obtain rfl : cA1 = cA6 := Option.some.inj ((hK.2 0 _ rfl).2.symm.trans (hK.2 2 _ rfl).2)
  have hK : va_K D vwC [(cA1, .int), (cA5, .boolean)] s := hK.sub [0, 1] rfl
  have hP : va_P D vwC [(g, .inr (1, [.int 0, .int 2048, .int 1, .ref q1, .ref q2, .ref q3, .ref q4, .ref q5, .null, .null, .int 0, .int 0, .int 0])), (q1, .inl (cA1, 16386, .inl (fun _ => 0))), (q2, .inl (cA1, 16386, .inl (fun _ => 0))), (q3, .inl (cA1, 16386, .inl (fun _ => 0))), (q4, .inl (cA1, 16386, .inl (fun _ => 0))), (q5, .inl (cA5, 16386, .inl (fun _ => 0))), (q6, .inl (cA1, 16386, .inl (fun _ => 0)))] H := hP
  have hD : va_D A [(g, .inr (1, [.int 0, .int 2048, .int 1, .ref q1, .ref q2, .ref q3, .ref q4, .ref q5, .null, .null, .int 0, .int 0, .int 0])), (q1, .inl (cA1, 16386, .inl (fun _ => 0))), (q2, .inl (cA1, 16386, .inl (fun _ => 0))), (q3, .inl (cA1, 16386, .inl (fun _ => 0))), (q4, .inl (cA1, 16386, .inl (fun _ => 0))), (q5, .inl (cA5, 16386, .inl (fun _ => 0))), (q6, .inl (cA1, 16386, .inl (fun _ => 0)))] := hD
  refine va_putF (D := D) (ci := 1) (v := .ref q6) (ty := .array .int) (C := RM) (T := TM) (N := 13) hx hb hbg bg_M tM tM_ok nM hown hK hP hD hS 0 rfl rfl 8 (by decide) (hbg _ bw_317) (fun _ h9 => h9) rfl hin rfl (by decide +kernel) rfl rfl (Nat.le_of_ble_eq_true rfl) dM_init_67 (fun H locs hP hD hS => ?_)
  have hP : va_P D vwC [(g, .inr (1, [.int 0, .int 2048, .int 1, .ref q1, .ref q2, .ref q3, .ref q4, .ref q5, .ref q6, .null, .int 0, .int 0, .int 0])), (q1, .inl (cA1, 16386, .inl (fun _ => 0))), (q2, .inl (cA1, 16386, .inl (fun _ => 0))), (q3, .inl (cA1, 16386, .inl (fun _ => 0))), (q4, .inl (cA1, 16386, .inl (fun _ => 0))), (q5, .inl (cA5, 16386, .inl (fun _ => 0))), (q6, .inl (cA1, 16386, .inl (fun _ => 0)))] H := hP
  have hD : va_D A [(g, .inr (1, [.int 0, .int 2048, .int 1, .ref q1, .ref q2, .ref q3, .ref q4, .ref q5, .ref q6, .null, .int 0, .int 0, .int 0])), (q1, .inl (cA1, 16386, .inl (fun _ => 0))), (q2, .inl (cA1, 16386, .inl (fun _ => 0))), (q3, .inl (cA1, 16386, .inl (fun _ => 0))), (q4, .inl (cA1, 16386, .inl (fun _ => 0))), (q5, .inl (cA5, 16386, .inl (fun _ => 0))), (q6, .inl (cA1, 16386, .inl (fun _ => 0)))] := hD
  refine lv_aload_n hx hb dM_init_70 rfl (lv_at hl 0 rfl) ?_
  refine lv_bipush (v := 16) hx hb dM_init_71 (by decide) ?_
  refine va_newa (atype := .int) (ty := .int) (N' := 16) (a0 := (16, .inl (fun _ => 0))) hx hb (hbg _ bw_73) rfl hK hP hD hS hA (fun _ => rfl) (by decide) (by decide) (by decide) (Nat.le_of_ble_eq_true rfl) (Nat.le_of_ble_eq_true rfl) dM_init_73 (fun q7 cA7 H hK hP hD hS => ?_)
  obtain rfl : cA1 = cA7 := Option.some.inj ((hK.2 0 _ rfl).2.symm.trans (hK.2 2 _ rfl).2)
  have hK : va_K D vwC [(cA1, .int), (cA5, .boolean)] s := hK.sub [0, 1] rfl
  have hP : va_P D vwC [(g, .inr (1, [.int 0, .int 2048, .int 1, .ref q1, .ref q2, .ref q3, .ref q4, .ref q5, .ref q6, .null, .int 0, .int 0, .int 0])), (q1, .inl (cA1, 16386, .inl (fun _ => 0))), (q2, .inl (cA1, 16386, .inl (fun _ => 0))), (q3, .inl (cA1, 16386, .inl (fun _ => 0))), (q4, .inl (cA1, 16386, .inl (fun _ => 0))), (q5, .inl (cA5, 16386, .inl (fun _ => 0))), (q6, .inl (cA1, 16386, .inl (fun _ => 0))), (q7, .inl (cA1, 16, .inl (fun _ => 0)))] H := hP
  have hD : va_D A [(g, .inr (1, [.int 0, .int 2048, .int 1, .ref q1, .ref q2, .ref q3, .ref q4, .ref q5, .ref q6, .null, .int 0, .int 0, .int 0])), (q1, .inl (cA1, 16386, .inl (fun _ => 0))), (q2, .inl (cA1, 16386, .inl (fun _ => 0))), (q3, .inl (cA1, 16386, .inl (fun _ => 0))), (q4, .inl (cA1, 16386, .inl (fun _ => 0))), (q5, .inl (cA5, 16386, .inl (fun _ => 0))), (q6, .inl (cA1, 16386, .inl (fun _ => 0))), (q7, .inl (cA1, 16, .inl (fun _ => 0)))] := hD
  refine va_putF (D := D) (ci := 1) (v := .ref q7) (ty := .array .int) (C := RM) (T := TM) (N := 13) hx hb hbg bg_M tM tM_ok nM hown hK hP hD hS 0 rfl rfl 9 (by decide) (hbg _ bw_318) (fun _ h9 => h9) rfl hin rfl (by decide +kernel) rfl rfl (Nat.le_of_ble_eq_true rfl) dM_init_75 (fun H locs hP hD hS => ?_)
  have hP : va_P D vwC [(g, .inr (1, [.int 0, .int 2048, .int 1, .ref q1, .ref q2, .ref q3, .ref q4, .ref q5, .ref q6, .ref q7, .int 0, .int 0, .int 0])), (q1, .inl (cA1, 16386, .inl (fun _ => 0))), (q2, .inl (cA1, 16386, .inl (fun _ => 0))), (q3, .inl (cA1, 16386, .inl (fun _ => 0))), (q4, .inl (cA1, 16386, .inl (fun _ => 0))), (q5, .inl (cA5, 16386, .inl (fun _ => 0))), (q6, .inl (cA1, 16386, .inl (fun _ => 0))), (q7, .inl (cA1, 16, .inl (fun _ => 0)))] H := hP
  have hD : va_D A [(g, .inr (1, [.int 0, .int 2048, .int 1, .ref q1, .ref q2, .ref q3, .ref q4, .ref q5, .ref q6, .ref q7, .int 0, .int 0, .int 0])), (q1, .inl (cA1, 16386, .inl (fun _ => 0))), (q2, .inl (cA1, 16386, .inl (fun _ => 0))), (q3, .inl (cA1, 16386, .inl (fun _ => 0))), (q4, .inl (cA1, 16386, .inl (fun _ => 0))), (q5, .inl (cA5, 16386, .inl (fun _ => 0))), (q6, .inl (cA1, 16386, .inl (fun _ => 0))), (q7, .inl (cA1, 16, .inl (fun _ => 0)))] := hD
  refine W.widen (k := 7) (n := 98332) (Nat.le_of_ble_eq_true rfl) (Nat.le_of_ble_eq_true rfl) ?_
  exact W.vret hx hb hr (fun t ht hW => ⟨⟨((q1, q2, q3, q4, q5, q6, q7), cA1, cA5), rfl, trivial, by rw [ht]; exact hP, va_K.moved hW.alike hK, hD⟩, hS.F ht⟩) hS.2.2 dM_init_78
