/-! CONTRACTS OF SlideRowModel: its looks (rows laid by wip/gen) -/
def sm_iO (F : Nat → Int32) (tp a : Int32) : Int32 := if a < 1 then 0 else if tp ≤ a then 0 else if F a.toNatClampNeg ≤ 0 then 0 else 1
def sm_iF (F : Nat → Int32) (tp a f : Int32) : Int32 := if sm_iO F tp a = 0 then 0 else if f < 0 then 0 else if F a.toNatClampNeg - 1 ≤ f then 0 else 1
def sm_iW (F Wd : Nat → Int32) (tp a f : Int32) : Int32 := if sm_iO F tp a = 0 then 0 else if f < 0 then 0 else if Wd a.toNatClampNeg ≤ f then 0 else 1
def sm_iR (x : Int32) : Int32 := if x < 0 then 0 else if 15 < x then 0 else 1
theorem sm_vin {a tp : Int32} (h1 : ¬ a < 1) (h2 : ¬ tp ≤ a) (ht : tp.toInt ≤ 16385) : vp_in a 16386 := by
  have e1 : (1 : Int32).toInt = 1 := by decide
  rw [vp_in_iff]
  rw [Int32.lt_iff_toInt_lt, e1] at h1
  rw [Int32.le_iff_toInt_le] at h2
  omega
theorem sm_vin1 {F : Nat → Int32} {a tp : Int32} (h : ¬ sm_iO F tp a = 0) (ht : tp.toInt ≤ 16385) : vp_in a 16386 := by
  unfold sm_iO at h
  by_cases h1 : a < 1
  · rw [if_pos h1] at h; exact absurd rfl h
  · rw [if_neg h1] at h
    by_cases h2 : tp ≤ a
    · rw [if_pos h2] at h; exact absurd rfl h
    · exact sm_vin h1 h2 ht
theorem sm_vinR {x : Int32} (h : ¬ sm_iR x = 0) : vp_in x 16 := by
  have e0 : (0 : Int32).toInt = 0 := by decide
  have e15 : (15 : Int32).toInt = 15 := by decide
  unfold sm_iR at h
  rw [vp_in_iff]
  by_cases h1 : x < 0
  · rw [if_pos h1] at h; exact absurd rfl h
  · rw [if_neg h1] at h
    by_cases h2 : 15 < x
    · rw [if_pos h2] at h; exact absurd rfl h
    · rw [Int32.lt_iff_toInt_lt, e0] at h1
      rw [Int32.lt_iff_toInt_lt, e15] at h2
      omega
theorem sm_one {x : Int32} (h : x = 1) : ¬ x = 0 := by rw [h]; decide

set_option maxHeartbeats 4000000 in
set_option maxRecDepth 100000 in
theorem ct_M_thrown (l : Launch) (D : va_G) (g fA wA nA tA rA dA oA : Nat) (cI cZ : ClassId) (F Wd Nm Tg Rc Dt Rt : Nat → Int32) (th ce tp sl go gi : Int32) (sz : Nat)  : sy_Mi l yM_thrown (Cond.code yM_thrown bM_thrown 1 (some .int) :: sr_big) { frames := 0, cells := 0, slots := 0, locals := 0 } D vwC [(cI, .int), (cZ, .boolean)] [.ref g] (wM g fA wA nA tA rA dA oA cI cZ F Wd Nm Tg Rc Dt Rt th ce tp sl go gi) sz th (wM g fA wA nA tA rA dA oA cI cZ F Wd Nm Tg Rc Dt Rt th ce tp sl go gi) 0 0 := by
  refine Met.ofW (cc := bM_thrown) (maxL := 1) (ret := (some .int)) (by decide) rfl ?_
  intro p e s m args below meth c s₁ B hml hv
  obtain ⟨rfl, hsz, hP, hK, hD0⟩ := hv
  have hx := B.exec
  have hb := B.bytes
  have hr := B.returns
  have hbg : ∀ w ∈ sr_big, w.before _ s = true := fun w h => atoms_spec (ws := Cond.code yM_thrown bM_thrown 1 (some .int) :: sr_big) B.pre w (List.mem_cons_of_mem _ h)
  have hown : s.vm.findClass RM = some m.cls := findClass_of_methodNamed B.named
  have hlocks := B.notSynchronized
  subst hsz
  have hD := hD0.self (sz := s.heap.size)
  generalize hAe : va_A (wM g fA wA nA tA rA dA oA cI cZ F Wd Nm Tg Rc Dt Rt th ce tp sl go gi) s.heap.size = A at *
  have hA : ∀ q : Nat, s.heap.size ≤ q → A q := fun q h => by rw [← hAe]; exact Or.inr h
  have hS : va_S A s.heap s.heap [] := va_S.rf
  have hl := lv_entry ([.ref g]) (n := 1) (Nat.le_of_ble_eq_true rfl)
  rw [lg_entry_eq]
  generalize (lg_sl ([.ref g]) ++ List.replicate (1 - (lg_sl ([.ref g])).length) Slot.unset).toArray = ls at hl ⊢
  have hl : lv_has ls 1 [(0, .ref g)] := hl
  refine lv_aload_n hx hb dM_thrown_0 rfl (lv_at hl 0 rfl) ?_
  refine va_get (D := D) (ci := 1) (v := .int th) (C := RM) (T := TM) (N := 13) hx hb hbg bg_M hown hK hP 0 rfl rfl 0 (by decide) (hbg _ bw_309) (fun _ h9 => h9) rfl dM_thrown_1 ?_
  refine W.widen (k := 0) (n := 0) (Nat.le_of_ble_eq_true rfl) (Nat.le_of_ble_eq_true rfl) ?_
  exact W.iret (v := th) hx hb hr (fun t ht hW => ⟨⟨th, (), rfl, rfl, by rw [ht]; exact hP, va_K.moved hW.alike hK, hD⟩, hS.F ht⟩) hS.2.2 dM_thrown_4

set_option maxHeartbeats 4000000 in
set_option maxRecDepth 100000 in
theorem ct_M_goes_k (l : Launch) (D : va_G) (g fA wA nA tA rA dA oA : Nat) (cI cZ : ClassId) (F Wd Nm Tg Rc Dt Rt : Nat → Int32) (th ce tp sl go gi : Int32) (sz : Nat) (b : Int32) (hg : b = 1) : sy_Mi l yM_goes (Cond.code yM_goes bM_goes 2 (some .boolean) :: sr_big) { frames := 0, cells := 0, slots := 0, locals := 0 } D vwC [(cI, .int), (cZ, .boolean)] [.ref g, .int b] (wM g fA wA nA tA rA dA oA cI cZ F Wd Nm Tg Rc Dt Rt th ce tp sl go gi) sz 1 (wM g fA wA nA tA rA dA oA cI cZ F Wd Nm Tg Rc Dt Rt 0 ce tp sl go gi) 0 0 := by
  refine Met.ofW (cc := bM_goes) (maxL := 2) (ret := (some .boolean)) (by decide) rfl ?_
  intro p e s m args below meth c s₁ B hml hv
  obtain ⟨rfl, hsz, hP, hK, hD0⟩ := hv
  have hx := B.exec
  have hb := B.bytes
  have hr := B.returns
  have hbg : ∀ w ∈ sr_big, w.before _ s = true := fun w h => atoms_spec (ws := Cond.code yM_goes bM_goes 2 (some .boolean) :: sr_big) B.pre w (List.mem_cons_of_mem _ h)
  have hown : s.vm.findClass RM = some m.cls := findClass_of_methodNamed B.named
  have hlocks := B.notSynchronized
  subst hsz
  have hD := hD0.self (sz := s.heap.size)
  generalize hAe : va_A (wM g fA wA nA tA rA dA oA cI cZ F Wd Nm Tg Rc Dt Rt th ce tp sl go gi) s.heap.size = A at *
  have hA : ∀ q : Nat, s.heap.size ≤ q → A q := fun q h => by rw [← hAe]; exact Or.inr h
  have hS : va_S A s.heap s.heap [] := va_S.rf
  have hl := lv_entry ([.ref g, .int b]) (n := 2) (Nat.le_of_ble_eq_true rfl)
  rw [lg_entry_eq]
  generalize (lg_sl ([.ref g, .int b]) ++ List.replicate (2 - (lg_sl ([.ref g, .int b])).length) Slot.unset).toArray = ls at hl ⊢
  have hl : lv_has ls 2 [(0, .ref g), (1, .int b)] := hl
  refine lv_aload_n hx hb dM_goes_0 rfl (lv_at hl 0 rfl) ?_
  refine lv_iload_n hx hb dM_goes_1 rfl (lv_at hl 1 rfl) ?_
  refine lv_if_eq (tgt := 9) hx hb dM_goes_2 (by decide) (fun z => absurd z (sm_one hg)) (fun _ => ?_)
  refine lv_iconst (v := 0) hx hb dM_goes_5 (by decide) ?_
  refine lv_goto (tgt := 10) hx hb dM_goes_6 (by decide) ?_
  refine va_put (D := D) (ci := 1) (v := .int 0) (ty := .int) (C := RM) (T := TM) (N := 13) hx hb hbg bg_M tM tM_ok nM hown hK hP hD hS 0 rfl rfl 0 (by decide) (hbg _ bw_309) (fun _ h9 => h9) rfl (by decide +kernel) rfl rfl (Nat.le_of_ble_eq_true rfl) dM_goes_10 (fun H locs hP hD hS => ?_)
  have hP : va_P D vwC (wM g fA wA nA tA rA dA oA cI cZ F Wd Nm Tg Rc Dt Rt 0 ce tp sl go gi) H := hP
  have hD : va_D A (wM g fA wA nA tA rA dA oA cI cZ F Wd Nm Tg Rc Dt Rt 0 ce tp sl go gi) := hD
  refine lv_iload_n hx hb dM_goes_13 rfl (lv_at hl 1 rfl) ?_
  refine W.widen (k := 0) (n := 0) (Nat.le_of_ble_eq_true rfl) (Nat.le_of_ble_eq_true rfl) ?_
  exact W.zret (ty := .boolean) (v := b) hx hb hr (by rw [hg]; rfl) (fun t ht hW => ⟨⟨b, (), rfl, hg, by rw [ht]; exact hP, va_K.moved hW.alike hK, hD⟩, hS.F ht⟩) hS.2.2 dM_goes_14

set_option maxHeartbeats 4000000 in
set_option maxRecDepth 100000 in
theorem ct_M_goes_b (l : Launch) (D : va_G) (g fA wA nA tA rA dA oA : Nat) (cI cZ : ClassId) (F Wd Nm Tg Rc Dt Rt : Nat → Int32) (th ce tp sl go gi : Int32) (sz : Nat) (b : Int32) (hg : b = 0) : sy_Mi l yM_goes (Cond.code yM_goes bM_goes 2 (some .boolean) :: sr_big) { frames := 0, cells := 0, slots := 0, locals := 0 } D vwC [(cI, .int), (cZ, .boolean)] [.ref g, .int b] (wM g fA wA nA tA rA dA oA cI cZ F Wd Nm Tg Rc Dt Rt th ce tp sl go gi) sz 0 (wM g fA wA nA tA rA dA oA cI cZ F Wd Nm Tg Rc Dt Rt 1 ce tp sl go gi) 0 0 := by
  refine Met.ofW (cc := bM_goes) (maxL := 2) (ret := (some .boolean)) (by decide) rfl ?_
  intro p e s m args below meth c s₁ B hml hv
  obtain ⟨rfl, hsz, hP, hK, hD0⟩ := hv
  have hx := B.exec
  have hb := B.bytes
  have hr := B.returns
  have hbg : ∀ w ∈ sr_big, w.before _ s = true := fun w h => atoms_spec (ws := Cond.code yM_goes bM_goes 2 (some .boolean) :: sr_big) B.pre w (List.mem_cons_of_mem _ h)
  have hown : s.vm.findClass RM = some m.cls := findClass_of_methodNamed B.named
  have hlocks := B.notSynchronized
  subst hsz
  have hD := hD0.self (sz := s.heap.size)
  generalize hAe : va_A (wM g fA wA nA tA rA dA oA cI cZ F Wd Nm Tg Rc Dt Rt th ce tp sl go gi) s.heap.size = A at *
  have hA : ∀ q : Nat, s.heap.size ≤ q → A q := fun q h => by rw [← hAe]; exact Or.inr h
  have hS : va_S A s.heap s.heap [] := va_S.rf
  have hl := lv_entry ([.ref g, .int b]) (n := 2) (Nat.le_of_ble_eq_true rfl)
  rw [lg_entry_eq]
  generalize (lg_sl ([.ref g, .int b]) ++ List.replicate (2 - (lg_sl ([.ref g, .int b])).length) Slot.unset).toArray = ls at hl ⊢
  have hl : lv_has ls 2 [(0, .ref g), (1, .int b)] := hl
  refine lv_aload_n hx hb dM_goes_0 rfl (lv_at hl 0 rfl) ?_
  refine lv_iload_n hx hb dM_goes_1 rfl (lv_at hl 1 rfl) ?_
  refine lv_if_eq (tgt := 9) hx hb dM_goes_2 (by decide) (fun _ => ?_) (fun z => absurd hg z)
  refine lv_iconst (v := 1) hx hb dM_goes_9 (by decide) ?_
  refine va_put (D := D) (ci := 1) (v := .int 1) (ty := .int) (C := RM) (T := TM) (N := 13) hx hb hbg bg_M tM tM_ok nM hown hK hP hD hS 0 rfl rfl 0 (by decide) (hbg _ bw_309) (fun _ h9 => h9) rfl (by decide +kernel) rfl rfl (Nat.le_of_ble_eq_true rfl) dM_goes_10 (fun H locs hP hD hS => ?_)
  have hP : va_P D vwC (wM g fA wA nA tA rA dA oA cI cZ F Wd Nm Tg Rc Dt Rt 1 ce tp sl go gi) H := hP
  have hD : va_D A (wM g fA wA nA tA rA dA oA cI cZ F Wd Nm Tg Rc Dt Rt 1 ce tp sl go gi) := hD
  refine lv_iload_n hx hb dM_goes_13 rfl (lv_at hl 1 rfl) ?_
  refine W.widen (k := 0) (n := 0) (Nat.le_of_ble_eq_true rfl) (Nat.le_of_ble_eq_true rfl) ?_
  exact W.zret (ty := .boolean) (v := b) hx hb hr (by rw [hg]; rfl) (fun t ht hW => ⟨⟨b, (), rfl, hg, by rw [ht]; exact hP, va_K.moved hW.alike hK, hD⟩, hS.F ht⟩) hS.2.2 dM_goes_14

set_option maxHeartbeats 4000000 in
set_option maxRecDepth 100000 in
theorem ct_M_isObject (l : Launch) (D : va_G) (g fA wA nA tA rA dA oA : Nat) (cI cZ : ClassId) (F Wd Nm Tg Rc Dt Rt : Nat → Int32) (th ce tp sl go gi : Int32) (sz : Nat) (a : Int32) (ht : tp.toInt ≤ 16385) : sy_Mi l yM_isObject (Cond.code yM_isObject bM_isObject 2 (some .boolean) :: sr_big) { frames := 0, cells := 0, slots := 0, locals := 0 } D vwC [(cI, .int), (cZ, .boolean)] [.ref g, .int a] (wM g fA wA nA tA rA dA oA cI cZ F Wd Nm Tg Rc Dt Rt th ce tp sl go gi) sz (sm_iO F tp a) (wM g fA wA nA tA rA dA oA cI cZ F Wd Nm Tg Rc Dt Rt th ce tp sl go gi) 0 0 := by
  refine Met.ofW (cc := bM_isObject) (maxL := 2) (ret := (some .boolean)) (by decide) rfl ?_
  intro p e s m args below meth c s₁ B hml hv
  obtain ⟨rfl, hsz, hP, hK, hD0⟩ := hv
  have hx := B.exec
  have hb := B.bytes
  have hr := B.returns
  have hbg : ∀ w ∈ sr_big, w.before _ s = true := fun w h => atoms_spec (ws := Cond.code yM_isObject bM_isObject 2 (some .boolean) :: sr_big) B.pre w (List.mem_cons_of_mem _ h)
  have hown : s.vm.findClass RM = some m.cls := findClass_of_methodNamed B.named
  have hlocks := B.notSynchronized
  subst hsz
  have hD := hD0.self (sz := s.heap.size)
  generalize hAe : va_A (wM g fA wA nA tA rA dA oA cI cZ F Wd Nm Tg Rc Dt Rt th ce tp sl go gi) s.heap.size = A at *
  have hA : ∀ q : Nat, s.heap.size ≤ q → A q := fun q h => by rw [← hAe]; exact Or.inr h
  have hS : va_S A s.heap s.heap [] := va_S.rf
  have hl := lv_entry ([.ref g, .int a]) (n := 2) (Nat.le_of_ble_eq_true rfl)
  rw [lg_entry_eq]
  generalize (lg_sl ([.ref g, .int a]) ++ List.replicate (2 - (lg_sl ([.ref g, .int a])).length) Slot.unset).toArray = ls at hl ⊢
  have hl : lv_has ls 2 [(0, .ref g), (1, .int a)] := hl
  refine lv_iload_n hx hb dM_isObject_0 rfl (lv_at hl 1 rfl) ?_
  refine lv_iconst (v := 1) hx hb dM_isObject_1 (by decide) ?_
  refine lv_icmp_lt (tgt := 26) hx hb dM_isObject_2 (by decide) (fun c_2 => ?_) (fun c_2 => ?_)
  · refine lv_iconst (v := 0) hx hb dM_isObject_26 (by decide) ?_
    refine W.widen (k := 0) (n := 0) (Nat.le_of_ble_eq_true rfl) (Nat.le_of_ble_eq_true rfl) ?_
    exact W.zret (ty := .boolean) (v := 0) hx hb hr rfl (fun t ht hW => ⟨⟨0, (), rfl, (by simp only [sm_iO, c_2, ↓reduceIte]), by rw [ht]; exact hP, va_K.moved hW.alike hK, hD⟩, hS.F ht⟩) hS.2.2 dM_isObject_27
  · refine lv_iload_n hx hb dM_isObject_5 rfl (lv_at hl 1 rfl) ?_
    refine lv_aload_n hx hb dM_isObject_6 rfl (lv_at hl 0 rfl) ?_
    refine va_get (D := D) (ci := 1) (v := .int tp) (C := RM) (T := TM) (N := 13) hx hb hbg bg_M hown hK hP 0 rfl rfl 2 (by decide) (hbg _ bw_311) (fun _ h9 => h9) rfl dM_isObject_7 ?_
    refine lv_icmp_ge (tgt := 26) hx hb dM_isObject_10 (by decide) (fun c_10 => ?_) (fun c_10 => ?_)
    · refine lv_iconst (v := 0) hx hb dM_isObject_26 (by decide) ?_
      refine W.widen (k := 0) (n := 0) (Nat.le_of_ble_eq_true rfl) (Nat.le_of_ble_eq_true rfl) ?_
      exact W.zret (ty := .boolean) (v := 0) hx hb hr rfl (fun t ht hW => ⟨⟨0, (), rfl, (by simp only [sm_iO, c_2, c_10, ↓reduceIte]), by rw [ht]; exact hP, va_K.moved hW.alike hK, hD⟩, hS.F ht⟩) hS.2.2 dM_isObject_27
    · refine lv_aload_n hx hb dM_isObject_13 rfl (lv_at hl 0 rfl) ?_
      refine va_get (D := D) (ci := 1) (v := .ref fA) (C := RM) (T := TM) (N := 13) hx hb hbg bg_M hown hK hP 0 rfl rfl 3 (by decide) (hbg _ bw_312) (fun _ h9 => h9) rfl dM_isObject_14 ?_
      refine lv_iload_n hx hb dM_isObject_17 rfl (lv_at hl 1 rfl) ?_
      refine va_iald hx hb hK hP 1 0 rfl rfl (sm_vin c_2 c_10 ht) dM_isObject_18 ?_
      refine lv_if_le (tgt := 26) hx hb dM_isObject_19 (by decide) (fun c_19 => ?_) (fun c_19 => ?_)
      · refine lv_iconst (v := 0) hx hb dM_isObject_26 (by decide) ?_
        refine W.widen (k := 0) (n := 0) (Nat.le_of_ble_eq_true rfl) (Nat.le_of_ble_eq_true rfl) ?_
        exact W.zret (ty := .boolean) (v := 0) hx hb hr rfl (fun t ht hW => ⟨⟨0, (), rfl, (by simp only [sm_iO, c_2, c_10, c_19, ↓reduceIte]), by rw [ht]; exact hP, va_K.moved hW.alike hK, hD⟩, hS.F ht⟩) hS.2.2 dM_isObject_27
      · refine lv_iconst (v := 1) hx hb dM_isObject_22 (by decide) ?_
        refine lv_goto (tgt := 27) hx hb dM_isObject_23 (by decide) ?_
        refine W.widen (k := 0) (n := 0) (Nat.le_of_ble_eq_true rfl) (Nat.le_of_ble_eq_true rfl) ?_
        exact W.zret (ty := .boolean) (v := 1) hx hb hr rfl (fun t ht hW => ⟨⟨1, (), rfl, (by simp only [sm_iO, c_2, c_10, c_19, ↓reduceIte]), by rw [ht]; exact hP, va_K.moved hW.alike hK, hD⟩, hS.F ht⟩) hS.2.2 dM_isObject_27

set_option maxHeartbeats 4000000 in
set_option maxRecDepth 100000 in
theorem ct_M_size (l : Launch) (D : va_G) (g fA wA nA tA rA dA oA : Nat) (cI cZ : ClassId) (F Wd Nm Tg Rc Dt Rt : Nat → Int32) (th ce tp sl go gi : Int32) (sz : Nat) (a : Int32) (hi : vp_in a 16386) : sy_Mi l yM_size (Cond.code yM_size bM_size 2 (some .int) :: sr_big) { frames := 0, cells := 0, slots := 0, locals := 0 } D vwC [(cI, .int), (cZ, .boolean)] [.ref g, .int a] (wM g fA wA nA tA rA dA oA cI cZ F Wd Nm Tg Rc Dt Rt th ce tp sl go gi) sz (3 + F a.toNatClampNeg - 1 + Wd a.toNatClampNeg) (wM g fA wA nA tA rA dA oA cI cZ F Wd Nm Tg Rc Dt Rt th ce tp sl go gi) 0 0 := by
  refine Met.ofW (cc := bM_size) (maxL := 2) (ret := (some .int)) (by decide) rfl ?_
  intro p e s m args below meth c s₁ B hml hv
  obtain ⟨rfl, hsz, hP, hK, hD0⟩ := hv
  have hx := B.exec
  have hb := B.bytes
  have hr := B.returns
  have hbg : ∀ w ∈ sr_big, w.before _ s = true := fun w h => atoms_spec (ws := Cond.code yM_size bM_size 2 (some .int) :: sr_big) B.pre w (List.mem_cons_of_mem _ h)
  have hown : s.vm.findClass RM = some m.cls := findClass_of_methodNamed B.named
  have hlocks := B.notSynchronized
  subst hsz
  have hD := hD0.self (sz := s.heap.size)
  generalize hAe : va_A (wM g fA wA nA tA rA dA oA cI cZ F Wd Nm Tg Rc Dt Rt th ce tp sl go gi) s.heap.size = A at *
  have hA : ∀ q : Nat, s.heap.size ≤ q → A q := fun q h => by rw [← hAe]; exact Or.inr h
  have hS : va_S A s.heap s.heap [] := va_S.rf
  have hl := lv_entry ([.ref g, .int a]) (n := 2) (Nat.le_of_ble_eq_true rfl)
  rw [lg_entry_eq]
  generalize (lg_sl ([.ref g, .int a]) ++ List.replicate (2 - (lg_sl ([.ref g, .int a])).length) Slot.unset).toArray = ls at hl ⊢
  have hl : lv_has ls 2 [(0, .ref g), (1, .int a)] := hl
  refine lv_iconst (v := 3) hx hb dM_size_0 (by decide) ?_
  refine lv_aload_n hx hb dM_size_1 rfl (lv_at hl 0 rfl) ?_
  refine va_get (D := D) (ci := 1) (v := .ref fA) (C := RM) (T := TM) (N := 13) hx hb hbg bg_M hown hK hP 0 rfl rfl 3 (by decide) (hbg _ bw_312) (fun _ h9 => h9) rfl dM_size_2 ?_
  refine lv_iload_n hx hb dM_size_5 rfl (lv_at hl 1 rfl) ?_
  refine va_iald hx hb hK hP 1 0 rfl rfl hi dM_size_6 ?_
  refine lv_iadd hx hb dM_size_7 ?_
  refine lv_iconst (v := 1) hx hb dM_size_8 (by decide) ?_
  refine lv_isub hx hb dM_size_9 ?_
  refine lv_aload_n hx hb dM_size_10 rfl (lv_at hl 0 rfl) ?_
  refine va_get (D := D) (ci := 1) (v := .ref wA) (C := RM) (T := TM) (N := 13) hx hb hbg bg_M hown hK hP 0 rfl rfl 4 (by decide) (hbg _ bw_313) (fun _ h9 => h9) rfl dM_size_11 ?_
  refine lv_iload_n hx hb dM_size_14 rfl (lv_at hl 1 rfl) ?_
  refine va_iald hx hb hK hP 2 0 rfl rfl hi dM_size_15 ?_
  refine lv_iadd hx hb dM_size_16 ?_
  refine W.widen (k := 0) (n := 0) (Nat.le_of_ble_eq_true rfl) (Nat.le_of_ble_eq_true rfl) ?_
  exact W.iret (v := (((3 : Int32) + (F a.toNatClampNeg)) - 1) + (Wd a.toNatClampNeg)) hx hb hr (fun t ht hW => ⟨⟨(((3 : Int32) + (F a.toNatClampNeg)) - 1) + (Wd a.toNatClampNeg), (), rfl, rfl, by rw [ht]; exact hP, va_K.moved hW.alike hK, hD⟩, hS.F ht⟩) hS.2.2 dM_size_17

set_option maxHeartbeats 4000000 in
set_option maxRecDepth 100000 in
theorem ct_M_isField (l : Launch) (D : va_G) (g fA wA nA tA rA dA oA : Nat) (cI cZ : ClassId) (F Wd Nm Tg Rc Dt Rt : Nat → Int32) (th ce tp sl go gi : Int32) (sz : Nat) (a f : Int32) (ht : tp.toInt ≤ 16385) : sy_Mi l yM_isField (Cond.code yM_isField bM_isField 3 (some .boolean) :: sr_big) { frames := 1, cells := 0, slots := 0, locals := 21 } D vwC [(cI, .int), (cZ, .boolean)] [.ref g, .int a, .int f] (wM g fA wA nA tA rA dA oA cI cZ F Wd Nm Tg Rc Dt Rt th ce tp sl go gi) sz (sm_iF F tp a f) (wM g fA wA nA tA rA dA oA cI cZ F Wd Nm Tg Rc Dt Rt th ce tp sl go gi) 0 0 := by
  refine Met.ofW (cc := bM_isField) (maxL := 3) (ret := (some .boolean)) (by decide) rfl ?_
  intro p e s m args below meth c s₁ B hml hv
  obtain ⟨rfl, hsz, hP, hK, hD0⟩ := hv
  have hx := B.exec
  have hb := B.bytes
  have hr := B.returns
  have hbg : ∀ w ∈ sr_big, w.before _ s = true := fun w h => atoms_spec (ws := Cond.code yM_isField bM_isField 3 (some .boolean) :: sr_big) B.pre w (List.mem_cons_of_mem _ h)
  have hown : s.vm.findClass RM = some m.cls := findClass_of_methodNamed B.named
  have hlocks := B.notSynchronized
  subst hsz
  have hD := hD0.self (sz := s.heap.size)
  generalize hAe : va_A (wM g fA wA nA tA rA dA oA cI cZ F Wd Nm Tg Rc Dt Rt th ce tp sl go gi) s.heap.size = A at *
  have hA : ∀ q : Nat, s.heap.size ≤ q → A q := fun q h => by rw [← hAe]; exact Or.inr h
  have hS : va_S A s.heap s.heap [] := va_S.rf
  have hl := lv_entry ([.ref g, .int a, .int f]) (n := 3) (Nat.le_of_ble_eq_true rfl)
  rw [lg_entry_eq]
  generalize (lg_sl ([.ref g, .int a, .int f]) ++ List.replicate (3 - (lg_sl ([.ref g, .int a, .int f])).length) Slot.unset).toArray = ls at hl ⊢
  have hl : lv_has ls 3 [(0, .ref g), (1, .int a), (2, .int f)] := hl
  refine lv_aload_n hx hb dM_isField_0 rfl (lv_at hl 0 rfl) ?_
  refine lv_iload_n hx hb dM_isField_1 rfl (lv_at hl 1 rfl) ?_
  refine sy_cVi (wc := wM g fA wA nA tA rA dA oA cI cZ F Wd Nm Tg Rc Dt Rt th ce tp sl go gi) (wr := []) (w1 := wM g fA wA nA tA rA dA oA cI cZ F Wd Nm Tg Rc Dt Rt th ce tp sl go gi) (ci := 1) (q0 := 0) (As := [.int a]) (rest := []) ⟨hx, hb, hml, hown, hbg⟩ (ct_M_isObject l D g fA wA nA tA rA dA oA cI cZ F Wd Nm Tg Rc Dt Rt th ce tp sl go gi s.heap.size a ht) (cwV 1 hbg (bg_V bw_358 bw_359 bw_27 bw_35 bw_360) rfl rfl rfl (by decide +kernel) ⟨Nat.le_of_ble_eq_true rfl, Nat.le_of_ble_eq_true rfl⟩) hK [0, 1] rfl hP hD hS hA [0, 1, 2, 3, 4, 5, 6, 7] [] rfl rfl rfl rfl (by decide) rfl rfl rfl hl.1 rfl (Nat.le_of_ble_eq_true rfl) dM_isField_2 ⟨Nat.le_of_ble_eq_true rfl, Nat.le_of_ble_eq_true rfl⟩ (fun H locs hP hD hS => ?_)
  have hP : va_P D vwC (wM g fA wA nA tA rA dA oA cI cZ F Wd Nm Tg Rc Dt Rt th ce tp sl go gi) H := hP
  have hD : va_D A (wM g fA wA nA tA rA dA oA cI cZ F Wd Nm Tg Rc Dt Rt th ce tp sl go gi) := hD
  refine lv_if_eq (tgt := 28) hx hb dM_isField_5 (by decide) (fun c_5 => ?_) (fun c_5 => ?_)
  · refine lv_iconst (v := 0) hx hb dM_isField_28 (by decide) ?_
    refine W.widen (k := 0) (n := 0) (Nat.le_of_ble_eq_true rfl) (Nat.le_of_ble_eq_true rfl) ?_
    exact W.zret (ty := .boolean) (v := 0) hx hb hr rfl (fun t ht hW => ⟨⟨0, (), rfl, (by simp only [sm_iF, c_5, ↓reduceIte]), by rw [ht]; exact hP, va_K.moved hW.alike hK, hD⟩, hS.F ht⟩) hS.2.2 dM_isField_29
  · refine lv_iload_n hx hb dM_isField_8 rfl (lv_at hl 2 rfl) ?_
    refine lv_if_lt (tgt := 28) hx hb dM_isField_9 (by decide) (fun c_9 => ?_) (fun c_9 => ?_)
    · refine lv_iconst (v := 0) hx hb dM_isField_28 (by decide) ?_
      refine W.widen (k := 0) (n := 0) (Nat.le_of_ble_eq_true rfl) (Nat.le_of_ble_eq_true rfl) ?_
      exact W.zret (ty := .boolean) (v := 0) hx hb hr rfl (fun t ht hW => ⟨⟨0, (), rfl, (by simp only [sm_iF, c_5, c_9, ↓reduceIte]), by rw [ht]; exact hP, va_K.moved hW.alike hK, hD⟩, hS.F ht⟩) hS.2.2 dM_isField_29
    · refine lv_iload_n hx hb dM_isField_12 rfl (lv_at hl 2 rfl) ?_
      refine lv_aload_n hx hb dM_isField_13 rfl (lv_at hl 0 rfl) ?_
      refine va_get (D := D) (ci := 1) (v := .ref fA) (C := RM) (T := TM) (N := 13) hx hb hbg bg_M hown hK hP 0 rfl rfl 3 (by decide) (hbg _ bw_312) (fun _ h9 => h9) rfl dM_isField_14 ?_
      refine lv_iload_n hx hb dM_isField_17 rfl (lv_at hl 1 rfl) ?_
      refine va_iald hx hb hK hP 1 0 rfl rfl (sm_vin1 c_5 ht) dM_isField_18 ?_
      refine lv_iconst (v := 1) hx hb dM_isField_19 (by decide) ?_
      refine lv_isub hx hb dM_isField_20 ?_
      refine lv_icmp_ge (tgt := 28) hx hb dM_isField_21 (by decide) (fun c_21 => ?_) (fun c_21 => ?_)
      · refine lv_iconst (v := 0) hx hb dM_isField_28 (by decide) ?_
        refine W.widen (k := 0) (n := 0) (Nat.le_of_ble_eq_true rfl) (Nat.le_of_ble_eq_true rfl) ?_
        exact W.zret (ty := .boolean) (v := 0) hx hb hr rfl (fun t ht hW => ⟨⟨0, (), rfl, (by simp only [sm_iF, c_5, c_9, c_21, ↓reduceIte]), by rw [ht]; exact hP, va_K.moved hW.alike hK, hD⟩, hS.F ht⟩) hS.2.2 dM_isField_29
      · refine lv_iconst (v := 1) hx hb dM_isField_24 (by decide) ?_
        refine lv_goto (tgt := 29) hx hb dM_isField_25 (by decide) ?_
        refine W.widen (k := 0) (n := 0) (Nat.le_of_ble_eq_true rfl) (Nat.le_of_ble_eq_true rfl) ?_
        exact W.zret (ty := .boolean) (v := 1) hx hb hr rfl (fun t ht hW => ⟨⟨1, (), rfl, (by simp only [sm_iF, c_5, c_9, c_21, ↓reduceIte]), by rw [ht]; exact hP, va_K.moved hW.alike hK, hD⟩, hS.F ht⟩) hS.2.2 dM_isField_29

set_option maxHeartbeats 4000000 in
set_option maxRecDepth 100000 in
theorem ct_M_isWord (l : Launch) (D : va_G) (g fA wA nA tA rA dA oA : Nat) (cI cZ : ClassId) (F Wd Nm Tg Rc Dt Rt : Nat → Int32) (th ce tp sl go gi : Int32) (sz : Nat) (a f : Int32) (ht : tp.toInt ≤ 16385) : sy_Mi l yM_isWord (Cond.code yM_isWord bM_isWord 3 (some .boolean) :: sr_big) { frames := 1, cells := 0, slots := 0, locals := 21 } D vwC [(cI, .int), (cZ, .boolean)] [.ref g, .int a, .int f] (wM g fA wA nA tA rA dA oA cI cZ F Wd Nm Tg Rc Dt Rt th ce tp sl go gi) sz (sm_iW F Wd tp a f) (wM g fA wA nA tA rA dA oA cI cZ F Wd Nm Tg Rc Dt Rt th ce tp sl go gi) 0 0 := by
  refine Met.ofW (cc := bM_isWord) (maxL := 3) (ret := (some .boolean)) (by decide) rfl ?_
  intro p e s m args below meth c s₁ B hml hv
  obtain ⟨rfl, hsz, hP, hK, hD0⟩ := hv
  have hx := B.exec
  have hb := B.bytes
  have hr := B.returns
  have hbg : ∀ w ∈ sr_big, w.before _ s = true := fun w h => atoms_spec (ws := Cond.code yM_isWord bM_isWord 3 (some .boolean) :: sr_big) B.pre w (List.mem_cons_of_mem _ h)
  have hown : s.vm.findClass RM = some m.cls := findClass_of_methodNamed B.named
  have hlocks := B.notSynchronized
  subst hsz
  have hD := hD0.self (sz := s.heap.size)
  generalize hAe : va_A (wM g fA wA nA tA rA dA oA cI cZ F Wd Nm Tg Rc Dt Rt th ce tp sl go gi) s.heap.size = A at *
  have hA : ∀ q : Nat, s.heap.size ≤ q → A q := fun q h => by rw [← hAe]; exact Or.inr h
  have hS : va_S A s.heap s.heap [] := va_S.rf
  have hl := lv_entry ([.ref g, .int a, .int f]) (n := 3) (Nat.le_of_ble_eq_true rfl)
  rw [lg_entry_eq]
  generalize (lg_sl ([.ref g, .int a, .int f]) ++ List.replicate (3 - (lg_sl ([.ref g, .int a, .int f])).length) Slot.unset).toArray = ls at hl ⊢
  have hl : lv_has ls 3 [(0, .ref g), (1, .int a), (2, .int f)] := hl
  refine lv_aload_n hx hb dM_isWord_0 rfl (lv_at hl 0 rfl) ?_
  refine lv_iload_n hx hb dM_isWord_1 rfl (lv_at hl 1 rfl) ?_
  refine sy_cVi (wc := wM g fA wA nA tA rA dA oA cI cZ F Wd Nm Tg Rc Dt Rt th ce tp sl go gi) (wr := []) (w1 := wM g fA wA nA tA rA dA oA cI cZ F Wd Nm Tg Rc Dt Rt th ce tp sl go gi) (ci := 1) (q0 := 0) (As := [.int a]) (rest := []) ⟨hx, hb, hml, hown, hbg⟩ (ct_M_isObject l D g fA wA nA tA rA dA oA cI cZ F Wd Nm Tg Rc Dt Rt th ce tp sl go gi s.heap.size a ht) (cwV 1 hbg (bg_V bw_358 bw_359 bw_27 bw_35 bw_360) rfl rfl rfl (by decide +kernel) ⟨Nat.le_of_ble_eq_true rfl, Nat.le_of_ble_eq_true rfl⟩) hK [0, 1] rfl hP hD hS hA [0, 1, 2, 3, 4, 5, 6, 7] [] rfl rfl rfl rfl (by decide) rfl rfl rfl hl.1 rfl (Nat.le_of_ble_eq_true rfl) dM_isWord_2 ⟨Nat.le_of_ble_eq_true rfl, Nat.le_of_ble_eq_true rfl⟩ (fun H locs hP hD hS => ?_)
  have hP : va_P D vwC (wM g fA wA nA tA rA dA oA cI cZ F Wd Nm Tg Rc Dt Rt th ce tp sl go gi) H := hP
  have hD : va_D A (wM g fA wA nA tA rA dA oA cI cZ F Wd Nm Tg Rc Dt Rt th ce tp sl go gi) := hD
  refine lv_if_eq (tgt := 26) hx hb dM_isWord_5 (by decide) (fun c_5 => ?_) (fun c_5 => ?_)
  · refine lv_iconst (v := 0) hx hb dM_isWord_26 (by decide) ?_
    refine W.widen (k := 0) (n := 0) (Nat.le_of_ble_eq_true rfl) (Nat.le_of_ble_eq_true rfl) ?_
    exact W.zret (ty := .boolean) (v := 0) hx hb hr rfl (fun t ht hW => ⟨⟨0, (), rfl, (by simp only [sm_iW, c_5, ↓reduceIte]), by rw [ht]; exact hP, va_K.moved hW.alike hK, hD⟩, hS.F ht⟩) hS.2.2 dM_isWord_27
  · refine lv_iload_n hx hb dM_isWord_8 rfl (lv_at hl 2 rfl) ?_
    refine lv_if_lt (tgt := 26) hx hb dM_isWord_9 (by decide) (fun c_9 => ?_) (fun c_9 => ?_)
    · refine lv_iconst (v := 0) hx hb dM_isWord_26 (by decide) ?_
      refine W.widen (k := 0) (n := 0) (Nat.le_of_ble_eq_true rfl) (Nat.le_of_ble_eq_true rfl) ?_
      exact W.zret (ty := .boolean) (v := 0) hx hb hr rfl (fun t ht hW => ⟨⟨0, (), rfl, (by simp only [sm_iW, c_5, c_9, ↓reduceIte]), by rw [ht]; exact hP, va_K.moved hW.alike hK, hD⟩, hS.F ht⟩) hS.2.2 dM_isWord_27
    · refine lv_iload_n hx hb dM_isWord_12 rfl (lv_at hl 2 rfl) ?_
      refine lv_aload_n hx hb dM_isWord_13 rfl (lv_at hl 0 rfl) ?_
      refine va_get (D := D) (ci := 1) (v := .ref wA) (C := RM) (T := TM) (N := 13) hx hb hbg bg_M hown hK hP 0 rfl rfl 4 (by decide) (hbg _ bw_313) (fun _ h9 => h9) rfl dM_isWord_14 ?_
      refine lv_iload_n hx hb dM_isWord_17 rfl (lv_at hl 1 rfl) ?_
      refine va_iald hx hb hK hP 2 0 rfl rfl (sm_vin1 c_5 ht) dM_isWord_18 ?_
      refine lv_icmp_ge (tgt := 26) hx hb dM_isWord_19 (by decide) (fun c_19 => ?_) (fun c_19 => ?_)
      · refine lv_iconst (v := 0) hx hb dM_isWord_26 (by decide) ?_
        refine W.widen (k := 0) (n := 0) (Nat.le_of_ble_eq_true rfl) (Nat.le_of_ble_eq_true rfl) ?_
        exact W.zret (ty := .boolean) (v := 0) hx hb hr rfl (fun t ht hW => ⟨⟨0, (), rfl, (by simp only [sm_iW, c_5, c_9, c_19, ↓reduceIte]), by rw [ht]; exact hP, va_K.moved hW.alike hK, hD⟩, hS.F ht⟩) hS.2.2 dM_isWord_27
      · refine lv_iconst (v := 1) hx hb dM_isWord_22 (by decide) ?_
        refine lv_goto (tgt := 27) hx hb dM_isWord_23 (by decide) ?_
        refine W.widen (k := 0) (n := 0) (Nat.le_of_ble_eq_true rfl) (Nat.le_of_ble_eq_true rfl) ?_
        exact W.zret (ty := .boolean) (v := 1) hx hb hr rfl (fun t ht hW => ⟨⟨1, (), rfl, (by simp only [sm_iW, c_5, c_9, c_19, ↓reduceIte]), by rw [ht]; exact hP, va_K.moved hW.alike hK, hD⟩, hS.F ht⟩) hS.2.2 dM_isWord_27

theorem ct_M_isRoot (l : Launch) (D : va_G) (sz : Nat) (x : Int32) : sy_Mi l yM_isRoot (Cond.code yM_isRoot bM_isRoot 1 (some .boolean) :: sr_big) { frames := 0, cells := 0, slots := 0, locals := 0 } D vwC [] [.int x] [] sz (sm_iR x) [] 0 0 := by
  refine Met.ofW (cc := bM_isRoot) (maxL := 1) (ret := (some .boolean)) (by decide) rfl ?_
  intro p e s m args below meth c s₁ B hml hv
  obtain ⟨rfl, hsz, hP, hK, hD0⟩ := hv
  have hx := B.exec
  have hb := B.bytes
  have hr := B.returns
  have hbg : ∀ w ∈ sr_big, w.before _ s = true := fun w h => atoms_spec (ws := Cond.code yM_isRoot bM_isRoot 1 (some .boolean) :: sr_big) B.pre w (List.mem_cons_of_mem _ h)
  have hown : s.vm.findClass RM = some m.cls := findClass_of_methodNamed B.named
  have hlocks := B.notSynchronized
  subst hsz
  have hD := hD0.self (sz := s.heap.size)
  generalize hAe : va_A ([]) s.heap.size = A at *
  have hA : ∀ q : Nat, s.heap.size ≤ q → A q := fun q h => by rw [← hAe]; exact Or.inr h
  have hS : va_S A s.heap s.heap [] := va_S.rf
  have hl := lv_entry ([.int x]) (n := 1) (Nat.le_of_ble_eq_true rfl)
  rw [lg_entry_eq]
  generalize (lg_sl ([.int x]) ++ List.replicate (1 - (lg_sl ([.int x])).length) Slot.unset).toArray = ls at hl ⊢
  have hl : lv_has ls 1 [(0, .int x)] := hl
  refine lv_iload_n hx hb dM_isRoot_0 rfl (lv_at hl 0 rfl) ?_
  refine lv_if_lt (tgt := 14) hx hb dM_isRoot_1 (by decide) (fun c_1 => ?_) (fun c_1 => ?_)
  · refine lv_iconst (v := 0) hx hb dM_isRoot_14 (by decide) ?_
    refine W.widen (k := 0) (n := 0) (Nat.le_of_ble_eq_true rfl) (Nat.le_of_ble_eq_true rfl) ?_
    exact W.zret (ty := .boolean) (v := 0) hx hb hr rfl (fun t ht hW => ⟨⟨0, (), rfl, (by simp only [sm_iR, c_1, ↓reduceIte]), by rw [ht]; exact hP, va_K.moved hW.alike hK, hD⟩, hS.F ht⟩) hS.2.2 dM_isRoot_15
  · refine lv_iload_n hx hb dM_isRoot_4 rfl (lv_at hl 0 rfl) ?_
    refine lv_bipush (v := 15) hx hb dM_isRoot_5 (by decide) ?_
    refine lv_icmp_gt (tgt := 14) hx hb dM_isRoot_7 (by decide) (fun c_7 => ?_) (fun c_7 => ?_)
    · refine lv_iconst (v := 0) hx hb dM_isRoot_14 (by decide) ?_
      refine W.widen (k := 0) (n := 0) (Nat.le_of_ble_eq_true rfl) (Nat.le_of_ble_eq_true rfl) ?_
      exact W.zret (ty := .boolean) (v := 0) hx hb hr rfl (fun t ht hW => ⟨⟨0, (), rfl, (by simp only [sm_iR, c_1, c_7, ↓reduceIte]), by rw [ht]; exact hP, va_K.moved hW.alike hK, hD⟩, hS.F ht⟩) hS.2.2 dM_isRoot_15
    · refine lv_iconst (v := 1) hx hb dM_isRoot_10 (by decide) ?_
      refine lv_goto (tgt := 15) hx hb dM_isRoot_11 (by decide) ?_
      refine W.widen (k := 0) (n := 0) (Nat.le_of_ble_eq_true rfl) (Nat.le_of_ble_eq_true rfl) ?_
      exact W.zret (ty := .boolean) (v := 1) hx hb hr rfl (fun t ht hW => ⟨⟨1, (), rfl, (by simp only [sm_iR, c_1, c_7, ↓reduceIte]), by rw [ht]; exact hP, va_K.moved hW.alike hK, hD⟩, hS.F ht⟩) hS.2.2 dM_isRoot_15

set_option maxHeartbeats 4000000 in
set_option maxRecDepth 100000 in
theorem ct_M_get_k (l : Launch) (D : va_G) (g fA wA nA tA rA dA oA : Nat) (cI cZ : ClassId) (F Wd Nm Tg Rc Dt Rt : Nat → Int32) (th ce tp sl go gi : Int32) (sz : Nat) (a f : Int32) (ht : tp.toInt ≤ 16385) (hg : sm_iF F tp a f = 1) (hi : vp_in (a + 3 + f) 16386) : sy_Mi l yM_get (Cond.code yM_get bM_get 3 (some .int) :: sr_big) { frames := 2, cells := 0, slots := 0, locals := 43 } D vwC [(cI, .int), (cZ, .boolean)] [.ref g, .int a, .int f] (wM g fA wA nA tA rA dA oA cI cZ F Wd Nm Tg Rc Dt Rt th ce tp sl go gi) sz (Dt (a + 3 + f).toNatClampNeg) (wM g fA wA nA tA rA dA oA cI cZ F Wd Nm Tg Rc Dt Rt 0 ce tp sl go gi) 0 0 := by
  refine Met.ofW (cc := bM_get) (maxL := 3) (ret := (some .int)) (by decide) rfl ?_
  intro p e s m args below meth c s₁ B hml hv
  obtain ⟨rfl, hsz, hP, hK, hD0⟩ := hv
  have hx := B.exec
  have hb := B.bytes
  have hr := B.returns
  have hbg : ∀ w ∈ sr_big, w.before _ s = true := fun w h => atoms_spec (ws := Cond.code yM_get bM_get 3 (some .int) :: sr_big) B.pre w (List.mem_cons_of_mem _ h)
  have hown : s.vm.findClass RM = some m.cls := findClass_of_methodNamed B.named
  have hlocks := B.notSynchronized
  subst hsz
  have hD := hD0.self (sz := s.heap.size)
  generalize hAe : va_A (wM g fA wA nA tA rA dA oA cI cZ F Wd Nm Tg Rc Dt Rt th ce tp sl go gi) s.heap.size = A at *
  have hA : ∀ q : Nat, s.heap.size ≤ q → A q := fun q h => by rw [← hAe]; exact Or.inr h
  have hS : va_S A s.heap s.heap [] := va_S.rf
  have hl := lv_entry ([.ref g, .int a, .int f]) (n := 3) (Nat.le_of_ble_eq_true rfl)
  rw [lg_entry_eq]
  generalize (lg_sl ([.ref g, .int a, .int f]) ++ List.replicate (3 - (lg_sl ([.ref g, .int a, .int f])).length) Slot.unset).toArray = ls at hl ⊢
  have hl : lv_has ls 3 [(0, .ref g), (1, .int a), (2, .int f)] := hl
  refine lv_aload_n hx hb dM_get_0 rfl (lv_at hl 0 rfl) ?_
  refine lv_aload_n hx hb dM_get_1 rfl (lv_at hl 0 rfl) ?_
  refine lv_iload_n hx hb dM_get_2 rfl (lv_at hl 1 rfl) ?_
  refine lv_iload_n hx hb dM_get_3 rfl (lv_at hl 2 rfl) ?_
  refine sy_cVi (wc := wM g fA wA nA tA rA dA oA cI cZ F Wd Nm Tg Rc Dt Rt th ce tp sl go gi) (wr := []) (w1 := wM g fA wA nA tA rA dA oA cI cZ F Wd Nm Tg Rc Dt Rt th ce tp sl go gi) (ci := 1) (q0 := 0) (As := [.int a, .int f]) (rest := [.ref g]) ⟨hx, hb, hml, hown, hbg⟩ (ct_M_isField l D g fA wA nA tA rA dA oA cI cZ F Wd Nm Tg Rc Dt Rt th ce tp sl go gi s.heap.size a f ht) (cwV 2 hbg (bg_V bw_355 bw_356 bw_26 bw_35 bw_357) rfl rfl rfl (by decide +kernel) ⟨Nat.le_of_ble_eq_true rfl, Nat.le_of_ble_eq_true rfl⟩) hK [0, 1] rfl hP hD hS hA [0, 1, 2, 3, 4, 5, 6, 7] [] rfl rfl rfl rfl (by decide) rfl rfl rfl hl.1 rfl (Nat.le_of_ble_eq_true rfl) dM_get_4 ⟨Nat.le_of_ble_eq_true rfl, Nat.le_of_ble_eq_true rfl⟩ (fun H locs hP hD hS => ?_)
  have hP : va_P D vwC (wM g fA wA nA tA rA dA oA cI cZ F Wd Nm Tg Rc Dt Rt th ce tp sl go gi) H := hP
  have hD : va_D A (wM g fA wA nA tA rA dA oA cI cZ F Wd Nm Tg Rc Dt Rt th ce tp sl go gi) := hD
  refine sy_cVi (wc := wM g fA wA nA tA rA dA oA cI cZ F Wd Nm Tg Rc Dt Rt th ce tp sl go gi) (wr := []) (w1 := wM g fA wA nA tA rA dA oA cI cZ F Wd Nm Tg Rc Dt Rt 0 ce tp sl go gi) (ci := 1) (q0 := 0) (As := [.int (sm_iF F tp a f)]) (rest := []) ⟨hx, hb, hml, hown, hbg⟩ (ct_M_goes_k l D g fA wA nA tA rA dA oA cI cZ F Wd Nm Tg Rc Dt Rt th ce tp sl go gi H.size (sm_iF F tp a f) hg) (cwV 1 hbg (bg_V bw_344 bw_345 bw_25 bw_35 bw_346) rfl rfl rfl (by decide +kernel) ⟨Nat.le_of_ble_eq_true rfl, Nat.le_of_ble_eq_true rfl⟩) hK [0, 1] rfl hP hD hS hA [0, 1, 2, 3, 4, 5, 6, 7] [] rfl rfl rfl rfl (by decide) rfl rfl rfl hl.1 rfl (Nat.le_of_ble_eq_true rfl) dM_get_7 ⟨Nat.le_of_ble_eq_true rfl, Nat.le_of_ble_eq_true rfl⟩ (fun H locs hP hD hS => ?_)
  have hP : va_P D vwC (wM g fA wA nA tA rA dA oA cI cZ F Wd Nm Tg Rc Dt Rt 0 ce tp sl go gi) H := hP
  have hD : va_D A (wM g fA wA nA tA rA dA oA cI cZ F Wd Nm Tg Rc Dt Rt 0 ce tp sl go gi) := hD
  refine lv_if_eq (tgt := 26) hx hb dM_get_10 (by decide) (fun z => absurd z (by decide)) (fun _ => ?_)
  refine lv_aload_n hx hb dM_get_13 rfl (lv_at hl 0 rfl) ?_
  refine va_get (D := D) (ci := 1) (v := .ref dA) (C := RM) (T := TM) (N := 13) hx hb hbg bg_M hown hK hP 0 rfl rfl 8 (by decide) (hbg _ bw_317) (fun _ h9 => h9) rfl dM_get_14 ?_
  refine lv_iload_n hx hb dM_get_17 rfl (lv_at hl 1 rfl) ?_
  refine lv_iconst (v := 3) hx hb dM_get_18 (by decide) ?_
  refine lv_iadd hx hb dM_get_19 ?_
  refine lv_iload_n hx hb dM_get_20 rfl (lv_at hl 2 rfl) ?_
  refine lv_iadd hx hb dM_get_21 ?_
  refine va_iald hx hb hK hP 6 0 rfl rfl hi dM_get_22 ?_
  refine lv_goto (tgt := 27) hx hb dM_get_23 (by decide) ?_
  refine W.widen (k := 0) (n := 0) (Nat.le_of_ble_eq_true rfl) (Nat.le_of_ble_eq_true rfl) ?_
  exact W.iret (v := Dt ((a + 3) + f).toNatClampNeg) hx hb hr (fun t ht hW => ⟨⟨Dt ((a + 3) + f).toNatClampNeg, (), rfl, rfl, by rw [ht]; exact hP, va_K.moved hW.alike hK, hD⟩, hS.F ht⟩) hS.2.2 dM_get_27

set_option maxHeartbeats 4000000 in
set_option maxRecDepth 100000 in
theorem ct_M_get_b (l : Launch) (D : va_G) (g fA wA nA tA rA dA oA : Nat) (cI cZ : ClassId) (F Wd Nm Tg Rc Dt Rt : Nat → Int32) (th ce tp sl go gi : Int32) (sz : Nat) (a f : Int32) (ht : tp.toInt ≤ 16385) (hg : sm_iF F tp a f = 0) : sy_Mi l yM_get (Cond.code yM_get bM_get 3 (some .int) :: sr_big) { frames := 2, cells := 0, slots := 0, locals := 43 } D vwC [(cI, .int), (cZ, .boolean)] [.ref g, .int a, .int f] (wM g fA wA nA tA rA dA oA cI cZ F Wd Nm Tg Rc Dt Rt th ce tp sl go gi) sz 0 (wM g fA wA nA tA rA dA oA cI cZ F Wd Nm Tg Rc Dt Rt 1 ce tp sl go gi) 0 0 := by
  refine Met.ofW (cc := bM_get) (maxL := 3) (ret := (some .int)) (by decide) rfl ?_
  intro p e s m args below meth c s₁ B hml hv
  obtain ⟨rfl, hsz, hP, hK, hD0⟩ := hv
  have hx := B.exec
  have hb := B.bytes
  have hr := B.returns
  have hbg : ∀ w ∈ sr_big, w.before _ s = true := fun w h => atoms_spec (ws := Cond.code yM_get bM_get 3 (some .int) :: sr_big) B.pre w (List.mem_cons_of_mem _ h)
  have hown : s.vm.findClass RM = some m.cls := findClass_of_methodNamed B.named
  have hlocks := B.notSynchronized
  subst hsz
  have hD := hD0.self (sz := s.heap.size)
  generalize hAe : va_A (wM g fA wA nA tA rA dA oA cI cZ F Wd Nm Tg Rc Dt Rt th ce tp sl go gi) s.heap.size = A at *
  have hA : ∀ q : Nat, s.heap.size ≤ q → A q := fun q h => by rw [← hAe]; exact Or.inr h
  have hS : va_S A s.heap s.heap [] := va_S.rf
  have hl := lv_entry ([.ref g, .int a, .int f]) (n := 3) (Nat.le_of_ble_eq_true rfl)
  rw [lg_entry_eq]
  generalize (lg_sl ([.ref g, .int a, .int f]) ++ List.replicate (3 - (lg_sl ([.ref g, .int a, .int f])).length) Slot.unset).toArray = ls at hl ⊢
  have hl : lv_has ls 3 [(0, .ref g), (1, .int a), (2, .int f)] := hl
  refine lv_aload_n hx hb dM_get_0 rfl (lv_at hl 0 rfl) ?_
  refine lv_aload_n hx hb dM_get_1 rfl (lv_at hl 0 rfl) ?_
  refine lv_iload_n hx hb dM_get_2 rfl (lv_at hl 1 rfl) ?_
  refine lv_iload_n hx hb dM_get_3 rfl (lv_at hl 2 rfl) ?_
  refine sy_cVi (wc := wM g fA wA nA tA rA dA oA cI cZ F Wd Nm Tg Rc Dt Rt th ce tp sl go gi) (wr := []) (w1 := wM g fA wA nA tA rA dA oA cI cZ F Wd Nm Tg Rc Dt Rt th ce tp sl go gi) (ci := 1) (q0 := 0) (As := [.int a, .int f]) (rest := [.ref g]) ⟨hx, hb, hml, hown, hbg⟩ (ct_M_isField l D g fA wA nA tA rA dA oA cI cZ F Wd Nm Tg Rc Dt Rt th ce tp sl go gi s.heap.size a f ht) (cwV 2 hbg (bg_V bw_355 bw_356 bw_26 bw_35 bw_357) rfl rfl rfl (by decide +kernel) ⟨Nat.le_of_ble_eq_true rfl, Nat.le_of_ble_eq_true rfl⟩) hK [0, 1] rfl hP hD hS hA [0, 1, 2, 3, 4, 5, 6, 7] [] rfl rfl rfl rfl (by decide) rfl rfl rfl hl.1 rfl (Nat.le_of_ble_eq_true rfl) dM_get_4 ⟨Nat.le_of_ble_eq_true rfl, Nat.le_of_ble_eq_true rfl⟩ (fun H locs hP hD hS => ?_)
  have hP : va_P D vwC (wM g fA wA nA tA rA dA oA cI cZ F Wd Nm Tg Rc Dt Rt th ce tp sl go gi) H := hP
  have hD : va_D A (wM g fA wA nA tA rA dA oA cI cZ F Wd Nm Tg Rc Dt Rt th ce tp sl go gi) := hD
  refine sy_cVi (wc := wM g fA wA nA tA rA dA oA cI cZ F Wd Nm Tg Rc Dt Rt th ce tp sl go gi) (wr := []) (w1 := wM g fA wA nA tA rA dA oA cI cZ F Wd Nm Tg Rc Dt Rt 1 ce tp sl go gi) (ci := 1) (q0 := 0) (As := [.int (sm_iF F tp a f)]) (rest := []) ⟨hx, hb, hml, hown, hbg⟩ (ct_M_goes_b l D g fA wA nA tA rA dA oA cI cZ F Wd Nm Tg Rc Dt Rt th ce tp sl go gi H.size (sm_iF F tp a f) hg) (cwV 1 hbg (bg_V bw_344 bw_345 bw_25 bw_35 bw_346) rfl rfl rfl (by decide +kernel) ⟨Nat.le_of_ble_eq_true rfl, Nat.le_of_ble_eq_true rfl⟩) hK [0, 1] rfl hP hD hS hA [0, 1, 2, 3, 4, 5, 6, 7] [] rfl rfl rfl rfl (by decide) rfl rfl rfl hl.1 rfl (Nat.le_of_ble_eq_true rfl) dM_get_7 ⟨Nat.le_of_ble_eq_true rfl, Nat.le_of_ble_eq_true rfl⟩ (fun H locs hP hD hS => ?_)
  have hP : va_P D vwC (wM g fA wA nA tA rA dA oA cI cZ F Wd Nm Tg Rc Dt Rt 1 ce tp sl go gi) H := hP
  have hD : va_D A (wM g fA wA nA tA rA dA oA cI cZ F Wd Nm Tg Rc Dt Rt 1 ce tp sl go gi) := hD
  refine lv_if_eq (tgt := 26) hx hb dM_get_10 (by decide) (fun _ => ?_) (fun z => absurd rfl z)
  refine lv_iconst (v := 0) hx hb dM_get_26 (by decide) ?_
  refine W.widen (k := 0) (n := 0) (Nat.le_of_ble_eq_true rfl) (Nat.le_of_ble_eq_true rfl) ?_
  exact W.iret (v := 0) hx hb hr (fun t ht hW => ⟨⟨0, (), rfl, rfl, by rw [ht]; exact hP, va_K.moved hW.alike hK, hD⟩, hS.F ht⟩) hS.2.2 dM_get_27

set_option maxHeartbeats 4000000 in
set_option maxRecDepth 100000 in
theorem ct_M_word_k (l : Launch) (D : va_G) (g fA wA nA tA rA dA oA : Nat) (cI cZ : ClassId) (F Wd Nm Tg Rc Dt Rt : Nat → Int32) (th ce tp sl go gi : Int32) (sz : Nat) (a f : Int32) (ht : tp.toInt ≤ 16385) (hg : sm_iW F Wd tp a f = 1) (ha : vp_in a 16386) (hi : vp_in (a + 2 + F a.toNatClampNeg + f) 16386) : sy_Mi l yM_word (Cond.code yM_word bM_word 3 (some .int) :: sr_big) { frames := 2, cells := 0, slots := 0, locals := 43 } D vwC [(cI, .int), (cZ, .boolean)] [.ref g, .int a, .int f] (wM g fA wA nA tA rA dA oA cI cZ F Wd Nm Tg Rc Dt Rt th ce tp sl go gi) sz (Dt (a + 2 + F a.toNatClampNeg + f).toNatClampNeg) (wM g fA wA nA tA rA dA oA cI cZ F Wd Nm Tg Rc Dt Rt 0 ce tp sl go gi) 0 0 := by
  refine Met.ofW (cc := bM_word) (maxL := 3) (ret := (some .int)) (by decide) rfl ?_
  intro p e s m args below meth c s₁ B hml hv
  obtain ⟨rfl, hsz, hP, hK, hD0⟩ := hv
  have hx := B.exec
  have hb := B.bytes
  have hr := B.returns
  have hbg : ∀ w ∈ sr_big, w.before _ s = true := fun w h => atoms_spec (ws := Cond.code yM_word bM_word 3 (some .int) :: sr_big) B.pre w (List.mem_cons_of_mem _ h)
  have hown : s.vm.findClass RM = some m.cls := findClass_of_methodNamed B.named
  have hlocks := B.notSynchronized
  subst hsz
  have hD := hD0.self (sz := s.heap.size)
  generalize hAe : va_A (wM g fA wA nA tA rA dA oA cI cZ F Wd Nm Tg Rc Dt Rt th ce tp sl go gi) s.heap.size = A at *
  have hA : ∀ q : Nat, s.heap.size ≤ q → A q := fun q h => by rw [← hAe]; exact Or.inr h
  have hS : va_S A s.heap s.heap [] := va_S.rf
  have hl := lv_entry ([.ref g, .int a, .int f]) (n := 3) (Nat.le_of_ble_eq_true rfl)
  rw [lg_entry_eq]
  generalize (lg_sl ([.ref g, .int a, .int f]) ++ List.replicate (3 - (lg_sl ([.ref g, .int a, .int f])).length) Slot.unset).toArray = ls at hl ⊢
  have hl : lv_has ls 3 [(0, .ref g), (1, .int a), (2, .int f)] := hl
  refine lv_aload_n hx hb dM_word_0 rfl (lv_at hl 0 rfl) ?_
  refine lv_aload_n hx hb dM_word_1 rfl (lv_at hl 0 rfl) ?_
  refine lv_iload_n hx hb dM_word_2 rfl (lv_at hl 1 rfl) ?_
  refine lv_iload_n hx hb dM_word_3 rfl (lv_at hl 2 rfl) ?_
  refine sy_cVi (wc := wM g fA wA nA tA rA dA oA cI cZ F Wd Nm Tg Rc Dt Rt th ce tp sl go gi) (wr := []) (w1 := wM g fA wA nA tA rA dA oA cI cZ F Wd Nm Tg Rc Dt Rt th ce tp sl go gi) (ci := 1) (q0 := 0) (As := [.int a, .int f]) (rest := [.ref g]) ⟨hx, hb, hml, hown, hbg⟩ (ct_M_isWord l D g fA wA nA tA rA dA oA cI cZ F Wd Nm Tg Rc Dt Rt th ce tp sl go gi s.heap.size a f ht) (cwV 2 hbg (bg_V bw_369 bw_370 bw_28 bw_35 bw_371) rfl rfl rfl (by decide +kernel) ⟨Nat.le_of_ble_eq_true rfl, Nat.le_of_ble_eq_true rfl⟩) hK [0, 1] rfl hP hD hS hA [0, 1, 2, 3, 4, 5, 6, 7] [] rfl rfl rfl rfl (by decide) rfl rfl rfl hl.1 rfl (Nat.le_of_ble_eq_true rfl) dM_word_4 ⟨Nat.le_of_ble_eq_true rfl, Nat.le_of_ble_eq_true rfl⟩ (fun H locs hP hD hS => ?_)
  have hP : va_P D vwC (wM g fA wA nA tA rA dA oA cI cZ F Wd Nm Tg Rc Dt Rt th ce tp sl go gi) H := hP
  have hD : va_D A (wM g fA wA nA tA rA dA oA cI cZ F Wd Nm Tg Rc Dt Rt th ce tp sl go gi) := hD
  refine sy_cVi (wc := wM g fA wA nA tA rA dA oA cI cZ F Wd Nm Tg Rc Dt Rt th ce tp sl go gi) (wr := []) (w1 := wM g fA wA nA tA rA dA oA cI cZ F Wd Nm Tg Rc Dt Rt 0 ce tp sl go gi) (ci := 1) (q0 := 0) (As := [.int (sm_iW F Wd tp a f)]) (rest := []) ⟨hx, hb, hml, hown, hbg⟩ (ct_M_goes_k l D g fA wA nA tA rA dA oA cI cZ F Wd Nm Tg Rc Dt Rt th ce tp sl go gi H.size (sm_iW F Wd tp a f) hg) (cwV 1 hbg (bg_V bw_344 bw_345 bw_25 bw_35 bw_346) rfl rfl rfl (by decide +kernel) ⟨Nat.le_of_ble_eq_true rfl, Nat.le_of_ble_eq_true rfl⟩) hK [0, 1] rfl hP hD hS hA [0, 1, 2, 3, 4, 5, 6, 7] [] rfl rfl rfl rfl (by decide) rfl rfl rfl hl.1 rfl (Nat.le_of_ble_eq_true rfl) dM_word_7 ⟨Nat.le_of_ble_eq_true rfl, Nat.le_of_ble_eq_true rfl⟩ (fun H locs hP hD hS => ?_)
  have hP : va_P D vwC (wM g fA wA nA tA rA dA oA cI cZ F Wd Nm Tg Rc Dt Rt 0 ce tp sl go gi) H := hP
  have hD : va_D A (wM g fA wA nA tA rA dA oA cI cZ F Wd Nm Tg Rc Dt Rt 0 ce tp sl go gi) := hD
  refine lv_if_eq (tgt := 33) hx hb dM_word_10 (by decide) (fun z => absurd z (by decide)) (fun _ => ?_)
  refine lv_aload_n hx hb dM_word_13 rfl (lv_at hl 0 rfl) ?_
  refine va_get (D := D) (ci := 1) (v := .ref dA) (C := RM) (T := TM) (N := 13) hx hb hbg bg_M hown hK hP 0 rfl rfl 8 (by decide) (hbg _ bw_317) (fun _ h9 => h9) rfl dM_word_14 ?_
  refine lv_iload_n hx hb dM_word_17 rfl (lv_at hl 1 rfl) ?_
  refine lv_iconst (v := 2) hx hb dM_word_18 (by decide) ?_
  refine lv_iadd hx hb dM_word_19 ?_
  refine lv_aload_n hx hb dM_word_20 rfl (lv_at hl 0 rfl) ?_
  refine va_get (D := D) (ci := 1) (v := .ref fA) (C := RM) (T := TM) (N := 13) hx hb hbg bg_M hown hK hP 0 rfl rfl 3 (by decide) (hbg _ bw_312) (fun _ h9 => h9) rfl dM_word_21 ?_
  refine lv_iload_n hx hb dM_word_24 rfl (lv_at hl 1 rfl) ?_
  refine va_iald hx hb hK hP 1 0 rfl rfl ha dM_word_25 ?_
  refine lv_iadd hx hb dM_word_26 ?_
  refine lv_iload_n hx hb dM_word_27 rfl (lv_at hl 2 rfl) ?_
  refine lv_iadd hx hb dM_word_28 ?_
  refine va_iald hx hb hK hP 6 0 rfl rfl hi dM_word_29 ?_
  refine lv_goto (tgt := 34) hx hb dM_word_30 (by decide) ?_
  refine W.widen (k := 0) (n := 0) (Nat.le_of_ble_eq_true rfl) (Nat.le_of_ble_eq_true rfl) ?_
  exact W.iret (v := Dt (((a + 2) + (F a.toNatClampNeg)) + f).toNatClampNeg) hx hb hr (fun t ht hW => ⟨⟨Dt (((a + 2) + (F a.toNatClampNeg)) + f).toNatClampNeg, (), rfl, rfl, by rw [ht]; exact hP, va_K.moved hW.alike hK, hD⟩, hS.F ht⟩) hS.2.2 dM_word_34

set_option maxHeartbeats 4000000 in
set_option maxRecDepth 100000 in
theorem ct_M_word_b (l : Launch) (D : va_G) (g fA wA nA tA rA dA oA : Nat) (cI cZ : ClassId) (F Wd Nm Tg Rc Dt Rt : Nat → Int32) (th ce tp sl go gi : Int32) (sz : Nat) (a f : Int32) (ht : tp.toInt ≤ 16385) (hg : sm_iW F Wd tp a f = 0) : sy_Mi l yM_word (Cond.code yM_word bM_word 3 (some .int) :: sr_big) { frames := 2, cells := 0, slots := 0, locals := 43 } D vwC [(cI, .int), (cZ, .boolean)] [.ref g, .int a, .int f] (wM g fA wA nA tA rA dA oA cI cZ F Wd Nm Tg Rc Dt Rt th ce tp sl go gi) sz 0 (wM g fA wA nA tA rA dA oA cI cZ F Wd Nm Tg Rc Dt Rt 1 ce tp sl go gi) 0 0 := by
  refine Met.ofW (cc := bM_word) (maxL := 3) (ret := (some .int)) (by decide) rfl ?_
  intro p e s m args below meth c s₁ B hml hv
  obtain ⟨rfl, hsz, hP, hK, hD0⟩ := hv
  have hx := B.exec
  have hb := B.bytes
  have hr := B.returns
  have hbg : ∀ w ∈ sr_big, w.before _ s = true := fun w h => atoms_spec (ws := Cond.code yM_word bM_word 3 (some .int) :: sr_big) B.pre w (List.mem_cons_of_mem _ h)
  have hown : s.vm.findClass RM = some m.cls := findClass_of_methodNamed B.named
  have hlocks := B.notSynchronized
  subst hsz
  have hD := hD0.self (sz := s.heap.size)
  generalize hAe : va_A (wM g fA wA nA tA rA dA oA cI cZ F Wd Nm Tg Rc Dt Rt th ce tp sl go gi) s.heap.size = A at *
  have hA : ∀ q : Nat, s.heap.size ≤ q → A q := fun q h => by rw [← hAe]; exact Or.inr h
  have hS : va_S A s.heap s.heap [] := va_S.rf
  have hl := lv_entry ([.ref g, .int a, .int f]) (n := 3) (Nat.le_of_ble_eq_true rfl)
  rw [lg_entry_eq]
  generalize (lg_sl ([.ref g, .int a, .int f]) ++ List.replicate (3 - (lg_sl ([.ref g, .int a, .int f])).length) Slot.unset).toArray = ls at hl ⊢
  have hl : lv_has ls 3 [(0, .ref g), (1, .int a), (2, .int f)] := hl
  refine lv_aload_n hx hb dM_word_0 rfl (lv_at hl 0 rfl) ?_
  refine lv_aload_n hx hb dM_word_1 rfl (lv_at hl 0 rfl) ?_
  refine lv_iload_n hx hb dM_word_2 rfl (lv_at hl 1 rfl) ?_
  refine lv_iload_n hx hb dM_word_3 rfl (lv_at hl 2 rfl) ?_
  refine sy_cVi (wc := wM g fA wA nA tA rA dA oA cI cZ F Wd Nm Tg Rc Dt Rt th ce tp sl go gi) (wr := []) (w1 := wM g fA wA nA tA rA dA oA cI cZ F Wd Nm Tg Rc Dt Rt th ce tp sl go gi) (ci := 1) (q0 := 0) (As := [.int a, .int f]) (rest := [.ref g]) ⟨hx, hb, hml, hown, hbg⟩ (ct_M_isWord l D g fA wA nA tA rA dA oA cI cZ F Wd Nm Tg Rc Dt Rt th ce tp sl go gi s.heap.size a f ht) (cwV 2 hbg (bg_V bw_369 bw_370 bw_28 bw_35 bw_371) rfl rfl rfl (by decide +kernel) ⟨Nat.le_of_ble_eq_true rfl, Nat.le_of_ble_eq_true rfl⟩) hK [0, 1] rfl hP hD hS hA [0, 1, 2, 3, 4, 5, 6, 7] [] rfl rfl rfl rfl (by decide) rfl rfl rfl hl.1 rfl (Nat.le_of_ble_eq_true rfl) dM_word_4 ⟨Nat.le_of_ble_eq_true rfl, Nat.le_of_ble_eq_true rfl⟩ (fun H locs hP hD hS => ?_)
  have hP : va_P D vwC (wM g fA wA nA tA rA dA oA cI cZ F Wd Nm Tg Rc Dt Rt th ce tp sl go gi) H := hP
  have hD : va_D A (wM g fA wA nA tA rA dA oA cI cZ F Wd Nm Tg Rc Dt Rt th ce tp sl go gi) := hD
  refine sy_cVi (wc := wM g fA wA nA tA rA dA oA cI cZ F Wd Nm Tg Rc Dt Rt th ce tp sl go gi) (wr := []) (w1 := wM g fA wA nA tA rA dA oA cI cZ F Wd Nm Tg Rc Dt Rt 1 ce tp sl go gi) (ci := 1) (q0 := 0) (As := [.int (sm_iW F Wd tp a f)]) (rest := []) ⟨hx, hb, hml, hown, hbg⟩ (ct_M_goes_b l D g fA wA nA tA rA dA oA cI cZ F Wd Nm Tg Rc Dt Rt th ce tp sl go gi H.size (sm_iW F Wd tp a f) hg) (cwV 1 hbg (bg_V bw_344 bw_345 bw_25 bw_35 bw_346) rfl rfl rfl (by decide +kernel) ⟨Nat.le_of_ble_eq_true rfl, Nat.le_of_ble_eq_true rfl⟩) hK [0, 1] rfl hP hD hS hA [0, 1, 2, 3, 4, 5, 6, 7] [] rfl rfl rfl rfl (by decide) rfl rfl rfl hl.1 rfl (Nat.le_of_ble_eq_true rfl) dM_word_7 ⟨Nat.le_of_ble_eq_true rfl, Nat.le_of_ble_eq_true rfl⟩ (fun H locs hP hD hS => ?_)
  have hP : va_P D vwC (wM g fA wA nA tA rA dA oA cI cZ F Wd Nm Tg Rc Dt Rt 1 ce tp sl go gi) H := hP
  have hD : va_D A (wM g fA wA nA tA rA dA oA cI cZ F Wd Nm Tg Rc Dt Rt 1 ce tp sl go gi) := hD
  refine lv_if_eq (tgt := 33) hx hb dM_word_10 (by decide) (fun _ => ?_) (fun z => absurd rfl z)
  refine lv_iconst (v := 0) hx hb dM_word_33 (by decide) ?_
  refine W.widen (k := 0) (n := 0) (Nat.le_of_ble_eq_true rfl) (Nat.le_of_ble_eq_true rfl) ?_
  exact W.iret (v := 0) hx hb hr (fun t ht hW => ⟨⟨0, (), rfl, rfl, by rw [ht]; exact hP, va_K.moved hW.alike hK, hD⟩, hS.F ht⟩) hS.2.2 dM_word_34

set_option maxHeartbeats 4000000 in
set_option maxRecDepth 100000 in
theorem ct_M_put_k (l : Launch) (D : va_G) (g fA wA nA tA rA dA oA : Nat) (cI cZ : ClassId) (F Wd Nm Tg Rc Dt Rt : Nat → Int32) (th ce tp sl go gi : Int32) (sz : Nat) (a f v : Int32) (ht : tp.toInt ≤ 16385) (hg : sm_iW F Wd tp a f = 1) (ha : vp_in a 16386) (hi : vp_in (a + 2 + F a.toNatClampNeg + f) 16386) : sy_Mi l yM_put (Cond.code yM_put bM_put 6 (some .int) :: sr_big) { frames := 2, cells := 0, slots := 0, locals := 43 } D vwC [(cI, .int), (cZ, .boolean)] [.ref g, .int a, .int f, .int v] (wM g fA wA nA tA rA dA oA cI cZ F Wd Nm Tg Rc Dt Rt th ce tp sl go gi) sz (Dt (a + 2 + F a.toNatClampNeg + f).toNatClampNeg) (wM g fA wA nA tA rA dA oA cI cZ F Wd Nm Tg Rc (upd Dt (a + 2 + F a.toNatClampNeg + f).toNatClampNeg v) Rt 0 ce tp sl go gi) 0 0 := by
  refine Met.ofW (cc := bM_put) (maxL := 6) (ret := (some .int)) (by decide) rfl ?_
  intro p e s m args below meth c s₁ B hml hv
  obtain ⟨rfl, hsz, hP, hK, hD0⟩ := hv
  have hx := B.exec
  have hb := B.bytes
  have hr := B.returns
  have hbg : ∀ w ∈ sr_big, w.before _ s = true := fun w h => atoms_spec (ws := Cond.code yM_put bM_put 6 (some .int) :: sr_big) B.pre w (List.mem_cons_of_mem _ h)
  have hown : s.vm.findClass RM = some m.cls := findClass_of_methodNamed B.named
  have hlocks := B.notSynchronized
  subst hsz
  have hD := hD0.self (sz := s.heap.size)
  generalize hAe : va_A (wM g fA wA nA tA rA dA oA cI cZ F Wd Nm Tg Rc Dt Rt th ce tp sl go gi) s.heap.size = A at *
  have hA : ∀ q : Nat, s.heap.size ≤ q → A q := fun q h => by rw [← hAe]; exact Or.inr h
  have hS : va_S A s.heap s.heap [] := va_S.rf
  have hl := lv_entry ([.ref g, .int a, .int f, .int v]) (n := 6) (Nat.le_of_ble_eq_true rfl)
  rw [lg_entry_eq]
  generalize (lg_sl ([.ref g, .int a, .int f, .int v]) ++ List.replicate (6 - (lg_sl ([.ref g, .int a, .int f, .int v])).length) Slot.unset).toArray = ls at hl ⊢
  have hl : lv_has ls 6 [(0, .ref g), (1, .int a), (2, .int f), (3, .int v)] := hl
  refine lv_aload_n hx hb dM_put_0 rfl (lv_at hl 0 rfl) ?_
  refine lv_aload_n hx hb dM_put_1 rfl (lv_at hl 0 rfl) ?_
  refine lv_iload_n hx hb dM_put_2 rfl (lv_at hl 1 rfl) ?_
  refine lv_iload_n hx hb dM_put_3 rfl (lv_at hl 2 rfl) ?_
  refine sy_cVi (wc := wM g fA wA nA tA rA dA oA cI cZ F Wd Nm Tg Rc Dt Rt th ce tp sl go gi) (wr := []) (w1 := wM g fA wA nA tA rA dA oA cI cZ F Wd Nm Tg Rc Dt Rt th ce tp sl go gi) (ci := 1) (q0 := 0) (As := [.int a, .int f]) (rest := [.ref g]) ⟨hx, hb, hml, hown, hbg⟩ (ct_M_isWord l D g fA wA nA tA rA dA oA cI cZ F Wd Nm Tg Rc Dt Rt th ce tp sl go gi s.heap.size a f ht) (cwV 2 hbg (bg_V bw_369 bw_370 bw_28 bw_35 bw_371) rfl rfl rfl (by decide +kernel) ⟨Nat.le_of_ble_eq_true rfl, Nat.le_of_ble_eq_true rfl⟩) hK [0, 1] rfl hP hD hS hA [0, 1, 2, 3, 4, 5, 6, 7] [] rfl rfl rfl rfl (by decide) rfl rfl rfl hl.1 rfl (Nat.le_of_ble_eq_true rfl) dM_put_4 ⟨Nat.le_of_ble_eq_true rfl, Nat.le_of_ble_eq_true rfl⟩ (fun H locs hP hD hS => ?_)
  have hP : va_P D vwC (wM g fA wA nA tA rA dA oA cI cZ F Wd Nm Tg Rc Dt Rt th ce tp sl go gi) H := hP
  have hD : va_D A (wM g fA wA nA tA rA dA oA cI cZ F Wd Nm Tg Rc Dt Rt th ce tp sl go gi) := hD
  refine sy_cVi (wc := wM g fA wA nA tA rA dA oA cI cZ F Wd Nm Tg Rc Dt Rt th ce tp sl go gi) (wr := []) (w1 := wM g fA wA nA tA rA dA oA cI cZ F Wd Nm Tg Rc Dt Rt 0 ce tp sl go gi) (ci := 1) (q0 := 0) (As := [.int (sm_iW F Wd tp a f)]) (rest := []) ⟨hx, hb, hml, hown, hbg⟩ (ct_M_goes_k l D g fA wA nA tA rA dA oA cI cZ F Wd Nm Tg Rc Dt Rt th ce tp sl go gi H.size (sm_iW F Wd tp a f) hg) (cwV 1 hbg (bg_V bw_344 bw_345 bw_25 bw_35 bw_346) rfl rfl rfl (by decide +kernel) ⟨Nat.le_of_ble_eq_true rfl, Nat.le_of_ble_eq_true rfl⟩) hK [0, 1] rfl hP hD hS hA [0, 1, 2, 3, 4, 5, 6, 7] [] rfl rfl rfl rfl (by decide) rfl rfl rfl hl.1 rfl (Nat.le_of_ble_eq_true rfl) dM_put_7 ⟨Nat.le_of_ble_eq_true rfl, Nat.le_of_ble_eq_true rfl⟩ (fun H locs hP hD hS => ?_)
  have hP : va_P D vwC (wM g fA wA nA tA rA dA oA cI cZ F Wd Nm Tg Rc Dt Rt 0 ce tp sl go gi) H := hP
  have hD : va_D A (wM g fA wA nA tA rA dA oA cI cZ F Wd Nm Tg Rc Dt Rt 0 ce tp sl go gi) := hD
  refine lv_if_ne (tgt := 15) hx hb dM_put_10 (by decide) (fun _ => ?_) (fun z => absurd z (by decide))
  refine lv_iload_n hx hb dM_put_15 rfl (lv_at hl 1 rfl) ?_
  refine lv_iconst (v := 2) hx hb dM_put_16 (by decide) ?_
  refine lv_iadd hx hb dM_put_17 ?_
  refine lv_aload_n hx hb dM_put_18 rfl (lv_at hl 0 rfl) ?_
  refine va_get (D := D) (ci := 1) (v := .ref fA) (C := RM) (T := TM) (N := 13) hx hb hbg bg_M hown hK hP 0 rfl rfl 3 (by decide) (hbg _ bw_312) (fun _ h9 => h9) rfl dM_put_19 ?_
  refine lv_iload_n hx hb dM_put_22 rfl (lv_at hl 1 rfl) ?_
  refine va_iald hx hb hK hP 1 0 rfl rfl ha dM_put_23 ?_
  refine lv_iadd hx hb dM_put_24 ?_
  refine lv_iload_n hx hb dM_put_25 rfl (lv_at hl 2 rfl) ?_
  refine lv_iadd hx hb dM_put_26 ?_
  refine lv_istore (lv' := [(4, .int (((a + 2) + (F a.toNatClampNeg)) + f)), (0, .ref g), (1, .int a), (2, .int f), (3, .int v)]) hx hb dM_put_27 hl (by decide) rfl (fun ls hl => ?_)
  refine lv_aload_n hx hb dM_put_29 rfl (lv_at hl 1 rfl) ?_
  refine va_get (D := D) (ci := 1) (v := .ref dA) (C := RM) (T := TM) (N := 13) hx hb hbg bg_M hown hK hP 0 rfl rfl 8 (by decide) (hbg _ bw_317) (fun _ h9 => h9) rfl dM_put_30 ?_
  refine lv_iload hx hb dM_put_33 (lv_at hl 0 rfl) ?_
  refine va_iald hx hb hK hP 6 0 rfl rfl hi dM_put_35 ?_
  refine lv_istore (lv' := [(5, .int (Dt (((a + 2) + (F a.toNatClampNeg)) + f).toNatClampNeg)), (4, .int (((a + 2) + (F a.toNatClampNeg)) + f)), (0, .ref g), (1, .int a), (2, .int f), (3, .int v)]) hx hb dM_put_36 hl (by decide) rfl (fun ls hl => ?_)
  refine lv_aload_n hx hb dM_put_38 rfl (lv_at hl 2 rfl) ?_
  refine va_get (D := D) (ci := 1) (v := .ref dA) (C := RM) (T := TM) (N := 13) hx hb hbg bg_M hown hK hP 0 rfl rfl 8 (by decide) (hbg _ bw_317) (fun _ h9 => h9) rfl dM_put_39 ?_
  refine lv_iload hx hb dM_put_42 (lv_at hl 1 rfl) ?_
  refine lv_iload_n hx hb dM_put_44 rfl (lv_at hl 5 rfl) ?_
  refine va_iast hx hb hK hP hD hS 6 0 rfl rfl hi dM_put_45 (fun H locs hP hD hS => ?_)
  have hP : va_P D vwC (wM g fA wA nA tA rA dA oA cI cZ F Wd Nm Tg Rc (upd Dt ((((a + 2) + (F a.toNatClampNeg)) + f).toNatClampNeg) v) Rt 0 ce tp sl go gi) H := hP
  have hD : va_D A (wM g fA wA nA tA rA dA oA cI cZ F Wd Nm Tg Rc (upd Dt ((((a + 2) + (F a.toNatClampNeg)) + f).toNatClampNeg) v) Rt 0 ce tp sl go gi) := hD
  refine lv_iload hx hb dM_put_46 (lv_at hl 0 rfl) ?_
  refine W.widen (k := 0) (n := 0) (Nat.le_of_ble_eq_true rfl) (Nat.le_of_ble_eq_true rfl) ?_
  exact W.iret (v := Dt (((a + 2) + (F a.toNatClampNeg)) + f).toNatClampNeg) hx hb hr (fun t ht hW => ⟨⟨Dt (((a + 2) + (F a.toNatClampNeg)) + f).toNatClampNeg, (), rfl, rfl, by rw [ht]; exact hP, va_K.moved hW.alike hK, hD⟩, hS.F ht⟩) hS.2.2 dM_put_48

set_option maxHeartbeats 4000000 in
set_option maxRecDepth 100000 in
theorem ct_M_put_b (l : Launch) (D : va_G) (g fA wA nA tA rA dA oA : Nat) (cI cZ : ClassId) (F Wd Nm Tg Rc Dt Rt : Nat → Int32) (th ce tp sl go gi : Int32) (sz : Nat) (a f v : Int32) (ht : tp.toInt ≤ 16385) (hg : sm_iW F Wd tp a f = 0) : sy_Mi l yM_put (Cond.code yM_put bM_put 6 (some .int) :: sr_big) { frames := 2, cells := 0, slots := 0, locals := 43 } D vwC [(cI, .int), (cZ, .boolean)] [.ref g, .int a, .int f, .int v] (wM g fA wA nA tA rA dA oA cI cZ F Wd Nm Tg Rc Dt Rt th ce tp sl go gi) sz 0 (wM g fA wA nA tA rA dA oA cI cZ F Wd Nm Tg Rc Dt Rt 1 ce tp sl go gi) 0 0 := by
  refine Met.ofW (cc := bM_put) (maxL := 6) (ret := (some .int)) (by decide) rfl ?_
  intro p e s m args below meth c s₁ B hml hv
  obtain ⟨rfl, hsz, hP, hK, hD0⟩ := hv
  have hx := B.exec
  have hb := B.bytes
  have hr := B.returns
  have hbg : ∀ w ∈ sr_big, w.before _ s = true := fun w h => atoms_spec (ws := Cond.code yM_put bM_put 6 (some .int) :: sr_big) B.pre w (List.mem_cons_of_mem _ h)
  have hown : s.vm.findClass RM = some m.cls := findClass_of_methodNamed B.named
  have hlocks := B.notSynchronized
  subst hsz
  have hD := hD0.self (sz := s.heap.size)
  generalize hAe : va_A (wM g fA wA nA tA rA dA oA cI cZ F Wd Nm Tg Rc Dt Rt th ce tp sl go gi) s.heap.size = A at *
  have hA : ∀ q : Nat, s.heap.size ≤ q → A q := fun q h => by rw [← hAe]; exact Or.inr h
  have hS : va_S A s.heap s.heap [] := va_S.rf
  have hl := lv_entry ([.ref g, .int a, .int f, .int v]) (n := 6) (Nat.le_of_ble_eq_true rfl)
  rw [lg_entry_eq]
  generalize (lg_sl ([.ref g, .int a, .int f, .int v]) ++ List.replicate (6 - (lg_sl ([.ref g, .int a, .int f, .int v])).length) Slot.unset).toArray = ls at hl ⊢
  have hl : lv_has ls 6 [(0, .ref g), (1, .int a), (2, .int f), (3, .int v)] := hl
  refine lv_aload_n hx hb dM_put_0 rfl (lv_at hl 0 rfl) ?_
  refine lv_aload_n hx hb dM_put_1 rfl (lv_at hl 0 rfl) ?_
  refine lv_iload_n hx hb dM_put_2 rfl (lv_at hl 1 rfl) ?_
  refine lv_iload_n hx hb dM_put_3 rfl (lv_at hl 2 rfl) ?_
  refine sy_cVi (wc := wM g fA wA nA tA rA dA oA cI cZ F Wd Nm Tg Rc Dt Rt th ce tp sl go gi) (wr := []) (w1 := wM g fA wA nA tA rA dA oA cI cZ F Wd Nm Tg Rc Dt Rt th ce tp sl go gi) (ci := 1) (q0 := 0) (As := [.int a, .int f]) (rest := [.ref g]) ⟨hx, hb, hml, hown, hbg⟩ (ct_M_isWord l D g fA wA nA tA rA dA oA cI cZ F Wd Nm Tg Rc Dt Rt th ce tp sl go gi s.heap.size a f ht) (cwV 2 hbg (bg_V bw_369 bw_370 bw_28 bw_35 bw_371) rfl rfl rfl (by decide +kernel) ⟨Nat.le_of_ble_eq_true rfl, Nat.le_of_ble_eq_true rfl⟩) hK [0, 1] rfl hP hD hS hA [0, 1, 2, 3, 4, 5, 6, 7] [] rfl rfl rfl rfl (by decide) rfl rfl rfl hl.1 rfl (Nat.le_of_ble_eq_true rfl) dM_put_4 ⟨Nat.le_of_ble_eq_true rfl, Nat.le_of_ble_eq_true rfl⟩ (fun H locs hP hD hS => ?_)
  have hP : va_P D vwC (wM g fA wA nA tA rA dA oA cI cZ F Wd Nm Tg Rc Dt Rt th ce tp sl go gi) H := hP
  have hD : va_D A (wM g fA wA nA tA rA dA oA cI cZ F Wd Nm Tg Rc Dt Rt th ce tp sl go gi) := hD
  refine sy_cVi (wc := wM g fA wA nA tA rA dA oA cI cZ F Wd Nm Tg Rc Dt Rt th ce tp sl go gi) (wr := []) (w1 := wM g fA wA nA tA rA dA oA cI cZ F Wd Nm Tg Rc Dt Rt 1 ce tp sl go gi) (ci := 1) (q0 := 0) (As := [.int (sm_iW F Wd tp a f)]) (rest := []) ⟨hx, hb, hml, hown, hbg⟩ (ct_M_goes_b l D g fA wA nA tA rA dA oA cI cZ F Wd Nm Tg Rc Dt Rt th ce tp sl go gi H.size (sm_iW F Wd tp a f) hg) (cwV 1 hbg (bg_V bw_344 bw_345 bw_25 bw_35 bw_346) rfl rfl rfl (by decide +kernel) ⟨Nat.le_of_ble_eq_true rfl, Nat.le_of_ble_eq_true rfl⟩) hK [0, 1] rfl hP hD hS hA [0, 1, 2, 3, 4, 5, 6, 7] [] rfl rfl rfl rfl (by decide) rfl rfl rfl hl.1 rfl (Nat.le_of_ble_eq_true rfl) dM_put_7 ⟨Nat.le_of_ble_eq_true rfl, Nat.le_of_ble_eq_true rfl⟩ (fun H locs hP hD hS => ?_)
  have hP : va_P D vwC (wM g fA wA nA tA rA dA oA cI cZ F Wd Nm Tg Rc Dt Rt 1 ce tp sl go gi) H := hP
  have hD : va_D A (wM g fA wA nA tA rA dA oA cI cZ F Wd Nm Tg Rc Dt Rt 1 ce tp sl go gi) := hD
  refine lv_if_ne (tgt := 15) hx hb dM_put_10 (by decide) (fun z => absurd rfl z) (fun _ => ?_)
  refine lv_iconst (v := 0) hx hb dM_put_13 (by decide) ?_
  refine W.widen (k := 0) (n := 0) (Nat.le_of_ble_eq_true rfl) (Nat.le_of_ble_eq_true rfl) ?_
  exact W.iret (v := 0) hx hb hr (fun t ht hW => ⟨⟨0, (), rfl, rfl, by rw [ht]; exact hP, va_K.moved hW.alike hK, hD⟩, hS.F ht⟩) hS.2.2 dM_put_14

set_option maxHeartbeats 4000000 in
set_option maxRecDepth 100000 in
theorem ct_M_set_k (l : Launch) (D : va_G) (g fA wA nA tA rA dA oA : Nat) (cI cZ : ClassId) (F Wd Nm Tg Rc Dt Rt : Nat → Int32) (th ce tp sl go gi : Int32) (sz : Nat) (a f b : Int32) (ht : tp.toInt ≤ 16385) (hg : sm_iF F tp a f = 1) (h3 : b = 0 ∨ sm_iO F tp b = 1) (hi : vp_in (a + 3 + f) 16386) : sy_Mi l yM_set (Cond.code yM_set bM_set 5 (some .int) :: sr_big) { frames := 2, cells := 0, slots := 0, locals := 43 } D vwC [(cI, .int), (cZ, .boolean)] [.ref g, .int a, .int f, .int b] (wM g fA wA nA tA rA dA oA cI cZ F Wd Nm Tg Rc Dt Rt th ce tp sl go gi) sz (Dt (a + 3 + f).toNatClampNeg) (wM g fA wA nA tA rA dA oA cI cZ F Wd Nm Tg Rc (upd Dt (a + 3 + f).toNatClampNeg b) Rt 0 ce tp sl go gi) 0 0 := by
  refine Met.ofW (cc := bM_set) (maxL := 5) (ret := (some .int)) (by decide) rfl ?_
  intro p e s m args below meth c s₁ B hml hv
  obtain ⟨rfl, hsz, hP, hK, hD0⟩ := hv
  have hx := B.exec
  have hb := B.bytes
  have hr := B.returns
  have hbg : ∀ w ∈ sr_big, w.before _ s = true := fun w h => atoms_spec (ws := Cond.code yM_set bM_set 5 (some .int) :: sr_big) B.pre w (List.mem_cons_of_mem _ h)
  have hown : s.vm.findClass RM = some m.cls := findClass_of_methodNamed B.named
  have hlocks := B.notSynchronized
  subst hsz
  have hD := hD0.self (sz := s.heap.size)
  generalize hAe : va_A (wM g fA wA nA tA rA dA oA cI cZ F Wd Nm Tg Rc Dt Rt th ce tp sl go gi) s.heap.size = A at *
  have hA : ∀ q : Nat, s.heap.size ≤ q → A q := fun q h => by rw [← hAe]; exact Or.inr h
  have hS : va_S A s.heap s.heap [] := va_S.rf
  have hl := lv_entry ([.ref g, .int a, .int f, .int b]) (n := 5) (Nat.le_of_ble_eq_true rfl)
  rw [lg_entry_eq]
  generalize (lg_sl ([.ref g, .int a, .int f, .int b]) ++ List.replicate (5 - (lg_sl ([.ref g, .int a, .int f, .int b])).length) Slot.unset).toArray = ls at hl ⊢
  have hl : lv_has ls 5 [(0, .ref g), (1, .int a), (2, .int f), (3, .int b)] := hl
  refine lv_aload_n hx hb dM_set_0 rfl (lv_at hl 0 rfl) ?_
  refine lv_aload_n hx hb dM_set_1 rfl (lv_at hl 0 rfl) ?_
  refine lv_iload_n hx hb dM_set_2 rfl (lv_at hl 1 rfl) ?_
  refine lv_iload_n hx hb dM_set_3 rfl (lv_at hl 2 rfl) ?_
  refine sy_cVi (wc := wM g fA wA nA tA rA dA oA cI cZ F Wd Nm Tg Rc Dt Rt th ce tp sl go gi) (wr := []) (w1 := wM g fA wA nA tA rA dA oA cI cZ F Wd Nm Tg Rc Dt Rt th ce tp sl go gi) (ci := 1) (q0 := 0) (As := [.int a, .int f]) (rest := [.ref g]) ⟨hx, hb, hml, hown, hbg⟩ (ct_M_isField l D g fA wA nA tA rA dA oA cI cZ F Wd Nm Tg Rc Dt Rt th ce tp sl go gi s.heap.size a f ht) (cwV 2 hbg (bg_V bw_355 bw_356 bw_26 bw_35 bw_357) rfl rfl rfl (by decide +kernel) ⟨Nat.le_of_ble_eq_true rfl, Nat.le_of_ble_eq_true rfl⟩) hK [0, 1] rfl hP hD hS hA [0, 1, 2, 3, 4, 5, 6, 7] [] rfl rfl rfl rfl (by decide) rfl rfl rfl hl.1 rfl (Nat.le_of_ble_eq_true rfl) dM_set_4 ⟨Nat.le_of_ble_eq_true rfl, Nat.le_of_ble_eq_true rfl⟩ (fun H locs hP hD hS => ?_)
  have hP : va_P D vwC (wM g fA wA nA tA rA dA oA cI cZ F Wd Nm Tg Rc Dt Rt th ce tp sl go gi) H := hP
  have hD : va_D A (wM g fA wA nA tA rA dA oA cI cZ F Wd Nm Tg Rc Dt Rt th ce tp sl go gi) := hD
  refine lv_if_eq (tgt := 26) hx hb dM_set_7 (by decide) (fun z => absurd z (sm_one hg)) (fun _ => ?_)
  refine lv_iload_n hx hb dM_set_10 rfl (lv_at hl 3 rfl) ?_
  refine lv_if_eq (tgt := 22) hx hb dM_set_11 (by decide) (fun c_11 => ?_) (fun c_11 => ?_)
  · refine lv_iconst (v := 1) hx hb dM_set_22 (by decide) ?_
    refine lv_goto (tgt := 27) hx hb dM_set_23 (by decide) ?_
    refine sy_cVi (wc := wM g fA wA nA tA rA dA oA cI cZ F Wd Nm Tg Rc Dt Rt th ce tp sl go gi) (wr := []) (w1 := wM g fA wA nA tA rA dA oA cI cZ F Wd Nm Tg Rc Dt Rt 0 ce tp sl go gi) (ci := 1) (q0 := 0) (As := [.int 1]) (rest := []) ⟨hx, hb, hml, hown, hbg⟩ (ct_M_goes_k l D g fA wA nA tA rA dA oA cI cZ F Wd Nm Tg Rc Dt Rt th ce tp sl go gi H.size 1 rfl) (cwV 1 hbg (bg_V bw_344 bw_345 bw_25 bw_35 bw_346) rfl rfl rfl (by decide +kernel) ⟨Nat.le_of_ble_eq_true rfl, Nat.le_of_ble_eq_true rfl⟩) hK [0, 1] rfl hP hD hS hA [0, 1, 2, 3, 4, 5, 6, 7] [] rfl rfl rfl rfl (by decide) rfl rfl rfl hl.1 rfl (Nat.le_of_ble_eq_true rfl) dM_set_27 ⟨Nat.le_of_ble_eq_true rfl, Nat.le_of_ble_eq_true rfl⟩ (fun H locs hP hD hS => ?_)
    have hP : va_P D vwC (wM g fA wA nA tA rA dA oA cI cZ F Wd Nm Tg Rc Dt Rt 0 ce tp sl go gi) H := hP
    have hD : va_D A (wM g fA wA nA tA rA dA oA cI cZ F Wd Nm Tg Rc Dt Rt 0 ce tp sl go gi) := hD
    refine lv_if_ne (tgt := 35) hx hb dM_set_30 (by decide) (fun _ => ?_) (fun z => absurd z (by decide))
    refine lv_aload_n hx hb dM_set_35 rfl (lv_at hl 0 rfl) ?_
    refine va_get (D := D) (ci := 1) (v := .ref dA) (C := RM) (T := TM) (N := 13) hx hb hbg bg_M hown hK hP 0 rfl rfl 8 (by decide) (hbg _ bw_317) (fun _ h9 => h9) rfl dM_set_36 ?_
    refine lv_iload_n hx hb dM_set_39 rfl (lv_at hl 1 rfl) ?_
    refine lv_iconst (v := 3) hx hb dM_set_40 (by decide) ?_
    refine lv_iadd hx hb dM_set_41 ?_
    refine lv_iload_n hx hb dM_set_42 rfl (lv_at hl 2 rfl) ?_
    refine lv_iadd hx hb dM_set_43 ?_
    refine va_iald hx hb hK hP 6 0 rfl rfl hi dM_set_44 ?_
    refine lv_istore (lv' := [(4, .int (Dt ((a + 3) + f).toNatClampNeg)), (0, .ref g), (1, .int a), (2, .int f), (3, .int b)]) hx hb dM_set_45 hl (by decide) rfl (fun ls hl => ?_)
    refine lv_aload_n hx hb dM_set_47 rfl (lv_at hl 1 rfl) ?_
    refine va_get (D := D) (ci := 1) (v := .ref dA) (C := RM) (T := TM) (N := 13) hx hb hbg bg_M hown hK hP 0 rfl rfl 8 (by decide) (hbg _ bw_317) (fun _ h9 => h9) rfl dM_set_48 ?_
    refine lv_iload_n hx hb dM_set_51 rfl (lv_at hl 2 rfl) ?_
    refine lv_iconst (v := 3) hx hb dM_set_52 (by decide) ?_
    refine lv_iadd hx hb dM_set_53 ?_
    refine lv_iload_n hx hb dM_set_54 rfl (lv_at hl 3 rfl) ?_
    refine lv_iadd hx hb dM_set_55 ?_
    refine lv_iload_n hx hb dM_set_56 rfl (lv_at hl 4 rfl) ?_
    refine va_iast hx hb hK hP hD hS 6 0 rfl rfl hi dM_set_57 (fun H locs hP hD hS => ?_)
    have hP : va_P D vwC (wM g fA wA nA tA rA dA oA cI cZ F Wd Nm Tg Rc (upd Dt (((a + 3) + f).toNatClampNeg) b) Rt 0 ce tp sl go gi) H := hP
    have hD : va_D A (wM g fA wA nA tA rA dA oA cI cZ F Wd Nm Tg Rc (upd Dt (((a + 3) + f).toNatClampNeg) b) Rt 0 ce tp sl go gi) := hD
    refine lv_iload hx hb dM_set_58 (lv_at hl 0 rfl) ?_
    refine W.widen (k := 0) (n := 0) (Nat.le_of_ble_eq_true rfl) (Nat.le_of_ble_eq_true rfl) ?_
    exact W.iret (v := Dt ((a + 3) + f).toNatClampNeg) hx hb hr (fun t ht hW => ⟨⟨Dt ((a + 3) + f).toNatClampNeg, (), rfl, rfl, by rw [ht]; exact hP, va_K.moved hW.alike hK, hD⟩, hS.F ht⟩) hS.2.2 dM_set_60
  · refine lv_aload_n hx hb dM_set_14 rfl (lv_at hl 0 rfl) ?_
    refine lv_iload_n hx hb dM_set_15 rfl (lv_at hl 3 rfl) ?_
    refine sy_cVi (wc := wM g fA wA nA tA rA dA oA cI cZ F Wd Nm Tg Rc Dt Rt th ce tp sl go gi) (wr := []) (w1 := wM g fA wA nA tA rA dA oA cI cZ F Wd Nm Tg Rc Dt Rt th ce tp sl go gi) (ci := 1) (q0 := 0) (As := [.int b]) (rest := [.ref g]) ⟨hx, hb, hml, hown, hbg⟩ (ct_M_isObject l D g fA wA nA tA rA dA oA cI cZ F Wd Nm Tg Rc Dt Rt th ce tp sl go gi H.size b ht) (cwV 1 hbg (bg_V bw_358 bw_359 bw_27 bw_35 bw_360) rfl rfl rfl (by decide +kernel) ⟨Nat.le_of_ble_eq_true rfl, Nat.le_of_ble_eq_true rfl⟩) hK [0, 1] rfl hP hD hS hA [0, 1, 2, 3, 4, 5, 6, 7] [] rfl rfl rfl rfl (by decide) rfl rfl rfl hl.1 rfl (Nat.le_of_ble_eq_true rfl) dM_set_16 ⟨Nat.le_of_ble_eq_true rfl, Nat.le_of_ble_eq_true rfl⟩ (fun H locs hP hD hS => ?_)
    have hP : va_P D vwC (wM g fA wA nA tA rA dA oA cI cZ F Wd Nm Tg Rc Dt Rt th ce tp sl go gi) H := hP
    have hD : va_D A (wM g fA wA nA tA rA dA oA cI cZ F Wd Nm Tg Rc Dt Rt th ce tp sl go gi) := hD
    refine lv_if_eq (tgt := 26) hx hb dM_set_19 (by decide) (fun z => absurd z (sm_one (h3.resolve_left c_11))) (fun _ => ?_)
    refine lv_iconst (v := 1) hx hb dM_set_22 (by decide) ?_
    refine lv_goto (tgt := 27) hx hb dM_set_23 (by decide) ?_
    refine sy_cVi (wc := wM g fA wA nA tA rA dA oA cI cZ F Wd Nm Tg Rc Dt Rt th ce tp sl go gi) (wr := []) (w1 := wM g fA wA nA tA rA dA oA cI cZ F Wd Nm Tg Rc Dt Rt 0 ce tp sl go gi) (ci := 1) (q0 := 0) (As := [.int 1]) (rest := []) ⟨hx, hb, hml, hown, hbg⟩ (ct_M_goes_k l D g fA wA nA tA rA dA oA cI cZ F Wd Nm Tg Rc Dt Rt th ce tp sl go gi H.size 1 rfl) (cwV 1 hbg (bg_V bw_344 bw_345 bw_25 bw_35 bw_346) rfl rfl rfl (by decide +kernel) ⟨Nat.le_of_ble_eq_true rfl, Nat.le_of_ble_eq_true rfl⟩) hK [0, 1] rfl hP hD hS hA [0, 1, 2, 3, 4, 5, 6, 7] [] rfl rfl rfl rfl (by decide) rfl rfl rfl hl.1 rfl (Nat.le_of_ble_eq_true rfl) dM_set_27 ⟨Nat.le_of_ble_eq_true rfl, Nat.le_of_ble_eq_true rfl⟩ (fun H locs hP hD hS => ?_)
    have hP : va_P D vwC (wM g fA wA nA tA rA dA oA cI cZ F Wd Nm Tg Rc Dt Rt 0 ce tp sl go gi) H := hP
    have hD : va_D A (wM g fA wA nA tA rA dA oA cI cZ F Wd Nm Tg Rc Dt Rt 0 ce tp sl go gi) := hD
    refine lv_if_ne (tgt := 35) hx hb dM_set_30 (by decide) (fun _ => ?_) (fun z => absurd z (by decide))
    refine lv_aload_n hx hb dM_set_35 rfl (lv_at hl 0 rfl) ?_
    refine va_get (D := D) (ci := 1) (v := .ref dA) (C := RM) (T := TM) (N := 13) hx hb hbg bg_M hown hK hP 0 rfl rfl 8 (by decide) (hbg _ bw_317) (fun _ h9 => h9) rfl dM_set_36 ?_
    refine lv_iload_n hx hb dM_set_39 rfl (lv_at hl 1 rfl) ?_
    refine lv_iconst (v := 3) hx hb dM_set_40 (by decide) ?_
    refine lv_iadd hx hb dM_set_41 ?_
    refine lv_iload_n hx hb dM_set_42 rfl (lv_at hl 2 rfl) ?_
    refine lv_iadd hx hb dM_set_43 ?_
    refine va_iald hx hb hK hP 6 0 rfl rfl hi dM_set_44 ?_
    refine lv_istore (lv' := [(4, .int (Dt ((a + 3) + f).toNatClampNeg)), (0, .ref g), (1, .int a), (2, .int f), (3, .int b)]) hx hb dM_set_45 hl (by decide) rfl (fun ls hl => ?_)
    refine lv_aload_n hx hb dM_set_47 rfl (lv_at hl 1 rfl) ?_
    refine va_get (D := D) (ci := 1) (v := .ref dA) (C := RM) (T := TM) (N := 13) hx hb hbg bg_M hown hK hP 0 rfl rfl 8 (by decide) (hbg _ bw_317) (fun _ h9 => h9) rfl dM_set_48 ?_
    refine lv_iload_n hx hb dM_set_51 rfl (lv_at hl 2 rfl) ?_
    refine lv_iconst (v := 3) hx hb dM_set_52 (by decide) ?_
    refine lv_iadd hx hb dM_set_53 ?_
    refine lv_iload_n hx hb dM_set_54 rfl (lv_at hl 3 rfl) ?_
    refine lv_iadd hx hb dM_set_55 ?_
    refine lv_iload_n hx hb dM_set_56 rfl (lv_at hl 4 rfl) ?_
    refine va_iast hx hb hK hP hD hS 6 0 rfl rfl hi dM_set_57 (fun H locs hP hD hS => ?_)
    have hP : va_P D vwC (wM g fA wA nA tA rA dA oA cI cZ F Wd Nm Tg Rc (upd Dt (((a + 3) + f).toNatClampNeg) b) Rt 0 ce tp sl go gi) H := hP
    have hD : va_D A (wM g fA wA nA tA rA dA oA cI cZ F Wd Nm Tg Rc (upd Dt (((a + 3) + f).toNatClampNeg) b) Rt 0 ce tp sl go gi) := hD
    refine lv_iload hx hb dM_set_58 (lv_at hl 0 rfl) ?_
    refine W.widen (k := 0) (n := 0) (Nat.le_of_ble_eq_true rfl) (Nat.le_of_ble_eq_true rfl) ?_
    exact W.iret (v := Dt ((a + 3) + f).toNatClampNeg) hx hb hr (fun t ht hW => ⟨⟨Dt ((a + 3) + f).toNatClampNeg, (), rfl, rfl, by rw [ht]; exact hP, va_K.moved hW.alike hK, hD⟩, hS.F ht⟩) hS.2.2 dM_set_60

set_option maxHeartbeats 4000000 in
set_option maxRecDepth 100000 in
theorem ct_M_set_b1 (l : Launch) (D : va_G) (g fA wA nA tA rA dA oA : Nat) (cI cZ : ClassId) (F Wd Nm Tg Rc Dt Rt : Nat → Int32) (th ce tp sl go gi : Int32) (sz : Nat) (a f b : Int32) (ht : tp.toInt ≤ 16385) (hg : sm_iF F tp a f = 0) : sy_Mi l yM_set (Cond.code yM_set bM_set 5 (some .int) :: sr_big) { frames := 2, cells := 0, slots := 0, locals := 43 } D vwC [(cI, .int), (cZ, .boolean)] [.ref g, .int a, .int f, .int b] (wM g fA wA nA tA rA dA oA cI cZ F Wd Nm Tg Rc Dt Rt th ce tp sl go gi) sz 0 (wM g fA wA nA tA rA dA oA cI cZ F Wd Nm Tg Rc Dt Rt 1 ce tp sl go gi) 0 0 := by
  refine Met.ofW (cc := bM_set) (maxL := 5) (ret := (some .int)) (by decide) rfl ?_
  intro p e s m args below meth c s₁ B hml hv
  obtain ⟨rfl, hsz, hP, hK, hD0⟩ := hv
  have hx := B.exec
  have hb := B.bytes
  have hr := B.returns
  have hbg : ∀ w ∈ sr_big, w.before _ s = true := fun w h => atoms_spec (ws := Cond.code yM_set bM_set 5 (some .int) :: sr_big) B.pre w (List.mem_cons_of_mem _ h)
  have hown : s.vm.findClass RM = some m.cls := findClass_of_methodNamed B.named
  have hlocks := B.notSynchronized
  subst hsz
  have hD := hD0.self (sz := s.heap.size)
  generalize hAe : va_A (wM g fA wA nA tA rA dA oA cI cZ F Wd Nm Tg Rc Dt Rt th ce tp sl go gi) s.heap.size = A at *
  have hA : ∀ q : Nat, s.heap.size ≤ q → A q := fun q h => by rw [← hAe]; exact Or.inr h
  have hS : va_S A s.heap s.heap [] := va_S.rf
  have hl := lv_entry ([.ref g, .int a, .int f, .int b]) (n := 5) (Nat.le_of_ble_eq_true rfl)
  rw [lg_entry_eq]
  generalize (lg_sl ([.ref g, .int a, .int f, .int b]) ++ List.replicate (5 - (lg_sl ([.ref g, .int a, .int f, .int b])).length) Slot.unset).toArray = ls at hl ⊢
  have hl : lv_has ls 5 [(0, .ref g), (1, .int a), (2, .int f), (3, .int b)] := hl
  refine lv_aload_n hx hb dM_set_0 rfl (lv_at hl 0 rfl) ?_
  refine lv_aload_n hx hb dM_set_1 rfl (lv_at hl 0 rfl) ?_
  refine lv_iload_n hx hb dM_set_2 rfl (lv_at hl 1 rfl) ?_
  refine lv_iload_n hx hb dM_set_3 rfl (lv_at hl 2 rfl) ?_
  refine sy_cVi (wc := wM g fA wA nA tA rA dA oA cI cZ F Wd Nm Tg Rc Dt Rt th ce tp sl go gi) (wr := []) (w1 := wM g fA wA nA tA rA dA oA cI cZ F Wd Nm Tg Rc Dt Rt th ce tp sl go gi) (ci := 1) (q0 := 0) (As := [.int a, .int f]) (rest := [.ref g]) ⟨hx, hb, hml, hown, hbg⟩ (ct_M_isField l D g fA wA nA tA rA dA oA cI cZ F Wd Nm Tg Rc Dt Rt th ce tp sl go gi s.heap.size a f ht) (cwV 2 hbg (bg_V bw_355 bw_356 bw_26 bw_35 bw_357) rfl rfl rfl (by decide +kernel) ⟨Nat.le_of_ble_eq_true rfl, Nat.le_of_ble_eq_true rfl⟩) hK [0, 1] rfl hP hD hS hA [0, 1, 2, 3, 4, 5, 6, 7] [] rfl rfl rfl rfl (by decide) rfl rfl rfl hl.1 rfl (Nat.le_of_ble_eq_true rfl) dM_set_4 ⟨Nat.le_of_ble_eq_true rfl, Nat.le_of_ble_eq_true rfl⟩ (fun H locs hP hD hS => ?_)
  have hP : va_P D vwC (wM g fA wA nA tA rA dA oA cI cZ F Wd Nm Tg Rc Dt Rt th ce tp sl go gi) H := hP
  have hD : va_D A (wM g fA wA nA tA rA dA oA cI cZ F Wd Nm Tg Rc Dt Rt th ce tp sl go gi) := hD
  refine lv_if_eq (tgt := 26) hx hb dM_set_7 (by decide) (fun _ => ?_) (fun z => absurd hg z)
  refine lv_iconst (v := 0) hx hb dM_set_26 (by decide) ?_
  refine sy_cVi (wc := wM g fA wA nA tA rA dA oA cI cZ F Wd Nm Tg Rc Dt Rt th ce tp sl go gi) (wr := []) (w1 := wM g fA wA nA tA rA dA oA cI cZ F Wd Nm Tg Rc Dt Rt 1 ce tp sl go gi) (ci := 1) (q0 := 0) (As := [.int 0]) (rest := []) ⟨hx, hb, hml, hown, hbg⟩ (ct_M_goes_b l D g fA wA nA tA rA dA oA cI cZ F Wd Nm Tg Rc Dt Rt th ce tp sl go gi H.size 0 rfl) (cwV 1 hbg (bg_V bw_344 bw_345 bw_25 bw_35 bw_346) rfl rfl rfl (by decide +kernel) ⟨Nat.le_of_ble_eq_true rfl, Nat.le_of_ble_eq_true rfl⟩) hK [0, 1] rfl hP hD hS hA [0, 1, 2, 3, 4, 5, 6, 7] [] rfl rfl rfl rfl (by decide) rfl rfl rfl hl.1 rfl (Nat.le_of_ble_eq_true rfl) dM_set_27 ⟨Nat.le_of_ble_eq_true rfl, Nat.le_of_ble_eq_true rfl⟩ (fun H locs hP hD hS => ?_)
  have hP : va_P D vwC (wM g fA wA nA tA rA dA oA cI cZ F Wd Nm Tg Rc Dt Rt 1 ce tp sl go gi) H := hP
  have hD : va_D A (wM g fA wA nA tA rA dA oA cI cZ F Wd Nm Tg Rc Dt Rt 1 ce tp sl go gi) := hD
  refine lv_if_ne (tgt := 35) hx hb dM_set_30 (by decide) (fun z => absurd rfl z) (fun _ => ?_)
  refine lv_iconst (v := 0) hx hb dM_set_33 (by decide) ?_
  refine W.widen (k := 0) (n := 0) (Nat.le_of_ble_eq_true rfl) (Nat.le_of_ble_eq_true rfl) ?_
  exact W.iret (v := 0) hx hb hr (fun t ht hW => ⟨⟨0, (), rfl, rfl, by rw [ht]; exact hP, va_K.moved hW.alike hK, hD⟩, hS.F ht⟩) hS.2.2 dM_set_34

set_option maxHeartbeats 4000000 in
set_option maxRecDepth 100000 in
theorem ct_M_set_b2 (l : Launch) (D : va_G) (g fA wA nA tA rA dA oA : Nat) (cI cZ : ClassId) (F Wd Nm Tg Rc Dt Rt : Nat → Int32) (th ce tp sl go gi : Int32) (sz : Nat) (a f b : Int32) (ht : tp.toInt ≤ 16385) (hg : sm_iF F tp a f = 1) (h0 : ¬ b = 0) (h3 : sm_iO F tp b = 0) : sy_Mi l yM_set (Cond.code yM_set bM_set 5 (some .int) :: sr_big) { frames := 2, cells := 0, slots := 0, locals := 43 } D vwC [(cI, .int), (cZ, .boolean)] [.ref g, .int a, .int f, .int b] (wM g fA wA nA tA rA dA oA cI cZ F Wd Nm Tg Rc Dt Rt th ce tp sl go gi) sz 0 (wM g fA wA nA tA rA dA oA cI cZ F Wd Nm Tg Rc Dt Rt 1 ce tp sl go gi) 0 0 := by
  refine Met.ofW (cc := bM_set) (maxL := 5) (ret := (some .int)) (by decide) rfl ?_
  intro p e s m args below meth c s₁ B hml hv
  obtain ⟨rfl, hsz, hP, hK, hD0⟩ := hv
  have hx := B.exec
  have hb := B.bytes
  have hr := B.returns
  have hbg : ∀ w ∈ sr_big, w.before _ s = true := fun w h => atoms_spec (ws := Cond.code yM_set bM_set 5 (some .int) :: sr_big) B.pre w (List.mem_cons_of_mem _ h)
  have hown : s.vm.findClass RM = some m.cls := findClass_of_methodNamed B.named
  have hlocks := B.notSynchronized
  subst hsz
  have hD := hD0.self (sz := s.heap.size)
  generalize hAe : va_A (wM g fA wA nA tA rA dA oA cI cZ F Wd Nm Tg Rc Dt Rt th ce tp sl go gi) s.heap.size = A at *
  have hA : ∀ q : Nat, s.heap.size ≤ q → A q := fun q h => by rw [← hAe]; exact Or.inr h
  have hS : va_S A s.heap s.heap [] := va_S.rf
  have hl := lv_entry ([.ref g, .int a, .int f, .int b]) (n := 5) (Nat.le_of_ble_eq_true rfl)
  rw [lg_entry_eq]
  generalize (lg_sl ([.ref g, .int a, .int f, .int b]) ++ List.replicate (5 - (lg_sl ([.ref g, .int a, .int f, .int b])).length) Slot.unset).toArray = ls at hl ⊢
  have hl : lv_has ls 5 [(0, .ref g), (1, .int a), (2, .int f), (3, .int b)] := hl
  refine lv_aload_n hx hb dM_set_0 rfl (lv_at hl 0 rfl) ?_
  refine lv_aload_n hx hb dM_set_1 rfl (lv_at hl 0 rfl) ?_
  refine lv_iload_n hx hb dM_set_2 rfl (lv_at hl 1 rfl) ?_
  refine lv_iload_n hx hb dM_set_3 rfl (lv_at hl 2 rfl) ?_
  refine sy_cVi (wc := wM g fA wA nA tA rA dA oA cI cZ F Wd Nm Tg Rc Dt Rt th ce tp sl go gi) (wr := []) (w1 := wM g fA wA nA tA rA dA oA cI cZ F Wd Nm Tg Rc Dt Rt th ce tp sl go gi) (ci := 1) (q0 := 0) (As := [.int a, .int f]) (rest := [.ref g]) ⟨hx, hb, hml, hown, hbg⟩ (ct_M_isField l D g fA wA nA tA rA dA oA cI cZ F Wd Nm Tg Rc Dt Rt th ce tp sl go gi s.heap.size a f ht) (cwV 2 hbg (bg_V bw_355 bw_356 bw_26 bw_35 bw_357) rfl rfl rfl (by decide +kernel) ⟨Nat.le_of_ble_eq_true rfl, Nat.le_of_ble_eq_true rfl⟩) hK [0, 1] rfl hP hD hS hA [0, 1, 2, 3, 4, 5, 6, 7] [] rfl rfl rfl rfl (by decide) rfl rfl rfl hl.1 rfl (Nat.le_of_ble_eq_true rfl) dM_set_4 ⟨Nat.le_of_ble_eq_true rfl, Nat.le_of_ble_eq_true rfl⟩ (fun H locs hP hD hS => ?_)
  have hP : va_P D vwC (wM g fA wA nA tA rA dA oA cI cZ F Wd Nm Tg Rc Dt Rt th ce tp sl go gi) H := hP
  have hD : va_D A (wM g fA wA nA tA rA dA oA cI cZ F Wd Nm Tg Rc Dt Rt th ce tp sl go gi) := hD
  refine lv_if_eq (tgt := 26) hx hb dM_set_7 (by decide) (fun z => absurd z (sm_one hg)) (fun _ => ?_)
  refine lv_iload_n hx hb dM_set_10 rfl (lv_at hl 3 rfl) ?_
  refine lv_if_eq (tgt := 22) hx hb dM_set_11 (by decide) (fun z => absurd z h0) (fun _ => ?_)
  refine lv_aload_n hx hb dM_set_14 rfl (lv_at hl 0 rfl) ?_
  refine lv_iload_n hx hb dM_set_15 rfl (lv_at hl 3 rfl) ?_
  refine sy_cVi (wc := wM g fA wA nA tA rA dA oA cI cZ F Wd Nm Tg Rc Dt Rt th ce tp sl go gi) (wr := []) (w1 := wM g fA wA nA tA rA dA oA cI cZ F Wd Nm Tg Rc Dt Rt th ce tp sl go gi) (ci := 1) (q0 := 0) (As := [.int b]) (rest := [.ref g]) ⟨hx, hb, hml, hown, hbg⟩ (ct_M_isObject l D g fA wA nA tA rA dA oA cI cZ F Wd Nm Tg Rc Dt Rt th ce tp sl go gi H.size b ht) (cwV 1 hbg (bg_V bw_358 bw_359 bw_27 bw_35 bw_360) rfl rfl rfl (by decide +kernel) ⟨Nat.le_of_ble_eq_true rfl, Nat.le_of_ble_eq_true rfl⟩) hK [0, 1] rfl hP hD hS hA [0, 1, 2, 3, 4, 5, 6, 7] [] rfl rfl rfl rfl (by decide) rfl rfl rfl hl.1 rfl (Nat.le_of_ble_eq_true rfl) dM_set_16 ⟨Nat.le_of_ble_eq_true rfl, Nat.le_of_ble_eq_true rfl⟩ (fun H locs hP hD hS => ?_)
  have hP : va_P D vwC (wM g fA wA nA tA rA dA oA cI cZ F Wd Nm Tg Rc Dt Rt th ce tp sl go gi) H := hP
  have hD : va_D A (wM g fA wA nA tA rA dA oA cI cZ F Wd Nm Tg Rc Dt Rt th ce tp sl go gi) := hD
  refine lv_if_eq (tgt := 26) hx hb dM_set_19 (by decide) (fun _ => ?_) (fun z => absurd h3 z)
  refine lv_iconst (v := 0) hx hb dM_set_26 (by decide) ?_
  refine sy_cVi (wc := wM g fA wA nA tA rA dA oA cI cZ F Wd Nm Tg Rc Dt Rt th ce tp sl go gi) (wr := []) (w1 := wM g fA wA nA tA rA dA oA cI cZ F Wd Nm Tg Rc Dt Rt 1 ce tp sl go gi) (ci := 1) (q0 := 0) (As := [.int 0]) (rest := []) ⟨hx, hb, hml, hown, hbg⟩ (ct_M_goes_b l D g fA wA nA tA rA dA oA cI cZ F Wd Nm Tg Rc Dt Rt th ce tp sl go gi H.size 0 rfl) (cwV 1 hbg (bg_V bw_344 bw_345 bw_25 bw_35 bw_346) rfl rfl rfl (by decide +kernel) ⟨Nat.le_of_ble_eq_true rfl, Nat.le_of_ble_eq_true rfl⟩) hK [0, 1] rfl hP hD hS hA [0, 1, 2, 3, 4, 5, 6, 7] [] rfl rfl rfl rfl (by decide) rfl rfl rfl hl.1 rfl (Nat.le_of_ble_eq_true rfl) dM_set_27 ⟨Nat.le_of_ble_eq_true rfl, Nat.le_of_ble_eq_true rfl⟩ (fun H locs hP hD hS => ?_)
  have hP : va_P D vwC (wM g fA wA nA tA rA dA oA cI cZ F Wd Nm Tg Rc Dt Rt 1 ce tp sl go gi) H := hP
  have hD : va_D A (wM g fA wA nA tA rA dA oA cI cZ F Wd Nm Tg Rc Dt Rt 1 ce tp sl go gi) := hD
  refine lv_if_ne (tgt := 35) hx hb dM_set_30 (by decide) (fun z => absurd rfl z) (fun _ => ?_)
  refine lv_iconst (v := 0) hx hb dM_set_33 (by decide) ?_
  refine W.widen (k := 0) (n := 0) (Nat.le_of_ble_eq_true rfl) (Nat.le_of_ble_eq_true rfl) ?_
  exact W.iret (v := 0) hx hb hr (fun t ht hW => ⟨⟨0, (), rfl, rfl, by rw [ht]; exact hP, va_K.moved hW.alike hK, hD⟩, hS.F ht⟩) hS.2.2 dM_set_34

set_option maxHeartbeats 4000000 in
set_option maxRecDepth 100000 in
theorem ct_M_rooted_k (l : Launch) (D : va_G) (g fA wA nA tA rA dA oA : Nat) (cI cZ : ClassId) (F Wd Nm Tg Rc Dt Rt : Nat → Int32) (th ce tp sl go gi : Int32) (sz : Nat) (x : Int32) (hg : sm_iR x = 1) : sy_Mi l yM_rooted (Cond.code yM_rooted bM_rooted 2 (some .int) :: sr_big) { frames := 1, cells := 0, slots := 0, locals := 21 } D vwC [(cI, .int), (cZ, .boolean)] [.ref g, .int x] (wM g fA wA nA tA rA dA oA cI cZ F Wd Nm Tg Rc Dt Rt th ce tp sl go gi) sz (Rt x.toNatClampNeg) (wM g fA wA nA tA rA dA oA cI cZ F Wd Nm Tg Rc Dt Rt 0 ce tp sl go gi) 0 0 := by
  refine Met.ofW (cc := bM_rooted) (maxL := 2) (ret := (some .int)) (by decide) rfl ?_
  intro p e s m args below meth c s₁ B hml hv
  obtain ⟨rfl, hsz, hP, hK, hD0⟩ := hv
  have hx := B.exec
  have hb := B.bytes
  have hr := B.returns
  have hbg : ∀ w ∈ sr_big, w.before _ s = true := fun w h => atoms_spec (ws := Cond.code yM_rooted bM_rooted 2 (some .int) :: sr_big) B.pre w (List.mem_cons_of_mem _ h)
  have hown : s.vm.findClass RM = some m.cls := findClass_of_methodNamed B.named
  have hlocks := B.notSynchronized
  subst hsz
  have hD := hD0.self (sz := s.heap.size)
  generalize hAe : va_A (wM g fA wA nA tA rA dA oA cI cZ F Wd Nm Tg Rc Dt Rt th ce tp sl go gi) s.heap.size = A at *
  have hA : ∀ q : Nat, s.heap.size ≤ q → A q := fun q h => by rw [← hAe]; exact Or.inr h
  have hS : va_S A s.heap s.heap [] := va_S.rf
  have hl := lv_entry ([.ref g, .int x]) (n := 2) (Nat.le_of_ble_eq_true rfl)
  rw [lg_entry_eq]
  generalize (lg_sl ([.ref g, .int x]) ++ List.replicate (2 - (lg_sl ([.ref g, .int x])).length) Slot.unset).toArray = ls at hl ⊢
  have hl : lv_has ls 2 [(0, .ref g), (1, .int x)] := hl
  refine lv_aload_n hx hb dM_rooted_0 rfl (lv_at hl 0 rfl) ?_
  refine lv_iload_n hx hb dM_rooted_1 rfl (lv_at hl 1 rfl) ?_
  refine sy_cSi (wc := []) (wr := wM g fA wA nA tA rA dA oA cI cZ F Wd Nm Tg Rc Dt Rt th ce tp sl go gi) (w1 := []) (As := [.int x]) (rest := [.ref g]) ⟨hx, hb, hml, hown, hbg⟩ (ct_M_isRoot l D s.heap.size x) (cwS 1 hbg (bg_S bw_380 bw_381 bw_35 bw_382) rfl rfl rfl (by decide +kernel) ⟨Nat.le_of_ble_eq_true rfl, Nat.le_of_ble_eq_true rfl⟩) hK [] rfl hP hD hS hA [] [0, 1, 2, 3, 4, 5, 6, 7] rfl rfl rfl rfl (by decide) rfl hl.1 rfl (Nat.le_of_ble_eq_true rfl) dM_rooted_2 ⟨Nat.le_of_ble_eq_true rfl, Nat.le_of_ble_eq_true rfl⟩ (fun H locs hP hD hS => ?_)
  have hP : va_P D vwC (wM g fA wA nA tA rA dA oA cI cZ F Wd Nm Tg Rc Dt Rt th ce tp sl go gi) H := hP.sub [0, 1, 2, 3, 4, 5, 6, 7] rfl
  have hD : va_D A (wM g fA wA nA tA rA dA oA cI cZ F Wd Nm Tg Rc Dt Rt th ce tp sl go gi) := hD.sub [0, 1, 2, 3, 4, 5, 6, 7] (by decide) rfl
  refine sy_cVi (wc := wM g fA wA nA tA rA dA oA cI cZ F Wd Nm Tg Rc Dt Rt th ce tp sl go gi) (wr := []) (w1 := wM g fA wA nA tA rA dA oA cI cZ F Wd Nm Tg Rc Dt Rt 0 ce tp sl go gi) (ci := 1) (q0 := 0) (As := [.int (sm_iR x)]) (rest := []) ⟨hx, hb, hml, hown, hbg⟩ (ct_M_goes_k l D g fA wA nA tA rA dA oA cI cZ F Wd Nm Tg Rc Dt Rt th ce tp sl go gi H.size (sm_iR x) hg) (cwV 1 hbg (bg_V bw_344 bw_345 bw_25 bw_35 bw_346) rfl rfl rfl (by decide +kernel) ⟨Nat.le_of_ble_eq_true rfl, Nat.le_of_ble_eq_true rfl⟩) hK [0, 1] rfl hP hD hS hA [0, 1, 2, 3, 4, 5, 6, 7] [] rfl rfl rfl rfl (by decide) rfl rfl rfl hl.1 rfl (Nat.le_of_ble_eq_true rfl) dM_rooted_5 ⟨Nat.le_of_ble_eq_true rfl, Nat.le_of_ble_eq_true rfl⟩ (fun H locs hP hD hS => ?_)
  have hP : va_P D vwC (wM g fA wA nA tA rA dA oA cI cZ F Wd Nm Tg Rc Dt Rt 0 ce tp sl go gi) H := hP
  have hD : va_D A (wM g fA wA nA tA rA dA oA cI cZ F Wd Nm Tg Rc Dt Rt 0 ce tp sl go gi) := hD
  refine lv_if_eq (tgt := 20) hx hb dM_rooted_8 (by decide) (fun z => absurd z (by decide)) (fun _ => ?_)
  refine lv_aload_n hx hb dM_rooted_11 rfl (lv_at hl 0 rfl) ?_
  refine va_get (D := D) (ci := 1) (v := .ref oA) (C := RM) (T := TM) (N := 13) hx hb hbg bg_M hown hK hP 0 rfl rfl 9 (by decide) (hbg _ bw_318) (fun _ h9 => h9) rfl dM_rooted_12 ?_
  refine lv_iload_n hx hb dM_rooted_15 rfl (lv_at hl 1 rfl) ?_
  refine va_iald hx hb hK hP 7 0 rfl rfl (sm_vinR (sm_one hg)) dM_rooted_16 ?_
  refine lv_goto (tgt := 21) hx hb dM_rooted_17 (by decide) ?_
  refine W.widen (k := 0) (n := 0) (Nat.le_of_ble_eq_true rfl) (Nat.le_of_ble_eq_true rfl) ?_
  exact W.iret (v := Rt x.toNatClampNeg) hx hb hr (fun t ht hW => ⟨⟨Rt x.toNatClampNeg, (), rfl, rfl, by rw [ht]; exact hP, va_K.moved hW.alike hK, hD⟩, hS.F ht⟩) hS.2.2 dM_rooted_21

set_option maxHeartbeats 4000000 in
set_option maxRecDepth 100000 in
theorem ct_M_rooted_b (l : Launch) (D : va_G) (g fA wA nA tA rA dA oA : Nat) (cI cZ : ClassId) (F Wd Nm Tg Rc Dt Rt : Nat → Int32) (th ce tp sl go gi : Int32) (sz : Nat) (x : Int32) (hg : sm_iR x = 0) : sy_Mi l yM_rooted (Cond.code yM_rooted bM_rooted 2 (some .int) :: sr_big) { frames := 1, cells := 0, slots := 0, locals := 21 } D vwC [(cI, .int), (cZ, .boolean)] [.ref g, .int x] (wM g fA wA nA tA rA dA oA cI cZ F Wd Nm Tg Rc Dt Rt th ce tp sl go gi) sz 0 (wM g fA wA nA tA rA dA oA cI cZ F Wd Nm Tg Rc Dt Rt 1 ce tp sl go gi) 0 0 := by
  refine Met.ofW (cc := bM_rooted) (maxL := 2) (ret := (some .int)) (by decide) rfl ?_
  intro p e s m args below meth c s₁ B hml hv
  obtain ⟨rfl, hsz, hP, hK, hD0⟩ := hv
  have hx := B.exec
  have hb := B.bytes
  have hr := B.returns
  have hbg : ∀ w ∈ sr_big, w.before _ s = true := fun w h => atoms_spec (ws := Cond.code yM_rooted bM_rooted 2 (some .int) :: sr_big) B.pre w (List.mem_cons_of_mem _ h)
  have hown : s.vm.findClass RM = some m.cls := findClass_of_methodNamed B.named
  have hlocks := B.notSynchronized
  subst hsz
  have hD := hD0.self (sz := s.heap.size)
  generalize hAe : va_A (wM g fA wA nA tA rA dA oA cI cZ F Wd Nm Tg Rc Dt Rt th ce tp sl go gi) s.heap.size = A at *
  have hA : ∀ q : Nat, s.heap.size ≤ q → A q := fun q h => by rw [← hAe]; exact Or.inr h
  have hS : va_S A s.heap s.heap [] := va_S.rf
  have hl := lv_entry ([.ref g, .int x]) (n := 2) (Nat.le_of_ble_eq_true rfl)
  rw [lg_entry_eq]
  generalize (lg_sl ([.ref g, .int x]) ++ List.replicate (2 - (lg_sl ([.ref g, .int x])).length) Slot.unset).toArray = ls at hl ⊢
  have hl : lv_has ls 2 [(0, .ref g), (1, .int x)] := hl
  refine lv_aload_n hx hb dM_rooted_0 rfl (lv_at hl 0 rfl) ?_
  refine lv_iload_n hx hb dM_rooted_1 rfl (lv_at hl 1 rfl) ?_
  refine sy_cSi (wc := []) (wr := wM g fA wA nA tA rA dA oA cI cZ F Wd Nm Tg Rc Dt Rt th ce tp sl go gi) (w1 := []) (As := [.int x]) (rest := [.ref g]) ⟨hx, hb, hml, hown, hbg⟩ (ct_M_isRoot l D s.heap.size x) (cwS 1 hbg (bg_S bw_380 bw_381 bw_35 bw_382) rfl rfl rfl (by decide +kernel) ⟨Nat.le_of_ble_eq_true rfl, Nat.le_of_ble_eq_true rfl⟩) hK [] rfl hP hD hS hA [] [0, 1, 2, 3, 4, 5, 6, 7] rfl rfl rfl rfl (by decide) rfl hl.1 rfl (Nat.le_of_ble_eq_true rfl) dM_rooted_2 ⟨Nat.le_of_ble_eq_true rfl, Nat.le_of_ble_eq_true rfl⟩ (fun H locs hP hD hS => ?_)
  have hP : va_P D vwC (wM g fA wA nA tA rA dA oA cI cZ F Wd Nm Tg Rc Dt Rt th ce tp sl go gi) H := hP.sub [0, 1, 2, 3, 4, 5, 6, 7] rfl
  have hD : va_D A (wM g fA wA nA tA rA dA oA cI cZ F Wd Nm Tg Rc Dt Rt th ce tp sl go gi) := hD.sub [0, 1, 2, 3, 4, 5, 6, 7] (by decide) rfl
  refine sy_cVi (wc := wM g fA wA nA tA rA dA oA cI cZ F Wd Nm Tg Rc Dt Rt th ce tp sl go gi) (wr := []) (w1 := wM g fA wA nA tA rA dA oA cI cZ F Wd Nm Tg Rc Dt Rt 1 ce tp sl go gi) (ci := 1) (q0 := 0) (As := [.int (sm_iR x)]) (rest := []) ⟨hx, hb, hml, hown, hbg⟩ (ct_M_goes_b l D g fA wA nA tA rA dA oA cI cZ F Wd Nm Tg Rc Dt Rt th ce tp sl go gi H.size (sm_iR x) hg) (cwV 1 hbg (bg_V bw_344 bw_345 bw_25 bw_35 bw_346) rfl rfl rfl (by decide +kernel) ⟨Nat.le_of_ble_eq_true rfl, Nat.le_of_ble_eq_true rfl⟩) hK [0, 1] rfl hP hD hS hA [0, 1, 2, 3, 4, 5, 6, 7] [] rfl rfl rfl rfl (by decide) rfl rfl rfl hl.1 rfl (Nat.le_of_ble_eq_true rfl) dM_rooted_5 ⟨Nat.le_of_ble_eq_true rfl, Nat.le_of_ble_eq_true rfl⟩ (fun H locs hP hD hS => ?_)
  have hP : va_P D vwC (wM g fA wA nA tA rA dA oA cI cZ F Wd Nm Tg Rc Dt Rt 1 ce tp sl go gi) H := hP
  have hD : va_D A (wM g fA wA nA tA rA dA oA cI cZ F Wd Nm Tg Rc Dt Rt 1 ce tp sl go gi) := hD
  refine lv_if_eq (tgt := 20) hx hb dM_rooted_8 (by decide) (fun _ => ?_) (fun z => absurd rfl z)
  refine lv_iconst (v := 0) hx hb dM_rooted_20 (by decide) ?_
  refine W.widen (k := 0) (n := 0) (Nat.le_of_ble_eq_true rfl) (Nat.le_of_ble_eq_true rfl) ?_
  exact W.iret (v := 0) hx hb hr (fun t ht hW => ⟨⟨0, (), rfl, rfl, by rw [ht]; exact hP, va_K.moved hW.alike hK, hD⟩, hS.F ht⟩) hS.2.2 dM_rooted_21

set_option maxHeartbeats 4000000 in
set_option maxRecDepth 100000 in
theorem ct_M_root_k (l : Launch) (D : va_G) (g fA wA nA tA rA dA oA : Nat) (cI cZ : ClassId) (F Wd Nm Tg Rc Dt Rt : Nat → Int32) (th ce tp sl go gi : Int32) (sz : Nat) (x a : Int32) (ht : tp.toInt ≤ 16385) (hg : sm_iR x = 1) (h3 : a = 0 ∨ sm_iO F tp a = 1) : sy_Mi l yM_root (Cond.code yM_root bM_root 4 (some .int) :: sr_big) { frames := 1, cells := 0, slots := 0, locals := 21 } D vwC [(cI, .int), (cZ, .boolean)] [.ref g, .int x, .int a] (wM g fA wA nA tA rA dA oA cI cZ F Wd Nm Tg Rc Dt Rt th ce tp sl go gi) sz (Rt x.toNatClampNeg) (wM g fA wA nA tA rA dA oA cI cZ F Wd Nm Tg Rc Dt (upd Rt x.toNatClampNeg a) 0 ce tp sl go gi) 0 0 := by
  refine Met.ofW (cc := bM_root) (maxL := 4) (ret := (some .int)) (by decide) rfl ?_
  intro p e s m args below meth c s₁ B hml hv
  obtain ⟨rfl, hsz, hP, hK, hD0⟩ := hv
  have hx := B.exec
  have hb := B.bytes
  have hr := B.returns
  have hbg : ∀ w ∈ sr_big, w.before _ s = true := fun w h => atoms_spec (ws := Cond.code yM_root bM_root 4 (some .int) :: sr_big) B.pre w (List.mem_cons_of_mem _ h)
  have hown : s.vm.findClass RM = some m.cls := findClass_of_methodNamed B.named
  have hlocks := B.notSynchronized
  subst hsz
  have hD := hD0.self (sz := s.heap.size)
  generalize hAe : va_A (wM g fA wA nA tA rA dA oA cI cZ F Wd Nm Tg Rc Dt Rt th ce tp sl go gi) s.heap.size = A at *
  have hA : ∀ q : Nat, s.heap.size ≤ q → A q := fun q h => by rw [← hAe]; exact Or.inr h
  have hS : va_S A s.heap s.heap [] := va_S.rf
  have hl := lv_entry ([.ref g, .int x, .int a]) (n := 4) (Nat.le_of_ble_eq_true rfl)
  rw [lg_entry_eq]
  generalize (lg_sl ([.ref g, .int x, .int a]) ++ List.replicate (4 - (lg_sl ([.ref g, .int x, .int a])).length) Slot.unset).toArray = ls at hl ⊢
  have hl : lv_has ls 4 [(0, .ref g), (1, .int x), (2, .int a)] := hl
  refine lv_aload_n hx hb dM_root_0 rfl (lv_at hl 0 rfl) ?_
  refine lv_iload_n hx hb dM_root_1 rfl (lv_at hl 1 rfl) ?_
  refine sy_cSi (wc := []) (wr := wM g fA wA nA tA rA dA oA cI cZ F Wd Nm Tg Rc Dt Rt th ce tp sl go gi) (w1 := []) (As := [.int x]) (rest := [.ref g]) ⟨hx, hb, hml, hown, hbg⟩ (ct_M_isRoot l D s.heap.size x) (cwS 1 hbg (bg_S bw_380 bw_381 bw_35 bw_382) rfl rfl rfl (by decide +kernel) ⟨Nat.le_of_ble_eq_true rfl, Nat.le_of_ble_eq_true rfl⟩) hK [] rfl hP hD hS hA [] [0, 1, 2, 3, 4, 5, 6, 7] rfl rfl rfl rfl (by decide) rfl hl.1 rfl (Nat.le_of_ble_eq_true rfl) dM_root_2 ⟨Nat.le_of_ble_eq_true rfl, Nat.le_of_ble_eq_true rfl⟩ (fun H locs hP hD hS => ?_)
  have hP : va_P D vwC (wM g fA wA nA tA rA dA oA cI cZ F Wd Nm Tg Rc Dt Rt th ce tp sl go gi) H := hP.sub [0, 1, 2, 3, 4, 5, 6, 7] rfl
  have hD : va_D A (wM g fA wA nA tA rA dA oA cI cZ F Wd Nm Tg Rc Dt Rt th ce tp sl go gi) := hD.sub [0, 1, 2, 3, 4, 5, 6, 7] (by decide) rfl
  refine lv_if_eq (tgt := 24) hx hb dM_root_5 (by decide) (fun z => absurd z (sm_one hg)) (fun _ => ?_)
  refine lv_iload_n hx hb dM_root_8 rfl (lv_at hl 2 rfl) ?_
  refine lv_if_eq (tgt := 20) hx hb dM_root_9 (by decide) (fun c_9 => ?_) (fun c_9 => ?_)
  · refine lv_iconst (v := 1) hx hb dM_root_20 (by decide) ?_
    refine lv_goto (tgt := 25) hx hb dM_root_21 (by decide) ?_
    refine sy_cVi (wc := wM g fA wA nA tA rA dA oA cI cZ F Wd Nm Tg Rc Dt Rt th ce tp sl go gi) (wr := []) (w1 := wM g fA wA nA tA rA dA oA cI cZ F Wd Nm Tg Rc Dt Rt 0 ce tp sl go gi) (ci := 1) (q0 := 0) (As := [.int 1]) (rest := []) ⟨hx, hb, hml, hown, hbg⟩ (ct_M_goes_k l D g fA wA nA tA rA dA oA cI cZ F Wd Nm Tg Rc Dt Rt th ce tp sl go gi H.size 1 rfl) (cwV 1 hbg (bg_V bw_344 bw_345 bw_25 bw_35 bw_346) rfl rfl rfl (by decide +kernel) ⟨Nat.le_of_ble_eq_true rfl, Nat.le_of_ble_eq_true rfl⟩) hK [0, 1] rfl hP hD hS hA [0, 1, 2, 3, 4, 5, 6, 7] [] rfl rfl rfl rfl (by decide) rfl rfl rfl hl.1 rfl (Nat.le_of_ble_eq_true rfl) dM_root_25 ⟨Nat.le_of_ble_eq_true rfl, Nat.le_of_ble_eq_true rfl⟩ (fun H locs hP hD hS => ?_)
    have hP : va_P D vwC (wM g fA wA nA tA rA dA oA cI cZ F Wd Nm Tg Rc Dt Rt 0 ce tp sl go gi) H := hP
    have hD : va_D A (wM g fA wA nA tA rA dA oA cI cZ F Wd Nm Tg Rc Dt Rt 0 ce tp sl go gi) := hD
    refine lv_if_ne (tgt := 33) hx hb dM_root_28 (by decide) (fun _ => ?_) (fun z => absurd z (by decide))
    refine lv_aload_n hx hb dM_root_33 rfl (lv_at hl 0 rfl) ?_
    refine va_get (D := D) (ci := 1) (v := .ref oA) (C := RM) (T := TM) (N := 13) hx hb hbg bg_M hown hK hP 0 rfl rfl 9 (by decide) (hbg _ bw_318) (fun _ h9 => h9) rfl dM_root_34 ?_
    refine lv_iload_n hx hb dM_root_37 rfl (lv_at hl 1 rfl) ?_
    refine va_iald hx hb hK hP 7 0 rfl rfl (sm_vinR (sm_one hg)) dM_root_38 ?_
    refine lv_istore_n (lv' := [(3, .int (Rt x.toNatClampNeg)), (0, .ref g), (1, .int x), (2, .int a)]) hx hb dM_root_39 rfl hl (by decide) rfl (fun ls hl => ?_)
    refine lv_aload_n hx hb dM_root_40 rfl (lv_at hl 1 rfl) ?_
    refine va_get (D := D) (ci := 1) (v := .ref oA) (C := RM) (T := TM) (N := 13) hx hb hbg bg_M hown hK hP 0 rfl rfl 9 (by decide) (hbg _ bw_318) (fun _ h9 => h9) rfl dM_root_41 ?_
    refine lv_iload_n hx hb dM_root_44 rfl (lv_at hl 2 rfl) ?_
    refine lv_iload_n hx hb dM_root_45 rfl (lv_at hl 3 rfl) ?_
    refine va_iast hx hb hK hP hD hS 7 0 rfl rfl (sm_vinR (sm_one hg)) dM_root_46 (fun H locs hP hD hS => ?_)
    have hP : va_P D vwC (wM g fA wA nA tA rA dA oA cI cZ F Wd Nm Tg Rc Dt (upd Rt x.toNatClampNeg a) 0 ce tp sl go gi) H := hP
    have hD : va_D A (wM g fA wA nA tA rA dA oA cI cZ F Wd Nm Tg Rc Dt (upd Rt x.toNatClampNeg a) 0 ce tp sl go gi) := hD
    refine lv_iload_n hx hb dM_root_47 rfl (lv_at hl 0 rfl) ?_
    refine W.widen (k := 0) (n := 0) (Nat.le_of_ble_eq_true rfl) (Nat.le_of_ble_eq_true rfl) ?_
    exact W.iret (v := Rt x.toNatClampNeg) hx hb hr (fun t ht hW => ⟨⟨Rt x.toNatClampNeg, (), rfl, rfl, by rw [ht]; exact hP, va_K.moved hW.alike hK, hD⟩, hS.F ht⟩) hS.2.2 dM_root_48
  · refine lv_aload_n hx hb dM_root_12 rfl (lv_at hl 0 rfl) ?_
    refine lv_iload_n hx hb dM_root_13 rfl (lv_at hl 2 rfl) ?_
    refine sy_cVi (wc := wM g fA wA nA tA rA dA oA cI cZ F Wd Nm Tg Rc Dt Rt th ce tp sl go gi) (wr := []) (w1 := wM g fA wA nA tA rA dA oA cI cZ F Wd Nm Tg Rc Dt Rt th ce tp sl go gi) (ci := 1) (q0 := 0) (As := [.int a]) (rest := [.ref g]) ⟨hx, hb, hml, hown, hbg⟩ (ct_M_isObject l D g fA wA nA tA rA dA oA cI cZ F Wd Nm Tg Rc Dt Rt th ce tp sl go gi H.size a ht) (cwV 1 hbg (bg_V bw_358 bw_359 bw_27 bw_35 bw_360) rfl rfl rfl (by decide +kernel) ⟨Nat.le_of_ble_eq_true rfl, Nat.le_of_ble_eq_true rfl⟩) hK [0, 1] rfl hP hD hS hA [0, 1, 2, 3, 4, 5, 6, 7] [] rfl rfl rfl rfl (by decide) rfl rfl rfl hl.1 rfl (Nat.le_of_ble_eq_true rfl) dM_root_14 ⟨Nat.le_of_ble_eq_true rfl, Nat.le_of_ble_eq_true rfl⟩ (fun H locs hP hD hS => ?_)
    have hP : va_P D vwC (wM g fA wA nA tA rA dA oA cI cZ F Wd Nm Tg Rc Dt Rt th ce tp sl go gi) H := hP
    have hD : va_D A (wM g fA wA nA tA rA dA oA cI cZ F Wd Nm Tg Rc Dt Rt th ce tp sl go gi) := hD
    refine lv_if_eq (tgt := 24) hx hb dM_root_17 (by decide) (fun z => absurd z (sm_one (h3.resolve_left c_9))) (fun _ => ?_)
    refine lv_iconst (v := 1) hx hb dM_root_20 (by decide) ?_
    refine lv_goto (tgt := 25) hx hb dM_root_21 (by decide) ?_
    refine sy_cVi (wc := wM g fA wA nA tA rA dA oA cI cZ F Wd Nm Tg Rc Dt Rt th ce tp sl go gi) (wr := []) (w1 := wM g fA wA nA tA rA dA oA cI cZ F Wd Nm Tg Rc Dt Rt 0 ce tp sl go gi) (ci := 1) (q0 := 0) (As := [.int 1]) (rest := []) ⟨hx, hb, hml, hown, hbg⟩ (ct_M_goes_k l D g fA wA nA tA rA dA oA cI cZ F Wd Nm Tg Rc Dt Rt th ce tp sl go gi H.size 1 rfl) (cwV 1 hbg (bg_V bw_344 bw_345 bw_25 bw_35 bw_346) rfl rfl rfl (by decide +kernel) ⟨Nat.le_of_ble_eq_true rfl, Nat.le_of_ble_eq_true rfl⟩) hK [0, 1] rfl hP hD hS hA [0, 1, 2, 3, 4, 5, 6, 7] [] rfl rfl rfl rfl (by decide) rfl rfl rfl hl.1 rfl (Nat.le_of_ble_eq_true rfl) dM_root_25 ⟨Nat.le_of_ble_eq_true rfl, Nat.le_of_ble_eq_true rfl⟩ (fun H locs hP hD hS => ?_)
    have hP : va_P D vwC (wM g fA wA nA tA rA dA oA cI cZ F Wd Nm Tg Rc Dt Rt 0 ce tp sl go gi) H := hP
    have hD : va_D A (wM g fA wA nA tA rA dA oA cI cZ F Wd Nm Tg Rc Dt Rt 0 ce tp sl go gi) := hD
    refine lv_if_ne (tgt := 33) hx hb dM_root_28 (by decide) (fun _ => ?_) (fun z => absurd z (by decide))
    refine lv_aload_n hx hb dM_root_33 rfl (lv_at hl 0 rfl) ?_
    refine va_get (D := D) (ci := 1) (v := .ref oA) (C := RM) (T := TM) (N := 13) hx hb hbg bg_M hown hK hP 0 rfl rfl 9 (by decide) (hbg _ bw_318) (fun _ h9 => h9) rfl dM_root_34 ?_
    refine lv_iload_n hx hb dM_root_37 rfl (lv_at hl 1 rfl) ?_
    refine va_iald hx hb hK hP 7 0 rfl rfl (sm_vinR (sm_one hg)) dM_root_38 ?_
    refine lv_istore_n (lv' := [(3, .int (Rt x.toNatClampNeg)), (0, .ref g), (1, .int x), (2, .int a)]) hx hb dM_root_39 rfl hl (by decide) rfl (fun ls hl => ?_)
    refine lv_aload_n hx hb dM_root_40 rfl (lv_at hl 1 rfl) ?_
    refine va_get (D := D) (ci := 1) (v := .ref oA) (C := RM) (T := TM) (N := 13) hx hb hbg bg_M hown hK hP 0 rfl rfl 9 (by decide) (hbg _ bw_318) (fun _ h9 => h9) rfl dM_root_41 ?_
    refine lv_iload_n hx hb dM_root_44 rfl (lv_at hl 2 rfl) ?_
    refine lv_iload_n hx hb dM_root_45 rfl (lv_at hl 3 rfl) ?_
    refine va_iast hx hb hK hP hD hS 7 0 rfl rfl (sm_vinR (sm_one hg)) dM_root_46 (fun H locs hP hD hS => ?_)
    have hP : va_P D vwC (wM g fA wA nA tA rA dA oA cI cZ F Wd Nm Tg Rc Dt (upd Rt x.toNatClampNeg a) 0 ce tp sl go gi) H := hP
    have hD : va_D A (wM g fA wA nA tA rA dA oA cI cZ F Wd Nm Tg Rc Dt (upd Rt x.toNatClampNeg a) 0 ce tp sl go gi) := hD
    refine lv_iload_n hx hb dM_root_47 rfl (lv_at hl 0 rfl) ?_
    refine W.widen (k := 0) (n := 0) (Nat.le_of_ble_eq_true rfl) (Nat.le_of_ble_eq_true rfl) ?_
    exact W.iret (v := Rt x.toNatClampNeg) hx hb hr (fun t ht hW => ⟨⟨Rt x.toNatClampNeg, (), rfl, rfl, by rw [ht]; exact hP, va_K.moved hW.alike hK, hD⟩, hS.F ht⟩) hS.2.2 dM_root_48

set_option maxHeartbeats 4000000 in
set_option maxRecDepth 100000 in
theorem ct_M_root_b1 (l : Launch) (D : va_G) (g fA wA nA tA rA dA oA : Nat) (cI cZ : ClassId) (F Wd Nm Tg Rc Dt Rt : Nat → Int32) (th ce tp sl go gi : Int32) (sz : Nat) (x a : Int32) (ht : tp.toInt ≤ 16385) (hg : sm_iR x = 0) : sy_Mi l yM_root (Cond.code yM_root bM_root 4 (some .int) :: sr_big) { frames := 1, cells := 0, slots := 0, locals := 21 } D vwC [(cI, .int), (cZ, .boolean)] [.ref g, .int x, .int a] (wM g fA wA nA tA rA dA oA cI cZ F Wd Nm Tg Rc Dt Rt th ce tp sl go gi) sz 0 (wM g fA wA nA tA rA dA oA cI cZ F Wd Nm Tg Rc Dt Rt 1 ce tp sl go gi) 0 0 := by
  refine Met.ofW (cc := bM_root) (maxL := 4) (ret := (some .int)) (by decide) rfl ?_
  intro p e s m args below meth c s₁ B hml hv
  obtain ⟨rfl, hsz, hP, hK, hD0⟩ := hv
  have hx := B.exec
  have hb := B.bytes
  have hr := B.returns
  have hbg : ∀ w ∈ sr_big, w.before _ s = true := fun w h => atoms_spec (ws := Cond.code yM_root bM_root 4 (some .int) :: sr_big) B.pre w (List.mem_cons_of_mem _ h)
  have hown : s.vm.findClass RM = some m.cls := findClass_of_methodNamed B.named
  have hlocks := B.notSynchronized
  subst hsz
  have hD := hD0.self (sz := s.heap.size)
  generalize hAe : va_A (wM g fA wA nA tA rA dA oA cI cZ F Wd Nm Tg Rc Dt Rt th ce tp sl go gi) s.heap.size = A at *
  have hA : ∀ q : Nat, s.heap.size ≤ q → A q := fun q h => by rw [← hAe]; exact Or.inr h
  have hS : va_S A s.heap s.heap [] := va_S.rf
  have hl := lv_entry ([.ref g, .int x, .int a]) (n := 4) (Nat.le_of_ble_eq_true rfl)
  rw [lg_entry_eq]
  generalize (lg_sl ([.ref g, .int x, .int a]) ++ List.replicate (4 - (lg_sl ([.ref g, .int x, .int a])).length) Slot.unset).toArray = ls at hl ⊢
  have hl : lv_has ls 4 [(0, .ref g), (1, .int x), (2, .int a)] := hl
  refine lv_aload_n hx hb dM_root_0 rfl (lv_at hl 0 rfl) ?_
  refine lv_iload_n hx hb dM_root_1 rfl (lv_at hl 1 rfl) ?_
  refine sy_cSi (wc := []) (wr := wM g fA wA nA tA rA dA oA cI cZ F Wd Nm Tg Rc Dt Rt th ce tp sl go gi) (w1 := []) (As := [.int x]) (rest := [.ref g]) ⟨hx, hb, hml, hown, hbg⟩ (ct_M_isRoot l D s.heap.size x) (cwS 1 hbg (bg_S bw_380 bw_381 bw_35 bw_382) rfl rfl rfl (by decide +kernel) ⟨Nat.le_of_ble_eq_true rfl, Nat.le_of_ble_eq_true rfl⟩) hK [] rfl hP hD hS hA [] [0, 1, 2, 3, 4, 5, 6, 7] rfl rfl rfl rfl (by decide) rfl hl.1 rfl (Nat.le_of_ble_eq_true rfl) dM_root_2 ⟨Nat.le_of_ble_eq_true rfl, Nat.le_of_ble_eq_true rfl⟩ (fun H locs hP hD hS => ?_)
  have hP : va_P D vwC (wM g fA wA nA tA rA dA oA cI cZ F Wd Nm Tg Rc Dt Rt th ce tp sl go gi) H := hP.sub [0, 1, 2, 3, 4, 5, 6, 7] rfl
  have hD : va_D A (wM g fA wA nA tA rA dA oA cI cZ F Wd Nm Tg Rc Dt Rt th ce tp sl go gi) := hD.sub [0, 1, 2, 3, 4, 5, 6, 7] (by decide) rfl
  refine lv_if_eq (tgt := 24) hx hb dM_root_5 (by decide) (fun _ => ?_) (fun z => absurd hg z)
  refine lv_iconst (v := 0) hx hb dM_root_24 (by decide) ?_
  refine sy_cVi (wc := wM g fA wA nA tA rA dA oA cI cZ F Wd Nm Tg Rc Dt Rt th ce tp sl go gi) (wr := []) (w1 := wM g fA wA nA tA rA dA oA cI cZ F Wd Nm Tg Rc Dt Rt 1 ce tp sl go gi) (ci := 1) (q0 := 0) (As := [.int 0]) (rest := []) ⟨hx, hb, hml, hown, hbg⟩ (ct_M_goes_b l D g fA wA nA tA rA dA oA cI cZ F Wd Nm Tg Rc Dt Rt th ce tp sl go gi H.size 0 rfl) (cwV 1 hbg (bg_V bw_344 bw_345 bw_25 bw_35 bw_346) rfl rfl rfl (by decide +kernel) ⟨Nat.le_of_ble_eq_true rfl, Nat.le_of_ble_eq_true rfl⟩) hK [0, 1] rfl hP hD hS hA [0, 1, 2, 3, 4, 5, 6, 7] [] rfl rfl rfl rfl (by decide) rfl rfl rfl hl.1 rfl (Nat.le_of_ble_eq_true rfl) dM_root_25 ⟨Nat.le_of_ble_eq_true rfl, Nat.le_of_ble_eq_true rfl⟩ (fun H locs hP hD hS => ?_)
  have hP : va_P D vwC (wM g fA wA nA tA rA dA oA cI cZ F Wd Nm Tg Rc Dt Rt 1 ce tp sl go gi) H := hP
  have hD : va_D A (wM g fA wA nA tA rA dA oA cI cZ F Wd Nm Tg Rc Dt Rt 1 ce tp sl go gi) := hD
  refine lv_if_ne (tgt := 33) hx hb dM_root_28 (by decide) (fun z => absurd rfl z) (fun _ => ?_)
  refine lv_iconst (v := 0) hx hb dM_root_31 (by decide) ?_
  refine W.widen (k := 0) (n := 0) (Nat.le_of_ble_eq_true rfl) (Nat.le_of_ble_eq_true rfl) ?_
  exact W.iret (v := 0) hx hb hr (fun t ht hW => ⟨⟨0, (), rfl, rfl, by rw [ht]; exact hP, va_K.moved hW.alike hK, hD⟩, hS.F ht⟩) hS.2.2 dM_root_32

set_option maxHeartbeats 4000000 in
set_option maxRecDepth 100000 in
theorem ct_M_root_b2 (l : Launch) (D : va_G) (g fA wA nA tA rA dA oA : Nat) (cI cZ : ClassId) (F Wd Nm Tg Rc Dt Rt : Nat → Int32) (th ce tp sl go gi : Int32) (sz : Nat) (x a : Int32) (ht : tp.toInt ≤ 16385) (hg : sm_iR x = 1) (h0 : ¬ a = 0) (h3 : sm_iO F tp a = 0) : sy_Mi l yM_root (Cond.code yM_root bM_root 4 (some .int) :: sr_big) { frames := 1, cells := 0, slots := 0, locals := 21 } D vwC [(cI, .int), (cZ, .boolean)] [.ref g, .int x, .int a] (wM g fA wA nA tA rA dA oA cI cZ F Wd Nm Tg Rc Dt Rt th ce tp sl go gi) sz 0 (wM g fA wA nA tA rA dA oA cI cZ F Wd Nm Tg Rc Dt Rt 1 ce tp sl go gi) 0 0 := by
  refine Met.ofW (cc := bM_root) (maxL := 4) (ret := (some .int)) (by decide) rfl ?_
  intro p e s m args below meth c s₁ B hml hv
  obtain ⟨rfl, hsz, hP, hK, hD0⟩ := hv
  have hx := B.exec
  have hb := B.bytes
  have hr := B.returns
  have hbg : ∀ w ∈ sr_big, w.before _ s = true := fun w h => atoms_spec (ws := Cond.code yM_root bM_root 4 (some .int) :: sr_big) B.pre w (List.mem_cons_of_mem _ h)
  have hown : s.vm.findClass RM = some m.cls := findClass_of_methodNamed B.named
  have hlocks := B.notSynchronized
  subst hsz
  have hD := hD0.self (sz := s.heap.size)
  generalize hAe : va_A (wM g fA wA nA tA rA dA oA cI cZ F Wd Nm Tg Rc Dt Rt th ce tp sl go gi) s.heap.size = A at *
  have hA : ∀ q : Nat, s.heap.size ≤ q → A q := fun q h => by rw [← hAe]; exact Or.inr h
  have hS : va_S A s.heap s.heap [] := va_S.rf
  have hl := lv_entry ([.ref g, .int x, .int a]) (n := 4) (Nat.le_of_ble_eq_true rfl)
  rw [lg_entry_eq]
  generalize (lg_sl ([.ref g, .int x, .int a]) ++ List.replicate (4 - (lg_sl ([.ref g, .int x, .int a])).length) Slot.unset).toArray = ls at hl ⊢
  have hl : lv_has ls 4 [(0, .ref g), (1, .int x), (2, .int a)] := hl
  refine lv_aload_n hx hb dM_root_0 rfl (lv_at hl 0 rfl) ?_
  refine lv_iload_n hx hb dM_root_1 rfl (lv_at hl 1 rfl) ?_
  refine sy_cSi (wc := []) (wr := wM g fA wA nA tA rA dA oA cI cZ F Wd Nm Tg Rc Dt Rt th ce tp sl go gi) (w1 := []) (As := [.int x]) (rest := [.ref g]) ⟨hx, hb, hml, hown, hbg⟩ (ct_M_isRoot l D s.heap.size x) (cwS 1 hbg (bg_S bw_380 bw_381 bw_35 bw_382) rfl rfl rfl (by decide +kernel) ⟨Nat.le_of_ble_eq_true rfl, Nat.le_of_ble_eq_true rfl⟩) hK [] rfl hP hD hS hA [] [0, 1, 2, 3, 4, 5, 6, 7] rfl rfl rfl rfl (by decide) rfl hl.1 rfl (Nat.le_of_ble_eq_true rfl) dM_root_2 ⟨Nat.le_of_ble_eq_true rfl, Nat.le_of_ble_eq_true rfl⟩ (fun H locs hP hD hS => ?_)
  have hP : va_P D vwC (wM g fA wA nA tA rA dA oA cI cZ F Wd Nm Tg Rc Dt Rt th ce tp sl go gi) H := hP.sub [0, 1, 2, 3, 4, 5, 6, 7] rfl
  have hD : va_D A (wM g fA wA nA tA rA dA oA cI cZ F Wd Nm Tg Rc Dt Rt th ce tp sl go gi) := hD.sub [0, 1, 2, 3, 4, 5, 6, 7] (by decide) rfl
  refine lv_if_eq (tgt := 24) hx hb dM_root_5 (by decide) (fun z => absurd z (sm_one hg)) (fun _ => ?_)
  refine lv_iload_n hx hb dM_root_8 rfl (lv_at hl 2 rfl) ?_
  refine lv_if_eq (tgt := 20) hx hb dM_root_9 (by decide) (fun z => absurd z h0) (fun _ => ?_)
  refine lv_aload_n hx hb dM_root_12 rfl (lv_at hl 0 rfl) ?_
  refine lv_iload_n hx hb dM_root_13 rfl (lv_at hl 2 rfl) ?_
  refine sy_cVi (wc := wM g fA wA nA tA rA dA oA cI cZ F Wd Nm Tg Rc Dt Rt th ce tp sl go gi) (wr := []) (w1 := wM g fA wA nA tA rA dA oA cI cZ F Wd Nm Tg Rc Dt Rt th ce tp sl go gi) (ci := 1) (q0 := 0) (As := [.int a]) (rest := [.ref g]) ⟨hx, hb, hml, hown, hbg⟩ (ct_M_isObject l D g fA wA nA tA rA dA oA cI cZ F Wd Nm Tg Rc Dt Rt th ce tp sl go gi H.size a ht) (cwV 1 hbg (bg_V bw_358 bw_359 bw_27 bw_35 bw_360) rfl rfl rfl (by decide +kernel) ⟨Nat.le_of_ble_eq_true rfl, Nat.le_of_ble_eq_true rfl⟩) hK [0, 1] rfl hP hD hS hA [0, 1, 2, 3, 4, 5, 6, 7] [] rfl rfl rfl rfl (by decide) rfl rfl rfl hl.1 rfl (Nat.le_of_ble_eq_true rfl) dM_root_14 ⟨Nat.le_of_ble_eq_true rfl, Nat.le_of_ble_eq_true rfl⟩ (fun H locs hP hD hS => ?_)
  have hP : va_P D vwC (wM g fA wA nA tA rA dA oA cI cZ F Wd Nm Tg Rc Dt Rt th ce tp sl go gi) H := hP
  have hD : va_D A (wM g fA wA nA tA rA dA oA cI cZ F Wd Nm Tg Rc Dt Rt th ce tp sl go gi) := hD
  refine lv_if_eq (tgt := 24) hx hb dM_root_17 (by decide) (fun _ => ?_) (fun z => absurd h3 z)
  refine lv_iconst (v := 0) hx hb dM_root_24 (by decide) ?_
  refine sy_cVi (wc := wM g fA wA nA tA rA dA oA cI cZ F Wd Nm Tg Rc Dt Rt th ce tp sl go gi) (wr := []) (w1 := wM g fA wA nA tA rA dA oA cI cZ F Wd Nm Tg Rc Dt Rt 1 ce tp sl go gi) (ci := 1) (q0 := 0) (As := [.int 0]) (rest := []) ⟨hx, hb, hml, hown, hbg⟩ (ct_M_goes_b l D g fA wA nA tA rA dA oA cI cZ F Wd Nm Tg Rc Dt Rt th ce tp sl go gi H.size 0 rfl) (cwV 1 hbg (bg_V bw_344 bw_345 bw_25 bw_35 bw_346) rfl rfl rfl (by decide +kernel) ⟨Nat.le_of_ble_eq_true rfl, Nat.le_of_ble_eq_true rfl⟩) hK [0, 1] rfl hP hD hS hA [0, 1, 2, 3, 4, 5, 6, 7] [] rfl rfl rfl rfl (by decide) rfl rfl rfl hl.1 rfl (Nat.le_of_ble_eq_true rfl) dM_root_25 ⟨Nat.le_of_ble_eq_true rfl, Nat.le_of_ble_eq_true rfl⟩ (fun H locs hP hD hS => ?_)
  have hP : va_P D vwC (wM g fA wA nA tA rA dA oA cI cZ F Wd Nm Tg Rc Dt Rt 1 ce tp sl go gi) H := hP
  have hD : va_D A (wM g fA wA nA tA rA dA oA cI cZ F Wd Nm Tg Rc Dt Rt 1 ce tp sl go gi) := hD
  refine lv_if_ne (tgt := 33) hx hb dM_root_28 (by decide) (fun z => absurd rfl z) (fun _ => ?_)
  refine lv_iconst (v := 0) hx hb dM_root_31 (by decide) ?_
  refine W.widen (k := 0) (n := 0) (Nat.le_of_ble_eq_true rfl) (Nat.le_of_ble_eq_true rfl) ?_
  exact W.iret (v := 0) hx hb hr (fun t ht hW => ⟨⟨0, (), rfl, rfl, by rw [ht]; exact hP, va_K.moved hW.alike hK, hD⟩, hS.F ht⟩) hS.2.2 dM_root_32

set_option maxHeartbeats 4000000 in
set_option maxRecDepth 100000 in
theorem ct_M_number_k1 (l : Launch) (D : va_G) (g fA wA nA tA rA dA oA : Nat) (cI cZ : ClassId) (F Wd Nm Tg Rc Dt Rt : Nat → Int32) (th ce tp sl go gi : Int32) (sz : Nat) (a : Int32) (ht : tp.toInt ≤ 16385) (hg : sm_iO F tp a = 1) (h1 : Nm a.toNatClampNeg = 0) : sy_Mi l yM_number (Cond.code yM_number bM_number 2 (some .int) :: sr_big) { frames := 1, cells := 0, slots := 0, locals := 21 } D vwC [(cI, .int), (cZ, .boolean)] [.ref g, .int a] (wM g fA wA nA tA rA dA oA cI cZ F Wd Nm Tg Rc Dt Rt th ce tp sl go gi) sz (gi + 1 - 1) (wM g fA wA nA tA rA dA oA cI cZ F Wd (upd Nm a.toNatClampNeg (gi + 1)) Tg Rc Dt Rt 0 ce tp sl go (gi + 1)) 0 0 := by
  refine Met.ofW (cc := bM_number) (maxL := 2) (ret := (some .int)) (by decide) rfl ?_
  intro p e s m args below meth c s₁ B hml hv
  obtain ⟨rfl, hsz, hP, hK, hD0⟩ := hv
  have hx := B.exec
  have hb := B.bytes
  have hr := B.returns
  have hbg : ∀ w ∈ sr_big, w.before _ s = true := fun w h => atoms_spec (ws := Cond.code yM_number bM_number 2 (some .int) :: sr_big) B.pre w (List.mem_cons_of_mem _ h)
  have hown : s.vm.findClass RM = some m.cls := findClass_of_methodNamed B.named
  have hlocks := B.notSynchronized
  subst hsz
  have hD := hD0.self (sz := s.heap.size)
  generalize hAe : va_A (wM g fA wA nA tA rA dA oA cI cZ F Wd Nm Tg Rc Dt Rt th ce tp sl go gi) s.heap.size = A at *
  have hA : ∀ q : Nat, s.heap.size ≤ q → A q := fun q h => by rw [← hAe]; exact Or.inr h
  have hS : va_S A s.heap s.heap [] := va_S.rf
  have hl := lv_entry ([.ref g, .int a]) (n := 2) (Nat.le_of_ble_eq_true rfl)
  rw [lg_entry_eq]
  generalize (lg_sl ([.ref g, .int a]) ++ List.replicate (2 - (lg_sl ([.ref g, .int a])).length) Slot.unset).toArray = ls at hl ⊢
  have hl : lv_has ls 2 [(0, .ref g), (1, .int a)] := hl
  refine lv_aload_n hx hb dM_number_0 rfl (lv_at hl 0 rfl) ?_
  refine lv_aload_n hx hb dM_number_1 rfl (lv_at hl 0 rfl) ?_
  refine lv_iload_n hx hb dM_number_2 rfl (lv_at hl 1 rfl) ?_
  refine sy_cVi (wc := wM g fA wA nA tA rA dA oA cI cZ F Wd Nm Tg Rc Dt Rt th ce tp sl go gi) (wr := []) (w1 := wM g fA wA nA tA rA dA oA cI cZ F Wd Nm Tg Rc Dt Rt th ce tp sl go gi) (ci := 1) (q0 := 0) (As := [.int a]) (rest := [.ref g]) ⟨hx, hb, hml, hown, hbg⟩ (ct_M_isObject l D g fA wA nA tA rA dA oA cI cZ F Wd Nm Tg Rc Dt Rt th ce tp sl go gi s.heap.size a ht) (cwV 1 hbg (bg_V bw_358 bw_359 bw_27 bw_35 bw_360) rfl rfl rfl (by decide +kernel) ⟨Nat.le_of_ble_eq_true rfl, Nat.le_of_ble_eq_true rfl⟩) hK [0, 1] rfl hP hD hS hA [0, 1, 2, 3, 4, 5, 6, 7] [] rfl rfl rfl rfl (by decide) rfl rfl rfl hl.1 rfl (Nat.le_of_ble_eq_true rfl) dM_number_3 ⟨Nat.le_of_ble_eq_true rfl, Nat.le_of_ble_eq_true rfl⟩ (fun H locs hP hD hS => ?_)
  have hP : va_P D vwC (wM g fA wA nA tA rA dA oA cI cZ F Wd Nm Tg Rc Dt Rt th ce tp sl go gi) H := hP
  have hD : va_D A (wM g fA wA nA tA rA dA oA cI cZ F Wd Nm Tg Rc Dt Rt th ce tp sl go gi) := hD
  refine sy_cVi (wc := wM g fA wA nA tA rA dA oA cI cZ F Wd Nm Tg Rc Dt Rt th ce tp sl go gi) (wr := []) (w1 := wM g fA wA nA tA rA dA oA cI cZ F Wd Nm Tg Rc Dt Rt 0 ce tp sl go gi) (ci := 1) (q0 := 0) (As := [.int (sm_iO F tp a)]) (rest := []) ⟨hx, hb, hml, hown, hbg⟩ (ct_M_goes_k l D g fA wA nA tA rA dA oA cI cZ F Wd Nm Tg Rc Dt Rt th ce tp sl go gi H.size (sm_iO F tp a) hg) (cwV 1 hbg (bg_V bw_344 bw_345 bw_25 bw_35 bw_346) rfl rfl rfl (by decide +kernel) ⟨Nat.le_of_ble_eq_true rfl, Nat.le_of_ble_eq_true rfl⟩) hK [0, 1] rfl hP hD hS hA [0, 1, 2, 3, 4, 5, 6, 7] [] rfl rfl rfl rfl (by decide) rfl rfl rfl hl.1 rfl (Nat.le_of_ble_eq_true rfl) dM_number_6 ⟨Nat.le_of_ble_eq_true rfl, Nat.le_of_ble_eq_true rfl⟩ (fun H locs hP hD hS => ?_)
  have hP : va_P D vwC (wM g fA wA nA tA rA dA oA cI cZ F Wd Nm Tg Rc Dt Rt 0 ce tp sl go gi) H := hP
  have hD : va_D A (wM g fA wA nA tA rA dA oA cI cZ F Wd Nm Tg Rc Dt Rt 0 ce tp sl go gi) := hD
  refine lv_if_ne (tgt := 14) hx hb dM_number_9 (by decide) (fun _ => ?_) (fun z => absurd z (by decide))
  refine lv_aload_n hx hb dM_number_14 rfl (lv_at hl 0 rfl) ?_
  refine va_get (D := D) (ci := 1) (v := .ref nA) (C := RM) (T := TM) (N := 13) hx hb hbg bg_M hown hK hP 0 rfl rfl 5 (by decide) (hbg _ bw_314) (fun _ h9 => h9) rfl dM_number_15 ?_
  refine lv_iload_n hx hb dM_number_18 rfl (lv_at hl 1 rfl) ?_
  refine va_iald hx hb hK hP 3 0 rfl rfl (sm_vin1 (sm_one hg) ht) dM_number_19 ?_
  refine lv_if_ne (tgt := 43) hx hb dM_number_20 (by decide) (fun z => absurd h1 z) (fun _ => ?_)
  refine lv_aload_n hx hb dM_number_23 rfl (lv_at hl 0 rfl) ?_
  refine lv_dup hx hb dM_number_24 rfl ?_
  refine va_get (D := D) (ci := 1) (v := .int gi) (C := RM) (T := TM) (N := 13) hx hb hbg bg_M hown hK hP 0 rfl rfl 12 (by decide) (hbg _ bw_321) (fun _ h9 => h9) rfl dM_number_25 ?_
  refine lv_iconst (v := 1) hx hb dM_number_28 (by decide) ?_
  refine lv_iadd hx hb dM_number_29 ?_
  refine va_put (D := D) (ci := 1) (v := .int (gi + 1)) (ty := .int) (C := RM) (T := TM) (N := 13) hx hb hbg bg_M tM tM_ok nM hown hK hP hD hS 0 rfl rfl 12 (by decide) (hbg _ bw_321) (fun _ h9 => h9) rfl (by decide +kernel) rfl rfl (Nat.le_of_ble_eq_true rfl) dM_number_30 (fun H locs hP hD hS => ?_)
  have hP : va_P D vwC (wM g fA wA nA tA rA dA oA cI cZ F Wd Nm Tg Rc Dt Rt 0 ce tp sl go (gi + 1)) H := hP
  have hD : va_D A (wM g fA wA nA tA rA dA oA cI cZ F Wd Nm Tg Rc Dt Rt 0 ce tp sl go (gi + 1)) := hD
  refine lv_aload_n hx hb dM_number_33 rfl (lv_at hl 0 rfl) ?_
  refine va_get (D := D) (ci := 1) (v := .ref nA) (C := RM) (T := TM) (N := 13) hx hb hbg bg_M hown hK hP 0 rfl rfl 5 (by decide) (hbg _ bw_314) (fun _ h9 => h9) rfl dM_number_34 ?_
  refine lv_iload_n hx hb dM_number_37 rfl (lv_at hl 1 rfl) ?_
  refine lv_aload_n hx hb dM_number_38 rfl (lv_at hl 0 rfl) ?_
  refine va_get (D := D) (ci := 1) (v := .int (gi + 1)) (C := RM) (T := TM) (N := 13) hx hb hbg bg_M hown hK hP 0 rfl rfl 12 (by decide) (hbg _ bw_321) (fun _ h9 => h9) rfl dM_number_39 ?_
  refine va_iast hx hb hK hP hD hS 3 0 rfl rfl (sm_vin1 (sm_one hg) ht) dM_number_42 (fun H locs hP hD hS => ?_)
  have hP : va_P D vwC (wM g fA wA nA tA rA dA oA cI cZ F Wd (upd Nm a.toNatClampNeg (gi + 1)) Tg Rc Dt Rt 0 ce tp sl go (gi + 1)) H := hP
  have hD : va_D A (wM g fA wA nA tA rA dA oA cI cZ F Wd (upd Nm a.toNatClampNeg (gi + 1)) Tg Rc Dt Rt 0 ce tp sl go (gi + 1)) := hD
  refine lv_aload_n hx hb dM_number_43 rfl (lv_at hl 0 rfl) ?_
  refine va_get (D := D) (ci := 1) (v := .ref nA) (C := RM) (T := TM) (N := 13) hx hb hbg bg_M hown hK hP 0 rfl rfl 5 (by decide) (hbg _ bw_314) (fun _ h9 => h9) rfl dM_number_44 ?_
  refine lv_iload_n hx hb dM_number_47 rfl (lv_at hl 1 rfl) ?_
  refine va_iald hx hb hK hP 3 0 rfl rfl (sm_vin1 (sm_one hg) ht) dM_number_48 ?_
  refine lv_iconst (v := 1) hx hb dM_number_49 (by decide) ?_
  refine lv_isub hx hb dM_number_50 ?_
  refine W.widen (k := 0) (n := 0) (Nat.le_of_ble_eq_true rfl) (Nat.le_of_ble_eq_true rfl) ?_
  exact W.iret (v := ((upd Nm a.toNatClampNeg (gi + 1)) a.toNatClampNeg) - 1) hx hb hr (fun t ht hW => ⟨⟨((upd Nm a.toNatClampNeg (gi + 1)) a.toNatClampNeg) - 1, (), rfl, (by rw [pk_us]), by rw [ht]; exact hP, va_K.moved hW.alike hK, hD⟩, hS.F ht⟩) hS.2.2 dM_number_51

set_option maxHeartbeats 4000000 in
set_option maxRecDepth 100000 in
theorem ct_M_number_k2 (l : Launch) (D : va_G) (g fA wA nA tA rA dA oA : Nat) (cI cZ : ClassId) (F Wd Nm Tg Rc Dt Rt : Nat → Int32) (th ce tp sl go gi : Int32) (sz : Nat) (a : Int32) (ht : tp.toInt ≤ 16385) (hg : sm_iO F tp a = 1) (h1 : ¬ Nm a.toNatClampNeg = 0) : sy_Mi l yM_number (Cond.code yM_number bM_number 2 (some .int) :: sr_big) { frames := 1, cells := 0, slots := 0, locals := 21 } D vwC [(cI, .int), (cZ, .boolean)] [.ref g, .int a] (wM g fA wA nA tA rA dA oA cI cZ F Wd Nm Tg Rc Dt Rt th ce tp sl go gi) sz (Nm a.toNatClampNeg - 1) (wM g fA wA nA tA rA dA oA cI cZ F Wd Nm Tg Rc Dt Rt 0 ce tp sl go gi) 0 0 := by
  refine Met.ofW (cc := bM_number) (maxL := 2) (ret := (some .int)) (by decide) rfl ?_
  intro p e s m args below meth c s₁ B hml hv
  obtain ⟨rfl, hsz, hP, hK, hD0⟩ := hv
  have hx := B.exec
  have hb := B.bytes
  have hr := B.returns
  have hbg : ∀ w ∈ sr_big, w.before _ s = true := fun w h => atoms_spec (ws := Cond.code yM_number bM_number 2 (some .int) :: sr_big) B.pre w (List.mem_cons_of_mem _ h)
  have hown : s.vm.findClass RM = some m.cls := findClass_of_methodNamed B.named
  have hlocks := B.notSynchronized
  subst hsz
  have hD := hD0.self (sz := s.heap.size)
  generalize hAe : va_A (wM g fA wA nA tA rA dA oA cI cZ F Wd Nm Tg Rc Dt Rt th ce tp sl go gi) s.heap.size = A at *
  have hA : ∀ q : Nat, s.heap.size ≤ q → A q := fun q h => by rw [← hAe]; exact Or.inr h
  have hS : va_S A s.heap s.heap [] := va_S.rf
  have hl := lv_entry ([.ref g, .int a]) (n := 2) (Nat.le_of_ble_eq_true rfl)
  rw [lg_entry_eq]
  generalize (lg_sl ([.ref g, .int a]) ++ List.replicate (2 - (lg_sl ([.ref g, .int a])).length) Slot.unset).toArray = ls at hl ⊢
  have hl : lv_has ls 2 [(0, .ref g), (1, .int a)] := hl
  refine lv_aload_n hx hb dM_number_0 rfl (lv_at hl 0 rfl) ?_
  refine lv_aload_n hx hb dM_number_1 rfl (lv_at hl 0 rfl) ?_
  refine lv_iload_n hx hb dM_number_2 rfl (lv_at hl 1 rfl) ?_
  refine sy_cVi (wc := wM g fA wA nA tA rA dA oA cI cZ F Wd Nm Tg Rc Dt Rt th ce tp sl go gi) (wr := []) (w1 := wM g fA wA nA tA rA dA oA cI cZ F Wd Nm Tg Rc Dt Rt th ce tp sl go gi) (ci := 1) (q0 := 0) (As := [.int a]) (rest := [.ref g]) ⟨hx, hb, hml, hown, hbg⟩ (ct_M_isObject l D g fA wA nA tA rA dA oA cI cZ F Wd Nm Tg Rc Dt Rt th ce tp sl go gi s.heap.size a ht) (cwV 1 hbg (bg_V bw_358 bw_359 bw_27 bw_35 bw_360) rfl rfl rfl (by decide +kernel) ⟨Nat.le_of_ble_eq_true rfl, Nat.le_of_ble_eq_true rfl⟩) hK [0, 1] rfl hP hD hS hA [0, 1, 2, 3, 4, 5, 6, 7] [] rfl rfl rfl rfl (by decide) rfl rfl rfl hl.1 rfl (Nat.le_of_ble_eq_true rfl) dM_number_3 ⟨Nat.le_of_ble_eq_true rfl, Nat.le_of_ble_eq_true rfl⟩ (fun H locs hP hD hS => ?_)
  have hP : va_P D vwC (wM g fA wA nA tA rA dA oA cI cZ F Wd Nm Tg Rc Dt Rt th ce tp sl go gi) H := hP
  have hD : va_D A (wM g fA wA nA tA rA dA oA cI cZ F Wd Nm Tg Rc Dt Rt th ce tp sl go gi) := hD
  refine sy_cVi (wc := wM g fA wA nA tA rA dA oA cI cZ F Wd Nm Tg Rc Dt Rt th ce tp sl go gi) (wr := []) (w1 := wM g fA wA nA tA rA dA oA cI cZ F Wd Nm Tg Rc Dt Rt 0 ce tp sl go gi) (ci := 1) (q0 := 0) (As := [.int (sm_iO F tp a)]) (rest := []) ⟨hx, hb, hml, hown, hbg⟩ (ct_M_goes_k l D g fA wA nA tA rA dA oA cI cZ F Wd Nm Tg Rc Dt Rt th ce tp sl go gi H.size (sm_iO F tp a) hg) (cwV 1 hbg (bg_V bw_344 bw_345 bw_25 bw_35 bw_346) rfl rfl rfl (by decide +kernel) ⟨Nat.le_of_ble_eq_true rfl, Nat.le_of_ble_eq_true rfl⟩) hK [0, 1] rfl hP hD hS hA [0, 1, 2, 3, 4, 5, 6, 7] [] rfl rfl rfl rfl (by decide) rfl rfl rfl hl.1 rfl (Nat.le_of_ble_eq_true rfl) dM_number_6 ⟨Nat.le_of_ble_eq_true rfl, Nat.le_of_ble_eq_true rfl⟩ (fun H locs hP hD hS => ?_)
  have hP : va_P D vwC (wM g fA wA nA tA rA dA oA cI cZ F Wd Nm Tg Rc Dt Rt 0 ce tp sl go gi) H := hP
  have hD : va_D A (wM g fA wA nA tA rA dA oA cI cZ F Wd Nm Tg Rc Dt Rt 0 ce tp sl go gi) := hD
  refine lv_if_ne (tgt := 14) hx hb dM_number_9 (by decide) (fun _ => ?_) (fun z => absurd z (by decide))
  refine lv_aload_n hx hb dM_number_14 rfl (lv_at hl 0 rfl) ?_
  refine va_get (D := D) (ci := 1) (v := .ref nA) (C := RM) (T := TM) (N := 13) hx hb hbg bg_M hown hK hP 0 rfl rfl 5 (by decide) (hbg _ bw_314) (fun _ h9 => h9) rfl dM_number_15 ?_
  refine lv_iload_n hx hb dM_number_18 rfl (lv_at hl 1 rfl) ?_
  refine va_iald hx hb hK hP 3 0 rfl rfl (sm_vin1 (sm_one hg) ht) dM_number_19 ?_
  refine lv_if_ne (tgt := 43) hx hb dM_number_20 (by decide) (fun _ => ?_) (fun z => absurd z h1)
  refine lv_aload_n hx hb dM_number_43 rfl (lv_at hl 0 rfl) ?_
  refine va_get (D := D) (ci := 1) (v := .ref nA) (C := RM) (T := TM) (N := 13) hx hb hbg bg_M hown hK hP 0 rfl rfl 5 (by decide) (hbg _ bw_314) (fun _ h9 => h9) rfl dM_number_44 ?_
  refine lv_iload_n hx hb dM_number_47 rfl (lv_at hl 1 rfl) ?_
  refine va_iald hx hb hK hP 3 0 rfl rfl (sm_vin1 (sm_one hg) ht) dM_number_48 ?_
  refine lv_iconst (v := 1) hx hb dM_number_49 (by decide) ?_
  refine lv_isub hx hb dM_number_50 ?_
  refine W.widen (k := 0) (n := 0) (Nat.le_of_ble_eq_true rfl) (Nat.le_of_ble_eq_true rfl) ?_
  exact W.iret (v := (Nm a.toNatClampNeg) - 1) hx hb hr (fun t ht hW => ⟨⟨(Nm a.toNatClampNeg) - 1, (), rfl, rfl, by rw [ht]; exact hP, va_K.moved hW.alike hK, hD⟩, hS.F ht⟩) hS.2.2 dM_number_51

set_option maxHeartbeats 4000000 in
set_option maxRecDepth 100000 in
theorem ct_M_number_b (l : Launch) (D : va_G) (g fA wA nA tA rA dA oA : Nat) (cI cZ : ClassId) (F Wd Nm Tg Rc Dt Rt : Nat → Int32) (th ce tp sl go gi : Int32) (sz : Nat) (a : Int32) (ht : tp.toInt ≤ 16385) (hg : sm_iO F tp a = 0) : sy_Mi l yM_number (Cond.code yM_number bM_number 2 (some .int) :: sr_big) { frames := 1, cells := 0, slots := 0, locals := 21 } D vwC [(cI, .int), (cZ, .boolean)] [.ref g, .int a] (wM g fA wA nA tA rA dA oA cI cZ F Wd Nm Tg Rc Dt Rt th ce tp sl go gi) sz 0 (wM g fA wA nA tA rA dA oA cI cZ F Wd Nm Tg Rc Dt Rt 1 ce tp sl go gi) 0 0 := by
  refine Met.ofW (cc := bM_number) (maxL := 2) (ret := (some .int)) (by decide) rfl ?_
  intro p e s m args below meth c s₁ B hml hv
  obtain ⟨rfl, hsz, hP, hK, hD0⟩ := hv
  have hx := B.exec
  have hb := B.bytes
  have hr := B.returns
  have hbg : ∀ w ∈ sr_big, w.before _ s = true := fun w h => atoms_spec (ws := Cond.code yM_number bM_number 2 (some .int) :: sr_big) B.pre w (List.mem_cons_of_mem _ h)
  have hown : s.vm.findClass RM = some m.cls := findClass_of_methodNamed B.named
  have hlocks := B.notSynchronized
  subst hsz
  have hD := hD0.self (sz := s.heap.size)
  generalize hAe : va_A (wM g fA wA nA tA rA dA oA cI cZ F Wd Nm Tg Rc Dt Rt th ce tp sl go gi) s.heap.size = A at *
  have hA : ∀ q : Nat, s.heap.size ≤ q → A q := fun q h => by rw [← hAe]; exact Or.inr h
  have hS : va_S A s.heap s.heap [] := va_S.rf
  have hl := lv_entry ([.ref g, .int a]) (n := 2) (Nat.le_of_ble_eq_true rfl)
  rw [lg_entry_eq]
  generalize (lg_sl ([.ref g, .int a]) ++ List.replicate (2 - (lg_sl ([.ref g, .int a])).length) Slot.unset).toArray = ls at hl ⊢
  have hl : lv_has ls 2 [(0, .ref g), (1, .int a)] := hl
  refine lv_aload_n hx hb dM_number_0 rfl (lv_at hl 0 rfl) ?_
  refine lv_aload_n hx hb dM_number_1 rfl (lv_at hl 0 rfl) ?_
  refine lv_iload_n hx hb dM_number_2 rfl (lv_at hl 1 rfl) ?_
  refine sy_cVi (wc := wM g fA wA nA tA rA dA oA cI cZ F Wd Nm Tg Rc Dt Rt th ce tp sl go gi) (wr := []) (w1 := wM g fA wA nA tA rA dA oA cI cZ F Wd Nm Tg Rc Dt Rt th ce tp sl go gi) (ci := 1) (q0 := 0) (As := [.int a]) (rest := [.ref g]) ⟨hx, hb, hml, hown, hbg⟩ (ct_M_isObject l D g fA wA nA tA rA dA oA cI cZ F Wd Nm Tg Rc Dt Rt th ce tp sl go gi s.heap.size a ht) (cwV 1 hbg (bg_V bw_358 bw_359 bw_27 bw_35 bw_360) rfl rfl rfl (by decide +kernel) ⟨Nat.le_of_ble_eq_true rfl, Nat.le_of_ble_eq_true rfl⟩) hK [0, 1] rfl hP hD hS hA [0, 1, 2, 3, 4, 5, 6, 7] [] rfl rfl rfl rfl (by decide) rfl rfl rfl hl.1 rfl (Nat.le_of_ble_eq_true rfl) dM_number_3 ⟨Nat.le_of_ble_eq_true rfl, Nat.le_of_ble_eq_true rfl⟩ (fun H locs hP hD hS => ?_)
  have hP : va_P D vwC (wM g fA wA nA tA rA dA oA cI cZ F Wd Nm Tg Rc Dt Rt th ce tp sl go gi) H := hP
  have hD : va_D A (wM g fA wA nA tA rA dA oA cI cZ F Wd Nm Tg Rc Dt Rt th ce tp sl go gi) := hD
  refine sy_cVi (wc := wM g fA wA nA tA rA dA oA cI cZ F Wd Nm Tg Rc Dt Rt th ce tp sl go gi) (wr := []) (w1 := wM g fA wA nA tA rA dA oA cI cZ F Wd Nm Tg Rc Dt Rt 1 ce tp sl go gi) (ci := 1) (q0 := 0) (As := [.int (sm_iO F tp a)]) (rest := []) ⟨hx, hb, hml, hown, hbg⟩ (ct_M_goes_b l D g fA wA nA tA rA dA oA cI cZ F Wd Nm Tg Rc Dt Rt th ce tp sl go gi H.size (sm_iO F tp a) hg) (cwV 1 hbg (bg_V bw_344 bw_345 bw_25 bw_35 bw_346) rfl rfl rfl (by decide +kernel) ⟨Nat.le_of_ble_eq_true rfl, Nat.le_of_ble_eq_true rfl⟩) hK [0, 1] rfl hP hD hS hA [0, 1, 2, 3, 4, 5, 6, 7] [] rfl rfl rfl rfl (by decide) rfl rfl rfl hl.1 rfl (Nat.le_of_ble_eq_true rfl) dM_number_6 ⟨Nat.le_of_ble_eq_true rfl, Nat.le_of_ble_eq_true rfl⟩ (fun H locs hP hD hS => ?_)
  have hP : va_P D vwC (wM g fA wA nA tA rA dA oA cI cZ F Wd Nm Tg Rc Dt Rt 1 ce tp sl go gi) H := hP
  have hD : va_D A (wM g fA wA nA tA rA dA oA cI cZ F Wd Nm Tg Rc Dt Rt 1 ce tp sl go gi) := hD
  refine lv_if_ne (tgt := 14) hx hb dM_number_9 (by decide) (fun z => absurd rfl z) (fun _ => ?_)
  refine lv_iconst (v := 0) hx hb dM_number_12 (by decide) ?_
  refine W.widen (k := 0) (n := 0) (Nat.le_of_ble_eq_true rfl) (Nat.le_of_ble_eq_true rfl) ?_
  exact W.iret (v := 0) hx hb hr (fun t ht hW => ⟨⟨0, (), rfl, rfl, by rw [ht]; exact hP, va_K.moved hW.alike hK, hD⟩, hS.F ht⟩) hS.2.2 dM_number_13

set_option maxHeartbeats 4000000 in
set_option maxRecDepth 100000 in
theorem ct_M_next_k (l : Launch) (D : va_G) (g fA wA nA tA rA dA oA : Nat) (cI cZ : ClassId) (F Wd Nm Tg Rc Dt Rt : Nat → Int32) (th ce tp sl go gi : Int32) (sz : Nat) (a : Int32) (ht : tp.toInt ≤ 16385) (h3 : a = 0 ∨ sm_iO F tp a = 1) : sy_Mi l yM_next (Cond.code yM_next bM_next 3 (some .int) :: sr_big) { frames := 1, cells := 0, slots := 0, locals := 21 } D vwC [(cI, .int), (cZ, .boolean)] [.ref g, .int a] (wM g fA wA nA tA rA dA oA cI cZ F Wd Nm Tg Rc Dt Rt th ce tp sl go gi) sz (if tp ≤ (if a = 0 then 1 else (a + ((3 : Int32) + F a.toNatClampNeg - 1 + Wd a.toNatClampNeg))) then 0 else (if a = 0 then 1 else (a + ((3 : Int32) + F a.toNatClampNeg - 1 + Wd a.toNatClampNeg)))) (wM g fA wA nA tA rA dA oA cI cZ F Wd Nm Tg Rc Dt Rt 0 ce tp sl go gi) 0 0 := by
  refine Met.ofW (cc := bM_next) (maxL := 3) (ret := (some .int)) (by decide) rfl ?_
  intro p e s m args below meth c s₁ B hml hv
  obtain ⟨rfl, hsz, hP, hK, hD0⟩ := hv
  have hx := B.exec
  have hb := B.bytes
  have hr := B.returns
  have hbg : ∀ w ∈ sr_big, w.before _ s = true := fun w h => atoms_spec (ws := Cond.code yM_next bM_next 3 (some .int) :: sr_big) B.pre w (List.mem_cons_of_mem _ h)
  have hown : s.vm.findClass RM = some m.cls := findClass_of_methodNamed B.named
  have hlocks := B.notSynchronized
  subst hsz
  have hD := hD0.self (sz := s.heap.size)
  generalize hAe : va_A (wM g fA wA nA tA rA dA oA cI cZ F Wd Nm Tg Rc Dt Rt th ce tp sl go gi) s.heap.size = A at *
  have hA : ∀ q : Nat, s.heap.size ≤ q → A q := fun q h => by rw [← hAe]; exact Or.inr h
  have hS : va_S A s.heap s.heap [] := va_S.rf
  have hl := lv_entry ([.ref g, .int a]) (n := 3) (Nat.le_of_ble_eq_true rfl)
  rw [lg_entry_eq]
  generalize (lg_sl ([.ref g, .int a]) ++ List.replicate (3 - (lg_sl ([.ref g, .int a])).length) Slot.unset).toArray = ls at hl ⊢
  have hl : lv_has ls 3 [(0, .ref g), (1, .int a)] := hl
  refine lv_aload_n hx hb dM_next_0 rfl (lv_at hl 0 rfl) ?_
  refine lv_iload_n hx hb dM_next_1 rfl (lv_at hl 1 rfl) ?_
  refine lv_if_eq (tgt := 13) hx hb dM_next_2 (by decide) (fun c_2 => ?_) (fun c_2 => ?_)
  · refine lv_iconst (v := 1) hx hb dM_next_13 (by decide) ?_
    refine lv_goto (tgt := 18) hx hb dM_next_14 (by decide) ?_
    refine sy_cVi (wc := wM g fA wA nA tA rA dA oA cI cZ F Wd Nm Tg Rc Dt Rt th ce tp sl go gi) (wr := []) (w1 := wM g fA wA nA tA rA dA oA cI cZ F Wd Nm Tg Rc Dt Rt 0 ce tp sl go gi) (ci := 1) (q0 := 0) (As := [.int 1]) (rest := []) ⟨hx, hb, hml, hown, hbg⟩ (ct_M_goes_k l D g fA wA nA tA rA dA oA cI cZ F Wd Nm Tg Rc Dt Rt th ce tp sl go gi s.heap.size 1 rfl) (cwV 1 hbg (bg_V bw_344 bw_345 bw_25 bw_35 bw_346) rfl rfl rfl (by decide +kernel) ⟨Nat.le_of_ble_eq_true rfl, Nat.le_of_ble_eq_true rfl⟩) hK [0, 1] rfl hP hD hS hA [0, 1, 2, 3, 4, 5, 6, 7] [] rfl rfl rfl rfl (by decide) rfl rfl rfl hl.1 rfl (Nat.le_of_ble_eq_true rfl) dM_next_18 ⟨Nat.le_of_ble_eq_true rfl, Nat.le_of_ble_eq_true rfl⟩ (fun H locs hP hD hS => ?_)
    have hP : va_P D vwC (wM g fA wA nA tA rA dA oA cI cZ F Wd Nm Tg Rc Dt Rt 0 ce tp sl go gi) H := hP
    have hD : va_D A (wM g fA wA nA tA rA dA oA cI cZ F Wd Nm Tg Rc Dt Rt 0 ce tp sl go gi) := hD
    refine lv_if_ne (tgt := 26) hx hb dM_next_21 (by decide) (fun _ => ?_) (fun z => absurd z (by decide))
    refine lv_iload_n hx hb dM_next_26 rfl (lv_at hl 1 rfl) ?_
    refine lv_if_ne (tgt := 34) hx hb dM_next_27 (by decide) (fun c_27 => ?_) (fun c_27 => ?_)
    · refine lv_iload_n hx hb dM_next_34 rfl (lv_at hl 1 rfl) ?_
      refine lv_aload_n hx hb dM_next_35 rfl (lv_at hl 0 rfl) ?_
      refine lv_iload_n hx hb dM_next_36 rfl (lv_at hl 1 rfl) ?_
      refine sy_cVi (wc := wM g fA wA nA tA rA dA oA cI cZ F Wd Nm Tg Rc Dt Rt 0 ce tp sl go gi) (wr := []) (w1 := wM g fA wA nA tA rA dA oA cI cZ F Wd Nm Tg Rc Dt Rt 0 ce tp sl go gi) (ci := 1) (q0 := 0) (As := [.int a]) (rest := [.int a]) ⟨hx, hb, hml, hown, hbg⟩ (ct_M_size l D g fA wA nA tA rA dA oA cI cZ F Wd Nm Tg Rc Dt Rt 0 ce tp sl go gi H.size a (sm_vin1 (sm_one (h3.resolve_left c_27)) ht)) (cwV 1 hbg (bg_V bw_394 bw_395 bw_30 bw_35 bw_396) rfl rfl rfl (by decide +kernel) ⟨Nat.le_of_ble_eq_true rfl, Nat.le_of_ble_eq_true rfl⟩) hK [0, 1] rfl hP hD hS hA [0, 1, 2, 3, 4, 5, 6, 7] [] rfl rfl rfl rfl (by decide) rfl rfl rfl hl.1 rfl (Nat.le_of_ble_eq_true rfl) dM_next_37 ⟨Nat.le_of_ble_eq_true rfl, Nat.le_of_ble_eq_true rfl⟩ (fun H locs hP hD hS => ?_)
      have hP : va_P D vwC (wM g fA wA nA tA rA dA oA cI cZ F Wd Nm Tg Rc Dt Rt 0 ce tp sl go gi) H := hP
      have hD : va_D A (wM g fA wA nA tA rA dA oA cI cZ F Wd Nm Tg Rc Dt Rt 0 ce tp sl go gi) := hD
      refine lv_iadd hx hb dM_next_40 ?_
      refine lv_istore_n (lv' := [(2, .int (a + ((3 : Int32) + F a.toNatClampNeg - 1 + Wd a.toNatClampNeg))), (0, .ref g), (1, .int a)]) hx hb dM_next_41 rfl hl (by decide) rfl (fun ls hl => ?_)
      refine lv_iload_n hx hb dM_next_42 rfl (lv_at hl 0 rfl) ?_
      refine lv_aload_n hx hb dM_next_43 rfl (lv_at hl 1 rfl) ?_
      refine va_get (D := D) (ci := 1) (v := .int tp) (C := RM) (T := TM) (N := 13) hx hb hbg bg_M hown hK hP 0 rfl rfl 2 (by decide) (hbg _ bw_311) (fun _ h9 => h9) rfl dM_next_44 ?_
      refine lv_icmp_ge (tgt := 54) hx hb dM_next_47 (by decide) (fun c_47 => ?_) (fun c_47 => ?_)
      · refine lv_iconst (v := 0) hx hb dM_next_54 (by decide) ?_
        refine W.widen (k := 0) (n := 0) (Nat.le_of_ble_eq_true rfl) (Nat.le_of_ble_eq_true rfl) ?_
        exact W.iret (v := 0) hx hb hr (fun t ht hW => ⟨⟨0, (), rfl, (by simp only [c_27, c_47, ↓reduceIte]), by rw [ht]; exact hP, va_K.moved hW.alike hK, hD⟩, hS.F ht⟩) hS.2.2 dM_next_55
      · refine lv_iload_n hx hb dM_next_50 rfl (lv_at hl 0 rfl) ?_
        refine lv_goto (tgt := 55) hx hb dM_next_51 (by decide) ?_
        refine W.widen (k := 0) (n := 0) (Nat.le_of_ble_eq_true rfl) (Nat.le_of_ble_eq_true rfl) ?_
        exact W.iret (v := a + ((3 : Int32) + F a.toNatClampNeg - 1 + Wd a.toNatClampNeg)) hx hb hr (fun t ht hW => ⟨⟨a + ((3 : Int32) + F a.toNatClampNeg - 1 + Wd a.toNatClampNeg), (), rfl, (by simp only [c_27, c_47, ↓reduceIte]), by rw [ht]; exact hP, va_K.moved hW.alike hK, hD⟩, hS.F ht⟩) hS.2.2 dM_next_55
    · refine lv_iconst (v := 1) hx hb dM_next_30 (by decide) ?_
      refine lv_goto (tgt := 41) hx hb dM_next_31 (by decide) ?_
      refine lv_istore_n (lv' := [(2, .int 1), (0, .ref g), (1, .int a)]) hx hb dM_next_41 rfl hl (by decide) rfl (fun ls hl => ?_)
      refine lv_iload_n hx hb dM_next_42 rfl (lv_at hl 0 rfl) ?_
      refine lv_aload_n hx hb dM_next_43 rfl (lv_at hl 1 rfl) ?_
      refine va_get (D := D) (ci := 1) (v := .int tp) (C := RM) (T := TM) (N := 13) hx hb hbg bg_M hown hK hP 0 rfl rfl 2 (by decide) (hbg _ bw_311) (fun _ h9 => h9) rfl dM_next_44 ?_
      refine lv_icmp_ge (tgt := 54) hx hb dM_next_47 (by decide) (fun c_47 => ?_) (fun c_47 => ?_)
      · refine lv_iconst (v := 0) hx hb dM_next_54 (by decide) ?_
        refine W.widen (k := 0) (n := 0) (Nat.le_of_ble_eq_true rfl) (Nat.le_of_ble_eq_true rfl) ?_
        exact W.iret (v := 0) hx hb hr (fun t ht hW => ⟨⟨0, (), rfl, (by simp only [c_27, c_47, ↓reduceIte]), by rw [ht]; exact hP, va_K.moved hW.alike hK, hD⟩, hS.F ht⟩) hS.2.2 dM_next_55
      · refine lv_iload_n hx hb dM_next_50 rfl (lv_at hl 0 rfl) ?_
        refine lv_goto (tgt := 55) hx hb dM_next_51 (by decide) ?_
        refine W.widen (k := 0) (n := 0) (Nat.le_of_ble_eq_true rfl) (Nat.le_of_ble_eq_true rfl) ?_
        exact W.iret (v := 1) hx hb hr (fun t ht hW => ⟨⟨1, (), rfl, (by simp only [c_27, c_47, ↓reduceIte]), by rw [ht]; exact hP, va_K.moved hW.alike hK, hD⟩, hS.F ht⟩) hS.2.2 dM_next_55
  · refine lv_aload_n hx hb dM_next_5 rfl (lv_at hl 0 rfl) ?_
    refine lv_iload_n hx hb dM_next_6 rfl (lv_at hl 1 rfl) ?_
    refine sy_cVi (wc := wM g fA wA nA tA rA dA oA cI cZ F Wd Nm Tg Rc Dt Rt th ce tp sl go gi) (wr := []) (w1 := wM g fA wA nA tA rA dA oA cI cZ F Wd Nm Tg Rc Dt Rt th ce tp sl go gi) (ci := 1) (q0 := 0) (As := [.int a]) (rest := [.ref g]) ⟨hx, hb, hml, hown, hbg⟩ (ct_M_isObject l D g fA wA nA tA rA dA oA cI cZ F Wd Nm Tg Rc Dt Rt th ce tp sl go gi s.heap.size a ht) (cwV 1 hbg (bg_V bw_358 bw_359 bw_27 bw_35 bw_360) rfl rfl rfl (by decide +kernel) ⟨Nat.le_of_ble_eq_true rfl, Nat.le_of_ble_eq_true rfl⟩) hK [0, 1] rfl hP hD hS hA [0, 1, 2, 3, 4, 5, 6, 7] [] rfl rfl rfl rfl (by decide) rfl rfl rfl hl.1 rfl (Nat.le_of_ble_eq_true rfl) dM_next_7 ⟨Nat.le_of_ble_eq_true rfl, Nat.le_of_ble_eq_true rfl⟩ (fun H locs hP hD hS => ?_)
    have hP : va_P D vwC (wM g fA wA nA tA rA dA oA cI cZ F Wd Nm Tg Rc Dt Rt th ce tp sl go gi) H := hP
    have hD : va_D A (wM g fA wA nA tA rA dA oA cI cZ F Wd Nm Tg Rc Dt Rt th ce tp sl go gi) := hD
    refine lv_if_eq (tgt := 17) hx hb dM_next_10 (by decide) (fun z => absurd z (sm_one (h3.resolve_left c_2))) (fun _ => ?_)
    refine lv_iconst (v := 1) hx hb dM_next_13 (by decide) ?_
    refine lv_goto (tgt := 18) hx hb dM_next_14 (by decide) ?_
    refine sy_cVi (wc := wM g fA wA nA tA rA dA oA cI cZ F Wd Nm Tg Rc Dt Rt th ce tp sl go gi) (wr := []) (w1 := wM g fA wA nA tA rA dA oA cI cZ F Wd Nm Tg Rc Dt Rt 0 ce tp sl go gi) (ci := 1) (q0 := 0) (As := [.int 1]) (rest := []) ⟨hx, hb, hml, hown, hbg⟩ (ct_M_goes_k l D g fA wA nA tA rA dA oA cI cZ F Wd Nm Tg Rc Dt Rt th ce tp sl go gi H.size 1 rfl) (cwV 1 hbg (bg_V bw_344 bw_345 bw_25 bw_35 bw_346) rfl rfl rfl (by decide +kernel) ⟨Nat.le_of_ble_eq_true rfl, Nat.le_of_ble_eq_true rfl⟩) hK [0, 1] rfl hP hD hS hA [0, 1, 2, 3, 4, 5, 6, 7] [] rfl rfl rfl rfl (by decide) rfl rfl rfl hl.1 rfl (Nat.le_of_ble_eq_true rfl) dM_next_18 ⟨Nat.le_of_ble_eq_true rfl, Nat.le_of_ble_eq_true rfl⟩ (fun H locs hP hD hS => ?_)
    have hP : va_P D vwC (wM g fA wA nA tA rA dA oA cI cZ F Wd Nm Tg Rc Dt Rt 0 ce tp sl go gi) H := hP
    have hD : va_D A (wM g fA wA nA tA rA dA oA cI cZ F Wd Nm Tg Rc Dt Rt 0 ce tp sl go gi) := hD
    refine lv_if_ne (tgt := 26) hx hb dM_next_21 (by decide) (fun _ => ?_) (fun z => absurd z (by decide))
    refine lv_iload_n hx hb dM_next_26 rfl (lv_at hl 1 rfl) ?_
    refine lv_if_ne (tgt := 34) hx hb dM_next_27 (by decide) (fun c_27 => ?_) (fun c_27 => ?_)
    · refine lv_iload_n hx hb dM_next_34 rfl (lv_at hl 1 rfl) ?_
      refine lv_aload_n hx hb dM_next_35 rfl (lv_at hl 0 rfl) ?_
      refine lv_iload_n hx hb dM_next_36 rfl (lv_at hl 1 rfl) ?_
      refine sy_cVi (wc := wM g fA wA nA tA rA dA oA cI cZ F Wd Nm Tg Rc Dt Rt 0 ce tp sl go gi) (wr := []) (w1 := wM g fA wA nA tA rA dA oA cI cZ F Wd Nm Tg Rc Dt Rt 0 ce tp sl go gi) (ci := 1) (q0 := 0) (As := [.int a]) (rest := [.int a]) ⟨hx, hb, hml, hown, hbg⟩ (ct_M_size l D g fA wA nA tA rA dA oA cI cZ F Wd Nm Tg Rc Dt Rt 0 ce tp sl go gi H.size a (sm_vin1 (sm_one (h3.resolve_left c_27)) ht)) (cwV 1 hbg (bg_V bw_394 bw_395 bw_30 bw_35 bw_396) rfl rfl rfl (by decide +kernel) ⟨Nat.le_of_ble_eq_true rfl, Nat.le_of_ble_eq_true rfl⟩) hK [0, 1] rfl hP hD hS hA [0, 1, 2, 3, 4, 5, 6, 7] [] rfl rfl rfl rfl (by decide) rfl rfl rfl hl.1 rfl (Nat.le_of_ble_eq_true rfl) dM_next_37 ⟨Nat.le_of_ble_eq_true rfl, Nat.le_of_ble_eq_true rfl⟩ (fun H locs hP hD hS => ?_)
      have hP : va_P D vwC (wM g fA wA nA tA rA dA oA cI cZ F Wd Nm Tg Rc Dt Rt 0 ce tp sl go gi) H := hP
      have hD : va_D A (wM g fA wA nA tA rA dA oA cI cZ F Wd Nm Tg Rc Dt Rt 0 ce tp sl go gi) := hD
      refine lv_iadd hx hb dM_next_40 ?_
      refine lv_istore_n (lv' := [(2, .int (a + ((3 : Int32) + F a.toNatClampNeg - 1 + Wd a.toNatClampNeg))), (0, .ref g), (1, .int a)]) hx hb dM_next_41 rfl hl (by decide) rfl (fun ls hl => ?_)
      refine lv_iload_n hx hb dM_next_42 rfl (lv_at hl 0 rfl) ?_
      refine lv_aload_n hx hb dM_next_43 rfl (lv_at hl 1 rfl) ?_
      refine va_get (D := D) (ci := 1) (v := .int tp) (C := RM) (T := TM) (N := 13) hx hb hbg bg_M hown hK hP 0 rfl rfl 2 (by decide) (hbg _ bw_311) (fun _ h9 => h9) rfl dM_next_44 ?_
      refine lv_icmp_ge (tgt := 54) hx hb dM_next_47 (by decide) (fun c_47 => ?_) (fun c_47 => ?_)
      · refine lv_iconst (v := 0) hx hb dM_next_54 (by decide) ?_
        refine W.widen (k := 0) (n := 0) (Nat.le_of_ble_eq_true rfl) (Nat.le_of_ble_eq_true rfl) ?_
        exact W.iret (v := 0) hx hb hr (fun t ht hW => ⟨⟨0, (), rfl, (by simp only [c_27, c_47, ↓reduceIte]), by rw [ht]; exact hP, va_K.moved hW.alike hK, hD⟩, hS.F ht⟩) hS.2.2 dM_next_55
      · refine lv_iload_n hx hb dM_next_50 rfl (lv_at hl 0 rfl) ?_
        refine lv_goto (tgt := 55) hx hb dM_next_51 (by decide) ?_
        refine W.widen (k := 0) (n := 0) (Nat.le_of_ble_eq_true rfl) (Nat.le_of_ble_eq_true rfl) ?_
        exact W.iret (v := a + ((3 : Int32) + F a.toNatClampNeg - 1 + Wd a.toNatClampNeg)) hx hb hr (fun t ht hW => ⟨⟨a + ((3 : Int32) + F a.toNatClampNeg - 1 + Wd a.toNatClampNeg), (), rfl, (by simp only [c_27, c_47, ↓reduceIte]), by rw [ht]; exact hP, va_K.moved hW.alike hK, hD⟩, hS.F ht⟩) hS.2.2 dM_next_55
    · refine lv_iconst (v := 1) hx hb dM_next_30 (by decide) ?_
      refine lv_goto (tgt := 41) hx hb dM_next_31 (by decide) ?_
      refine lv_istore_n (lv' := [(2, .int 1), (0, .ref g), (1, .int a)]) hx hb dM_next_41 rfl hl (by decide) rfl (fun ls hl => ?_)
      refine lv_iload_n hx hb dM_next_42 rfl (lv_at hl 0 rfl) ?_
      refine lv_aload_n hx hb dM_next_43 rfl (lv_at hl 1 rfl) ?_
      refine va_get (D := D) (ci := 1) (v := .int tp) (C := RM) (T := TM) (N := 13) hx hb hbg bg_M hown hK hP 0 rfl rfl 2 (by decide) (hbg _ bw_311) (fun _ h9 => h9) rfl dM_next_44 ?_
      refine lv_icmp_ge (tgt := 54) hx hb dM_next_47 (by decide) (fun c_47 => ?_) (fun c_47 => ?_)
      · refine lv_iconst (v := 0) hx hb dM_next_54 (by decide) ?_
        refine W.widen (k := 0) (n := 0) (Nat.le_of_ble_eq_true rfl) (Nat.le_of_ble_eq_true rfl) ?_
        exact W.iret (v := 0) hx hb hr (fun t ht hW => ⟨⟨0, (), rfl, (by simp only [c_27, c_47, ↓reduceIte]), by rw [ht]; exact hP, va_K.moved hW.alike hK, hD⟩, hS.F ht⟩) hS.2.2 dM_next_55
      · refine lv_iload_n hx hb dM_next_50 rfl (lv_at hl 0 rfl) ?_
        refine lv_goto (tgt := 55) hx hb dM_next_51 (by decide) ?_
        refine W.widen (k := 0) (n := 0) (Nat.le_of_ble_eq_true rfl) (Nat.le_of_ble_eq_true rfl) ?_
        exact W.iret (v := 1) hx hb hr (fun t ht hW => ⟨⟨1, (), rfl, (by simp only [c_27, c_47, ↓reduceIte]), by rw [ht]; exact hP, va_K.moved hW.alike hK, hD⟩, hS.F ht⟩) hS.2.2 dM_next_55

set_option maxHeartbeats 4000000 in
set_option maxRecDepth 100000 in
theorem ct_M_next_b (l : Launch) (D : va_G) (g fA wA nA tA rA dA oA : Nat) (cI cZ : ClassId) (F Wd Nm Tg Rc Dt Rt : Nat → Int32) (th ce tp sl go gi : Int32) (sz : Nat) (a : Int32) (ht : tp.toInt ≤ 16385) (h0 : ¬ a = 0) (h3 : sm_iO F tp a = 0) : sy_Mi l yM_next (Cond.code yM_next bM_next 3 (some .int) :: sr_big) { frames := 1, cells := 0, slots := 0, locals := 21 } D vwC [(cI, .int), (cZ, .boolean)] [.ref g, .int a] (wM g fA wA nA tA rA dA oA cI cZ F Wd Nm Tg Rc Dt Rt th ce tp sl go gi) sz 0 (wM g fA wA nA tA rA dA oA cI cZ F Wd Nm Tg Rc Dt Rt 1 ce tp sl go gi) 0 0 := by
  refine Met.ofW (cc := bM_next) (maxL := 3) (ret := (some .int)) (by decide) rfl ?_
  intro p e s m args below meth c s₁ B hml hv
  obtain ⟨rfl, hsz, hP, hK, hD0⟩ := hv
  have hx := B.exec
  have hb := B.bytes
  have hr := B.returns
  have hbg : ∀ w ∈ sr_big, w.before _ s = true := fun w h => atoms_spec (ws := Cond.code yM_next bM_next 3 (some .int) :: sr_big) B.pre w (List.mem_cons_of_mem _ h)
  have hown : s.vm.findClass RM = some m.cls := findClass_of_methodNamed B.named
  have hlocks := B.notSynchronized
  subst hsz
  have hD := hD0.self (sz := s.heap.size)
  generalize hAe : va_A (wM g fA wA nA tA rA dA oA cI cZ F Wd Nm Tg Rc Dt Rt th ce tp sl go gi) s.heap.size = A at *
  have hA : ∀ q : Nat, s.heap.size ≤ q → A q := fun q h => by rw [← hAe]; exact Or.inr h
  have hS : va_S A s.heap s.heap [] := va_S.rf
  have hl := lv_entry ([.ref g, .int a]) (n := 3) (Nat.le_of_ble_eq_true rfl)
  rw [lg_entry_eq]
  generalize (lg_sl ([.ref g, .int a]) ++ List.replicate (3 - (lg_sl ([.ref g, .int a])).length) Slot.unset).toArray = ls at hl ⊢
  have hl : lv_has ls 3 [(0, .ref g), (1, .int a)] := hl
  refine lv_aload_n hx hb dM_next_0 rfl (lv_at hl 0 rfl) ?_
  refine lv_iload_n hx hb dM_next_1 rfl (lv_at hl 1 rfl) ?_
  refine lv_if_eq (tgt := 13) hx hb dM_next_2 (by decide) (fun z => absurd z h0) (fun _ => ?_)
  refine lv_aload_n hx hb dM_next_5 rfl (lv_at hl 0 rfl) ?_
  refine lv_iload_n hx hb dM_next_6 rfl (lv_at hl 1 rfl) ?_
  refine sy_cVi (wc := wM g fA wA nA tA rA dA oA cI cZ F Wd Nm Tg Rc Dt Rt th ce tp sl go gi) (wr := []) (w1 := wM g fA wA nA tA rA dA oA cI cZ F Wd Nm Tg Rc Dt Rt th ce tp sl go gi) (ci := 1) (q0 := 0) (As := [.int a]) (rest := [.ref g]) ⟨hx, hb, hml, hown, hbg⟩ (ct_M_isObject l D g fA wA nA tA rA dA oA cI cZ F Wd Nm Tg Rc Dt Rt th ce tp sl go gi s.heap.size a ht) (cwV 1 hbg (bg_V bw_358 bw_359 bw_27 bw_35 bw_360) rfl rfl rfl (by decide +kernel) ⟨Nat.le_of_ble_eq_true rfl, Nat.le_of_ble_eq_true rfl⟩) hK [0, 1] rfl hP hD hS hA [0, 1, 2, 3, 4, 5, 6, 7] [] rfl rfl rfl rfl (by decide) rfl rfl rfl hl.1 rfl (Nat.le_of_ble_eq_true rfl) dM_next_7 ⟨Nat.le_of_ble_eq_true rfl, Nat.le_of_ble_eq_true rfl⟩ (fun H locs hP hD hS => ?_)
  have hP : va_P D vwC (wM g fA wA nA tA rA dA oA cI cZ F Wd Nm Tg Rc Dt Rt th ce tp sl go gi) H := hP
  have hD : va_D A (wM g fA wA nA tA rA dA oA cI cZ F Wd Nm Tg Rc Dt Rt th ce tp sl go gi) := hD
  refine lv_if_eq (tgt := 17) hx hb dM_next_10 (by decide) (fun _ => ?_) (fun z => absurd h3 z)
  refine lv_iconst (v := 0) hx hb dM_next_17 (by decide) ?_
  refine sy_cVi (wc := wM g fA wA nA tA rA dA oA cI cZ F Wd Nm Tg Rc Dt Rt th ce tp sl go gi) (wr := []) (w1 := wM g fA wA nA tA rA dA oA cI cZ F Wd Nm Tg Rc Dt Rt 1 ce tp sl go gi) (ci := 1) (q0 := 0) (As := [.int 0]) (rest := []) ⟨hx, hb, hml, hown, hbg⟩ (ct_M_goes_b l D g fA wA nA tA rA dA oA cI cZ F Wd Nm Tg Rc Dt Rt th ce tp sl go gi H.size 0 rfl) (cwV 1 hbg (bg_V bw_344 bw_345 bw_25 bw_35 bw_346) rfl rfl rfl (by decide +kernel) ⟨Nat.le_of_ble_eq_true rfl, Nat.le_of_ble_eq_true rfl⟩) hK [0, 1] rfl hP hD hS hA [0, 1, 2, 3, 4, 5, 6, 7] [] rfl rfl rfl rfl (by decide) rfl rfl rfl hl.1 rfl (Nat.le_of_ble_eq_true rfl) dM_next_18 ⟨Nat.le_of_ble_eq_true rfl, Nat.le_of_ble_eq_true rfl⟩ (fun H locs hP hD hS => ?_)
  have hP : va_P D vwC (wM g fA wA nA tA rA dA oA cI cZ F Wd Nm Tg Rc Dt Rt 1 ce tp sl go gi) H := hP
  have hD : va_D A (wM g fA wA nA tA rA dA oA cI cZ F Wd Nm Tg Rc Dt Rt 1 ce tp sl go gi) := hD
  refine lv_if_ne (tgt := 26) hx hb dM_next_21 (by decide) (fun z => absurd rfl z) (fun _ => ?_)
  refine lv_iconst (v := 0) hx hb dM_next_24 (by decide) ?_
  refine W.widen (k := 0) (n := 0) (Nat.le_of_ble_eq_true rfl) (Nat.le_of_ble_eq_true rfl) ?_
  exact W.iret (v := 0) hx hb hr (fun t ht hW => ⟨⟨0, (), rfl, rfl, by rw [ht]; exact hP, va_K.moved hW.alike hK, hD⟩, hS.F ht⟩) hS.2.2 dM_next_25
