/-! CONTRACTS OF SlideRowModel: its loops (rows laid by wip/gen) -/
/-- size, of an object that stands there -/
theorem ct_M_size_o (l : Launch) (D : va_G) (g fA wA nA tA rA dA oA : Nat) (cI cZ : ClassId) (F Wd Nm Tg Rc Dt Rt : Nat → Int32) (th ce tp sl go gi : Int32) (sz : Nat) (a : Nat) (o : sr_O) (ha : a < 16386) (h1 : F a = nI (o.1 + 1)) (h2 : Wd a = nI o.2.1) : sy_Mi l yM_size (Cond.code yM_size bM_size 2 (some .int) :: sr_big) { frames := 0, cells := 0, slots := 0, locals := 0 } D vwC [(cI, .int), (cZ, .boolean)] [.ref g, .int (nI a)] (wM g fA wA nA tA rA dA oA cI cZ F Wd Nm Tg Rc Dt Rt th ce tp sl go gi) sz (nI (sr_sz o)) (wM g fA wA nA tA rA dA oA cI cZ F Wd Nm Tg Rc Dt Rt th ce tp sl go gi) 0 0 := by
  have h := ct_M_size l D g fA wA nA tA rA dA oA cI cZ F Wd Nm Tg Rc Dt Rt th ce tp sl go gi sz (nI a) (vp_in_nI ha (by omega))
  rw [nI_clamp (by omega), sr_ms h1 h2] at h
  exact h
/-- data is cleared, from a on -/
def sm_c (a : Nat) : Nat → Nat → (Nat → Int32) → Nat → Int32
  | 0, _, F => F
  | n + 1, j, F => sm_c a n (j + 1) (upd F (a + j) 0)
theorem sm_c_eq {a : Nat} : ∀ (n j : Nat) (F : Nat → Int32) (q : Nat), sm_c a n j F q = if a + j ≤ q ∧ q < a + j + n then 0 else F q
  | 0, j, F, q => by rw [if_neg (by omega)]; rfl
  | n + 1, j, F, q => by
    show sm_c a n (j + 1) _ q = _
    rw [sm_c_eq n (j + 1) _ q]
    by_cases h : q = a + j
    · rw [if_neg (by omega), if_pos (by omega), h, pk_us]
    · rw [pk_un h]
      by_cases h2 : a + (j + 1) ≤ q ∧ q < a + (j + 1) + n
      · rw [if_pos h2, if_pos (by omega)]
      · rw [if_neg h2, if_neg (by omega)]

section ML
variable {p : Program} {l : Launch} {e : Env} {s : State} {m : MethodId} {args : Array Value} {below : List Frame} {meth : Method} {c : Code} {Q : State → Prop} {A : Nat → Prop} {D : va_G} {g fA wA nA tA rA dA oA : Nat} {cI cZ : ClassId} {th ce sl go gi : Int32}

set_option maxHeartbeats 4000000 in
set_option maxRecDepth 100000 in
theorem lp_M_objects {F Wd : Nat → Int32} {t : Nat} {Nm Tg Rc Dt Rt : Nat → Int32} (hx : p.tables.exec = Jvm.exec) (hb : c.code = bM_objects) (hml : c.maxLocals = 3) (hown : s.vm.findClass RM = some m.cls) (hbg : ∀ w ∈ sr_big, w.before args s = true) (hK : va_K D vwC [(cI, .int), (cZ, .boolean)] s) (hA : ∀ q : Nat, s.heap.size ≤ q → A q) (h5 : t ≤ 16385) :
    ∀ (us : List sr_O) (a k : Nat) (H : Heap) (locs : List Loc) (ls : Array Slot), a + sr_tot us = t ∧ sr_hd F Wd a us → va_P D vwC (wM g fA wA nA tA rA dA oA cI cZ F Wd Nm Tg Rc Dt Rt th ce (nI t) sl go gi) H → va_D A (wM g fA wA nA tA rA dA oA cI cZ F Wd Nm Tg Rc Dt Rt th ce (nI t) sl go gi) → va_S A s.heap H locs → lv_has ls 3 [(0, .ref g), (1, .int (nI k)), (2, .int (nI a))] →
      (∀ (a' : Int32) (H : Heap) (locs : List Loc) (ls : Array Slot), va_P D vwC (wM g fA wA nA tA rA dA oA cI cZ F Wd Nm Tg Rc Dt Rt th ce (nI t) sl go gi) H → va_D A (wM g fA wA nA tA rA dA oA cI cZ F Wd Nm Tg Rc Dt Rt th ce (nI t) sl go gi) → va_S A s.heap H locs → lv_has ls 3 [(0, .ref g), (1, .int (nI (k + us.length))), (2, .int a')] → W p l e { frames := 1, cells := 0, slots := 0, locals := 21 } s m args below meth c H locs 0 0 Q (F0 m 26 ls [])) →
      W p l e { frames := 1, cells := 0, slots := 0, locals := 21 } s m args below meth c H locs 0 0 Q (F0 m 4 ls []) := by
  intro us
  induction us with
  | nil =>
    intro a k H locs ls hst hP hD hS hl kk
    obtain ⟨hst, -⟩ := hst
    simp only [sr_tot] at hst
    refine lv_iload_n hx hb dM_objects_4 rfl (lv_at hl 2 rfl) ?_
    refine lv_aload_n hx hb dM_objects_5 rfl (lv_at hl 0 rfl) ?_
    refine va_get (D := D) (ci := 1) (v := .int (nI t)) (C := RM) (T := TM) (N := 13) hx hb hbg bg_M hown hK hP 0 rfl rfl 2 (by decide) (hbg _ bw_311) (fun _ h9 => h9) rfl dM_objects_6 ?_
    refine lv_icmp_ge (tgt := 26) hx hb dM_objects_9 (by decide) (fun _ => ?_) (fun z => absurd (nI_le (by omega) (by omega)) z)
    exact kk (nI a) _ _ _ hP hD hS (lv_sub hl [0, 1, 2] rfl)
  | cons o us ih =>
    intro a k H locs ls hst hP hD hS hl kk
    have h3 := sr_sz3 o
    obtain ⟨hst, hhd⟩ := hst
    simp only [sr_tot] at hst
    obtain ⟨hh, hhd⟩ := sr_hd_cons hhd
    refine lv_iload_n hx hb dM_objects_4 rfl (lv_at hl 2 rfl) ?_
    refine lv_aload_n hx hb dM_objects_5 rfl (lv_at hl 0 rfl) ?_
    refine va_get (D := D) (ci := 1) (v := .int (nI t)) (C := RM) (T := TM) (N := 13) hx hb hbg bg_M hown hK hP 0 rfl rfl 2 (by decide) (hbg _ bw_311) (fun _ h9 => h9) rfl dM_objects_6 ?_
    refine lv_icmp_ge (tgt := 26) hx hb dM_objects_9 (by decide) (fun z => absurd z (nI_ge (by omega) (by omega))) (fun _ => ?_)
    refine lv_iinc (v := nI (k + 1)) (lv' := [(1, .int (nI (k + 1))), (0, .ref g), (2, .int (nI a))]) hx hb dM_objects_12 hl (k := 1) rfl (nI_1 k) (by decide) rfl (fun ls hl => ?_)
    refine lv_iload_n hx hb dM_objects_15 rfl (lv_at hl 2 rfl) ?_
    refine lv_aload_n hx hb dM_objects_16 rfl (lv_at hl 1 rfl) ?_
    refine lv_iload_n hx hb dM_objects_17 rfl (lv_at hl 2 rfl) ?_
    refine sy_cVi (wc := wM g fA wA nA tA rA dA oA cI cZ F Wd Nm Tg Rc Dt Rt th ce (nI t) sl go gi) (wr := []) (w1 := wM g fA wA nA tA rA dA oA cI cZ F Wd Nm Tg Rc Dt Rt th ce (nI t) sl go gi) (ci := 1) (q0 := 0) (As := [.int (nI a)]) (rest := [.int (nI a)]) ⟨hx, hb, hml, hown, hbg⟩ (ct_M_size_o l D g fA wA nA tA rA dA oA cI cZ F Wd Nm Tg Rc Dt Rt th ce (nI t) sl go gi H.size a o (by omega) hh.1 hh.2) (cwV 1 hbg (bg_V bw_394 bw_395 bw_30 bw_35 bw_396) rfl rfl rfl (by decide +kernel) ⟨Nat.le_of_ble_eq_true rfl, Nat.le_of_ble_eq_true rfl⟩) hK [0, 1] rfl hP hD hS hA [0, 1, 2, 3, 4, 5, 6, 7] [] rfl rfl rfl rfl (by decide) rfl rfl rfl hl.1 rfl (Nat.le_of_ble_eq_true rfl) dM_objects_18 ⟨Nat.le_of_ble_eq_true rfl, Nat.le_of_ble_eq_true rfl⟩ (fun H locs hP hD hS => ?_)
    have hP : va_P D vwC (wM g fA wA nA tA rA dA oA cI cZ F Wd Nm Tg Rc Dt Rt th ce (nI t) sl go gi) H := hP
    have hD : va_D A (wM g fA wA nA tA rA dA oA cI cZ F Wd Nm Tg Rc Dt Rt th ce (nI t) sl go gi) := hD
    refine lv_iadd hx hb dM_objects_21 ?_
    rw [show (nI a) + (nI (sr_sz o)) = nI (a + sr_sz o) from nI_add a (sr_sz o)]
    refine lv_istore_n (lv' := [(2, .int (nI (a + sr_sz o))), (1, .int (nI (k + 1))), (0, .ref g)]) hx hb dM_objects_22 rfl hl (by decide) rfl (fun ls hl => ?_)
    refine lv_goto (tgt := 4) hx hb dM_objects_23 (by decide) ?_
    rw [show k + (o :: us).length = k + 1 + us.length from by simp only [List.length_cons]; omega] at kk
    exact ih (a + sr_sz o) (k + 1) _ _ _ ⟨by omega, hhd⟩ hP hD hS (lv_sub hl [2, 1, 0] rfl) kk

set_option maxHeartbeats 4000000 in
set_option maxRecDepth 100000 in
theorem ct_M_objects (l : Launch) (D : va_G) (g fA wA nA tA rA dA oA : Nat) (cI cZ : ClassId) (F Wd Nm Tg Rc Dt Rt : Nat → Int32) (th ce sl go gi : Int32) (sz : Nat) (us : List sr_O) (t : Nat) (hst : 1 + sr_tot us = t ∧ sr_hd F Wd 1 us) (h5 : t ≤ 16385)  : sy_Mi l yM_objects (Cond.code yM_objects bM_objects 3 (some .int) :: sr_big) { frames := 1, cells := 0, slots := 0, locals := 21 } D vwC [(cI, .int), (cZ, .boolean)] [.ref g] (wM g fA wA nA tA rA dA oA cI cZ F Wd Nm Tg Rc Dt Rt th ce (nI t) sl go gi) sz (nI us.length) (wM g fA wA nA tA rA dA oA cI cZ F Wd Nm Tg Rc Dt Rt th ce (nI t) sl go gi) 0 0 := by
  refine Met.ofW (cc := bM_objects) (maxL := 3) (ret := (some .int)) (by decide) rfl ?_
  intro p e s m args below meth c s₁ B hml hv
  obtain ⟨rfl, hsz, hP, hK, hD0⟩ := hv
  have hx := B.exec
  have hb := B.bytes
  have hr := B.returns
  have hbg : ∀ w ∈ sr_big, w.before _ s = true := fun w h => atoms_spec (ws := Cond.code yM_objects bM_objects 3 (some .int) :: sr_big) B.pre w (List.mem_cons_of_mem _ h)
  have hown : s.vm.findClass RM = some m.cls := findClass_of_methodNamed B.named
  have hlocks := B.notSynchronized
  subst hsz
  have hD := hD0.self (sz := s.heap.size)
  generalize hAe : va_A (wM g fA wA nA tA rA dA oA cI cZ F Wd Nm Tg Rc Dt Rt th ce (nI t) sl go gi) s.heap.size = A at *
  have hA : ∀ q : Nat, s.heap.size ≤ q → A q := fun q h => by rw [← hAe]; exact Or.inr h
  have hS : va_S A s.heap s.heap [] := va_S.rf
  have hl := lv_entry ([.ref g]) (n := 3) (Nat.le_of_ble_eq_true rfl)
  rw [lg_entry_eq]
  generalize (lg_sl ([.ref g]) ++ List.replicate (3 - (lg_sl ([.ref g])).length) Slot.unset).toArray = ls at hl ⊢
  have hl : lv_has ls 3 [(0, .ref g)] := hl
  refine lv_iconst (v := 0) hx hb dM_objects_0 (by decide) ?_
  refine lv_istore_n (lv' := [(1, .int 0), (0, .ref g)]) hx hb dM_objects_1 rfl hl (by decide) rfl (fun ls hl => ?_)
  refine lv_iconst (v := 1) hx hb dM_objects_2 (by decide) ?_
  refine lv_istore_n (lv' := [(2, .int 1), (1, .int 0), (0, .ref g)]) hx hb dM_objects_3 rfl hl (by decide) rfl (fun ls hl => ?_)
  refine lp_M_objects hx hb hml hown hbg hK hA h5 us 1 0 _ _ _ hst hP hD hS (lv_sub hl [2, 1, 0] rfl) ?_
  intro a' H locs ls hP hD hS hl
  refine lv_iload_n hx hb dM_objects_26 rfl (lv_at hl 1 rfl) ?_
  refine W.widen (k := 0) (n := 0) (Nat.le_of_ble_eq_true rfl) (Nat.le_of_ble_eq_true rfl) ?_
  exact W.iret (v := nI (0 + us.length)) hx hb hr (fun t9 ht hW => ⟨⟨nI (0 + us.length), (), rfl, (by rw [Nat.zero_add]), by rw [ht]; exact hP, va_K.moved hW.alike hK, hD⟩, hS.F ht⟩) hS.2.2 dM_objects_27

set_option maxHeartbeats 4000000 in
set_option maxRecDepth 100000 in
theorem lp_M_find {F Wd : Nat → Int32} {t : Nat} {x : Int32} {Nm Tg Rc Dt Rt : Nat → Int32} (hx : p.tables.exec = Jvm.exec) (hb : c.code = bM_find) (hml : c.maxLocals = 3) (hown : s.vm.findClass RM = some m.cls) (hbg : ∀ w ∈ sr_big, w.before args s = true) (hK : va_K D vwC [(cI, .int), (cZ, .boolean)] s) (hA : ∀ q : Nat, s.heap.size ≤ q → A q) (h5 : t ≤ 16385) (hx0 : ¬ x < 0) (hx1 : ¬ gi ≤ x) :
    ∀ (us : List sr_O) (a : Nat) (H : Heap) (locs : List Loc) (ls : Array Slot), a + sr_tot us = t ∧ sr_hd F Wd a us ∧ (∀ q1 o1, sr_ob a us q1 o1 → Nm q1 = o1.2.2.1) → va_P D vwC (wM g fA wA nA tA rA dA oA cI cZ F Wd Nm Tg Rc Dt Rt th ce (nI t) sl go gi) H → va_D A (wM g fA wA nA tA rA dA oA cI cZ F Wd Nm Tg Rc Dt Rt th ce (nI t) sl go gi) → va_S A s.heap H locs → lv_has ls 3 [(0, .ref g), (1, .int x), (2, .int (nI a))] →
      (∀ (a' : Int32) (H : Heap) (locs : List Loc) (ls : Array Slot), nI (sr_fa x a us) = 0 → va_P D vwC (wM g fA wA nA tA rA dA oA cI cZ F Wd Nm Tg Rc Dt Rt th ce (nI t) sl go gi) H → va_D A (wM g fA wA nA tA rA dA oA cI cZ F Wd Nm Tg Rc Dt Rt th ce (nI t) sl go gi) → va_S A s.heap H locs → lv_has ls 3 [(0, .ref g), (1, .int x), (2, .int a')] → W p l e { frames := 1, cells := 0, slots := 0, locals := 21 } s m args below meth c H locs 0 0 Q (F0 m 52 ls [])) →
      (∀ (a' : Int32) (H : Heap) (locs : List Loc) (ls : Array Slot), nI (sr_fa x a us) = a' → va_P D vwC (wM g fA wA nA tA rA dA oA cI cZ F Wd Nm Tg Rc Dt Rt th ce (nI t) sl go gi) H → va_D A (wM g fA wA nA tA rA dA oA cI cZ F Wd Nm Tg Rc Dt Rt th ce (nI t) sl go gi) → va_S A s.heap H locs → lv_has ls 3 [(0, .ref g), (1, .int x), (2, .int a')] → W p l e { frames := 1, cells := 0, slots := 0, locals := 21 } s m args below meth c H locs 0 0 Q (F0 m 39 ls [])) →
      W p l e { frames := 1, cells := 0, slots := 0, locals := 21 } s m args below meth c H locs 0 0 Q (F0 m 7 ls []) := by
  intro us
  induction us with
  | nil =>
    intro a H locs ls hst hP hD hS hl k52 k39
    obtain ⟨hst, -, -⟩ := hst
    simp only [sr_tot] at hst
    refine lv_iload_n hx hb dM_find_7 rfl (lv_at hl 2 rfl) ?_
    refine lv_aload_n hx hb dM_find_8 rfl (lv_at hl 0 rfl) ?_
    refine va_get (D := D) (ci := 1) (v := .int (nI t)) (C := RM) (T := TM) (N := 13) hx hb hbg bg_M hown hK hP 0 rfl rfl 2 (by decide) (hbg _ bw_311) (fun _ h9 => h9) rfl dM_find_9 ?_
    refine lv_icmp_ge (tgt := 52) hx hb dM_find_12 (by decide) (fun _ => ?_) (fun z => absurd (nI_le (by omega) (by omega)) z)
    exact k52 (nI a) _ _ _ rfl hP hD hS (lv_sub hl [0, 1, 2] rfl)
  | cons o us ih =>
    intro a H locs ls hst hP hD hS hl k52 k39
    have h3 := sr_sz3 o
    obtain ⟨hst, hhd, hnn⟩ := hst
    simp only [sr_tot] at hst
    obtain ⟨hh, hhd⟩ := sr_hd_cons hhd
    have hn0 : Nm a = o.2.2.1 := hnn a o (Or.inl ⟨rfl, rfl⟩)
    refine lv_iload_n hx hb dM_find_7 rfl (lv_at hl 2 rfl) ?_
    refine lv_aload_n hx hb dM_find_8 rfl (lv_at hl 0 rfl) ?_
    refine va_get (D := D) (ci := 1) (v := .int (nI t)) (C := RM) (T := TM) (N := 13) hx hb hbg bg_M hown hK hP 0 rfl rfl 2 (by decide) (hbg _ bw_311) (fun _ h9 => h9) rfl dM_find_9 ?_
    refine lv_icmp_ge (tgt := 52) hx hb dM_find_12 (by decide) (fun z => absurd z (nI_ge (by omega) (by omega))) (fun _ => ?_)
    refine lv_iload_n hx hb dM_find_15 rfl (lv_at hl 1 rfl) ?_
    refine lv_if_lt (tgt := 52) hx hb dM_find_16 (by decide) (fun z => absurd z hx0) (fun _ => ?_)
    refine lv_iload_n hx hb dM_find_19 rfl (lv_at hl 1 rfl) ?_
    refine lv_aload_n hx hb dM_find_20 rfl (lv_at hl 0 rfl) ?_
    refine va_get (D := D) (ci := 1) (v := .int gi) (C := RM) (T := TM) (N := 13) hx hb hbg bg_M hown hK hP 0 rfl rfl 12 (by decide) (hbg _ bw_321) (fun _ h9 => h9) rfl dM_find_21 ?_
    refine lv_icmp_ge (tgt := 52) hx hb dM_find_24 (by decide) (fun z => absurd z hx1) (fun _ => ?_)
    refine lv_aload_n hx hb dM_find_27 rfl (lv_at hl 0 rfl) ?_
    refine va_get (D := D) (ci := 1) (v := .ref nA) (C := RM) (T := TM) (N := 13) hx hb hbg bg_M hown hK hP 0 rfl rfl 5 (by decide) (hbg _ bw_314) (fun _ h9 => h9) rfl dM_find_28 ?_
    refine lv_iload_n hx hb dM_find_31 rfl (lv_at hl 2 rfl) ?_
    refine sy_iald (j := a) hx hb hK hP 3 0 rfl rfl (by omega) (by omega) dM_find_32 ?_
    refine lv_iload_n hx hb dM_find_33 rfl (lv_at hl 1 rfl) ?_
    refine lv_iconst (v := 1) hx hb dM_find_34 (by decide) ?_
    refine lv_iadd hx hb dM_find_35 ?_
    refine lv_icmp_ne (tgt := 41) hx hb dM_find_36 (by decide) (fun c_36 => ?_) (fun c_36 => ?_)
    · refine lv_iload_n hx hb dM_find_41 rfl (lv_at hl 2 rfl) ?_
      refine lv_aload_n hx hb dM_find_42 rfl (lv_at hl 0 rfl) ?_
      refine lv_iload_n hx hb dM_find_43 rfl (lv_at hl 2 rfl) ?_
      refine sy_cVi (wc := wM g fA wA nA tA rA dA oA cI cZ F Wd Nm Tg Rc Dt Rt th ce (nI t) sl go gi) (wr := []) (w1 := wM g fA wA nA tA rA dA oA cI cZ F Wd Nm Tg Rc Dt Rt th ce (nI t) sl go gi) (ci := 1) (q0 := 0) (As := [.int (nI a)]) (rest := [.int (nI a)]) ⟨hx, hb, hml, hown, hbg⟩ (ct_M_size_o l D g fA wA nA tA rA dA oA cI cZ F Wd Nm Tg Rc Dt Rt th ce (nI t) sl go gi H.size a o (by omega) hh.1 hh.2) (cwV 1 hbg (bg_V bw_394 bw_395 bw_30 bw_35 bw_396) rfl rfl rfl (by decide +kernel) ⟨Nat.le_of_ble_eq_true rfl, Nat.le_of_ble_eq_true rfl⟩) hK [0, 1] rfl hP hD hS hA [0, 1, 2, 3, 4, 5, 6, 7] [] rfl rfl rfl rfl (by decide) rfl rfl rfl hl.1 rfl (Nat.le_of_ble_eq_true rfl) dM_find_44 ⟨Nat.le_of_ble_eq_true rfl, Nat.le_of_ble_eq_true rfl⟩ (fun H locs hP hD hS => ?_)
      have hP : va_P D vwC (wM g fA wA nA tA rA dA oA cI cZ F Wd Nm Tg Rc Dt Rt th ce (nI t) sl go gi) H := hP
      have hD : va_D A (wM g fA wA nA tA rA dA oA cI cZ F Wd Nm Tg Rc Dt Rt th ce (nI t) sl go gi) := hD
      refine lv_iadd hx hb dM_find_47 ?_
      rw [show (nI a) + (nI (sr_sz o)) = nI (a + sr_sz o) from nI_add a (sr_sz o)]
      refine lv_istore_n (lv' := [(2, .int (nI (a + sr_sz o))), (0, .ref g), (1, .int x)]) hx hb dM_find_48 rfl hl (by decide) rfl (fun ls hl => ?_)
      refine lv_goto (tgt := 7) hx hb dM_find_49 (by decide) ?_
      rw [show sr_fa x a (o :: us) = sr_fa x (a + sr_sz o) us from if_neg (by rw [← hn0]; exact c_36)] at k52 k39
      exact ih (a + sr_sz o) _ _ _ ⟨by omega, hhd, fun p y hy => hnn p y (Or.inr hy)⟩ hP hD hS (lv_sub hl [1, 2, 0] rfl) k52 k39
    · exact k39 (nI a) _ _ _ (by rw [show sr_fa x a (o :: us) = a from if_pos (by rw [← hn0]; exact c_36)]) hP hD hS (lv_sub hl [0, 1, 2] rfl)

set_option maxHeartbeats 4000000 in
set_option maxRecDepth 100000 in
theorem ct_M_find_k (l : Launch) (D : va_G) (g fA wA nA tA rA dA oA : Nat) (cI cZ : ClassId) (F Wd Nm Tg Rc Dt Rt : Nat → Int32) (th ce sl go gi : Int32) (sz : Nat) (x : Int32) (us : List sr_O) (t : Nat) (hst : 1 + sr_tot us = t ∧ sr_hd F Wd 1 us ∧ (∀ q1 o1, sr_ob 1 us q1 o1 → Nm q1 = o1.2.2.1)) (h5 : t ≤ 16385) (hx0 : ¬ x < 0) (hx1 : ¬ gi ≤ x)  : sy_Mi l yM_find (Cond.code yM_find bM_find 3 (some .int) :: sr_big) { frames := 1, cells := 0, slots := 0, locals := 21 } D vwC [(cI, .int), (cZ, .boolean)] [.ref g, .int x] (wM g fA wA nA tA rA dA oA cI cZ F Wd Nm Tg Rc Dt Rt th ce (nI t) sl go gi) sz (nI (sr_fa x 1 us)) (wM g fA wA nA tA rA dA oA cI cZ F Wd Nm Tg Rc Dt Rt 0 ce (nI t) sl go gi) 0 0 := by
  refine Met.ofW (cc := bM_find) (maxL := 3) (ret := (some .int)) (by decide) rfl ?_
  intro p e s m args below meth c s₁ B hml hv
  obtain ⟨rfl, hsz, hP, hK, hD0⟩ := hv
  have hx := B.exec
  have hb := B.bytes
  have hr := B.returns
  have hbg : ∀ w ∈ sr_big, w.before _ s = true := fun w h => atoms_spec (ws := Cond.code yM_find bM_find 3 (some .int) :: sr_big) B.pre w (List.mem_cons_of_mem _ h)
  have hown : s.vm.findClass RM = some m.cls := findClass_of_methodNamed B.named
  have hlocks := B.notSynchronized
  subst hsz
  have hD := hD0.self (sz := s.heap.size)
  generalize hAe : va_A (wM g fA wA nA tA rA dA oA cI cZ F Wd Nm Tg Rc Dt Rt th ce (nI t) sl go gi) s.heap.size = A at *
  have hA : ∀ q : Nat, s.heap.size ≤ q → A q := fun q h => by rw [← hAe]; exact Or.inr h
  have hS : va_S A s.heap s.heap [] := va_S.rf
  have hl := lv_entry ([.ref g, .int x]) (n := 3) (Nat.le_of_ble_eq_true rfl)
  rw [lg_entry_eq]
  generalize (lg_sl ([.ref g, .int x]) ++ List.replicate (3 - (lg_sl ([.ref g, .int x])).length) Slot.unset).toArray = ls at hl ⊢
  have hl : lv_has ls 3 [(0, .ref g), (1, .int x)] := hl
  refine lv_aload_n hx hb dM_find_0 rfl (lv_at hl 0 rfl) ?_
  refine lv_iconst (v := 0) hx hb dM_find_1 (by decide) ?_
  refine va_put (D := D) (ci := 1) (v := .int 0) (ty := .int) (C := RM) (T := TM) (N := 13) hx hb hbg bg_M tM tM_ok nM hown hK hP hD hS 0 rfl rfl 0 (by decide) (hbg _ bw_309) (fun _ h9 => h9) rfl (by decide +kernel) rfl rfl (Nat.le_of_ble_eq_true rfl) dM_find_2 (fun H locs hP hD hS => ?_)
  have hP : va_P D vwC (wM g fA wA nA tA rA dA oA cI cZ F Wd Nm Tg Rc Dt Rt 0 ce (nI t) sl go gi) H := hP
  have hD : va_D A (wM g fA wA nA tA rA dA oA cI cZ F Wd Nm Tg Rc Dt Rt 0 ce (nI t) sl go gi) := hD
  refine lv_iconst (v := 1) hx hb dM_find_5 (by decide) ?_
  refine lv_istore_n (lv' := [(2, .int 1), (0, .ref g), (1, .int x)]) hx hb dM_find_6 rfl hl (by decide) rfl (fun ls hl => ?_)
  refine lp_M_find hx hb hml hown hbg hK hA h5 hx0 hx1 us 1 _ _ _ hst hP hD hS (lv_sub hl [1, 2, 0] rfl) ?_ ?_
  · intro a' H locs ls hc hP hD hS hl
    refine lv_iconst (v := 0) hx hb dM_find_52 (by decide) ?_
    refine W.widen (k := 0) (n := 0) (Nat.le_of_ble_eq_true rfl) (Nat.le_of_ble_eq_true rfl) ?_
    exact W.iret (v := 0) hx hb hr (fun t9 ht hW => ⟨⟨0, (), rfl, hc.symm, by rw [ht]; exact hP, va_K.moved hW.alike hK, hD⟩, hS.F ht⟩) hS.2.2 dM_find_53
  · intro a' H locs ls hc hP hD hS hl
    refine lv_iload_n hx hb dM_find_39 rfl (lv_at hl 2 rfl) ?_
    refine W.widen (k := 0) (n := 0) (Nat.le_of_ble_eq_true rfl) (Nat.le_of_ble_eq_true rfl) ?_
    exact W.iret (v := a') hx hb hr (fun t9 ht hW => ⟨⟨a', (), rfl, hc.symm, by rw [ht]; exact hP, va_K.moved hW.alike hK, hD⟩, hS.F ht⟩) hS.2.2 dM_find_40

set_option maxHeartbeats 4000000 in
set_option maxRecDepth 100000 in
theorem ct_M_find_b (l : Launch) (D : va_G) (g fA wA nA tA rA dA oA : Nat) (cI cZ : ClassId) (F Wd Nm Tg Rc Dt Rt : Nat → Int32) (th ce tp sl go gi : Int32) (sz : Nat) (x : Int32) (hg : x < 0 ∨ gi ≤ x) : sy_Mi l yM_find (Cond.code yM_find bM_find 3 (some .int) :: sr_big) { frames := 1, cells := 0, slots := 0, locals := 21 } D vwC [(cI, .int), (cZ, .boolean)] [.ref g, .int x] (wM g fA wA nA tA rA dA oA cI cZ F Wd Nm Tg Rc Dt Rt th ce tp sl go gi) sz 0 (wM g fA wA nA tA rA dA oA cI cZ F Wd Nm Tg Rc Dt Rt 0 ce tp sl go gi) 0 0 := by
  refine Met.ofW (cc := bM_find) (maxL := 3) (ret := (some .int)) (by decide) rfl ?_
  intro p e s m args below meth c s₁ B hml hv
  obtain ⟨rfl, hsz, hP, hK, hD0⟩ := hv
  have hx := B.exec
  have hb := B.bytes
  have hr := B.returns
  have hbg : ∀ w ∈ sr_big, w.before _ s = true := fun w h => atoms_spec (ws := Cond.code yM_find bM_find 3 (some .int) :: sr_big) B.pre w (List.mem_cons_of_mem _ h)
  have hown : s.vm.findClass RM = some m.cls := findClass_of_methodNamed B.named
  have hlocks := B.notSynchronized
  subst hsz
  have hD := hD0.self (sz := s.heap.size)
  generalize hAe : va_A (wM g fA wA nA tA rA dA oA cI cZ F Wd Nm Tg Rc Dt Rt th ce tp sl go gi) s.heap.size = A at *
  have hA : ∀ q : Nat, s.heap.size ≤ q → A q := fun q h => by rw [← hAe]; exact Or.inr h
  have hS : va_S A s.heap s.heap [] := va_S.rf
  have hl := lv_entry ([.ref g, .int x]) (n := 3) (Nat.le_of_ble_eq_true rfl)
  rw [lg_entry_eq]
  generalize (lg_sl ([.ref g, .int x]) ++ List.replicate (3 - (lg_sl ([.ref g, .int x])).length) Slot.unset).toArray = ls at hl ⊢
  have hl : lv_has ls 3 [(0, .ref g), (1, .int x)] := hl
  refine lv_aload_n hx hb dM_find_0 rfl (lv_at hl 0 rfl) ?_
  refine lv_iconst (v := 0) hx hb dM_find_1 (by decide) ?_
  refine va_put (D := D) (ci := 1) (v := .int 0) (ty := .int) (C := RM) (T := TM) (N := 13) hx hb hbg bg_M tM tM_ok nM hown hK hP hD hS 0 rfl rfl 0 (by decide) (hbg _ bw_309) (fun _ h9 => h9) rfl (by decide +kernel) rfl rfl (Nat.le_of_ble_eq_true rfl) dM_find_2 (fun H locs hP hD hS => ?_)
  have hP : va_P D vwC (wM g fA wA nA tA rA dA oA cI cZ F Wd Nm Tg Rc Dt Rt 0 ce tp sl go gi) H := hP
  have hD : va_D A (wM g fA wA nA tA rA dA oA cI cZ F Wd Nm Tg Rc Dt Rt 0 ce tp sl go gi) := hD
  refine lv_iconst (v := 1) hx hb dM_find_5 (by decide) ?_
  refine lv_istore_n (lv' := [(2, .int 1), (0, .ref g), (1, .int x)]) hx hb dM_find_6 rfl hl (by decide) rfl (fun ls hl => ?_)
  refine lv_iload_n hx hb dM_find_7 rfl (lv_at hl 0 rfl) ?_
  refine lv_aload_n hx hb dM_find_8 rfl (lv_at hl 1 rfl) ?_
  refine va_get (D := D) (ci := 1) (v := .int tp) (C := RM) (T := TM) (N := 13) hx hb hbg bg_M hown hK hP 0 rfl rfl 2 (by decide) (hbg _ bw_311) (fun _ h9 => h9) rfl dM_find_9 ?_
  refine lv_icmp_ge (tgt := 52) hx hb dM_find_12 (by decide) (fun c_12 => ?_) (fun c_12 => ?_)
  · refine lv_iconst (v := 0) hx hb dM_find_52 (by decide) ?_
    refine W.widen (k := 0) (n := 0) (Nat.le_of_ble_eq_true rfl) (Nat.le_of_ble_eq_true rfl) ?_
    exact W.iret (v := 0) hx hb hr (fun t9 ht hW => ⟨⟨0, (), rfl, rfl, by rw [ht]; exact hP, va_K.moved hW.alike hK, hD⟩, hS.F ht⟩) hS.2.2 dM_find_53
  · refine lv_iload_n hx hb dM_find_15 rfl (lv_at hl 2 rfl) ?_
    refine lv_if_lt (tgt := 52) hx hb dM_find_16 (by decide) (fun c_16 => ?_) (fun c_16 => ?_)
    · refine lv_iconst (v := 0) hx hb dM_find_52 (by decide) ?_
      refine W.widen (k := 0) (n := 0) (Nat.le_of_ble_eq_true rfl) (Nat.le_of_ble_eq_true rfl) ?_
      exact W.iret (v := 0) hx hb hr (fun t9 ht hW => ⟨⟨0, (), rfl, rfl, by rw [ht]; exact hP, va_K.moved hW.alike hK, hD⟩, hS.F ht⟩) hS.2.2 dM_find_53
    · refine lv_iload_n hx hb dM_find_19 rfl (lv_at hl 2 rfl) ?_
      refine lv_aload_n hx hb dM_find_20 rfl (lv_at hl 1 rfl) ?_
      refine va_get (D := D) (ci := 1) (v := .int gi) (C := RM) (T := TM) (N := 13) hx hb hbg bg_M hown hK hP 0 rfl rfl 12 (by decide) (hbg _ bw_321) (fun _ h9 => h9) rfl dM_find_21 ?_
      refine lv_icmp_ge (tgt := 52) hx hb dM_find_24 (by decide) (fun _ => ?_) (fun z => absurd (hg.resolve_left c_16) z)
      refine lv_iconst (v := 0) hx hb dM_find_52 (by decide) ?_
      refine W.widen (k := 0) (n := 0) (Nat.le_of_ble_eq_true rfl) (Nat.le_of_ble_eq_true rfl) ?_
      exact W.iret (v := 0) hx hb hr (fun t9 ht hW => ⟨⟨0, (), rfl, rfl, by rw [ht]; exact hP, va_K.moved hW.alike hK, hD⟩, hS.F ht⟩) hS.2.2 dM_find_53

set_option maxHeartbeats 4000000 in
set_option maxRecDepth 100000 in
theorem lp_M_spaceA {x y tp : Int32} {Tg Rc Rt : Nat → Int32} (hx : p.tables.exec = Jvm.exec) (hb : c.code = bM_space) (hml : c.maxLocals = 4) (hown : s.vm.findClass RM = some m.cls) (hbg : ∀ w ∈ sr_big, w.before args s = true) (hK : va_K D vwC [(cI, .int), (cZ, .boolean)] s) (hA : ∀ q : Nat, s.heap.size ≤ q → A q) :
    ∀ (n j : Nat) (F Wd Nm Dt : Nat → Int32) (H : Heap) (locs : List Loc) (ls : Array Slot), j + n = 16386 → va_P D vwC (wM g fA wA nA tA rA dA oA cI cZ F Wd Nm Tg Rc Dt Rt th ce tp sl go gi) H → va_D A (wM g fA wA nA tA rA dA oA cI cZ F Wd Nm Tg Rc Dt Rt th ce tp sl go gi) → va_S A s.heap H locs → lv_has ls 4 [(0, .ref g), (1, .int x), (2, .int y), (3, .int (nI j))] →
      (∀ (i' : Int32) (H : Heap) (locs : List Loc) (ls : Array Slot), va_P D vwC (wM g fA wA nA tA rA dA oA cI cZ (sr_fl 0 n j F) (sr_fl 0 n j Wd) (sr_fl 0 n j Nm) Tg Rc (sr_fl 0 n j Dt) Rt th ce tp sl go gi) H → va_D A (wM g fA wA nA tA rA dA oA cI cZ (sr_fl 0 n j F) (sr_fl 0 n j Wd) (sr_fl 0 n j Nm) Tg Rc (sr_fl 0 n j Dt) Rt th ce tp sl go gi) → va_S A s.heap H locs → lv_has ls 4 [(0, .ref g), (1, .int x), (2, .int y), (3, .int i')] → W p l e { frames := 1, cells := 0, slots := 0, locals := 21 } s m args below meth c H locs 0 0 Q (F0 m 85 ls [])) →
      W p l e { frames := 1, cells := 0, slots := 0, locals := 21 } s m args below meth c H locs 0 0 Q (F0 m 44 ls []) := by
  intro n
  induction n with
  | zero =>
    intro j F Wd Nm Dt H locs ls hst hP hD hS hl kk
    refine lv_iload_n hx hb dM_space_44 rfl (lv_at hl 3 rfl) ?_
    refine lv_sipush (v := 16386) hx hb dM_space_45 (by decide) ?_
    refine lv_icmp_ge (tgt := 85) hx hb dM_space_48 (by decide) (fun _ => ?_) (fun z => absurd (nI_le (a := 16386) (by omega) (by omega)) z)
    exact kk (nI j) _ _ _ hP hD hS (lv_sub hl [0, 1, 2, 3] rfl)
  | succ n ih =>
    intro j F Wd Nm Dt H locs ls hst hP hD hS hl kk
    refine lv_iload_n hx hb dM_space_44 rfl (lv_at hl 3 rfl) ?_
    refine lv_sipush (v := 16386) hx hb dM_space_45 (by decide) ?_
    refine lv_icmp_ge (tgt := 85) hx hb dM_space_48 (by decide) (fun z => absurd z (nI_ge (b := 16386) (by omega) (by omega))) (fun _ => ?_)
    refine lv_aload_n hx hb dM_space_51 rfl (lv_at hl 0 rfl) ?_
    refine va_get (D := D) (ci := 1) (v := .ref fA) (C := RM) (T := TM) (N := 13) hx hb hbg bg_M hown hK hP 0 rfl rfl 3 (by decide) (hbg _ bw_312) (fun _ h9 => h9) rfl dM_space_52 ?_
    refine lv_iload_n hx hb dM_space_55 rfl (lv_at hl 3 rfl) ?_
    refine lv_iconst (v := 0) hx hb dM_space_56 (by decide) ?_
    refine sy_iast (j := j) hx hb hK hP hD hS 1 0 rfl rfl (by omega) (by omega) dM_space_57 (fun H locs hP hD hS => ?_)
    have hP : va_P D vwC (wM g fA wA nA tA rA dA oA cI cZ (upd F j 0) Wd Nm Tg Rc Dt Rt th ce tp sl go gi) H := hP
    have hD : va_D A (wM g fA wA nA tA rA dA oA cI cZ (upd F j 0) Wd Nm Tg Rc Dt Rt th ce tp sl go gi) := hD
    refine lv_aload_n hx hb dM_space_58 rfl (lv_at hl 0 rfl) ?_
    refine va_get (D := D) (ci := 1) (v := .ref wA) (C := RM) (T := TM) (N := 13) hx hb hbg bg_M hown hK hP 0 rfl rfl 4 (by decide) (hbg _ bw_313) (fun _ h9 => h9) rfl dM_space_59 ?_
    refine lv_iload_n hx hb dM_space_62 rfl (lv_at hl 3 rfl) ?_
    refine lv_iconst (v := 0) hx hb dM_space_63 (by decide) ?_
    refine sy_iast (j := j) hx hb hK hP hD hS 2 0 rfl rfl (by omega) (by omega) dM_space_64 (fun H locs hP hD hS => ?_)
    have hP : va_P D vwC (wM g fA wA nA tA rA dA oA cI cZ (upd F j 0) (upd Wd j 0) Nm Tg Rc Dt Rt th ce tp sl go gi) H := hP
    have hD : va_D A (wM g fA wA nA tA rA dA oA cI cZ (upd F j 0) (upd Wd j 0) Nm Tg Rc Dt Rt th ce tp sl go gi) := hD
    refine lv_aload_n hx hb dM_space_65 rfl (lv_at hl 0 rfl) ?_
    refine va_get (D := D) (ci := 1) (v := .ref nA) (C := RM) (T := TM) (N := 13) hx hb hbg bg_M hown hK hP 0 rfl rfl 5 (by decide) (hbg _ bw_314) (fun _ h9 => h9) rfl dM_space_66 ?_
    refine lv_iload_n hx hb dM_space_69 rfl (lv_at hl 3 rfl) ?_
    refine lv_iconst (v := 0) hx hb dM_space_70 (by decide) ?_
    refine sy_iast (j := j) hx hb hK hP hD hS 3 0 rfl rfl (by omega) (by omega) dM_space_71 (fun H locs hP hD hS => ?_)
    have hP : va_P D vwC (wM g fA wA nA tA rA dA oA cI cZ (upd F j 0) (upd Wd j 0) (upd Nm j 0) Tg Rc Dt Rt th ce tp sl go gi) H := hP
    have hD : va_D A (wM g fA wA nA tA rA dA oA cI cZ (upd F j 0) (upd Wd j 0) (upd Nm j 0) Tg Rc Dt Rt th ce tp sl go gi) := hD
    refine lv_aload_n hx hb dM_space_72 rfl (lv_at hl 0 rfl) ?_
    refine va_get (D := D) (ci := 1) (v := .ref dA) (C := RM) (T := TM) (N := 13) hx hb hbg bg_M hown hK hP 0 rfl rfl 8 (by decide) (hbg _ bw_317) (fun _ h9 => h9) rfl dM_space_73 ?_
    refine lv_iload_n hx hb dM_space_76 rfl (lv_at hl 3 rfl) ?_
    refine lv_iconst (v := 0) hx hb dM_space_77 (by decide) ?_
    refine sy_iast (j := j) hx hb hK hP hD hS 6 0 rfl rfl (by omega) (by omega) dM_space_78 (fun H locs hP hD hS => ?_)
    have hP : va_P D vwC (wM g fA wA nA tA rA dA oA cI cZ (upd F j 0) (upd Wd j 0) (upd Nm j 0) Tg Rc (upd Dt j 0) Rt th ce tp sl go gi) H := hP
    have hD : va_D A (wM g fA wA nA tA rA dA oA cI cZ (upd F j 0) (upd Wd j 0) (upd Nm j 0) Tg Rc (upd Dt j 0) Rt th ce tp sl go gi) := hD
    refine lv_iinc (v := nI (j + 1)) (lv' := [(3, .int (nI (j + 1))), (0, .ref g), (1, .int x), (2, .int y)]) hx hb dM_space_79 hl (k := 3) rfl (nI_1 j) (by decide) rfl (fun ls hl => ?_)
    refine lv_goto (tgt := 44) hx hb dM_space_82 (by decide) ?_
    exact ih (j + 1) (upd F j 0) (upd Wd j 0) (upd Nm j 0) (upd Dt j 0) _ _ _ (by omega) hP hD hS (lv_sub hl [1, 2, 3, 0] rfl) kk

set_option maxHeartbeats 4000000 in
set_option maxRecDepth 100000 in
theorem lp_M_spaceB {x y tp : Int32} {F Wd Nm Tg Rc Dt : Nat → Int32} (hx : p.tables.exec = Jvm.exec) (hb : c.code = bM_space) (hml : c.maxLocals = 4) (hown : s.vm.findClass RM = some m.cls) (hbg : ∀ w ∈ sr_big, w.before args s = true) (hK : va_K D vwC [(cI, .int), (cZ, .boolean)] s) (hA : ∀ q : Nat, s.heap.size ≤ q → A q) :
    ∀ (n j : Nat) (Rt : Nat → Int32) (H : Heap) (locs : List Loc) (ls : Array Slot), j + n = 16 → va_P D vwC (wM g fA wA nA tA rA dA oA cI cZ F Wd Nm Tg Rc Dt Rt th ce tp sl go gi) H → va_D A (wM g fA wA nA tA rA dA oA cI cZ F Wd Nm Tg Rc Dt Rt th ce tp sl go gi) → va_S A s.heap H locs → lv_has ls 4 [(0, .ref g), (1, .int x), (2, .int y), (3, .int (nI j))] →
      (∀ (i' : Int32) (H : Heap) (locs : List Loc) (ls : Array Slot), va_P D vwC (wM g fA wA nA tA rA dA oA cI cZ F Wd Nm Tg Rc Dt (sr_fl 0 n j Rt) th ce tp sl go gi) H → va_D A (wM g fA wA nA tA rA dA oA cI cZ F Wd Nm Tg Rc Dt (sr_fl 0 n j Rt) th ce tp sl go gi) → va_S A s.heap H locs → lv_has ls 4 [(0, .ref g), (1, .int x), (2, .int y), (3, .int i')] → W p l e { frames := 1, cells := 0, slots := 0, locals := 21 } s m args below meth c H locs 0 0 Q (F0 m 106 ls [])) →
      W p l e { frames := 1, cells := 0, slots := 0, locals := 21 } s m args below meth c H locs 0 0 Q (F0 m 87 ls []) := by
  intro n
  induction n with
  | zero =>
    intro j Rt H locs ls hst hP hD hS hl kk
    refine lv_iload_n hx hb dM_space_87 rfl (lv_at hl 3 rfl) ?_
    refine lv_bipush (v := 16) hx hb dM_space_88 (by decide) ?_
    refine lv_icmp_ge (tgt := 106) hx hb dM_space_90 (by decide) (fun _ => ?_) (fun z => absurd (nI_le (a := 16) (by omega) (by omega)) z)
    exact kk (nI j) _ _ _ hP hD hS (lv_sub hl [0, 1, 2, 3] rfl)
  | succ n ih =>
    intro j Rt H locs ls hst hP hD hS hl kk
    refine lv_iload_n hx hb dM_space_87 rfl (lv_at hl 3 rfl) ?_
    refine lv_bipush (v := 16) hx hb dM_space_88 (by decide) ?_
    refine lv_icmp_ge (tgt := 106) hx hb dM_space_90 (by decide) (fun z => absurd z (nI_ge (b := 16) (by omega) (by omega))) (fun _ => ?_)
    refine lv_aload_n hx hb dM_space_93 rfl (lv_at hl 0 rfl) ?_
    refine va_get (D := D) (ci := 1) (v := .ref oA) (C := RM) (T := TM) (N := 13) hx hb hbg bg_M hown hK hP 0 rfl rfl 9 (by decide) (hbg _ bw_318) (fun _ h9 => h9) rfl dM_space_94 ?_
    refine lv_iload_n hx hb dM_space_97 rfl (lv_at hl 3 rfl) ?_
    refine lv_iconst (v := 0) hx hb dM_space_98 (by decide) ?_
    refine sy_iast (j := j) hx hb hK hP hD hS 7 0 rfl rfl (by omega) (by omega) dM_space_99 (fun H locs hP hD hS => ?_)
    have hP : va_P D vwC (wM g fA wA nA tA rA dA oA cI cZ F Wd Nm Tg Rc Dt (upd Rt j 0) th ce tp sl go gi) H := hP
    have hD : va_D A (wM g fA wA nA tA rA dA oA cI cZ F Wd Nm Tg Rc Dt (upd Rt j 0) th ce tp sl go gi) := hD
    refine lv_iinc (v := nI (j + 1)) (lv' := [(3, .int (nI (j + 1))), (0, .ref g), (1, .int x), (2, .int y)]) hx hb dM_space_100 hl (k := 3) rfl (nI_1 j) (by decide) rfl (fun ls hl => ?_)
    refine lv_goto (tgt := 87) hx hb dM_space_103 (by decide) ?_
    exact ih (j + 1) (upd Rt j 0) _ _ _ (by omega) hP hD hS (lv_sub hl [1, 2, 3, 0] rfl) kk

set_option maxHeartbeats 4000000 in
set_option maxRecDepth 100000 in
theorem ct_M_space_k (l : Launch) (D : va_G) (g fA wA nA tA rA dA oA : Nat) (cI cZ : ClassId) (F Wd Nm Tg Rc Dt Rt : Nat → Int32) (th ce tp sl go gi : Int32) (sz : Nat) (x : Int32) (h1 : ¬ x < 16) (h2 : ¬ 16384 < x) : sy_Mi l yM_space (Cond.code yM_space bM_space 4 (some .int) :: sr_big) { frames := 1, cells := 0, slots := 0, locals := 21 } D vwC [(cI, .int), (cZ, .boolean)] [.ref g, .int x] (wM g fA wA nA tA rA dA oA cI cZ F Wd Nm Tg Rc Dt Rt th ce tp sl go gi) sz ce (wM g fA wA nA tA rA dA oA cI cZ (sr_fl 0 16386 0 F) (sr_fl 0 16386 0 Wd) (sr_fl 0 16386 0 Nm) Tg Rc (sr_fl 0 16386 0 Dt) (sr_fl 0 16 0 Rt) 0 x 1 0 0 0) 0 0 := by
  refine Met.ofW (cc := bM_space) (maxL := 4) (ret := (some .int)) (by decide) rfl ?_
  intro p e s m args below meth c s₁ B hml hv
  obtain ⟨rfl, hsz, hP, hK, hD0⟩ := hv
  have hx := B.exec
  have hb := B.bytes
  have hr := B.returns
  have hbg : ∀ w ∈ sr_big, w.before _ s = true := fun w h => atoms_spec (ws := Cond.code yM_space bM_space 4 (some .int) :: sr_big) B.pre w (List.mem_cons_of_mem _ h)
  have hown : s.vm.findClass RM = some m.cls := findClass_of_methodNamed B.named
  have hlocks := B.notSynchronized
  subst hsz
  have hD := hD0.self (sz := s.heap.size)
  generalize hAe : va_A (wM g fA wA nA tA rA dA oA cI cZ F Wd Nm Tg Rc Dt Rt th ce tp sl go gi) s.heap.size = A at *
  have hA : ∀ q : Nat, s.heap.size ≤ q → A q := fun q h => by rw [← hAe]; exact Or.inr h
  have hS : va_S A s.heap s.heap [] := va_S.rf
  have hl := lv_entry ([.ref g, .int x]) (n := 4) (Nat.le_of_ble_eq_true rfl)
  rw [lg_entry_eq]
  generalize (lg_sl ([.ref g, .int x]) ++ List.replicate (4 - (lg_sl ([.ref g, .int x])).length) Slot.unset).toArray = ls at hl ⊢
  have hl : lv_has ls 4 [(0, .ref g), (1, .int x)] := hl
  refine lv_aload_n hx hb dM_space_0 rfl (lv_at hl 0 rfl) ?_
  refine lv_iload_n hx hb dM_space_1 rfl (lv_at hl 1 rfl) ?_
  refine lv_bipush (v := 16) hx hb dM_space_2 (by decide) ?_
  refine lv_icmp_lt (tgt := 18) hx hb dM_space_4 (by decide) (fun z => absurd z h1) (fun _ => ?_)
  refine lv_iload_n hx hb dM_space_7 rfl (lv_at hl 1 rfl) ?_
  refine lv_sipush (v := 16384) hx hb dM_space_8 (by decide) ?_
  refine lv_icmp_gt (tgt := 18) hx hb dM_space_11 (by decide) (fun z => absurd z h2) (fun _ => ?_)
  refine lv_iconst (v := 1) hx hb dM_space_14 (by decide) ?_
  refine lv_goto (tgt := 19) hx hb dM_space_15 (by decide) ?_
  refine sy_cVi (wc := wM g fA wA nA tA rA dA oA cI cZ F Wd Nm Tg Rc Dt Rt th ce tp sl go gi) (wr := []) (w1 := wM g fA wA nA tA rA dA oA cI cZ F Wd Nm Tg Rc Dt Rt 0 ce tp sl go gi) (ci := 1) (q0 := 0) (As := [.int 1]) (rest := []) ⟨hx, hb, hml, hown, hbg⟩ (ct_M_goes_k l D g fA wA nA tA rA dA oA cI cZ F Wd Nm Tg Rc Dt Rt th ce tp sl go gi s.heap.size 1 rfl) (cwV 1 hbg (bg_V bw_344 bw_345 bw_25 bw_35 bw_346) rfl rfl rfl (by decide +kernel) ⟨Nat.le_of_ble_eq_true rfl, Nat.le_of_ble_eq_true rfl⟩) hK [0, 1] rfl hP hD hS hA [0, 1, 2, 3, 4, 5, 6, 7] [] rfl rfl rfl rfl (by decide) rfl rfl rfl hl.1 rfl (Nat.le_of_ble_eq_true rfl) dM_space_19 ⟨Nat.le_of_ble_eq_true rfl, Nat.le_of_ble_eq_true rfl⟩ (fun H locs hP hD hS => ?_)
  have hP : va_P D vwC (wM g fA wA nA tA rA dA oA cI cZ F Wd Nm Tg Rc Dt Rt 0 ce tp sl go gi) H := hP
  have hD : va_D A (wM g fA wA nA tA rA dA oA cI cZ F Wd Nm Tg Rc Dt Rt 0 ce tp sl go gi) := hD
  refine lv_if_ne (tgt := 27) hx hb dM_space_22 (by decide) (fun _ => ?_) (fun z => absurd z (by decide))
  refine lv_aload_n hx hb dM_space_27 rfl (lv_at hl 0 rfl) ?_
  refine va_get (D := D) (ci := 1) (v := .int ce) (C := RM) (T := TM) (N := 13) hx hb hbg bg_M hown hK hP 0 rfl rfl 1 (by decide) (hbg _ bw_310) (fun _ h9 => h9) rfl dM_space_28 ?_
  refine lv_istore_n (lv' := [(2, .int ce), (0, .ref g), (1, .int x)]) hx hb dM_space_31 rfl hl (by decide) rfl (fun ls hl => ?_)
  refine lv_aload_n hx hb dM_space_32 rfl (lv_at hl 1 rfl) ?_
  refine lv_iload_n hx hb dM_space_33 rfl (lv_at hl 2 rfl) ?_
  refine va_put (D := D) (ci := 1) (v := .int x) (ty := .int) (C := RM) (T := TM) (N := 13) hx hb hbg bg_M tM tM_ok nM hown hK hP hD hS 0 rfl rfl 1 (by decide) (hbg _ bw_310) (fun _ h9 => h9) rfl (by decide +kernel) rfl rfl (Nat.le_of_ble_eq_true rfl) dM_space_34 (fun H locs hP hD hS => ?_)
  have hP : va_P D vwC (wM g fA wA nA tA rA dA oA cI cZ F Wd Nm Tg Rc Dt Rt 0 x tp sl go gi) H := hP
  have hD : va_D A (wM g fA wA nA tA rA dA oA cI cZ F Wd Nm Tg Rc Dt Rt 0 x tp sl go gi) := hD
  refine lv_aload_n hx hb dM_space_37 rfl (lv_at hl 1 rfl) ?_
  refine lv_iconst (v := 1) hx hb dM_space_38 (by decide) ?_
  refine va_put (D := D) (ci := 1) (v := .int 1) (ty := .int) (C := RM) (T := TM) (N := 13) hx hb hbg bg_M tM tM_ok nM hown hK hP hD hS 0 rfl rfl 2 (by decide) (hbg _ bw_311) (fun _ h9 => h9) rfl (by decide +kernel) rfl rfl (Nat.le_of_ble_eq_true rfl) dM_space_39 (fun H locs hP hD hS => ?_)
  have hP : va_P D vwC (wM g fA wA nA tA rA dA oA cI cZ F Wd Nm Tg Rc Dt Rt 0 x 1 sl go gi) H := hP
  have hD : va_D A (wM g fA wA nA tA rA dA oA cI cZ F Wd Nm Tg Rc Dt Rt 0 x 1 sl go gi) := hD
  refine lv_iconst (v := 0) hx hb dM_space_42 (by decide) ?_
  refine lv_istore_n (lv' := [(3, .int 0), (2, .int ce), (0, .ref g), (1, .int x)]) hx hb dM_space_43 rfl hl (by decide) rfl (fun ls hl => ?_)
  refine lp_M_spaceA hx hb hml hown hbg hK hA  16386 0 F Wd Nm Dt _ _ _ (by simp) hP hD hS (lv_sub hl [2, 3, 1, 0] rfl) ?_
  intro i' H locs ls hP hD hS hl
  refine lv_iconst (v := 0) hx hb dM_space_85 (by decide) ?_
  refine lv_istore_n (lv' := [(3, .int 0), (0, .ref g), (1, .int x), (2, .int ce)]) hx hb dM_space_86 rfl hl (by decide) rfl (fun ls hl => ?_)
  refine lp_M_spaceB hx hb hml hown hbg hK hA  16 0 Rt _ _ _ (by simp) hP hD hS (lv_sub hl [1, 2, 3, 0] rfl) ?_
  intro i' H locs ls hP hD hS hl
  refine lv_aload_n hx hb dM_space_106 rfl (lv_at hl 0 rfl) ?_
  refine lv_iconst (v := 0) hx hb dM_space_107 (by decide) ?_
  refine va_put (D := D) (ci := 1) (v := .int 0) (ty := .int) (C := RM) (T := TM) (N := 13) hx hb hbg bg_M tM tM_ok nM hown hK hP hD hS 0 rfl rfl 10 (by decide) (hbg _ bw_319) (fun _ h9 => h9) rfl (by decide +kernel) rfl rfl (Nat.le_of_ble_eq_true rfl) dM_space_108 (fun H locs hP hD hS => ?_)
  have hP : va_P D vwC (wM g fA wA nA tA rA dA oA cI cZ (sr_fl 0 16386 0 F) (sr_fl 0 16386 0 Wd) (sr_fl 0 16386 0 Nm) Tg Rc (sr_fl 0 16386 0 Dt) (sr_fl 0 16 0 Rt) 0 x 1 0 go gi) H := hP
  have hD : va_D A (wM g fA wA nA tA rA dA oA cI cZ (sr_fl 0 16386 0 F) (sr_fl 0 16386 0 Wd) (sr_fl 0 16386 0 Nm) Tg Rc (sr_fl 0 16386 0 Dt) (sr_fl 0 16 0 Rt) 0 x 1 0 go gi) := hD
  refine lv_aload_n hx hb dM_space_111 rfl (lv_at hl 0 rfl) ?_
  refine lv_iconst (v := 0) hx hb dM_space_112 (by decide) ?_
  refine va_put (D := D) (ci := 1) (v := .int 0) (ty := .int) (C := RM) (T := TM) (N := 13) hx hb hbg bg_M tM tM_ok nM hown hK hP hD hS 0 rfl rfl 11 (by decide) (hbg _ bw_320) (fun _ h9 => h9) rfl (by decide +kernel) rfl rfl (Nat.le_of_ble_eq_true rfl) dM_space_113 (fun H locs hP hD hS => ?_)
  have hP : va_P D vwC (wM g fA wA nA tA rA dA oA cI cZ (sr_fl 0 16386 0 F) (sr_fl 0 16386 0 Wd) (sr_fl 0 16386 0 Nm) Tg Rc (sr_fl 0 16386 0 Dt) (sr_fl 0 16 0 Rt) 0 x 1 0 0 gi) H := hP
  have hD : va_D A (wM g fA wA nA tA rA dA oA cI cZ (sr_fl 0 16386 0 F) (sr_fl 0 16386 0 Wd) (sr_fl 0 16386 0 Nm) Tg Rc (sr_fl 0 16386 0 Dt) (sr_fl 0 16 0 Rt) 0 x 1 0 0 gi) := hD
  refine lv_aload_n hx hb dM_space_116 rfl (lv_at hl 0 rfl) ?_
  refine lv_iconst (v := 0) hx hb dM_space_117 (by decide) ?_
  refine va_put (D := D) (ci := 1) (v := .int 0) (ty := .int) (C := RM) (T := TM) (N := 13) hx hb hbg bg_M tM tM_ok nM hown hK hP hD hS 0 rfl rfl 12 (by decide) (hbg _ bw_321) (fun _ h9 => h9) rfl (by decide +kernel) rfl rfl (Nat.le_of_ble_eq_true rfl) dM_space_118 (fun H locs hP hD hS => ?_)
  have hP : va_P D vwC (wM g fA wA nA tA rA dA oA cI cZ (sr_fl 0 16386 0 F) (sr_fl 0 16386 0 Wd) (sr_fl 0 16386 0 Nm) Tg Rc (sr_fl 0 16386 0 Dt) (sr_fl 0 16 0 Rt) 0 x 1 0 0 0) H := hP
  have hD : va_D A (wM g fA wA nA tA rA dA oA cI cZ (sr_fl 0 16386 0 F) (sr_fl 0 16386 0 Wd) (sr_fl 0 16386 0 Nm) Tg Rc (sr_fl 0 16386 0 Dt) (sr_fl 0 16 0 Rt) 0 x 1 0 0 0) := hD
  refine lv_iload_n hx hb dM_space_121 rfl (lv_at hl 2 rfl) ?_
  refine W.widen (k := 0) (n := 0) (Nat.le_of_ble_eq_true rfl) (Nat.le_of_ble_eq_true rfl) ?_
  exact W.iret (v := ce) hx hb hr (fun t9 ht hW => ⟨⟨ce, (), rfl, rfl, by rw [ht]; exact hP, va_K.moved hW.alike hK, hD⟩, hS.F ht⟩) hS.2.2 dM_space_122

set_option maxHeartbeats 4000000 in
set_option maxRecDepth 100000 in
theorem ct_M_space_b (l : Launch) (D : va_G) (g fA wA nA tA rA dA oA : Nat) (cI cZ : ClassId) (F Wd Nm Tg Rc Dt Rt : Nat → Int32) (th ce tp sl go gi : Int32) (sz : Nat) (x : Int32) (hg : x < 16 ∨ 16384 < x) : sy_Mi l yM_space (Cond.code yM_space bM_space 4 (some .int) :: sr_big) { frames := 1, cells := 0, slots := 0, locals := 21 } D vwC [(cI, .int), (cZ, .boolean)] [.ref g, .int x] (wM g fA wA nA tA rA dA oA cI cZ F Wd Nm Tg Rc Dt Rt th ce tp sl go gi) sz 0 (wM g fA wA nA tA rA dA oA cI cZ F Wd Nm Tg Rc Dt Rt 1 ce tp sl go gi) 0 0 := by
  refine Met.ofW (cc := bM_space) (maxL := 4) (ret := (some .int)) (by decide) rfl ?_
  intro p e s m args below meth c s₁ B hml hv
  obtain ⟨rfl, hsz, hP, hK, hD0⟩ := hv
  have hx := B.exec
  have hb := B.bytes
  have hr := B.returns
  have hbg : ∀ w ∈ sr_big, w.before _ s = true := fun w h => atoms_spec (ws := Cond.code yM_space bM_space 4 (some .int) :: sr_big) B.pre w (List.mem_cons_of_mem _ h)
  have hown : s.vm.findClass RM = some m.cls := findClass_of_methodNamed B.named
  have hlocks := B.notSynchronized
  subst hsz
  have hD := hD0.self (sz := s.heap.size)
  generalize hAe : va_A (wM g fA wA nA tA rA dA oA cI cZ F Wd Nm Tg Rc Dt Rt th ce tp sl go gi) s.heap.size = A at *
  have hA : ∀ q : Nat, s.heap.size ≤ q → A q := fun q h => by rw [← hAe]; exact Or.inr h
  have hS : va_S A s.heap s.heap [] := va_S.rf
  have hl := lv_entry ([.ref g, .int x]) (n := 4) (Nat.le_of_ble_eq_true rfl)
  rw [lg_entry_eq]
  generalize (lg_sl ([.ref g, .int x]) ++ List.replicate (4 - (lg_sl ([.ref g, .int x])).length) Slot.unset).toArray = ls at hl ⊢
  have hl : lv_has ls 4 [(0, .ref g), (1, .int x)] := hl
  refine lv_aload_n hx hb dM_space_0 rfl (lv_at hl 0 rfl) ?_
  refine lv_iload_n hx hb dM_space_1 rfl (lv_at hl 1 rfl) ?_
  refine lv_bipush (v := 16) hx hb dM_space_2 (by decide) ?_
  refine lv_icmp_lt (tgt := 18) hx hb dM_space_4 (by decide) (fun c_4 => ?_) (fun c_4 => ?_)
  · refine lv_iconst (v := 0) hx hb dM_space_18 (by decide) ?_
    refine sy_cVi (wc := wM g fA wA nA tA rA dA oA cI cZ F Wd Nm Tg Rc Dt Rt th ce tp sl go gi) (wr := []) (w1 := wM g fA wA nA tA rA dA oA cI cZ F Wd Nm Tg Rc Dt Rt 1 ce tp sl go gi) (ci := 1) (q0 := 0) (As := [.int 0]) (rest := []) ⟨hx, hb, hml, hown, hbg⟩ (ct_M_goes_b l D g fA wA nA tA rA dA oA cI cZ F Wd Nm Tg Rc Dt Rt th ce tp sl go gi s.heap.size 0 rfl) (cwV 1 hbg (bg_V bw_344 bw_345 bw_25 bw_35 bw_346) rfl rfl rfl (by decide +kernel) ⟨Nat.le_of_ble_eq_true rfl, Nat.le_of_ble_eq_true rfl⟩) hK [0, 1] rfl hP hD hS hA [0, 1, 2, 3, 4, 5, 6, 7] [] rfl rfl rfl rfl (by decide) rfl rfl rfl hl.1 rfl (Nat.le_of_ble_eq_true rfl) dM_space_19 ⟨Nat.le_of_ble_eq_true rfl, Nat.le_of_ble_eq_true rfl⟩ (fun H locs hP hD hS => ?_)
    have hP : va_P D vwC (wM g fA wA nA tA rA dA oA cI cZ F Wd Nm Tg Rc Dt Rt 1 ce tp sl go gi) H := hP
    have hD : va_D A (wM g fA wA nA tA rA dA oA cI cZ F Wd Nm Tg Rc Dt Rt 1 ce tp sl go gi) := hD
    refine lv_if_ne (tgt := 27) hx hb dM_space_22 (by decide) (fun z => absurd rfl z) (fun _ => ?_)
    refine lv_iconst (v := 0) hx hb dM_space_25 (by decide) ?_
    refine W.widen (k := 0) (n := 0) (Nat.le_of_ble_eq_true rfl) (Nat.le_of_ble_eq_true rfl) ?_
    exact W.iret (v := 0) hx hb hr (fun t9 ht hW => ⟨⟨0, (), rfl, rfl, by rw [ht]; exact hP, va_K.moved hW.alike hK, hD⟩, hS.F ht⟩) hS.2.2 dM_space_26
  · refine lv_iload_n hx hb dM_space_7 rfl (lv_at hl 1 rfl) ?_
    refine lv_sipush (v := 16384) hx hb dM_space_8 (by decide) ?_
    refine lv_icmp_gt (tgt := 18) hx hb dM_space_11 (by decide) (fun _ => ?_) (fun z => absurd (hg.resolve_left c_4) z)
    refine lv_iconst (v := 0) hx hb dM_space_18 (by decide) ?_
    refine sy_cVi (wc := wM g fA wA nA tA rA dA oA cI cZ F Wd Nm Tg Rc Dt Rt th ce tp sl go gi) (wr := []) (w1 := wM g fA wA nA tA rA dA oA cI cZ F Wd Nm Tg Rc Dt Rt 1 ce tp sl go gi) (ci := 1) (q0 := 0) (As := [.int 0]) (rest := []) ⟨hx, hb, hml, hown, hbg⟩ (ct_M_goes_b l D g fA wA nA tA rA dA oA cI cZ F Wd Nm Tg Rc Dt Rt th ce tp sl go gi s.heap.size 0 rfl) (cwV 1 hbg (bg_V bw_344 bw_345 bw_25 bw_35 bw_346) rfl rfl rfl (by decide +kernel) ⟨Nat.le_of_ble_eq_true rfl, Nat.le_of_ble_eq_true rfl⟩) hK [0, 1] rfl hP hD hS hA [0, 1, 2, 3, 4, 5, 6, 7] [] rfl rfl rfl rfl (by decide) rfl rfl rfl hl.1 rfl (Nat.le_of_ble_eq_true rfl) dM_space_19 ⟨Nat.le_of_ble_eq_true rfl, Nat.le_of_ble_eq_true rfl⟩ (fun H locs hP hD hS => ?_)
    have hP : va_P D vwC (wM g fA wA nA tA rA dA oA cI cZ F Wd Nm Tg Rc Dt Rt 1 ce tp sl go gi) H := hP
    have hD : va_D A (wM g fA wA nA tA rA dA oA cI cZ F Wd Nm Tg Rc Dt Rt 1 ce tp sl go gi) := hD
    refine lv_if_ne (tgt := 27) hx hb dM_space_22 (by decide) (fun z => absurd rfl z) (fun _ => ?_)
    refine lv_iconst (v := 0) hx hb dM_space_25 (by decide) ?_
    refine W.widen (k := 0) (n := 0) (Nat.le_of_ble_eq_true rfl) (Nat.le_of_ble_eq_true rfl) ?_
    exact W.iret (v := 0) hx hb hr (fun t9 ht hW => ⟨⟨0, (), rfl, rfl, by rw [ht]; exact hP, va_K.moved hW.alike hK, hD⟩, hS.F ht⟩) hS.2.2 dM_space_26

set_option maxHeartbeats 4000000 in
set_option maxRecDepth 100000 in
theorem lp_M_make {f w tp : Int32} {a k : Nat} {F Wd Nm Tg Rc Rt : Nat → Int32} (hx : p.tables.exec = Jvm.exec) (hb : c.code = bM_make) (hml : c.maxLocals = 6) (hown : s.vm.findClass RM = some m.cls) (hbg : ∀ w ∈ sr_big, w.before args s = true) (hK : va_K D vwC [(cI, .int), (cZ, .boolean)] s) (hA : ∀ q : Nat, s.heap.size ≤ q → A q) (h6 : a + k ≤ 16386) :
    ∀ (n j : Nat) (Dt : Nat → Int32) (H : Heap) (locs : List Loc) (ls : Array Slot), j + n = k → va_P D vwC (wM g fA wA nA tA rA dA oA cI cZ F Wd Nm Tg Rc Dt Rt th ce tp sl go gi) H → va_D A (wM g fA wA nA tA rA dA oA cI cZ F Wd Nm Tg Rc Dt Rt th ce tp sl go gi) → va_S A s.heap H locs → lv_has ls 6 [(0, .ref g), (1, .int f), (2, .int w), (3, .int (nI k)), (4, .int (nI a)), (5, .int (nI j))] →
      (∀ (i' : Int32) (H : Heap) (locs : List Loc) (ls : Array Slot), va_P D vwC (wM g fA wA nA tA rA dA oA cI cZ F Wd Nm Tg Rc (sm_c a n j Dt) Rt th ce tp sl go gi) H → va_D A (wM g fA wA nA tA rA dA oA cI cZ F Wd Nm Tg Rc (sm_c a n j Dt) Rt th ce tp sl go gi) → va_S A s.heap H locs → lv_has ls 6 [(0, .ref g), (1, .int f), (2, .int w), (3, .int (nI k)), (4, .int (nI a)), (5, .int i')] → W p l e { frames := 1, cells := 0, slots := 0, locals := 21 } s m args below meth c H locs 0 0 Q (F0 m 127 ls [])) →
      W p l e { frames := 1, cells := 0, slots := 0, locals := 21 } s m args below meth c H locs 0 0 Q (F0 m 104 ls []) := by
  intro n
  induction n with
  | zero =>
    intro j Dt H locs ls hst hP hD hS hl kk
    refine lv_iload hx hb dM_make_104 (lv_at hl 5 rfl) ?_
    refine lv_iload_n hx hb dM_make_106 rfl (lv_at hl 3 rfl) ?_
    refine lv_icmp_ge (tgt := 127) hx hb dM_make_107 (by decide) (fun _ => ?_) (fun z => absurd (nI_le (by omega) (by omega)) z)
    exact kk (nI j) _ _ _ hP hD hS (lv_sub hl [0, 1, 2, 3, 4, 5] rfl)
  | succ n ih =>
    intro j Dt H locs ls hst hP hD hS hl kk
    refine lv_iload hx hb dM_make_104 (lv_at hl 5 rfl) ?_
    refine lv_iload_n hx hb dM_make_106 rfl (lv_at hl 3 rfl) ?_
    refine lv_icmp_ge (tgt := 127) hx hb dM_make_107 (by decide) (fun z => absurd z (nI_ge (by omega) (by omega))) (fun _ => ?_)
    refine lv_aload_n hx hb dM_make_110 rfl (lv_at hl 0 rfl) ?_
    refine va_get (D := D) (ci := 1) (v := .ref dA) (C := RM) (T := TM) (N := 13) hx hb hbg bg_M hown hK hP 0 rfl rfl 8 (by decide) (hbg _ bw_317) (fun _ h9 => h9) rfl dM_make_111 ?_
    refine lv_iload hx hb dM_make_114 (lv_at hl 4 rfl) ?_
    refine lv_iload hx hb dM_make_116 (lv_at hl 5 rfl) ?_
    refine lv_iadd hx hb dM_make_118 ?_
    rw [show (nI a) + (nI j) = nI (a + j) from nI_add a j]
    refine lv_iconst (v := 0) hx hb dM_make_119 (by decide) ?_
    refine sy_iast (j := (a + j)) hx hb hK hP hD hS 6 0 rfl rfl (by omega) (by omega) dM_make_120 (fun H locs hP hD hS => ?_)
    have hP : va_P D vwC (wM g fA wA nA tA rA dA oA cI cZ F Wd Nm Tg Rc (upd Dt (a + j) 0) Rt th ce tp sl go gi) H := hP
    have hD : va_D A (wM g fA wA nA tA rA dA oA cI cZ F Wd Nm Tg Rc (upd Dt (a + j) 0) Rt th ce tp sl go gi) := hD
    refine lv_iinc (v := nI (j + 1)) (lv' := [(5, .int (nI (j + 1))), (0, .ref g), (1, .int f), (2, .int w), (3, .int (nI k)), (4, .int (nI a))]) hx hb dM_make_121 hl (k := 5) rfl (nI_1 j) (by decide) rfl (fun ls hl => ?_)
    refine lv_goto (tgt := 104) hx hb dM_make_124 (by decide) ?_
    exact ih (j + 1) (upd Dt (a + j) 0) _ _ _ (by omega) hP hD hS (lv_sub hl [1, 2, 3, 4, 5, 0] rfl) kk

set_option maxHeartbeats 4000000 in
set_option maxRecDepth 100000 in
theorem ct_M_make_k1 (l : Launch) (D : va_G) (g fA wA nA tA rA dA oA : Nat) (cI cZ : ClassId) (F Wd Nm Tg Rc Dt Rt : Nat → Int32) (th ce tp sl go gi : Int32) (sz : Nat) (f w : Int32) (h1 : ¬ f < 0) (h2 : ¬ 2000 < f) (h3 : ¬ w < 0) (h4 : ¬ 2000 < w) (h5 : ¬ tp + ((3 : Int32) + f + w) - 1 ≤ ce) : sy_Mi l yM_make (Cond.code yM_make bM_make 6 (some .int) :: sr_big) { frames := 1, cells := 0, slots := 0, locals := 21 } D vwC [(cI, .int), (cZ, .boolean)] [.ref g, .int f, .int w] (wM g fA wA nA tA rA dA oA cI cZ F Wd Nm Tg Rc Dt Rt th ce tp sl go gi) sz 0 (wM g fA wA nA tA rA dA oA cI cZ F Wd Nm Tg Rc Dt Rt 0 ce tp sl go gi) 0 0 := by
  refine Met.ofW (cc := bM_make) (maxL := 6) (ret := (some .int)) (by decide) rfl ?_
  intro p e s m args below meth c s₁ B hml hv
  obtain ⟨rfl, hsz, hP, hK, hD0⟩ := hv
  have hx := B.exec
  have hb := B.bytes
  have hr := B.returns
  have hbg : ∀ w ∈ sr_big, w.before _ s = true := fun w h => atoms_spec (ws := Cond.code yM_make bM_make 6 (some .int) :: sr_big) B.pre w (List.mem_cons_of_mem _ h)
  have hown : s.vm.findClass RM = some m.cls := findClass_of_methodNamed B.named
  have hlocks := B.notSynchronized
  subst hsz
  have hD := hD0.self (sz := s.heap.size)
  generalize hAe : va_A (wM g fA wA nA tA rA dA oA cI cZ F Wd Nm Tg Rc Dt Rt th ce tp sl go gi) s.heap.size = A at *
  have hA : ∀ q : Nat, s.heap.size ≤ q → A q := fun q h => by rw [← hAe]; exact Or.inr h
  have hS : va_S A s.heap s.heap [] := va_S.rf
  have hl := lv_entry ([.ref g, .int f, .int w]) (n := 6) (Nat.le_of_ble_eq_true rfl)
  rw [lg_entry_eq]
  generalize (lg_sl ([.ref g, .int f, .int w]) ++ List.replicate (6 - (lg_sl ([.ref g, .int f, .int w])).length) Slot.unset).toArray = ls at hl ⊢
  have hl : lv_has ls 6 [(0, .ref g), (1, .int f), (2, .int w)] := hl
  refine lv_aload_n hx hb dM_make_0 rfl (lv_at hl 0 rfl) ?_
  refine lv_iload_n hx hb dM_make_1 rfl (lv_at hl 1 rfl) ?_
  refine lv_if_lt (tgt := 27) hx hb dM_make_2 (by decide) (fun z => absurd z h1) (fun _ => ?_)
  refine lv_iload_n hx hb dM_make_5 rfl (lv_at hl 1 rfl) ?_
  refine lv_sipush (v := 2000) hx hb dM_make_6 (by decide) ?_
  refine lv_icmp_gt (tgt := 27) hx hb dM_make_9 (by decide) (fun z => absurd z h2) (fun _ => ?_)
  refine lv_iload_n hx hb dM_make_12 rfl (lv_at hl 2 rfl) ?_
  refine lv_if_lt (tgt := 27) hx hb dM_make_13 (by decide) (fun z => absurd z h3) (fun _ => ?_)
  refine lv_iload_n hx hb dM_make_16 rfl (lv_at hl 2 rfl) ?_
  refine lv_sipush (v := 2000) hx hb dM_make_17 (by decide) ?_
  refine lv_icmp_gt (tgt := 27) hx hb dM_make_20 (by decide) (fun z => absurd z h4) (fun _ => ?_)
  refine lv_iconst (v := 1) hx hb dM_make_23 (by decide) ?_
  refine lv_goto (tgt := 28) hx hb dM_make_24 (by decide) ?_
  refine sy_cVi (wc := wM g fA wA nA tA rA dA oA cI cZ F Wd Nm Tg Rc Dt Rt th ce tp sl go gi) (wr := []) (w1 := wM g fA wA nA tA rA dA oA cI cZ F Wd Nm Tg Rc Dt Rt 0 ce tp sl go gi) (ci := 1) (q0 := 0) (As := [.int 1]) (rest := []) ⟨hx, hb, hml, hown, hbg⟩ (ct_M_goes_k l D g fA wA nA tA rA dA oA cI cZ F Wd Nm Tg Rc Dt Rt th ce tp sl go gi s.heap.size 1 rfl) (cwV 1 hbg (bg_V bw_344 bw_345 bw_25 bw_35 bw_346) rfl rfl rfl (by decide +kernel) ⟨Nat.le_of_ble_eq_true rfl, Nat.le_of_ble_eq_true rfl⟩) hK [0, 1] rfl hP hD hS hA [0, 1, 2, 3, 4, 5, 6, 7] [] rfl rfl rfl rfl (by decide) rfl rfl rfl hl.1 rfl (Nat.le_of_ble_eq_true rfl) dM_make_28 ⟨Nat.le_of_ble_eq_true rfl, Nat.le_of_ble_eq_true rfl⟩ (fun H locs hP hD hS => ?_)
  have hP : va_P D vwC (wM g fA wA nA tA rA dA oA cI cZ F Wd Nm Tg Rc Dt Rt 0 ce tp sl go gi) H := hP
  have hD : va_D A (wM g fA wA nA tA rA dA oA cI cZ F Wd Nm Tg Rc Dt Rt 0 ce tp sl go gi) := hD
  refine lv_if_ne (tgt := 36) hx hb dM_make_31 (by decide) (fun _ => ?_) (fun z => absurd z (by decide))
  refine lv_iconst (v := 3) hx hb dM_make_36 (by decide) ?_
  refine lv_iload_n hx hb dM_make_37 rfl (lv_at hl 1 rfl) ?_
  refine lv_iadd hx hb dM_make_38 ?_
  refine lv_iload_n hx hb dM_make_39 rfl (lv_at hl 2 rfl) ?_
  refine lv_iadd hx hb dM_make_40 ?_
  refine lv_istore_n (lv' := [(3, .int (((3 : Int32) + f) + w)), (0, .ref g), (1, .int f), (2, .int w)]) hx hb dM_make_41 rfl hl (by decide) rfl (fun ls hl => ?_)
  refine lv_aload_n hx hb dM_make_42 rfl (lv_at hl 1 rfl) ?_
  refine va_get (D := D) (ci := 1) (v := .int tp) (C := RM) (T := TM) (N := 13) hx hb hbg bg_M hown hK hP 0 rfl rfl 2 (by decide) (hbg _ bw_311) (fun _ h9 => h9) rfl dM_make_43 ?_
  refine lv_iload_n hx hb dM_make_46 rfl (lv_at hl 0 rfl) ?_
  refine lv_iadd hx hb dM_make_47 ?_
  refine lv_iconst (v := 1) hx hb dM_make_48 (by decide) ?_
  refine lv_isub hx hb dM_make_49 ?_
  refine lv_aload_n hx hb dM_make_50 rfl (lv_at hl 1 rfl) ?_
  refine va_get (D := D) (ci := 1) (v := .int ce) (C := RM) (T := TM) (N := 13) hx hb hbg bg_M hown hK hP 0 rfl rfl 1 (by decide) (hbg _ bw_310) (fun _ h9 => h9) rfl dM_make_51 ?_
  refine lv_icmp_le (tgt := 59) hx hb dM_make_54 (by decide) (fun z => absurd z h5) (fun _ => ?_)
  refine lv_iconst (v := 0) hx hb dM_make_57 (by decide) ?_
  refine W.widen (k := 0) (n := 0) (Nat.le_of_ble_eq_true rfl) (Nat.le_of_ble_eq_true rfl) ?_
  exact W.iret (v := 0) hx hb hr (fun t9 ht hW => ⟨⟨0, (), rfl, rfl, by rw [ht]; exact hP, va_K.moved hW.alike hK, hD⟩, hS.F ht⟩) hS.2.2 dM_make_58

set_option maxHeartbeats 4000000 in
set_option maxRecDepth 100000 in
theorem ct_M_make_k2 (l : Launch) (D : va_G) (g fA wA nA tA rA dA oA : Nat) (cI cZ : ClassId) (F Wd Nm Tg Rc Dt Rt : Nat → Int32) (th ce sl go gi : Int32) (sz : Nat) (f w t : Nat) (hf : f ≤ 2000) (hw : w ≤ 2000) (h6 : t + (3 + f + w) ≤ 16386) (h5 : nI t + nI (3 + f + w) - 1 ≤ ce)  : sy_Mi l yM_make (Cond.code yM_make bM_make 6 (some .int) :: sr_big) { frames := 1, cells := 0, slots := 0, locals := 21 } D vwC [(cI, .int), (cZ, .boolean)] [.ref g, .int (nI f), .int (nI w)] (wM g fA wA nA tA rA dA oA cI cZ F Wd Nm Tg Rc Dt Rt th ce (nI t) sl go gi) sz (nI t) (wM g fA wA nA tA rA dA oA cI cZ (upd F t (nI (f + 1))) (upd Wd t (nI w)) (upd Nm t 0) Tg Rc (sm_c t (3 + f + w) 0 Dt) Rt 0 ce (nI (t + (3 + f + w))) sl go gi) 0 0 := by
  refine Met.ofW (cc := bM_make) (maxL := 6) (ret := (some .int)) (by decide) rfl ?_
  intro p e s m args below meth c s₁ B hml hv
  obtain ⟨rfl, hsz, hP, hK, hD0⟩ := hv
  have hx := B.exec
  have hb := B.bytes
  have hr := B.returns
  have hbg : ∀ w ∈ sr_big, w.before _ s = true := fun w h => atoms_spec (ws := Cond.code yM_make bM_make 6 (some .int) :: sr_big) B.pre w (List.mem_cons_of_mem _ h)
  have hown : s.vm.findClass RM = some m.cls := findClass_of_methodNamed B.named
  have hlocks := B.notSynchronized
  subst hsz
  have hD := hD0.self (sz := s.heap.size)
  generalize hAe : va_A (wM g fA wA nA tA rA dA oA cI cZ F Wd Nm Tg Rc Dt Rt th ce (nI t) sl go gi) s.heap.size = A at *
  have hA : ∀ q : Nat, s.heap.size ≤ q → A q := fun q h => by rw [← hAe]; exact Or.inr h
  have hS : va_S A s.heap s.heap [] := va_S.rf
  have hl := lv_entry ([.ref g, .int (nI f), .int (nI w)]) (n := 6) (Nat.le_of_ble_eq_true rfl)
  rw [lg_entry_eq]
  generalize (lg_sl ([.ref g, .int (nI f), .int (nI w)]) ++ List.replicate (6 - (lg_sl ([.ref g, .int (nI f), .int (nI w)])).length) Slot.unset).toArray = ls at hl ⊢
  have hl : lv_has ls 6 [(0, .ref g), (1, .int (nI f)), (2, .int (nI w))] := hl
  refine lv_aload_n hx hb dM_make_0 rfl (lv_at hl 0 rfl) ?_
  refine lv_iload_n hx hb dM_make_1 rfl (lv_at hl 1 rfl) ?_
  refine lv_if_lt (tgt := 27) hx hb dM_make_2 (by decide) (fun z => absurd z (nI_pos (by omega))) (fun _ => ?_)
  refine lv_iload_n hx hb dM_make_5 rfl (lv_at hl 1 rfl) ?_
  refine lv_sipush (v := 2000) hx hb dM_make_6 (by decide) ?_
  refine lv_icmp_gt (tgt := 27) hx hb dM_make_9 (by decide) (fun z => absurd z (nI_nlt (a := 2000) (by omega) (by omega))) (fun _ => ?_)
  refine lv_iload_n hx hb dM_make_12 rfl (lv_at hl 2 rfl) ?_
  refine lv_if_lt (tgt := 27) hx hb dM_make_13 (by decide) (fun z => absurd z (nI_pos (by omega))) (fun _ => ?_)
  refine lv_iload_n hx hb dM_make_16 rfl (lv_at hl 2 rfl) ?_
  refine lv_sipush (v := 2000) hx hb dM_make_17 (by decide) ?_
  refine lv_icmp_gt (tgt := 27) hx hb dM_make_20 (by decide) (fun z => absurd z (nI_nlt (a := 2000) (by omega) (by omega))) (fun _ => ?_)
  refine lv_iconst (v := 1) hx hb dM_make_23 (by decide) ?_
  refine lv_goto (tgt := 28) hx hb dM_make_24 (by decide) ?_
  refine sy_cVi (wc := wM g fA wA nA tA rA dA oA cI cZ F Wd Nm Tg Rc Dt Rt th ce (nI t) sl go gi) (wr := []) (w1 := wM g fA wA nA tA rA dA oA cI cZ F Wd Nm Tg Rc Dt Rt 0 ce (nI t) sl go gi) (ci := 1) (q0 := 0) (As := [.int 1]) (rest := []) ⟨hx, hb, hml, hown, hbg⟩ (ct_M_goes_k l D g fA wA nA tA rA dA oA cI cZ F Wd Nm Tg Rc Dt Rt th ce (nI t) sl go gi s.heap.size 1 rfl) (cwV 1 hbg (bg_V bw_344 bw_345 bw_25 bw_35 bw_346) rfl rfl rfl (by decide +kernel) ⟨Nat.le_of_ble_eq_true rfl, Nat.le_of_ble_eq_true rfl⟩) hK [0, 1] rfl hP hD hS hA [0, 1, 2, 3, 4, 5, 6, 7] [] rfl rfl rfl rfl (by decide) rfl rfl rfl hl.1 rfl (Nat.le_of_ble_eq_true rfl) dM_make_28 ⟨Nat.le_of_ble_eq_true rfl, Nat.le_of_ble_eq_true rfl⟩ (fun H locs hP hD hS => ?_)
  have hP : va_P D vwC (wM g fA wA nA tA rA dA oA cI cZ F Wd Nm Tg Rc Dt Rt 0 ce (nI t) sl go gi) H := hP
  have hD : va_D A (wM g fA wA nA tA rA dA oA cI cZ F Wd Nm Tg Rc Dt Rt 0 ce (nI t) sl go gi) := hD
  refine lv_if_ne (tgt := 36) hx hb dM_make_31 (by decide) (fun _ => ?_) (fun z => absurd z (by decide))
  refine lv_iconst (v := 3) hx hb dM_make_36 (by decide) ?_
  refine lv_iload_n hx hb dM_make_37 rfl (lv_at hl 1 rfl) ?_
  refine lv_iadd hx hb dM_make_38 ?_
  rw [show (3 : Int32) + (nI f) = nI (3 + f) from nI_add 3 f]
  refine lv_iload_n hx hb dM_make_39 rfl (lv_at hl 2 rfl) ?_
  refine lv_iadd hx hb dM_make_40 ?_
  rw [show (nI (3 + f)) + (nI w) = nI (3 + f + w) from nI_add (3 + f) w]
  refine lv_istore_n (lv' := [(3, .int (nI (3 + f + w))), (0, .ref g), (1, .int (nI f)), (2, .int (nI w))]) hx hb dM_make_41 rfl hl (by decide) rfl (fun ls hl => ?_)
  refine lv_aload_n hx hb dM_make_42 rfl (lv_at hl 1 rfl) ?_
  refine va_get (D := D) (ci := 1) (v := .int (nI t)) (C := RM) (T := TM) (N := 13) hx hb hbg bg_M hown hK hP 0 rfl rfl 2 (by decide) (hbg _ bw_311) (fun _ h9 => h9) rfl dM_make_43 ?_
  refine lv_iload_n hx hb dM_make_46 rfl (lv_at hl 0 rfl) ?_
  refine lv_iadd hx hb dM_make_47 ?_
  refine lv_iconst (v := 1) hx hb dM_make_48 (by decide) ?_
  refine lv_isub hx hb dM_make_49 ?_
  refine lv_aload_n hx hb dM_make_50 rfl (lv_at hl 1 rfl) ?_
  refine va_get (D := D) (ci := 1) (v := .int ce) (C := RM) (T := TM) (N := 13) hx hb hbg bg_M hown hK hP 0 rfl rfl 1 (by decide) (hbg _ bw_310) (fun _ h9 => h9) rfl dM_make_51 ?_
  refine lv_icmp_le (tgt := 59) hx hb dM_make_54 (by decide) (fun _ => ?_) (fun z => absurd h5 z)
  refine lv_aload_n hx hb dM_make_59 rfl (lv_at hl 1 rfl) ?_
  refine va_get (D := D) (ci := 1) (v := .int (nI t)) (C := RM) (T := TM) (N := 13) hx hb hbg bg_M hown hK hP 0 rfl rfl 2 (by decide) (hbg _ bw_311) (fun _ h9 => h9) rfl dM_make_60 ?_
  refine lv_istore (lv' := [(4, .int (nI t)), (3, .int (nI (3 + f + w))), (0, .ref g), (1, .int (nI f)), (2, .int (nI w))]) hx hb dM_make_63 hl (by decide) rfl (fun ls hl => ?_)
  refine lv_aload_n hx hb dM_make_65 rfl (lv_at hl 2 rfl) ?_
  refine lv_aload_n hx hb dM_make_66 rfl (lv_at hl 2 rfl) ?_
  refine va_get (D := D) (ci := 1) (v := .int (nI t)) (C := RM) (T := TM) (N := 13) hx hb hbg bg_M hown hK hP 0 rfl rfl 2 (by decide) (hbg _ bw_311) (fun _ h9 => h9) rfl dM_make_67 ?_
  refine lv_iload_n hx hb dM_make_70 rfl (lv_at hl 1 rfl) ?_
  refine lv_iadd hx hb dM_make_71 ?_
  rw [show (nI t) + (nI (3 + f + w)) = nI (t + (3 + f + w)) from nI_add t (3 + f + w)]
  refine va_put (D := D) (ci := 1) (v := .int (nI (t + (3 + f + w)))) (ty := .int) (C := RM) (T := TM) (N := 13) hx hb hbg bg_M tM tM_ok nM hown hK hP hD hS 0 rfl rfl 2 (by decide) (hbg _ bw_311) (fun _ h9 => h9) rfl (by decide +kernel) rfl rfl (Nat.le_of_ble_eq_true rfl) dM_make_72 (fun H locs hP hD hS => ?_)
  have hP : va_P D vwC (wM g fA wA nA tA rA dA oA cI cZ F Wd Nm Tg Rc Dt Rt 0 ce (nI (t + (3 + f + w))) sl go gi) H := hP
  have hD : va_D A (wM g fA wA nA tA rA dA oA cI cZ F Wd Nm Tg Rc Dt Rt 0 ce (nI (t + (3 + f + w))) sl go gi) := hD
  refine lv_aload_n hx hb dM_make_75 rfl (lv_at hl 2 rfl) ?_
  refine va_get (D := D) (ci := 1) (v := .ref fA) (C := RM) (T := TM) (N := 13) hx hb hbg bg_M hown hK hP 0 rfl rfl 3 (by decide) (hbg _ bw_312) (fun _ h9 => h9) rfl dM_make_76 ?_
  refine lv_iload hx hb dM_make_79 (lv_at hl 0 rfl) ?_
  refine lv_iload_n hx hb dM_make_81 rfl (lv_at hl 3 rfl) ?_
  refine lv_iconst (v := 1) hx hb dM_make_82 (by decide) ?_
  refine lv_iadd hx hb dM_make_83 ?_
  rw [show (nI f) + 1 = nI (f + 1) from nI_1 f]
  refine sy_iast (j := t) hx hb hK hP hD hS 1 0 rfl rfl (by omega) (by omega) dM_make_84 (fun H locs hP hD hS => ?_)
  have hP : va_P D vwC (wM g fA wA nA tA rA dA oA cI cZ (upd F t (nI (f + 1))) Wd Nm Tg Rc Dt Rt 0 ce (nI (t + (3 + f + w))) sl go gi) H := hP
  have hD : va_D A (wM g fA wA nA tA rA dA oA cI cZ (upd F t (nI (f + 1))) Wd Nm Tg Rc Dt Rt 0 ce (nI (t + (3 + f + w))) sl go gi) := hD
  refine lv_aload_n hx hb dM_make_85 rfl (lv_at hl 2 rfl) ?_
  refine va_get (D := D) (ci := 1) (v := .ref wA) (C := RM) (T := TM) (N := 13) hx hb hbg bg_M hown hK hP 0 rfl rfl 4 (by decide) (hbg _ bw_313) (fun _ h9 => h9) rfl dM_make_86 ?_
  refine lv_iload hx hb dM_make_89 (lv_at hl 0 rfl) ?_
  refine lv_iload_n hx hb dM_make_91 rfl (lv_at hl 4 rfl) ?_
  refine sy_iast (j := t) hx hb hK hP hD hS 2 0 rfl rfl (by omega) (by omega) dM_make_92 (fun H locs hP hD hS => ?_)
  have hP : va_P D vwC (wM g fA wA nA tA rA dA oA cI cZ (upd F t (nI (f + 1))) (upd Wd t (nI w)) Nm Tg Rc Dt Rt 0 ce (nI (t + (3 + f + w))) sl go gi) H := hP
  have hD : va_D A (wM g fA wA nA tA rA dA oA cI cZ (upd F t (nI (f + 1))) (upd Wd t (nI w)) Nm Tg Rc Dt Rt 0 ce (nI (t + (3 + f + w))) sl go gi) := hD
  refine lv_aload_n hx hb dM_make_93 rfl (lv_at hl 2 rfl) ?_
  refine va_get (D := D) (ci := 1) (v := .ref nA) (C := RM) (T := TM) (N := 13) hx hb hbg bg_M hown hK hP 0 rfl rfl 5 (by decide) (hbg _ bw_314) (fun _ h9 => h9) rfl dM_make_94 ?_
  refine lv_iload hx hb dM_make_97 (lv_at hl 0 rfl) ?_
  refine lv_iconst (v := 0) hx hb dM_make_99 (by decide) ?_
  refine sy_iast (j := t) hx hb hK hP hD hS 3 0 rfl rfl (by omega) (by omega) dM_make_100 (fun H locs hP hD hS => ?_)
  have hP : va_P D vwC (wM g fA wA nA tA rA dA oA cI cZ (upd F t (nI (f + 1))) (upd Wd t (nI w)) (upd Nm t 0) Tg Rc Dt Rt 0 ce (nI (t + (3 + f + w))) sl go gi) H := hP
  have hD : va_D A (wM g fA wA nA tA rA dA oA cI cZ (upd F t (nI (f + 1))) (upd Wd t (nI w)) (upd Nm t 0) Tg Rc Dt Rt 0 ce (nI (t + (3 + f + w))) sl go gi) := hD
  refine lv_iconst (v := 0) hx hb dM_make_101 (by decide) ?_
  refine lv_istore (lv' := [(5, .int 0), (4, .int (nI t)), (3, .int (nI (3 + f + w))), (0, .ref g), (1, .int (nI f)), (2, .int (nI w))]) hx hb dM_make_102 hl (by decide) rfl (fun ls hl => ?_)
  refine lp_M_make hx hb hml hown hbg hK hA h6 (3 + f + w) 0 Dt _ _ _ (by simp) hP hD hS (lv_sub hl [3, 4, 5, 2, 1, 0] rfl) ?_
  intro i' H locs ls hP hD hS hl
  refine lv_iload hx hb dM_make_127 (lv_at hl 4 rfl) ?_
  refine W.widen (k := 0) (n := 0) (Nat.le_of_ble_eq_true rfl) (Nat.le_of_ble_eq_true rfl) ?_
  exact W.iret (v := nI t) hx hb hr (fun t9 ht hW => ⟨⟨nI t, (), rfl, rfl, by rw [ht]; exact hP, va_K.moved hW.alike hK, hD⟩, hS.F ht⟩) hS.2.2 dM_make_129

set_option maxHeartbeats 4000000 in
set_option maxRecDepth 100000 in
theorem ct_M_make_b (l : Launch) (D : va_G) (g fA wA nA tA rA dA oA : Nat) (cI cZ : ClassId) (F Wd Nm Tg Rc Dt Rt : Nat → Int32) (th ce tp sl go gi : Int32) (sz : Nat) (f w : Int32) (hg : f < 0 ∨ 2000 < f ∨ w < 0 ∨ 2000 < w) : sy_Mi l yM_make (Cond.code yM_make bM_make 6 (some .int) :: sr_big) { frames := 1, cells := 0, slots := 0, locals := 21 } D vwC [(cI, .int), (cZ, .boolean)] [.ref g, .int f, .int w] (wM g fA wA nA tA rA dA oA cI cZ F Wd Nm Tg Rc Dt Rt th ce tp sl go gi) sz 0 (wM g fA wA nA tA rA dA oA cI cZ F Wd Nm Tg Rc Dt Rt 1 ce tp sl go gi) 0 0 := by
  refine Met.ofW (cc := bM_make) (maxL := 6) (ret := (some .int)) (by decide) rfl ?_
  intro p e s m args below meth c s₁ B hml hv
  obtain ⟨rfl, hsz, hP, hK, hD0⟩ := hv
  have hx := B.exec
  have hb := B.bytes
  have hr := B.returns
  have hbg : ∀ w ∈ sr_big, w.before _ s = true := fun w h => atoms_spec (ws := Cond.code yM_make bM_make 6 (some .int) :: sr_big) B.pre w (List.mem_cons_of_mem _ h)
  have hown : s.vm.findClass RM = some m.cls := findClass_of_methodNamed B.named
  have hlocks := B.notSynchronized
  subst hsz
  have hD := hD0.self (sz := s.heap.size)
  generalize hAe : va_A (wM g fA wA nA tA rA dA oA cI cZ F Wd Nm Tg Rc Dt Rt th ce tp sl go gi) s.heap.size = A at *
  have hA : ∀ q : Nat, s.heap.size ≤ q → A q := fun q h => by rw [← hAe]; exact Or.inr h
  have hS : va_S A s.heap s.heap [] := va_S.rf
  have hl := lv_entry ([.ref g, .int f, .int w]) (n := 6) (Nat.le_of_ble_eq_true rfl)
  rw [lg_entry_eq]
  generalize (lg_sl ([.ref g, .int f, .int w]) ++ List.replicate (6 - (lg_sl ([.ref g, .int f, .int w])).length) Slot.unset).toArray = ls at hl ⊢
  have hl : lv_has ls 6 [(0, .ref g), (1, .int f), (2, .int w)] := hl
  refine lv_aload_n hx hb dM_make_0 rfl (lv_at hl 0 rfl) ?_
  refine lv_iload_n hx hb dM_make_1 rfl (lv_at hl 1 rfl) ?_
  refine lv_if_lt (tgt := 27) hx hb dM_make_2 (by decide) (fun c_2 => ?_) (fun c_2 => ?_)
  · refine lv_iconst (v := 0) hx hb dM_make_27 (by decide) ?_
    refine sy_cVi (wc := wM g fA wA nA tA rA dA oA cI cZ F Wd Nm Tg Rc Dt Rt th ce tp sl go gi) (wr := []) (w1 := wM g fA wA nA tA rA dA oA cI cZ F Wd Nm Tg Rc Dt Rt 1 ce tp sl go gi) (ci := 1) (q0 := 0) (As := [.int 0]) (rest := []) ⟨hx, hb, hml, hown, hbg⟩ (ct_M_goes_b l D g fA wA nA tA rA dA oA cI cZ F Wd Nm Tg Rc Dt Rt th ce tp sl go gi s.heap.size 0 rfl) (cwV 1 hbg (bg_V bw_344 bw_345 bw_25 bw_35 bw_346) rfl rfl rfl (by decide +kernel) ⟨Nat.le_of_ble_eq_true rfl, Nat.le_of_ble_eq_true rfl⟩) hK [0, 1] rfl hP hD hS hA [0, 1, 2, 3, 4, 5, 6, 7] [] rfl rfl rfl rfl (by decide) rfl rfl rfl hl.1 rfl (Nat.le_of_ble_eq_true rfl) dM_make_28 ⟨Nat.le_of_ble_eq_true rfl, Nat.le_of_ble_eq_true rfl⟩ (fun H locs hP hD hS => ?_)
    have hP : va_P D vwC (wM g fA wA nA tA rA dA oA cI cZ F Wd Nm Tg Rc Dt Rt 1 ce tp sl go gi) H := hP
    have hD : va_D A (wM g fA wA nA tA rA dA oA cI cZ F Wd Nm Tg Rc Dt Rt 1 ce tp sl go gi) := hD
    refine lv_if_ne (tgt := 36) hx hb dM_make_31 (by decide) (fun z => absurd rfl z) (fun _ => ?_)
    refine lv_iconst (v := 0) hx hb dM_make_34 (by decide) ?_
    refine W.widen (k := 0) (n := 0) (Nat.le_of_ble_eq_true rfl) (Nat.le_of_ble_eq_true rfl) ?_
    exact W.iret (v := 0) hx hb hr (fun t9 ht hW => ⟨⟨0, (), rfl, rfl, by rw [ht]; exact hP, va_K.moved hW.alike hK, hD⟩, hS.F ht⟩) hS.2.2 dM_make_35
  · refine lv_iload_n hx hb dM_make_5 rfl (lv_at hl 1 rfl) ?_
    refine lv_sipush (v := 2000) hx hb dM_make_6 (by decide) ?_
    refine lv_icmp_gt (tgt := 27) hx hb dM_make_9 (by decide) (fun c_9 => ?_) (fun c_9 => ?_)
    · refine lv_iconst (v := 0) hx hb dM_make_27 (by decide) ?_
      refine sy_cVi (wc := wM g fA wA nA tA rA dA oA cI cZ F Wd Nm Tg Rc Dt Rt th ce tp sl go gi) (wr := []) (w1 := wM g fA wA nA tA rA dA oA cI cZ F Wd Nm Tg Rc Dt Rt 1 ce tp sl go gi) (ci := 1) (q0 := 0) (As := [.int 0]) (rest := []) ⟨hx, hb, hml, hown, hbg⟩ (ct_M_goes_b l D g fA wA nA tA rA dA oA cI cZ F Wd Nm Tg Rc Dt Rt th ce tp sl go gi s.heap.size 0 rfl) (cwV 1 hbg (bg_V bw_344 bw_345 bw_25 bw_35 bw_346) rfl rfl rfl (by decide +kernel) ⟨Nat.le_of_ble_eq_true rfl, Nat.le_of_ble_eq_true rfl⟩) hK [0, 1] rfl hP hD hS hA [0, 1, 2, 3, 4, 5, 6, 7] [] rfl rfl rfl rfl (by decide) rfl rfl rfl hl.1 rfl (Nat.le_of_ble_eq_true rfl) dM_make_28 ⟨Nat.le_of_ble_eq_true rfl, Nat.le_of_ble_eq_true rfl⟩ (fun H locs hP hD hS => ?_)
      have hP : va_P D vwC (wM g fA wA nA tA rA dA oA cI cZ F Wd Nm Tg Rc Dt Rt 1 ce tp sl go gi) H := hP
      have hD : va_D A (wM g fA wA nA tA rA dA oA cI cZ F Wd Nm Tg Rc Dt Rt 1 ce tp sl go gi) := hD
      refine lv_if_ne (tgt := 36) hx hb dM_make_31 (by decide) (fun z => absurd rfl z) (fun _ => ?_)
      refine lv_iconst (v := 0) hx hb dM_make_34 (by decide) ?_
      refine W.widen (k := 0) (n := 0) (Nat.le_of_ble_eq_true rfl) (Nat.le_of_ble_eq_true rfl) ?_
      exact W.iret (v := 0) hx hb hr (fun t9 ht hW => ⟨⟨0, (), rfl, rfl, by rw [ht]; exact hP, va_K.moved hW.alike hK, hD⟩, hS.F ht⟩) hS.2.2 dM_make_35
    · refine lv_iload_n hx hb dM_make_12 rfl (lv_at hl 2 rfl) ?_
      refine lv_if_lt (tgt := 27) hx hb dM_make_13 (by decide) (fun c_13 => ?_) (fun c_13 => ?_)
      · refine lv_iconst (v := 0) hx hb dM_make_27 (by decide) ?_
        refine sy_cVi (wc := wM g fA wA nA tA rA dA oA cI cZ F Wd Nm Tg Rc Dt Rt th ce tp sl go gi) (wr := []) (w1 := wM g fA wA nA tA rA dA oA cI cZ F Wd Nm Tg Rc Dt Rt 1 ce tp sl go gi) (ci := 1) (q0 := 0) (As := [.int 0]) (rest := []) ⟨hx, hb, hml, hown, hbg⟩ (ct_M_goes_b l D g fA wA nA tA rA dA oA cI cZ F Wd Nm Tg Rc Dt Rt th ce tp sl go gi s.heap.size 0 rfl) (cwV 1 hbg (bg_V bw_344 bw_345 bw_25 bw_35 bw_346) rfl rfl rfl (by decide +kernel) ⟨Nat.le_of_ble_eq_true rfl, Nat.le_of_ble_eq_true rfl⟩) hK [0, 1] rfl hP hD hS hA [0, 1, 2, 3, 4, 5, 6, 7] [] rfl rfl rfl rfl (by decide) rfl rfl rfl hl.1 rfl (Nat.le_of_ble_eq_true rfl) dM_make_28 ⟨Nat.le_of_ble_eq_true rfl, Nat.le_of_ble_eq_true rfl⟩ (fun H locs hP hD hS => ?_)
        have hP : va_P D vwC (wM g fA wA nA tA rA dA oA cI cZ F Wd Nm Tg Rc Dt Rt 1 ce tp sl go gi) H := hP
        have hD : va_D A (wM g fA wA nA tA rA dA oA cI cZ F Wd Nm Tg Rc Dt Rt 1 ce tp sl go gi) := hD
        refine lv_if_ne (tgt := 36) hx hb dM_make_31 (by decide) (fun z => absurd rfl z) (fun _ => ?_)
        refine lv_iconst (v := 0) hx hb dM_make_34 (by decide) ?_
        refine W.widen (k := 0) (n := 0) (Nat.le_of_ble_eq_true rfl) (Nat.le_of_ble_eq_true rfl) ?_
        exact W.iret (v := 0) hx hb hr (fun t9 ht hW => ⟨⟨0, (), rfl, rfl, by rw [ht]; exact hP, va_K.moved hW.alike hK, hD⟩, hS.F ht⟩) hS.2.2 dM_make_35
      · refine lv_iload_n hx hb dM_make_16 rfl (lv_at hl 2 rfl) ?_
        refine lv_sipush (v := 2000) hx hb dM_make_17 (by decide) ?_
        refine lv_icmp_gt (tgt := 27) hx hb dM_make_20 (by decide) (fun _ => ?_) (fun z => absurd (((hg.resolve_left c_2).resolve_left c_9).resolve_left c_13) z)
        refine lv_iconst (v := 0) hx hb dM_make_27 (by decide) ?_
        refine sy_cVi (wc := wM g fA wA nA tA rA dA oA cI cZ F Wd Nm Tg Rc Dt Rt th ce tp sl go gi) (wr := []) (w1 := wM g fA wA nA tA rA dA oA cI cZ F Wd Nm Tg Rc Dt Rt 1 ce tp sl go gi) (ci := 1) (q0 := 0) (As := [.int 0]) (rest := []) ⟨hx, hb, hml, hown, hbg⟩ (ct_M_goes_b l D g fA wA nA tA rA dA oA cI cZ F Wd Nm Tg Rc Dt Rt th ce tp sl go gi s.heap.size 0 rfl) (cwV 1 hbg (bg_V bw_344 bw_345 bw_25 bw_35 bw_346) rfl rfl rfl (by decide +kernel) ⟨Nat.le_of_ble_eq_true rfl, Nat.le_of_ble_eq_true rfl⟩) hK [0, 1] rfl hP hD hS hA [0, 1, 2, 3, 4, 5, 6, 7] [] rfl rfl rfl rfl (by decide) rfl rfl rfl hl.1 rfl (Nat.le_of_ble_eq_true rfl) dM_make_28 ⟨Nat.le_of_ble_eq_true rfl, Nat.le_of_ble_eq_true rfl⟩ (fun H locs hP hD hS => ?_)
        have hP : va_P D vwC (wM g fA wA nA tA rA dA oA cI cZ F Wd Nm Tg Rc Dt Rt 1 ce tp sl go gi) H := hP
        have hD : va_D A (wM g fA wA nA tA rA dA oA cI cZ F Wd Nm Tg Rc Dt Rt 1 ce tp sl go gi) := hD
        refine lv_if_ne (tgt := 36) hx hb dM_make_31 (by decide) (fun z => absurd rfl z) (fun _ => ?_)
        refine lv_iconst (v := 0) hx hb dM_make_34 (by decide) ?_
        refine W.widen (k := 0) (n := 0) (Nat.le_of_ble_eq_true rfl) (Nat.le_of_ble_eq_true rfl) ?_
        exact W.iret (v := 0) hx hb hr (fun t9 ht hW => ⟨⟨0, (), rfl, rfl, by rw [ht]; exact hP, va_K.moved hW.alike hK, hD⟩, hS.F ht⟩) hS.2.2 dM_make_35

end ML
