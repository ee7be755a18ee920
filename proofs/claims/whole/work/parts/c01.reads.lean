/-! CONTRACTS OF SlideRow: reads, writes, sizes (rows laid by wip/gen) -/
abbrev wX (h rr cc : Nat) (cI : ClassId) (N : Nat) (R C : Nat → Int32) (li us ob sl go gi fr la re : Int32) : va_W := [(h, .inr (0, [.ref rr, .ref cc, .int li, .int us, .int ob, .int sl, .int go, .int gi, .int fr, .int la, .int re])), (rr, .inl (cI, 16, .inl R)), (cc, .inl (cI, N, .inl C))]
theorem sr_vin {i : Int32} {N : Nat} (h1 : ¬ i < 1) (h2 : ¬ nI N ≤ i) (hN : N < 2 ^ 31) : vp_in i N := by
  have a1 : (1 : Int32).toInt = 1 := by decide
  rw [vp_in_iff]
  rw [Int32.lt_iff_toInt_lt, a1] at h1
  rw [Int32.le_iff_toInt_le, nI_toInt hN] at h2
  omega
/-- a counter below a bound that may be anything -/
theorem sr_cle {x : Int32} {j : Nat} (hj : j < 2 ^ 31) : x ≤ nI j ↔ x.toNatClampNeg ≤ j := by
  rw [Int32.le_iff_toInt_le, nI_toInt hj]
  have : x.toNatClampNeg = x.toInt.toNat := rfl
  omega
theorem sr_clt (x : Int32) : x.toNatClampNeg < 2 ^ 31 := by
  have h := x.toInt_lt
  have : x.toNatClampNeg = x.toInt.toNat := rfl
  omega

set_option maxHeartbeats 4000000 in
set_option maxRecDepth 100000 in
theorem ct_X_read (l : Launch) (D : va_G) (h rr cc : Nat) (cI : ClassId) (N : Nat) (R C : Nat → Int32) (li us ob sl go gi fr la re : Int32) (sz : Nat) (i : Int32) (hN : N < 2 ^ 31) : sy_Mi l yX_read (Cond.code yX_read bX_read 2 (some .int) :: sr_big) { frames := 0, cells := 0, slots := 0, locals := 0 } D vwC [(cI, .int)] [.ref h, .int i] (wX h rr cc cI N R C li us ob sl go gi fr la re) sz (sr_rd N C i) (wX h rr cc cI N R C li us ob sl go gi fr la re) 0 0 := by
  refine Met.ofW (cc := bX_read) (maxL := 2) (ret := (some .int)) (by decide) rfl ?_
  intro p e s m args below meth c s₁ B hml hv
  obtain ⟨rfl, hsz, hP, hK, hD0⟩ := hv
  have hx := B.exec
  have hb := B.bytes
  have hr := B.returns
  have hbg : ∀ w ∈ sr_big, w.before _ s = true := fun w h => atoms_spec (ws := Cond.code yX_read bX_read 2 (some .int) :: sr_big) B.pre w (List.mem_cons_of_mem _ h)
  have hown : s.vm.findClass RX = some m.cls := findClass_of_methodNamed B.named
  have hlocks := B.notSynchronized
  subst hsz
  have hD := hD0.self (sz := s.heap.size)
  generalize hAe : va_A (wX h rr cc cI N R C li us ob sl go gi fr la re) s.heap.size = A at *
  have hA : ∀ q : Nat, s.heap.size ≤ q → A q := fun q h => by rw [← hAe]; exact Or.inr h
  have hS : va_S A s.heap s.heap [] := va_S.rf
  have hl := lv_entry ([.ref h, .int i]) (n := 2) (Nat.le_of_ble_eq_true rfl)
  rw [lg_entry_eq]
  generalize (lg_sl ([.ref h, .int i]) ++ List.replicate (2 - (lg_sl ([.ref h, .int i])).length) Slot.unset).toArray = ls at hl ⊢
  have hl : lv_has ls 2 [(0, .ref h), (1, .int i)] := hl
  refine lv_iload_n hx hb dX_read_0 rfl (lv_at hl 1 rfl) ?_
  refine lv_iconst (v := 1) hx hb dX_read_1 (by decide) ?_
  refine lv_icmp_lt (tgt := 23) hx hb dX_read_2 (by decide) (fun c_2 => ?_) (fun c_2 => ?_)
  · refine lv_iconst (v := 0) hx hb dX_read_23 (by decide) ?_
    refine W.widen (k := 0) (n := 0) (Nat.le_of_ble_eq_true rfl) (Nat.le_of_ble_eq_true rfl) ?_
    exact W.iret (v := 0) hx hb hr (fun t ht hW => ⟨⟨0, (), rfl, (by simp only [sr_rd, c_2, ↓reduceIte]), by rw [ht]; exact hP, va_K.moved hW.alike hK, hD⟩, hS.F ht⟩) hS.2.2 dX_read_24
  · refine lv_iload_n hx hb dX_read_5 rfl (lv_at hl 1 rfl) ?_
    refine lv_aload_n hx hb dX_read_6 rfl (lv_at hl 0 rfl) ?_
    refine va_get (D := D) (ci := 0) (v := .ref cc) (C := RX) (T := TX) (N := 11) hx hb hbg bg_X hown hK hP 0 rfl rfl 1 (by decide) (hbg _ bw_52) (fun _ h9 => h9) rfl dX_read_7 ?_
    refine va_alen hx hb hK hP 2 0 rfl rfl (v := nI N) rfl dX_read_10 ?_
    refine lv_icmp_ge (tgt := 23) hx hb dX_read_11 (by decide) (fun c_11 => ?_) (fun c_11 => ?_)
    · refine lv_iconst (v := 0) hx hb dX_read_23 (by decide) ?_
      refine W.widen (k := 0) (n := 0) (Nat.le_of_ble_eq_true rfl) (Nat.le_of_ble_eq_true rfl) ?_
      exact W.iret (v := 0) hx hb hr (fun t ht hW => ⟨⟨0, (), rfl, (by simp only [sr_rd, c_2, c_11, ↓reduceIte]), by rw [ht]; exact hP, va_K.moved hW.alike hK, hD⟩, hS.F ht⟩) hS.2.2 dX_read_24
    · refine lv_aload_n hx hb dX_read_14 rfl (lv_at hl 0 rfl) ?_
      refine va_get (D := D) (ci := 0) (v := .ref cc) (C := RX) (T := TX) (N := 11) hx hb hbg bg_X hown hK hP 0 rfl rfl 1 (by decide) (hbg _ bw_52) (fun _ h9 => h9) rfl dX_read_15 ?_
      refine lv_iload_n hx hb dX_read_18 rfl (lv_at hl 1 rfl) ?_
      refine va_iald hx hb hK hP 2 0 rfl rfl (sr_vin c_2 c_11 hN) dX_read_19 ?_
      refine lv_goto (tgt := 24) hx hb dX_read_20 (by decide) ?_
      refine W.widen (k := 0) (n := 0) (Nat.le_of_ble_eq_true rfl) (Nat.le_of_ble_eq_true rfl) ?_
      exact W.iret (v := C i.toNatClampNeg) hx hb hr (fun t ht hW => ⟨⟨C i.toNatClampNeg, (), rfl, (by simp only [sr_rd, c_2, c_11, ↓reduceIte]), by rw [ht]; exact hP, va_K.moved hW.alike hK, hD⟩, hS.F ht⟩) hS.2.2 dX_read_24

set_option maxHeartbeats 4000000 in
set_option maxRecDepth 100000 in
theorem ct_X_write (l : Launch) (D : va_G) (h rr cc : Nat) (cI : ClassId) (N : Nat) (R C : Nat → Int32) (li us ob sl go gi fr la re : Int32) (sz : Nat) (i v : Int32) (hN : N < 2 ^ 31) : sy_Mv l yX_write (Cond.code yX_write bX_write 3 none :: sr_big) { frames := 0, cells := 0, slots := 0, locals := 0 } D vwC [(cI, .int)] [.ref h, .int i, .int v] (wX h rr cc cI N R C li us ob sl go gi fr la re) sz (wX h rr cc cI N R (sr_wr N C i v) li us ob sl go gi fr la re) 0 0 := by
  refine Met.ofW (cc := bX_write) (maxL := 3) (ret := none) (by decide) rfl ?_
  intro p e s m args below meth c s₁ B hml hv
  obtain ⟨rfl, hsz, hP, hK, hD0⟩ := hv
  have hx := B.exec
  have hb := B.bytes
  have hr := B.returns
  have hbg : ∀ w ∈ sr_big, w.before _ s = true := fun w h => atoms_spec (ws := Cond.code yX_write bX_write 3 none :: sr_big) B.pre w (List.mem_cons_of_mem _ h)
  have hown : s.vm.findClass RX = some m.cls := findClass_of_methodNamed B.named
  have hlocks := B.notSynchronized
  subst hsz
  have hD := hD0.self (sz := s.heap.size)
  generalize hAe : va_A (wX h rr cc cI N R C li us ob sl go gi fr la re) s.heap.size = A at *
  have hA : ∀ q : Nat, s.heap.size ≤ q → A q := fun q h => by rw [← hAe]; exact Or.inr h
  have hS : va_S A s.heap s.heap [] := va_S.rf
  have hl := lv_entry ([.ref h, .int i, .int v]) (n := 3) (Nat.le_of_ble_eq_true rfl)
  rw [lg_entry_eq]
  generalize (lg_sl ([.ref h, .int i, .int v]) ++ List.replicate (3 - (lg_sl ([.ref h, .int i, .int v])).length) Slot.unset).toArray = ls at hl ⊢
  have hl : lv_has ls 3 [(0, .ref h), (1, .int i), (2, .int v)] := hl
  refine lv_iload_n hx hb dX_write_0 rfl (lv_at hl 1 rfl) ?_
  refine lv_iconst (v := 1) hx hb dX_write_1 (by decide) ?_
  refine lv_icmp_lt (tgt := 21) hx hb dX_write_2 (by decide) (fun c_2 => ?_) (fun c_2 => ?_)
  · have eC : sr_wr N C i v = C := by simp only [sr_wr, c_2, ↓reduceIte]
    rw [eC]
    refine W.widen (k := 0) (n := 0) (Nat.le_of_ble_eq_true rfl) (Nat.le_of_ble_eq_true rfl) ?_
    exact W.vret hx hb hr (fun t ht hW => ⟨⟨(), rfl, trivial, by rw [ht]; exact hP, va_K.moved hW.alike hK, hD⟩, hS.F ht⟩) hS.2.2 dX_write_21
  · refine lv_iload_n hx hb dX_write_5 rfl (lv_at hl 1 rfl) ?_
    refine lv_aload_n hx hb dX_write_6 rfl (lv_at hl 0 rfl) ?_
    refine va_get (D := D) (ci := 0) (v := .ref cc) (C := RX) (T := TX) (N := 11) hx hb hbg bg_X hown hK hP 0 rfl rfl 1 (by decide) (hbg _ bw_52) (fun _ h9 => h9) rfl dX_write_7 ?_
    refine va_alen hx hb hK hP 2 0 rfl rfl (v := nI N) rfl dX_write_10 ?_
    refine lv_icmp_ge (tgt := 21) hx hb dX_write_11 (by decide) (fun c_11 => ?_) (fun c_11 => ?_)
    · have eC : sr_wr N C i v = C := by simp only [sr_wr, c_2, c_11, ↓reduceIte]
      rw [eC]
      refine W.widen (k := 0) (n := 0) (Nat.le_of_ble_eq_true rfl) (Nat.le_of_ble_eq_true rfl) ?_
      exact W.vret hx hb hr (fun t ht hW => ⟨⟨(), rfl, trivial, by rw [ht]; exact hP, va_K.moved hW.alike hK, hD⟩, hS.F ht⟩) hS.2.2 dX_write_21
    · refine lv_aload_n hx hb dX_write_14 rfl (lv_at hl 0 rfl) ?_
      refine va_get (D := D) (ci := 0) (v := .ref cc) (C := RX) (T := TX) (N := 11) hx hb hbg bg_X hown hK hP 0 rfl rfl 1 (by decide) (hbg _ bw_52) (fun _ h9 => h9) rfl dX_write_15 ?_
      refine lv_iload_n hx hb dX_write_18 rfl (lv_at hl 1 rfl) ?_
      refine lv_iload_n hx hb dX_write_19 rfl (lv_at hl 2 rfl) ?_
      refine va_iast hx hb hK hP hD hS 2 0 rfl rfl (sr_vin c_2 c_11 hN) dX_write_20 (fun H locs hP hD hS => ?_)
      have hP : va_P D vwC (wX h rr cc cI N R (upd C i.toNatClampNeg v) li us ob sl go gi fr la re) H := hP
      have hD : va_D A (wX h rr cc cI N R (upd C i.toNatClampNeg v) li us ob sl go gi fr la re) := hD
      have eC : sr_wr N C i v = upd C i.toNatClampNeg v := by simp only [sr_wr, c_2, c_11, ↓reduceIte]
      rw [← eC] at hP hD
      refine W.widen (k := 0) (n := 0) (Nat.le_of_ble_eq_true rfl) (Nat.le_of_ble_eq_true rfl) ?_
      exact W.vret hx hb hr (fun t ht hW => ⟨⟨(), rfl, trivial, by rw [ht]; exact hP, va_K.moved hW.alike hK, hD⟩, hS.F ht⟩) hS.2.2 dX_write_21

set_option maxHeartbeats 4000000 in
set_option maxRecDepth 100000 in
theorem ct_X_fieldsOf (l : Launch) (D : va_G) (h rr cc : Nat) (cI : ClassId) (N : Nat) (R C : Nat → Int32) (li us ob sl go gi fr la re : Int32) (sz : Nat) (a : Int32) (hN : N < 2 ^ 31) : sy_Mi l yX_fieldsOf (Cond.code yX_fieldsOf bX_fieldsOf 2 (some .int) :: sr_big) { frames := 1, cells := 0, slots := 0, locals := 21 } D vwC [(cI, .int)] [.ref h, .int a] (wX h rr cc cI N R C li us ob sl go gi fr la re) sz (sr_fi N C a) (wX h rr cc cI N R C li us ob sl go gi fr la re) 0 0 := by
  refine Met.ofW (cc := bX_fieldsOf) (maxL := 2) (ret := (some .int)) (by decide) rfl ?_
  intro p e s m args below meth c s₁ B hml hv
  obtain ⟨rfl, hsz, hP, hK, hD0⟩ := hv
  have hx := B.exec
  have hb := B.bytes
  have hr := B.returns
  have hbg : ∀ w ∈ sr_big, w.before _ s = true := fun w h => atoms_spec (ws := Cond.code yX_fieldsOf bX_fieldsOf 2 (some .int) :: sr_big) B.pre w (List.mem_cons_of_mem _ h)
  have hown : s.vm.findClass RX = some m.cls := findClass_of_methodNamed B.named
  have hlocks := B.notSynchronized
  subst hsz
  have hD := hD0.self (sz := s.heap.size)
  generalize hAe : va_A (wX h rr cc cI N R C li us ob sl go gi fr la re) s.heap.size = A at *
  have hA : ∀ q : Nat, s.heap.size ≤ q → A q := fun q h => by rw [← hAe]; exact Or.inr h
  have hS : va_S A s.heap s.heap [] := va_S.rf
  have hl := lv_entry ([.ref h, .int a]) (n := 2) (Nat.le_of_ble_eq_true rfl)
  rw [lg_entry_eq]
  generalize (lg_sl ([.ref h, .int a]) ++ List.replicate (2 - (lg_sl ([.ref h, .int a])).length) Slot.unset).toArray = ls at hl ⊢
  have hl : lv_has ls 2 [(0, .ref h), (1, .int a)] := hl
  refine lv_aload_n hx hb dX_fieldsOf_0 rfl (lv_at hl 0 rfl) ?_
  refine lv_iload_n hx hb dX_fieldsOf_1 rfl (lv_at hl 1 rfl) ?_
  refine lv_iconst (v := 0) hx hb dX_fieldsOf_2 (by decide) ?_
  refine lv_iadd hx hb dX_fieldsOf_3 ?_
  refine sy_cVi (wc := wX h rr cc cI N R C li us ob sl go gi fr la re) (wr := []) (w1 := wX h rr cc cI N R C li us ob sl go gi fr la re) (ci := 0) (q0 := 0) (As := [.int (a + 0)]) (rest := []) ⟨hx, hb, hml, hown, hbg⟩ (ct_X_read l D h rr cc cI N R C li us ob sl go gi fr la re s.heap.size (a + 0) hN) (cwV 1 hbg (bg_V bw_90 bw_91 bw_4 bw_34 bw_92) rfl rfl rfl (by decide +kernel) ⟨Nat.le_of_ble_eq_true rfl, Nat.le_of_ble_eq_true rfl⟩) hK [0] rfl hP hD hS hA [0, 1, 2] [] rfl rfl rfl rfl (by decide) rfl rfl rfl hl.1 rfl (by decide) dX_fieldsOf_4 ⟨Nat.le_of_ble_eq_true rfl, Nat.le_of_ble_eq_true rfl⟩ (fun H locs hP hD hS => ?_)
  have hP : va_P D vwC (wX h rr cc cI N R C li us ob sl go gi fr la re) H := hP
  have hD : va_D A (wX h rr cc cI N R C li us ob sl go gi fr la re) := hD
  refine lv_bipush (v := 12) hx hb dX_fieldsOf_7 (by decide) ?_
  refine lv_ishr hx hb dX_fieldsOf_9 ?_
  refine W.widen (k := 0) (n := 0) (Nat.le_of_ble_eq_true rfl) (Nat.le_of_ble_eq_true rfl) ?_
  exact W.iret (v := (sr_rd N C (a + 0)) >>> (12 &&& 31)) hx hb hr (fun t ht hW => ⟨⟨(sr_rd N C (a + 0)) >>> (12 &&& 31), (), rfl, rfl, by rw [ht]; exact hP, va_K.moved hW.alike hK, hD⟩, hS.F ht⟩) hS.2.2 dX_fieldsOf_10

set_option maxHeartbeats 4000000 in
set_option maxRecDepth 100000 in
theorem ct_X_wordsOf (l : Launch) (D : va_G) (h rr cc : Nat) (cI : ClassId) (N : Nat) (R C : Nat → Int32) (li us ob sl go gi fr la re : Int32) (sz : Nat) (a : Int32) (hN : N < 2 ^ 31) : sy_Mi l yX_wordsOf (Cond.code yX_wordsOf bX_wordsOf 2 (some .int) :: sr_big) { frames := 1, cells := 0, slots := 0, locals := 21 } D vwC [(cI, .int)] [.ref h, .int a] (wX h rr cc cI N R C li us ob sl go gi fr la re) sz (sr_wi N C a) (wX h rr cc cI N R C li us ob sl go gi fr la re) 0 0 := by
  refine Met.ofW (cc := bX_wordsOf) (maxL := 2) (ret := (some .int)) (by decide) rfl ?_
  intro p e s m args below meth c s₁ B hml hv
  obtain ⟨rfl, hsz, hP, hK, hD0⟩ := hv
  have hx := B.exec
  have hb := B.bytes
  have hr := B.returns
  have hbg : ∀ w ∈ sr_big, w.before _ s = true := fun w h => atoms_spec (ws := Cond.code yX_wordsOf bX_wordsOf 2 (some .int) :: sr_big) B.pre w (List.mem_cons_of_mem _ h)
  have hown : s.vm.findClass RX = some m.cls := findClass_of_methodNamed B.named
  have hlocks := B.notSynchronized
  subst hsz
  have hD := hD0.self (sz := s.heap.size)
  generalize hAe : va_A (wX h rr cc cI N R C li us ob sl go gi fr la re) s.heap.size = A at *
  have hA : ∀ q : Nat, s.heap.size ≤ q → A q := fun q h => by rw [← hAe]; exact Or.inr h
  have hS : va_S A s.heap s.heap [] := va_S.rf
  have hl := lv_entry ([.ref h, .int a]) (n := 2) (Nat.le_of_ble_eq_true rfl)
  rw [lg_entry_eq]
  generalize (lg_sl ([.ref h, .int a]) ++ List.replicate (2 - (lg_sl ([.ref h, .int a])).length) Slot.unset).toArray = ls at hl ⊢
  have hl : lv_has ls 2 [(0, .ref h), (1, .int a)] := hl
  refine lv_aload_n hx hb dX_wordsOf_0 rfl (lv_at hl 0 rfl) ?_
  refine lv_iload_n hx hb dX_wordsOf_1 rfl (lv_at hl 1 rfl) ?_
  refine lv_iconst (v := 0) hx hb dX_wordsOf_2 (by decide) ?_
  refine lv_iadd hx hb dX_wordsOf_3 ?_
  refine sy_cVi (wc := wX h rr cc cI N R C li us ob sl go gi fr la re) (wr := []) (w1 := wX h rr cc cI N R C li us ob sl go gi fr la re) (ci := 0) (q0 := 0) (As := [.int (a + 0)]) (rest := []) ⟨hx, hb, hml, hown, hbg⟩ (ct_X_read l D h rr cc cI N R C li us ob sl go gi fr la re s.heap.size (a + 0) hN) (cwV 1 hbg (bg_V bw_90 bw_91 bw_4 bw_34 bw_92) rfl rfl rfl (by decide +kernel) ⟨Nat.le_of_ble_eq_true rfl, Nat.le_of_ble_eq_true rfl⟩) hK [0] rfl hP hD hS hA [0, 1, 2] [] rfl rfl rfl rfl (by decide) rfl rfl rfl hl.1 rfl (by decide) dX_wordsOf_4 ⟨Nat.le_of_ble_eq_true rfl, Nat.le_of_ble_eq_true rfl⟩ (fun H locs hP hD hS => ?_)
  have hP : va_P D vwC (wX h rr cc cI N R C li us ob sl go gi fr la re) H := hP
  have hD : va_D A (wX h rr cc cI N R C li us ob sl go gi fr la re) := hD
  refine lv_sipush (v := 4095) hx hb dX_wordsOf_7 (by decide) ?_
  refine lv_iand hx hb dX_wordsOf_10 ?_
  refine W.widen (k := 0) (n := 0) (Nat.le_of_ble_eq_true rfl) (Nat.le_of_ble_eq_true rfl) ?_
  exact W.iret (v := (sr_rd N C (a + 0)) &&& 4095) hx hb hr (fun t ht hW => ⟨⟨(sr_rd N C (a + 0)) &&& 4095, (), rfl, rfl, by rw [ht]; exact hP, va_K.moved hW.alike hK, hD⟩, hS.F ht⟩) hS.2.2 dX_wordsOf_11

set_option maxHeartbeats 4000000 in
set_option maxRecDepth 100000 in
theorem ct_X_sizeOf (l : Launch) (D : va_G) (h rr cc : Nat) (cI : ClassId) (N : Nat) (R C : Nat → Int32) (li us ob sl go gi fr la re : Int32) (sz : Nat) (a : Int32) (hN : N < 2 ^ 31) : sy_Mi l yX_sizeOf (Cond.code yX_sizeOf bX_sizeOf 3 (some .int) :: sr_big) { frames := 1, cells := 0, slots := 0, locals := 21 } D vwC [(cI, .int)] [.ref h, .int a] (wX h rr cc cI N R C li us ob sl go gi fr la re) sz (sr_si N C a) (wX h rr cc cI N R C li us ob sl go gi fr la re) 0 0 := by
  refine Met.ofW (cc := bX_sizeOf) (maxL := 3) (ret := (some .int)) (by decide) rfl ?_
  intro p e s m args below meth c s₁ B hml hv
  obtain ⟨rfl, hsz, hP, hK, hD0⟩ := hv
  have hx := B.exec
  have hb := B.bytes
  have hr := B.returns
  have hbg : ∀ w ∈ sr_big, w.before _ s = true := fun w h => atoms_spec (ws := Cond.code yX_sizeOf bX_sizeOf 3 (some .int) :: sr_big) B.pre w (List.mem_cons_of_mem _ h)
  have hown : s.vm.findClass RX = some m.cls := findClass_of_methodNamed B.named
  have hlocks := B.notSynchronized
  subst hsz
  have hD := hD0.self (sz := s.heap.size)
  generalize hAe : va_A (wX h rr cc cI N R C li us ob sl go gi fr la re) s.heap.size = A at *
  have hA : ∀ q : Nat, s.heap.size ≤ q → A q := fun q h => by rw [← hAe]; exact Or.inr h
  have hS : va_S A s.heap s.heap [] := va_S.rf
  have hl := lv_entry ([.ref h, .int a]) (n := 3) (Nat.le_of_ble_eq_true rfl)
  rw [lg_entry_eq]
  generalize (lg_sl ([.ref h, .int a]) ++ List.replicate (3 - (lg_sl ([.ref h, .int a])).length) Slot.unset).toArray = ls at hl ⊢
  have hl : lv_has ls 3 [(0, .ref h), (1, .int a)] := hl
  refine lv_aload_n hx hb dX_sizeOf_0 rfl (lv_at hl 0 rfl) ?_
  refine lv_iload_n hx hb dX_sizeOf_1 rfl (lv_at hl 1 rfl) ?_
  refine lv_iconst (v := 0) hx hb dX_sizeOf_2 (by decide) ?_
  refine lv_iadd hx hb dX_sizeOf_3 ?_
  refine sy_cVi (wc := wX h rr cc cI N R C li us ob sl go gi fr la re) (wr := []) (w1 := wX h rr cc cI N R C li us ob sl go gi fr la re) (ci := 0) (q0 := 0) (As := [.int (a + 0)]) (rest := []) ⟨hx, hb, hml, hown, hbg⟩ (ct_X_read l D h rr cc cI N R C li us ob sl go gi fr la re s.heap.size (a + 0) hN) (cwV 1 hbg (bg_V bw_90 bw_91 bw_4 bw_34 bw_92) rfl rfl rfl (by decide +kernel) ⟨Nat.le_of_ble_eq_true rfl, Nat.le_of_ble_eq_true rfl⟩) hK [0] rfl hP hD hS hA [0, 1, 2] [] rfl rfl rfl rfl (by decide) rfl rfl rfl hl.1 rfl (by decide) dX_sizeOf_4 ⟨Nat.le_of_ble_eq_true rfl, Nat.le_of_ble_eq_true rfl⟩ (fun H locs hP hD hS => ?_)
  have hP : va_P D vwC (wX h rr cc cI N R C li us ob sl go gi fr la re) H := hP
  have hD : va_D A (wX h rr cc cI N R C li us ob sl go gi fr la re) := hD
  refine lv_istore_n (lv' := [(2, .int (sr_rd N C (a + 0))), (0, .ref h), (1, .int a)]) hx hb dX_sizeOf_7 rfl hl (by decide) rfl (fun ls hl => ?_)
  refine lv_iconst (v := 3) hx hb dX_sizeOf_8 (by decide) ?_
  refine lv_iload_n hx hb dX_sizeOf_9 rfl (lv_at hl 0 rfl) ?_
  refine lv_bipush (v := 12) hx hb dX_sizeOf_10 (by decide) ?_
  refine lv_ishr hx hb dX_sizeOf_12 ?_
  refine lv_iadd hx hb dX_sizeOf_13 ?_
  refine lv_iload_n hx hb dX_sizeOf_14 rfl (lv_at hl 0 rfl) ?_
  refine lv_sipush (v := 4095) hx hb dX_sizeOf_15 (by decide) ?_
  refine lv_iand hx hb dX_sizeOf_18 ?_
  refine lv_iadd hx hb dX_sizeOf_19 ?_
  refine W.widen (k := 0) (n := 0) (Nat.le_of_ble_eq_true rfl) (Nat.le_of_ble_eq_true rfl) ?_
  exact W.iret (v := ((3 : Int32) + ((sr_rd N C (a + 0)) >>> (12 &&& 31))) + ((sr_rd N C (a + 0)) &&& 4095)) hx hb hr (fun t ht hW => ⟨⟨((3 : Int32) + ((sr_rd N C (a + 0)) >>> (12 &&& 31))) + ((sr_rd N C (a + 0)) &&& 4095), (), rfl, rfl, by rw [ht]; exact hP, va_K.moved hW.alike hK, hD⟩, hS.F ht⟩) hS.2.2 dX_sizeOf_20

set_option maxHeartbeats 4000000 in
set_option maxRecDepth 100000 in
theorem ct_X_replace (l : Launch) (D : va_G) (h rr cc : Nat) (cI : ClassId) (N : Nat) (R C : Nat → Int32) (li us ob sl go gi fr la re : Int32) (sz : Nat) (i v : Int32) (hN : N < 2 ^ 31) : sy_Mi l yX_replace (Cond.code yX_replace bX_replace 4 (some .int) :: sr_big) { frames := 1, cells := 0, slots := 0, locals := 22 } D vwC [(cI, .int)] [.ref h, .int i, .int v] (wX h rr cc cI N R C li us ob sl go gi fr la re) sz (sr_rd N C i) (wX h rr cc cI N R (sr_wr N C i v) li us ob sl go gi fr la re) 0 0 := by
  refine Met.ofW (cc := bX_replace) (maxL := 4) (ret := (some .int)) (by decide) rfl ?_
  intro p e s m args below meth c s₁ B hml hv
  obtain ⟨rfl, hsz, hP, hK, hD0⟩ := hv
  have hx := B.exec
  have hb := B.bytes
  have hr := B.returns
  have hbg : ∀ w ∈ sr_big, w.before _ s = true := fun w h => atoms_spec (ws := Cond.code yX_replace bX_replace 4 (some .int) :: sr_big) B.pre w (List.mem_cons_of_mem _ h)
  have hown : s.vm.findClass RX = some m.cls := findClass_of_methodNamed B.named
  have hlocks := B.notSynchronized
  subst hsz
  have hD := hD0.self (sz := s.heap.size)
  generalize hAe : va_A (wX h rr cc cI N R C li us ob sl go gi fr la re) s.heap.size = A at *
  have hA : ∀ q : Nat, s.heap.size ≤ q → A q := fun q h => by rw [← hAe]; exact Or.inr h
  have hS : va_S A s.heap s.heap [] := va_S.rf
  have hl := lv_entry ([.ref h, .int i, .int v]) (n := 4) (Nat.le_of_ble_eq_true rfl)
  rw [lg_entry_eq]
  generalize (lg_sl ([.ref h, .int i, .int v]) ++ List.replicate (4 - (lg_sl ([.ref h, .int i, .int v])).length) Slot.unset).toArray = ls at hl ⊢
  have hl : lv_has ls 4 [(0, .ref h), (1, .int i), (2, .int v)] := hl
  refine lv_aload_n hx hb dX_replace_0 rfl (lv_at hl 0 rfl) ?_
  refine lv_iload_n hx hb dX_replace_1 rfl (lv_at hl 1 rfl) ?_
  refine sy_cVi (wc := wX h rr cc cI N R C li us ob sl go gi fr la re) (wr := []) (w1 := wX h rr cc cI N R C li us ob sl go gi fr la re) (ci := 0) (q0 := 0) (As := [.int i]) (rest := []) ⟨hx, hb, hml, hown, hbg⟩ (ct_X_read l D h rr cc cI N R C li us ob sl go gi fr la re s.heap.size i hN) (cwV 1 hbg (bg_V bw_90 bw_91 bw_4 bw_34 bw_92) rfl rfl rfl (by decide +kernel) ⟨Nat.le_of_ble_eq_true rfl, Nat.le_of_ble_eq_true rfl⟩) hK [0] rfl hP hD hS hA [0, 1, 2] [] rfl rfl rfl rfl (by decide) rfl rfl rfl hl.1 rfl (by decide) dX_replace_2 ⟨Nat.le_of_ble_eq_true rfl, Nat.le_of_ble_eq_true rfl⟩ (fun H locs hP hD hS => ?_)
  have hP : va_P D vwC (wX h rr cc cI N R C li us ob sl go gi fr la re) H := hP
  have hD : va_D A (wX h rr cc cI N R C li us ob sl go gi fr la re) := hD
  refine lv_istore_n (lv' := [(3, .int (sr_rd N C i)), (0, .ref h), (1, .int i), (2, .int v)]) hx hb dX_replace_5 rfl hl (by decide) rfl (fun ls hl => ?_)
  refine lv_aload_n hx hb dX_replace_6 rfl (lv_at hl 1 rfl) ?_
  refine lv_iload_n hx hb dX_replace_7 rfl (lv_at hl 2 rfl) ?_
  refine lv_iload_n hx hb dX_replace_8 rfl (lv_at hl 3 rfl) ?_
  refine sy_cVv (wc := wX h rr cc cI N R C li us ob sl go gi fr la re) (wr := []) (w1 := wX h rr cc cI N R (sr_wr N C i v) li us ob sl go gi fr la re) (ci := 0) (q0 := 0) (As := [.int i, .int v]) (rest := []) ⟨hx, hb, hml, hown, hbg⟩ (ct_X_write l D h rr cc cI N R C li us ob sl go gi fr la re H.size i v hN) (cwV 2 hbg (bg_V bw_84 bw_85 bw_2 bw_34 bw_86) rfl rfl rfl (by decide +kernel) ⟨Nat.le_of_ble_eq_true rfl, Nat.le_of_ble_eq_true rfl⟩) hK [0] rfl hP hD hS hA [0, 1, 2] [] rfl rfl rfl rfl (by decide) rfl rfl rfl hl.1 rfl (by decide) dX_replace_9 ⟨Nat.le_of_ble_eq_true rfl, Nat.le_of_ble_eq_true rfl⟩ (fun H locs hP hD hS => ?_)
  have hP : va_P D vwC (wX h rr cc cI N R (sr_wr N C i v) li us ob sl go gi fr la re) H := hP
  have hD : va_D A (wX h rr cc cI N R (sr_wr N C i v) li us ob sl go gi fr la re) := hD
  refine lv_iload_n hx hb dX_replace_12 rfl (lv_at hl 0 rfl) ?_
  refine W.widen (k := 0) (n := 0) (Nat.le_of_ble_eq_true rfl) (Nat.le_of_ble_eq_true rfl) ?_
  exact W.iret (v := sr_rd N C i) hx hb hr (fun t ht hW => ⟨⟨sr_rd N C i, (), rfl, rfl, by rw [ht]; exact hP, va_K.moved hW.alike hK, hD⟩, hS.F ht⟩) hS.2.2 dX_replace_13
