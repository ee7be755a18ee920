/-! THE LAW: one call of the script (rows laid by wip/gen) -/
section Law
variable {p : Program} {l : Launch} {e : Env} {R : Room} {s : State} {m : MethodId} {args : Array Value} {below : List Frame} {meth : Method} {c : Code} {H : Heap} {locs : List Loc} {cells slots : Nat} {Q : State → Prop} {A : Nat → Prop}
theorem sy_sld {cc : ByteArray} {pc : Nat} {ls : Array Slot} {rest : List Value} {H0 : Heap} (hexec : p.tables.exec = Jvm.exec) (hb : c.code = cc) {b L : Nat} {xs : Nat → Int32} (hX : va_X b L xs s H0) (hbl : b < H0.size) (hbA : ¬ A b) (hS : va_S A H0 H locs) {j : Nat} (hj : j < L) (hL : L < 2 ^ 31) (hdg : decode cc pc = .ok (.iaload, 1))
    (kk : W p l e R s m args below meth c H locs cells slots Q (F0 m (pc + 1) ls (.int (xs j) :: rest))) : W p l e R s m args below meth c H locs cells slots Q (F0 m pc ls (.int (nI j) :: .ref b :: rest)) := by
  refine va_sld hexec hb hX hbl hbA hS (vp_in_nI hj hL) hdg ?_
  rw [nI_clamp (by omega)]
  exact kk
variable {D : va_G} {b L0 : Nat} {xs : Nat → Int32} {h rr g fA wA nA tA rA dA oA oo : Nat} {cI cZ cJ : ClassId}

set_option maxHeartbeats 4000000 in
set_option maxRecDepth 100000 in
theorem lo_space (hx : p.tables.exec = Jvm.exec) (hb : c.code = bL_law) (hml : c.maxLocals = 7) (hown : s.vm.findClass RL = some m.cls) (hbg : ∀ w ∈ sr_big, w.before args s = true) (hK : va_K D vwC [(cI, .int), (cZ, .boolean), (cJ, .long)] s) (hA : ∀ q : Nat, s.heap.size ≤ q → A q) (hbA : ¬ A b) (hX : va_X b L0 xs s s.heap) (hbl : b < s.heap.size) (hst : l.stackTraces = false) (hG : sx_H A s s.heap) (hL0 : L0 ≤ 2048) (i N : Nat) (hi : i + 4 ≤ L0) (wx wm : va_W) (th : Int32) (O : Nat → Int64) (H : Heap) (locs : List Loc) (ls : Array Slot) (hI : sg_W h rr g fA wA nA tA rA dA oA cI cZ th N wx wm) (hP : va_P D vwC ([(oo, .inl (cJ, 1, .inr (.inl O)))] ++ wx ++ wm) H) (hD : va_D A ([(oo, .inl (cJ, 1, .inr (.inl O)))] ++ wx ++ wm)) (hS : va_S A s.heap H locs) (hl : lv_has ls 7 [(0, .ref b), (1, .ref h), (2, .ref g), (3, .ref oo), (4, .int (nI i))]) (kk : ∀ (N : Nat) (wx wm : va_W) (th : Int32) (O : Nat → Int64) (H : Heap) (locs : List Loc) (ls : Array Slot), sg_W h rr g fA wA nA tA rA dA oA cI cZ th N wx wm → va_P D vwC ([(oo, .inl (cJ, 1, .inr (.inl O)))] ++ wx ++ wm) H → va_D A ([(oo, .inl (cJ, 1, .inr (.inl O)))] ++ wx ++ wm) → va_S A s.heap H locs → lv_has ls 7 [(0, .ref b), (1, .ref h), (2, .ref g), (3, .ref oo), (4, .int (nI i))] → W p l e room_1 s m args below meth c H locs (21 + i) (110006 + 6 * i + 2 * N) Q (F0 m 854 ls [])) : W p l e room_1 s m args below meth c H locs (20 + i) (110000 + 6 * i + 2 * N) Q (F0 m 104 ls []) := by
  obtain ⟨cc, os, L, Rr, C, F, Wd, Nm, Tg, Rc, Dt, Rt, sl, go, gi, fr, la, re, rfl, rfl, hF⟩ := hI
  have hN9 : N ≤ 16385 := by have := hF.1.2.2.2.2; omega
  rcases st_space (l := l) (D := D) (h := h) (rr := rr) (cc := cc) (g := g) (fA := fA) (wA := wA) (nA := nA) (tA := tA) (rA := rA) (dA := dA) (oA := oA) (cI := cI) (cZ := cZ) (os := os) (L := L) (N := N) (C := C) (F := F) (Wd := Wd) (Nm := Nm) (Tg := Tg) (Rc := Rc) (Dt := Dt) (Rt := Rt) (sl := sl) (go := go) (gi := gi) (fr := fr) (la := la) (re := re) (th := th) (R := Rr) (cJ := cJ) (oo := oo) (O := O) hst hF (xs (i + 1)) with ⟨k, r, w1, w2, O', hM1, hM2, ⟨cc1, os1, L1, R1, C1, F1, Wd1, Nm1, Tg1, Rc1, Dt1, Rt1, sl1, go1, gi1, fr1, la1, re1, rfl, rfl, hF1⟩, hk⟩ | ⟨hN2, r, w1, w2, O', hM1, hM2, hJ, hO⟩
  · refine lv_aload_n hx hb dL_law_104 rfl (lv_at hl 1 rfl) ?_
    refine lv_aload_n hx hb dL_law_105 rfl (lv_at hl 0 rfl) ?_
    refine lv_iload hx hb dL_law_106 (lv_at hl 4 rfl) ?_
    refine lv_iconst (v := 1) hx hb dL_law_108 (by decide) ?_
    refine lv_iadd hx hb dL_law_109 ?_
    rw [show (nI i) + 1 = nI (i + 1) from nI_add i 1]
    refine sy_sld (j := i + 1) hx hb hX hbl hbA hS (by omega) (by omega) dL_law_110 ?_
    refine lv_aload_n hx hb dL_law_111 rfl (lv_at hl 3 rfl) ?_
    refine sy_cSg (mc := 1) (ms := 6) (wc := [(oo, .inl (cJ, 1, .inr (.inl O)))] ++ wX h rr cc cI N Rr C (nI L) (nI (sr_tot os)) (nI os.length) sl go gi fr la re) (wr := wM g fA wA nA tA rA dA oA cI cZ F Wd Nm Tg Rc Dt Rt th (nI L) (nI (1 + sr_tot os)) sl go gi) (w1 := (fun _ => [(oo, .inl (cJ, 1, .inr (.inl O')))] ++ wX h rr cc1 cI N R1 C1 (nI L1) (nI (sr_tot os1)) (nI os1.length) sl1 go1 gi1 fr1 la1 re1)) (As := [.ref h, .int (xs (i + 1)), .ref oo]) (rest := []) ⟨hx, hb, hml, hown, hbg⟩ (hM1 H.size) (vx_cwSW 3 hbg (bg_SS bw_130 bw_131 bw_33 bw_132) rfl rfl rfl (by decide +kernel) ⟨Nat.le_of_ble_eq_true rfl, Nat.le_of_ble_eq_true rfl⟩) hK [0, 2] rfl hP hD hS hA hG [0, 1, 2, 3] [4, 5, 6, 7, 8, 9, 10, 11] rfl rfl rfl rfl (by decide) rfl hl.1 rfl (Nat.le_of_ble_eq_true rfl) dL_law_112 ⟨by show _ ≤ 601024; omega, by show _ ≤ 7293033; omega⟩ (fun q H locs hP hD hS => ?_)
    have hP : va_P D vwC ([(oo, .inl (cJ, 1, .inr (.inl O')))] ++ wX h rr cc1 cI N R1 C1 (nI L1) (nI (sr_tot os1)) (nI os1.length) sl1 go1 gi1 fr1 la1 re1 ++ wM g fA wA nA tA rA dA oA cI cZ F Wd Nm Tg Rc Dt Rt th (nI L) (nI (1 + sr_tot os)) sl go gi) H := hP.sub [8, 9, 10, 11, 0, 1, 2, 3, 4, 5, 6, 7] rfl
    have hD : va_D A ([(oo, .inl (cJ, 1, .inr (.inl O')))] ++ wX h rr cc1 cI N R1 C1 (nI L1) (nI (sr_tot os1)) (nI os1.length) sl1 go1 gi1 fr1 la1 re1 ++ wM g fA wA nA tA rA dA oA cI cZ F Wd Nm Tg Rc Dt Rt th (nI L) (nI (1 + sr_tot os)) sl go gi) := hD.sub [8, 9, 10, 11, 0, 1, 2, 3, 4, 5, 6, 7] (by decide) rfl
    refine lv_istore (lv' := [(5, .int k), (0, .ref b), (1, .ref h), (2, .ref g), (3, .ref oo), (4, .int (nI i))]) hx hb dL_law_115 hl (by decide) rfl (fun ls hl => ?_)
    refine lv_aload_n hx hb dL_law_117 rfl (lv_at hl 3 rfl) ?_
    refine lv_aload_n hx hb dL_law_118 rfl (lv_at hl 1 rfl) ?_
    refine lv_iload hx hb dL_law_119 (lv_at hl 5 rfl) ?_
    refine lv_iconst (v := 1) hx hb dL_law_121 (by decide) ?_
    refine lv_iadd hx hb dL_law_122 ?_
    rw [show (nI i) + 1 = nI (i + 1) from nI_add i 1]
    refine sy_sld (j := i + 1) hx hb hX hbl hbA hS (by omega) (by omega) dL_law_123 ?_
    refine sy_cVi (mc := 0) (ms := 0) (wc := wM g fA wA nA tA rA dA oA cI cZ F Wd Nm Tg Rc Dt Rt th (nI L) (nI (1 + sr_tot os)) sl go gi) (wr := [(oo, .inl (cJ, 1, .inr (.inl O')))] ++ wX h rr cc1 cI N R1 C1 (nI L1) (nI (sr_tot os1)) (nI os1.length) sl1 go1 gi1 fr1 la1 re1) (w1 := wM g fA wA nA tA rA dA oA cI cZ F1 Wd1 Nm1 Tg1 Rc1 Dt1 Rt1 k (nI L1) (nI (1 + sr_tot os1)) sl1 go1 gi1) (ci := 1) (q0 := 0) (As := [.int (xs (i + 1))]) (rest := []) ⟨hx, hb, hml, hown, hbg⟩ (hM2 H.size) (cwV 1 hbg (bg_V bw_340 bw_341 bw_342 bw_35 bw_343) rfl rfl rfl (by decide +kernel) ⟨Nat.le_of_ble_eq_true rfl, Nat.le_of_ble_eq_true rfl⟩) hK [0, 1] rfl hP hD hS hA [4, 5, 6, 7, 8, 9, 10, 11] [0, 1, 2, 3] rfl rfl rfl rfl (by decide) rfl rfl rfl hl.1 rfl (Nat.le_of_ble_eq_true rfl) dL_law_124 ⟨by show _ ≤ 601024; omega, by show _ ≤ 7293033; omega⟩ (fun H locs hP hD hS => ?_)
    have hP : va_P D vwC ([(oo, .inl (cJ, 1, .inr (.inl O')))] ++ wX h rr cc1 cI N R1 C1 (nI L1) (nI (sr_tot os1)) (nI os1.length) sl1 go1 gi1 fr1 la1 re1 ++ wM g fA wA nA tA rA dA oA cI cZ F1 Wd1 Nm1 Tg1 Rc1 Dt1 Rt1 k (nI L1) (nI (1 + sr_tot os1)) sl1 go1 gi1) H := hP.sub [0, 1, 2, 3, 4, 5, 6, 7, 8, 9, 10, 11] rfl
    have hD : va_D A ([(oo, .inl (cJ, 1, .inr (.inl O')))] ++ wX h rr cc1 cI N R1 C1 (nI L1) (nI (sr_tot os1)) (nI os1.length) sl1 go1 gi1 fr1 la1 re1 ++ wM g fA wA nA tA rA dA oA cI cZ F1 Wd1 Nm1 Tg1 Rc1 Dt1 Rt1 k (nI L1) (nI (1 + sr_tot os1)) sl1 go1 gi1) := hD.sub [0, 1, 2, 3, 4, 5, 6, 7, 8, 9, 10, 11] (by decide) rfl
    refine lv_istore (lv' := [(6, .int r), (5, .int k), (0, .ref b), (1, .ref h), (2, .ref g), (3, .ref oo), (4, .int (nI i))]) hx hb dL_law_127 hl (by decide) rfl (fun ls hl => ?_)
    refine lv_aload_n hx hb dL_law_129 rfl (lv_at hl 4 rfl) ?_
    refine sy_cVi (mc := 0) (ms := 0) (wc := wM g fA wA nA tA rA dA oA cI cZ F1 Wd1 Nm1 Tg1 Rc1 Dt1 Rt1 k (nI L1) (nI (1 + sr_tot os1)) sl1 go1 gi1) (wr := [(oo, .inl (cJ, 1, .inr (.inl O')))] ++ wX h rr cc1 cI N R1 C1 (nI L1) (nI (sr_tot os1)) (nI os1.length) sl1 go1 gi1 fr1 la1 re1) (w1 := wM g fA wA nA tA rA dA oA cI cZ F1 Wd1 Nm1 Tg1 Rc1 Dt1 Rt1 k (nI L1) (nI (1 + sr_tot os1)) sl1 go1 gi1) (ci := 1) (q0 := 0) (As := []) (rest := []) ⟨hx, hb, hml, hown, hbg⟩ (ct_M_thrown l D g fA wA nA tA rA dA oA cI cZ F1 Wd1 Nm1 Tg1 Rc1 Dt1 Rt1 k (nI L1) (nI (1 + sr_tot os1)) sl1 go1 gi1 H.size) (cwV 0 hbg (bg_V bw_336 bw_337 bw_338 bw_35 bw_339) rfl rfl rfl (by decide +kernel) ⟨Nat.le_of_ble_eq_true rfl, Nat.le_of_ble_eq_true rfl⟩) hK [0, 1] rfl hP hD hS hA [4, 5, 6, 7, 8, 9, 10, 11] [0, 1, 2, 3] rfl rfl rfl rfl (by decide) rfl rfl rfl hl.1 rfl (Nat.le_of_ble_eq_true rfl) dL_law_130 ⟨by show _ ≤ 601024; omega, by show _ ≤ 7293033; omega⟩ (fun H locs hP hD hS => ?_)
    have hP : va_P D vwC ([(oo, .inl (cJ, 1, .inr (.inl O')))] ++ wX h rr cc1 cI N R1 C1 (nI L1) (nI (sr_tot os1)) (nI os1.length) sl1 go1 gi1 fr1 la1 re1 ++ wM g fA wA nA tA rA dA oA cI cZ F1 Wd1 Nm1 Tg1 Rc1 Dt1 Rt1 k (nI L1) (nI (1 + sr_tot os1)) sl1 go1 gi1) H := hP.sub [0, 1, 2, 3, 4, 5, 6, 7, 8, 9, 10, 11] rfl
    have hD : va_D A ([(oo, .inl (cJ, 1, .inr (.inl O')))] ++ wX h rr cc1 cI N R1 C1 (nI L1) (nI (sr_tot os1)) (nI os1.length) sl1 go1 gi1 fr1 la1 re1 ++ wM g fA wA nA tA rA dA oA cI cZ F1 Wd1 Nm1 Tg1 Rc1 Dt1 Rt1 k (nI L1) (nI (1 + sr_tot os1)) sl1 go1 gi1) := hD.sub [0, 1, 2, 3, 4, 5, 6, 7, 8, 9, 10, 11] (by decide) rfl
    refine lv_iload hx hb dL_law_133 (lv_at hl 1 rfl) ?_
    refine lv_icmp_eq (tgt := 140) hx hb dL_law_135 (by decide) (fun _ => ?_) (fun z => absurd rfl z)
    rcases hk with hk | ⟨hk, hO⟩
    · refine lv_iload hx hb dL_law_140 (lv_at hl 1 rfl) ?_
      refine lv_if_ne (tgt := 157) hx hb dL_law_142 (by decide) (fun _ => ?_) (fun z => absurd z (by rw [hk]; decide))
      refine lv_goto (tgt := 854) hx hb dL_law_157 (by decide) ?_
      refine W.widen (k := 21 + i) (n := 110006 + 6 * i + 2 * N) (by omega) (by omega) ?_
      exact kk _ _ _ _ _ _ _ _ (sg_mk hF1) hP hD hS (lv_sub hl [2, 3, 4, 5, 6] rfl)
    · refine lv_iload hx hb dL_law_140 (lv_at hl 1 rfl) ?_
      refine lv_if_ne (tgt := 157) hx hb dL_law_142 (by decide) (fun z => absurd hk z) (fun _ => ?_)
      refine lv_aload_n hx hb dL_law_145 rfl (lv_at hl 5 rfl) ?_
      refine lv_iconst (v := 0) hx hb dL_law_146 (by decide) ?_
      refine va_lald hx hb hK hP 0 2 rfl rfl sx_in01 dL_law_147 ?_
      refine lv_iload hx hb dL_law_148 (lv_at hl 0 rfl) ?_
      refine lv_i2l (v := r.toInt64) hx hb dL_law_150 rfl ?_
      refine W.lcmp hx hb dL_law_151 ?_
      refine lv_if_eq (tgt := 157) hx hb dL_law_152 (by decide) (fun _ => ?_) (fun z => absurd ((lg_cmp_eq _ _).mpr hO) z)
      refine lv_goto (tgt := 854) hx hb dL_law_157 (by decide) ?_
      refine W.widen (k := 21 + i) (n := 110006 + 6 * i + 2 * N) (by omega) (by omega) ?_
      exact kk _ _ _ _ _ _ _ _ (sg_mk hF1) hP hD hS (lv_sub hl [2, 3, 4, 5, 6] rfl)
  · refine lv_aload_n hx hb dL_law_104 rfl (lv_at hl 1 rfl) ?_
    refine lv_aload_n hx hb dL_law_105 rfl (lv_at hl 0 rfl) ?_
    refine lv_iload hx hb dL_law_106 (lv_at hl 4 rfl) ?_
    refine lv_iconst (v := 1) hx hb dL_law_108 (by decide) ?_
    refine lv_iadd hx hb dL_law_109 ?_
    rw [show (nI i) + 1 = nI (i + 1) from nI_add i 1]
    refine sy_sld (j := i + 1) hx hb hX hbl hbA hS (by omega) (by omega) dL_law_110 ?_
    refine lv_aload_n hx hb dL_law_111 rfl (lv_at hl 3 rfl) ?_
    refine sy_cSg (mc := 1) (ms := 16385) (wc := [(oo, .inl (cJ, 1, .inr (.inl O)))] ++ wX h rr cc cI N Rr C (nI L) (nI (sr_tot os)) (nI os.length) sl go gi fr la re) (wr := wM g fA wA nA tA rA dA oA cI cZ F Wd Nm Tg Rc Dt Rt th (nI L) (nI (1 + sr_tot os)) sl go gi) (w1 := (fun q => [(oo, .inl (cJ, 1, .inr (.inl O')))] ++ w1 q)) (As := [.ref h, .int (xs (i + 1)), .ref oo]) (rest := []) ⟨hx, hb, hml, hown, hbg⟩ (hM1 H.size) (vx_cwSW 3 hbg (bg_SS bw_130 bw_131 bw_33 bw_132) rfl rfl rfl (by decide +kernel) ⟨Nat.le_of_ble_eq_true rfl, Nat.le_of_ble_eq_true rfl⟩) hK [0, 2] rfl hP hD hS hA hG [0, 1, 2, 3] [4, 5, 6, 7, 8, 9, 10, 11] rfl rfl rfl rfl (by decide) rfl hl.1 rfl (Nat.le_of_ble_eq_true rfl) dL_law_112 ⟨by show _ ≤ 601024; omega, by show _ ≤ 7293033; omega⟩ (fun q H locs hP hD hS => ?_)
    obtain ⟨cc1, os1, L1, R1, C1, F1, Wd1, Nm1, Tg1, Rc1, Dt1, Rt1, sl1, go1, gi1, fr1, la1, re1, e1, rfl, hF1⟩ := hJ q
    rw [e1] at hP hD
    have hP : va_P D vwC ([(oo, .inl (cJ, 1, .inr (.inl O')))] ++ wX h rr cc1 cI 16385 R1 C1 (nI L1) (nI (sr_tot os1)) (nI os1.length) sl1 go1 gi1 fr1 la1 re1 ++ wM g fA wA nA tA rA dA oA cI cZ F Wd Nm Tg Rc Dt Rt th (nI L) (nI (1 + sr_tot os)) sl go gi) H := hP.sub [8, 9, 10, 11, 0, 1, 2, 3, 4, 5, 6, 7] rfl
    have hD : va_D A ([(oo, .inl (cJ, 1, .inr (.inl O')))] ++ wX h rr cc1 cI 16385 R1 C1 (nI L1) (nI (sr_tot os1)) (nI os1.length) sl1 go1 gi1 fr1 la1 re1 ++ wM g fA wA nA tA rA dA oA cI cZ F Wd Nm Tg Rc Dt Rt th (nI L) (nI (1 + sr_tot os)) sl go gi) := hD.sub [8, 9, 10, 11, 0, 1, 2, 3, 4, 5, 6, 7] (by decide) rfl
    refine lv_istore (lv' := [(5, .int 0), (0, .ref b), (1, .ref h), (2, .ref g), (3, .ref oo), (4, .int (nI i))]) hx hb dL_law_115 hl (by decide) rfl (fun ls hl => ?_)
    refine lv_aload_n hx hb dL_law_117 rfl (lv_at hl 3 rfl) ?_
    refine lv_aload_n hx hb dL_law_118 rfl (lv_at hl 1 rfl) ?_
    refine lv_iload hx hb dL_law_119 (lv_at hl 5 rfl) ?_
    refine lv_iconst (v := 1) hx hb dL_law_121 (by decide) ?_
    refine lv_iadd hx hb dL_law_122 ?_
    rw [show (nI i) + 1 = nI (i + 1) from nI_add i 1]
    refine sy_sld (j := i + 1) hx hb hX hbl hbA hS (by omega) (by omega) dL_law_123 ?_
    refine sy_cVi (mc := 0) (ms := 0) (wc := wM g fA wA nA tA rA dA oA cI cZ F Wd Nm Tg Rc Dt Rt th (nI L) (nI (1 + sr_tot os)) sl go gi) (wr := [(oo, .inl (cJ, 1, .inr (.inl O')))] ++ wX h rr cc1 cI 16385 R1 C1 (nI L1) (nI (sr_tot os1)) (nI os1.length) sl1 go1 gi1 fr1 la1 re1) (w1 := wM g fA wA nA tA rA dA oA cI cZ F1 Wd1 Nm1 Tg1 Rc1 Dt1 Rt1 0 (nI L1) (nI (1 + sr_tot os1)) sl1 go1 gi1) (ci := 1) (q0 := 0) (As := [.int (xs (i + 1))]) (rest := []) ⟨hx, hb, hml, hown, hbg⟩ (hM2 H.size) (cwV 1 hbg (bg_V bw_340 bw_341 bw_342 bw_35 bw_343) rfl rfl rfl (by decide +kernel) ⟨Nat.le_of_ble_eq_true rfl, Nat.le_of_ble_eq_true rfl⟩) hK [0, 1] rfl hP hD hS hA [4, 5, 6, 7, 8, 9, 10, 11] [0, 1, 2, 3] rfl rfl rfl rfl (by decide) rfl rfl rfl hl.1 rfl (Nat.le_of_ble_eq_true rfl) dL_law_124 ⟨by show _ ≤ 601024; omega, by show _ ≤ 7293033; omega⟩ (fun H locs hP hD hS => ?_)
    have hP : va_P D vwC ([(oo, .inl (cJ, 1, .inr (.inl O')))] ++ wX h rr cc1 cI 16385 R1 C1 (nI L1) (nI (sr_tot os1)) (nI os1.length) sl1 go1 gi1 fr1 la1 re1 ++ wM g fA wA nA tA rA dA oA cI cZ F1 Wd1 Nm1 Tg1 Rc1 Dt1 Rt1 0 (nI L1) (nI (1 + sr_tot os1)) sl1 go1 gi1) H := hP.sub [0, 1, 2, 3, 4, 5, 6, 7, 8, 9, 10, 11] rfl
    have hD : va_D A ([(oo, .inl (cJ, 1, .inr (.inl O')))] ++ wX h rr cc1 cI 16385 R1 C1 (nI L1) (nI (sr_tot os1)) (nI os1.length) sl1 go1 gi1 fr1 la1 re1 ++ wM g fA wA nA tA rA dA oA cI cZ F1 Wd1 Nm1 Tg1 Rc1 Dt1 Rt1 0 (nI L1) (nI (1 + sr_tot os1)) sl1 go1 gi1) := hD.sub [0, 1, 2, 3, 4, 5, 6, 7, 8, 9, 10, 11] (by decide) rfl
    refine lv_istore (lv' := [(6, .int r), (5, .int 0), (0, .ref b), (1, .ref h), (2, .ref g), (3, .ref oo), (4, .int (nI i))]) hx hb dL_law_127 hl (by decide) rfl (fun ls hl => ?_)
    refine lv_aload_n hx hb dL_law_129 rfl (lv_at hl 4 rfl) ?_
    refine sy_cVi (mc := 0) (ms := 0) (wc := wM g fA wA nA tA rA dA oA cI cZ F1 Wd1 Nm1 Tg1 Rc1 Dt1 Rt1 0 (nI L1) (nI (1 + sr_tot os1)) sl1 go1 gi1) (wr := [(oo, .inl (cJ, 1, .inr (.inl O')))] ++ wX h rr cc1 cI 16385 R1 C1 (nI L1) (nI (sr_tot os1)) (nI os1.length) sl1 go1 gi1 fr1 la1 re1) (w1 := wM g fA wA nA tA rA dA oA cI cZ F1 Wd1 Nm1 Tg1 Rc1 Dt1 Rt1 0 (nI L1) (nI (1 + sr_tot os1)) sl1 go1 gi1) (ci := 1) (q0 := 0) (As := []) (rest := []) ⟨hx, hb, hml, hown, hbg⟩ (ct_M_thrown l D g fA wA nA tA rA dA oA cI cZ F1 Wd1 Nm1 Tg1 Rc1 Dt1 Rt1 0 (nI L1) (nI (1 + sr_tot os1)) sl1 go1 gi1 H.size) (cwV 0 hbg (bg_V bw_336 bw_337 bw_338 bw_35 bw_339) rfl rfl rfl (by decide +kernel) ⟨Nat.le_of_ble_eq_true rfl, Nat.le_of_ble_eq_true rfl⟩) hK [0, 1] rfl hP hD hS hA [4, 5, 6, 7, 8, 9, 10, 11] [0, 1, 2, 3] rfl rfl rfl rfl (by decide) rfl rfl rfl hl.1 rfl (Nat.le_of_ble_eq_true rfl) dL_law_130 ⟨by show _ ≤ 601024; omega, by show _ ≤ 7293033; omega⟩ (fun H locs hP hD hS => ?_)
    have hP : va_P D vwC ([(oo, .inl (cJ, 1, .inr (.inl O')))] ++ wX h rr cc1 cI 16385 R1 C1 (nI L1) (nI (sr_tot os1)) (nI os1.length) sl1 go1 gi1 fr1 la1 re1 ++ wM g fA wA nA tA rA dA oA cI cZ F1 Wd1 Nm1 Tg1 Rc1 Dt1 Rt1 0 (nI L1) (nI (1 + sr_tot os1)) sl1 go1 gi1) H := hP.sub [0, 1, 2, 3, 4, 5, 6, 7, 8, 9, 10, 11] rfl
    have hD : va_D A ([(oo, .inl (cJ, 1, .inr (.inl O')))] ++ wX h rr cc1 cI 16385 R1 C1 (nI L1) (nI (sr_tot os1)) (nI os1.length) sl1 go1 gi1 fr1 la1 re1 ++ wM g fA wA nA tA rA dA oA cI cZ F1 Wd1 Nm1 Tg1 Rc1 Dt1 Rt1 0 (nI L1) (nI (1 + sr_tot os1)) sl1 go1 gi1) := hD.sub [0, 1, 2, 3, 4, 5, 6, 7, 8, 9, 10, 11] (by decide) rfl
    refine lv_iload hx hb dL_law_133 (lv_at hl 1 rfl) ?_
    refine lv_icmp_eq (tgt := 140) hx hb dL_law_135 (by decide) (fun _ => ?_) (fun z => absurd rfl z)
    refine lv_iload hx hb dL_law_140 (lv_at hl 1 rfl) ?_
    refine lv_if_ne (tgt := 157) hx hb dL_law_142 (by decide) (fun z => absurd rfl z) (fun _ => ?_)
    refine lv_aload_n hx hb dL_law_145 rfl (lv_at hl 5 rfl) ?_
    refine lv_iconst (v := 0) hx hb dL_law_146 (by decide) ?_
    refine va_lald hx hb hK hP 0 2 rfl rfl sx_in01 dL_law_147 ?_
    refine lv_iload hx hb dL_law_148 (lv_at hl 0 rfl) ?_
    refine lv_i2l (v := r.toInt64) hx hb dL_law_150 rfl ?_
    refine W.lcmp hx hb dL_law_151 ?_
    refine lv_if_eq (tgt := 157) hx hb dL_law_152 (by decide) (fun _ => ?_) (fun z => absurd ((lg_cmp_eq _ _).mpr hO) z)
    refine lv_goto (tgt := 854) hx hb dL_law_157 (by decide) ?_
    refine W.widen (k := 21 + i) (n := 110006 + 6 * i + 2 * 16385) (by omega) (by omega) ?_
    exact kk _ _ _ _ _ _ _ _ (sg_mk hF1) hP hD hS (lv_sub hl [2, 3, 4, 5, 6] rfl)

set_option maxHeartbeats 4000000 in
set_option maxRecDepth 100000 in
theorem lo_make (hx : p.tables.exec = Jvm.exec) (hb : c.code = bL_law) (hml : c.maxLocals = 7) (hown : s.vm.findClass RL = some m.cls) (hbg : ∀ w ∈ sr_big, w.before args s = true) (hK : va_K D vwC [(cI, .int), (cZ, .boolean), (cJ, .long)] s) (hA : ∀ q : Nat, s.heap.size ≤ q → A q) (hbA : ¬ A b) (hX : va_X b L0 xs s s.heap) (hbl : b < s.heap.size) (hst : l.stackTraces = false) (hG : sx_H A s s.heap) (hL0 : L0 ≤ 2048) (i N : Nat) (hi : i + 4 ≤ L0) (wx wm : va_W) (th : Int32) (O : Nat → Int64) (H : Heap) (locs : List Loc) (ls : Array Slot) (hI : sg_W h rr g fA wA nA tA rA dA oA cI cZ th N wx wm) (hP : va_P D vwC ([(oo, .inl (cJ, 1, .inr (.inl O)))] ++ wx ++ wm) H) (hD : va_D A ([(oo, .inl (cJ, 1, .inr (.inl O)))] ++ wx ++ wm)) (hS : va_S A s.heap H locs) (hl : lv_has ls 7 [(0, .ref b), (1, .ref h), (2, .ref g), (3, .ref oo), (4, .int (nI i))]) (kk : ∀ (N : Nat) (wx wm : va_W) (th : Int32) (O : Nat → Int64) (H : Heap) (locs : List Loc) (ls : Array Slot), sg_W h rr g fA wA nA tA rA dA oA cI cZ th N wx wm → va_P D vwC ([(oo, .inl (cJ, 1, .inr (.inl O)))] ++ wx ++ wm) H → va_D A ([(oo, .inl (cJ, 1, .inr (.inl O)))] ++ wx ++ wm) → va_S A s.heap H locs → lv_has ls 7 [(0, .ref b), (1, .ref h), (2, .ref g), (3, .ref oo), (4, .int (nI i))] → W p l e room_1 s m args below meth c H locs (21 + i) (110006 + 6 * i + 2 * N) Q (F0 m 854 ls [])) : W p l e room_1 s m args below meth c H locs (20 + i) (110000 + 6 * i + 2 * N) Q (F0 m 160 ls []) := by
  obtain ⟨cc, os, L, Rr, C, F, Wd, Nm, Tg, Rc, Dt, Rt, sl, go, gi, fr, la, re, rfl, rfl, hF⟩ := hI
  have hN9 : N ≤ 16385 := by have := hF.1.2.2.2.2; omega
  obtain ⟨k, r, w1, w2, O', hM1, hM2, ⟨cc1, os1, L1, R1, C1, F1, Wd1, Nm1, Tg1, Rc1, Dt1, Rt1, sl1, go1, gi1, fr1, la1, re1, rfl, rfl, hF1⟩, hk⟩ := st_make (l := l) (D := D) (h := h) (rr := rr) (cc := cc) (g := g) (fA := fA) (wA := wA) (nA := nA) (tA := tA) (rA := rA) (dA := dA) (oA := oA) (cI := cI) (cZ := cZ) (os := os) (L := L) (N := N) (C := C) (F := F) (Wd := Wd) (Nm := Nm) (Tg := Tg) (Rc := Rc) (Dt := Dt) (Rt := Rt) (sl := sl) (go := go) (gi := gi) (fr := fr) (la := la) (re := re) (th := th) (R := Rr) (cJ := cJ) (oo := oo) (O := O) hst hF (xs (i + 1)) (xs (i + 2))
  refine lv_aload_n hx hb dL_law_160 rfl (lv_at hl 1 rfl) ?_
  refine lv_aload_n hx hb dL_law_161 rfl (lv_at hl 0 rfl) ?_
  refine lv_iload hx hb dL_law_162 (lv_at hl 4 rfl) ?_
  refine lv_iconst (v := 1) hx hb dL_law_164 (by decide) ?_
  refine lv_iadd hx hb dL_law_165 ?_
  rw [show (nI i) + 1 = nI (i + 1) from nI_add i 1]
  refine sy_sld (j := i + 1) hx hb hX hbl hbA hS (by omega) (by omega) dL_law_166 ?_
  refine lv_aload_n hx hb dL_law_167 rfl (lv_at hl 0 rfl) ?_
  refine lv_iload hx hb dL_law_168 (lv_at hl 4 rfl) ?_
  refine lv_iconst (v := 2) hx hb dL_law_170 (by decide) ?_
  refine lv_iadd hx hb dL_law_171 ?_
  rw [show (nI i) + 2 = nI (i + 2) from nI_add i 2]
  refine sy_sld (j := i + 2) hx hb hX hbl hbA hS (by omega) (by omega) dL_law_172 ?_
  refine lv_aload_n hx hb dL_law_173 rfl (lv_at hl 3 rfl) ?_
  refine sy_cSg (mc := 1) (ms := 6) (wc := [(oo, .inl (cJ, 1, .inr (.inl O)))] ++ wX h rr cc cI N Rr C (nI L) (nI (sr_tot os)) (nI os.length) sl go gi fr la re) (wr := wM g fA wA nA tA rA dA oA cI cZ F Wd Nm Tg Rc Dt Rt th (nI L) (nI (1 + sr_tot os)) sl go gi) (w1 := (fun _ => [(oo, .inl (cJ, 1, .inr (.inl O')))] ++ wX h rr cc1 cI N R1 C1 (nI L1) (nI (sr_tot os1)) (nI os1.length) sl1 go1 gi1 fr1 la1 re1)) (As := [.ref h, .int (xs (i + 1)), .int (xs (i + 2)), .ref oo]) (rest := []) ⟨hx, hb, hml, hown, hbg⟩ (hM1 H.size) (vx_cwSW 4 hbg (bg_SS bw_189 bw_190 bw_33 bw_191) rfl rfl rfl (by decide +kernel) ⟨Nat.le_of_ble_eq_true rfl, Nat.le_of_ble_eq_true rfl⟩) hK [0, 2] rfl hP hD hS hA hG [0, 1, 2, 3] [4, 5, 6, 7, 8, 9, 10, 11] rfl rfl rfl rfl (by decide) rfl hl.1 rfl (Nat.le_of_ble_eq_true rfl) dL_law_174 ⟨by show _ ≤ 601024; omega, by show _ ≤ 7293033; omega⟩ (fun q H locs hP hD hS => ?_)
  have hP : va_P D vwC ([(oo, .inl (cJ, 1, .inr (.inl O')))] ++ wX h rr cc1 cI N R1 C1 (nI L1) (nI (sr_tot os1)) (nI os1.length) sl1 go1 gi1 fr1 la1 re1 ++ wM g fA wA nA tA rA dA oA cI cZ F Wd Nm Tg Rc Dt Rt th (nI L) (nI (1 + sr_tot os)) sl go gi) H := hP.sub [8, 9, 10, 11, 0, 1, 2, 3, 4, 5, 6, 7] rfl
  have hD : va_D A ([(oo, .inl (cJ, 1, .inr (.inl O')))] ++ wX h rr cc1 cI N R1 C1 (nI L1) (nI (sr_tot os1)) (nI os1.length) sl1 go1 gi1 fr1 la1 re1 ++ wM g fA wA nA tA rA dA oA cI cZ F Wd Nm Tg Rc Dt Rt th (nI L) (nI (1 + sr_tot os)) sl go gi) := hD.sub [8, 9, 10, 11, 0, 1, 2, 3, 4, 5, 6, 7] (by decide) rfl
  refine lv_istore (lv' := [(5, .int k), (0, .ref b), (1, .ref h), (2, .ref g), (3, .ref oo), (4, .int (nI i))]) hx hb dL_law_177 hl (by decide) rfl (fun ls hl => ?_)
  refine lv_aload_n hx hb dL_law_179 rfl (lv_at hl 3 rfl) ?_
  refine lv_aload_n hx hb dL_law_180 rfl (lv_at hl 1 rfl) ?_
  refine lv_iload hx hb dL_law_181 (lv_at hl 5 rfl) ?_
  refine lv_iconst (v := 1) hx hb dL_law_183 (by decide) ?_
  refine lv_iadd hx hb dL_law_184 ?_
  rw [show (nI i) + 1 = nI (i + 1) from nI_add i 1]
  refine sy_sld (j := i + 1) hx hb hX hbl hbA hS (by omega) (by omega) dL_law_185 ?_
  refine lv_aload_n hx hb dL_law_186 rfl (lv_at hl 1 rfl) ?_
  refine lv_iload hx hb dL_law_187 (lv_at hl 5 rfl) ?_
  refine lv_iconst (v := 2) hx hb dL_law_189 (by decide) ?_
  refine lv_iadd hx hb dL_law_190 ?_
  rw [show (nI i) + 2 = nI (i + 2) from nI_add i 2]
  refine sy_sld (j := i + 2) hx hb hX hbl hbA hS (by omega) (by omega) dL_law_191 ?_
  refine sy_cVi (mc := 0) (ms := 0) (wc := wM g fA wA nA tA rA dA oA cI cZ F Wd Nm Tg Rc Dt Rt th (nI L) (nI (1 + sr_tot os)) sl go gi) (wr := [(oo, .inl (cJ, 1, .inr (.inl O')))] ++ wX h rr cc1 cI N R1 C1 (nI L1) (nI (sr_tot os1)) (nI os1.length) sl1 go1 gi1 fr1 la1 re1) (w1 := wM g fA wA nA tA rA dA oA cI cZ F1 Wd1 Nm1 Tg1 Rc1 Dt1 Rt1 k (nI L1) (nI (1 + sr_tot os1)) sl1 go1 gi1) (ci := 1) (q0 := 0) (As := [.int (xs (i + 1)), .int (xs (i + 2))]) (rest := []) ⟨hx, hb, hml, hown, hbg⟩ (hM2 H.size) (cwV 2 hbg (bg_V bw_347 bw_348 bw_349 bw_35 bw_350) rfl rfl rfl (by decide +kernel) ⟨Nat.le_of_ble_eq_true rfl, Nat.le_of_ble_eq_true rfl⟩) hK [0, 1] rfl hP hD hS hA [4, 5, 6, 7, 8, 9, 10, 11] [0, 1, 2, 3] rfl rfl rfl rfl (by decide) rfl rfl rfl hl.1 rfl (Nat.le_of_ble_eq_true rfl) dL_law_192 ⟨by show _ ≤ 601024; omega, by show _ ≤ 7293033; omega⟩ (fun H locs hP hD hS => ?_)
  have hP : va_P D vwC ([(oo, .inl (cJ, 1, .inr (.inl O')))] ++ wX h rr cc1 cI N R1 C1 (nI L1) (nI (sr_tot os1)) (nI os1.length) sl1 go1 gi1 fr1 la1 re1 ++ wM g fA wA nA tA rA dA oA cI cZ F1 Wd1 Nm1 Tg1 Rc1 Dt1 Rt1 k (nI L1) (nI (1 + sr_tot os1)) sl1 go1 gi1) H := hP.sub [0, 1, 2, 3, 4, 5, 6, 7, 8, 9, 10, 11] rfl
  have hD : va_D A ([(oo, .inl (cJ, 1, .inr (.inl O')))] ++ wX h rr cc1 cI N R1 C1 (nI L1) (nI (sr_tot os1)) (nI os1.length) sl1 go1 gi1 fr1 la1 re1 ++ wM g fA wA nA tA rA dA oA cI cZ F1 Wd1 Nm1 Tg1 Rc1 Dt1 Rt1 k (nI L1) (nI (1 + sr_tot os1)) sl1 go1 gi1) := hD.sub [0, 1, 2, 3, 4, 5, 6, 7, 8, 9, 10, 11] (by decide) rfl
  refine lv_istore (lv' := [(6, .int r), (5, .int k), (0, .ref b), (1, .ref h), (2, .ref g), (3, .ref oo), (4, .int (nI i))]) hx hb dL_law_195 hl (by decide) rfl (fun ls hl => ?_)
  refine lv_aload_n hx hb dL_law_197 rfl (lv_at hl 4 rfl) ?_
  refine sy_cVi (mc := 0) (ms := 0) (wc := wM g fA wA nA tA rA dA oA cI cZ F1 Wd1 Nm1 Tg1 Rc1 Dt1 Rt1 k (nI L1) (nI (1 + sr_tot os1)) sl1 go1 gi1) (wr := [(oo, .inl (cJ, 1, .inr (.inl O')))] ++ wX h rr cc1 cI N R1 C1 (nI L1) (nI (sr_tot os1)) (nI os1.length) sl1 go1 gi1 fr1 la1 re1) (w1 := wM g fA wA nA tA rA dA oA cI cZ F1 Wd1 Nm1 Tg1 Rc1 Dt1 Rt1 k (nI L1) (nI (1 + sr_tot os1)) sl1 go1 gi1) (ci := 1) (q0 := 0) (As := []) (rest := []) ⟨hx, hb, hml, hown, hbg⟩ (ct_M_thrown l D g fA wA nA tA rA dA oA cI cZ F1 Wd1 Nm1 Tg1 Rc1 Dt1 Rt1 k (nI L1) (nI (1 + sr_tot os1)) sl1 go1 gi1 H.size) (cwV 0 hbg (bg_V bw_336 bw_337 bw_338 bw_35 bw_339) rfl rfl rfl (by decide +kernel) ⟨Nat.le_of_ble_eq_true rfl, Nat.le_of_ble_eq_true rfl⟩) hK [0, 1] rfl hP hD hS hA [4, 5, 6, 7, 8, 9, 10, 11] [0, 1, 2, 3] rfl rfl rfl rfl (by decide) rfl rfl rfl hl.1 rfl (Nat.le_of_ble_eq_true rfl) dL_law_198 ⟨by show _ ≤ 601024; omega, by show _ ≤ 7293033; omega⟩ (fun H locs hP hD hS => ?_)
  have hP : va_P D vwC ([(oo, .inl (cJ, 1, .inr (.inl O')))] ++ wX h rr cc1 cI N R1 C1 (nI L1) (nI (sr_tot os1)) (nI os1.length) sl1 go1 gi1 fr1 la1 re1 ++ wM g fA wA nA tA rA dA oA cI cZ F1 Wd1 Nm1 Tg1 Rc1 Dt1 Rt1 k (nI L1) (nI (1 + sr_tot os1)) sl1 go1 gi1) H := hP.sub [0, 1, 2, 3, 4, 5, 6, 7, 8, 9, 10, 11] rfl
  have hD : va_D A ([(oo, .inl (cJ, 1, .inr (.inl O')))] ++ wX h rr cc1 cI N R1 C1 (nI L1) (nI (sr_tot os1)) (nI os1.length) sl1 go1 gi1 fr1 la1 re1 ++ wM g fA wA nA tA rA dA oA cI cZ F1 Wd1 Nm1 Tg1 Rc1 Dt1 Rt1 k (nI L1) (nI (1 + sr_tot os1)) sl1 go1 gi1) := hD.sub [0, 1, 2, 3, 4, 5, 6, 7, 8, 9, 10, 11] (by decide) rfl
  refine lv_iload hx hb dL_law_201 (lv_at hl 1 rfl) ?_
  refine lv_icmp_eq (tgt := 208) hx hb dL_law_203 (by decide) (fun _ => ?_) (fun z => absurd rfl z)
  rcases hk with hk | ⟨hk, hO⟩
  · refine lv_iload hx hb dL_law_208 (lv_at hl 1 rfl) ?_
    refine lv_if_ne (tgt := 225) hx hb dL_law_210 (by decide) (fun _ => ?_) (fun z => absurd z (by rw [hk]; decide))
    refine lv_goto (tgt := 854) hx hb dL_law_225 (by decide) ?_
    refine W.widen (k := 21 + i) (n := 110006 + 6 * i + 2 * N) (by omega) (by omega) ?_
    exact kk _ _ _ _ _ _ _ _ (sg_mk hF1) hP hD hS (lv_sub hl [2, 3, 4, 5, 6] rfl)
  · refine lv_iload hx hb dL_law_208 (lv_at hl 1 rfl) ?_
    refine lv_if_ne (tgt := 225) hx hb dL_law_210 (by decide) (fun z => absurd hk z) (fun _ => ?_)
    refine lv_aload_n hx hb dL_law_213 rfl (lv_at hl 5 rfl) ?_
    refine lv_iconst (v := 0) hx hb dL_law_214 (by decide) ?_
    refine va_lald hx hb hK hP 0 2 rfl rfl sx_in01 dL_law_215 ?_
    refine lv_iload hx hb dL_law_216 (lv_at hl 0 rfl) ?_
    refine lv_i2l (v := r.toInt64) hx hb dL_law_218 rfl ?_
    refine W.lcmp hx hb dL_law_219 ?_
    refine lv_if_eq (tgt := 225) hx hb dL_law_220 (by decide) (fun _ => ?_) (fun z => absurd ((lg_cmp_eq _ _).mpr hO) z)
    refine lv_goto (tgt := 854) hx hb dL_law_225 (by decide) ?_
    refine W.widen (k := 21 + i) (n := 110006 + 6 * i + 2 * N) (by omega) (by omega) ?_
    exact kk _ _ _ _ _ _ _ _ (sg_mk hF1) hP hD hS (lv_sub hl [2, 3, 4, 5, 6] rfl)

set_option maxHeartbeats 4000000 in
set_option maxRecDepth 100000 in
theorem lo_set (hx : p.tables.exec = Jvm.exec) (hb : c.code = bL_law) (hml : c.maxLocals = 7) (hown : s.vm.findClass RL = some m.cls) (hbg : ∀ w ∈ sr_big, w.before args s = true) (hK : va_K D vwC [(cI, .int), (cZ, .boolean), (cJ, .long)] s) (hA : ∀ q : Nat, s.heap.size ≤ q → A q) (hbA : ¬ A b) (hX : va_X b L0 xs s s.heap) (hbl : b < s.heap.size) (hst : l.stackTraces = false) (hG : sx_H A s s.heap) (hL0 : L0 ≤ 2048) (i N : Nat) (hi : i + 4 ≤ L0) (wx wm : va_W) (th : Int32) (O : Nat → Int64) (H : Heap) (locs : List Loc) (ls : Array Slot) (hI : sg_W h rr g fA wA nA tA rA dA oA cI cZ th N wx wm) (hP : va_P D vwC ([(oo, .inl (cJ, 1, .inr (.inl O)))] ++ wx ++ wm) H) (hD : va_D A ([(oo, .inl (cJ, 1, .inr (.inl O)))] ++ wx ++ wm)) (hS : va_S A s.heap H locs) (hl : lv_has ls 7 [(0, .ref b), (1, .ref h), (2, .ref g), (3, .ref oo), (4, .int (nI i))]) (kk : ∀ (N : Nat) (wx wm : va_W) (th : Int32) (O : Nat → Int64) (H : Heap) (locs : List Loc) (ls : Array Slot), sg_W h rr g fA wA nA tA rA dA oA cI cZ th N wx wm → va_P D vwC ([(oo, .inl (cJ, 1, .inr (.inl O)))] ++ wx ++ wm) H → va_D A ([(oo, .inl (cJ, 1, .inr (.inl O)))] ++ wx ++ wm) → va_S A s.heap H locs → lv_has ls 7 [(0, .ref b), (1, .ref h), (2, .ref g), (3, .ref oo), (4, .int (nI i))] → W p l e room_1 s m args below meth c H locs (21 + i) (110006 + 6 * i + 2 * N) Q (F0 m 854 ls [])) : W p l e room_1 s m args below meth c H locs (20 + i) (110000 + 6 * i + 2 * N) Q (F0 m 228 ls []) := by
  obtain ⟨cc, os, L, Rr, C, F, Wd, Nm, Tg, Rc, Dt, Rt, sl, go, gi, fr, la, re, rfl, rfl, hF⟩ := hI
  have hN9 : N ≤ 16385 := by have := hF.1.2.2.2.2; omega
  obtain ⟨k, r, w1, w2, O', hM1, hM2, ⟨cc1, os1, L1, R1, C1, F1, Wd1, Nm1, Tg1, Rc1, Dt1, Rt1, sl1, go1, gi1, fr1, la1, re1, rfl, rfl, hF1⟩, hk⟩ := st_set (l := l) (D := D) (h := h) (rr := rr) (cc := cc) (g := g) (fA := fA) (wA := wA) (nA := nA) (tA := tA) (rA := rA) (dA := dA) (oA := oA) (cI := cI) (cZ := cZ) (os := os) (L := L) (N := N) (C := C) (F := F) (Wd := Wd) (Nm := Nm) (Tg := Tg) (Rc := Rc) (Dt := Dt) (Rt := Rt) (sl := sl) (go := go) (gi := gi) (fr := fr) (la := la) (re := re) (th := th) (R := Rr) (cJ := cJ) (oo := oo) (O := O) hst hF (xs (i + 1)) (xs (i + 2)) (xs (i + 3))
  refine lv_aload_n hx hb dL_law_228 rfl (lv_at hl 1 rfl) ?_
  refine lv_aload_n hx hb dL_law_229 rfl (lv_at hl 0 rfl) ?_
  refine lv_iload hx hb dL_law_230 (lv_at hl 4 rfl) ?_
  refine lv_iconst (v := 1) hx hb dL_law_232 (by decide) ?_
  refine lv_iadd hx hb dL_law_233 ?_
  rw [show (nI i) + 1 = nI (i + 1) from nI_add i 1]
  refine sy_sld (j := i + 1) hx hb hX hbl hbA hS (by omega) (by omega) dL_law_234 ?_
  refine lv_aload_n hx hb dL_law_235 rfl (lv_at hl 0 rfl) ?_
  refine lv_iload hx hb dL_law_236 (lv_at hl 4 rfl) ?_
  refine lv_iconst (v := 2) hx hb dL_law_238 (by decide) ?_
  refine lv_iadd hx hb dL_law_239 ?_
  rw [show (nI i) + 2 = nI (i + 2) from nI_add i 2]
  refine sy_sld (j := i + 2) hx hb hX hbl hbA hS (by omega) (by omega) dL_law_240 ?_
  refine lv_aload_n hx hb dL_law_241 rfl (lv_at hl 0 rfl) ?_
  refine lv_iload hx hb dL_law_242 (lv_at hl 4 rfl) ?_
  refine lv_iconst (v := 3) hx hb dL_law_244 (by decide) ?_
  refine lv_iadd hx hb dL_law_245 ?_
  rw [show (nI i) + 3 = nI (i + 3) from nI_add i 3]
  refine sy_sld (j := i + 3) hx hb hX hbl hbA hS (by omega) (by omega) dL_law_246 ?_
  refine lv_aload_n hx hb dL_law_247 rfl (lv_at hl 3 rfl) ?_
  refine sy_cSg (mc := 1) (ms := 6) (wc := [(oo, .inl (cJ, 1, .inr (.inl O)))] ++ wX h rr cc cI N Rr C (nI L) (nI (sr_tot os)) (nI os.length) sl go gi fr la re) (wr := wM g fA wA nA tA rA dA oA cI cZ F Wd Nm Tg Rc Dt Rt th (nI L) (nI (1 + sr_tot os)) sl go gi) (w1 := (fun _ => [(oo, .inl (cJ, 1, .inr (.inl O')))] ++ wX h rr cc1 cI N R1 C1 (nI L1) (nI (sr_tot os1)) (nI os1.length) sl1 go1 gi1 fr1 la1 re1)) (As := [.ref h, .int (xs (i + 1)), .int (xs (i + 2)), .int (xs (i + 3)), .ref oo]) (rest := []) ⟨hx, hb, hml, hown, hbg⟩ (hM1 H.size) (vx_cwSW 5 hbg (bg_SS bw_202 bw_203 bw_33 bw_204) rfl rfl rfl (by decide +kernel) ⟨Nat.le_of_ble_eq_true rfl, Nat.le_of_ble_eq_true rfl⟩) hK [0, 2] rfl hP hD hS hA hG [0, 1, 2, 3] [4, 5, 6, 7, 8, 9, 10, 11] rfl rfl rfl rfl (by decide) rfl hl.1 rfl (Nat.le_of_ble_eq_true rfl) dL_law_248 ⟨by show _ ≤ 601024; omega, by show _ ≤ 7293033; omega⟩ (fun q H locs hP hD hS => ?_)
  have hP : va_P D vwC ([(oo, .inl (cJ, 1, .inr (.inl O')))] ++ wX h rr cc1 cI N R1 C1 (nI L1) (nI (sr_tot os1)) (nI os1.length) sl1 go1 gi1 fr1 la1 re1 ++ wM g fA wA nA tA rA dA oA cI cZ F Wd Nm Tg Rc Dt Rt th (nI L) (nI (1 + sr_tot os)) sl go gi) H := hP.sub [8, 9, 10, 11, 0, 1, 2, 3, 4, 5, 6, 7] rfl
  have hD : va_D A ([(oo, .inl (cJ, 1, .inr (.inl O')))] ++ wX h rr cc1 cI N R1 C1 (nI L1) (nI (sr_tot os1)) (nI os1.length) sl1 go1 gi1 fr1 la1 re1 ++ wM g fA wA nA tA rA dA oA cI cZ F Wd Nm Tg Rc Dt Rt th (nI L) (nI (1 + sr_tot os)) sl go gi) := hD.sub [8, 9, 10, 11, 0, 1, 2, 3, 4, 5, 6, 7] (by decide) rfl
  refine lv_istore (lv' := [(5, .int k), (0, .ref b), (1, .ref h), (2, .ref g), (3, .ref oo), (4, .int (nI i))]) hx hb dL_law_251 hl (by decide) rfl (fun ls hl => ?_)
  refine lv_aload_n hx hb dL_law_253 rfl (lv_at hl 3 rfl) ?_
  refine lv_aload_n hx hb dL_law_254 rfl (lv_at hl 1 rfl) ?_
  refine lv_iload hx hb dL_law_255 (lv_at hl 5 rfl) ?_
  refine lv_iconst (v := 1) hx hb dL_law_257 (by decide) ?_
  refine lv_iadd hx hb dL_law_258 ?_
  rw [show (nI i) + 1 = nI (i + 1) from nI_add i 1]
  refine sy_sld (j := i + 1) hx hb hX hbl hbA hS (by omega) (by omega) dL_law_259 ?_
  refine lv_aload_n hx hb dL_law_260 rfl (lv_at hl 1 rfl) ?_
  refine lv_iload hx hb dL_law_261 (lv_at hl 5 rfl) ?_
  refine lv_iconst (v := 2) hx hb dL_law_263 (by decide) ?_
  refine lv_iadd hx hb dL_law_264 ?_
  rw [show (nI i) + 2 = nI (i + 2) from nI_add i 2]
  refine sy_sld (j := i + 2) hx hb hX hbl hbA hS (by omega) (by omega) dL_law_265 ?_
  refine lv_aload_n hx hb dL_law_266 rfl (lv_at hl 1 rfl) ?_
  refine lv_iload hx hb dL_law_267 (lv_at hl 5 rfl) ?_
  refine lv_iconst (v := 3) hx hb dL_law_269 (by decide) ?_
  refine lv_iadd hx hb dL_law_270 ?_
  rw [show (nI i) + 3 = nI (i + 3) from nI_add i 3]
  refine sy_sld (j := i + 3) hx hb hX hbl hbA hS (by omega) (by omega) dL_law_271 ?_
  refine sy_cVi (mc := 0) (ms := 0) (wc := wM g fA wA nA tA rA dA oA cI cZ F Wd Nm Tg Rc Dt Rt th (nI L) (nI (1 + sr_tot os)) sl go gi) (wr := [(oo, .inl (cJ, 1, .inr (.inl O')))] ++ wX h rr cc1 cI N R1 C1 (nI L1) (nI (sr_tot os1)) (nI os1.length) sl1 go1 gi1 fr1 la1 re1) (w1 := wM g fA wA nA tA rA dA oA cI cZ F1 Wd1 Nm1 Tg1 Rc1 Dt1 Rt1 k (nI L1) (nI (1 + sr_tot os1)) sl1 go1 gi1) (ci := 1) (q0 := 0) (As := [.int (xs (i + 1)), .int (xs (i + 2)), .int (xs (i + 3))]) (rest := []) ⟨hx, hb, hml, hown, hbg⟩ (hM2 H.size) (cwV 3 hbg (bg_V bw_351 bw_352 bw_353 bw_35 bw_354) rfl rfl rfl (by decide +kernel) ⟨Nat.le_of_ble_eq_true rfl, Nat.le_of_ble_eq_true rfl⟩) hK [0, 1] rfl hP hD hS hA [4, 5, 6, 7, 8, 9, 10, 11] [0, 1, 2, 3] rfl rfl rfl rfl (by decide) rfl rfl rfl hl.1 rfl (Nat.le_of_ble_eq_true rfl) dL_law_272 ⟨by show _ ≤ 601024; omega, by show _ ≤ 7293033; omega⟩ (fun H locs hP hD hS => ?_)
  have hP : va_P D vwC ([(oo, .inl (cJ, 1, .inr (.inl O')))] ++ wX h rr cc1 cI N R1 C1 (nI L1) (nI (sr_tot os1)) (nI os1.length) sl1 go1 gi1 fr1 la1 re1 ++ wM g fA wA nA tA rA dA oA cI cZ F1 Wd1 Nm1 Tg1 Rc1 Dt1 Rt1 k (nI L1) (nI (1 + sr_tot os1)) sl1 go1 gi1) H := hP.sub [0, 1, 2, 3, 4, 5, 6, 7, 8, 9, 10, 11] rfl
  have hD : va_D A ([(oo, .inl (cJ, 1, .inr (.inl O')))] ++ wX h rr cc1 cI N R1 C1 (nI L1) (nI (sr_tot os1)) (nI os1.length) sl1 go1 gi1 fr1 la1 re1 ++ wM g fA wA nA tA rA dA oA cI cZ F1 Wd1 Nm1 Tg1 Rc1 Dt1 Rt1 k (nI L1) (nI (1 + sr_tot os1)) sl1 go1 gi1) := hD.sub [0, 1, 2, 3, 4, 5, 6, 7, 8, 9, 10, 11] (by decide) rfl
  refine lv_istore (lv' := [(6, .int r), (5, .int k), (0, .ref b), (1, .ref h), (2, .ref g), (3, .ref oo), (4, .int (nI i))]) hx hb dL_law_275 hl (by decide) rfl (fun ls hl => ?_)
  refine lv_aload_n hx hb dL_law_277 rfl (lv_at hl 4 rfl) ?_
  refine sy_cVi (mc := 0) (ms := 0) (wc := wM g fA wA nA tA rA dA oA cI cZ F1 Wd1 Nm1 Tg1 Rc1 Dt1 Rt1 k (nI L1) (nI (1 + sr_tot os1)) sl1 go1 gi1) (wr := [(oo, .inl (cJ, 1, .inr (.inl O')))] ++ wX h rr cc1 cI N R1 C1 (nI L1) (nI (sr_tot os1)) (nI os1.length) sl1 go1 gi1 fr1 la1 re1) (w1 := wM g fA wA nA tA rA dA oA cI cZ F1 Wd1 Nm1 Tg1 Rc1 Dt1 Rt1 k (nI L1) (nI (1 + sr_tot os1)) sl1 go1 gi1) (ci := 1) (q0 := 0) (As := []) (rest := []) ⟨hx, hb, hml, hown, hbg⟩ (ct_M_thrown l D g fA wA nA tA rA dA oA cI cZ F1 Wd1 Nm1 Tg1 Rc1 Dt1 Rt1 k (nI L1) (nI (1 + sr_tot os1)) sl1 go1 gi1 H.size) (cwV 0 hbg (bg_V bw_336 bw_337 bw_338 bw_35 bw_339) rfl rfl rfl (by decide +kernel) ⟨Nat.le_of_ble_eq_true rfl, Nat.le_of_ble_eq_true rfl⟩) hK [0, 1] rfl hP hD hS hA [4, 5, 6, 7, 8, 9, 10, 11] [0, 1, 2, 3] rfl rfl rfl rfl (by decide) rfl rfl rfl hl.1 rfl (Nat.le_of_ble_eq_true rfl) dL_law_278 ⟨by show _ ≤ 601024; omega, by show _ ≤ 7293033; omega⟩ (fun H locs hP hD hS => ?_)
  have hP : va_P D vwC ([(oo, .inl (cJ, 1, .inr (.inl O')))] ++ wX h rr cc1 cI N R1 C1 (nI L1) (nI (sr_tot os1)) (nI os1.length) sl1 go1 gi1 fr1 la1 re1 ++ wM g fA wA nA tA rA dA oA cI cZ F1 Wd1 Nm1 Tg1 Rc1 Dt1 Rt1 k (nI L1) (nI (1 + sr_tot os1)) sl1 go1 gi1) H := hP.sub [0, 1, 2, 3, 4, 5, 6, 7, 8, 9, 10, 11] rfl
  have hD : va_D A ([(oo, .inl (cJ, 1, .inr (.inl O')))] ++ wX h rr cc1 cI N R1 C1 (nI L1) (nI (sr_tot os1)) (nI os1.length) sl1 go1 gi1 fr1 la1 re1 ++ wM g fA wA nA tA rA dA oA cI cZ F1 Wd1 Nm1 Tg1 Rc1 Dt1 Rt1 k (nI L1) (nI (1 + sr_tot os1)) sl1 go1 gi1) := hD.sub [0, 1, 2, 3, 4, 5, 6, 7, 8, 9, 10, 11] (by decide) rfl
  refine lv_iload hx hb dL_law_281 (lv_at hl 1 rfl) ?_
  refine lv_icmp_eq (tgt := 288) hx hb dL_law_283 (by decide) (fun _ => ?_) (fun z => absurd rfl z)
  rcases hk with hk | ⟨hk, hO⟩
  · refine lv_iload hx hb dL_law_288 (lv_at hl 1 rfl) ?_
    refine lv_if_ne (tgt := 305) hx hb dL_law_290 (by decide) (fun _ => ?_) (fun z => absurd z (by rw [hk]; decide))
    refine lv_goto (tgt := 854) hx hb dL_law_305 (by decide) ?_
    refine W.widen (k := 21 + i) (n := 110006 + 6 * i + 2 * N) (by omega) (by omega) ?_
    exact kk _ _ _ _ _ _ _ _ (sg_mk hF1) hP hD hS (lv_sub hl [2, 3, 4, 5, 6] rfl)
  · refine lv_iload hx hb dL_law_288 (lv_at hl 1 rfl) ?_
    refine lv_if_ne (tgt := 305) hx hb dL_law_290 (by decide) (fun z => absurd hk z) (fun _ => ?_)
    refine lv_aload_n hx hb dL_law_293 rfl (lv_at hl 5 rfl) ?_
    refine lv_iconst (v := 0) hx hb dL_law_294 (by decide) ?_
    refine va_lald hx hb hK hP 0 2 rfl rfl sx_in01 dL_law_295 ?_
    refine lv_iload hx hb dL_law_296 (lv_at hl 0 rfl) ?_
    refine lv_i2l (v := r.toInt64) hx hb dL_law_298 rfl ?_
    refine W.lcmp hx hb dL_law_299 ?_
    refine lv_if_eq (tgt := 305) hx hb dL_law_300 (by decide) (fun _ => ?_) (fun z => absurd ((lg_cmp_eq _ _).mpr hO) z)
    refine lv_goto (tgt := 854) hx hb dL_law_305 (by decide) ?_
    refine W.widen (k := 21 + i) (n := 110006 + 6 * i + 2 * N) (by omega) (by omega) ?_
    exact kk _ _ _ _ _ _ _ _ (sg_mk hF1) hP hD hS (lv_sub hl [2, 3, 4, 5, 6] rfl)

set_option maxHeartbeats 4000000 in
set_option maxRecDepth 100000 in
theorem lo_get (hx : p.tables.exec = Jvm.exec) (hb : c.code = bL_law) (hml : c.maxLocals = 7) (hown : s.vm.findClass RL = some m.cls) (hbg : ∀ w ∈ sr_big, w.before args s = true) (hK : va_K D vwC [(cI, .int), (cZ, .boolean), (cJ, .long)] s) (hA : ∀ q : Nat, s.heap.size ≤ q → A q) (hbA : ¬ A b) (hX : va_X b L0 xs s s.heap) (hbl : b < s.heap.size) (hst : l.stackTraces = false) (hG : sx_H A s s.heap) (hL0 : L0 ≤ 2048) (i N : Nat) (hi : i + 4 ≤ L0) (wx wm : va_W) (th : Int32) (O : Nat → Int64) (H : Heap) (locs : List Loc) (ls : Array Slot) (hI : sg_W h rr g fA wA nA tA rA dA oA cI cZ th N wx wm) (hP : va_P D vwC ([(oo, .inl (cJ, 1, .inr (.inl O)))] ++ wx ++ wm) H) (hD : va_D A ([(oo, .inl (cJ, 1, .inr (.inl O)))] ++ wx ++ wm)) (hS : va_S A s.heap H locs) (hl : lv_has ls 7 [(0, .ref b), (1, .ref h), (2, .ref g), (3, .ref oo), (4, .int (nI i))]) (kk : ∀ (N : Nat) (wx wm : va_W) (th : Int32) (O : Nat → Int64) (H : Heap) (locs : List Loc) (ls : Array Slot), sg_W h rr g fA wA nA tA rA dA oA cI cZ th N wx wm → va_P D vwC ([(oo, .inl (cJ, 1, .inr (.inl O)))] ++ wx ++ wm) H → va_D A ([(oo, .inl (cJ, 1, .inr (.inl O)))] ++ wx ++ wm) → va_S A s.heap H locs → lv_has ls 7 [(0, .ref b), (1, .ref h), (2, .ref g), (3, .ref oo), (4, .int (nI i))] → W p l e room_1 s m args below meth c H locs (21 + i) (110006 + 6 * i + 2 * N) Q (F0 m 854 ls [])) : W p l e room_1 s m args below meth c H locs (20 + i) (110000 + 6 * i + 2 * N) Q (F0 m 308 ls []) := by
  obtain ⟨cc, os, L, Rr, C, F, Wd, Nm, Tg, Rc, Dt, Rt, sl, go, gi, fr, la, re, rfl, rfl, hF⟩ := hI
  have hN9 : N ≤ 16385 := by have := hF.1.2.2.2.2; omega
  obtain ⟨k, r, w1, w2, O', hM1, hM2, ⟨cc1, os1, L1, R1, C1, F1, Wd1, Nm1, Tg1, Rc1, Dt1, Rt1, sl1, go1, gi1, fr1, la1, re1, rfl, rfl, hF1⟩, hk⟩ := st_get (l := l) (D := D) (h := h) (rr := rr) (cc := cc) (g := g) (fA := fA) (wA := wA) (nA := nA) (tA := tA) (rA := rA) (dA := dA) (oA := oA) (cI := cI) (cZ := cZ) (os := os) (L := L) (N := N) (C := C) (F := F) (Wd := Wd) (Nm := Nm) (Tg := Tg) (Rc := Rc) (Dt := Dt) (Rt := Rt) (sl := sl) (go := go) (gi := gi) (fr := fr) (la := la) (re := re) (th := th) (R := Rr) (cJ := cJ) (oo := oo) (O := O) hst hF (xs (i + 1)) (xs (i + 2))
  refine lv_aload_n hx hb dL_law_308 rfl (lv_at hl 1 rfl) ?_
  refine lv_aload_n hx hb dL_law_309 rfl (lv_at hl 0 rfl) ?_
  refine lv_iload hx hb dL_law_310 (lv_at hl 4 rfl) ?_
  refine lv_iconst (v := 1) hx hb dL_law_312 (by decide) ?_
  refine lv_iadd hx hb dL_law_313 ?_
  rw [show (nI i) + 1 = nI (i + 1) from nI_add i 1]
  refine sy_sld (j := i + 1) hx hb hX hbl hbA hS (by omega) (by omega) dL_law_314 ?_
  refine lv_aload_n hx hb dL_law_315 rfl (lv_at hl 0 rfl) ?_
  refine lv_iload hx hb dL_law_316 (lv_at hl 4 rfl) ?_
  refine lv_iconst (v := 2) hx hb dL_law_318 (by decide) ?_
  refine lv_iadd hx hb dL_law_319 ?_
  rw [show (nI i) + 2 = nI (i + 2) from nI_add i 2]
  refine sy_sld (j := i + 2) hx hb hX hbl hbA hS (by omega) (by omega) dL_law_320 ?_
  refine lv_aload_n hx hb dL_law_321 rfl (lv_at hl 3 rfl) ?_
  refine sy_cSg (mc := 1) (ms := 6) (wc := [(oo, .inl (cJ, 1, .inr (.inl O)))] ++ wX h rr cc cI N Rr C (nI L) (nI (sr_tot os)) (nI os.length) sl go gi fr la re) (wr := wM g fA wA nA tA rA dA oA cI cZ F Wd Nm Tg Rc Dt Rt th (nI L) (nI (1 + sr_tot os)) sl go gi) (w1 := (fun _ => [(oo, .inl (cJ, 1, .inr (.inl O')))] ++ wX h rr cc1 cI N R1 C1 (nI L1) (nI (sr_tot os1)) (nI os1.length) sl1 go1 gi1 fr1 la1 re1)) (As := [.ref h, .int (xs (i + 1)), .int (xs (i + 2)), .ref oo]) (rest := []) ⟨hx, hb, hml, hown, hbg⟩ (hM1 H.size) (vx_cwSW 4 hbg (bg_SS bw_238 bw_239 bw_33 bw_240) rfl rfl rfl (by decide +kernel) ⟨Nat.le_of_ble_eq_true rfl, Nat.le_of_ble_eq_true rfl⟩) hK [0, 2] rfl hP hD hS hA hG [0, 1, 2, 3] [4, 5, 6, 7, 8, 9, 10, 11] rfl rfl rfl rfl (by decide) rfl hl.1 rfl (Nat.le_of_ble_eq_true rfl) dL_law_322 ⟨by show _ ≤ 601024; omega, by show _ ≤ 7293033; omega⟩ (fun q H locs hP hD hS => ?_)
  have hP : va_P D vwC ([(oo, .inl (cJ, 1, .inr (.inl O')))] ++ wX h rr cc1 cI N R1 C1 (nI L1) (nI (sr_tot os1)) (nI os1.length) sl1 go1 gi1 fr1 la1 re1 ++ wM g fA wA nA tA rA dA oA cI cZ F Wd Nm Tg Rc Dt Rt th (nI L) (nI (1 + sr_tot os)) sl go gi) H := hP.sub [8, 9, 10, 11, 0, 1, 2, 3, 4, 5, 6, 7] rfl
  have hD : va_D A ([(oo, .inl (cJ, 1, .inr (.inl O')))] ++ wX h rr cc1 cI N R1 C1 (nI L1) (nI (sr_tot os1)) (nI os1.length) sl1 go1 gi1 fr1 la1 re1 ++ wM g fA wA nA tA rA dA oA cI cZ F Wd Nm Tg Rc Dt Rt th (nI L) (nI (1 + sr_tot os)) sl go gi) := hD.sub [8, 9, 10, 11, 0, 1, 2, 3, 4, 5, 6, 7] (by decide) rfl
  refine lv_istore (lv' := [(5, .int k), (0, .ref b), (1, .ref h), (2, .ref g), (3, .ref oo), (4, .int (nI i))]) hx hb dL_law_325 hl (by decide) rfl (fun ls hl => ?_)
  refine lv_aload_n hx hb dL_law_327 rfl (lv_at hl 3 rfl) ?_
  refine lv_aload_n hx hb dL_law_328 rfl (lv_at hl 1 rfl) ?_
  refine lv_iload hx hb dL_law_329 (lv_at hl 5 rfl) ?_
  refine lv_iconst (v := 1) hx hb dL_law_331 (by decide) ?_
  refine lv_iadd hx hb dL_law_332 ?_
  rw [show (nI i) + 1 = nI (i + 1) from nI_add i 1]
  refine sy_sld (j := i + 1) hx hb hX hbl hbA hS (by omega) (by omega) dL_law_333 ?_
  refine lv_aload_n hx hb dL_law_334 rfl (lv_at hl 1 rfl) ?_
  refine lv_iload hx hb dL_law_335 (lv_at hl 5 rfl) ?_
  refine lv_iconst (v := 2) hx hb dL_law_337 (by decide) ?_
  refine lv_iadd hx hb dL_law_338 ?_
  rw [show (nI i) + 2 = nI (i + 2) from nI_add i 2]
  refine sy_sld (j := i + 2) hx hb hX hbl hbA hS (by omega) (by omega) dL_law_339 ?_
  refine sy_cVi (mc := 0) (ms := 0) (wc := wM g fA wA nA tA rA dA oA cI cZ F Wd Nm Tg Rc Dt Rt th (nI L) (nI (1 + sr_tot os)) sl go gi) (wr := [(oo, .inl (cJ, 1, .inr (.inl O')))] ++ wX h rr cc1 cI N R1 C1 (nI L1) (nI (sr_tot os1)) (nI os1.length) sl1 go1 gi1 fr1 la1 re1) (w1 := wM g fA wA nA tA rA dA oA cI cZ F1 Wd1 Nm1 Tg1 Rc1 Dt1 Rt1 k (nI L1) (nI (1 + sr_tot os1)) sl1 go1 gi1) (ci := 1) (q0 := 0) (As := [.int (xs (i + 1)), .int (xs (i + 2))]) (rest := []) ⟨hx, hb, hml, hown, hbg⟩ (hM2 H.size) (cwV 2 hbg (bg_V bw_361 bw_362 bw_363 bw_35 bw_364) rfl rfl rfl (by decide +kernel) ⟨Nat.le_of_ble_eq_true rfl, Nat.le_of_ble_eq_true rfl⟩) hK [0, 1] rfl hP hD hS hA [4, 5, 6, 7, 8, 9, 10, 11] [0, 1, 2, 3] rfl rfl rfl rfl (by decide) rfl rfl rfl hl.1 rfl (Nat.le_of_ble_eq_true rfl) dL_law_340 ⟨by show _ ≤ 601024; omega, by show _ ≤ 7293033; omega⟩ (fun H locs hP hD hS => ?_)
  have hP : va_P D vwC ([(oo, .inl (cJ, 1, .inr (.inl O')))] ++ wX h rr cc1 cI N R1 C1 (nI L1) (nI (sr_tot os1)) (nI os1.length) sl1 go1 gi1 fr1 la1 re1 ++ wM g fA wA nA tA rA dA oA cI cZ F1 Wd1 Nm1 Tg1 Rc1 Dt1 Rt1 k (nI L1) (nI (1 + sr_tot os1)) sl1 go1 gi1) H := hP.sub [0, 1, 2, 3, 4, 5, 6, 7, 8, 9, 10, 11] rfl
  have hD : va_D A ([(oo, .inl (cJ, 1, .inr (.inl O')))] ++ wX h rr cc1 cI N R1 C1 (nI L1) (nI (sr_tot os1)) (nI os1.length) sl1 go1 gi1 fr1 la1 re1 ++ wM g fA wA nA tA rA dA oA cI cZ F1 Wd1 Nm1 Tg1 Rc1 Dt1 Rt1 k (nI L1) (nI (1 + sr_tot os1)) sl1 go1 gi1) := hD.sub [0, 1, 2, 3, 4, 5, 6, 7, 8, 9, 10, 11] (by decide) rfl
  refine lv_istore (lv' := [(6, .int r), (5, .int k), (0, .ref b), (1, .ref h), (2, .ref g), (3, .ref oo), (4, .int (nI i))]) hx hb dL_law_343 hl (by decide) rfl (fun ls hl => ?_)
  refine lv_aload_n hx hb dL_law_345 rfl (lv_at hl 4 rfl) ?_
  refine sy_cVi (mc := 0) (ms := 0) (wc := wM g fA wA nA tA rA dA oA cI cZ F1 Wd1 Nm1 Tg1 Rc1 Dt1 Rt1 k (nI L1) (nI (1 + sr_tot os1)) sl1 go1 gi1) (wr := [(oo, .inl (cJ, 1, .inr (.inl O')))] ++ wX h rr cc1 cI N R1 C1 (nI L1) (nI (sr_tot os1)) (nI os1.length) sl1 go1 gi1 fr1 la1 re1) (w1 := wM g fA wA nA tA rA dA oA cI cZ F1 Wd1 Nm1 Tg1 Rc1 Dt1 Rt1 k (nI L1) (nI (1 + sr_tot os1)) sl1 go1 gi1) (ci := 1) (q0 := 0) (As := []) (rest := []) ⟨hx, hb, hml, hown, hbg⟩ (ct_M_thrown l D g fA wA nA tA rA dA oA cI cZ F1 Wd1 Nm1 Tg1 Rc1 Dt1 Rt1 k (nI L1) (nI (1 + sr_tot os1)) sl1 go1 gi1 H.size) (cwV 0 hbg (bg_V bw_336 bw_337 bw_338 bw_35 bw_339) rfl rfl rfl (by decide +kernel) ⟨Nat.le_of_ble_eq_true rfl, Nat.le_of_ble_eq_true rfl⟩) hK [0, 1] rfl hP hD hS hA [4, 5, 6, 7, 8, 9, 10, 11] [0, 1, 2, 3] rfl rfl rfl rfl (by decide) rfl rfl rfl hl.1 rfl (Nat.le_of_ble_eq_true rfl) dL_law_346 ⟨by show _ ≤ 601024; omega, by show _ ≤ 7293033; omega⟩ (fun H locs hP hD hS => ?_)
  have hP : va_P D vwC ([(oo, .inl (cJ, 1, .inr (.inl O')))] ++ wX h rr cc1 cI N R1 C1 (nI L1) (nI (sr_tot os1)) (nI os1.length) sl1 go1 gi1 fr1 la1 re1 ++ wM g fA wA nA tA rA dA oA cI cZ F1 Wd1 Nm1 Tg1 Rc1 Dt1 Rt1 k (nI L1) (nI (1 + sr_tot os1)) sl1 go1 gi1) H := hP.sub [0, 1, 2, 3, 4, 5, 6, 7, 8, 9, 10, 11] rfl
  have hD : va_D A ([(oo, .inl (cJ, 1, .inr (.inl O')))] ++ wX h rr cc1 cI N R1 C1 (nI L1) (nI (sr_tot os1)) (nI os1.length) sl1 go1 gi1 fr1 la1 re1 ++ wM g fA wA nA tA rA dA oA cI cZ F1 Wd1 Nm1 Tg1 Rc1 Dt1 Rt1 k (nI L1) (nI (1 + sr_tot os1)) sl1 go1 gi1) := hD.sub [0, 1, 2, 3, 4, 5, 6, 7, 8, 9, 10, 11] (by decide) rfl
  refine lv_iload hx hb dL_law_349 (lv_at hl 1 rfl) ?_
  refine lv_icmp_eq (tgt := 356) hx hb dL_law_351 (by decide) (fun _ => ?_) (fun z => absurd rfl z)
  rcases hk with hk | ⟨hk, hO⟩
  · refine lv_iload hx hb dL_law_356 (lv_at hl 1 rfl) ?_
    refine lv_if_ne (tgt := 373) hx hb dL_law_358 (by decide) (fun _ => ?_) (fun z => absurd z (by rw [hk]; decide))
    refine lv_goto (tgt := 854) hx hb dL_law_373 (by decide) ?_
    refine W.widen (k := 21 + i) (n := 110006 + 6 * i + 2 * N) (by omega) (by omega) ?_
    exact kk _ _ _ _ _ _ _ _ (sg_mk hF1) hP hD hS (lv_sub hl [2, 3, 4, 5, 6] rfl)
  · refine lv_iload hx hb dL_law_356 (lv_at hl 1 rfl) ?_
    refine lv_if_ne (tgt := 373) hx hb dL_law_358 (by decide) (fun z => absurd hk z) (fun _ => ?_)
    refine lv_aload_n hx hb dL_law_361 rfl (lv_at hl 5 rfl) ?_
    refine lv_iconst (v := 0) hx hb dL_law_362 (by decide) ?_
    refine va_lald hx hb hK hP 0 2 rfl rfl sx_in01 dL_law_363 ?_
    refine lv_iload hx hb dL_law_364 (lv_at hl 0 rfl) ?_
    refine lv_i2l (v := r.toInt64) hx hb dL_law_366 rfl ?_
    refine W.lcmp hx hb dL_law_367 ?_
    refine lv_if_eq (tgt := 373) hx hb dL_law_368 (by decide) (fun _ => ?_) (fun z => absurd ((lg_cmp_eq _ _).mpr hO) z)
    refine lv_goto (tgt := 854) hx hb dL_law_373 (by decide) ?_
    refine W.widen (k := 21 + i) (n := 110006 + 6 * i + 2 * N) (by omega) (by omega) ?_
    exact kk _ _ _ _ _ _ _ _ (sg_mk hF1) hP hD hS (lv_sub hl [2, 3, 4, 5, 6] rfl)

set_option maxHeartbeats 4000000 in
set_option maxRecDepth 100000 in
theorem lo_put (hx : p.tables.exec = Jvm.exec) (hb : c.code = bL_law) (hml : c.maxLocals = 7) (hown : s.vm.findClass RL = some m.cls) (hbg : ∀ w ∈ sr_big, w.before args s = true) (hK : va_K D vwC [(cI, .int), (cZ, .boolean), (cJ, .long)] s) (hA : ∀ q : Nat, s.heap.size ≤ q → A q) (hbA : ¬ A b) (hX : va_X b L0 xs s s.heap) (hbl : b < s.heap.size) (hst : l.stackTraces = false) (hG : sx_H A s s.heap) (hL0 : L0 ≤ 2048) (i N : Nat) (hi : i + 4 ≤ L0) (wx wm : va_W) (th : Int32) (O : Nat → Int64) (H : Heap) (locs : List Loc) (ls : Array Slot) (hI : sg_W h rr g fA wA nA tA rA dA oA cI cZ th N wx wm) (hP : va_P D vwC ([(oo, .inl (cJ, 1, .inr (.inl O)))] ++ wx ++ wm) H) (hD : va_D A ([(oo, .inl (cJ, 1, .inr (.inl O)))] ++ wx ++ wm)) (hS : va_S A s.heap H locs) (hl : lv_has ls 7 [(0, .ref b), (1, .ref h), (2, .ref g), (3, .ref oo), (4, .int (nI i))]) (kk : ∀ (N : Nat) (wx wm : va_W) (th : Int32) (O : Nat → Int64) (H : Heap) (locs : List Loc) (ls : Array Slot), sg_W h rr g fA wA nA tA rA dA oA cI cZ th N wx wm → va_P D vwC ([(oo, .inl (cJ, 1, .inr (.inl O)))] ++ wx ++ wm) H → va_D A ([(oo, .inl (cJ, 1, .inr (.inl O)))] ++ wx ++ wm) → va_S A s.heap H locs → lv_has ls 7 [(0, .ref b), (1, .ref h), (2, .ref g), (3, .ref oo), (4, .int (nI i))] → W p l e room_1 s m args below meth c H locs (21 + i) (110006 + 6 * i + 2 * N) Q (F0 m 854 ls [])) : W p l e room_1 s m args below meth c H locs (20 + i) (110000 + 6 * i + 2 * N) Q (F0 m 376 ls []) := by
  obtain ⟨cc, os, L, Rr, C, F, Wd, Nm, Tg, Rc, Dt, Rt, sl, go, gi, fr, la, re, rfl, rfl, hF⟩ := hI
  have hN9 : N ≤ 16385 := by have := hF.1.2.2.2.2; omega
  obtain ⟨k, r, w1, w2, O', hM1, hM2, ⟨cc1, os1, L1, R1, C1, F1, Wd1, Nm1, Tg1, Rc1, Dt1, Rt1, sl1, go1, gi1, fr1, la1, re1, rfl, rfl, hF1⟩, hk⟩ := st_put (l := l) (D := D) (h := h) (rr := rr) (cc := cc) (g := g) (fA := fA) (wA := wA) (nA := nA) (tA := tA) (rA := rA) (dA := dA) (oA := oA) (cI := cI) (cZ := cZ) (os := os) (L := L) (N := N) (C := C) (F := F) (Wd := Wd) (Nm := Nm) (Tg := Tg) (Rc := Rc) (Dt := Dt) (Rt := Rt) (sl := sl) (go := go) (gi := gi) (fr := fr) (la := la) (re := re) (th := th) (R := Rr) (cJ := cJ) (oo := oo) (O := O) hst hF (xs (i + 1)) (xs (i + 2)) (xs (i + 3))
  refine lv_aload_n hx hb dL_law_376 rfl (lv_at hl 1 rfl) ?_
  refine lv_aload_n hx hb dL_law_377 rfl (lv_at hl 0 rfl) ?_
  refine lv_iload hx hb dL_law_378 (lv_at hl 4 rfl) ?_
  refine lv_iconst (v := 1) hx hb dL_law_380 (by decide) ?_
  refine lv_iadd hx hb dL_law_381 ?_
  rw [show (nI i) + 1 = nI (i + 1) from nI_add i 1]
  refine sy_sld (j := i + 1) hx hb hX hbl hbA hS (by omega) (by omega) dL_law_382 ?_
  refine lv_aload_n hx hb dL_law_383 rfl (lv_at hl 0 rfl) ?_
  refine lv_iload hx hb dL_law_384 (lv_at hl 4 rfl) ?_
  refine lv_iconst (v := 2) hx hb dL_law_386 (by decide) ?_
  refine lv_iadd hx hb dL_law_387 ?_
  rw [show (nI i) + 2 = nI (i + 2) from nI_add i 2]
  refine sy_sld (j := i + 2) hx hb hX hbl hbA hS (by omega) (by omega) dL_law_388 ?_
  refine lv_aload_n hx hb dL_law_389 rfl (lv_at hl 0 rfl) ?_
  refine lv_iload hx hb dL_law_390 (lv_at hl 4 rfl) ?_
  refine lv_iconst (v := 3) hx hb dL_law_392 (by decide) ?_
  refine lv_iadd hx hb dL_law_393 ?_
  rw [show (nI i) + 3 = nI (i + 3) from nI_add i 3]
  refine sy_sld (j := i + 3) hx hb hX hbl hbA hS (by omega) (by omega) dL_law_394 ?_
  refine lv_aload_n hx hb dL_law_395 rfl (lv_at hl 3 rfl) ?_
  refine sy_cSg (mc := 1) (ms := 6) (wc := [(oo, .inl (cJ, 1, .inr (.inl O)))] ++ wX h rr cc cI N Rr C (nI L) (nI (sr_tot os)) (nI os.length) sl go gi fr la re) (wr := wM g fA wA nA tA rA dA oA cI cZ F Wd Nm Tg Rc Dt Rt th (nI L) (nI (1 + sr_tot os)) sl go gi) (w1 := (fun _ => [(oo, .inl (cJ, 1, .inr (.inl O')))] ++ wX h rr cc1 cI N R1 C1 (nI L1) (nI (sr_tot os1)) (nI os1.length) sl1 go1 gi1 fr1 la1 re1)) (As := [.ref h, .int (xs (i + 1)), .int (xs (i + 2)), .int (xs (i + 3)), .ref oo]) (rest := []) ⟨hx, hb, hml, hown, hbg⟩ (hM1 H.size) (vx_cwSW 5 hbg (bg_SS bw_245 bw_246 bw_33 bw_247) rfl rfl rfl (by decide +kernel) ⟨Nat.le_of_ble_eq_true rfl, Nat.le_of_ble_eq_true rfl⟩) hK [0, 2] rfl hP hD hS hA hG [0, 1, 2, 3] [4, 5, 6, 7, 8, 9, 10, 11] rfl rfl rfl rfl (by decide) rfl hl.1 rfl (Nat.le_of_ble_eq_true rfl) dL_law_396 ⟨by show _ ≤ 601024; omega, by show _ ≤ 7293033; omega⟩ (fun q H locs hP hD hS => ?_)
  have hP : va_P D vwC ([(oo, .inl (cJ, 1, .inr (.inl O')))] ++ wX h rr cc1 cI N R1 C1 (nI L1) (nI (sr_tot os1)) (nI os1.length) sl1 go1 gi1 fr1 la1 re1 ++ wM g fA wA nA tA rA dA oA cI cZ F Wd Nm Tg Rc Dt Rt th (nI L) (nI (1 + sr_tot os)) sl go gi) H := hP.sub [8, 9, 10, 11, 0, 1, 2, 3, 4, 5, 6, 7] rfl
  have hD : va_D A ([(oo, .inl (cJ, 1, .inr (.inl O')))] ++ wX h rr cc1 cI N R1 C1 (nI L1) (nI (sr_tot os1)) (nI os1.length) sl1 go1 gi1 fr1 la1 re1 ++ wM g fA wA nA tA rA dA oA cI cZ F Wd Nm Tg Rc Dt Rt th (nI L) (nI (1 + sr_tot os)) sl go gi) := hD.sub [8, 9, 10, 11, 0, 1, 2, 3, 4, 5, 6, 7] (by decide) rfl
  refine lv_istore (lv' := [(5, .int k), (0, .ref b), (1, .ref h), (2, .ref g), (3, .ref oo), (4, .int (nI i))]) hx hb dL_law_399 hl (by decide) rfl (fun ls hl => ?_)
  refine lv_aload_n hx hb dL_law_401 rfl (lv_at hl 3 rfl) ?_
  refine lv_aload_n hx hb dL_law_402 rfl (lv_at hl 1 rfl) ?_
  refine lv_iload hx hb dL_law_403 (lv_at hl 5 rfl) ?_
  refine lv_iconst (v := 1) hx hb dL_law_405 (by decide) ?_
  refine lv_iadd hx hb dL_law_406 ?_
  rw [show (nI i) + 1 = nI (i + 1) from nI_add i 1]
  refine sy_sld (j := i + 1) hx hb hX hbl hbA hS (by omega) (by omega) dL_law_407 ?_
  refine lv_aload_n hx hb dL_law_408 rfl (lv_at hl 1 rfl) ?_
  refine lv_iload hx hb dL_law_409 (lv_at hl 5 rfl) ?_
  refine lv_iconst (v := 2) hx hb dL_law_411 (by decide) ?_
  refine lv_iadd hx hb dL_law_412 ?_
  rw [show (nI i) + 2 = nI (i + 2) from nI_add i 2]
  refine sy_sld (j := i + 2) hx hb hX hbl hbA hS (by omega) (by omega) dL_law_413 ?_
  refine lv_aload_n hx hb dL_law_414 rfl (lv_at hl 1 rfl) ?_
  refine lv_iload hx hb dL_law_415 (lv_at hl 5 rfl) ?_
  refine lv_iconst (v := 3) hx hb dL_law_417 (by decide) ?_
  refine lv_iadd hx hb dL_law_418 ?_
  rw [show (nI i) + 3 = nI (i + 3) from nI_add i 3]
  refine sy_sld (j := i + 3) hx hb hX hbl hbA hS (by omega) (by omega) dL_law_419 ?_
  refine sy_cVi (mc := 0) (ms := 0) (wc := wM g fA wA nA tA rA dA oA cI cZ F Wd Nm Tg Rc Dt Rt th (nI L) (nI (1 + sr_tot os)) sl go gi) (wr := [(oo, .inl (cJ, 1, .inr (.inl O')))] ++ wX h rr cc1 cI N R1 C1 (nI L1) (nI (sr_tot os1)) (nI os1.length) sl1 go1 gi1 fr1 la1 re1) (w1 := wM g fA wA nA tA rA dA oA cI cZ F1 Wd1 Nm1 Tg1 Rc1 Dt1 Rt1 k (nI L1) (nI (1 + sr_tot os1)) sl1 go1 gi1) (ci := 1) (q0 := 0) (As := [.int (xs (i + 1)), .int (xs (i + 2)), .int (xs (i + 3))]) (rest := []) ⟨hx, hb, hml, hown, hbg⟩ (hM2 H.size) (cwV 3 hbg (bg_V bw_365 bw_366 bw_367 bw_35 bw_368) rfl rfl rfl (by decide +kernel) ⟨Nat.le_of_ble_eq_true rfl, Nat.le_of_ble_eq_true rfl⟩) hK [0, 1] rfl hP hD hS hA [4, 5, 6, 7, 8, 9, 10, 11] [0, 1, 2, 3] rfl rfl rfl rfl (by decide) rfl rfl rfl hl.1 rfl (Nat.le_of_ble_eq_true rfl) dL_law_420 ⟨by show _ ≤ 601024; omega, by show _ ≤ 7293033; omega⟩ (fun H locs hP hD hS => ?_)
  have hP : va_P D vwC ([(oo, .inl (cJ, 1, .inr (.inl O')))] ++ wX h rr cc1 cI N R1 C1 (nI L1) (nI (sr_tot os1)) (nI os1.length) sl1 go1 gi1 fr1 la1 re1 ++ wM g fA wA nA tA rA dA oA cI cZ F1 Wd1 Nm1 Tg1 Rc1 Dt1 Rt1 k (nI L1) (nI (1 + sr_tot os1)) sl1 go1 gi1) H := hP.sub [0, 1, 2, 3, 4, 5, 6, 7, 8, 9, 10, 11] rfl
  have hD : va_D A ([(oo, .inl (cJ, 1, .inr (.inl O')))] ++ wX h rr cc1 cI N R1 C1 (nI L1) (nI (sr_tot os1)) (nI os1.length) sl1 go1 gi1 fr1 la1 re1 ++ wM g fA wA nA tA rA dA oA cI cZ F1 Wd1 Nm1 Tg1 Rc1 Dt1 Rt1 k (nI L1) (nI (1 + sr_tot os1)) sl1 go1 gi1) := hD.sub [0, 1, 2, 3, 4, 5, 6, 7, 8, 9, 10, 11] (by decide) rfl
  refine lv_istore (lv' := [(6, .int r), (5, .int k), (0, .ref b), (1, .ref h), (2, .ref g), (3, .ref oo), (4, .int (nI i))]) hx hb dL_law_423 hl (by decide) rfl (fun ls hl => ?_)
  refine lv_aload_n hx hb dL_law_425 rfl (lv_at hl 4 rfl) ?_
  refine sy_cVi (mc := 0) (ms := 0) (wc := wM g fA wA nA tA rA dA oA cI cZ F1 Wd1 Nm1 Tg1 Rc1 Dt1 Rt1 k (nI L1) (nI (1 + sr_tot os1)) sl1 go1 gi1) (wr := [(oo, .inl (cJ, 1, .inr (.inl O')))] ++ wX h rr cc1 cI N R1 C1 (nI L1) (nI (sr_tot os1)) (nI os1.length) sl1 go1 gi1 fr1 la1 re1) (w1 := wM g fA wA nA tA rA dA oA cI cZ F1 Wd1 Nm1 Tg1 Rc1 Dt1 Rt1 k (nI L1) (nI (1 + sr_tot os1)) sl1 go1 gi1) (ci := 1) (q0 := 0) (As := []) (rest := []) ⟨hx, hb, hml, hown, hbg⟩ (ct_M_thrown l D g fA wA nA tA rA dA oA cI cZ F1 Wd1 Nm1 Tg1 Rc1 Dt1 Rt1 k (nI L1) (nI (1 + sr_tot os1)) sl1 go1 gi1 H.size) (cwV 0 hbg (bg_V bw_336 bw_337 bw_338 bw_35 bw_339) rfl rfl rfl (by decide +kernel) ⟨Nat.le_of_ble_eq_true rfl, Nat.le_of_ble_eq_true rfl⟩) hK [0, 1] rfl hP hD hS hA [4, 5, 6, 7, 8, 9, 10, 11] [0, 1, 2, 3] rfl rfl rfl rfl (by decide) rfl rfl rfl hl.1 rfl (Nat.le_of_ble_eq_true rfl) dL_law_426 ⟨by show _ ≤ 601024; omega, by show _ ≤ 7293033; omega⟩ (fun H locs hP hD hS => ?_)
  have hP : va_P D vwC ([(oo, .inl (cJ, 1, .inr (.inl O')))] ++ wX h rr cc1 cI N R1 C1 (nI L1) (nI (sr_tot os1)) (nI os1.length) sl1 go1 gi1 fr1 la1 re1 ++ wM g fA wA nA tA rA dA oA cI cZ F1 Wd1 Nm1 Tg1 Rc1 Dt1 Rt1 k (nI L1) (nI (1 + sr_tot os1)) sl1 go1 gi1) H := hP.sub [0, 1, 2, 3, 4, 5, 6, 7, 8, 9, 10, 11] rfl
  have hD : va_D A ([(oo, .inl (cJ, 1, .inr (.inl O')))] ++ wX h rr cc1 cI N R1 C1 (nI L1) (nI (sr_tot os1)) (nI os1.length) sl1 go1 gi1 fr1 la1 re1 ++ wM g fA wA nA tA rA dA oA cI cZ F1 Wd1 Nm1 Tg1 Rc1 Dt1 Rt1 k (nI L1) (nI (1 + sr_tot os1)) sl1 go1 gi1) := hD.sub [0, 1, 2, 3, 4, 5, 6, 7, 8, 9, 10, 11] (by decide) rfl
  refine lv_iload hx hb dL_law_429 (lv_at hl 1 rfl) ?_
  refine lv_icmp_eq (tgt := 436) hx hb dL_law_431 (by decide) (fun _ => ?_) (fun z => absurd rfl z)
  rcases hk with hk | ⟨hk, hO⟩
  · refine lv_iload hx hb dL_law_436 (lv_at hl 1 rfl) ?_
    refine lv_if_ne (tgt := 453) hx hb dL_law_438 (by decide) (fun _ => ?_) (fun z => absurd z (by rw [hk]; decide))
    refine lv_goto (tgt := 854) hx hb dL_law_453 (by decide) ?_
    refine W.widen (k := 21 + i) (n := 110006 + 6 * i + 2 * N) (by omega) (by omega) ?_
    exact kk _ _ _ _ _ _ _ _ (sg_mk hF1) hP hD hS (lv_sub hl [2, 3, 4, 5, 6] rfl)
  · refine lv_iload hx hb dL_law_436 (lv_at hl 1 rfl) ?_
    refine lv_if_ne (tgt := 453) hx hb dL_law_438 (by decide) (fun z => absurd hk z) (fun _ => ?_)
    refine lv_aload_n hx hb dL_law_441 rfl (lv_at hl 5 rfl) ?_
    refine lv_iconst (v := 0) hx hb dL_law_442 (by decide) ?_
    refine va_lald hx hb hK hP 0 2 rfl rfl sx_in01 dL_law_443 ?_
    refine lv_iload hx hb dL_law_444 (lv_at hl 0 rfl) ?_
    refine lv_i2l (v := r.toInt64) hx hb dL_law_446 rfl ?_
    refine W.lcmp hx hb dL_law_447 ?_
    refine lv_if_eq (tgt := 453) hx hb dL_law_448 (by decide) (fun _ => ?_) (fun z => absurd ((lg_cmp_eq _ _).mpr hO) z)
    refine lv_goto (tgt := 854) hx hb dL_law_453 (by decide) ?_
    refine W.widen (k := 21 + i) (n := 110006 + 6 * i + 2 * N) (by omega) (by omega) ?_
    exact kk _ _ _ _ _ _ _ _ (sg_mk hF1) hP hD hS (lv_sub hl [2, 3, 4, 5, 6] rfl)

set_option maxHeartbeats 4000000 in
set_option maxRecDepth 100000 in
theorem lo_word (hx : p.tables.exec = Jvm.exec) (hb : c.code = bL_law) (hml : c.maxLocals = 7) (hown : s.vm.findClass RL = some m.cls) (hbg : ∀ w ∈ sr_big, w.before args s = true) (hK : va_K D vwC [(cI, .int), (cZ, .boolean), (cJ, .long)] s) (hA : ∀ q : Nat, s.heap.size ≤ q → A q) (hbA : ¬ A b) (hX : va_X b L0 xs s s.heap) (hbl : b < s.heap.size) (hst : l.stackTraces = false) (hG : sx_H A s s.heap) (hL0 : L0 ≤ 2048) (i N : Nat) (hi : i + 4 ≤ L0) (wx wm : va_W) (th : Int32) (O : Nat → Int64) (H : Heap) (locs : List Loc) (ls : Array Slot) (hI : sg_W h rr g fA wA nA tA rA dA oA cI cZ th N wx wm) (hP : va_P D vwC ([(oo, .inl (cJ, 1, .inr (.inl O)))] ++ wx ++ wm) H) (hD : va_D A ([(oo, .inl (cJ, 1, .inr (.inl O)))] ++ wx ++ wm)) (hS : va_S A s.heap H locs) (hl : lv_has ls 7 [(0, .ref b), (1, .ref h), (2, .ref g), (3, .ref oo), (4, .int (nI i))]) (kk : ∀ (N : Nat) (wx wm : va_W) (th : Int32) (O : Nat → Int64) (H : Heap) (locs : List Loc) (ls : Array Slot), sg_W h rr g fA wA nA tA rA dA oA cI cZ th N wx wm → va_P D vwC ([(oo, .inl (cJ, 1, .inr (.inl O)))] ++ wx ++ wm) H → va_D A ([(oo, .inl (cJ, 1, .inr (.inl O)))] ++ wx ++ wm) → va_S A s.heap H locs → lv_has ls 7 [(0, .ref b), (1, .ref h), (2, .ref g), (3, .ref oo), (4, .int (nI i))] → W p l e room_1 s m args below meth c H locs (21 + i) (110006 + 6 * i + 2 * N) Q (F0 m 854 ls [])) : W p l e room_1 s m args below meth c H locs (20 + i) (110000 + 6 * i + 2 * N) Q (F0 m 456 ls []) := by
  obtain ⟨cc, os, L, Rr, C, F, Wd, Nm, Tg, Rc, Dt, Rt, sl, go, gi, fr, la, re, rfl, rfl, hF⟩ := hI
  have hN9 : N ≤ 16385 := by have := hF.1.2.2.2.2; omega
  obtain ⟨k, r, w1, w2, O', hM1, hM2, ⟨cc1, os1, L1, R1, C1, F1, Wd1, Nm1, Tg1, Rc1, Dt1, Rt1, sl1, go1, gi1, fr1, la1, re1, rfl, rfl, hF1⟩, hk⟩ := st_word (l := l) (D := D) (h := h) (rr := rr) (cc := cc) (g := g) (fA := fA) (wA := wA) (nA := nA) (tA := tA) (rA := rA) (dA := dA) (oA := oA) (cI := cI) (cZ := cZ) (os := os) (L := L) (N := N) (C := C) (F := F) (Wd := Wd) (Nm := Nm) (Tg := Tg) (Rc := Rc) (Dt := Dt) (Rt := Rt) (sl := sl) (go := go) (gi := gi) (fr := fr) (la := la) (re := re) (th := th) (R := Rr) (cJ := cJ) (oo := oo) (O := O) hst hF (xs (i + 1)) (xs (i + 2))
  refine lv_aload_n hx hb dL_law_456 rfl (lv_at hl 1 rfl) ?_
  refine lv_aload_n hx hb dL_law_457 rfl (lv_at hl 0 rfl) ?_
  refine lv_iload hx hb dL_law_458 (lv_at hl 4 rfl) ?_
  refine lv_iconst (v := 1) hx hb dL_law_460 (by decide) ?_
  refine lv_iadd hx hb dL_law_461 ?_
  rw [show (nI i) + 1 = nI (i + 1) from nI_add i 1]
  refine sy_sld (j := i + 1) hx hb hX hbl hbA hS (by omega) (by omega) dL_law_462 ?_
  refine lv_aload_n hx hb dL_law_463 rfl (lv_at hl 0 rfl) ?_
  refine lv_iload hx hb dL_law_464 (lv_at hl 4 rfl) ?_
  refine lv_iconst (v := 2) hx hb dL_law_466 (by decide) ?_
  refine lv_iadd hx hb dL_law_467 ?_
  rw [show (nI i) + 2 = nI (i + 2) from nI_add i 2]
  refine sy_sld (j := i + 2) hx hb hX hbl hbA hS (by omega) (by omega) dL_law_468 ?_
  refine lv_aload_n hx hb dL_law_469 rfl (lv_at hl 3 rfl) ?_
  refine sy_cSg (mc := 1) (ms := 6) (wc := [(oo, .inl (cJ, 1, .inr (.inl O)))] ++ wX h rr cc cI N Rr C (nI L) (nI (sr_tot os)) (nI os.length) sl go gi fr la re) (wr := wM g fA wA nA tA rA dA oA cI cZ F Wd Nm Tg Rc Dt Rt th (nI L) (nI (1 + sr_tot os)) sl go gi) (w1 := (fun _ => [(oo, .inl (cJ, 1, .inr (.inl O')))] ++ wX h rr cc1 cI N R1 C1 (nI L1) (nI (sr_tot os1)) (nI os1.length) sl1 go1 gi1 fr1 la1 re1)) (As := [.ref h, .int (xs (i + 1)), .int (xs (i + 2)), .ref oo]) (rest := []) ⟨hx, hb, hml, hown, hbg⟩ (hM1 H.size) (vx_cwSW 4 hbg (bg_SS bw_258 bw_259 bw_33 bw_260) rfl rfl rfl (by decide +kernel) ⟨Nat.le_of_ble_eq_true rfl, Nat.le_of_ble_eq_true rfl⟩) hK [0, 2] rfl hP hD hS hA hG [0, 1, 2, 3] [4, 5, 6, 7, 8, 9, 10, 11] rfl rfl rfl rfl (by decide) rfl hl.1 rfl (Nat.le_of_ble_eq_true rfl) dL_law_470 ⟨by show _ ≤ 601024; omega, by show _ ≤ 7293033; omega⟩ (fun q H locs hP hD hS => ?_)
  have hP : va_P D vwC ([(oo, .inl (cJ, 1, .inr (.inl O')))] ++ wX h rr cc1 cI N R1 C1 (nI L1) (nI (sr_tot os1)) (nI os1.length) sl1 go1 gi1 fr1 la1 re1 ++ wM g fA wA nA tA rA dA oA cI cZ F Wd Nm Tg Rc Dt Rt th (nI L) (nI (1 + sr_tot os)) sl go gi) H := hP.sub [8, 9, 10, 11, 0, 1, 2, 3, 4, 5, 6, 7] rfl
  have hD : va_D A ([(oo, .inl (cJ, 1, .inr (.inl O')))] ++ wX h rr cc1 cI N R1 C1 (nI L1) (nI (sr_tot os1)) (nI os1.length) sl1 go1 gi1 fr1 la1 re1 ++ wM g fA wA nA tA rA dA oA cI cZ F Wd Nm Tg Rc Dt Rt th (nI L) (nI (1 + sr_tot os)) sl go gi) := hD.sub [8, 9, 10, 11, 0, 1, 2, 3, 4, 5, 6, 7] (by decide) rfl
  refine lv_istore (lv' := [(5, .int k), (0, .ref b), (1, .ref h), (2, .ref g), (3, .ref oo), (4, .int (nI i))]) hx hb dL_law_473 hl (by decide) rfl (fun ls hl => ?_)
  refine lv_aload_n hx hb dL_law_475 rfl (lv_at hl 3 rfl) ?_
  refine lv_aload_n hx hb dL_law_476 rfl (lv_at hl 1 rfl) ?_
  refine lv_iload hx hb dL_law_477 (lv_at hl 5 rfl) ?_
  refine lv_iconst (v := 1) hx hb dL_law_479 (by decide) ?_
  refine lv_iadd hx hb dL_law_480 ?_
  rw [show (nI i) + 1 = nI (i + 1) from nI_add i 1]
  refine sy_sld (j := i + 1) hx hb hX hbl hbA hS (by omega) (by omega) dL_law_481 ?_
  refine lv_aload_n hx hb dL_law_482 rfl (lv_at hl 1 rfl) ?_
  refine lv_iload hx hb dL_law_483 (lv_at hl 5 rfl) ?_
  refine lv_iconst (v := 2) hx hb dL_law_485 (by decide) ?_
  refine lv_iadd hx hb dL_law_486 ?_
  rw [show (nI i) + 2 = nI (i + 2) from nI_add i 2]
  refine sy_sld (j := i + 2) hx hb hX hbl hbA hS (by omega) (by omega) dL_law_487 ?_
  refine sy_cVi (mc := 0) (ms := 0) (wc := wM g fA wA nA tA rA dA oA cI cZ F Wd Nm Tg Rc Dt Rt th (nI L) (nI (1 + sr_tot os)) sl go gi) (wr := [(oo, .inl (cJ, 1, .inr (.inl O')))] ++ wX h rr cc1 cI N R1 C1 (nI L1) (nI (sr_tot os1)) (nI os1.length) sl1 go1 gi1 fr1 la1 re1) (w1 := wM g fA wA nA tA rA dA oA cI cZ F1 Wd1 Nm1 Tg1 Rc1 Dt1 Rt1 k (nI L1) (nI (1 + sr_tot os1)) sl1 go1 gi1) (ci := 1) (q0 := 0) (As := [.int (xs (i + 1)), .int (xs (i + 2))]) (rest := []) ⟨hx, hb, hml, hown, hbg⟩ (hM2 H.size) (cwV 2 hbg (bg_V bw_372 bw_373 bw_374 bw_35 bw_375) rfl rfl rfl (by decide +kernel) ⟨Nat.le_of_ble_eq_true rfl, Nat.le_of_ble_eq_true rfl⟩) hK [0, 1] rfl hP hD hS hA [4, 5, 6, 7, 8, 9, 10, 11] [0, 1, 2, 3] rfl rfl rfl rfl (by decide) rfl rfl rfl hl.1 rfl (Nat.le_of_ble_eq_true rfl) dL_law_488 ⟨by show _ ≤ 601024; omega, by show _ ≤ 7293033; omega⟩ (fun H locs hP hD hS => ?_)
  have hP : va_P D vwC ([(oo, .inl (cJ, 1, .inr (.inl O')))] ++ wX h rr cc1 cI N R1 C1 (nI L1) (nI (sr_tot os1)) (nI os1.length) sl1 go1 gi1 fr1 la1 re1 ++ wM g fA wA nA tA rA dA oA cI cZ F1 Wd1 Nm1 Tg1 Rc1 Dt1 Rt1 k (nI L1) (nI (1 + sr_tot os1)) sl1 go1 gi1) H := hP.sub [0, 1, 2, 3, 4, 5, 6, 7, 8, 9, 10, 11] rfl
  have hD : va_D A ([(oo, .inl (cJ, 1, .inr (.inl O')))] ++ wX h rr cc1 cI N R1 C1 (nI L1) (nI (sr_tot os1)) (nI os1.length) sl1 go1 gi1 fr1 la1 re1 ++ wM g fA wA nA tA rA dA oA cI cZ F1 Wd1 Nm1 Tg1 Rc1 Dt1 Rt1 k (nI L1) (nI (1 + sr_tot os1)) sl1 go1 gi1) := hD.sub [0, 1, 2, 3, 4, 5, 6, 7, 8, 9, 10, 11] (by decide) rfl
  refine lv_istore (lv' := [(6, .int r), (5, .int k), (0, .ref b), (1, .ref h), (2, .ref g), (3, .ref oo), (4, .int (nI i))]) hx hb dL_law_491 hl (by decide) rfl (fun ls hl => ?_)
  refine lv_aload_n hx hb dL_law_493 rfl (lv_at hl 4 rfl) ?_
  refine sy_cVi (mc := 0) (ms := 0) (wc := wM g fA wA nA tA rA dA oA cI cZ F1 Wd1 Nm1 Tg1 Rc1 Dt1 Rt1 k (nI L1) (nI (1 + sr_tot os1)) sl1 go1 gi1) (wr := [(oo, .inl (cJ, 1, .inr (.inl O')))] ++ wX h rr cc1 cI N R1 C1 (nI L1) (nI (sr_tot os1)) (nI os1.length) sl1 go1 gi1 fr1 la1 re1) (w1 := wM g fA wA nA tA rA dA oA cI cZ F1 Wd1 Nm1 Tg1 Rc1 Dt1 Rt1 k (nI L1) (nI (1 + sr_tot os1)) sl1 go1 gi1) (ci := 1) (q0 := 0) (As := []) (rest := []) ⟨hx, hb, hml, hown, hbg⟩ (ct_M_thrown l D g fA wA nA tA rA dA oA cI cZ F1 Wd1 Nm1 Tg1 Rc1 Dt1 Rt1 k (nI L1) (nI (1 + sr_tot os1)) sl1 go1 gi1 H.size) (cwV 0 hbg (bg_V bw_336 bw_337 bw_338 bw_35 bw_339) rfl rfl rfl (by decide +kernel) ⟨Nat.le_of_ble_eq_true rfl, Nat.le_of_ble_eq_true rfl⟩) hK [0, 1] rfl hP hD hS hA [4, 5, 6, 7, 8, 9, 10, 11] [0, 1, 2, 3] rfl rfl rfl rfl (by decide) rfl rfl rfl hl.1 rfl (Nat.le_of_ble_eq_true rfl) dL_law_494 ⟨by show _ ≤ 601024; omega, by show _ ≤ 7293033; omega⟩ (fun H locs hP hD hS => ?_)
  have hP : va_P D vwC ([(oo, .inl (cJ, 1, .inr (.inl O')))] ++ wX h rr cc1 cI N R1 C1 (nI L1) (nI (sr_tot os1)) (nI os1.length) sl1 go1 gi1 fr1 la1 re1 ++ wM g fA wA nA tA rA dA oA cI cZ F1 Wd1 Nm1 Tg1 Rc1 Dt1 Rt1 k (nI L1) (nI (1 + sr_tot os1)) sl1 go1 gi1) H := hP.sub [0, 1, 2, 3, 4, 5, 6, 7, 8, 9, 10, 11] rfl
  have hD : va_D A ([(oo, .inl (cJ, 1, .inr (.inl O')))] ++ wX h rr cc1 cI N R1 C1 (nI L1) (nI (sr_tot os1)) (nI os1.length) sl1 go1 gi1 fr1 la1 re1 ++ wM g fA wA nA tA rA dA oA cI cZ F1 Wd1 Nm1 Tg1 Rc1 Dt1 Rt1 k (nI L1) (nI (1 + sr_tot os1)) sl1 go1 gi1) := hD.sub [0, 1, 2, 3, 4, 5, 6, 7, 8, 9, 10, 11] (by decide) rfl
  refine lv_iload hx hb dL_law_497 (lv_at hl 1 rfl) ?_
  refine lv_icmp_eq (tgt := 504) hx hb dL_law_499 (by decide) (fun _ => ?_) (fun z => absurd rfl z)
  rcases hk with hk | ⟨hk, hO⟩
  · refine lv_iload hx hb dL_law_504 (lv_at hl 1 rfl) ?_
    refine lv_if_ne (tgt := 521) hx hb dL_law_506 (by decide) (fun _ => ?_) (fun z => absurd z (by rw [hk]; decide))
    refine lv_goto (tgt := 854) hx hb dL_law_521 (by decide) ?_
    refine W.widen (k := 21 + i) (n := 110006 + 6 * i + 2 * N) (by omega) (by omega) ?_
    exact kk _ _ _ _ _ _ _ _ (sg_mk hF1) hP hD hS (lv_sub hl [2, 3, 4, 5, 6] rfl)
  · refine lv_iload hx hb dL_law_504 (lv_at hl 1 rfl) ?_
    refine lv_if_ne (tgt := 521) hx hb dL_law_506 (by decide) (fun z => absurd hk z) (fun _ => ?_)
    refine lv_aload_n hx hb dL_law_509 rfl (lv_at hl 5 rfl) ?_
    refine lv_iconst (v := 0) hx hb dL_law_510 (by decide) ?_
    refine va_lald hx hb hK hP 0 2 rfl rfl sx_in01 dL_law_511 ?_
    refine lv_iload hx hb dL_law_512 (lv_at hl 0 rfl) ?_
    refine lv_i2l (v := r.toInt64) hx hb dL_law_514 rfl ?_
    refine W.lcmp hx hb dL_law_515 ?_
    refine lv_if_eq (tgt := 521) hx hb dL_law_516 (by decide) (fun _ => ?_) (fun z => absurd ((lg_cmp_eq _ _).mpr hO) z)
    refine lv_goto (tgt := 854) hx hb dL_law_521 (by decide) ?_
    refine W.widen (k := 21 + i) (n := 110006 + 6 * i + 2 * N) (by omega) (by omega) ?_
    exact kk _ _ _ _ _ _ _ _ (sg_mk hF1) hP hD hS (lv_sub hl [2, 3, 4, 5, 6] rfl)

set_option maxHeartbeats 4000000 in
set_option maxRecDepth 100000 in
theorem lo_root (hx : p.tables.exec = Jvm.exec) (hb : c.code = bL_law) (hml : c.maxLocals = 7) (hown : s.vm.findClass RL = some m.cls) (hbg : ∀ w ∈ sr_big, w.before args s = true) (hK : va_K D vwC [(cI, .int), (cZ, .boolean), (cJ, .long)] s) (hA : ∀ q : Nat, s.heap.size ≤ q → A q) (hbA : ¬ A b) (hX : va_X b L0 xs s s.heap) (hbl : b < s.heap.size) (hst : l.stackTraces = false) (hG : sx_H A s s.heap) (hL0 : L0 ≤ 2048) (i N : Nat) (hi : i + 4 ≤ L0) (wx wm : va_W) (th : Int32) (O : Nat → Int64) (H : Heap) (locs : List Loc) (ls : Array Slot) (hI : sg_W h rr g fA wA nA tA rA dA oA cI cZ th N wx wm) (hP : va_P D vwC ([(oo, .inl (cJ, 1, .inr (.inl O)))] ++ wx ++ wm) H) (hD : va_D A ([(oo, .inl (cJ, 1, .inr (.inl O)))] ++ wx ++ wm)) (hS : va_S A s.heap H locs) (hl : lv_has ls 7 [(0, .ref b), (1, .ref h), (2, .ref g), (3, .ref oo), (4, .int (nI i))]) (kk : ∀ (N : Nat) (wx wm : va_W) (th : Int32) (O : Nat → Int64) (H : Heap) (locs : List Loc) (ls : Array Slot), sg_W h rr g fA wA nA tA rA dA oA cI cZ th N wx wm → va_P D vwC ([(oo, .inl (cJ, 1, .inr (.inl O)))] ++ wx ++ wm) H → va_D A ([(oo, .inl (cJ, 1, .inr (.inl O)))] ++ wx ++ wm) → va_S A s.heap H locs → lv_has ls 7 [(0, .ref b), (1, .ref h), (2, .ref g), (3, .ref oo), (4, .int (nI i))] → W p l e room_1 s m args below meth c H locs (21 + i) (110006 + 6 * i + 2 * N) Q (F0 m 854 ls [])) : W p l e room_1 s m args below meth c H locs (20 + i) (110000 + 6 * i + 2 * N) Q (F0 m 524 ls []) := by
  obtain ⟨cc, os, L, Rr, C, F, Wd, Nm, Tg, Rc, Dt, Rt, sl, go, gi, fr, la, re, rfl, rfl, hF⟩ := hI
  have hN9 : N ≤ 16385 := by have := hF.1.2.2.2.2; omega
  obtain ⟨k, r, w1, w2, O', hM1, hM2, ⟨cc1, os1, L1, R1, C1, F1, Wd1, Nm1, Tg1, Rc1, Dt1, Rt1, sl1, go1, gi1, fr1, la1, re1, rfl, rfl, hF1⟩, hk⟩ := st_root (l := l) (D := D) (h := h) (rr := rr) (cc := cc) (g := g) (fA := fA) (wA := wA) (nA := nA) (tA := tA) (rA := rA) (dA := dA) (oA := oA) (cI := cI) (cZ := cZ) (os := os) (L := L) (N := N) (C := C) (F := F) (Wd := Wd) (Nm := Nm) (Tg := Tg) (Rc := Rc) (Dt := Dt) (Rt := Rt) (sl := sl) (go := go) (gi := gi) (fr := fr) (la := la) (re := re) (th := th) (R := Rr) (cJ := cJ) (oo := oo) (O := O) hst hF (xs (i + 1)) (xs (i + 2))
  refine lv_aload_n hx hb dL_law_524 rfl (lv_at hl 1 rfl) ?_
  refine lv_aload_n hx hb dL_law_525 rfl (lv_at hl 0 rfl) ?_
  refine lv_iload hx hb dL_law_526 (lv_at hl 4 rfl) ?_
  refine lv_iconst (v := 1) hx hb dL_law_528 (by decide) ?_
  refine lv_iadd hx hb dL_law_529 ?_
  rw [show (nI i) + 1 = nI (i + 1) from nI_add i 1]
  refine sy_sld (j := i + 1) hx hb hX hbl hbA hS (by omega) (by omega) dL_law_530 ?_
  refine lv_aload_n hx hb dL_law_531 rfl (lv_at hl 0 rfl) ?_
  refine lv_iload hx hb dL_law_532 (lv_at hl 4 rfl) ?_
  refine lv_iconst (v := 2) hx hb dL_law_534 (by decide) ?_
  refine lv_iadd hx hb dL_law_535 ?_
  rw [show (nI i) + 2 = nI (i + 2) from nI_add i 2]
  refine sy_sld (j := i + 2) hx hb hX hbl hbA hS (by omega) (by omega) dL_law_536 ?_
  refine lv_aload_n hx hb dL_law_537 rfl (lv_at hl 3 rfl) ?_
  refine sy_cSg (mc := 1) (ms := 6) (wc := [(oo, .inl (cJ, 1, .inr (.inl O)))] ++ wX h rr cc cI N Rr C (nI L) (nI (sr_tot os)) (nI os.length) sl go gi fr la re) (wr := wM g fA wA nA tA rA dA oA cI cZ F Wd Nm Tg Rc Dt Rt th (nI L) (nI (1 + sr_tot os)) sl go gi) (w1 := (fun _ => [(oo, .inl (cJ, 1, .inr (.inl O')))] ++ wX h rr cc1 cI N R1 C1 (nI L1) (nI (sr_tot os1)) (nI os1.length) sl1 go1 gi1 fr1 la1 re1)) (As := [.ref h, .int (xs (i + 1)), .int (xs (i + 2)), .ref oo]) (rest := []) ⟨hx, hb, hml, hown, hbg⟩ (hM1 H.size) (vx_cwSW 4 hbg (bg_SS bw_265 bw_266 bw_33 bw_267) rfl rfl rfl (by decide +kernel) ⟨Nat.le_of_ble_eq_true rfl, Nat.le_of_ble_eq_true rfl⟩) hK [0, 2] rfl hP hD hS hA hG [0, 1, 2, 3] [4, 5, 6, 7, 8, 9, 10, 11] rfl rfl rfl rfl (by decide) rfl hl.1 rfl (Nat.le_of_ble_eq_true rfl) dL_law_538 ⟨by show _ ≤ 601024; omega, by show _ ≤ 7293033; omega⟩ (fun q H locs hP hD hS => ?_)
  have hP : va_P D vwC ([(oo, .inl (cJ, 1, .inr (.inl O')))] ++ wX h rr cc1 cI N R1 C1 (nI L1) (nI (sr_tot os1)) (nI os1.length) sl1 go1 gi1 fr1 la1 re1 ++ wM g fA wA nA tA rA dA oA cI cZ F Wd Nm Tg Rc Dt Rt th (nI L) (nI (1 + sr_tot os)) sl go gi) H := hP.sub [8, 9, 10, 11, 0, 1, 2, 3, 4, 5, 6, 7] rfl
  have hD : va_D A ([(oo, .inl (cJ, 1, .inr (.inl O')))] ++ wX h rr cc1 cI N R1 C1 (nI L1) (nI (sr_tot os1)) (nI os1.length) sl1 go1 gi1 fr1 la1 re1 ++ wM g fA wA nA tA rA dA oA cI cZ F Wd Nm Tg Rc Dt Rt th (nI L) (nI (1 + sr_tot os)) sl go gi) := hD.sub [8, 9, 10, 11, 0, 1, 2, 3, 4, 5, 6, 7] (by decide) rfl
  refine lv_istore (lv' := [(5, .int k), (0, .ref b), (1, .ref h), (2, .ref g), (3, .ref oo), (4, .int (nI i))]) hx hb dL_law_541 hl (by decide) rfl (fun ls hl => ?_)
  refine lv_aload_n hx hb dL_law_543 rfl (lv_at hl 3 rfl) ?_
  refine lv_aload_n hx hb dL_law_544 rfl (lv_at hl 1 rfl) ?_
  refine lv_iload hx hb dL_law_545 (lv_at hl 5 rfl) ?_
  refine lv_iconst (v := 1) hx hb dL_law_547 (by decide) ?_
  refine lv_iadd hx hb dL_law_548 ?_
  rw [show (nI i) + 1 = nI (i + 1) from nI_add i 1]
  refine sy_sld (j := i + 1) hx hb hX hbl hbA hS (by omega) (by omega) dL_law_549 ?_
  refine lv_aload_n hx hb dL_law_550 rfl (lv_at hl 1 rfl) ?_
  refine lv_iload hx hb dL_law_551 (lv_at hl 5 rfl) ?_
  refine lv_iconst (v := 2) hx hb dL_law_553 (by decide) ?_
  refine lv_iadd hx hb dL_law_554 ?_
  rw [show (nI i) + 2 = nI (i + 2) from nI_add i 2]
  refine sy_sld (j := i + 2) hx hb hX hbl hbA hS (by omega) (by omega) dL_law_555 ?_
  refine sy_cVi (mc := 0) (ms := 0) (wc := wM g fA wA nA tA rA dA oA cI cZ F Wd Nm Tg Rc Dt Rt th (nI L) (nI (1 + sr_tot os)) sl go gi) (wr := [(oo, .inl (cJ, 1, .inr (.inl O')))] ++ wX h rr cc1 cI N R1 C1 (nI L1) (nI (sr_tot os1)) (nI os1.length) sl1 go1 gi1 fr1 la1 re1) (w1 := wM g fA wA nA tA rA dA oA cI cZ F1 Wd1 Nm1 Tg1 Rc1 Dt1 Rt1 k (nI L1) (nI (1 + sr_tot os1)) sl1 go1 gi1) (ci := 1) (q0 := 0) (As := [.int (xs (i + 1)), .int (xs (i + 2))]) (rest := []) ⟨hx, hb, hml, hown, hbg⟩ (hM2 H.size) (cwV 2 hbg (bg_V bw_376 bw_377 bw_378 bw_35 bw_379) rfl rfl rfl (by decide +kernel) ⟨Nat.le_of_ble_eq_true rfl, Nat.le_of_ble_eq_true rfl⟩) hK [0, 1] rfl hP hD hS hA [4, 5, 6, 7, 8, 9, 10, 11] [0, 1, 2, 3] rfl rfl rfl rfl (by decide) rfl rfl rfl hl.1 rfl (Nat.le_of_ble_eq_true rfl) dL_law_556 ⟨by show _ ≤ 601024; omega, by show _ ≤ 7293033; omega⟩ (fun H locs hP hD hS => ?_)
  have hP : va_P D vwC ([(oo, .inl (cJ, 1, .inr (.inl O')))] ++ wX h rr cc1 cI N R1 C1 (nI L1) (nI (sr_tot os1)) (nI os1.length) sl1 go1 gi1 fr1 la1 re1 ++ wM g fA wA nA tA rA dA oA cI cZ F1 Wd1 Nm1 Tg1 Rc1 Dt1 Rt1 k (nI L1) (nI (1 + sr_tot os1)) sl1 go1 gi1) H := hP.sub [0, 1, 2, 3, 4, 5, 6, 7, 8, 9, 10, 11] rfl
  have hD : va_D A ([(oo, .inl (cJ, 1, .inr (.inl O')))] ++ wX h rr cc1 cI N R1 C1 (nI L1) (nI (sr_tot os1)) (nI os1.length) sl1 go1 gi1 fr1 la1 re1 ++ wM g fA wA nA tA rA dA oA cI cZ F1 Wd1 Nm1 Tg1 Rc1 Dt1 Rt1 k (nI L1) (nI (1 + sr_tot os1)) sl1 go1 gi1) := hD.sub [0, 1, 2, 3, 4, 5, 6, 7, 8, 9, 10, 11] (by decide) rfl
  refine lv_istore (lv' := [(6, .int r), (5, .int k), (0, .ref b), (1, .ref h), (2, .ref g), (3, .ref oo), (4, .int (nI i))]) hx hb dL_law_559 hl (by decide) rfl (fun ls hl => ?_)
  refine lv_aload_n hx hb dL_law_561 rfl (lv_at hl 4 rfl) ?_
  refine sy_cVi (mc := 0) (ms := 0) (wc := wM g fA wA nA tA rA dA oA cI cZ F1 Wd1 Nm1 Tg1 Rc1 Dt1 Rt1 k (nI L1) (nI (1 + sr_tot os1)) sl1 go1 gi1) (wr := [(oo, .inl (cJ, 1, .inr (.inl O')))] ++ wX h rr cc1 cI N R1 C1 (nI L1) (nI (sr_tot os1)) (nI os1.length) sl1 go1 gi1 fr1 la1 re1) (w1 := wM g fA wA nA tA rA dA oA cI cZ F1 Wd1 Nm1 Tg1 Rc1 Dt1 Rt1 k (nI L1) (nI (1 + sr_tot os1)) sl1 go1 gi1) (ci := 1) (q0 := 0) (As := []) (rest := []) ⟨hx, hb, hml, hown, hbg⟩ (ct_M_thrown l D g fA wA nA tA rA dA oA cI cZ F1 Wd1 Nm1 Tg1 Rc1 Dt1 Rt1 k (nI L1) (nI (1 + sr_tot os1)) sl1 go1 gi1 H.size) (cwV 0 hbg (bg_V bw_336 bw_337 bw_338 bw_35 bw_339) rfl rfl rfl (by decide +kernel) ⟨Nat.le_of_ble_eq_true rfl, Nat.le_of_ble_eq_true rfl⟩) hK [0, 1] rfl hP hD hS hA [4, 5, 6, 7, 8, 9, 10, 11] [0, 1, 2, 3] rfl rfl rfl rfl (by decide) rfl rfl rfl hl.1 rfl (Nat.le_of_ble_eq_true rfl) dL_law_562 ⟨by show _ ≤ 601024; omega, by show _ ≤ 7293033; omega⟩ (fun H locs hP hD hS => ?_)
  have hP : va_P D vwC ([(oo, .inl (cJ, 1, .inr (.inl O')))] ++ wX h rr cc1 cI N R1 C1 (nI L1) (nI (sr_tot os1)) (nI os1.length) sl1 go1 gi1 fr1 la1 re1 ++ wM g fA wA nA tA rA dA oA cI cZ F1 Wd1 Nm1 Tg1 Rc1 Dt1 Rt1 k (nI L1) (nI (1 + sr_tot os1)) sl1 go1 gi1) H := hP.sub [0, 1, 2, 3, 4, 5, 6, 7, 8, 9, 10, 11] rfl
  have hD : va_D A ([(oo, .inl (cJ, 1, .inr (.inl O')))] ++ wX h rr cc1 cI N R1 C1 (nI L1) (nI (sr_tot os1)) (nI os1.length) sl1 go1 gi1 fr1 la1 re1 ++ wM g fA wA nA tA rA dA oA cI cZ F1 Wd1 Nm1 Tg1 Rc1 Dt1 Rt1 k (nI L1) (nI (1 + sr_tot os1)) sl1 go1 gi1) := hD.sub [0, 1, 2, 3, 4, 5, 6, 7, 8, 9, 10, 11] (by decide) rfl
  refine lv_iload hx hb dL_law_565 (lv_at hl 1 rfl) ?_
  refine lv_icmp_eq (tgt := 572) hx hb dL_law_567 (by decide) (fun _ => ?_) (fun z => absurd rfl z)
  rcases hk with hk | ⟨hk, hO⟩
  · refine lv_iload hx hb dL_law_572 (lv_at hl 1 rfl) ?_
    refine lv_if_ne (tgt := 589) hx hb dL_law_574 (by decide) (fun _ => ?_) (fun z => absurd z (by rw [hk]; decide))
    refine lv_goto (tgt := 854) hx hb dL_law_589 (by decide) ?_
    refine W.widen (k := 21 + i) (n := 110006 + 6 * i + 2 * N) (by omega) (by omega) ?_
    exact kk _ _ _ _ _ _ _ _ (sg_mk hF1) hP hD hS (lv_sub hl [2, 3, 4, 5, 6] rfl)
  · refine lv_iload hx hb dL_law_572 (lv_at hl 1 rfl) ?_
    refine lv_if_ne (tgt := 589) hx hb dL_law_574 (by decide) (fun z => absurd hk z) (fun _ => ?_)
    refine lv_aload_n hx hb dL_law_577 rfl (lv_at hl 5 rfl) ?_
    refine lv_iconst (v := 0) hx hb dL_law_578 (by decide) ?_
    refine va_lald hx hb hK hP 0 2 rfl rfl sx_in01 dL_law_579 ?_
    refine lv_iload hx hb dL_law_580 (lv_at hl 0 rfl) ?_
    refine lv_i2l (v := r.toInt64) hx hb dL_law_582 rfl ?_
    refine W.lcmp hx hb dL_law_583 ?_
    refine lv_if_eq (tgt := 589) hx hb dL_law_584 (by decide) (fun _ => ?_) (fun z => absurd ((lg_cmp_eq _ _).mpr hO) z)
    refine lv_goto (tgt := 854) hx hb dL_law_589 (by decide) ?_
    refine W.widen (k := 21 + i) (n := 110006 + 6 * i + 2 * N) (by omega) (by omega) ?_
    exact kk _ _ _ _ _ _ _ _ (sg_mk hF1) hP hD hS (lv_sub hl [2, 3, 4, 5, 6] rfl)

set_option maxHeartbeats 4000000 in
set_option maxRecDepth 100000 in
theorem lo_rooted (hx : p.tables.exec = Jvm.exec) (hb : c.code = bL_law) (hml : c.maxLocals = 7) (hown : s.vm.findClass RL = some m.cls) (hbg : ∀ w ∈ sr_big, w.before args s = true) (hK : va_K D vwC [(cI, .int), (cZ, .boolean), (cJ, .long)] s) (hA : ∀ q : Nat, s.heap.size ≤ q → A q) (hbA : ¬ A b) (hX : va_X b L0 xs s s.heap) (hbl : b < s.heap.size) (hst : l.stackTraces = false) (hG : sx_H A s s.heap) (hL0 : L0 ≤ 2048) (i N : Nat) (hi : i + 4 ≤ L0) (wx wm : va_W) (th : Int32) (O : Nat → Int64) (H : Heap) (locs : List Loc) (ls : Array Slot) (hI : sg_W h rr g fA wA nA tA rA dA oA cI cZ th N wx wm) (hP : va_P D vwC ([(oo, .inl (cJ, 1, .inr (.inl O)))] ++ wx ++ wm) H) (hD : va_D A ([(oo, .inl (cJ, 1, .inr (.inl O)))] ++ wx ++ wm)) (hS : va_S A s.heap H locs) (hl : lv_has ls 7 [(0, .ref b), (1, .ref h), (2, .ref g), (3, .ref oo), (4, .int (nI i))]) (kk : ∀ (N : Nat) (wx wm : va_W) (th : Int32) (O : Nat → Int64) (H : Heap) (locs : List Loc) (ls : Array Slot), sg_W h rr g fA wA nA tA rA dA oA cI cZ th N wx wm → va_P D vwC ([(oo, .inl (cJ, 1, .inr (.inl O)))] ++ wx ++ wm) H → va_D A ([(oo, .inl (cJ, 1, .inr (.inl O)))] ++ wx ++ wm) → va_S A s.heap H locs → lv_has ls 7 [(0, .ref b), (1, .ref h), (2, .ref g), (3, .ref oo), (4, .int (nI i))] → W p l e room_1 s m args below meth c H locs (21 + i) (110006 + 6 * i + 2 * N) Q (F0 m 854 ls [])) : W p l e room_1 s m args below meth c H locs (20 + i) (110000 + 6 * i + 2 * N) Q (F0 m 592 ls []) := by
  obtain ⟨cc, os, L, Rr, C, F, Wd, Nm, Tg, Rc, Dt, Rt, sl, go, gi, fr, la, re, rfl, rfl, hF⟩ := hI
  have hN9 : N ≤ 16385 := by have := hF.1.2.2.2.2; omega
  obtain ⟨k, r, w1, w2, O', hM1, hM2, ⟨cc1, os1, L1, R1, C1, F1, Wd1, Nm1, Tg1, Rc1, Dt1, Rt1, sl1, go1, gi1, fr1, la1, re1, rfl, rfl, hF1⟩, hk⟩ := st_rooted (l := l) (D := D) (h := h) (rr := rr) (cc := cc) (g := g) (fA := fA) (wA := wA) (nA := nA) (tA := tA) (rA := rA) (dA := dA) (oA := oA) (cI := cI) (cZ := cZ) (os := os) (L := L) (N := N) (C := C) (F := F) (Wd := Wd) (Nm := Nm) (Tg := Tg) (Rc := Rc) (Dt := Dt) (Rt := Rt) (sl := sl) (go := go) (gi := gi) (fr := fr) (la := la) (re := re) (th := th) (R := Rr) (cJ := cJ) (oo := oo) (O := O) hst hF (xs (i + 1))
  refine lv_aload_n hx hb dL_law_592 rfl (lv_at hl 1 rfl) ?_
  refine lv_aload_n hx hb dL_law_593 rfl (lv_at hl 0 rfl) ?_
  refine lv_iload hx hb dL_law_594 (lv_at hl 4 rfl) ?_
  refine lv_iconst (v := 1) hx hb dL_law_596 (by decide) ?_
  refine lv_iadd hx hb dL_law_597 ?_
  rw [show (nI i) + 1 = nI (i + 1) from nI_add i 1]
  refine sy_sld (j := i + 1) hx hb hX hbl hbA hS (by omega) (by omega) dL_law_598 ?_
  refine lv_aload_n hx hb dL_law_599 rfl (lv_at hl 3 rfl) ?_
  refine sy_cSg (mc := 1) (ms := 6) (wc := [(oo, .inl (cJ, 1, .inr (.inl O)))] ++ wX h rr cc cI N Rr C (nI L) (nI (sr_tot os)) (nI os.length) sl go gi fr la re) (wr := wM g fA wA nA tA rA dA oA cI cZ F Wd Nm Tg Rc Dt Rt th (nI L) (nI (1 + sr_tot os)) sl go gi) (w1 := (fun _ => [(oo, .inl (cJ, 1, .inr (.inl O')))] ++ wX h rr cc1 cI N R1 C1 (nI L1) (nI (sr_tot os1)) (nI os1.length) sl1 go1 gi1 fr1 la1 re1)) (As := [.ref h, .int (xs (i + 1)), .ref oo]) (rest := []) ⟨hx, hb, hml, hown, hbg⟩ (hM1 H.size) (vx_cwSW 3 hbg (bg_SS bw_275 bw_276 bw_33 bw_277) rfl rfl rfl (by decide +kernel) ⟨Nat.le_of_ble_eq_true rfl, Nat.le_of_ble_eq_true rfl⟩) hK [0, 2] rfl hP hD hS hA hG [0, 1, 2, 3] [4, 5, 6, 7, 8, 9, 10, 11] rfl rfl rfl rfl (by decide) rfl hl.1 rfl (Nat.le_of_ble_eq_true rfl) dL_law_600 ⟨by show _ ≤ 601024; omega, by show _ ≤ 7293033; omega⟩ (fun q H locs hP hD hS => ?_)
  have hP : va_P D vwC ([(oo, .inl (cJ, 1, .inr (.inl O')))] ++ wX h rr cc1 cI N R1 C1 (nI L1) (nI (sr_tot os1)) (nI os1.length) sl1 go1 gi1 fr1 la1 re1 ++ wM g fA wA nA tA rA dA oA cI cZ F Wd Nm Tg Rc Dt Rt th (nI L) (nI (1 + sr_tot os)) sl go gi) H := hP.sub [8, 9, 10, 11, 0, 1, 2, 3, 4, 5, 6, 7] rfl
  have hD : va_D A ([(oo, .inl (cJ, 1, .inr (.inl O')))] ++ wX h rr cc1 cI N R1 C1 (nI L1) (nI (sr_tot os1)) (nI os1.length) sl1 go1 gi1 fr1 la1 re1 ++ wM g fA wA nA tA rA dA oA cI cZ F Wd Nm Tg Rc Dt Rt th (nI L) (nI (1 + sr_tot os)) sl go gi) := hD.sub [8, 9, 10, 11, 0, 1, 2, 3, 4, 5, 6, 7] (by decide) rfl
  refine lv_istore (lv' := [(5, .int k), (0, .ref b), (1, .ref h), (2, .ref g), (3, .ref oo), (4, .int (nI i))]) hx hb dL_law_603 hl (by decide) rfl (fun ls hl => ?_)
  refine lv_aload_n hx hb dL_law_605 rfl (lv_at hl 3 rfl) ?_
  refine lv_aload_n hx hb dL_law_606 rfl (lv_at hl 1 rfl) ?_
  refine lv_iload hx hb dL_law_607 (lv_at hl 5 rfl) ?_
  refine lv_iconst (v := 1) hx hb dL_law_609 (by decide) ?_
  refine lv_iadd hx hb dL_law_610 ?_
  rw [show (nI i) + 1 = nI (i + 1) from nI_add i 1]
  refine sy_sld (j := i + 1) hx hb hX hbl hbA hS (by omega) (by omega) dL_law_611 ?_
  refine sy_cVi (mc := 0) (ms := 0) (wc := wM g fA wA nA tA rA dA oA cI cZ F Wd Nm Tg Rc Dt Rt th (nI L) (nI (1 + sr_tot os)) sl go gi) (wr := [(oo, .inl (cJ, 1, .inr (.inl O')))] ++ wX h rr cc1 cI N R1 C1 (nI L1) (nI (sr_tot os1)) (nI os1.length) sl1 go1 gi1 fr1 la1 re1) (w1 := wM g fA wA nA tA rA dA oA cI cZ F1 Wd1 Nm1 Tg1 Rc1 Dt1 Rt1 k (nI L1) (nI (1 + sr_tot os1)) sl1 go1 gi1) (ci := 1) (q0 := 0) (As := [.int (xs (i + 1))]) (rest := []) ⟨hx, hb, hml, hown, hbg⟩ (hM2 H.size) (cwV 1 hbg (bg_V bw_383 bw_384 bw_385 bw_35 bw_386) rfl rfl rfl (by decide +kernel) ⟨Nat.le_of_ble_eq_true rfl, Nat.le_of_ble_eq_true rfl⟩) hK [0, 1] rfl hP hD hS hA [4, 5, 6, 7, 8, 9, 10, 11] [0, 1, 2, 3] rfl rfl rfl rfl (by decide) rfl rfl rfl hl.1 rfl (Nat.le_of_ble_eq_true rfl) dL_law_612 ⟨by show _ ≤ 601024; omega, by show _ ≤ 7293033; omega⟩ (fun H locs hP hD hS => ?_)
  have hP : va_P D vwC ([(oo, .inl (cJ, 1, .inr (.inl O')))] ++ wX h rr cc1 cI N R1 C1 (nI L1) (nI (sr_tot os1)) (nI os1.length) sl1 go1 gi1 fr1 la1 re1 ++ wM g fA wA nA tA rA dA oA cI cZ F1 Wd1 Nm1 Tg1 Rc1 Dt1 Rt1 k (nI L1) (nI (1 + sr_tot os1)) sl1 go1 gi1) H := hP.sub [0, 1, 2, 3, 4, 5, 6, 7, 8, 9, 10, 11] rfl
  have hD : va_D A ([(oo, .inl (cJ, 1, .inr (.inl O')))] ++ wX h rr cc1 cI N R1 C1 (nI L1) (nI (sr_tot os1)) (nI os1.length) sl1 go1 gi1 fr1 la1 re1 ++ wM g fA wA nA tA rA dA oA cI cZ F1 Wd1 Nm1 Tg1 Rc1 Dt1 Rt1 k (nI L1) (nI (1 + sr_tot os1)) sl1 go1 gi1) := hD.sub [0, 1, 2, 3, 4, 5, 6, 7, 8, 9, 10, 11] (by decide) rfl
  refine lv_istore (lv' := [(6, .int r), (5, .int k), (0, .ref b), (1, .ref h), (2, .ref g), (3, .ref oo), (4, .int (nI i))]) hx hb dL_law_615 hl (by decide) rfl (fun ls hl => ?_)
  refine lv_aload_n hx hb dL_law_617 rfl (lv_at hl 4 rfl) ?_
  refine sy_cVi (mc := 0) (ms := 0) (wc := wM g fA wA nA tA rA dA oA cI cZ F1 Wd1 Nm1 Tg1 Rc1 Dt1 Rt1 k (nI L1) (nI (1 + sr_tot os1)) sl1 go1 gi1) (wr := [(oo, .inl (cJ, 1, .inr (.inl O')))] ++ wX h rr cc1 cI N R1 C1 (nI L1) (nI (sr_tot os1)) (nI os1.length) sl1 go1 gi1 fr1 la1 re1) (w1 := wM g fA wA nA tA rA dA oA cI cZ F1 Wd1 Nm1 Tg1 Rc1 Dt1 Rt1 k (nI L1) (nI (1 + sr_tot os1)) sl1 go1 gi1) (ci := 1) (q0 := 0) (As := []) (rest := []) ⟨hx, hb, hml, hown, hbg⟩ (ct_M_thrown l D g fA wA nA tA rA dA oA cI cZ F1 Wd1 Nm1 Tg1 Rc1 Dt1 Rt1 k (nI L1) (nI (1 + sr_tot os1)) sl1 go1 gi1 H.size) (cwV 0 hbg (bg_V bw_336 bw_337 bw_338 bw_35 bw_339) rfl rfl rfl (by decide +kernel) ⟨Nat.le_of_ble_eq_true rfl, Nat.le_of_ble_eq_true rfl⟩) hK [0, 1] rfl hP hD hS hA [4, 5, 6, 7, 8, 9, 10, 11] [0, 1, 2, 3] rfl rfl rfl rfl (by decide) rfl rfl rfl hl.1 rfl (Nat.le_of_ble_eq_true rfl) dL_law_618 ⟨by show _ ≤ 601024; omega, by show _ ≤ 7293033; omega⟩ (fun H locs hP hD hS => ?_)
  have hP : va_P D vwC ([(oo, .inl (cJ, 1, .inr (.inl O')))] ++ wX h rr cc1 cI N R1 C1 (nI L1) (nI (sr_tot os1)) (nI os1.length) sl1 go1 gi1 fr1 la1 re1 ++ wM g fA wA nA tA rA dA oA cI cZ F1 Wd1 Nm1 Tg1 Rc1 Dt1 Rt1 k (nI L1) (nI (1 + sr_tot os1)) sl1 go1 gi1) H := hP.sub [0, 1, 2, 3, 4, 5, 6, 7, 8, 9, 10, 11] rfl
  have hD : va_D A ([(oo, .inl (cJ, 1, .inr (.inl O')))] ++ wX h rr cc1 cI N R1 C1 (nI L1) (nI (sr_tot os1)) (nI os1.length) sl1 go1 gi1 fr1 la1 re1 ++ wM g fA wA nA tA rA dA oA cI cZ F1 Wd1 Nm1 Tg1 Rc1 Dt1 Rt1 k (nI L1) (nI (1 + sr_tot os1)) sl1 go1 gi1) := hD.sub [0, 1, 2, 3, 4, 5, 6, 7, 8, 9, 10, 11] (by decide) rfl
  refine lv_iload hx hb dL_law_621 (lv_at hl 1 rfl) ?_
  refine lv_icmp_eq (tgt := 628) hx hb dL_law_623 (by decide) (fun _ => ?_) (fun z => absurd rfl z)
  rcases hk with hk | ⟨hk, hO⟩
  · refine lv_iload hx hb dL_law_628 (lv_at hl 1 rfl) ?_
    refine lv_if_ne (tgt := 645) hx hb dL_law_630 (by decide) (fun _ => ?_) (fun z => absurd z (by rw [hk]; decide))
    refine lv_goto (tgt := 854) hx hb dL_law_645 (by decide) ?_
    refine W.widen (k := 21 + i) (n := 110006 + 6 * i + 2 * N) (by omega) (by omega) ?_
    exact kk _ _ _ _ _ _ _ _ (sg_mk hF1) hP hD hS (lv_sub hl [2, 3, 4, 5, 6] rfl)
  · refine lv_iload hx hb dL_law_628 (lv_at hl 1 rfl) ?_
    refine lv_if_ne (tgt := 645) hx hb dL_law_630 (by decide) (fun z => absurd hk z) (fun _ => ?_)
    refine lv_aload_n hx hb dL_law_633 rfl (lv_at hl 5 rfl) ?_
    refine lv_iconst (v := 0) hx hb dL_law_634 (by decide) ?_
    refine va_lald hx hb hK hP 0 2 rfl rfl sx_in01 dL_law_635 ?_
    refine lv_iload hx hb dL_law_636 (lv_at hl 0 rfl) ?_
    refine lv_i2l (v := r.toInt64) hx hb dL_law_638 rfl ?_
    refine W.lcmp hx hb dL_law_639 ?_
    refine lv_if_eq (tgt := 645) hx hb dL_law_640 (by decide) (fun _ => ?_) (fun z => absurd ((lg_cmp_eq _ _).mpr hO) z)
    refine lv_goto (tgt := 854) hx hb dL_law_645 (by decide) ?_
    refine W.widen (k := 21 + i) (n := 110006 + 6 * i + 2 * N) (by omega) (by omega) ?_
    exact kk _ _ _ _ _ _ _ _ (sg_mk hF1) hP hD hS (lv_sub hl [2, 3, 4, 5, 6] rfl)

set_option maxHeartbeats 4000000 in
set_option maxRecDepth 100000 in
theorem lo_number (hx : p.tables.exec = Jvm.exec) (hb : c.code = bL_law) (hml : c.maxLocals = 7) (hown : s.vm.findClass RL = some m.cls) (hbg : ∀ w ∈ sr_big, w.before args s = true) (hK : va_K D vwC [(cI, .int), (cZ, .boolean), (cJ, .long)] s) (hA : ∀ q : Nat, s.heap.size ≤ q → A q) (hbA : ¬ A b) (hX : va_X b L0 xs s s.heap) (hbl : b < s.heap.size) (hst : l.stackTraces = false) (hG : sx_H A s s.heap) (hL0 : L0 ≤ 2048) (i N : Nat) (hi : i + 4 ≤ L0) (wx wm : va_W) (th : Int32) (O : Nat → Int64) (H : Heap) (locs : List Loc) (ls : Array Slot) (hI : sg_W h rr g fA wA nA tA rA dA oA cI cZ th N wx wm) (hP : va_P D vwC ([(oo, .inl (cJ, 1, .inr (.inl O)))] ++ wx ++ wm) H) (hD : va_D A ([(oo, .inl (cJ, 1, .inr (.inl O)))] ++ wx ++ wm)) (hS : va_S A s.heap H locs) (hl : lv_has ls 7 [(0, .ref b), (1, .ref h), (2, .ref g), (3, .ref oo), (4, .int (nI i))]) (kk : ∀ (N : Nat) (wx wm : va_W) (th : Int32) (O : Nat → Int64) (H : Heap) (locs : List Loc) (ls : Array Slot), sg_W h rr g fA wA nA tA rA dA oA cI cZ th N wx wm → va_P D vwC ([(oo, .inl (cJ, 1, .inr (.inl O)))] ++ wx ++ wm) H → va_D A ([(oo, .inl (cJ, 1, .inr (.inl O)))] ++ wx ++ wm) → va_S A s.heap H locs → lv_has ls 7 [(0, .ref b), (1, .ref h), (2, .ref g), (3, .ref oo), (4, .int (nI i))] → W p l e room_1 s m args below meth c H locs (21 + i) (110006 + 6 * i + 2 * N) Q (F0 m 854 ls [])) : W p l e room_1 s m args below meth c H locs (20 + i) (110000 + 6 * i + 2 * N) Q (F0 m 661 ls []) := by
  obtain ⟨cc, os, L, Rr, C, F, Wd, Nm, Tg, Rc, Dt, Rt, sl, go, gi, fr, la, re, rfl, rfl, hF⟩ := hI
  have hN9 : N ≤ 16385 := by have := hF.1.2.2.2.2; omega
  obtain ⟨k, r, w1, w2, O', hM1, hM2, ⟨cc1, os1, L1, R1, C1, F1, Wd1, Nm1, Tg1, Rc1, Dt1, Rt1, sl1, go1, gi1, fr1, la1, re1, rfl, rfl, hF1⟩, hk⟩ := st_number (l := l) (D := D) (h := h) (rr := rr) (cc := cc) (g := g) (fA := fA) (wA := wA) (nA := nA) (tA := tA) (rA := rA) (dA := dA) (oA := oA) (cI := cI) (cZ := cZ) (os := os) (L := L) (N := N) (C := C) (F := F) (Wd := Wd) (Nm := Nm) (Tg := Tg) (Rc := Rc) (Dt := Dt) (Rt := Rt) (sl := sl) (go := go) (gi := gi) (fr := fr) (la := la) (re := re) (th := th) (R := Rr) (cJ := cJ) (oo := oo) (O := O) hst hF (xs (i + 1))
  refine lv_aload_n hx hb dL_law_661 rfl (lv_at hl 1 rfl) ?_
  refine lv_aload_n hx hb dL_law_662 rfl (lv_at hl 0 rfl) ?_
  refine lv_iload hx hb dL_law_663 (lv_at hl 4 rfl) ?_
  refine lv_iconst (v := 1) hx hb dL_law_665 (by decide) ?_
  refine lv_iadd hx hb dL_law_666 ?_
  rw [show (nI i) + 1 = nI (i + 1) from nI_add i 1]
  refine sy_sld (j := i + 1) hx hb hX hbl hbA hS (by omega) (by omega) dL_law_667 ?_
  refine lv_aload_n hx hb dL_law_668 rfl (lv_at hl 3 rfl) ?_
  refine sy_cSg (mc := 1) (ms := 6) (wc := [(oo, .inl (cJ, 1, .inr (.inl O)))] ++ wX h rr cc cI N Rr C (nI L) (nI (sr_tot os)) (nI os.length) sl go gi fr la re) (wr := wM g fA wA nA tA rA dA oA cI cZ F Wd Nm Tg Rc Dt Rt th (nI L) (nI (1 + sr_tot os)) sl go gi) (w1 := (fun _ => [(oo, .inl (cJ, 1, .inr (.inl O')))] ++ wX h rr cc1 cI N R1 C1 (nI L1) (nI (sr_tot os1)) (nI os1.length) sl1 go1 gi1 fr1 la1 re1)) (As := [.ref h, .int (xs (i + 1)), .ref oo]) (rest := []) ⟨hx, hb, hml, hown, hbg⟩ (hM1 H.size) (vx_cwSW 3 hbg (bg_SS bw_282 bw_283 bw_33 bw_284) rfl rfl rfl (by decide +kernel) ⟨Nat.le_of_ble_eq_true rfl, Nat.le_of_ble_eq_true rfl⟩) hK [0, 2] rfl hP hD hS hA hG [0, 1, 2, 3] [4, 5, 6, 7, 8, 9, 10, 11] rfl rfl rfl rfl (by decide) rfl hl.1 rfl (Nat.le_of_ble_eq_true rfl) dL_law_669 ⟨by show _ ≤ 601024; omega, by show _ ≤ 7293033; omega⟩ (fun q H locs hP hD hS => ?_)
  have hP : va_P D vwC ([(oo, .inl (cJ, 1, .inr (.inl O')))] ++ wX h rr cc1 cI N R1 C1 (nI L1) (nI (sr_tot os1)) (nI os1.length) sl1 go1 gi1 fr1 la1 re1 ++ wM g fA wA nA tA rA dA oA cI cZ F Wd Nm Tg Rc Dt Rt th (nI L) (nI (1 + sr_tot os)) sl go gi) H := hP.sub [8, 9, 10, 11, 0, 1, 2, 3, 4, 5, 6, 7] rfl
  have hD : va_D A ([(oo, .inl (cJ, 1, .inr (.inl O')))] ++ wX h rr cc1 cI N R1 C1 (nI L1) (nI (sr_tot os1)) (nI os1.length) sl1 go1 gi1 fr1 la1 re1 ++ wM g fA wA nA tA rA dA oA cI cZ F Wd Nm Tg Rc Dt Rt th (nI L) (nI (1 + sr_tot os)) sl go gi) := hD.sub [8, 9, 10, 11, 0, 1, 2, 3, 4, 5, 6, 7] (by decide) rfl
  refine lv_istore (lv' := [(5, .int k), (0, .ref b), (1, .ref h), (2, .ref g), (3, .ref oo), (4, .int (nI i))]) hx hb dL_law_672 hl (by decide) rfl (fun ls hl => ?_)
  refine lv_aload_n hx hb dL_law_674 rfl (lv_at hl 3 rfl) ?_
  refine lv_aload_n hx hb dL_law_675 rfl (lv_at hl 1 rfl) ?_
  refine lv_iload hx hb dL_law_676 (lv_at hl 5 rfl) ?_
  refine lv_iconst (v := 1) hx hb dL_law_678 (by decide) ?_
  refine lv_iadd hx hb dL_law_679 ?_
  rw [show (nI i) + 1 = nI (i + 1) from nI_add i 1]
  refine sy_sld (j := i + 1) hx hb hX hbl hbA hS (by omega) (by omega) dL_law_680 ?_
  refine sy_cVi (mc := 0) (ms := 0) (wc := wM g fA wA nA tA rA dA oA cI cZ F Wd Nm Tg Rc Dt Rt th (nI L) (nI (1 + sr_tot os)) sl go gi) (wr := [(oo, .inl (cJ, 1, .inr (.inl O')))] ++ wX h rr cc1 cI N R1 C1 (nI L1) (nI (sr_tot os1)) (nI os1.length) sl1 go1 gi1 fr1 la1 re1) (w1 := wM g fA wA nA tA rA dA oA cI cZ F1 Wd1 Nm1 Tg1 Rc1 Dt1 Rt1 k (nI L1) (nI (1 + sr_tot os1)) sl1 go1 gi1) (ci := 1) (q0 := 0) (As := [.int (xs (i + 1))]) (rest := []) ⟨hx, hb, hml, hown, hbg⟩ (hM2 H.size) (cwV 1 hbg (bg_V bw_403 bw_404 bw_405 bw_35 bw_406) rfl rfl rfl (by decide +kernel) ⟨Nat.le_of_ble_eq_true rfl, Nat.le_of_ble_eq_true rfl⟩) hK [0, 1] rfl hP hD hS hA [4, 5, 6, 7, 8, 9, 10, 11] [0, 1, 2, 3] rfl rfl rfl rfl (by decide) rfl rfl rfl hl.1 rfl (Nat.le_of_ble_eq_true rfl) dL_law_681 ⟨by show _ ≤ 601024; omega, by show _ ≤ 7293033; omega⟩ (fun H locs hP hD hS => ?_)
  have hP : va_P D vwC ([(oo, .inl (cJ, 1, .inr (.inl O')))] ++ wX h rr cc1 cI N R1 C1 (nI L1) (nI (sr_tot os1)) (nI os1.length) sl1 go1 gi1 fr1 la1 re1 ++ wM g fA wA nA tA rA dA oA cI cZ F1 Wd1 Nm1 Tg1 Rc1 Dt1 Rt1 k (nI L1) (nI (1 + sr_tot os1)) sl1 go1 gi1) H := hP.sub [0, 1, 2, 3, 4, 5, 6, 7, 8, 9, 10, 11] rfl
  have hD : va_D A ([(oo, .inl (cJ, 1, .inr (.inl O')))] ++ wX h rr cc1 cI N R1 C1 (nI L1) (nI (sr_tot os1)) (nI os1.length) sl1 go1 gi1 fr1 la1 re1 ++ wM g fA wA nA tA rA dA oA cI cZ F1 Wd1 Nm1 Tg1 Rc1 Dt1 Rt1 k (nI L1) (nI (1 + sr_tot os1)) sl1 go1 gi1) := hD.sub [0, 1, 2, 3, 4, 5, 6, 7, 8, 9, 10, 11] (by decide) rfl
  refine lv_istore (lv' := [(6, .int r), (5, .int k), (0, .ref b), (1, .ref h), (2, .ref g), (3, .ref oo), (4, .int (nI i))]) hx hb dL_law_684 hl (by decide) rfl (fun ls hl => ?_)
  refine lv_aload_n hx hb dL_law_686 rfl (lv_at hl 4 rfl) ?_
  refine sy_cVi (mc := 0) (ms := 0) (wc := wM g fA wA nA tA rA dA oA cI cZ F1 Wd1 Nm1 Tg1 Rc1 Dt1 Rt1 k (nI L1) (nI (1 + sr_tot os1)) sl1 go1 gi1) (wr := [(oo, .inl (cJ, 1, .inr (.inl O')))] ++ wX h rr cc1 cI N R1 C1 (nI L1) (nI (sr_tot os1)) (nI os1.length) sl1 go1 gi1 fr1 la1 re1) (w1 := wM g fA wA nA tA rA dA oA cI cZ F1 Wd1 Nm1 Tg1 Rc1 Dt1 Rt1 k (nI L1) (nI (1 + sr_tot os1)) sl1 go1 gi1) (ci := 1) (q0 := 0) (As := []) (rest := []) ⟨hx, hb, hml, hown, hbg⟩ (ct_M_thrown l D g fA wA nA tA rA dA oA cI cZ F1 Wd1 Nm1 Tg1 Rc1 Dt1 Rt1 k (nI L1) (nI (1 + sr_tot os1)) sl1 go1 gi1 H.size) (cwV 0 hbg (bg_V bw_336 bw_337 bw_338 bw_35 bw_339) rfl rfl rfl (by decide +kernel) ⟨Nat.le_of_ble_eq_true rfl, Nat.le_of_ble_eq_true rfl⟩) hK [0, 1] rfl hP hD hS hA [4, 5, 6, 7, 8, 9, 10, 11] [0, 1, 2, 3] rfl rfl rfl rfl (by decide) rfl rfl rfl hl.1 rfl (Nat.le_of_ble_eq_true rfl) dL_law_687 ⟨by show _ ≤ 601024; omega, by show _ ≤ 7293033; omega⟩ (fun H locs hP hD hS => ?_)
  have hP : va_P D vwC ([(oo, .inl (cJ, 1, .inr (.inl O')))] ++ wX h rr cc1 cI N R1 C1 (nI L1) (nI (sr_tot os1)) (nI os1.length) sl1 go1 gi1 fr1 la1 re1 ++ wM g fA wA nA tA rA dA oA cI cZ F1 Wd1 Nm1 Tg1 Rc1 Dt1 Rt1 k (nI L1) (nI (1 + sr_tot os1)) sl1 go1 gi1) H := hP.sub [0, 1, 2, 3, 4, 5, 6, 7, 8, 9, 10, 11] rfl
  have hD : va_D A ([(oo, .inl (cJ, 1, .inr (.inl O')))] ++ wX h rr cc1 cI N R1 C1 (nI L1) (nI (sr_tot os1)) (nI os1.length) sl1 go1 gi1 fr1 la1 re1 ++ wM g fA wA nA tA rA dA oA cI cZ F1 Wd1 Nm1 Tg1 Rc1 Dt1 Rt1 k (nI L1) (nI (1 + sr_tot os1)) sl1 go1 gi1) := hD.sub [0, 1, 2, 3, 4, 5, 6, 7, 8, 9, 10, 11] (by decide) rfl
  refine lv_iload hx hb dL_law_690 (lv_at hl 1 rfl) ?_
  refine lv_icmp_eq (tgt := 697) hx hb dL_law_692 (by decide) (fun _ => ?_) (fun z => absurd rfl z)
  rcases hk with hk | ⟨hk, hO⟩
  · refine lv_iload hx hb dL_law_697 (lv_at hl 1 rfl) ?_
    refine lv_if_ne (tgt := 714) hx hb dL_law_699 (by decide) (fun _ => ?_) (fun z => absurd z (by rw [hk]; decide))
    refine lv_goto (tgt := 854) hx hb dL_law_714 (by decide) ?_
    refine W.widen (k := 21 + i) (n := 110006 + 6 * i + 2 * N) (by omega) (by omega) ?_
    exact kk _ _ _ _ _ _ _ _ (sg_mk hF1) hP hD hS (lv_sub hl [2, 3, 4, 5, 6] rfl)
  · refine lv_iload hx hb dL_law_697 (lv_at hl 1 rfl) ?_
    refine lv_if_ne (tgt := 714) hx hb dL_law_699 (by decide) (fun z => absurd hk z) (fun _ => ?_)
    refine lv_aload_n hx hb dL_law_702 rfl (lv_at hl 5 rfl) ?_
    refine lv_iconst (v := 0) hx hb dL_law_703 (by decide) ?_
    refine va_lald hx hb hK hP 0 2 rfl rfl sx_in01 dL_law_704 ?_
    refine lv_iload hx hb dL_law_705 (lv_at hl 0 rfl) ?_
    refine lv_i2l (v := r.toInt64) hx hb dL_law_707 rfl ?_
    refine W.lcmp hx hb dL_law_708 ?_
    refine lv_if_eq (tgt := 714) hx hb dL_law_709 (by decide) (fun _ => ?_) (fun z => absurd ((lg_cmp_eq _ _).mpr hO) z)
    refine lv_goto (tgt := 854) hx hb dL_law_714 (by decide) ?_
    refine W.widen (k := 21 + i) (n := 110006 + 6 * i + 2 * N) (by omega) (by omega) ?_
    exact kk _ _ _ _ _ _ _ _ (sg_mk hF1) hP hD hS (lv_sub hl [2, 3, 4, 5, 6] rfl)

set_option maxHeartbeats 4000000 in
set_option maxRecDepth 100000 in
theorem lo_next (hx : p.tables.exec = Jvm.exec) (hb : c.code = bL_law) (hml : c.maxLocals = 7) (hown : s.vm.findClass RL = some m.cls) (hbg : ∀ w ∈ sr_big, w.before args s = true) (hK : va_K D vwC [(cI, .int), (cZ, .boolean), (cJ, .long)] s) (hA : ∀ q : Nat, s.heap.size ≤ q → A q) (hbA : ¬ A b) (hX : va_X b L0 xs s s.heap) (hbl : b < s.heap.size) (hst : l.stackTraces = false) (hG : sx_H A s s.heap) (hL0 : L0 ≤ 2048) (i N : Nat) (hi : i + 4 ≤ L0) (wx wm : va_W) (th : Int32) (O : Nat → Int64) (H : Heap) (locs : List Loc) (ls : Array Slot) (hI : sg_W h rr g fA wA nA tA rA dA oA cI cZ th N wx wm) (hP : va_P D vwC ([(oo, .inl (cJ, 1, .inr (.inl O)))] ++ wx ++ wm) H) (hD : va_D A ([(oo, .inl (cJ, 1, .inr (.inl O)))] ++ wx ++ wm)) (hS : va_S A s.heap H locs) (hl : lv_has ls 7 [(0, .ref b), (1, .ref h), (2, .ref g), (3, .ref oo), (4, .int (nI i))]) (kk : ∀ (N : Nat) (wx wm : va_W) (th : Int32) (O : Nat → Int64) (H : Heap) (locs : List Loc) (ls : Array Slot), sg_W h rr g fA wA nA tA rA dA oA cI cZ th N wx wm → va_P D vwC ([(oo, .inl (cJ, 1, .inr (.inl O)))] ++ wx ++ wm) H → va_D A ([(oo, .inl (cJ, 1, .inr (.inl O)))] ++ wx ++ wm) → va_S A s.heap H locs → lv_has ls 7 [(0, .ref b), (1, .ref h), (2, .ref g), (3, .ref oo), (4, .int (nI i))] → W p l e room_1 s m args below meth c H locs (21 + i) (110006 + 6 * i + 2 * N) Q (F0 m 854 ls [])) : W p l e room_1 s m args below meth c H locs (20 + i) (110000 + 6 * i + 2 * N) Q (F0 m 742 ls []) := by
  obtain ⟨cc, os, L, Rr, C, F, Wd, Nm, Tg, Rc, Dt, Rt, sl, go, gi, fr, la, re, rfl, rfl, hF⟩ := hI
  have hN9 : N ≤ 16385 := by have := hF.1.2.2.2.2; omega
  obtain ⟨k, r, w1, w2, O', hM1, hM2, ⟨cc1, os1, L1, R1, C1, F1, Wd1, Nm1, Tg1, Rc1, Dt1, Rt1, sl1, go1, gi1, fr1, la1, re1, rfl, rfl, hF1⟩, hk⟩ := st_next (l := l) (D := D) (h := h) (rr := rr) (cc := cc) (g := g) (fA := fA) (wA := wA) (nA := nA) (tA := tA) (rA := rA) (dA := dA) (oA := oA) (cI := cI) (cZ := cZ) (os := os) (L := L) (N := N) (C := C) (F := F) (Wd := Wd) (Nm := Nm) (Tg := Tg) (Rc := Rc) (Dt := Dt) (Rt := Rt) (sl := sl) (go := go) (gi := gi) (fr := fr) (la := la) (re := re) (th := th) (R := Rr) (cJ := cJ) (oo := oo) (O := O) hst hF (xs (i + 1))
  refine lv_aload_n hx hb dL_law_742 rfl (lv_at hl 1 rfl) ?_
  refine lv_aload_n hx hb dL_law_743 rfl (lv_at hl 0 rfl) ?_
  refine lv_iload hx hb dL_law_744 (lv_at hl 4 rfl) ?_
  refine lv_iconst (v := 1) hx hb dL_law_746 (by decide) ?_
  refine lv_iadd hx hb dL_law_747 ?_
  rw [show (nI i) + 1 = nI (i + 1) from nI_add i 1]
  refine sy_sld (j := i + 1) hx hb hX hbl hbA hS (by omega) (by omega) dL_law_748 ?_
  refine lv_aload_n hx hb dL_law_749 rfl (lv_at hl 3 rfl) ?_
  refine sy_cSg (mc := 1) (ms := 6) (wc := [(oo, .inl (cJ, 1, .inr (.inl O)))] ++ wX h rr cc cI N Rr C (nI L) (nI (sr_tot os)) (nI os.length) sl go gi fr la re) (wr := wM g fA wA nA tA rA dA oA cI cZ F Wd Nm Tg Rc Dt Rt th (nI L) (nI (1 + sr_tot os)) sl go gi) (w1 := (fun _ => [(oo, .inl (cJ, 1, .inr (.inl O')))] ++ wX h rr cc1 cI N R1 C1 (nI L1) (nI (sr_tot os1)) (nI os1.length) sl1 go1 gi1 fr1 la1 re1)) (As := [.ref h, .int (xs (i + 1)), .ref oo]) (rest := []) ⟨hx, hb, hml, hown, hbg⟩ (hM1 H.size) (vx_cwSW 3 hbg (bg_SS bw_289 bw_290 bw_33 bw_291) rfl rfl rfl (by decide +kernel) ⟨Nat.le_of_ble_eq_true rfl, Nat.le_of_ble_eq_true rfl⟩) hK [0, 2] rfl hP hD hS hA hG [0, 1, 2, 3] [4, 5, 6, 7, 8, 9, 10, 11] rfl rfl rfl rfl (by decide) rfl hl.1 rfl (Nat.le_of_ble_eq_true rfl) dL_law_750 ⟨by show _ ≤ 601024; omega, by show _ ≤ 7293033; omega⟩ (fun q H locs hP hD hS => ?_)
  have hP : va_P D vwC ([(oo, .inl (cJ, 1, .inr (.inl O')))] ++ wX h rr cc1 cI N R1 C1 (nI L1) (nI (sr_tot os1)) (nI os1.length) sl1 go1 gi1 fr1 la1 re1 ++ wM g fA wA nA tA rA dA oA cI cZ F Wd Nm Tg Rc Dt Rt th (nI L) (nI (1 + sr_tot os)) sl go gi) H := hP.sub [8, 9, 10, 11, 0, 1, 2, 3, 4, 5, 6, 7] rfl
  have hD : va_D A ([(oo, .inl (cJ, 1, .inr (.inl O')))] ++ wX h rr cc1 cI N R1 C1 (nI L1) (nI (sr_tot os1)) (nI os1.length) sl1 go1 gi1 fr1 la1 re1 ++ wM g fA wA nA tA rA dA oA cI cZ F Wd Nm Tg Rc Dt Rt th (nI L) (nI (1 + sr_tot os)) sl go gi) := hD.sub [8, 9, 10, 11, 0, 1, 2, 3, 4, 5, 6, 7] (by decide) rfl
  refine lv_istore (lv' := [(5, .int k), (0, .ref b), (1, .ref h), (2, .ref g), (3, .ref oo), (4, .int (nI i))]) hx hb dL_law_753 hl (by decide) rfl (fun ls hl => ?_)
  refine lv_aload_n hx hb dL_law_755 rfl (lv_at hl 3 rfl) ?_
  refine lv_aload_n hx hb dL_law_756 rfl (lv_at hl 1 rfl) ?_
  refine lv_iload hx hb dL_law_757 (lv_at hl 5 rfl) ?_
  refine lv_iconst (v := 1) hx hb dL_law_759 (by decide) ?_
  refine lv_iadd hx hb dL_law_760 ?_
  rw [show (nI i) + 1 = nI (i + 1) from nI_add i 1]
  refine sy_sld (j := i + 1) hx hb hX hbl hbA hS (by omega) (by omega) dL_law_761 ?_
  refine sy_cVi (mc := 0) (ms := 0) (wc := wM g fA wA nA tA rA dA oA cI cZ F Wd Nm Tg Rc Dt Rt th (nI L) (nI (1 + sr_tot os)) sl go gi) (wr := [(oo, .inl (cJ, 1, .inr (.inl O')))] ++ wX h rr cc1 cI N R1 C1 (nI L1) (nI (sr_tot os1)) (nI os1.length) sl1 go1 gi1 fr1 la1 re1) (w1 := wM g fA wA nA tA rA dA oA cI cZ F1 Wd1 Nm1 Tg1 Rc1 Dt1 Rt1 k (nI L1) (nI (1 + sr_tot os1)) sl1 go1 gi1) (ci := 1) (q0 := 0) (As := [.int (xs (i + 1))]) (rest := []) ⟨hx, hb, hml, hown, hbg⟩ (hM2 H.size) (cwV 1 hbg (bg_V bw_411 bw_412 bw_413 bw_35 bw_414) rfl rfl rfl (by decide +kernel) ⟨Nat.le_of_ble_eq_true rfl, Nat.le_of_ble_eq_true rfl⟩) hK [0, 1] rfl hP hD hS hA [4, 5, 6, 7, 8, 9, 10, 11] [0, 1, 2, 3] rfl rfl rfl rfl (by decide) rfl rfl rfl hl.1 rfl (Nat.le_of_ble_eq_true rfl) dL_law_762 ⟨by show _ ≤ 601024; omega, by show _ ≤ 7293033; omega⟩ (fun H locs hP hD hS => ?_)
  have hP : va_P D vwC ([(oo, .inl (cJ, 1, .inr (.inl O')))] ++ wX h rr cc1 cI N R1 C1 (nI L1) (nI (sr_tot os1)) (nI os1.length) sl1 go1 gi1 fr1 la1 re1 ++ wM g fA wA nA tA rA dA oA cI cZ F1 Wd1 Nm1 Tg1 Rc1 Dt1 Rt1 k (nI L1) (nI (1 + sr_tot os1)) sl1 go1 gi1) H := hP.sub [0, 1, 2, 3, 4, 5, 6, 7, 8, 9, 10, 11] rfl
  have hD : va_D A ([(oo, .inl (cJ, 1, .inr (.inl O')))] ++ wX h rr cc1 cI N R1 C1 (nI L1) (nI (sr_tot os1)) (nI os1.length) sl1 go1 gi1 fr1 la1 re1 ++ wM g fA wA nA tA rA dA oA cI cZ F1 Wd1 Nm1 Tg1 Rc1 Dt1 Rt1 k (nI L1) (nI (1 + sr_tot os1)) sl1 go1 gi1) := hD.sub [0, 1, 2, 3, 4, 5, 6, 7, 8, 9, 10, 11] (by decide) rfl
  refine lv_istore (lv' := [(6, .int r), (5, .int k), (0, .ref b), (1, .ref h), (2, .ref g), (3, .ref oo), (4, .int (nI i))]) hx hb dL_law_765 hl (by decide) rfl (fun ls hl => ?_)
  refine lv_aload_n hx hb dL_law_767 rfl (lv_at hl 4 rfl) ?_
  refine sy_cVi (mc := 0) (ms := 0) (wc := wM g fA wA nA tA rA dA oA cI cZ F1 Wd1 Nm1 Tg1 Rc1 Dt1 Rt1 k (nI L1) (nI (1 + sr_tot os1)) sl1 go1 gi1) (wr := [(oo, .inl (cJ, 1, .inr (.inl O')))] ++ wX h rr cc1 cI N R1 C1 (nI L1) (nI (sr_tot os1)) (nI os1.length) sl1 go1 gi1 fr1 la1 re1) (w1 := wM g fA wA nA tA rA dA oA cI cZ F1 Wd1 Nm1 Tg1 Rc1 Dt1 Rt1 k (nI L1) (nI (1 + sr_tot os1)) sl1 go1 gi1) (ci := 1) (q0 := 0) (As := []) (rest := []) ⟨hx, hb, hml, hown, hbg⟩ (ct_M_thrown l D g fA wA nA tA rA dA oA cI cZ F1 Wd1 Nm1 Tg1 Rc1 Dt1 Rt1 k (nI L1) (nI (1 + sr_tot os1)) sl1 go1 gi1 H.size) (cwV 0 hbg (bg_V bw_336 bw_337 bw_338 bw_35 bw_339) rfl rfl rfl (by decide +kernel) ⟨Nat.le_of_ble_eq_true rfl, Nat.le_of_ble_eq_true rfl⟩) hK [0, 1] rfl hP hD hS hA [4, 5, 6, 7, 8, 9, 10, 11] [0, 1, 2, 3] rfl rfl rfl rfl (by decide) rfl rfl rfl hl.1 rfl (Nat.le_of_ble_eq_true rfl) dL_law_768 ⟨by show _ ≤ 601024; omega, by show _ ≤ 7293033; omega⟩ (fun H locs hP hD hS => ?_)
  have hP : va_P D vwC ([(oo, .inl (cJ, 1, .inr (.inl O')))] ++ wX h rr cc1 cI N R1 C1 (nI L1) (nI (sr_tot os1)) (nI os1.length) sl1 go1 gi1 fr1 la1 re1 ++ wM g fA wA nA tA rA dA oA cI cZ F1 Wd1 Nm1 Tg1 Rc1 Dt1 Rt1 k (nI L1) (nI (1 + sr_tot os1)) sl1 go1 gi1) H := hP.sub [0, 1, 2, 3, 4, 5, 6, 7, 8, 9, 10, 11] rfl
  have hD : va_D A ([(oo, .inl (cJ, 1, .inr (.inl O')))] ++ wX h rr cc1 cI N R1 C1 (nI L1) (nI (sr_tot os1)) (nI os1.length) sl1 go1 gi1 fr1 la1 re1 ++ wM g fA wA nA tA rA dA oA cI cZ F1 Wd1 Nm1 Tg1 Rc1 Dt1 Rt1 k (nI L1) (nI (1 + sr_tot os1)) sl1 go1 gi1) := hD.sub [0, 1, 2, 3, 4, 5, 6, 7, 8, 9, 10, 11] (by decide) rfl
  refine lv_iload hx hb dL_law_771 (lv_at hl 1 rfl) ?_
  refine lv_icmp_eq (tgt := 778) hx hb dL_law_773 (by decide) (fun _ => ?_) (fun z => absurd rfl z)
  rcases hk with hk | ⟨hk, hO⟩
  · refine lv_iload hx hb dL_law_778 (lv_at hl 1 rfl) ?_
    refine lv_if_ne (tgt := 795) hx hb dL_law_780 (by decide) (fun _ => ?_) (fun z => absurd z (by rw [hk]; decide))
    refine lv_goto (tgt := 854) hx hb dL_law_795 (by decide) ?_
    refine W.widen (k := 21 + i) (n := 110006 + 6 * i + 2 * N) (by omega) (by omega) ?_
    exact kk _ _ _ _ _ _ _ _ (sg_mk hF1) hP hD hS (lv_sub hl [2, 3, 4, 5, 6] rfl)
  · refine lv_iload hx hb dL_law_778 (lv_at hl 1 rfl) ?_
    refine lv_if_ne (tgt := 795) hx hb dL_law_780 (by decide) (fun z => absurd hk z) (fun _ => ?_)
    refine lv_aload_n hx hb dL_law_783 rfl (lv_at hl 5 rfl) ?_
    refine lv_iconst (v := 0) hx hb dL_law_784 (by decide) ?_
    refine va_lald hx hb hK hP 0 2 rfl rfl sx_in01 dL_law_785 ?_
    refine lv_iload hx hb dL_law_786 (lv_at hl 0 rfl) ?_
    refine lv_i2l (v := r.toInt64) hx hb dL_law_788 rfl ?_
    refine W.lcmp hx hb dL_law_789 ?_
    refine lv_if_eq (tgt := 795) hx hb dL_law_790 (by decide) (fun _ => ?_) (fun z => absurd ((lg_cmp_eq _ _).mpr hO) z)
    refine lv_goto (tgt := 854) hx hb dL_law_795 (by decide) ?_
    refine W.widen (k := 21 + i) (n := 110006 + 6 * i + 2 * N) (by omega) (by omega) ?_
    exact kk _ _ _ _ _ _ _ _ (sg_mk hF1) hP hD hS (lv_sub hl [2, 3, 4, 5, 6] rfl)

set_option maxHeartbeats 4000000 in
set_option maxRecDepth 100000 in
theorem lo_count (hx : p.tables.exec = Jvm.exec) (hb : c.code = bL_law) (hml : c.maxLocals = 7) (hown : s.vm.findClass RL = some m.cls) (hbg : ∀ w ∈ sr_big, w.before args s = true) (hK : va_K D vwC [(cI, .int), (cZ, .boolean), (cJ, .long)] s) (hA : ∀ q : Nat, s.heap.size ≤ q → A q) (hbA : ¬ A b) (hX : va_X b L0 xs s s.heap) (hbl : b < s.heap.size) (hst : l.stackTraces = false) (hG : sx_H A s s.heap) (hL0 : L0 ≤ 2048) (i N : Nat) (hi : i + 4 ≤ L0) (wx wm : va_W) (th : Int32) (O : Nat → Int64) (H : Heap) (locs : List Loc) (ls : Array Slot) (hI : sg_W h rr g fA wA nA tA rA dA oA cI cZ th N wx wm) (hP : va_P D vwC ([(oo, .inl (cJ, 1, .inr (.inl O)))] ++ wx ++ wm) H) (hD : va_D A ([(oo, .inl (cJ, 1, .inr (.inl O)))] ++ wx ++ wm)) (hS : va_S A s.heap H locs) (hl : lv_has ls 7 [(0, .ref b), (1, .ref h), (2, .ref g), (3, .ref oo), (4, .int (nI i))]) (kk : ∀ (N : Nat) (wx wm : va_W) (th : Int32) (O : Nat → Int64) (H : Heap) (locs : List Loc) (ls : Array Slot), sg_W h rr g fA wA nA tA rA dA oA cI cZ th N wx wm → va_P D vwC ([(oo, .inl (cJ, 1, .inr (.inl O)))] ++ wx ++ wm) H → va_D A ([(oo, .inl (cJ, 1, .inr (.inl O)))] ++ wx ++ wm) → va_S A s.heap H locs → lv_has ls 7 [(0, .ref b), (1, .ref h), (2, .ref g), (3, .ref oo), (4, .int (nI i))] → W p l e room_1 s m args below meth c H locs (21 + i) (110006 + 6 * i + 2 * N) Q (F0 m 854 ls [])) : W p l e room_1 s m args below meth c H locs (20 + i) (110000 + 6 * i + 2 * N) Q (F0 m 798 ls []) := by
  obtain ⟨cc, os, L, Rr, C, F, Wd, Nm, Tg, Rc, Dt, Rt, sl, go, gi, fr, la, re, rfl, rfl, hF⟩ := hI
  have hN9 : N ≤ 16385 := by have := hF.1.2.2.2.2; omega
  obtain ⟨k, r, w1, w2, O', hM1, hM2, ⟨cc1, os1, L1, R1, C1, F1, Wd1, Nm1, Tg1, Rc1, Dt1, Rt1, sl1, go1, gi1, fr1, la1, re1, rfl, rfl, hF1⟩, hk⟩ := st_count (l := l) (D := D) (h := h) (rr := rr) (cc := cc) (g := g) (fA := fA) (wA := wA) (nA := nA) (tA := tA) (rA := rA) (dA := dA) (oA := oA) (cI := cI) (cZ := cZ) (os := os) (L := L) (N := N) (C := C) (F := F) (Wd := Wd) (Nm := Nm) (Tg := Tg) (Rc := Rc) (Dt := Dt) (Rt := Rt) (sl := sl) (go := go) (gi := gi) (fr := fr) (la := la) (re := re) (th := th) (R := Rr) (cJ := cJ) (oo := oo) (O := O) hst hF (xs (i + 1))
  refine lv_aload_n hx hb dL_law_798 rfl (lv_at hl 1 rfl) ?_
  refine lv_aload_n hx hb dL_law_799 rfl (lv_at hl 0 rfl) ?_
  refine lv_iload hx hb dL_law_800 (lv_at hl 4 rfl) ?_
  refine lv_iconst (v := 1) hx hb dL_law_802 (by decide) ?_
  refine lv_iadd hx hb dL_law_803 ?_
  rw [show (nI i) + 1 = nI (i + 1) from nI_add i 1]
  refine sy_sld (j := i + 1) hx hb hX hbl hbA hS (by omega) (by omega) dL_law_804 ?_
  refine lv_aload_n hx hb dL_law_805 rfl (lv_at hl 3 rfl) ?_
  refine sy_cSg (mc := 1) (ms := 6) (wc := [(oo, .inl (cJ, 1, .inr (.inl O)))] ++ wX h rr cc cI N Rr C (nI L) (nI (sr_tot os)) (nI os.length) sl go gi fr la re) (wr := wM g fA wA nA tA rA dA oA cI cZ F Wd Nm Tg Rc Dt Rt th (nI L) (nI (1 + sr_tot os)) sl go gi) (w1 := (fun _ => [(oo, .inl (cJ, 1, .inr (.inl O')))] ++ wX h rr cc1 cI N R1 C1 (nI L1) (nI (sr_tot os1)) (nI os1.length) sl1 go1 gi1 fr1 la1 re1)) (As := [.ref h, .int (xs (i + 1)), .ref oo]) (rest := []) ⟨hx, hb, hml, hown, hbg⟩ (hM1 H.size) (vx_cwSW 3 hbg (bg_SS bw_296 bw_297 bw_33 bw_298) rfl rfl rfl (by decide +kernel) ⟨Nat.le_of_ble_eq_true rfl, Nat.le_of_ble_eq_true rfl⟩) hK [0, 2] rfl hP hD hS hA hG [0, 1, 2, 3] [4, 5, 6, 7, 8, 9, 10, 11] rfl rfl rfl rfl (by decide) rfl hl.1 rfl (Nat.le_of_ble_eq_true rfl) dL_law_806 ⟨by show _ ≤ 601024; omega, by show _ ≤ 7293033; omega⟩ (fun q H locs hP hD hS => ?_)
  have hP : va_P D vwC ([(oo, .inl (cJ, 1, .inr (.inl O')))] ++ wX h rr cc1 cI N R1 C1 (nI L1) (nI (sr_tot os1)) (nI os1.length) sl1 go1 gi1 fr1 la1 re1 ++ wM g fA wA nA tA rA dA oA cI cZ F Wd Nm Tg Rc Dt Rt th (nI L) (nI (1 + sr_tot os)) sl go gi) H := hP.sub [8, 9, 10, 11, 0, 1, 2, 3, 4, 5, 6, 7] rfl
  have hD : va_D A ([(oo, .inl (cJ, 1, .inr (.inl O')))] ++ wX h rr cc1 cI N R1 C1 (nI L1) (nI (sr_tot os1)) (nI os1.length) sl1 go1 gi1 fr1 la1 re1 ++ wM g fA wA nA tA rA dA oA cI cZ F Wd Nm Tg Rc Dt Rt th (nI L) (nI (1 + sr_tot os)) sl go gi) := hD.sub [8, 9, 10, 11, 0, 1, 2, 3, 4, 5, 6, 7] (by decide) rfl
  refine lv_istore (lv' := [(5, .int k), (0, .ref b), (1, .ref h), (2, .ref g), (3, .ref oo), (4, .int (nI i))]) hx hb dL_law_809 hl (by decide) rfl (fun ls hl => ?_)
  refine lv_aload_n hx hb dL_law_811 rfl (lv_at hl 3 rfl) ?_
  refine lv_aload_n hx hb dL_law_812 rfl (lv_at hl 1 rfl) ?_
  refine lv_iload hx hb dL_law_813 (lv_at hl 5 rfl) ?_
  refine lv_iconst (v := 1) hx hb dL_law_815 (by decide) ?_
  refine lv_iadd hx hb dL_law_816 ?_
  rw [show (nI i) + 1 = nI (i + 1) from nI_add i 1]
  refine sy_sld (j := i + 1) hx hb hX hbl hbA hS (by omega) (by omega) dL_law_817 ?_
  refine sy_cVi (mc := 0) (ms := 0) (wc := wM g fA wA nA tA rA dA oA cI cZ F Wd Nm Tg Rc Dt Rt th (nI L) (nI (1 + sr_tot os)) sl go gi) (wr := [(oo, .inl (cJ, 1, .inr (.inl O')))] ++ wX h rr cc1 cI N R1 C1 (nI L1) (nI (sr_tot os1)) (nI os1.length) sl1 go1 gi1 fr1 la1 re1) (w1 := wM g fA wA nA tA rA dA oA cI cZ F1 Wd1 Nm1 Tg1 Rc1 Dt1 Rt1 k (nI L1) (nI (1 + sr_tot os1)) sl1 go1 gi1) (ci := 1) (q0 := 0) (As := [.int (xs (i + 1))]) (rest := []) ⟨hx, hb, hml, hown, hbg⟩ (hM2 H.size) (cwV 1 hbg (bg_V bw_415 bw_416 bw_417 bw_35 bw_418) rfl rfl rfl (by decide +kernel) ⟨Nat.le_of_ble_eq_true rfl, Nat.le_of_ble_eq_true rfl⟩) hK [0, 1] rfl hP hD hS hA [4, 5, 6, 7, 8, 9, 10, 11] [0, 1, 2, 3] rfl rfl rfl rfl (by decide) rfl rfl rfl hl.1 rfl (Nat.le_of_ble_eq_true rfl) dL_law_818 ⟨by show _ ≤ 601024; omega, by show _ ≤ 7293033; omega⟩ (fun H locs hP hD hS => ?_)
  have hP : va_P D vwC ([(oo, .inl (cJ, 1, .inr (.inl O')))] ++ wX h rr cc1 cI N R1 C1 (nI L1) (nI (sr_tot os1)) (nI os1.length) sl1 go1 gi1 fr1 la1 re1 ++ wM g fA wA nA tA rA dA oA cI cZ F1 Wd1 Nm1 Tg1 Rc1 Dt1 Rt1 k (nI L1) (nI (1 + sr_tot os1)) sl1 go1 gi1) H := hP.sub [0, 1, 2, 3, 4, 5, 6, 7, 8, 9, 10, 11] rfl
  have hD : va_D A ([(oo, .inl (cJ, 1, .inr (.inl O')))] ++ wX h rr cc1 cI N R1 C1 (nI L1) (nI (sr_tot os1)) (nI os1.length) sl1 go1 gi1 fr1 la1 re1 ++ wM g fA wA nA tA rA dA oA cI cZ F1 Wd1 Nm1 Tg1 Rc1 Dt1 Rt1 k (nI L1) (nI (1 + sr_tot os1)) sl1 go1 gi1) := hD.sub [0, 1, 2, 3, 4, 5, 6, 7, 8, 9, 10, 11] (by decide) rfl
  refine lv_istore (lv' := [(6, .int r), (5, .int k), (0, .ref b), (1, .ref h), (2, .ref g), (3, .ref oo), (4, .int (nI i))]) hx hb dL_law_821 hl (by decide) rfl (fun ls hl => ?_)
  refine lv_aload_n hx hb dL_law_823 rfl (lv_at hl 4 rfl) ?_
  refine sy_cVi (mc := 0) (ms := 0) (wc := wM g fA wA nA tA rA dA oA cI cZ F1 Wd1 Nm1 Tg1 Rc1 Dt1 Rt1 k (nI L1) (nI (1 + sr_tot os1)) sl1 go1 gi1) (wr := [(oo, .inl (cJ, 1, .inr (.inl O')))] ++ wX h rr cc1 cI N R1 C1 (nI L1) (nI (sr_tot os1)) (nI os1.length) sl1 go1 gi1 fr1 la1 re1) (w1 := wM g fA wA nA tA rA dA oA cI cZ F1 Wd1 Nm1 Tg1 Rc1 Dt1 Rt1 k (nI L1) (nI (1 + sr_tot os1)) sl1 go1 gi1) (ci := 1) (q0 := 0) (As := []) (rest := []) ⟨hx, hb, hml, hown, hbg⟩ (ct_M_thrown l D g fA wA nA tA rA dA oA cI cZ F1 Wd1 Nm1 Tg1 Rc1 Dt1 Rt1 k (nI L1) (nI (1 + sr_tot os1)) sl1 go1 gi1 H.size) (cwV 0 hbg (bg_V bw_336 bw_337 bw_338 bw_35 bw_339) rfl rfl rfl (by decide +kernel) ⟨Nat.le_of_ble_eq_true rfl, Nat.le_of_ble_eq_true rfl⟩) hK [0, 1] rfl hP hD hS hA [4, 5, 6, 7, 8, 9, 10, 11] [0, 1, 2, 3] rfl rfl rfl rfl (by decide) rfl rfl rfl hl.1 rfl (Nat.le_of_ble_eq_true rfl) dL_law_824 ⟨by show _ ≤ 601024; omega, by show _ ≤ 7293033; omega⟩ (fun H locs hP hD hS => ?_)
  have hP : va_P D vwC ([(oo, .inl (cJ, 1, .inr (.inl O')))] ++ wX h rr cc1 cI N R1 C1 (nI L1) (nI (sr_tot os1)) (nI os1.length) sl1 go1 gi1 fr1 la1 re1 ++ wM g fA wA nA tA rA dA oA cI cZ F1 Wd1 Nm1 Tg1 Rc1 Dt1 Rt1 k (nI L1) (nI (1 + sr_tot os1)) sl1 go1 gi1) H := hP.sub [0, 1, 2, 3, 4, 5, 6, 7, 8, 9, 10, 11] rfl
  have hD : va_D A ([(oo, .inl (cJ, 1, .inr (.inl O')))] ++ wX h rr cc1 cI N R1 C1 (nI L1) (nI (sr_tot os1)) (nI os1.length) sl1 go1 gi1 fr1 la1 re1 ++ wM g fA wA nA tA rA dA oA cI cZ F1 Wd1 Nm1 Tg1 Rc1 Dt1 Rt1 k (nI L1) (nI (1 + sr_tot os1)) sl1 go1 gi1) := hD.sub [0, 1, 2, 3, 4, 5, 6, 7, 8, 9, 10, 11] (by decide) rfl
  refine lv_iload hx hb dL_law_827 (lv_at hl 1 rfl) ?_
  refine lv_icmp_eq (tgt := 834) hx hb dL_law_829 (by decide) (fun _ => ?_) (fun z => absurd rfl z)
  rcases hk with hk | ⟨hk, hO⟩
  · refine lv_iload hx hb dL_law_834 (lv_at hl 1 rfl) ?_
    refine lv_if_ne (tgt := 851) hx hb dL_law_836 (by decide) (fun _ => ?_) (fun z => absurd z (by rw [hk]; decide))
    refine lv_goto (tgt := 854) hx hb dL_law_851 (by decide) ?_
    refine W.widen (k := 21 + i) (n := 110006 + 6 * i + 2 * N) (by omega) (by omega) ?_
    exact kk _ _ _ _ _ _ _ _ (sg_mk hF1) hP hD hS (lv_sub hl [2, 3, 4, 5, 6] rfl)
  · refine lv_iload hx hb dL_law_834 (lv_at hl 1 rfl) ?_
    refine lv_if_ne (tgt := 851) hx hb dL_law_836 (by decide) (fun z => absurd hk z) (fun _ => ?_)
    refine lv_aload_n hx hb dL_law_839 rfl (lv_at hl 5 rfl) ?_
    refine lv_iconst (v := 0) hx hb dL_law_840 (by decide) ?_
    refine va_lald hx hb hK hP 0 2 rfl rfl sx_in01 dL_law_841 ?_
    refine lv_iload hx hb dL_law_842 (lv_at hl 0 rfl) ?_
    refine lv_i2l (v := r.toInt64) hx hb dL_law_844 rfl ?_
    refine W.lcmp hx hb dL_law_845 ?_
    refine lv_if_eq (tgt := 851) hx hb dL_law_846 (by decide) (fun _ => ?_) (fun z => absurd ((lg_cmp_eq _ _).mpr hO) z)
    refine lv_goto (tgt := 854) hx hb dL_law_851 (by decide) ?_
    refine W.widen (k := 21 + i) (n := 110006 + 6 * i + 2 * N) (by omega) (by omega) ?_
    exact kk _ _ _ _ _ _ _ _ (sg_mk hF1) hP hD hS (lv_sub hl [2, 3, 4, 5, 6] rfl)

set_option maxHeartbeats 4000000 in
set_option maxRecDepth 100000 in
theorem lo_slide (hx : p.tables.exec = Jvm.exec) (hb : c.code = bL_law) (hml : c.maxLocals = 7) (hown : s.vm.findClass RL = some m.cls) (hbg : ∀ w ∈ sr_big, w.before args s = true) (hK : va_K D vwC [(cI, .int), (cZ, .boolean), (cJ, .long)] s) (hA : ∀ q : Nat, s.heap.size ≤ q → A q) (hbA : ¬ A b) (hX : va_X b L0 xs s s.heap) (hbl : b < s.heap.size) (hst : l.stackTraces = false) (hG : sx_H A s s.heap) (hL0 : L0 ≤ 2048) (i N : Nat) (hi : i + 4 ≤ L0) (wx wm : va_W) (th : Int32) (O : Nat → Int64) (H : Heap) (locs : List Loc) (ls : Array Slot) (hI : sg_W h rr g fA wA nA tA rA dA oA cI cZ th N wx wm) (hP : va_P D vwC ([(oo, .inl (cJ, 1, .inr (.inl O)))] ++ wx ++ wm) H) (hD : va_D A ([(oo, .inl (cJ, 1, .inr (.inl O)))] ++ wx ++ wm)) (hS : va_S A s.heap H locs) (hl : lv_has ls 7 [(0, .ref b), (1, .ref h), (2, .ref g), (3, .ref oo), (4, .int (nI i))]) (kk : ∀ (N : Nat) (wx wm : va_W) (th : Int32) (O : Nat → Int64) (H : Heap) (locs : List Loc) (ls : Array Slot), sg_W h rr g fA wA nA tA rA dA oA cI cZ th N wx wm → va_P D vwC ([(oo, .inl (cJ, 1, .inr (.inl O)))] ++ wx ++ wm) H → va_D A ([(oo, .inl (cJ, 1, .inr (.inl O)))] ++ wx ++ wm) → va_S A s.heap H locs → lv_has ls 7 [(0, .ref b), (1, .ref h), (2, .ref g), (3, .ref oo), (4, .int (nI i))] → W p l e room_1 s m args below meth c H locs (21 + i) (110006 + 6 * i + 2 * N) Q (F0 m 854 ls [])) : W p l e room_1 s m args below meth c H locs (20 + i) (110000 + 6 * i + 2 * N) Q (F0 m 648 ls []) := by
  obtain ⟨cc, os, L, Rr, C, F, Wd, Nm, Tg, Rc, Dt, Rt, sl, go, gi, fr, la, re, rfl, rfl, hF⟩ := hI
  have hN9 : N ≤ 16385 := by have := hF.1.2.2.2.2; omega
  obtain ⟨r, w1, w2, hX1, hM2, ⟨cc1, os1, L1, R1, C1, F1, Wd1, Nm1, Tg1, Rc1, Dt1, Rt1, sl1, go1, gi1, fr1, la1, re1, rfl, rfl, hF1⟩⟩ := st_slide (l := l) (D := D) (h := h) (rr := rr) (cc := cc) (g := g) (fA := fA) (wA := wA) (nA := nA) (tA := tA) (rA := rA) (dA := dA) (oA := oA) (cI := cI) (cZ := cZ) (os := os) (L := L) (N := N) (C := C) (F := F) (Wd := Wd) (Nm := Nm) (Tg := Tg) (Rc := Rc) (Dt := Dt) (Rt := Rt) (sl := sl) (go := go) (gi := gi) (fr := fr) (la := la) (re := re) (th := th) (R := Rr) hF
  refine lv_aload_n hx hb dL_law_648 rfl (lv_at hl 1 rfl) ?_
  refine sy_cVi (mc := 0) (ms := 0) (wc := wX h rr cc cI N Rr C (nI L) (nI (sr_tot os)) (nI os.length) sl go gi fr la re) (wr := [(oo, .inl (cJ, 1, .inr (.inl O)))] ++ wM g fA wA nA tA rA dA oA cI cZ F Wd Nm Tg Rc Dt Rt th (nI L) (nI (1 + sr_tot os)) sl go gi) (w1 := wX h rr cc1 cI N R1 C1 (nI L1) (nI (sr_tot os1)) (nI os1.length) sl1 go1 gi1 fr1 la1 re1) (ci := 0) (q0 := 0) (As := []) (rest := []) ⟨hx, hb, hml, hown, hbg⟩ (hX1 H.size) (cwV 0 hbg (bg_V bw_74 bw_75 bw_76 bw_34 bw_77) rfl rfl rfl (by decide +kernel) ⟨Nat.le_of_ble_eq_true rfl, Nat.le_of_ble_eq_true rfl⟩) hK [0] rfl hP hD hS hA [1, 2, 3] [0, 4, 5, 6, 7, 8, 9, 10, 11] rfl rfl rfl rfl (by decide) rfl rfl rfl hl.1 rfl (Nat.le_of_ble_eq_true rfl) dL_law_649 ⟨by show _ ≤ 601024; omega, by show _ ≤ 7293033; omega⟩ (fun H locs hP hD hS => ?_)
  have hP : va_P D vwC ([(oo, .inl (cJ, 1, .inr (.inl O)))] ++ wX h rr cc1 cI N R1 C1 (nI L1) (nI (sr_tot os1)) (nI os1.length) sl1 go1 gi1 fr1 la1 re1 ++ wM g fA wA nA tA rA dA oA cI cZ F Wd Nm Tg Rc Dt Rt th (nI L) (nI (1 + sr_tot os)) sl go gi) H := hP.sub [0, 9, 10, 11, 1, 2, 3, 4, 5, 6, 7, 8] rfl
  have hD : va_D A ([(oo, .inl (cJ, 1, .inr (.inl O)))] ++ wX h rr cc1 cI N R1 C1 (nI L1) (nI (sr_tot os1)) (nI os1.length) sl1 go1 gi1 fr1 la1 re1 ++ wM g fA wA nA tA rA dA oA cI cZ F Wd Nm Tg Rc Dt Rt th (nI L) (nI (1 + sr_tot os)) sl go gi) := hD.sub [0, 9, 10, 11, 1, 2, 3, 4, 5, 6, 7, 8] (by decide) rfl
  refine lv_aload_n hx hb dL_law_652 rfl (lv_at hl 2 rfl) ?_
  refine sy_cVi (mc := 0) (ms := 0) (wc := wM g fA wA nA tA rA dA oA cI cZ F Wd Nm Tg Rc Dt Rt th (nI L) (nI (1 + sr_tot os)) sl go gi) (wr := [(oo, .inl (cJ, 1, .inr (.inl O)))] ++ wX h rr cc1 cI N R1 C1 (nI L1) (nI (sr_tot os1)) (nI os1.length) sl1 go1 gi1 fr1 la1 re1) (w1 := wM g fA wA nA tA rA dA oA cI cZ F1 Wd1 Nm1 Tg1 Rc1 Dt1 Rt1 0 (nI L1) (nI (1 + sr_tot os1)) sl1 go1 gi1) (ci := 1) (q0 := 0) (As := []) (rest := [.int r]) ⟨hx, hb, hml, hown, hbg⟩ (hM2 H.size) (cwV 0 hbg (bg_V bw_387 bw_388 bw_389 bw_35 bw_390) rfl rfl rfl (by decide +kernel) ⟨Nat.le_of_ble_eq_true rfl, Nat.le_of_ble_eq_true rfl⟩) hK [0, 1] rfl hP hD hS hA [4, 5, 6, 7, 8, 9, 10, 11] [0, 1, 2, 3] rfl rfl rfl rfl (by decide) rfl rfl rfl hl.1 rfl (Nat.le_of_ble_eq_true rfl) dL_law_653 ⟨by show _ ≤ 601024; omega, by show _ ≤ 7293033; omega⟩ (fun H locs hP hD hS => ?_)
  have hP : va_P D vwC ([(oo, .inl (cJ, 1, .inr (.inl O)))] ++ wX h rr cc1 cI N R1 C1 (nI L1) (nI (sr_tot os1)) (nI os1.length) sl1 go1 gi1 fr1 la1 re1 ++ wM g fA wA nA tA rA dA oA cI cZ F1 Wd1 Nm1 Tg1 Rc1 Dt1 Rt1 0 (nI L1) (nI (1 + sr_tot os1)) sl1 go1 gi1) H := hP.sub [0, 1, 2, 3, 4, 5, 6, 7, 8, 9, 10, 11] rfl
  have hD : va_D A ([(oo, .inl (cJ, 1, .inr (.inl O)))] ++ wX h rr cc1 cI N R1 C1 (nI L1) (nI (sr_tot os1)) (nI os1.length) sl1 go1 gi1 fr1 la1 re1 ++ wM g fA wA nA tA rA dA oA cI cZ F1 Wd1 Nm1 Tg1 Rc1 Dt1 Rt1 0 (nI L1) (nI (1 + sr_tot os1)) sl1 go1 gi1) := hD.sub [0, 1, 2, 3, 4, 5, 6, 7, 8, 9, 10, 11] (by decide) rfl
  refine lv_icmp_eq (tgt := 854) hx hb dL_law_656 (by decide) (fun _ => ?_) (fun z => absurd rfl z)
  refine W.widen (k := 21 + i) (n := 110006 + 6 * i + 2 * N) (by omega) (by omega) ?_
  exact kk _ _ _ _ _ _ _ _ (sg_mk hF1) hP hD hS (lv_sub hl [0, 1, 2, 3, 4] rfl)

set_option maxHeartbeats 4000000 in
set_option maxRecDepth 100000 in
theorem lo_find (hx : p.tables.exec = Jvm.exec) (hb : c.code = bL_law) (hml : c.maxLocals = 7) (hown : s.vm.findClass RL = some m.cls) (hbg : ∀ w ∈ sr_big, w.before args s = true) (hK : va_K D vwC [(cI, .int), (cZ, .boolean), (cJ, .long)] s) (hA : ∀ q : Nat, s.heap.size ≤ q → A q) (hbA : ¬ A b) (hX : va_X b L0 xs s s.heap) (hbl : b < s.heap.size) (hst : l.stackTraces = false) (hG : sx_H A s s.heap) (hL0 : L0 ≤ 2048) (i N : Nat) (hi : i + 4 ≤ L0) (wx wm : va_W) (th : Int32) (O : Nat → Int64) (H : Heap) (locs : List Loc) (ls : Array Slot) (hI : sg_W h rr g fA wA nA tA rA dA oA cI cZ th N wx wm) (hP : va_P D vwC ([(oo, .inl (cJ, 1, .inr (.inl O)))] ++ wx ++ wm) H) (hD : va_D A ([(oo, .inl (cJ, 1, .inr (.inl O)))] ++ wx ++ wm)) (hS : va_S A s.heap H locs) (hl : lv_has ls 7 [(0, .ref b), (1, .ref h), (2, .ref g), (3, .ref oo), (4, .int (nI i))]) (kk : ∀ (N : Nat) (wx wm : va_W) (th : Int32) (O : Nat → Int64) (H : Heap) (locs : List Loc) (ls : Array Slot), sg_W h rr g fA wA nA tA rA dA oA cI cZ th N wx wm → va_P D vwC ([(oo, .inl (cJ, 1, .inr (.inl O)))] ++ wx ++ wm) H → va_D A ([(oo, .inl (cJ, 1, .inr (.inl O)))] ++ wx ++ wm) → va_S A s.heap H locs → lv_has ls 7 [(0, .ref b), (1, .ref h), (2, .ref g), (3, .ref oo), (4, .int (nI i))] → W p l e room_1 s m args below meth c H locs (21 + i) (110006 + 6 * i + 2 * N) Q (F0 m 854 ls [])) : W p l e room_1 s m args below meth c H locs (20 + i) (110000 + 6 * i + 2 * N) Q (F0 m 717 ls []) := by
  obtain ⟨cc, os, L, Rr, C, F, Wd, Nm, Tg, Rc, Dt, Rt, sl, go, gi, fr, la, re, rfl, rfl, hF⟩ := hI
  have hN9 : N ≤ 16385 := by have := hF.1.2.2.2.2; omega
  obtain ⟨r, w2, hX1, hM2, hJ⟩ := st_find (l := l) (D := D) (h := h) (rr := rr) (cc := cc) (g := g) (fA := fA) (wA := wA) (nA := nA) (tA := tA) (rA := rA) (dA := dA) (oA := oA) (cI := cI) (cZ := cZ) (os := os) (L := L) (N := N) (C := C) (F := F) (Wd := Wd) (Nm := Nm) (Tg := Tg) (Rc := Rc) (Dt := Dt) (Rt := Rt) (sl := sl) (go := go) (gi := gi) (fr := fr) (la := la) (re := re) (th := th) (R := Rr) hF (xs (i + 1))
  obtain ⟨cc1, os1, L1, R1, C1, F1, Wd1, Nm1, Tg1, Rc1, Dt1, Rt1, sl1, go1, gi1, fr1, la1, re1, e1, rfl, hF1⟩ := hJ
  refine lv_aload_n hx hb dL_law_717 rfl (lv_at hl 1 rfl) ?_
  refine lv_aload_n hx hb dL_law_718 rfl (lv_at hl 0 rfl) ?_
  refine lv_iload hx hb dL_law_719 (lv_at hl 4 rfl) ?_
  refine lv_iconst (v := 1) hx hb dL_law_721 (by decide) ?_
  refine lv_iadd hx hb dL_law_722 ?_
  rw [show (nI i) + 1 = nI (i + 1) from nI_add i 1]
  refine sy_sld (j := i + 1) hx hb hX hbl hbA hS (by omega) (by omega) dL_law_723 ?_
  refine sy_cVi (mc := 0) (ms := 0) (wc := wX h rr cc cI N Rr C (nI L) (nI (sr_tot os)) (nI os.length) sl go gi fr la re) (wr := [(oo, .inl (cJ, 1, .inr (.inl O)))] ++ wM g fA wA nA tA rA dA oA cI cZ F Wd Nm Tg Rc Dt Rt th (nI L) (nI (1 + sr_tot os)) sl go gi) (w1 := wX h rr cc cI N Rr C (nI L) (nI (sr_tot os)) (nI os.length) sl go gi fr la re) (ci := 0) (q0 := 0) (As := [.int (xs (i + 1))]) (rest := []) ⟨hx, hb, hml, hown, hbg⟩ (hX1 H.size) (cwV 1 hbg (bg_V bw_126 bw_127 bw_128 bw_34 bw_129) rfl rfl rfl (by decide +kernel) ⟨Nat.le_of_ble_eq_true rfl, Nat.le_of_ble_eq_true rfl⟩) hK [0] rfl hP hD hS hA [1, 2, 3] [0, 4, 5, 6, 7, 8, 9, 10, 11] rfl rfl rfl rfl (by decide) rfl rfl rfl hl.1 rfl (Nat.le_of_ble_eq_true rfl) dL_law_724 ⟨by show _ ≤ 601024; omega, by show _ ≤ 7293033; omega⟩ (fun H locs hP hD hS => ?_)
  have hP : va_P D vwC ([(oo, .inl (cJ, 1, .inr (.inl O)))] ++ wX h rr cc cI N Rr C (nI L) (nI (sr_tot os)) (nI os.length) sl go gi fr la re ++ wM g fA wA nA tA rA dA oA cI cZ F Wd Nm Tg Rc Dt Rt th (nI L) (nI (1 + sr_tot os)) sl go gi) H := hP.sub [0, 9, 10, 11, 1, 2, 3, 4, 5, 6, 7, 8] rfl
  have hD : va_D A ([(oo, .inl (cJ, 1, .inr (.inl O)))] ++ wX h rr cc cI N Rr C (nI L) (nI (sr_tot os)) (nI os.length) sl go gi fr la re ++ wM g fA wA nA tA rA dA oA cI cZ F Wd Nm Tg Rc Dt Rt th (nI L) (nI (1 + sr_tot os)) sl go gi) := hD.sub [0, 9, 10, 11, 1, 2, 3, 4, 5, 6, 7, 8] (by decide) rfl
  refine lv_aload_n hx hb dL_law_727 rfl (lv_at hl 2 rfl) ?_
  refine lv_aload_n hx hb dL_law_728 rfl (lv_at hl 0 rfl) ?_
  refine lv_iload hx hb dL_law_729 (lv_at hl 4 rfl) ?_
  refine lv_iconst (v := 1) hx hb dL_law_731 (by decide) ?_
  refine lv_iadd hx hb dL_law_732 ?_
  rw [show (nI i) + 1 = nI (i + 1) from nI_add i 1]
  refine sy_sld (j := i + 1) hx hb hX hbl hbA hS (by omega) (by omega) dL_law_733 ?_
  refine sy_cVi (mc := 0) (ms := 0) (wc := wM g fA wA nA tA rA dA oA cI cZ F Wd Nm Tg Rc Dt Rt th (nI L) (nI (1 + sr_tot os)) sl go gi) (wr := [(oo, .inl (cJ, 1, .inr (.inl O)))] ++ wX h rr cc cI N Rr C (nI L) (nI (sr_tot os)) (nI os.length) sl go gi fr la re) (w1 := wM g fA wA nA tA rA dA oA cI cZ F1 Wd1 Nm1 Tg1 Rc1 Dt1 Rt1 0 (nI L1) (nI (1 + sr_tot os1)) sl1 go1 gi1) (ci := 1) (q0 := 0) (As := [.int (xs (i + 1))]) (rest := [.int r]) ⟨hx, hb, hml, hown, hbg⟩ (hM2 H.size) (cwV 1 hbg (bg_V bw_407 bw_408 bw_409 bw_35 bw_410) rfl rfl rfl (by decide +kernel) ⟨Nat.le_of_ble_eq_true rfl, Nat.le_of_ble_eq_true rfl⟩) hK [0, 1] rfl hP hD hS hA [4, 5, 6, 7, 8, 9, 10, 11] [0, 1, 2, 3] rfl rfl rfl rfl (by decide) rfl rfl rfl hl.1 rfl (Nat.le_of_ble_eq_true rfl) dL_law_734 ⟨by show _ ≤ 601024; omega, by show _ ≤ 7293033; omega⟩ (fun H locs hP hD hS => ?_)
  have hP : va_P D vwC ([(oo, .inl (cJ, 1, .inr (.inl O)))] ++ wX h rr cc cI N Rr C (nI L) (nI (sr_tot os)) (nI os.length) sl go gi fr la re ++ wM g fA wA nA tA rA dA oA cI cZ F1 Wd1 Nm1 Tg1 Rc1 Dt1 Rt1 0 (nI L1) (nI (1 + sr_tot os1)) sl1 go1 gi1) H := hP.sub [0, 1, 2, 3, 4, 5, 6, 7, 8, 9, 10, 11] rfl
  have hD : va_D A ([(oo, .inl (cJ, 1, .inr (.inl O)))] ++ wX h rr cc cI N Rr C (nI L) (nI (sr_tot os)) (nI os.length) sl go gi fr la re ++ wM g fA wA nA tA rA dA oA cI cZ F1 Wd1 Nm1 Tg1 Rc1 Dt1 Rt1 0 (nI L1) (nI (1 + sr_tot os1)) sl1 go1 gi1) := hD.sub [0, 1, 2, 3, 4, 5, 6, 7, 8, 9, 10, 11] (by decide) rfl
  refine lv_icmp_eq (tgt := 854) hx hb dL_law_737 (by decide) (fun _ => ?_) (fun z => absurd rfl z)
  refine W.widen (k := 21 + i) (n := 110006 + 6 * i + 2 * N) (by omega) (by omega) ?_
  exact kk _ _ _ _ _ _ _ _ ⟨cc1, os1, L1, R1, C1, F1, Wd1, Nm1, Tg1, Rc1, Dt1, Rt1, sl1, go1, gi1, fr1, la1, re1, e1, rfl, hF1⟩ hP hD hS (lv_sub hl [0, 1, 2, 3, 4] rfl)

end Law
