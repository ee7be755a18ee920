/-! THE CLAIM OUT OF ONE WALK OF THE LAW'S BODY. Your part is whole_start (and what it stands on); all else here is the same for every law, but numbers. -/
def R_law : String := "SlideRowLaw"
def lw_P (b : Addr) (xs : List Int32) (args : Array Value) (s : State) : Prop := args = #[.ref b] ∧ s.IntsAt b xs ∧ xs.length ≤ 2048 ∧ (Jvm.Cond.and given_1 narrow_1).before args s = true
def lw_Q (_ : Array Value) (s : State) (o : Outcome) (t : State) : Prop := o = .returned (some (.int 1)) ∧ Framed s o t [] 601024 7293033
def lw_Z (below : List Frame) (a : Array Value) (s : State) : State → Prop := fun t => ∃ o, t.status = .running ∧ Ended t below o ∧ lw_Q a s o t
/-- the law's own end, with 1 on the stack, nothing written that was there before, its room as the claim has it -/
theorem lw_ret {p : Program} {l : Launch} {e : Env} {s : State} {m : MethodId} {below : List Frame} {meth : Method} {c : Code} {b : Nat} (hx : p.tables.exec = Jvm.exec) (hb : c.code = code) (hr : meth.sig.returnType = ret) (hlocks : meth.locks = false) {pc : Nat} {H : Heap} {ls : Array Slot} (hdg : decode code pc = .ok (.ireturn, 1)) : W p l e room_1 s m #[Value.ref b] below meth c H [] 601024 7293033 (lw_Z below #[Value.ref b] s) (F0 m pc ls [.int 1]) := by
  intro T hT X
  obtain ⟨fs, hret, hrun, hended, hW, hframe⟩ := X.leave (v := some (.int 1)) (hlocks := hlocks) (fun h => by rw [hr] at h; cases h)
  have hmeth' : T.vm.method? m = some meth := X.method'
  refine ⟨T.setFrames fs, ?_, .returned (some (.int 1)), hrun, hended, rfl, ⟨_, rfl⟩, hW, hframe⟩
  jvm_step X.here [X.here.top, hx, hb, hdg, hmeth', hr, ret, narrow_b1]
  (try refine ⟨rfl, ?_⟩); (try refine ⟨rfl, ?_⟩)
  first | (intro acts; rw [hret _ acts rfl rfl rfl]) | rw [hret _ _ rfl rfl rfl]
  exact Steps.refl _
/-- what holds at the law's entry: the machine, the code, the tables' words (any of lw_tbl by 'hts w (by decide +kernel)'), the script of L ints xs at the cell b, what the Statement gives of the start (any of its parts by flat_of_before) -/
def lw_At (p : Program) (s : State) (m : MethodId) (meth : Method) (c : Code) (b L : Nat) (xs : Nat → Int32) : Prop :=
  p.tables.exec = Jvm.exec ∧ c.code = code ∧ meth.sig.returnType = ret ∧ c.maxLocals = 7 ∧ s.vm.findClass R_law = some m.cls ∧ (∀ w ∈ lw_tbl, w.before #[Value.ref b] s = true) ∧ va_X b L xs s s.heap ∧ b < s.heap.size ∧ meth.locks = false ∧ (Jvm.Cond.and given_1 narrow_1).before #[Value.ref b] s = true

theorem sg_t13 (v : Int32) : v = 0 ∨ v = 1 ∨ v = 2 ∨ v = 3 ∨ v = 4 ∨ v = 5 ∨ v = 6 ∨ v = 7 ∨ v = 8 ∨ v = 9 ∨ v = 10 ∨ v = 11 ∨ v = 12 ∨ (v.toInt < 0 ∨ 12 < v.toInt) := by
  by_cases c : v.toInt < 0 ∨ 12 < v.toInt
  · exact Or.inr (Or.inr (Or.inr (Or.inr (Or.inr (Or.inr (Or.inr (Or.inr (Or.inr (Or.inr (Or.inr (Or.inr (Or.inr (c)))))))))))))
  · have hx : v = nI v.toInt.toNat := by
      apply Int32.toInt_inj.mp
      rw [nI_toInt (by omega)]
      omega
    generalize hk : v.toInt.toNat = k at hx
    have hk7 : k < 13 := by omega
    subst hx
    match k, hk7 with
    | 0, _ => exact Or.inl rfl
    | 1, _ => exact Or.inr (Or.inl rfl)
    | 2, _ => exact Or.inr (Or.inr (Or.inl rfl))
    | 3, _ => exact Or.inr (Or.inr (Or.inr (Or.inl rfl)))
    | 4, _ => exact Or.inr (Or.inr (Or.inr (Or.inr (Or.inl rfl))))
    | 5, _ => exact Or.inr (Or.inr (Or.inr (Or.inr (Or.inr (Or.inl rfl)))))
    | 6, _ => exact Or.inr (Or.inr (Or.inr (Or.inr (Or.inr (Or.inr (Or.inl rfl))))))
    | 7, _ => exact Or.inr (Or.inr (Or.inr (Or.inr (Or.inr (Or.inr (Or.inr (Or.inl rfl)))))))
    | 8, _ => exact Or.inr (Or.inr (Or.inr (Or.inr (Or.inr (Or.inr (Or.inr (Or.inr (Or.inl rfl))))))))
    | 9, _ => exact Or.inr (Or.inr (Or.inr (Or.inr (Or.inr (Or.inr (Or.inr (Or.inr (Or.inr (Or.inl rfl)))))))))
    | 10, _ => exact Or.inr (Or.inr (Or.inr (Or.inr (Or.inr (Or.inr (Or.inr (Or.inr (Or.inr (Or.inr (Or.inl rfl))))))))))
    | 11, _ => exact Or.inr (Or.inr (Or.inr (Or.inr (Or.inr (Or.inr (Or.inr (Or.inr (Or.inr (Or.inr (Or.inr (Or.inl rfl)))))))))))
    | 12, _ => exact Or.inr (Or.inr (Or.inr (Or.inr (Or.inr (Or.inr (Or.inr (Or.inr (Or.inr (Or.inr (Or.inr (Or.inr (Or.inl rfl))))))))))))

set_option maxHeartbeats 1000000 in
/-- the script's end -/
theorem lw_end {p : Program} {l : Launch} {e : Env} {s : State} {m : MethodId} {below : List Frame} {meth : Method} {c : Code} {D : va_G} {b L0 : Nat} {xs : Nat → Int32} {h g oo : Nat} {cI cZ cJ : ClassId} (hx : p.tables.exec = Jvm.exec) (hb : c.code = bL_law) (hml : c.maxLocals = 7) (hown : s.vm.findClass RL = some m.cls) (hbg : ∀ w ∈ sr_big, w.before #[Value.ref b] s = true) (hK : va_K D vwC [(cI, .int), (cZ, .boolean), (cJ, .long)] s) (hA : ∀ q : Nat, s.heap.size ≤ q → (fun q : Nat => s.heap.size ≤ q) q) (hbA : ¬ (fun q : Nat => s.heap.size ≤ q) b) (hX : va_X b L0 xs s s.heap) (hbl : b < s.heap.size) (hst : l.stackTraces = false) (hG : sx_H (fun q : Nat => s.heap.size ≤ q) s s.heap) (hL0 : L0 ≤ 2048) (hr : meth.sig.returnType = ret) (hlocks : meth.locks = false) (i N : Nat) (hi : L0 < i + 4) (hi2 : i ≤ 2052) (hN9 : N ≤ 16385) (H : Heap) (locs : List Loc) (ls : Array Slot) (hS : va_S (fun q : Nat => s.heap.size ≤ q) s.heap H locs) (hl : lv_has ls 7 [(0, .ref b), (1, .ref h), (2, .ref g), (3, .ref oo), (4, .int (nI i))]) : W p l e room_1 s m #[Value.ref b] below meth c H locs (20 + i) (110000 + 6 * i + 2 * N) (lw_Z below #[Value.ref b] s) (F0 m 23 ls []) := by
  refine lv_iload hx hb dL_law_23 (lv_at hl 4 rfl) ?_
  refine lv_aload_n hx hb dL_law_25 rfl (lv_at hl 0 rfl) ?_
  refine va_slen hx hb hX hbl hbA hS dL_law_26 ?_
  refine lv_iconst (v := 4) hx hb dL_law_27 (by decide) ?_
  refine lv_isub hx hb dL_law_28 ?_
  have hgt : Int32.ofNat L0 - 4 < nI i := by
    show nI L0 - nI 4 < nI i
    rw [Int32.lt_iff_toInt_lt, pk_sub_toInt (by omega) (by omega), nI_toInt (by omega)]
    omega
  refine lv_icmp_gt (tgt := 860) hx hb dL_law_29 (by decide) (fun _ => ?_) (fun z => absurd hgt z)
  refine lv_iconst (v := 1) hx hb dL_law_860 (by decide) ?_
  refine va_forget (fun q hq => hS.2.2 q hq) ?_
  refine W.widen (k := 601024) (n := 7293033) (by omega) (by omega) ?_
  exact lw_ret hx hb hr hlocks dL_law_861

set_option maxHeartbeats 4000000 in
set_option maxRecDepth 100000 in
/-- the script, call by call -/
theorem lw_loop {p : Program} {l : Launch} {e : Env} {s : State} {m : MethodId} {below : List Frame} {meth : Method} {c : Code} {D : va_G} {b L0 : Nat} {xs : Nat → Int32} {h rr g fA wA nA tA rA dA oA oo : Nat} {cI cZ cJ : ClassId} (hx : p.tables.exec = Jvm.exec) (hb : c.code = bL_law) (hml : c.maxLocals = 7) (hown : s.vm.findClass RL = some m.cls) (hbg : ∀ w ∈ sr_big, w.before #[Value.ref b] s = true) (hK : va_K D vwC [(cI, .int), (cZ, .boolean), (cJ, .long)] s) (hA : ∀ q : Nat, s.heap.size ≤ q → (fun q : Nat => s.heap.size ≤ q) q) (hbA : ¬ (fun q : Nat => s.heap.size ≤ q) b) (hX : va_X b L0 xs s s.heap) (hbl : b < s.heap.size) (hst : l.stackTraces = false) (hG : sx_H (fun q : Nat => s.heap.size ≤ q) s s.heap) (hL0 : L0 ≤ 2048) (hr : meth.sig.returnType = ret) (hlocks : meth.locks = false) : ∀ (n i N : Nat) (wx wm : va_W) (th : Int32) (O : Nat → Int64) (H : Heap) (locs : List Loc) (ls : Array Slot), L0 < i + 4 * n + 4 → i ≤ L0 + 3 → sg_W h rr g fA wA nA tA rA dA oA cI cZ th N wx wm → va_P D vwC ([(oo, .inl (cJ, 1, .inr (.inl O)))] ++ wx ++ wm) H → va_D (fun q : Nat => s.heap.size ≤ q) ([(oo, .inl (cJ, 1, .inr (.inl O)))] ++ wx ++ wm) → va_S (fun q : Nat => s.heap.size ≤ q) s.heap H locs → lv_has ls 7 [(0, .ref b), (1, .ref h), (2, .ref g), (3, .ref oo), (4, .int (nI i))] → W p l e room_1 s m #[Value.ref b] below meth c H locs (20 + i) (110000 + 6 * i + 2 * N) (lw_Z below #[Value.ref b] s) (F0 m 23 ls []) := by
  intro n
  induction n with
  | zero =>
    intro i N wx wm th O H locs ls h1 h2 hI hP hD hS hl
    obtain ⟨cc, os, L, Rr, C, F, Wd, Nm, Tg, Rc, Dt, Rt, sl, go, gi, fr, la, re, rfl, rfl, hF⟩ := hI
    exact lw_end hx hb hml hown hbg hK hA hbA hX hbl hst hG hL0 hr hlocks i N (by omega) (by omega) (by have := hF.1.2.2.2.2; omega) H locs ls hS hl
  | succ n ih =>
    intro i N wx wm th O H locs ls h1 h2 hI hP hD hS hl
    have hN9 : N ≤ 16385 := by
      obtain ⟨cc, os, L, Rr, C, F, Wd, Nm, Tg, Rc, Dt, Rt, sl, go, gi, fr, la, re, -, -, hF⟩ := hI
      have := hF.1.2.2.2.2
      omega
    by_cases hc : L0 < i + 4
    · exact lw_end hx hb hml hown hbg hK hA hbA hX hbl hst hG hL0 hr hlocks i N hc (by omega) hN9 H locs ls hS hl
    have kk : ∀ (N : Nat) (wx wm : va_W) (th : Int32) (O : Nat → Int64) (H : Heap) (locs : List Loc) (ls : Array Slot), sg_W h rr g fA wA nA tA rA dA oA cI cZ th N wx wm → va_P D vwC ([(oo, .inl (cJ, 1, .inr (.inl O)))] ++ wx ++ wm) H → va_D (fun q : Nat => s.heap.size ≤ q) ([(oo, .inl (cJ, 1, .inr (.inl O)))] ++ wx ++ wm) → va_S (fun q : Nat => s.heap.size ≤ q) s.heap H locs → lv_has ls 7 [(0, .ref b), (1, .ref h), (2, .ref g), (3, .ref oo), (4, .int (nI i))] → W p l e room_1 s m #[Value.ref b] below meth c H locs (21 + i) (110006 + 6 * i + 2 * N) (lw_Z below #[Value.ref b] s) (F0 m 854 ls []) := by
      intro N wx wm th O H locs ls hI hP hD hS hl
      refine lv_iinc (v := nI (i + 4)) (lv' := [(4, .int (nI (i + 4))), (0, .ref b), (1, .ref h), (2, .ref g), (3, .ref oo)]) hx hb dL_law_854 hl (k := 4) rfl (nI_add i 4) (by decide) rfl (fun ls hl => ?_)
      refine lv_goto (tgt := 23) hx hb dL_law_857 (by decide) ?_
      refine W.widen (k := 20 + (i + 4)) (n := 110000 + 6 * (i + 4) + 2 * N) (by omega) (by omega) ?_
      exact ih (i + 4) N wx wm th O H locs ls (by omega) (by omega) hI hP hD hS (lv_sub hl [1, 2, 3, 4, 0] rfl)
    refine lv_iload hx hb dL_law_23 (lv_at hl 4 rfl) ?_
    refine lv_aload_n hx hb dL_law_25 rfl (lv_at hl 0 rfl) ?_
    refine va_slen hx hb hX hbl hbA hS dL_law_26 ?_
    refine lv_iconst (v := 4) hx hb dL_law_27 (by decide) ?_
    refine lv_isub hx hb dL_law_28 ?_
    have hgt : ¬ Int32.ofNat L0 - 4 < nI i := by
      show ¬ nI L0 - nI 4 < nI i
      rw [Int32.lt_iff_toInt_lt, pk_sub_toInt (by omega) (by omega), nI_toInt (by omega)]
      omega
    refine lv_icmp_gt (tgt := 860) hx hb dL_law_29 (by decide) (fun z => absurd z hgt) (fun _ => ?_)
    refine lv_aload_n hx hb dL_law_32 rfl (lv_at hl 0 rfl) ?_
    refine lv_iload hx hb dL_law_33 (lv_at hl 4 rfl) ?_
    refine sy_sld (j := i) hx hb hX hbl hbA hS (by omega) (by omega) dL_law_35 ?_
    refine lv_bipush (v := 15) hx hb dL_law_36 (by decide) ?_
    refine lv_iand hx hb dL_law_38 ?_
    rcases sg_t13 (xs i &&& 15) with h0 | h0 | h0 | h0 | h0 | h0 | h0 | h0 | h0 | h0 | h0 | h0 | h0 | h0
    · rw [h0]
      refine lv_tableIn (off := 65) (tgt := 104) hx hb dL_law_39 (by decide) (by decide) rfl (by decide) ?_
      exact lo_space hx hb hml hown hbg hK hA hbA hX hbl hst hG hL0 i N (by omega) wx wm th O H locs ls hI hP hD hS hl kk
    · rw [h0]
      refine lv_tableIn (off := 121) (tgt := 160) hx hb dL_law_39 (by decide) (by decide) rfl (by decide) ?_
      exact lo_make hx hb hml hown hbg hK hA hbA hX hbl hst hG hL0 i N (by omega) wx wm th O H locs ls hI hP hD hS hl kk
    · rw [h0]
      refine lv_tableIn (off := 189) (tgt := 228) hx hb dL_law_39 (by decide) (by decide) rfl (by decide) ?_
      exact lo_set hx hb hml hown hbg hK hA hbA hX hbl hst hG hL0 i N (by omega) wx wm th O H locs ls hI hP hD hS hl kk
    · rw [h0]
      refine lv_tableIn (off := 269) (tgt := 308) hx hb dL_law_39 (by decide) (by decide) rfl (by decide) ?_
      exact lo_get hx hb hml hown hbg hK hA hbA hX hbl hst hG hL0 i N (by omega) wx wm th O H locs ls hI hP hD hS hl kk
    · rw [h0]
      refine lv_tableIn (off := 337) (tgt := 376) hx hb dL_law_39 (by decide) (by decide) rfl (by decide) ?_
      exact lo_put hx hb hml hown hbg hK hA hbA hX hbl hst hG hL0 i N (by omega) wx wm th O H locs ls hI hP hD hS hl kk
    · rw [h0]
      refine lv_tableIn (off := 417) (tgt := 456) hx hb dL_law_39 (by decide) (by decide) rfl (by decide) ?_
      exact lo_word hx hb hml hown hbg hK hA hbA hX hbl hst hG hL0 i N (by omega) wx wm th O H locs ls hI hP hD hS hl kk
    · rw [h0]
      refine lv_tableIn (off := 485) (tgt := 524) hx hb dL_law_39 (by decide) (by decide) rfl (by decide) ?_
      exact lo_root hx hb hml hown hbg hK hA hbA hX hbl hst hG hL0 i N (by omega) wx wm th O H locs ls hI hP hD hS hl kk
    · rw [h0]
      refine lv_tableIn (off := 553) (tgt := 592) hx hb dL_law_39 (by decide) (by decide) rfl (by decide) ?_
      exact lo_rooted hx hb hml hown hbg hK hA hbA hX hbl hst hG hL0 i N (by omega) wx wm th O H locs ls hI hP hD hS hl kk
    · rw [h0]
      refine lv_tableIn (off := 609) (tgt := 648) hx hb dL_law_39 (by decide) (by decide) rfl (by decide) ?_
      exact lo_slide hx hb hml hown hbg hK hA hbA hX hbl hst hG hL0 i N (by omega) wx wm th O H locs ls hI hP hD hS hl kk
    · rw [h0]
      refine lv_tableIn (off := 622) (tgt := 661) hx hb dL_law_39 (by decide) (by decide) rfl (by decide) ?_
      exact lo_number hx hb hml hown hbg hK hA hbA hX hbl hst hG hL0 i N (by omega) wx wm th O H locs ls hI hP hD hS hl kk
    · rw [h0]
      refine lv_tableIn (off := 678) (tgt := 717) hx hb dL_law_39 (by decide) (by decide) rfl (by decide) ?_
      exact lo_find hx hb hml hown hbg hK hA hbA hX hbl hst hG hL0 i N (by omega) wx wm th O H locs ls hI hP hD hS hl kk
    · rw [h0]
      refine lv_tableIn (off := 703) (tgt := 742) hx hb dL_law_39 (by decide) (by decide) rfl (by decide) ?_
      exact lo_next hx hb hml hown hbg hK hA hbA hX hbl hst hG hL0 i N (by omega) wx wm th O H locs ls hI hP hD hS hl kk
    · rw [h0]
      refine lv_tableIn (off := 759) (tgt := 798) hx hb dL_law_39 (by decide) (by decide) rfl (by decide) ?_
      exact lo_count hx hb hml hown hbg hK hA hbA hX hbl hst hG hL0 i N (by omega) wx wm th O H locs ls hI hP hD hS hl kk
    · refine lv_tableOut (tgt := 854) hx hb dL_law_39 h0 (by decide) ?_
      refine W.widen (k := 21 + i) (n := 110006 + 6 * i + 2 * N) (by omega) (by omega) ?_
      exact kk N wx wm th O H locs ls hI hP hD hS hl

set_option maxRecDepth 20000 in
theorem sx_T_in : ∀ q ∈ sx_T, Cond.stringRef RX q.1 q.2 ∈ lw_tbl := by decide +kernel
/-- what the throws stand on, at the law's entry -/
theorem lw_hG {s : State} {b : Nat} (hts : ∀ w ∈ lw_tbl, w.before #[Value.ref b] s = true) (hgv : (Jvm.Cond.and given_1 narrow_1).before #[Value.ref b] s = true) : sx_H (fun q : Nat => s.heap.size ≤ q) s s.heap := by
  have hs := flat_of_before _ hgv
  have hno : ∀ a : Nat, a < s.heap.size → ¬ (fun q : Nat => s.heap.size ≤ q) a := fun a h => Nat.not_le.mpr h
  obtain ⟨cX, kX, hcur, -⟩ := Cond.instantiable_spec (hts (Cond.instantiable RX 11) (bt_all _ bw_44))
  refine ⟨⟨fun w hw => sx_any (sx_L_on w hw) (hts w (sx_L_in w hw)), vx_Zqof (hts _ (by decide +kernel)) (hts _ (by decide +kernel)) (hs _ (by decide +kernel)) hno, vx_Zqof (hts _ (by decide +kernel)) (hts _ (by decide +kernel)) (hs _ (by decide +kernel)) hno, fun q hq => ?_⟩, fun w hw => sx_any (sx_CW_on w hw) (hts w (sx_CW_in w hw))⟩
  obtain ⟨-, -, -, sa, -, -, -, -, -, hev⟩ := Cond.stringRef_spec hcur (hts _ (sx_T_in q hq))
  exact ⟨sa, vk_R.of (hts _ (sx_T_in q hq)) hev⟩

set_option maxHeartbeats 4000000 in
set_option maxRecDepth 100000 in
/-- from the entry, for every script of at most 2048 ints, the law comes to its end with true -/
theorem whole_start {p : Program} {e : Env} {s : State} {m : MethodId} {below : List Frame} {meth : Method} {c : Code} (l : Launch) (hst : l.stackTraces = false) {b L : Nat} {xs : Nat → Int32} (hL : L ≤ 2048) (C0 : lw_At p s m meth c b L xs) : W p l e room_1 s m #[Value.ref b] below meth c s.heap [] 0 0 (lw_Z below #[Value.ref b] s) (entryFrame m ([Value.ref b] : List Value).toArray 7) := by
  obtain ⟨hx, hb, hr, hml, hown, hts, hX, hbl, hlocks, hgv⟩ := id C0
  have hA : ∀ q : Nat, s.heap.size ≤ q → (fun q : Nat => s.heap.size ≤ q) q := fun _ h => h
  have hbA : ¬ (fun q : Nat => s.heap.size ≤ q) b := Nat.not_le.mpr hbl
  have hbg : ∀ w ∈ sr_big, w.before #[Value.ref b] s = true := fun w hw => hts w (bt_all w hw)
  have hown : s.vm.findClass RL = some m.cls := hown
  have hb : c.code = bL_law := hb
  have hG := lw_hG hts hgv
  obtain ⟨c0, iS0, hKn0⟩ := u_known (C := RX) (T := TX) (N := 11) (n := 11) hbg bg_X (hbg _ bw_44)
  obtain ⟨c1, iS1, hKn1⟩ := u_known (C := RM) (T := TM) (N := 13) (n := 13) hbg bg_M (hbg _ bw_304)
  obtain ⟨D, hKq⟩ : ∃ D : va_G, ∀ (k : Nat) (q : vw_C), vwC[k]? = some q → u_Kn s q.1 q.2.1 q.2.2 (D.1 k) (D.2 k) := by
    refine ⟨(fun k => if k = 0 then c0 else c1, fun k => if k = 0 then iS0 else iS1), ?_⟩
    intro k q hq
    match k, hq with
    | 0, hq => cases hq; exact hKn0
    | 1, hq => cases hq; exact hKn1
    | k + 2, hq => simp [vwC] at hq
  have hS : va_S (fun q : Nat => s.heap.size ≤ q) s.heap s.heap [] := va_S.rf
  have hK : va_K D vwC [] s := ⟨hKq, fun k q h => by simp at h⟩
  have hP : va_P D vwC [] s.heap := fun k q h => by simp at h
  have hD : va_D (fun q : Nat => s.heap.size ≤ q) [] := ⟨fun i j p q h => by simp at h, fun k q h => by simp at h⟩
  have hl := lv_entry ([.ref b]) (n := 7) (Nat.le_of_ble_eq_true rfl)
  rw [lg_entry_eq]
  generalize (lg_sl ([.ref b]) ++ List.replicate (7 - (lg_sl ([.ref b])).length) Slot.unset).toArray = ls at hl ⊢
  have hl : lv_has ls 7 [(0, .ref b)] := hl
  refine va_new (ci := 0) (fs := [.null, .null, .int 0, .int 0, .int 0, .int 0, .int 0, .int 0, .int 0, .int 0, .int 0]) (C := RX) (T := TX) (N := 11) hx hb hbg bg_X tX tX_ok hown (hbg _ bw_43) (hbg _ bw_44) (hbg _ bw_34) hK hP hD hS hA rfl (fun j hj => by rcases (show j = 0 ∨ j = 1 ∨ j = 2 ∨ j = 3 ∨ j = 4 ∨ j = 5 ∨ j = 6 ∨ j = 7 ∨ j = 8 ∨ j = 9 ∨ j = 10 by omega) with rfl | rfl | rfl | rfl | rfl | rfl | rfl | rfl | rfl | rfl | rfl <;> rfl) (Nat.le_of_ble_eq_true rfl) (Nat.le_of_ble_eq_true rfl) dL_law_0 (fun h H hP hD hS => ?_)
  have hP : va_P D vwC [(h, .inr (0, [.null, .null, .int 0, .int 0, .int 0, .int 0, .int 0, .int 0, .int 0, .int 0, .int 0]))] H := hP
  have hD : va_D (fun q : Nat => s.heap.size ≤ q) [(h, .inr (0, [.null, .null, .int 0, .int 0, .int 0, .int 0, .int 0, .int 0, .int 0, .int 0, .int 0]))] := hD
  refine lv_dup hx hb dL_law_3 rfl ?_
  have hPc := hP.sub (ws' := [(h, .inr (0, [.null, .null, .int 0, .int 0, .int 0, .int 0, .int 0, .int 0, .int 0, .int 0, .int 0]))]) [0] rfl
  have hDc := hD.sub (ws' := [(h, .inr (0, [.null, .null, .int 0, .int 0, .int 0, .int 0, .int 0, .int 0, .int 0, .int 0, .int 0]))]) [0] (by decide) rfl
  have hKc := hK.sub (tys' := []) [] rfl
  have hFc := va_free (wc := [(h, .inr (0, [.null, .null, .int 0, .int 0, .int 0, .int 0, .int 0, .int 0, .int 0, .int 0, .int 0]))]) hD hS hA [0] rfl
  refine va_callv (va_runI (As := []) (rest := [.ref h]) ⟨hx, hb, hml, hown, hbg⟩ (ct_X_init l D h H.size) (cwI 0 hbg (bg_c bw_47) rfl rfl rfl (hbg _ bw_34) (hbg _ bw_45) (hbg _ bw_46) rfl (by decide +kernel) ⟨Nat.le_of_ble_eq_true rfl, Nat.le_of_ble_eq_true rfl⟩) ⟨sy_blind, fun U hU hW => ⟨rfl, by rw [hU], by rw [hU]; exact hPc, va_K.moved hW.alike hKc, hDc.weaken (fun _ _ _ _ => trivial)⟩⟩ rfl rfl hl.1 rfl (lv_room (Nat.le_of_ble_eq_true rfl)) dL_law_4 ⟨Nat.le_of_ble_eq_true rfl, Nat.le_of_ble_eq_true rfl⟩) hS (fun q _ h => hFc q h) hFc (fun u t H1 locs ht hvm _ hB hz1 hk1 hS => ?_)
  obtain ⟨hP1, hK1, hD1⟩ := hB
  rw [ht] at hP1
  have hK1 := va_K.moved hvm.symm hK1
  obtain ⟨hP, hD⟩ := va_join (wr := []) hP hD [0] [] rfl rfl (by decide) (by decide) hk1 hFc hP1 hD1
  obtain ⟨rr, cc, cI⟩ := u
  have hP : va_P D vwC (wX h rr cc cI 2049 (fun _ => 0) (fun _ => 0) 2048 0 0 0 0 0 0 0 0) H1 := hP
  have hD : va_D (fun q : Nat => s.heap.size ≤ q) (wX h rr cc cI 2049 (fun _ => 0) (fun _ => 0) 2048 0 0 0 0 0 0 0 0) := hD
  have hK : va_K D vwC [(cI, .int)] s := hK1
  generalize H1 = H at hP hS ⊢
  refine lv_astore_n (lv' := [(1, .ref h), (0, .ref b)]) hx hb dL_law_7 rfl hl (by decide) rfl (fun ls hl => ?_)
  refine va_new (ci := 1) (fs := [.int 0, .int 0, .int 0, .null, .null, .null, .null, .null, .null, .null, .int 0, .int 0, .int 0]) (C := RM) (T := TM) (N := 13) hx hb hbg bg_M tM tM_ok hown (hbg _ bw_303) (hbg _ bw_304) (hbg _ bw_35) hK hP hD hS hA rfl (fun j hj => by rcases (show j = 0 ∨ j = 1 ∨ j = 2 ∨ j = 3 ∨ j = 4 ∨ j = 5 ∨ j = 6 ∨ j = 7 ∨ j = 8 ∨ j = 9 ∨ j = 10 ∨ j = 11 ∨ j = 12 by omega) with rfl | rfl | rfl | rfl | rfl | rfl | rfl | rfl | rfl | rfl | rfl | rfl | rfl <;> rfl) (Nat.le_of_ble_eq_true rfl) (Nat.le_of_ble_eq_true rfl) dL_law_8 (fun g H hP hD hS => ?_)
  have hP : va_P D vwC (wX h rr cc cI 2049 (fun _ => 0) (fun _ => 0) 2048 0 0 0 0 0 0 0 0 ++ [(g, .inr (1, [.int 0, .int 0, .int 0, .null, .null, .null, .null, .null, .null, .null, .int 0, .int 0, .int 0]))]) H := hP
  have hD : va_D (fun q : Nat => s.heap.size ≤ q) (wX h rr cc cI 2049 (fun _ => 0) (fun _ => 0) 2048 0 0 0 0 0 0 0 0 ++ [(g, .inr (1, [.int 0, .int 0, .int 0, .null, .null, .null, .null, .null, .null, .null, .int 0, .int 0, .int 0]))]) := hD
  refine lv_dup hx hb dL_law_11 rfl ?_
  have hPc := hP.sub (ws' := [(g, .inr (1, [.int 0, .int 0, .int 0, .null, .null, .null, .null, .null, .null, .null, .int 0, .int 0, .int 0]))]) [3] rfl
  have hDc := hD.sub (ws' := [(g, .inr (1, [.int 0, .int 0, .int 0, .null, .null, .null, .null, .null, .null, .null, .int 0, .int 0, .int 0]))]) [3] (by decide) rfl
  have hKc := hK.sub (tys' := []) [] rfl
  have hFc := va_free (wc := [(g, .inr (1, [.int 0, .int 0, .int 0, .null, .null, .null, .null, .null, .null, .null, .int 0, .int 0, .int 0]))]) hD hS hA [3] rfl
  refine va_callv (va_runI (As := []) (rest := [.ref g]) ⟨hx, hb, hml, hown, hbg⟩ (ct_M_init l D g H.size) (cwI 0 hbg (bg_c bw_307) rfl rfl rfl (hbg _ bw_35) (hbg _ bw_305) (hbg _ bw_306) rfl (by decide +kernel) ⟨Nat.le_of_ble_eq_true rfl, Nat.le_of_ble_eq_true rfl⟩) ⟨sy_blind, fun U hU hW => ⟨rfl, by rw [hU], by rw [hU]; exact hPc, va_K.moved hW.alike hKc, hDc.weaken (fun _ _ _ _ => trivial)⟩⟩ rfl rfl hl.1 rfl (lv_room (Nat.le_of_ble_eq_true rfl)) dL_law_12 ⟨Nat.le_of_ble_eq_true rfl, Nat.le_of_ble_eq_true rfl⟩) hS (fun q _ h => hFc q h) hFc (fun u t H1 locs ht hvm _ hB hz1 hk1 hS => ?_)
  obtain ⟨hP1, hK1, hD1⟩ := hB
  rw [ht] at hP1
  have hK1 := va_K.moved hvm.symm hK1
  obtain ⟨hP, hD⟩ := va_join (wr := wX h rr cc cI 2049 (fun _ => 0) (fun _ => 0) 2048 0 0 0 0 0 0 0 0) hP hD [3] [0, 1, 2] rfl rfl (by decide) (by decide) hk1 hFc hP1 hD1
  obtain ⟨⟨fA, wA, nA, tA, rA, dA, oA⟩, cI2, cZ⟩ := u
  have hK : va_K D vwC [(cI, .int), (cI2, .int), (cZ, .boolean)] s := hK.app hK1
  obtain rfl : cI = cI2 := Option.some.inj ((hK.2 0 _ rfl).2.symm.trans (hK.2 1 _ rfl).2)
  have hK : va_K D vwC [(cI, .int), (cZ, .boolean)] s := hK.sub [0, 2] rfl
  have hP : va_P D vwC (wX h rr cc cI 2049 (fun _ => 0) (fun _ => 0) 2048 0 0 0 0 0 0 0 0 ++ wM g fA wA nA tA rA dA oA cI cZ (fun _ => 0) (fun _ => 0) (fun _ => 0) (fun _ => 0) (fun _ => 0) (fun _ => 0) (fun _ => 0) 0 2048 1 0 0 0) H1 := hP
  have hD : va_D (fun q : Nat => s.heap.size ≤ q) (wX h rr cc cI 2049 (fun _ => 0) (fun _ => 0) 2048 0 0 0 0 0 0 0 0 ++ wM g fA wA nA tA rA dA oA cI cZ (fun _ => 0) (fun _ => 0) (fun _ => 0) (fun _ => 0) (fun _ => 0) (fun _ => 0) (fun _ => 0) 0 2048 1 0 0 0) := hD
  generalize H1 = H at hP hS ⊢
  refine lv_astore_n (lv' := [(2, .ref g), (1, .ref h), (0, .ref b)]) hx hb dL_law_15 rfl hl (by decide) rfl (fun ls hl => ?_)
  refine lv_iconst (v := 1) hx hb dL_law_16 (by decide) ?_
  refine va_newa (atype := .long) (ty := .long) (N' := 1) (a0 := (1, .inr (.inl (fun _ => 0)))) hx hb (hbg _ bw_419) rfl hK hP hD hS hA (fun _ => rfl) (by decide) (by decide) (by decide) (Nat.le_of_ble_eq_true rfl) (Nat.le_of_ble_eq_true rfl) dL_law_17 (fun oo cJ H hK hP hD hS => ?_)
  have hK : va_K D vwC [(cI, .int), (cZ, .boolean), (cJ, .long)] s := hK
  have hP : va_P D vwC ([(oo, .inl (cJ, 1, .inr (.inl (fun _ => 0))))] ++ wX h rr cc cI 2049 (fun _ => 0) (fun _ => 0) 2048 0 0 0 0 0 0 0 0 ++ wM g fA wA nA tA rA dA oA cI cZ (fun _ => 0) (fun _ => 0) (fun _ => 0) (fun _ => 0) (fun _ => 0) (fun _ => 0) (fun _ => 0) 0 2048 1 0 0 0) H := hP.sub [11, 0, 1, 2, 3, 4, 5, 6, 7, 8, 9, 10] rfl
  have hD : va_D (fun q : Nat => s.heap.size ≤ q) ([(oo, .inl (cJ, 1, .inr (.inl (fun _ => 0))))] ++ wX h rr cc cI 2049 (fun _ => 0) (fun _ => 0) 2048 0 0 0 0 0 0 0 0 ++ wM g fA wA nA tA rA dA oA cI cZ (fun _ => 0) (fun _ => 0) (fun _ => 0) (fun _ => 0) (fun _ => 0) (fun _ => 0) (fun _ => 0) 0 2048 1 0 0 0) := hD.sub [11, 0, 1, 2, 3, 4, 5, 6, 7, 8, 9, 10] (by decide) rfl
  refine lv_astore_n (lv' := [(3, .ref oo), (2, .ref g), (1, .ref h), (0, .ref b)]) hx hb dL_law_19 rfl hl (by decide) rfl (fun ls hl => ?_)
  refine lv_iconst (v := 0) hx hb dL_law_20 (by decide) ?_
  refine lv_istore (lv' := [(4, .int (nI 0)), (3, .ref oo), (2, .ref g), (1, .ref h), (0, .ref b)]) hx hb dL_law_21 hl (by decide) rfl (fun ls hl => ?_)
  refine W.widen (k := 20 + 0) (n := 110000 + 6 * 0 + 2 * 2049) (Nat.le_of_ble_eq_true rfl) (Nat.le_of_ble_eq_true rfl) ?_
  refine lw_loop (rr := rr) (fA := fA) (wA := wA) (nA := nA) (tA := tA) (rA := rA) (dA := dA) (oA := oA) hx hb hml hown hbg hK hA hbA hX hbl hst hG hL hr hlocks 512 0 2049 (wX h rr cc cI 2049 (fun _ => 0) (fun _ => 0) 2048 0 0 0 0 0 0 0 0) (wM g fA wA nA tA rA dA oA cI cZ (fun _ => 0) (fun _ => 0) (fun _ => 0) (fun _ => 0) (fun _ => 0) (fun _ => 0) (fun _ => 0) 0 2048 1 0 0 0) 0 (fun _ => 0) H _ ls (by omega) (by omega) ?_ hP hD hS (lv_sub hl [4, 3, 2, 1, 0] rfl)
  exact ⟨cc, [], 2048, fun _ => 0, fun _ => 0, fun _ => 0, fun _ => 0, fun _ => 0, fun _ => 0, fun _ => 0, fun _ => 0, fun _ => 0, 0, 0, 0, 0, 0, 0, rfl, rfl, sg_e0⟩

set_option maxHeartbeats 4000000 in
theorem lw_walk (l : Launch) (hst : l.stackTraces = false) (b : Addr) (xs : List Int32) : MetFree l x (headSpec (Jvm.Cond.code x code maxLocals ret :: tables_1) room_1) (lw_P b xs) (fun _ _ _ _ _ => True) lw_Q := by
  refine MetFree.of_bodyS (code := code) (maxLocals := maxLocals) (ret := ret) (by decide) ?_ ?_
  · intro args s m h hn
    obtain ⟨meth, c, h1, h2, h3, h4, h5, h6, -, -⟩ := Cond.code_spec hn (atoms_spec (ws := Jvm.Cond.code x code maxLocals ret :: tables_1) h _ List.mem_cons_self)
    exact ⟨meth, c, h1, h2, h3, h4, h5, h6⟩
  · intro p e s m args below meth c s₁ B hml0 hP _
    obtain ⟨rfl, hx, hbd, hgv⟩ := hP
    obtain ⟨scr, harrAt, hlist, hof, hsmall⟩ := hx
    obtain ⟨hcb, hkn, -, -⟩ := State.arrayAt?_spec harrAt
    have hown : s.vm.findClass R_law = some m.cls := findClass_of_methodNamed B.named
    have hts0 : ∀ c ∈ (Jvm.Cond.code x code maxLocals ret :: tables_1), c.before #[Value.ref b] s = true := atoms_spec (ws := Jvm.Cond.code x code maxLocals ret :: tables_1) B.pre
    have hts : ∀ w ∈ lw_tbl, w.before #[Value.ref b] s = true := k2_hts_sels lw_privs (fun w hw => hts0 w (List.mem_cons_of_mem _ hw)) lw_privs_ok
    have hml : c.maxLocals = 7 := B.maxLocals_eq (hts0 _ List.mem_cons_self)
    have X₀ : Stand p l e room_1 s m #[Value.ref b] below meth c s₁ [] 0 0 := Stand.of_body B
    have hh0 : s₁.heap = s.heap := by rw [B.state]; rfl
    have hsz : scr.slots.size = xs.length := by rw [← Array.length_toList, hlist, List.length_map]
    have hval : ∀ j : Nat, j < xs.length → scr.slots[j]? = some (.int (xs.getD j 0)) := fun j hj => by
      rw [← Array.getElem?_toList, hlist]
      simp [hj]
    have hbl : b < s.heap.size := (Array.getElem?_eq_some_iff.mp hcb).1
    have hX : va_X b xs.length (fun j => xs.getD j 0) s s.heap := ⟨scr, hcb, hof, hkn, hsz, hval⟩
    have K : W p l e room_1 s m #[Value.ref b] below meth c s₁.heap [] 0 0 (lw_Z below #[Value.ref b] s) (entryFrame m ([Value.ref b] : List Value).toArray 7) := by
      rw [hh0]
      exact whole_start l hst hbd ⟨B.exec, B.bytes, B.returns, hml, hown, hts, hX, hbl, B.notSynchronized, hgv⟩
    obtain ⟨t, a1, o, b1, b2, b3⟩ := K s₁ rfl X₀
    exact ⟨t, o, a1, b1, b2, b3⟩
theorem lw_pre_spec {args : Array Value} {s : State} (h : (Jvm.Cond.and given_1 narrow_1).before args s = true) (hr : rest_1_c.before args s = true) : ∃ (b : Addr) (xs : List Int32), lw_P b xs args s := by
  have hs := flat_of_before _ h
  have hq := flat_of_before _ hr
  have hc : (Cond.count 1).before args s = true := hs _ (by decide +kernel)
  have harr : (Cond.arrayOf (.arg 0) .int).before args s = true := hs _ (by decide +kernel)
  have hle : (Cond.le (.length (.arg 0)) (.int 2048)).before args s = true := hs _ (by decide +kernel)
  have hlen : (Cond.isInt (.length (.arg 0))).before args s = true := hq _ (by decide +kernel)
  have hall : (Cond.all (.arg 0) (.isInt (.elem (.arg 0) (.index 0)))).before args s = true := hq _ (by decide +kernel)
  obtain ⟨b, xs, hb, hx⟩ := State.ints_of_pre rfl harr hlen hall
  have hsm : xs.length < 2 ^ 31 := hx.choose_spec.2.2.2
  have hev : (Term.length (.arg 0)).eval args s none [] s = some (.int xs.length.toInt32) := hx.length_eval hb
  have hv := Cond.le_ints hev (show (Term.int 2048).eval args s none [] s = some (.int 2048) from rfl)
  have hd : xs.length.toInt32 ≤ 2048 := by
    simpa [Cond.before, Cond.holds, hv] using hle
  have hN : xs.length ≤ 2048 := (Int32.ofNat_le_ofNat hsm (by decide)).mp (show Int32.ofNat xs.length ≤ Int32.ofNat 2048 from hd)
  exact ⟨b, xs, Cond.one_arg hc (show args[0]? = some (.ref b) from hb), hx, hN, h⟩
theorem lw_comes (l : Launch) (hst : l.stackTraces = false) : Comes l x (Jvm.Cond.code x code maxLocals ret :: tables_1) room_1 (fun tb e args s => Calls_1 tb e args s ∧ rest_1 tb e args s ∧ Pre_1 tb e args s)
    (fun _ _ args s o t => lw_Q args s o t) := by
  intro p e ha hc hk s m args below hf hfit hheap happ hpre
  obtain ⟨b, xs, hP⟩ := lw_pre_spec hpre.2.2 hpre.2.1
  obtain ⟨k, o, h1, h2, h3, hQ⟩ := lw_walk l hst b xs p e ha hc hk s m args below hf ((Spec.applies_iff_loose hf).mp happ).1 hP trivial
  exact ⟨k, o, h1, h2, h3, hQ⟩
theorem lw_frame {s t : State} {o : Outcome} {args : Array Value} (h : Framed s o t [] 601024 7293033) :
    Framed s o t (fieldLocs frame_1_writes args s ++ arrayLocs frame_1_arrays args s ++ staticLocs frame_1_statics s) 601024 7293033 := h
theorem lw_limb (L : Cond) (hL : ∀ (args : Array Value) (s t : State), L.after args s (.returned (some (.int 1))) t = true) :
    ArmFor flags0 classFile x code maxLocals ret World_1 tables_1 room_1 Calls_1 rest_1 Pre_1
      (fun tb e a s o t => postC L tb e a s o t ∧ Framed s o t (fieldLocs frame_1_writes a s ++ arrayLocs frame_1_arrays a s ++ staticLocs frame_1_statics s) 601024 7293033) := by
  intro l hfl _ _ p e ha hc hk s m args below hf hfit hheap happ hpre
  have hst : l.stackTraces = false := by unfold Launch.stackTraces; rw [hfl]; decide
  obtain ⟨k, o, h1, h2, h3, rfl, hF⟩ := lw_comes l hst p e ha hc hk s m args below hf hfit hheap happ hpre
  exact ⟨k, _, h1, h2, h3, hL args s _, lw_frame hF⟩
theorem i_vc : Claimed_1_1 ∧ Claimed_1_2 := ⟨lw_limb limb_1_1 (fun args s t => by simp [limb_1_1, Cond.after, Cond.holds, Cond.value]), lw_limb limb_1_2 (fun args s t => Cond.after_iff.mpr (by
  first | (rw [show limb_1_2 = Cond.eq .result (.int 1) from rfl, Cond.eq_ints (x := 1) (y := 1) rfl rfl]; simp; done) | (simp [limb_1_2, Cond.value, Term.eval]; done)))⟩
