/-! CONTRACTS OF SlideRow: make, space, the constructor; java/util/Arrays.fill (rows laid by wip/gen) -/
/-- a contract with a new address at its end -/
abbrev sy_Me (l : Launch) (y : MethodName) (wds : List Cond) (rm : Room) (D : va_G) (cl : List vw_C) (tys : List (ClassId × FieldType)) (av : List Value) (ws : va_W) (sz : Nat) (r : Int32) (w1 : Nat → va_W) (mc ms : Nat) : Prop :=
  Met l y wds rm (va_Pc av (sy_in D cl tys ws sz)) (va_Qi (fun r' (_ : Nat) => r' = r) (fun q => sy_out D cl tys (va_A ws sz) (w1 q)) (va_A ws sz)) mc ms (va_A ws sz)
/-- Arrays.fill, pure -/
def sr_fl (v : Int32) : Nat → Nat → (Nat → Int32) → Nat → Int32
  | 0, _, F => F
  | n + 1, j, F => sr_fl v n (j + 1) (upd F j v)
theorem sr_fl_eq {v : Int32} : ∀ (n j : Nat) (F : Nat → Int32) (q : Nat), sr_fl v n j F q = if j ≤ q ∧ q < j + n then v else F q
  | 0, j, F, q => by rw [if_neg (by omega)]; rfl
  | n + 1, j, F, q => by
    show sr_fl v n (j + 1) _ q = _
    rw [sr_fl_eq n (j + 1) _ q]
    by_cases h : q = j
    · rw [if_neg (by omega), if_pos (by omega), h, pk_us]
    · rw [pk_un h]
      by_cases h2 : j + 1 ≤ q ∧ q < j + 1 + n
      · rw [if_pos h2, if_pos (by omega)]
      · rw [if_neg h2, if_neg (by omega)]

theorem sr_ipc0 {x : Int32} (h : x < 0 ∨ 2000 < x) : (if x < 0 then (0 : Int32) else if 2000 < x then 0 else 1) = 0 := by
  rcases h with z | z
  · rw [if_pos z]
  · by_cases z0 : x < 0
    · rw [if_pos z0]
    · rw [if_neg z0, if_pos z]

set_option maxHeartbeats 4000000 in
theorem ct_X_isPartCount (l : Launch) (D : va_G) (sz : Nat) (x : Int32) : sy_Mi l yX_isPartCount (Cond.code yX_isPartCount bX_isPartCount 1 (some .boolean) :: sr_big) { frames := 0, cells := 0, slots := 0, locals := 0 } D vwC [] [.int x] [] sz (if x < 0 then 0 else if 2000 < x then 0 else 1) [] 0 0 := by
  refine Met.ofW (cc := bX_isPartCount) (maxL := 1) (ret := (some .boolean)) (by decide) rfl ?_
  intro p e s m args below meth c s₁ B hml hv
  obtain ⟨rfl, hsz, hP, hK, hD0⟩ := hv
  have hx := B.exec
  have hb := B.bytes
  have hr := B.returns
  have hbg : ∀ w ∈ sr_big, w.before _ s = true := fun w h => atoms_spec (ws := Cond.code yX_isPartCount bX_isPartCount 1 (some .boolean) :: sr_big) B.pre w (List.mem_cons_of_mem _ h)
  have hown : s.vm.findClass RX = some m.cls := findClass_of_methodNamed B.named
  have hlocks := B.notSynchronized
  subst hsz
  have hD := hD0.self (sz := s.heap.size)
  generalize hAe : va_A ([]) s.heap.size = A at *
  have hA : ∀ q : Nat, s.heap.size ≤ q → A q := fun q h => by rw [← hAe]; exact Or.inr h
  have hS : va_S A s.heap s.heap [] := va_S.rf
  have hl := lv_entry ([.int x]) (n := 1) (Nat.le_of_ble_eq_true rfl)
  rw [lg_entry_eq]
  generalize (lg_sl ([.int x]) ++ List.replicate (1 - (lg_sl ([.int x])).length) Slot.unset).toArray = ls at hl ⊢
  have hl : lv_has ls 1 [(0, .int x)] := hl
  refine lv_iload_n hx hb dX_isPartCount_0 rfl (lv_at hl 0 rfl) ?_
  refine lv_if_lt (tgt := 15) hx hb dX_isPartCount_1 (by decide) (fun c_1 => ?_) (fun c_1 => ?_)
  · refine lv_iconst (v := 0) hx hb dX_isPartCount_15 (by decide) ?_
    refine W.widen (k := 0) (n := 0) (Nat.le_of_ble_eq_true rfl) (Nat.le_of_ble_eq_true rfl) ?_
    exact W.zret (ty := .boolean) (v := 0) hx hb hr rfl (fun t ht hW => ⟨⟨0, (), rfl, (by simp only [c_1, ↓reduceIte]), by rw [ht]; exact hP, va_K.moved hW.alike hK, hD⟩, hS.F ht⟩) hS.2.2 dX_isPartCount_16
  · refine lv_iload_n hx hb dX_isPartCount_4 rfl (lv_at hl 0 rfl) ?_
    refine lv_sipush (v := 2000) hx hb dX_isPartCount_5 (by decide) ?_
    refine lv_icmp_gt (tgt := 15) hx hb dX_isPartCount_8 (by decide) (fun c_8 => ?_) (fun c_8 => ?_)
    · refine lv_iconst (v := 0) hx hb dX_isPartCount_15 (by decide) ?_
      refine W.widen (k := 0) (n := 0) (Nat.le_of_ble_eq_true rfl) (Nat.le_of_ble_eq_true rfl) ?_
      exact W.zret (ty := .boolean) (v := 0) hx hb hr rfl (fun t ht hW => ⟨⟨0, (), rfl, (by simp only [c_1, c_8, ↓reduceIte]), by rw [ht]; exact hP, va_K.moved hW.alike hK, hD⟩, hS.F ht⟩) hS.2.2 dX_isPartCount_16
    · refine lv_iconst (v := 1) hx hb dX_isPartCount_11 (by decide) ?_
      refine lv_goto (tgt := 16) hx hb dX_isPartCount_12 (by decide) ?_
      refine W.widen (k := 0) (n := 0) (Nat.le_of_ble_eq_true rfl) (Nat.le_of_ble_eq_true rfl) ?_
      exact W.zret (ty := .boolean) (v := 1) hx hb hr rfl (fun t ht hW => ⟨⟨1, (), rfl, (by simp only [c_1, c_8, ↓reduceIte]), by rw [ht]; exact hP, va_K.moved hW.alike hK, hD⟩, hS.F ht⟩) hS.2.2 dX_isPartCount_16

set_option maxHeartbeats 4000000 in
set_option maxRecDepth 100000 in
theorem ct_X_make_k1 (l : Launch) (D : va_G) (h rr cc : Nat) (cI : ClassId) (N : Nat) (R C : Nat → Int32) (li us ob sl go gi fr la re : Int32) (sz : Nat) (f w : Int32) (hN : N < 2 ^ 31) (h1 : ¬ f < 0) (h2 : ¬ 2000 < f) (h3 : ¬ w < 0) (h4 : ¬ 2000 < w) (h5 : ¬ (3 : Int32) + f + w ≤ li - us) : sy_Mi l yX_make (Cond.code yX_make bX_make 5 (some .int) :: sr_big) { frames := 6, cells := 0, slots := 0, locals := 90 } D vwC [(cI, .int)] [.ref h, .int f, .int w] (wX h rr cc cI N R C li us ob sl go gi fr la re) sz 0 (wX h rr cc cI N R C li us ob sl go gi fr la re) 0 0 := by
  refine Met.ofW (cc := bX_make) (maxL := 5) (ret := (some .int)) (by decide) rfl ?_
  intro p e s m args below meth c s₁ B hml hv
  obtain ⟨rfl, hsz, hP, hK, hD0⟩ := hv
  have hx := B.exec
  have hb := B.bytes
  have hr := B.returns
  have hbg : ∀ w ∈ sr_big, w.before _ s = true := fun w h => atoms_spec (ws := Cond.code yX_make bX_make 5 (some .int) :: sr_big) B.pre w (List.mem_cons_of_mem _ h)
  have hown : s.vm.findClass RX = some m.cls := findClass_of_methodNamed B.named
  have hlocks := B.notSynchronized
  subst hsz
  have hD := hD0.self (sz := s.heap.size)
  generalize hAe : va_A (wX h rr cc cI N R C li us ob sl go gi fr la re) s.heap.size = A at *
  have hA : ∀ q : Nat, s.heap.size ≤ q → A q := fun q h => by rw [← hAe]; exact Or.inr h
  have hS : va_S A s.heap s.heap [] := va_S.rf
  have hl := lv_entry ([.ref h, .int f, .int w]) (n := 5) (Nat.le_of_ble_eq_true rfl)
  rw [lg_entry_eq]
  generalize (lg_sl ([.ref h, .int f, .int w]) ++ List.replicate (5 - (lg_sl ([.ref h, .int f, .int w])).length) Slot.unset).toArray = ls at hl ⊢
  have hl : lv_has ls 5 [(0, .ref h), (1, .int f), (2, .int w)] := hl
  refine lv_iload_n hx hb dX_make_0 rfl (lv_at hl 1 rfl) ?_
  refine sy_cSi (wc := []) (wr := wX h rr cc cI N R C li us ob sl go gi fr la re) (w1 := []) (As := [.int f]) (rest := []) ⟨hx, hb, hml, hown, hbg⟩ (ct_X_isPartCount l D s.heap.size f) (cwS 1 hbg (bg_S bw_196 bw_197 bw_34 bw_198) rfl rfl rfl (by decide +kernel) ⟨Nat.le_of_ble_eq_true rfl, Nat.le_of_ble_eq_true rfl⟩) hK [] rfl hP hD hS hA [] [0, 1, 2] rfl rfl rfl rfl (by decide) rfl hl.1 rfl (Nat.le_of_ble_eq_true rfl) dX_make_1 ⟨Nat.le_of_ble_eq_true rfl, Nat.le_of_ble_eq_true rfl⟩ (fun H locs hP hD hS => ?_)
  have hP : va_P D vwC (wX h rr cc cI N R C li us ob sl go gi fr la re) H := hP.sub [0, 1, 2] rfl
  have hD : va_D A (wX h rr cc cI N R C li us ob sl go gi fr la re) := hD.sub [0, 1, 2] (by decide) rfl
  refine lv_if_eq (tgt := 14) hx hb dX_make_4 (by decide) (fun z => absurd z (by rw [if_neg h1, if_neg h2]; decide)) (fun _ => ?_)
  refine lv_iload_n hx hb dX_make_7 rfl (lv_at hl 2 rfl) ?_
  refine sy_cSi (wc := []) (wr := wX h rr cc cI N R C li us ob sl go gi fr la re) (w1 := []) (As := [.int w]) (rest := []) ⟨hx, hb, hml, hown, hbg⟩ (ct_X_isPartCount l D H.size w) (cwS 1 hbg (bg_S bw_196 bw_197 bw_34 bw_198) rfl rfl rfl (by decide +kernel) ⟨Nat.le_of_ble_eq_true rfl, Nat.le_of_ble_eq_true rfl⟩) hK [] rfl hP hD hS hA [] [0, 1, 2] rfl rfl rfl rfl (by decide) rfl hl.1 rfl (Nat.le_of_ble_eq_true rfl) dX_make_8 ⟨Nat.le_of_ble_eq_true rfl, Nat.le_of_ble_eq_true rfl⟩ (fun H locs hP hD hS => ?_)
  have hP : va_P D vwC (wX h rr cc cI N R C li us ob sl go gi fr la re) H := hP.sub [0, 1, 2] rfl
  have hD : va_D A (wX h rr cc cI N R C li us ob sl go gi fr la re) := hD.sub [0, 1, 2] (by decide) rfl
  refine lv_if_ne (tgt := 24) hx hb dX_make_11 (by decide) (fun _ => ?_) (fun z => absurd z (by rw [if_neg h3, if_neg h4]; decide))
  refine lv_iconst (v := 3) hx hb dX_make_24 (by decide) ?_
  refine lv_iload_n hx hb dX_make_25 rfl (lv_at hl 1 rfl) ?_
  refine lv_iadd hx hb dX_make_26 ?_
  refine lv_iload_n hx hb dX_make_27 rfl (lv_at hl 2 rfl) ?_
  refine lv_iadd hx hb dX_make_28 ?_
  refine lv_istore_n (lv' := [(3, .int (((3 : Int32) + f) + w)), (0, .ref h), (1, .int f), (2, .int w)]) hx hb dX_make_29 rfl hl (by decide) rfl (fun ls hl => ?_)
  refine lv_iload_n hx hb dX_make_30 rfl (lv_at hl 0 rfl) ?_
  refine lv_aload_n hx hb dX_make_31 rfl (lv_at hl 1 rfl) ?_
  refine va_get (D := D) (ci := 0) (v := .int li) (C := RX) (T := TX) (N := 11) hx hb hbg bg_X hown hK hP 0 rfl rfl 2 (by decide) (hbg _ bw_53) (fun _ h9 => h9) rfl dX_make_32 ?_
  refine lv_aload_n hx hb dX_make_35 rfl (lv_at hl 1 rfl) ?_
  refine va_get (D := D) (ci := 0) (v := .int us) (C := RX) (T := TX) (N := 11) hx hb hbg bg_X hown hK hP 0 rfl rfl 3 (by decide) (hbg _ bw_54) (fun _ h9 => h9) rfl dX_make_36 ?_
  refine lv_isub hx hb dX_make_39 ?_
  refine lv_icmp_le (tgt := 45) hx hb dX_make_40 (by decide) (fun z => absurd z h5) (fun _ => ?_)
  refine lv_iconst (v := 0) hx hb dX_make_43 (by decide) ?_
  refine W.widen (k := 0) (n := 0) (Nat.le_of_ble_eq_true rfl) (Nat.le_of_ble_eq_true rfl) ?_
  exact W.iret (v := 0) hx hb hr (fun t ht hW => ⟨⟨0, (), rfl, rfl, by rw [ht]; exact hP, va_K.moved hW.alike hK, hD⟩, hS.F ht⟩) hS.2.2 dX_make_44

set_option maxHeartbeats 4000000 in
set_option maxRecDepth 100000 in
theorem ct_X_make_k2 (l : Launch) (D : va_G) (h rr cc : Nat) (cI : ClassId) (N : Nat) (R C : Nat → Int32) (li us ob sl go gi fr la re : Int32) (sz : Nat) (f w : Int32) (hN : N < 2 ^ 31) (h1 : ¬ f < 0) (h2 : ¬ 2000 < f) (h3 : ¬ w < 0) (h4 : ¬ 2000 < w) (h5 : (3 : Int32) + f + w ≤ li - us) : sy_Mi l yX_make (Cond.code yX_make bX_make 5 (some .int) :: sr_big) { frames := 6, cells := 0, slots := 0, locals := 90 } D vwC [(cI, .int)] [.ref h, .int f, .int w] (wX h rr cc cI N R C li us ob sl go gi fr la re) sz (us + 1) (wX h rr cc cI N R (sr_wr N (sr_cc N (us + 1) ((3 : Int32) + f + w).toNatClampNeg 0 C) (us + 1 + 0) (f <<< ((12 : Int32) &&& 31) ||| w)) li (us + ((3 : Int32) + f + w)) (ob + 1) sl go gi fr la re) 0 0 := by
  refine Met.ofW (cc := bX_make) (maxL := 5) (ret := (some .int)) (by decide) rfl ?_
  intro p e s m args below meth c s₁ B hml hv
  obtain ⟨rfl, hsz, hP, hK, hD0⟩ := hv
  have hx := B.exec
  have hb := B.bytes
  have hr := B.returns
  have hbg : ∀ w ∈ sr_big, w.before _ s = true := fun w h => atoms_spec (ws := Cond.code yX_make bX_make 5 (some .int) :: sr_big) B.pre w (List.mem_cons_of_mem _ h)
  have hown : s.vm.findClass RX = some m.cls := findClass_of_methodNamed B.named
  have hlocks := B.notSynchronized
  subst hsz
  have hD := hD0.self (sz := s.heap.size)
  generalize hAe : va_A (wX h rr cc cI N R C li us ob sl go gi fr la re) s.heap.size = A at *
  have hA : ∀ q : Nat, s.heap.size ≤ q → A q := fun q h => by rw [← hAe]; exact Or.inr h
  have hS : va_S A s.heap s.heap [] := va_S.rf
  have hl := lv_entry ([.ref h, .int f, .int w]) (n := 5) (Nat.le_of_ble_eq_true rfl)
  rw [lg_entry_eq]
  generalize (lg_sl ([.ref h, .int f, .int w]) ++ List.replicate (5 - (lg_sl ([.ref h, .int f, .int w])).length) Slot.unset).toArray = ls at hl ⊢
  have hl : lv_has ls 5 [(0, .ref h), (1, .int f), (2, .int w)] := hl
  refine lv_iload_n hx hb dX_make_0 rfl (lv_at hl 1 rfl) ?_
  refine sy_cSi (wc := []) (wr := wX h rr cc cI N R C li us ob sl go gi fr la re) (w1 := []) (As := [.int f]) (rest := []) ⟨hx, hb, hml, hown, hbg⟩ (ct_X_isPartCount l D s.heap.size f) (cwS 1 hbg (bg_S bw_196 bw_197 bw_34 bw_198) rfl rfl rfl (by decide +kernel) ⟨Nat.le_of_ble_eq_true rfl, Nat.le_of_ble_eq_true rfl⟩) hK [] rfl hP hD hS hA [] [0, 1, 2] rfl rfl rfl rfl (by decide) rfl hl.1 rfl (Nat.le_of_ble_eq_true rfl) dX_make_1 ⟨Nat.le_of_ble_eq_true rfl, Nat.le_of_ble_eq_true rfl⟩ (fun H locs hP hD hS => ?_)
  have hP : va_P D vwC (wX h rr cc cI N R C li us ob sl go gi fr la re) H := hP.sub [0, 1, 2] rfl
  have hD : va_D A (wX h rr cc cI N R C li us ob sl go gi fr la re) := hD.sub [0, 1, 2] (by decide) rfl
  refine lv_if_eq (tgt := 14) hx hb dX_make_4 (by decide) (fun z => absurd z (by rw [if_neg h1, if_neg h2]; decide)) (fun _ => ?_)
  refine lv_iload_n hx hb dX_make_7 rfl (lv_at hl 2 rfl) ?_
  refine sy_cSi (wc := []) (wr := wX h rr cc cI N R C li us ob sl go gi fr la re) (w1 := []) (As := [.int w]) (rest := []) ⟨hx, hb, hml, hown, hbg⟩ (ct_X_isPartCount l D H.size w) (cwS 1 hbg (bg_S bw_196 bw_197 bw_34 bw_198) rfl rfl rfl (by decide +kernel) ⟨Nat.le_of_ble_eq_true rfl, Nat.le_of_ble_eq_true rfl⟩) hK [] rfl hP hD hS hA [] [0, 1, 2] rfl rfl rfl rfl (by decide) rfl hl.1 rfl (Nat.le_of_ble_eq_true rfl) dX_make_8 ⟨Nat.le_of_ble_eq_true rfl, Nat.le_of_ble_eq_true rfl⟩ (fun H locs hP hD hS => ?_)
  have hP : va_P D vwC (wX h rr cc cI N R C li us ob sl go gi fr la re) H := hP.sub [0, 1, 2] rfl
  have hD : va_D A (wX h rr cc cI N R C li us ob sl go gi fr la re) := hD.sub [0, 1, 2] (by decide) rfl
  refine lv_if_ne (tgt := 24) hx hb dX_make_11 (by decide) (fun _ => ?_) (fun z => absurd z (by rw [if_neg h3, if_neg h4]; decide))
  refine lv_iconst (v := 3) hx hb dX_make_24 (by decide) ?_
  refine lv_iload_n hx hb dX_make_25 rfl (lv_at hl 1 rfl) ?_
  refine lv_iadd hx hb dX_make_26 ?_
  refine lv_iload_n hx hb dX_make_27 rfl (lv_at hl 2 rfl) ?_
  refine lv_iadd hx hb dX_make_28 ?_
  refine lv_istore_n (lv' := [(3, .int (((3 : Int32) + f) + w)), (0, .ref h), (1, .int f), (2, .int w)]) hx hb dX_make_29 rfl hl (by decide) rfl (fun ls hl => ?_)
  refine lv_iload_n hx hb dX_make_30 rfl (lv_at hl 0 rfl) ?_
  refine lv_aload_n hx hb dX_make_31 rfl (lv_at hl 1 rfl) ?_
  refine va_get (D := D) (ci := 0) (v := .int li) (C := RX) (T := TX) (N := 11) hx hb hbg bg_X hown hK hP 0 rfl rfl 2 (by decide) (hbg _ bw_53) (fun _ h9 => h9) rfl dX_make_32 ?_
  refine lv_aload_n hx hb dX_make_35 rfl (lv_at hl 1 rfl) ?_
  refine va_get (D := D) (ci := 0) (v := .int us) (C := RX) (T := TX) (N := 11) hx hb hbg bg_X hown hK hP 0 rfl rfl 3 (by decide) (hbg _ bw_54) (fun _ h9 => h9) rfl dX_make_36 ?_
  refine lv_isub hx hb dX_make_39 ?_
  refine lv_icmp_le (tgt := 45) hx hb dX_make_40 (by decide) (fun _ => ?_) (fun z => absurd h5 z)
  refine lv_aload_n hx hb dX_make_45 rfl (lv_at hl 1 rfl) ?_
  refine va_get (D := D) (ci := 0) (v := .int us) (C := RX) (T := TX) (N := 11) hx hb hbg bg_X hown hK hP 0 rfl rfl 3 (by decide) (hbg _ bw_54) (fun _ h9 => h9) rfl dX_make_46 ?_
  refine lv_iconst (v := 1) hx hb dX_make_49 (by decide) ?_
  refine lv_iadd hx hb dX_make_50 ?_
  refine lv_istore (lv' := [(4, .int (us + 1)), (3, .int (((3 : Int32) + f) + w)), (0, .ref h), (1, .int f), (2, .int w)]) hx hb dX_make_51 hl (by decide) rfl (fun ls hl => ?_)
  refine lv_aload_n hx hb dX_make_53 rfl (lv_at hl 2 rfl) ?_
  refine lv_iload hx hb dX_make_54 (lv_at hl 0 rfl) ?_
  refine lv_iload_n hx hb dX_make_56 rfl (lv_at hl 1 rfl) ?_
  refine sy_cVv (wc := wX h rr cc cI N R C li us ob sl go gi fr la re) (wr := []) (w1 := wX h rr cc cI N R (sr_cc N (us + 1) (((3 : Int32) + f) + w).toNatClampNeg 0 C) li us ob sl go gi fr la re) (ci := 0) (q0 := 0) (As := [.int (us + 1), .int (((3 : Int32) + f) + w)]) (rest := []) ⟨hx, hb, hml, hown, hbg⟩ (ct_X_clearCells l D h rr cc cI N R C li us ob sl go gi fr la re H.size (us + 1) (((3 : Int32) + f) + w) hN) (cwV 2 hbg (bg_V bw_199 bw_200 bw_16 bw_34 bw_201) rfl rfl rfl (by decide +kernel) ⟨Nat.le_of_ble_eq_true rfl, Nat.le_of_ble_eq_true rfl⟩) hK [0] rfl hP hD hS hA [0, 1, 2] [] rfl rfl rfl rfl (by decide) rfl rfl rfl hl.1 rfl (Nat.le_of_ble_eq_true rfl) dX_make_57 ⟨Nat.le_of_ble_eq_true rfl, Nat.le_of_ble_eq_true rfl⟩ (fun H locs hP hD hS => ?_)
  have hP : va_P D vwC (wX h rr cc cI N R (sr_cc N (us + 1) (((3 : Int32) + f) + w).toNatClampNeg 0 C) li us ob sl go gi fr la re) H := hP
  have hD : va_D A (wX h rr cc cI N R (sr_cc N (us + 1) (((3 : Int32) + f) + w).toNatClampNeg 0 C) li us ob sl go gi fr la re) := hD
  refine lv_aload_n hx hb dX_make_60 rfl (lv_at hl 2 rfl) ?_
  refine lv_iload hx hb dX_make_61 (lv_at hl 0 rfl) ?_
  refine lv_iconst (v := 0) hx hb dX_make_63 (by decide) ?_
  refine lv_iadd hx hb dX_make_64 ?_
  refine lv_iload_n hx hb dX_make_65 rfl (lv_at hl 3 rfl) ?_
  refine lv_bipush (v := 12) hx hb dX_make_66 (by decide) ?_
  refine lv_ishl hx hb dX_make_68 ?_
  refine lv_iload_n hx hb dX_make_69 rfl (lv_at hl 4 rfl) ?_
  refine lv_ior hx hb dX_make_70 ?_
  refine sy_cVv (wc := wX h rr cc cI N R (sr_cc N (us + 1) (((3 : Int32) + f) + w).toNatClampNeg 0 C) li us ob sl go gi fr la re) (wr := []) (w1 := wX h rr cc cI N R (sr_wr N (sr_cc N (us + 1) (((3 : Int32) + f) + w).toNatClampNeg 0 C) ((us + 1) + 0) ((f <<< (12 &&& 31)) ||| w)) li us ob sl go gi fr la re) (ci := 0) (q0 := 0) (As := [.int ((us + 1) + 0), .int ((f <<< (12 &&& 31)) ||| w)]) (rest := []) ⟨hx, hb, hml, hown, hbg⟩ (ct_X_write l D h rr cc cI N R (sr_cc N (us + 1) (((3 : Int32) + f) + w).toNatClampNeg 0 C) li us ob sl go gi fr la re H.size ((us + 1) + 0) ((f <<< (12 &&& 31)) ||| w) hN) (cwV 2 hbg (bg_V bw_84 bw_85 bw_2 bw_34 bw_86) rfl rfl rfl (by decide +kernel) ⟨Nat.le_of_ble_eq_true rfl, Nat.le_of_ble_eq_true rfl⟩) hK [0] rfl hP hD hS hA [0, 1, 2] [] rfl rfl rfl rfl (by decide) rfl rfl rfl hl.1 rfl (Nat.le_of_ble_eq_true rfl) dX_make_71 ⟨Nat.le_of_ble_eq_true rfl, Nat.le_of_ble_eq_true rfl⟩ (fun H locs hP hD hS => ?_)
  have hP : va_P D vwC (wX h rr cc cI N R (sr_wr N (sr_cc N (us + 1) (((3 : Int32) + f) + w).toNatClampNeg 0 C) ((us + 1) + 0) ((f <<< (12 &&& 31)) ||| w)) li us ob sl go gi fr la re) H := hP
  have hD : va_D A (wX h rr cc cI N R (sr_wr N (sr_cc N (us + 1) (((3 : Int32) + f) + w).toNatClampNeg 0 C) ((us + 1) + 0) ((f <<< (12 &&& 31)) ||| w)) li us ob sl go gi fr la re) := hD
  refine lv_aload_n hx hb dX_make_74 rfl (lv_at hl 2 rfl) ?_
  refine lv_dup hx hb dX_make_75 rfl ?_
  refine va_get (D := D) (ci := 0) (v := .int us) (C := RX) (T := TX) (N := 11) hx hb hbg bg_X hown hK hP 0 rfl rfl 3 (by decide) (hbg _ bw_54) (fun _ h9 => h9) rfl dX_make_76 ?_
  refine lv_iload_n hx hb dX_make_79 rfl (lv_at hl 1 rfl) ?_
  refine lv_iadd hx hb dX_make_80 ?_
  refine va_put (D := D) (ci := 0) (v := .int (us + (((3 : Int32) + f) + w))) (ty := .int) (C := RX) (T := TX) (N := 11) hx hb hbg bg_X tX tX_ok nX hown hK hP hD hS 0 rfl rfl 3 (by decide) (hbg _ bw_54) (fun _ h9 => h9) rfl (by decide +kernel) rfl rfl (Nat.le_of_ble_eq_true rfl) dX_make_81 (fun H locs hP hD hS => ?_)
  have hP : va_P D vwC (wX h rr cc cI N R (sr_wr N (sr_cc N (us + 1) (((3 : Int32) + f) + w).toNatClampNeg 0 C) ((us + 1) + 0) ((f <<< (12 &&& 31)) ||| w)) li (us + (((3 : Int32) + f) + w)) ob sl go gi fr la re) H := hP
  have hD : va_D A (wX h rr cc cI N R (sr_wr N (sr_cc N (us + 1) (((3 : Int32) + f) + w).toNatClampNeg 0 C) ((us + 1) + 0) ((f <<< (12 &&& 31)) ||| w)) li (us + (((3 : Int32) + f) + w)) ob sl go gi fr la re) := hD
  refine lv_aload_n hx hb dX_make_84 rfl (lv_at hl 2 rfl) ?_
  refine lv_dup hx hb dX_make_85 rfl ?_
  refine va_get (D := D) (ci := 0) (v := .int ob) (C := RX) (T := TX) (N := 11) hx hb hbg bg_X hown hK hP 0 rfl rfl 4 (by decide) (hbg _ bw_55) (fun _ h9 => h9) rfl dX_make_86 ?_
  refine lv_iconst (v := 1) hx hb dX_make_89 (by decide) ?_
  refine lv_iadd hx hb dX_make_90 ?_
  refine va_put (D := D) (ci := 0) (v := .int (ob + 1)) (ty := .int) (C := RX) (T := TX) (N := 11) hx hb hbg bg_X tX tX_ok nX hown hK hP hD hS 0 rfl rfl 4 (by decide) (hbg _ bw_55) (fun _ h9 => h9) rfl (by decide +kernel) rfl rfl (Nat.le_of_ble_eq_true rfl) dX_make_91 (fun H locs hP hD hS => ?_)
  have hP : va_P D vwC (wX h rr cc cI N R (sr_wr N (sr_cc N (us + 1) (((3 : Int32) + f) + w).toNatClampNeg 0 C) ((us + 1) + 0) ((f <<< (12 &&& 31)) ||| w)) li (us + (((3 : Int32) + f) + w)) (ob + 1) sl go gi fr la re) H := hP
  have hD : va_D A (wX h rr cc cI N R (sr_wr N (sr_cc N (us + 1) (((3 : Int32) + f) + w).toNatClampNeg 0 C) ((us + 1) + 0) ((f <<< (12 &&& 31)) ||| w)) li (us + (((3 : Int32) + f) + w)) (ob + 1) sl go gi fr la re) := hD
  refine lv_iload hx hb dX_make_94 (lv_at hl 0 rfl) ?_
  refine W.widen (k := 0) (n := 0) (Nat.le_of_ble_eq_true rfl) (Nat.le_of_ble_eq_true rfl) ?_
  exact W.iret (v := us + 1) hx hb hr (fun t ht hW => ⟨⟨us + 1, (), rfl, rfl, by rw [ht]; exact hP, va_K.moved hW.alike hK, hD⟩, hS.F ht⟩) hS.2.2 dX_make_96

set_option maxHeartbeats 4000000 in
set_option maxRecDepth 100000 in
theorem ct_X_make_b1 (l : Launch) (D : va_G) (h rr cc : Nat) (cI : ClassId) (N : Nat) (R C : Nat → Int32) (li us ob sl go gi fr la re : Int32) (sz : Nat) (f w : Int32) (hN : N < 2 ^ 31) (hst : l.stackTraces = false) (hg : f < 0 ∨ 2000 < f) : sy_Mx l yX_make (Cond.code yX_make bX_make 5 (some .int) :: sr_big) { frames := 6, cells := 1, slots := 6, locals := 90 } D vwC [(cI, .int)] [.ref h, .int f, .int w] (wX h rr cc cI N R C li us ob sl go gi fr la re) sz sx_IAE 1 6 := by
  refine vx_ofW (cc := bX_make) (maxL := 5) (ret := (some .int)) (by decide) rfl ?_
  intro p e s m args below meth c s₁ B hml htab hv
  obtain ⟨rfl, ⟨hsz, hP, hK, hD0⟩, hG⟩ := hv
  have hx := B.exec
  have hb := B.bytes
  have hr := B.returns
  have hbg : ∀ w ∈ sr_big, w.before _ s = true := fun w h => atoms_spec (ws := Cond.code yX_make bX_make 5 (some .int) :: sr_big) B.pre w (List.mem_cons_of_mem _ h)
  have hown : s.vm.findClass RX = some m.cls := findClass_of_methodNamed B.named
  have hlocks := B.notSynchronized
  subst hsz
  have hD := hD0.self (sz := s.heap.size)
  generalize hAe : va_A (wX h rr cc cI N R C li us ob sl go gi fr la re) s.heap.size = A at *
  have hA : ∀ q : Nat, s.heap.size ≤ q → A q := fun q h => by rw [← hAe]; exact Or.inr h
  have hS : va_S A s.heap s.heap [] := va_S.rf
  have hl := lv_entry ([.ref h, .int f, .int w]) (n := 5) (Nat.le_of_ble_eq_true rfl)
  rw [lg_entry_eq]
  generalize (lg_sl ([.ref h, .int f, .int w]) ++ List.replicate (5 - (lg_sl ([.ref h, .int f, .int w])).length) Slot.unset).toArray = ls at hl ⊢
  have hl : lv_has ls 5 [(0, .ref h), (1, .int f), (2, .int w)] := hl
  refine lv_iload_n hx hb dX_make_0 rfl (lv_at hl 1 rfl) ?_
  refine sy_cSi (wc := []) (wr := wX h rr cc cI N R C li us ob sl go gi fr la re) (w1 := []) (As := [.int f]) (rest := []) ⟨hx, hb, hml, hown, hbg⟩ (ct_X_isPartCount l D s.heap.size f) (cwS 1 hbg (bg_S bw_196 bw_197 bw_34 bw_198) rfl rfl rfl (by decide +kernel) ⟨Nat.le_of_ble_eq_true rfl, Nat.le_of_ble_eq_true rfl⟩) hK [] rfl hP hD hS hA [] [0, 1, 2] rfl rfl rfl rfl (by decide) rfl hl.1 rfl (Nat.le_of_ble_eq_true rfl) dX_make_1 ⟨Nat.le_of_ble_eq_true rfl, Nat.le_of_ble_eq_true rfl⟩ (fun H locs hP hD hS => ?_)
  have hP : va_P D vwC (wX h rr cc cI N R C li us ob sl go gi fr la re) H := hP.sub [0, 1, 2] rfl
  have hD : va_D A (wX h rr cc cI N R C li us ob sl go gi fr la re) := hD.sub [0, 1, 2] (by decide) rfl
  refine lv_if_eq (tgt := 14) hx hb dX_make_4 (by decide) (fun _ => ?_) (fun z => absurd (sr_ipc0 hg) z)
  exact sy_throw (E := sx_IAE) (text := "fields or words is not 0 .. 2000") (Or.inl ⟨rfl, rfl, rfl, rfl, rfl⟩) hx hb hst hown hbg (by decide) hG hP hK hD hS (hl.1.trans hml.symm) dX_make_14 dX_make_17 dX_make_18 dX_make_20 dX_make_23 htab (Nat.le_of_ble_eq_true rfl) (Nat.le_of_ble_eq_true rfl) (Nat.le_of_ble_eq_true rfl) (Nat.le_of_ble_eq_true rfl) hlocks (Nat.le_of_ble_eq_true rfl) (Nat.le_of_ble_eq_true rfl)

set_option maxHeartbeats 4000000 in
set_option maxRecDepth 100000 in
theorem ct_X_make_b2 (l : Launch) (D : va_G) (h rr cc : Nat) (cI : ClassId) (N : Nat) (R C : Nat → Int32) (li us ob sl go gi fr la re : Int32) (sz : Nat) (f w : Int32) (hN : N < 2 ^ 31) (hst : l.stackTraces = false) (h1 : ¬ f < 0) (h2 : ¬ 2000 < f) (hg : w < 0 ∨ 2000 < w) : sy_Mx l yX_make (Cond.code yX_make bX_make 5 (some .int) :: sr_big) { frames := 6, cells := 1, slots := 6, locals := 90 } D vwC [(cI, .int)] [.ref h, .int f, .int w] (wX h rr cc cI N R C li us ob sl go gi fr la re) sz sx_IAE 1 6 := by
  refine vx_ofW (cc := bX_make) (maxL := 5) (ret := (some .int)) (by decide) rfl ?_
  intro p e s m args below meth c s₁ B hml htab hv
  obtain ⟨rfl, ⟨hsz, hP, hK, hD0⟩, hG⟩ := hv
  have hx := B.exec
  have hb := B.bytes
  have hr := B.returns
  have hbg : ∀ w ∈ sr_big, w.before _ s = true := fun w h => atoms_spec (ws := Cond.code yX_make bX_make 5 (some .int) :: sr_big) B.pre w (List.mem_cons_of_mem _ h)
  have hown : s.vm.findClass RX = some m.cls := findClass_of_methodNamed B.named
  have hlocks := B.notSynchronized
  subst hsz
  have hD := hD0.self (sz := s.heap.size)
  generalize hAe : va_A (wX h rr cc cI N R C li us ob sl go gi fr la re) s.heap.size = A at *
  have hA : ∀ q : Nat, s.heap.size ≤ q → A q := fun q h => by rw [← hAe]; exact Or.inr h
  have hS : va_S A s.heap s.heap [] := va_S.rf
  have hl := lv_entry ([.ref h, .int f, .int w]) (n := 5) (Nat.le_of_ble_eq_true rfl)
  rw [lg_entry_eq]
  generalize (lg_sl ([.ref h, .int f, .int w]) ++ List.replicate (5 - (lg_sl ([.ref h, .int f, .int w])).length) Slot.unset).toArray = ls at hl ⊢
  have hl : lv_has ls 5 [(0, .ref h), (1, .int f), (2, .int w)] := hl
  refine lv_iload_n hx hb dX_make_0 rfl (lv_at hl 1 rfl) ?_
  refine sy_cSi (wc := []) (wr := wX h rr cc cI N R C li us ob sl go gi fr la re) (w1 := []) (As := [.int f]) (rest := []) ⟨hx, hb, hml, hown, hbg⟩ (ct_X_isPartCount l D s.heap.size f) (cwS 1 hbg (bg_S bw_196 bw_197 bw_34 bw_198) rfl rfl rfl (by decide +kernel) ⟨Nat.le_of_ble_eq_true rfl, Nat.le_of_ble_eq_true rfl⟩) hK [] rfl hP hD hS hA [] [0, 1, 2] rfl rfl rfl rfl (by decide) rfl hl.1 rfl (Nat.le_of_ble_eq_true rfl) dX_make_1 ⟨Nat.le_of_ble_eq_true rfl, Nat.le_of_ble_eq_true rfl⟩ (fun H locs hP hD hS => ?_)
  have hP : va_P D vwC (wX h rr cc cI N R C li us ob sl go gi fr la re) H := hP.sub [0, 1, 2] rfl
  have hD : va_D A (wX h rr cc cI N R C li us ob sl go gi fr la re) := hD.sub [0, 1, 2] (by decide) rfl
  refine lv_if_eq (tgt := 14) hx hb dX_make_4 (by decide) (fun z => absurd z (by rw [if_neg h1, if_neg h2]; decide)) (fun _ => ?_)
  refine lv_iload_n hx hb dX_make_7 rfl (lv_at hl 2 rfl) ?_
  refine sy_cSi (wc := []) (wr := wX h rr cc cI N R C li us ob sl go gi fr la re) (w1 := []) (As := [.int w]) (rest := []) ⟨hx, hb, hml, hown, hbg⟩ (ct_X_isPartCount l D H.size w) (cwS 1 hbg (bg_S bw_196 bw_197 bw_34 bw_198) rfl rfl rfl (by decide +kernel) ⟨Nat.le_of_ble_eq_true rfl, Nat.le_of_ble_eq_true rfl⟩) hK [] rfl hP hD hS hA [] [0, 1, 2] rfl rfl rfl rfl (by decide) rfl hl.1 rfl (Nat.le_of_ble_eq_true rfl) dX_make_8 ⟨Nat.le_of_ble_eq_true rfl, Nat.le_of_ble_eq_true rfl⟩ (fun H locs hP hD hS => ?_)
  have hP : va_P D vwC (wX h rr cc cI N R C li us ob sl go gi fr la re) H := hP.sub [0, 1, 2] rfl
  have hD : va_D A (wX h rr cc cI N R C li us ob sl go gi fr la re) := hD.sub [0, 1, 2] (by decide) rfl
  refine lv_if_ne (tgt := 24) hx hb dX_make_11 (by decide) (fun z => absurd (sr_ipc0 hg) z) (fun _ => ?_)
  exact sy_throw (E := sx_IAE) (text := "fields or words is not 0 .. 2000") (Or.inl ⟨rfl, rfl, rfl, rfl, rfl⟩) hx hb hst hown hbg (by decide) hG hP hK hD hS (hl.1.trans hml.symm) dX_make_14 dX_make_17 dX_make_18 dX_make_20 dX_make_23 htab (Nat.le_of_ble_eq_true rfl) (Nat.le_of_ble_eq_true rfl) (Nat.le_of_ble_eq_true rfl) (Nat.le_of_ble_eq_true rfl) hlocks (Nat.le_of_ble_eq_true rfl) (Nat.le_of_ble_eq_true rfl)

section JF
variable {p : Program} {l : Launch} {e : Env} {s : State} {m : MethodId} {args : Array Value} {below : List Frame} {meth : Method} {c : Code} {Q : State → Prop} {A : Nat → Prop} {D : va_G} {a N : Nat} {cI : ClassId} {v : Int32}

set_option maxHeartbeats 4000000 in
set_option maxRecDepth 100000 in
theorem lp_J_fill  (hx : p.tables.exec = Jvm.exec) (hb : c.code = bJ_fill) (hml : c.maxLocals = 4) (hown : s.vm.findClass RJ = some m.cls) (hbg : ∀ w ∈ sr_big, w.before args s = true) (hK : va_K D vwC [(cI, .int)] s) (hA : ∀ q : Nat, s.heap.size ≤ q → A q) (hN : N < 2 ^ 31) :
    ∀ (n j : Nat) (F : Nat → Int32) (H : Heap) (locs : List Loc) (ls : Array Slot), j + n = N → va_P D vwC ([(a, .inl (cI, N, .inl F))]) H → va_D A ([(a, .inl (cI, N, .inl F))]) → va_S A s.heap H locs → lv_has ls 4 [(0, .ref a), (1, .int v), (2, .int (nI j)), (3, .int (nI N))] →
      (∀ (i' : Int32) (H : Heap) (locs : List Loc) (ls : Array Slot), va_P D vwC ([(a, .inl (cI, N, .inl (sr_fl v n j F)))]) H → va_D A ([(a, .inl (cI, N, .inl (sr_fl v n j F)))]) → va_S A s.heap H locs → lv_has ls 4 [(0, .ref a), (1, .int v), (2, .int i'), (3, .int (nI N))] → W p l e { frames := 0, cells := 0, slots := 0, locals := 0 } s m args below meth c H locs 0 0 Q (F0 m 20 ls [])) →
      W p l e { frames := 0, cells := 0, slots := 0, locals := 0 } s m args below meth c H locs 0 0 Q (F0 m 5 ls []) := by
  intro n
  induction n with
  | zero =>
    intro j F H locs ls hst hP hD hS hl kk
    refine lv_iload_n hx hb dJ_fill_5 rfl (lv_at hl 2 rfl) ?_
    refine lv_iload_n hx hb dJ_fill_6 rfl (lv_at hl 3 rfl) ?_
    refine lv_icmp_ge (tgt := 20) hx hb dJ_fill_7 (by decide) (fun _ => ?_) (fun z => absurd (nI_le (by omega) (by omega)) z)
    exact kk (nI j) _ _ _ hP hD hS (lv_sub hl [0, 1, 2, 3] rfl)
  | succ n ih =>
    intro j F H locs ls hst hP hD hS hl kk
    refine lv_iload_n hx hb dJ_fill_5 rfl (lv_at hl 2 rfl) ?_
    refine lv_iload_n hx hb dJ_fill_6 rfl (lv_at hl 3 rfl) ?_
    refine lv_icmp_ge (tgt := 20) hx hb dJ_fill_7 (by decide) (fun z => absurd z (nI_ge (by omega) (by omega))) (fun _ => ?_)
    refine lv_aload_n hx hb dJ_fill_10 rfl (lv_at hl 0 rfl) ?_
    refine lv_iload_n hx hb dJ_fill_11 rfl (lv_at hl 2 rfl) ?_
    refine lv_iload_n hx hb dJ_fill_12 rfl (lv_at hl 1 rfl) ?_
    refine sy_iast (j := j) hx hb hK hP hD hS 0 0 rfl rfl (by omega) (by omega) dJ_fill_13 (fun H locs hP hD hS => ?_)
    have hP : va_P D vwC ([(a, .inl (cI, N, .inl (upd F j v)))]) H := hP
    have hD : va_D A ([(a, .inl (cI, N, .inl (upd F j v)))]) := hD
    refine lv_iinc (v := nI (j + 1)) (lv' := [(2, .int (nI (j + 1))), (0, .ref a), (1, .int v), (3, .int (nI N))]) hx hb dJ_fill_14 hl (k := 2) rfl (nI_1 j) (by decide) rfl (fun ls hl => ?_)
    refine lv_goto (tgt := 5) hx hb dJ_fill_17 (by decide) ?_
    exact ih (j + 1) (upd F j v) _ _ _ (by omega) hP hD hS (lv_sub hl [1, 2, 0, 3] rfl) kk

set_option maxHeartbeats 4000000 in
set_option maxRecDepth 100000 in
theorem ct_J_fill (l : Launch) (D : va_G) (a : Nat) (cI : ClassId) (N : Nat) (F : Nat → Int32) (sz : Nat) (v : Int32) (hN : N < 2 ^ 31) : sy_Mv l yJ_fill (Cond.code yJ_fill bJ_fill 4 none :: sr_big) { frames := 0, cells := 0, slots := 0, locals := 0 } D vwC [(cI, .int)] [.ref a, .int v] ([(a, .inl (cI, N, .inl F))]) sz [(a, .inl (cI, N, .inl (sr_fl v N 0 F)))] 0 0 := by
  refine Met.ofW (cc := bJ_fill) (maxL := 4) (ret := none) (by decide) rfl ?_
  intro p e s m args below meth c s₁ B hml hv
  obtain ⟨rfl, hsz, hP, hK, hD0⟩ := hv
  have hx := B.exec
  have hb := B.bytes
  have hr := B.returns
  have hbg : ∀ w ∈ sr_big, w.before _ s = true := fun w h => atoms_spec (ws := Cond.code yJ_fill bJ_fill 4 none :: sr_big) B.pre w (List.mem_cons_of_mem _ h)
  have hown : s.vm.findClass RJ = some m.cls := findClass_of_methodNamed B.named
  have hlocks := B.notSynchronized
  subst hsz
  have hD := hD0.self (sz := s.heap.size)
  generalize hAe : va_A ([(a, .inl (cI, N, .inl F))]) s.heap.size = A at *
  have hA : ∀ q : Nat, s.heap.size ≤ q → A q := fun q h => by rw [← hAe]; exact Or.inr h
  have hS : va_S A s.heap s.heap [] := va_S.rf
  have hl := lv_entry ([.ref a, .int v]) (n := 4) (Nat.le_of_ble_eq_true rfl)
  rw [lg_entry_eq]
  generalize (lg_sl ([.ref a, .int v]) ++ List.replicate (4 - (lg_sl ([.ref a, .int v])).length) Slot.unset).toArray = ls at hl ⊢
  have hl : lv_has ls 4 [(0, .ref a), (1, .int v)] := hl
  refine lv_iconst (v := 0) hx hb dJ_fill_0 (by decide) ?_
  refine lv_istore_n (lv' := [(2, .int 0), (0, .ref a), (1, .int v)]) hx hb dJ_fill_1 rfl hl (by decide) rfl (fun ls hl => ?_)
  refine lv_aload_n hx hb dJ_fill_2 rfl (lv_at hl 1 rfl) ?_
  refine va_alen hx hb hK hP 0 0 rfl rfl (v := nI N) rfl dJ_fill_3 ?_
  refine lv_istore_n (lv' := [(3, .int (nI N)), (2, .int 0), (0, .ref a), (1, .int v)]) hx hb dJ_fill_4 rfl hl (by decide) rfl (fun ls hl => ?_)
  refine lp_J_fill hx hb hml hown hbg hK hA hN N 0 F _ _ _ (by simp) hP hD hS (lv_sub hl [2, 3, 1, 0] rfl) ?_
  intro i' H locs ls hP hD hS hl
  refine W.widen (k := 0) (n := 0) (Nat.le_of_ble_eq_true rfl) (Nat.le_of_ble_eq_true rfl) ?_
  exact W.vret hx hb hr (fun t ht hW => ⟨⟨(), rfl, trivial, by rw [ht]; exact hP, va_K.moved hW.alike hK, hD⟩, hS.F ht⟩) hS.2.2 dJ_fill_20

end JF

set_option maxHeartbeats 4000000 in
set_option maxRecDepth 100000 in
theorem ct_X_forgetAll (l : Launch) (D : va_G) (h rr cc : Nat) (cI : ClassId) (N : Nat) (R C : Nat → Int32) (li us ob sl go gi fr la re : Int32) (sz : Nat) (hN : N < 2 ^ 31) : sy_Mv l yX_forgetAll (Cond.code yX_forgetAll bX_forgetAll 1 none :: sr_big) { frames := 1, cells := 0, slots := 0, locals := 23 } D vwC [(cI, .int)] [.ref h] (wX h rr cc cI N R C li us ob sl go gi fr la re) sz (wX h rr cc cI N (sr_fl 0 16 0 R) C li 0 0 0 0 0 fr la re) 0 0 := by
  refine Met.ofW (cc := bX_forgetAll) (maxL := 1) (ret := none) (by decide) rfl ?_
  intro p e s m args below meth c s₁ B hml hv
  obtain ⟨rfl, hsz, hP, hK, hD0⟩ := hv
  have hx := B.exec
  have hb := B.bytes
  have hr := B.returns
  have hbg : ∀ w ∈ sr_big, w.before _ s = true := fun w h => atoms_spec (ws := Cond.code yX_forgetAll bX_forgetAll 1 none :: sr_big) B.pre w (List.mem_cons_of_mem _ h)
  have hown : s.vm.findClass RX = some m.cls := findClass_of_methodNamed B.named
  have hlocks := B.notSynchronized
  subst hsz
  have hD := hD0.self (sz := s.heap.size)
  generalize hAe : va_A (wX h rr cc cI N R C li us ob sl go gi fr la re) s.heap.size = A at *
  have hA : ∀ q : Nat, s.heap.size ≤ q → A q := fun q h => by rw [← hAe]; exact Or.inr h
  have hS : va_S A s.heap s.heap [] := va_S.rf
  have hl := lv_entry ([.ref h]) (n := 1) (Nat.le_of_ble_eq_true rfl)
  rw [lg_entry_eq]
  generalize (lg_sl ([.ref h]) ++ List.replicate (1 - (lg_sl ([.ref h])).length) Slot.unset).toArray = ls at hl ⊢
  have hl : lv_has ls 1 [(0, .ref h)] := hl
  refine lv_aload_n hx hb dX_forgetAll_0 rfl (lv_at hl 0 rfl) ?_
  refine va_get (D := D) (ci := 0) (v := .ref rr) (C := RX) (T := TX) (N := 11) hx hb hbg bg_X hown hK hP 0 rfl rfl 0 (by decide) (hbg _ bw_51) (fun _ h9 => h9) rfl dX_forgetAll_1 ?_
  refine lv_iconst (v := 0) hx hb dX_forgetAll_4 (by decide) ?_
  refine sy_cSv (wc := [(rr, .inl (cI, 16, .inl R))]) (wr := [(h, .inr (0, [.ref rr, .ref cc, .int li, .int us, .int ob, .int sl, .int go, .int gi, .int fr, .int la, .int re])), (cc, .inl (cI, N, .inl C))]) (w1 := [(rr, .inl (cI, 16, .inl (sr_fl 0 16 0 R)))]) (As := [.ref rr, .int 0]) (rest := []) ⟨hx, hb, hml, hown, hbg⟩ (ct_J_fill l D rr cI 16 R s.heap.size 0 (by decide)) (va_cwS 2 hbg (bg_SS bw_186 bw_187 bw_40 bw_188) rfl rfl rfl (by decide +kernel) ⟨Nat.le_of_ble_eq_true rfl, Nat.le_of_ble_eq_true rfl⟩) hK [0] rfl hP hD hS hA [1] [0, 2] rfl rfl rfl rfl (by decide) rfl hl.1 rfl (Nat.le_of_ble_eq_true rfl) dX_forgetAll_5 ⟨Nat.le_of_ble_eq_true rfl, Nat.le_of_ble_eq_true rfl⟩ (fun H locs hP hD hS => ?_)
  have hP : va_P D vwC (wX h rr cc cI N (sr_fl 0 16 0 R) C li us ob sl go gi fr la re) H := hP.sub [0, 2, 1] rfl
  have hD : va_D A (wX h rr cc cI N (sr_fl 0 16 0 R) C li us ob sl go gi fr la re) := hD.sub [0, 2, 1] (by decide) rfl
  refine lv_aload_n hx hb dX_forgetAll_8 rfl (lv_at hl 0 rfl) ?_
  refine lv_iconst (v := 0) hx hb dX_forgetAll_9 (by decide) ?_
  refine va_put (D := D) (ci := 0) (v := .int 0) (ty := .int) (C := RX) (T := TX) (N := 11) hx hb hbg bg_X tX tX_ok nX hown hK hP hD hS 0 rfl rfl 3 (by decide) (hbg _ bw_54) (fun _ h9 => h9) rfl (by decide +kernel) rfl rfl (Nat.le_of_ble_eq_true rfl) dX_forgetAll_10 (fun H locs hP hD hS => ?_)
  have hP : va_P D vwC (wX h rr cc cI N (sr_fl 0 16 0 R) C li 0 ob sl go gi fr la re) H := hP
  have hD : va_D A (wX h rr cc cI N (sr_fl 0 16 0 R) C li 0 ob sl go gi fr la re) := hD
  refine lv_aload_n hx hb dX_forgetAll_13 rfl (lv_at hl 0 rfl) ?_
  refine lv_iconst (v := 0) hx hb dX_forgetAll_14 (by decide) ?_
  refine va_put (D := D) (ci := 0) (v := .int 0) (ty := .int) (C := RX) (T := TX) (N := 11) hx hb hbg bg_X tX tX_ok nX hown hK hP hD hS 0 rfl rfl 4 (by decide) (hbg _ bw_55) (fun _ h9 => h9) rfl (by decide +kernel) rfl rfl (Nat.le_of_ble_eq_true rfl) dX_forgetAll_15 (fun H locs hP hD hS => ?_)
  have hP : va_P D vwC (wX h rr cc cI N (sr_fl 0 16 0 R) C li 0 0 sl go gi fr la re) H := hP
  have hD : va_D A (wX h rr cc cI N (sr_fl 0 16 0 R) C li 0 0 sl go gi fr la re) := hD
  refine lv_aload_n hx hb dX_forgetAll_18 rfl (lv_at hl 0 rfl) ?_
  refine lv_iconst (v := 0) hx hb dX_forgetAll_19 (by decide) ?_
  refine va_put (D := D) (ci := 0) (v := .int 0) (ty := .int) (C := RX) (T := TX) (N := 11) hx hb hbg bg_X tX tX_ok nX hown hK hP hD hS 0 rfl rfl 5 (by decide) (hbg _ bw_56) (fun _ h9 => h9) rfl (by decide +kernel) rfl rfl (Nat.le_of_ble_eq_true rfl) dX_forgetAll_20 (fun H locs hP hD hS => ?_)
  have hP : va_P D vwC (wX h rr cc cI N (sr_fl 0 16 0 R) C li 0 0 0 go gi fr la re) H := hP
  have hD : va_D A (wX h rr cc cI N (sr_fl 0 16 0 R) C li 0 0 0 go gi fr la re) := hD
  refine lv_aload_n hx hb dX_forgetAll_23 rfl (lv_at hl 0 rfl) ?_
  refine lv_iconst (v := 0) hx hb dX_forgetAll_24 (by decide) ?_
  refine va_put (D := D) (ci := 0) (v := .int 0) (ty := .int) (C := RX) (T := TX) (N := 11) hx hb hbg bg_X tX tX_ok nX hown hK hP hD hS 0 rfl rfl 6 (by decide) (hbg _ bw_57) (fun _ h9 => h9) rfl (by decide +kernel) rfl rfl (Nat.le_of_ble_eq_true rfl) dX_forgetAll_25 (fun H locs hP hD hS => ?_)
  have hP : va_P D vwC (wX h rr cc cI N (sr_fl 0 16 0 R) C li 0 0 0 0 gi fr la re) H := hP
  have hD : va_D A (wX h rr cc cI N (sr_fl 0 16 0 R) C li 0 0 0 0 gi fr la re) := hD
  refine lv_aload_n hx hb dX_forgetAll_28 rfl (lv_at hl 0 rfl) ?_
  refine lv_iconst (v := 0) hx hb dX_forgetAll_29 (by decide) ?_
  refine va_put (D := D) (ci := 0) (v := .int 0) (ty := .int) (C := RX) (T := TX) (N := 11) hx hb hbg bg_X tX tX_ok nX hown hK hP hD hS 0 rfl rfl 7 (by decide) (hbg _ bw_58) (fun _ h9 => h9) rfl (by decide +kernel) rfl rfl (Nat.le_of_ble_eq_true rfl) dX_forgetAll_30 (fun H locs hP hD hS => ?_)
  have hP : va_P D vwC (wX h rr cc cI N (sr_fl 0 16 0 R) C li 0 0 0 0 0 fr la re) H := hP
  have hD : va_D A (wX h rr cc cI N (sr_fl 0 16 0 R) C li 0 0 0 0 0 fr la re) := hD
  refine W.widen (k := 0) (n := 0) (Nat.le_of_ble_eq_true rfl) (Nat.le_of_ble_eq_true rfl) ?_
  exact W.vret hx hb hr (fun t ht hW => ⟨⟨(), rfl, trivial, by rw [ht]; exact hP, va_K.moved hW.alike hK, hD⟩, hS.F ht⟩) hS.2.2 dX_forgetAll_33

set_option maxHeartbeats 4000000 in
set_option maxRecDepth 100000 in
theorem ct_X_space_k1 (l : Launch) (D : va_G) (h rr cc : Nat) (cI : ClassId) (N : Nat) (R C : Nat → Int32) (li us ob sl go gi fr la re : Int32) (sz : Nat) (x : Int32) (hN : N < 2 ^ 31) (h1 : ¬ x < 16) (h2 : x ≤ 16384) (h3 : x < nI N) : sy_Mi l yX_space (Cond.code yX_space bX_space 3 (some .int) :: sr_big) { frames := 6, cells := 0, slots := 0, locals := 90 } D vwC [(cI, .int)] [.ref h, .int x] (wX h rr cc cI N R C li us ob sl go gi fr la re) sz li (wX h rr cc cI N (sr_fl 0 16 0 R) C x 0 0 0 0 0 fr la re) 0 0 := by
  refine Met.ofW (cc := bX_space) (maxL := 3) (ret := (some .int)) (by decide) rfl ?_
  intro p e s m args below meth c s₁ B hml hv
  obtain ⟨rfl, hsz, hP, hK, hD0⟩ := hv
  have hx := B.exec
  have hb := B.bytes
  have hr := B.returns
  have hbg : ∀ w ∈ sr_big, w.before _ s = true := fun w h => atoms_spec (ws := Cond.code yX_space bX_space 3 (some .int) :: sr_big) B.pre w (List.mem_cons_of_mem _ h)
  have hown : s.vm.findClass RX = some m.cls := findClass_of_methodNamed B.named
  have hlocks := B.notSynchronized
  subst hsz
  have hD := hD0.self (sz := s.heap.size)
  generalize hAe : va_A (wX h rr cc cI N R C li us ob sl go gi fr la re) s.heap.size = A at *
  have hA : ∀ q : Nat, s.heap.size ≤ q → A q := fun q h => by rw [← hAe]; exact Or.inr h
  have hS : va_S A s.heap s.heap [] := va_S.rf
  have hl := lv_entry ([.ref h, .int x]) (n := 3) (Nat.le_of_ble_eq_true rfl)
  rw [lg_entry_eq]
  generalize (lg_sl ([.ref h, .int x]) ++ List.replicate (3 - (lg_sl ([.ref h, .int x])).length) Slot.unset).toArray = ls at hl ⊢
  have hl : lv_has ls 3 [(0, .ref h), (1, .int x)] := hl
  refine lv_iload_n hx hb dX_space_0 rfl (lv_at hl 1 rfl) ?_
  refine lv_bipush (v := 16) hx hb dX_space_1 (by decide) ?_
  refine lv_icmp_lt (tgt := 13) hx hb dX_space_3 (by decide) (fun z => absurd z h1) (fun _ => ?_)
  refine lv_iload_n hx hb dX_space_6 rfl (lv_at hl 1 rfl) ?_
  refine lv_sipush (v := 16384) hx hb dX_space_7 (by decide) ?_
  refine lv_icmp_le (tgt := 23) hx hb dX_space_10 (by decide) (fun _ => ?_) (fun z => absurd h2 z)
  refine lv_aload_n hx hb dX_space_23 rfl (lv_at hl 0 rfl) ?_
  refine va_get (D := D) (ci := 0) (v := .int li) (C := RX) (T := TX) (N := 11) hx hb hbg bg_X hown hK hP 0 rfl rfl 2 (by decide) (hbg _ bw_53) (fun _ h9 => h9) rfl dX_space_24 ?_
  refine lv_istore_n (lv' := [(2, .int li), (0, .ref h), (1, .int x)]) hx hb dX_space_27 rfl hl (by decide) rfl (fun ls hl => ?_)
  refine lv_iload_n hx hb dX_space_28 rfl (lv_at hl 2 rfl) ?_
  refine lv_aload_n hx hb dX_space_29 rfl (lv_at hl 1 rfl) ?_
  refine va_get (D := D) (ci := 0) (v := .ref cc) (C := RX) (T := TX) (N := 11) hx hb hbg bg_X hown hK hP 0 rfl rfl 1 (by decide) (hbg _ bw_52) (fun _ h9 => h9) rfl dX_space_30 ?_
  refine va_alen hx hb hK hP 2 0 rfl rfl (v := nI N) rfl dX_space_33 ?_
  refine lv_icmp_lt (tgt := 46) hx hb dX_space_34 (by decide) (fun _ => ?_) (fun z => absurd h3 z)
  refine lv_aload_n hx hb dX_space_46 rfl (lv_at hl 1 rfl) ?_
  refine lv_iload_n hx hb dX_space_47 rfl (lv_at hl 2 rfl) ?_
  refine va_put (D := D) (ci := 0) (v := .int x) (ty := .int) (C := RX) (T := TX) (N := 11) hx hb hbg bg_X tX tX_ok nX hown hK hP hD hS 0 rfl rfl 2 (by decide) (hbg _ bw_53) (fun _ h9 => h9) rfl (by decide +kernel) rfl rfl (Nat.le_of_ble_eq_true rfl) dX_space_48 (fun H locs hP hD hS => ?_)
  have hP : va_P D vwC (wX h rr cc cI N R C x us ob sl go gi fr la re) H := hP
  have hD : va_D A (wX h rr cc cI N R C x us ob sl go gi fr la re) := hD
  refine lv_aload_n hx hb dX_space_51 rfl (lv_at hl 1 rfl) ?_
  refine sy_cVv (wc := wX h rr cc cI N R C x us ob sl go gi fr la re) (wr := []) (w1 := wX h rr cc cI N (sr_fl 0 16 0 R) C x 0 0 0 0 0 fr la re) (ci := 0) (q0 := 0) (As := []) (rest := []) ⟨hx, hb, hml, hown, hbg⟩ (ct_X_forgetAll l D h rr cc cI N R C x us ob sl go gi fr la re H.size  hN) (cwV 0 hbg (bg_V bw_183 bw_184 bw_15 bw_34 bw_185) rfl rfl rfl (by decide +kernel) ⟨Nat.le_of_ble_eq_true rfl, Nat.le_of_ble_eq_true rfl⟩) hK [0] rfl hP hD hS hA [0, 1, 2] [] rfl rfl rfl rfl (by decide) rfl rfl rfl hl.1 rfl (Nat.le_of_ble_eq_true rfl) dX_space_52 ⟨Nat.le_of_ble_eq_true rfl, Nat.le_of_ble_eq_true rfl⟩ (fun H locs hP hD hS => ?_)
  have hP : va_P D vwC (wX h rr cc cI N (sr_fl 0 16 0 R) C x 0 0 0 0 0 fr la re) H := hP
  have hD : va_D A (wX h rr cc cI N (sr_fl 0 16 0 R) C x 0 0 0 0 0 fr la re) := hD
  refine lv_iload_n hx hb dX_space_55 rfl (lv_at hl 0 rfl) ?_
  refine W.widen (k := 0) (n := 0) (Nat.le_of_ble_eq_true rfl) (Nat.le_of_ble_eq_true rfl) ?_
  exact W.iret (v := li) hx hb hr (fun t ht hW => ⟨⟨li, (), rfl, rfl, by rw [ht]; exact hP, va_K.moved hW.alike hK, hD⟩, hS.F ht⟩) hS.2.2 dX_space_56

set_option maxHeartbeats 4000000 in
set_option maxRecDepth 100000 in
theorem ct_X_space_b (l : Launch) (D : va_G) (h rr cc : Nat) (cI : ClassId) (N : Nat) (R C : Nat → Int32) (li us ob sl go gi fr la re : Int32) (sz : Nat) (x : Int32) (hN : N < 2 ^ 31) (hst : l.stackTraces = false) (hg : x < 16 ∨ ¬ x ≤ 16384) : sy_Mx l yX_space (Cond.code yX_space bX_space 3 (some .int) :: sr_big) { frames := 6, cells := 1, slots := 6, locals := 90 } D vwC [(cI, .int)] [.ref h, .int x] (wX h rr cc cI N R C li us ob sl go gi fr la re) sz sx_IAE 1 6 := by
  refine vx_ofW (cc := bX_space) (maxL := 3) (ret := (some .int)) (by decide) rfl ?_
  intro p e s m args below meth c s₁ B hml htab hv
  obtain ⟨rfl, ⟨hsz, hP, hK, hD0⟩, hG⟩ := hv
  have hx := B.exec
  have hb := B.bytes
  have hr := B.returns
  have hbg : ∀ w ∈ sr_big, w.before _ s = true := fun w h => atoms_spec (ws := Cond.code yX_space bX_space 3 (some .int) :: sr_big) B.pre w (List.mem_cons_of_mem _ h)
  have hown : s.vm.findClass RX = some m.cls := findClass_of_methodNamed B.named
  have hlocks := B.notSynchronized
  subst hsz
  have hD := hD0.self (sz := s.heap.size)
  generalize hAe : va_A (wX h rr cc cI N R C li us ob sl go gi fr la re) s.heap.size = A at *
  have hA : ∀ q : Nat, s.heap.size ≤ q → A q := fun q h => by rw [← hAe]; exact Or.inr h
  have hS : va_S A s.heap s.heap [] := va_S.rf
  have hl := lv_entry ([.ref h, .int x]) (n := 3) (Nat.le_of_ble_eq_true rfl)
  rw [lg_entry_eq]
  generalize (lg_sl ([.ref h, .int x]) ++ List.replicate (3 - (lg_sl ([.ref h, .int x])).length) Slot.unset).toArray = ls at hl ⊢
  have hl : lv_has ls 3 [(0, .ref h), (1, .int x)] := hl
  refine lv_iload_n hx hb dX_space_0 rfl (lv_at hl 1 rfl) ?_
  refine lv_bipush (v := 16) hx hb dX_space_1 (by decide) ?_
  refine lv_icmp_lt (tgt := 13) hx hb dX_space_3 (by decide) (fun c_3 => ?_) (fun c_3 => ?_)
  · exact sy_throw (E := sx_IAE) (text := "n is not 16 .. 16384") (Or.inl ⟨rfl, rfl, rfl, rfl, rfl⟩) hx hb hst hown hbg (by decide) hG hP hK hD hS (hl.1.trans hml.symm) dX_space_13 dX_space_16 dX_space_17 dX_space_19 dX_space_22 htab (Nat.le_of_ble_eq_true rfl) (Nat.le_of_ble_eq_true rfl) (Nat.le_of_ble_eq_true rfl) (Nat.le_of_ble_eq_true rfl) hlocks (Nat.le_of_ble_eq_true rfl) (Nat.le_of_ble_eq_true rfl)
  · refine lv_iload_n hx hb dX_space_6 rfl (lv_at hl 1 rfl) ?_
    refine lv_sipush (v := 16384) hx hb dX_space_7 (by decide) ?_
    refine lv_icmp_le (tgt := 23) hx hb dX_space_10 (by decide) (fun z => absurd z (hg.resolve_left c_3)) (fun _ => ?_)
    exact sy_throw (E := sx_IAE) (text := "n is not 16 .. 16384") (Or.inl ⟨rfl, rfl, rfl, rfl, rfl⟩) hx hb hst hown hbg (by decide) hG hP hK hD hS (hl.1.trans hml.symm) dX_space_13 dX_space_16 dX_space_17 dX_space_19 dX_space_22 htab (Nat.le_of_ble_eq_true rfl) (Nat.le_of_ble_eq_true rfl) (Nat.le_of_ble_eq_true rfl) (Nat.le_of_ble_eq_true rfl) hlocks (Nat.le_of_ble_eq_true rfl) (Nat.le_of_ble_eq_true rfl)

set_option maxHeartbeats 4000000 in
set_option maxRecDepth 100000 in
theorem ct_X_space_k2 (l : Launch) (D : va_G) (h rr cc : Nat) (cI : ClassId) (N : Nat) (R C : Nat → Int32) (li us ob sl go gi fr la re : Int32) (sz : Nat) (x : Int32) (hN : N < 2 ^ 31) (h1 : ¬ x < 16) (h2 : x ≤ 16384) (h3 : ¬ x < nI N) : sy_Me l yX_space (Cond.code yX_space bX_space 3 (some .int) :: sr_big) { frames := 6, cells := 1, slots := 16385, locals := 90 } D vwC [(cI, .int)] [.ref h, .int x] (wX h rr cc cI N R C li us ob sl go gi fr la re) sz li (fun q => wX h rr q cI 16385 (sr_fl 0 16 0 R) (fun _ => 0) x 0 0 0 0 0 fr la re) 1 16385 := by
  refine Met.ofW (cc := bX_space) (maxL := 3) (ret := (some .int)) (by decide) rfl ?_
  intro p e s m args below meth c s₁ B hml hv
  obtain ⟨rfl, hsz, hP, hK, hD0⟩ := hv
  have hx := B.exec
  have hb := B.bytes
  have hr := B.returns
  have hbg : ∀ w ∈ sr_big, w.before _ s = true := fun w h => atoms_spec (ws := Cond.code yX_space bX_space 3 (some .int) :: sr_big) B.pre w (List.mem_cons_of_mem _ h)
  have hown : s.vm.findClass RX = some m.cls := findClass_of_methodNamed B.named
  have hlocks := B.notSynchronized
  subst hsz
  have hD := hD0.self (sz := s.heap.size)
  generalize hAe : va_A (wX h rr cc cI N R C li us ob sl go gi fr la re) s.heap.size = A at *
  have hA : ∀ q : Nat, s.heap.size ≤ q → A q := fun q h => by rw [← hAe]; exact Or.inr h
  have hS : va_S A s.heap s.heap [] := va_S.rf
  have hl := lv_entry ([.ref h, .int x]) (n := 3) (Nat.le_of_ble_eq_true rfl)
  rw [lg_entry_eq]
  generalize (lg_sl ([.ref h, .int x]) ++ List.replicate (3 - (lg_sl ([.ref h, .int x])).length) Slot.unset).toArray = ls at hl ⊢
  have hl : lv_has ls 3 [(0, .ref h), (1, .int x)] := hl
  refine lv_iload_n hx hb dX_space_0 rfl (lv_at hl 1 rfl) ?_
  refine lv_bipush (v := 16) hx hb dX_space_1 (by decide) ?_
  refine lv_icmp_lt (tgt := 13) hx hb dX_space_3 (by decide) (fun z => absurd z h1) (fun _ => ?_)
  refine lv_iload_n hx hb dX_space_6 rfl (lv_at hl 1 rfl) ?_
  refine lv_sipush (v := 16384) hx hb dX_space_7 (by decide) ?_
  refine lv_icmp_le (tgt := 23) hx hb dX_space_10 (by decide) (fun _ => ?_) (fun z => absurd h2 z)
  refine lv_aload_n hx hb dX_space_23 rfl (lv_at hl 0 rfl) ?_
  refine va_get (D := D) (ci := 0) (v := .int li) (C := RX) (T := TX) (N := 11) hx hb hbg bg_X hown hK hP 0 rfl rfl 2 (by decide) (hbg _ bw_53) (fun _ h9 => h9) rfl dX_space_24 ?_
  refine lv_istore_n (lv' := [(2, .int li), (0, .ref h), (1, .int x)]) hx hb dX_space_27 rfl hl (by decide) rfl (fun ls hl => ?_)
  refine lv_iload_n hx hb dX_space_28 rfl (lv_at hl 2 rfl) ?_
  refine lv_aload_n hx hb dX_space_29 rfl (lv_at hl 1 rfl) ?_
  refine va_get (D := D) (ci := 0) (v := .ref cc) (C := RX) (T := TX) (N := 11) hx hb hbg bg_X hown hK hP 0 rfl rfl 1 (by decide) (hbg _ bw_52) (fun _ h9 => h9) rfl dX_space_30 ?_
  refine va_alen hx hb hK hP 2 0 rfl rfl (v := nI N) rfl dX_space_33 ?_
  refine lv_icmp_lt (tgt := 46) hx hb dX_space_34 (by decide) (fun z => absurd z h3) (fun _ => ?_)
  refine lv_aload_n hx hb dX_space_37 rfl (lv_at hl 1 rfl) ?_
  refine lv_sipush (v := 16385) hx hb dX_space_38 (by decide) ?_
  refine va_newa (atype := .int) (ty := .int) (N' := 16385) (a0 := (16385, .inl (fun _ => 0))) hx hb (hbg _ bw_73) rfl hK hP hD hS hA (fun _ => rfl) (by decide) (by decide) (by decide) (Nat.le_of_ble_eq_true rfl) (Nat.le_of_ble_eq_true rfl) dX_space_41 (fun q cA H hK hP hD hS => ?_)
  obtain rfl : cI = cA := Option.some.inj ((hK.2 0 _ rfl).2.symm.trans (hK.2 1 _ rfl).2)
  have hK : va_K D vwC [(cI, .int)] s := hK.sub [0] rfl
  refine va_put (D := D) (ci := 0) (v := .ref q) (ty := .array .int) (C := RX) (T := TX) (N := 11) hx hb hbg bg_X tX tX_ok nX hown hK hP hD hS 0 rfl rfl 1 (by decide) (hbg _ bw_52) (fun _ h9 => h9) rfl (by decide +kernel) rfl rfl (Nat.le_of_ble_eq_true rfl) dX_space_43 (fun H locs hP hD hS => ?_)
  have hP : va_P D vwC (wX h rr q cI 16385 R (fun _ => 0) li us ob sl go gi fr la re) H := hP.sub [0, 1, 3] rfl
  have hD : va_D A (wX h rr q cI 16385 R (fun _ => 0) li us ob sl go gi fr la re) := hD.sub [0, 1, 3] (by decide) rfl
  have hN : 16385 < 2 ^ 31 := by decide
  refine lv_aload_n hx hb dX_space_46 rfl (lv_at hl 1 rfl) ?_
  refine lv_iload_n hx hb dX_space_47 rfl (lv_at hl 2 rfl) ?_
  refine va_put (D := D) (ci := 0) (v := .int x) (ty := .int) (C := RX) (T := TX) (N := 11) hx hb hbg bg_X tX tX_ok nX hown hK hP hD hS 0 rfl rfl 2 (by decide) (hbg _ bw_53) (fun _ h9 => h9) rfl (by decide +kernel) rfl rfl (Nat.le_of_ble_eq_true rfl) dX_space_48 (fun H locs hP hD hS => ?_)
  have hP : va_P D vwC (wX h rr q cI 16385 R (fun _ => 0) x us ob sl go gi fr la re) H := hP
  have hD : va_D A (wX h rr q cI 16385 R (fun _ => 0) x us ob sl go gi fr la re) := hD
  refine lv_aload_n hx hb dX_space_51 rfl (lv_at hl 1 rfl) ?_
  refine sy_cVv (wc := wX h rr q cI 16385 R (fun _ => 0) x us ob sl go gi fr la re) (wr := []) (w1 := wX h rr q cI 16385 (sr_fl 0 16 0 R) (fun _ => 0) x 0 0 0 0 0 fr la re) (ci := 0) (q0 := 0) (As := []) (rest := []) ⟨hx, hb, hml, hown, hbg⟩ (ct_X_forgetAll l D h rr q cI 16385 R (fun _ => 0) x us ob sl go gi fr la re H.size  hN) (cwV 0 hbg (bg_V bw_183 bw_184 bw_15 bw_34 bw_185) rfl rfl rfl (by decide +kernel) ⟨Nat.le_of_ble_eq_true rfl, Nat.le_of_ble_eq_true rfl⟩) hK [0] rfl hP hD hS hA [0, 1, 2] [] rfl rfl rfl rfl (by decide) rfl rfl rfl hl.1 rfl (Nat.le_of_ble_eq_true rfl) dX_space_52 ⟨Nat.le_of_ble_eq_true rfl, Nat.le_of_ble_eq_true rfl⟩ (fun H locs hP hD hS => ?_)
  have hP : va_P D vwC (wX h rr q cI 16385 (sr_fl 0 16 0 R) (fun _ => 0) x 0 0 0 0 0 fr la re) H := hP
  have hD : va_D A (wX h rr q cI 16385 (sr_fl 0 16 0 R) (fun _ => 0) x 0 0 0 0 0 fr la re) := hD
  refine lv_iload_n hx hb dX_space_55 rfl (lv_at hl 0 rfl) ?_
  refine W.widen (k := 1) (n := 16385) (Nat.le_of_ble_eq_true rfl) (Nat.le_of_ble_eq_true rfl) ?_
  exact W.iret (v := li) hx hb hr (fun t ht hW => ⟨⟨li, q, rfl, rfl, by rw [ht]; exact hP, va_K.moved hW.alike hK, hD⟩, hS.F ht⟩) hS.2.2 dX_space_56
