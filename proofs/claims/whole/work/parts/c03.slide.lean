/-! CONTRACTS OF SlideRow: what is reached, the slide (rows laid by wip/gen) -/
/-- redirectRoots, pure -/
def sr_rr (N : Nat) (C : Nat → Int32) : Nat → Nat → (Nat → Int32) → Nat → Int32
  | 0, _, R => R
  | n + 1, j, R => sr_rr N C n (j + 1) (upd R j (sr_po N C (R j)))
theorem sr_rr_eq {N : Nat} {C : Nat → Int32} : ∀ (n j : Nat) (R : Nat → Int32) (q : Nat), sr_rr N C n j R q = if j ≤ q ∧ q < j + n then sr_po N C (R q) else R q
  | 0, j, R, q => by rw [if_neg (by omega)]; rfl
  | n + 1, j, R, q => by
    show sr_rr N C n (j + 1) _ q = _
    rw [sr_rr_eq n (j + 1) _ q]
    by_cases h : q = j
    · rw [if_neg (by omega), if_pos (by omega), h, pk_us]
    · rw [pk_un h]
      by_cases h2 : j + 1 ≤ q ∧ q < j + 1 + n
      · rw [if_pos h2, if_pos (by omega)]
      · rw [if_neg h2, if_neg (by omega)]
/-- what moveCells has looked at keeps arraycopy within the row -/
theorem sr_mvH {N : Nat} {a b k : Int32} (hN : N < 2 ^ 31) (h1 : ¬ b < 1) (h2 : ¬ a ≤ b) (h3 : ¬ k ≤ 0) (h4 : ¬ nI N - a < k) : ¬ a < 0 ∧ ¬ b < 0 ∧ ¬ k < 0 ∧ a.toNatClampNeg + k.toNatClampNeg ≤ N ∧ b.toNatClampNeg + k.toNatClampNeg ≤ N := by
  have e1 : (1 : Int32).toInt = 1 := by decide
  have e0 : (0 : Int32).toInt = 0 := by decide
  have ea : a.toNatClampNeg = a.toInt.toNat := rfl
  have eb : b.toNatClampNeg = b.toInt.toNat := rfl
  have ek : k.toNatClampNeg = k.toInt.toNat := rfl
  have la := a.toInt_lt
  have lb := b.toInt_lt
  have lk := k.toInt_lt
  rw [Int32.lt_iff_toInt_lt, e1] at h1
  rw [Int32.le_iff_toInt_le] at h2
  rw [Int32.le_iff_toInt_le, e0] at h3
  rw [Int32.lt_iff_toInt_lt, Int32.toInt_sub, nI_toInt hN, Int.bmod_eq_of_le (by omega) (by omega)] at h4
  simp only [Int32.lt_iff_toInt_lt, e0]
  omega
section XM
variable {p : Program} {l : Launch} {e : Env} {s : State} {m : MethodId} {args : Array Value} {below : List Frame} {meth : Method} {c : Code} {Q : State → Prop} {A : Nat → Prop} {D : va_G} {h rr cc : Nat} {cI : ClassId} {N : Nat} {R : Nat → Int32} {li us ob sl go gi : Int32}

set_option maxHeartbeats 4000000 in
set_option maxRecDepth 100000 in
theorem ct_X_reach (l : Launch) (D : va_G) (h rr cc : Nat) (cI : ClassId) (N : Nat) (R C : Nat → Int32) (li us ob sl go gi fr la re : Int32) (sz : Nat) (a : Int32) (hN : N < 2 ^ 31) : sy_Mv l yX_reach (Cond.code yX_reach bX_reach 2 none :: sr_big) { frames := 1, cells := 0, slots := 0, locals := 22 } D vwC [(cI, .int)] [.ref h, .int a] (wX h rr cc cI N R C li us ob sl go gi fr la re) sz (wX h rr cc cI N R ((sr_rch N (C, fr, la, re) a).1) li us ob sl go gi ((sr_rch N (C, fr, la, re) a).2.1) ((sr_rch N (C, fr, la, re) a).2.2.1) ((sr_rch N (C, fr, la, re) a).2.2.2)) 0 0 := by
  refine Met.ofW (cc := bX_reach) (maxL := 2) (ret := none) (by decide) rfl ?_
  intro p e s m args below meth c s₁ B hml hv
  obtain ⟨rfl, hsz, hP, hK, hD0⟩ := hv
  have hx := B.exec
  have hb := B.bytes
  have hr := B.returns
  have hbg : ∀ w ∈ sr_big, w.before _ s = true := fun w h => atoms_spec (ws := Cond.code yX_reach bX_reach 2 none :: sr_big) B.pre w (List.mem_cons_of_mem _ h)
  have hown : s.vm.findClass RX = some m.cls := findClass_of_methodNamed B.named
  have hlocks := B.notSynchronized
  subst hsz
  have hD := hD0.self (sz := s.heap.size)
  generalize hAe : va_A (wX h rr cc cI N R C li us ob sl go gi fr la re) s.heap.size = A at *
  have hA : ∀ q : Nat, s.heap.size ≤ q → A q := fun q h => by rw [← hAe]; exact Or.inr h
  have hS : va_S A s.heap s.heap [] := va_S.rf
  have hl := lv_entry ([.ref h, .int a]) (n := 2) (Nat.le_of_ble_eq_true rfl)
  rw [lg_entry_eq]
  generalize (lg_sl ([.ref h, .int a]) ++ List.replicate (2 - (lg_sl ([.ref h, .int a])).length) Slot.unset).toArray = ls at hl ⊢
  have hl : lv_has ls 2 [(0, .ref h), (1, .int a)] := hl
  refine lv_iload_n hx hb dX_reach_0 rfl (lv_at hl 1 rfl) ?_
  refine lv_if_eq (tgt := 14) hx hb dX_reach_1 (by decide) (fun c_1 => ?_) (fun c_1 => ?_)
  · have eq : sr_rch N (C, fr, la, re) a = (C, fr, la, re) := by simp only [sr_rch, c_1, ↓reduceIte]
    rw [eq]
    refine W.widen (k := 0) (n := 0) (Nat.le_of_ble_eq_true rfl) (Nat.le_of_ble_eq_true rfl) ?_
    exact W.vret hx hb hr (fun t ht hW => ⟨⟨(), rfl, trivial, by rw [ht]; exact hP, va_K.moved hW.alike hK, hD⟩, hS.F ht⟩) hS.2.2 dX_reach_14
  · refine lv_aload_n hx hb dX_reach_4 rfl (lv_at hl 0 rfl) ?_
    refine lv_iload_n hx hb dX_reach_5 rfl (lv_at hl 1 rfl) ?_
    refine lv_iconst (v := 2) hx hb dX_reach_6 (by decide) ?_
    refine lv_iadd hx hb dX_reach_7 ?_
    refine sy_cVi (wc := wX h rr cc cI N R C li us ob sl go gi fr la re) (wr := []) (w1 := wX h rr cc cI N R C li us ob sl go gi fr la re) (ci := 0) (q0 := 0) (As := [.int (a + 2)]) (rest := []) ⟨hx, hb, hml, hown, hbg⟩ (ct_X_read l D h rr cc cI N R C li us ob sl go gi fr la re s.heap.size (a + 2) hN) (cwV 1 hbg (bg_V bw_90 bw_91 bw_4 bw_34 bw_92) rfl rfl rfl (by decide +kernel) ⟨Nat.le_of_ble_eq_true rfl, Nat.le_of_ble_eq_true rfl⟩) hK [0] rfl hP hD hS hA [0, 1, 2] [] rfl rfl rfl rfl (by decide) rfl rfl rfl hl.1 rfl (Nat.le_of_ble_eq_true rfl) dX_reach_8 ⟨Nat.le_of_ble_eq_true rfl, Nat.le_of_ble_eq_true rfl⟩ (fun H locs hP hD hS => ?_)
    have hP : va_P D vwC (wX h rr cc cI N R C li us ob sl go gi fr la re) H := hP
    have hD : va_D A (wX h rr cc cI N R C li us ob sl go gi fr la re) := hD
    refine lv_if_eq (tgt := 15) hx hb dX_reach_11 (by decide) (fun c_11 => ?_) (fun c_11 => ?_)
    · refine lv_aload_n hx hb dX_reach_15 rfl (lv_at hl 0 rfl) ?_
      refine lv_iload_n hx hb dX_reach_16 rfl (lv_at hl 1 rfl) ?_
      refine lv_iconst (v := 2) hx hb dX_reach_17 (by decide) ?_
      refine lv_iadd hx hb dX_reach_18 ?_
      refine lv_iconst (v := (-1)) hx hb dX_reach_19 (by decide) ?_
      refine sy_cVv (wc := wX h rr cc cI N R C li us ob sl go gi fr la re) (wr := []) (w1 := wX h rr cc cI N R (sr_wr N C (a + 2) (-1)) li us ob sl go gi fr la re) (ci := 0) (q0 := 0) (As := [.int (a + 2), .int (-1)]) (rest := []) ⟨hx, hb, hml, hown, hbg⟩ (ct_X_write l D h rr cc cI N R C li us ob sl go gi fr la re H.size (a + 2) (-1) hN) (cwV 2 hbg (bg_V bw_84 bw_85 bw_2 bw_34 bw_86) rfl rfl rfl (by decide +kernel) ⟨Nat.le_of_ble_eq_true rfl, Nat.le_of_ble_eq_true rfl⟩) hK [0] rfl hP hD hS hA [0, 1, 2] [] rfl rfl rfl rfl (by decide) rfl rfl rfl hl.1 rfl (Nat.le_of_ble_eq_true rfl) dX_reach_20 ⟨Nat.le_of_ble_eq_true rfl, Nat.le_of_ble_eq_true rfl⟩ (fun H locs hP hD hS => ?_)
      have hP : va_P D vwC (wX h rr cc cI N R (sr_wr N C (a + 2) (-1)) li us ob sl go gi fr la re) H := hP
      have hD : va_D A (wX h rr cc cI N R (sr_wr N C (a + 2) (-1)) li us ob sl go gi fr la re) := hD
      refine lv_aload_n hx hb dX_reach_23 rfl (lv_at hl 0 rfl) ?_
      refine va_get (D := D) (ci := 0) (v := .int fr) (C := RX) (T := TX) (N := 11) hx hb hbg bg_X hown hK hP 0 rfl rfl 8 (by decide) (hbg _ bw_59) (fun _ h9 => h9) rfl dX_reach_24 ?_
      refine lv_if_ne (tgt := 38) hx hb dX_reach_27 (by decide) (fun c_27 => ?_) (fun c_27 => ?_)
      · refine lv_aload_n hx hb dX_reach_38 rfl (lv_at hl 0 rfl) ?_
        refine lv_aload_n hx hb dX_reach_39 rfl (lv_at hl 0 rfl) ?_
        refine va_get (D := D) (ci := 0) (v := .int la) (C := RX) (T := TX) (N := 11) hx hb hbg bg_X hown hK hP 0 rfl rfl 9 (by decide) (hbg _ bw_60) (fun _ h9 => h9) rfl dX_reach_40 ?_
        refine lv_iconst (v := 2) hx hb dX_reach_43 (by decide) ?_
        refine lv_iadd hx hb dX_reach_44 ?_
        refine lv_iload_n hx hb dX_reach_45 rfl (lv_at hl 1 rfl) ?_
        refine sy_cVv (wc := wX h rr cc cI N R (sr_wr N C (a + 2) (-1)) li us ob sl go gi fr la re) (wr := []) (w1 := wX h rr cc cI N R (sr_wr N (sr_wr N C (a + 2) (-1)) (la + 2) a) li us ob sl go gi fr la re) (ci := 0) (q0 := 0) (As := [.int (la + 2), .int a]) (rest := []) ⟨hx, hb, hml, hown, hbg⟩ (ct_X_write l D h rr cc cI N R (sr_wr N C (a + 2) (-1)) li us ob sl go gi fr la re H.size (la + 2) a hN) (cwV 2 hbg (bg_V bw_84 bw_85 bw_2 bw_34 bw_86) rfl rfl rfl (by decide +kernel) ⟨Nat.le_of_ble_eq_true rfl, Nat.le_of_ble_eq_true rfl⟩) hK [0] rfl hP hD hS hA [0, 1, 2] [] rfl rfl rfl rfl (by decide) rfl rfl rfl hl.1 rfl (Nat.le_of_ble_eq_true rfl) dX_reach_46 ⟨Nat.le_of_ble_eq_true rfl, Nat.le_of_ble_eq_true rfl⟩ (fun H locs hP hD hS => ?_)
        have hP : va_P D vwC (wX h rr cc cI N R (sr_wr N (sr_wr N C (a + 2) (-1)) (la + 2) a) li us ob sl go gi fr la re) H := hP
        have hD : va_D A (wX h rr cc cI N R (sr_wr N (sr_wr N C (a + 2) (-1)) (la + 2) a) li us ob sl go gi fr la re) := hD
        refine lv_aload_n hx hb dX_reach_49 rfl (lv_at hl 0 rfl) ?_
        refine lv_iload_n hx hb dX_reach_50 rfl (lv_at hl 1 rfl) ?_
        refine va_put (D := D) (ci := 0) (v := .int a) (ty := .int) (C := RX) (T := TX) (N := 11) hx hb hbg bg_X tX tX_ok nX hown hK hP hD hS 0 rfl rfl 9 (by decide) (hbg _ bw_60) (fun _ h9 => h9) rfl (by decide +kernel) rfl rfl (Nat.le_of_ble_eq_true rfl) dX_reach_51 (fun H locs hP hD hS => ?_)
        have hP : va_P D vwC (wX h rr cc cI N R (sr_wr N (sr_wr N C (a + 2) (-1)) (la + 2) a) li us ob sl go gi fr a re) H := hP
        have hD : va_D A (wX h rr cc cI N R (sr_wr N (sr_wr N C (a + 2) (-1)) (la + 2) a) li us ob sl go gi fr a re) := hD
        refine lv_aload_n hx hb dX_reach_54 rfl (lv_at hl 0 rfl) ?_
        refine lv_dup hx hb dX_reach_55 rfl ?_
        refine va_get (D := D) (ci := 0) (v := .int re) (C := RX) (T := TX) (N := 11) hx hb hbg bg_X hown hK hP 0 rfl rfl 10 (by decide) (hbg _ bw_61) (fun _ h9 => h9) rfl dX_reach_56 ?_
        refine lv_iconst (v := 1) hx hb dX_reach_59 (by decide) ?_
        refine lv_iadd hx hb dX_reach_60 ?_
        refine va_put (D := D) (ci := 0) (v := .int (re + 1)) (ty := .int) (C := RX) (T := TX) (N := 11) hx hb hbg bg_X tX tX_ok nX hown hK hP hD hS 0 rfl rfl 10 (by decide) (hbg _ bw_61) (fun _ h9 => h9) rfl (by decide +kernel) rfl rfl (Nat.le_of_ble_eq_true rfl) dX_reach_61 (fun H locs hP hD hS => ?_)
        have hP : va_P D vwC (wX h rr cc cI N R (sr_wr N (sr_wr N C (a + 2) (-1)) (la + 2) a) li us ob sl go gi fr a (re + 1)) H := hP
        have hD : va_D A (wX h rr cc cI N R (sr_wr N (sr_wr N C (a + 2) (-1)) (la + 2) a) li us ob sl go gi fr a (re + 1)) := hD
        have eq : sr_rch N (C, fr, la, re) a = (sr_wr N (sr_wr N C (a + 2) (-1)) (la + 2) a, fr, a, re + 1) := by simp only [sr_rch, c_1, c_11, c_27, ↓reduceIte]
        rw [eq]
        refine W.widen (k := 0) (n := 0) (Nat.le_of_ble_eq_true rfl) (Nat.le_of_ble_eq_true rfl) ?_
        exact W.vret hx hb hr (fun t ht hW => ⟨⟨(), rfl, trivial, by rw [ht]; exact hP, va_K.moved hW.alike hK, hD⟩, hS.F ht⟩) hS.2.2 dX_reach_64
      · refine lv_aload_n hx hb dX_reach_30 rfl (lv_at hl 0 rfl) ?_
        refine lv_iload_n hx hb dX_reach_31 rfl (lv_at hl 1 rfl) ?_
        refine va_put (D := D) (ci := 0) (v := .int a) (ty := .int) (C := RX) (T := TX) (N := 11) hx hb hbg bg_X tX tX_ok nX hown hK hP hD hS 0 rfl rfl 8 (by decide) (hbg _ bw_59) (fun _ h9 => h9) rfl (by decide +kernel) rfl rfl (Nat.le_of_ble_eq_true rfl) dX_reach_32 (fun H locs hP hD hS => ?_)
        have hP : va_P D vwC (wX h rr cc cI N R (sr_wr N C (a + 2) (-1)) li us ob sl go gi a la re) H := hP
        have hD : va_D A (wX h rr cc cI N R (sr_wr N C (a + 2) (-1)) li us ob sl go gi a la re) := hD
        refine lv_goto (tgt := 49) hx hb dX_reach_35 (by decide) ?_
        refine lv_aload_n hx hb dX_reach_49 rfl (lv_at hl 0 rfl) ?_
        refine lv_iload_n hx hb dX_reach_50 rfl (lv_at hl 1 rfl) ?_
        refine va_put (D := D) (ci := 0) (v := .int a) (ty := .int) (C := RX) (T := TX) (N := 11) hx hb hbg bg_X tX tX_ok nX hown hK hP hD hS 0 rfl rfl 9 (by decide) (hbg _ bw_60) (fun _ h9 => h9) rfl (by decide +kernel) rfl rfl (Nat.le_of_ble_eq_true rfl) dX_reach_51 (fun H locs hP hD hS => ?_)
        have hP : va_P D vwC (wX h rr cc cI N R (sr_wr N C (a + 2) (-1)) li us ob sl go gi a a re) H := hP
        have hD : va_D A (wX h rr cc cI N R (sr_wr N C (a + 2) (-1)) li us ob sl go gi a a re) := hD
        refine lv_aload_n hx hb dX_reach_54 rfl (lv_at hl 0 rfl) ?_
        refine lv_dup hx hb dX_reach_55 rfl ?_
        refine va_get (D := D) (ci := 0) (v := .int re) (C := RX) (T := TX) (N := 11) hx hb hbg bg_X hown hK hP 0 rfl rfl 10 (by decide) (hbg _ bw_61) (fun _ h9 => h9) rfl dX_reach_56 ?_
        refine lv_iconst (v := 1) hx hb dX_reach_59 (by decide) ?_
        refine lv_iadd hx hb dX_reach_60 ?_
        refine va_put (D := D) (ci := 0) (v := .int (re + 1)) (ty := .int) (C := RX) (T := TX) (N := 11) hx hb hbg bg_X tX tX_ok nX hown hK hP hD hS 0 rfl rfl 10 (by decide) (hbg _ bw_61) (fun _ h9 => h9) rfl (by decide +kernel) rfl rfl (Nat.le_of_ble_eq_true rfl) dX_reach_61 (fun H locs hP hD hS => ?_)
        have hP : va_P D vwC (wX h rr cc cI N R (sr_wr N C (a + 2) (-1)) li us ob sl go gi a a (re + 1)) H := hP
        have hD : va_D A (wX h rr cc cI N R (sr_wr N C (a + 2) (-1)) li us ob sl go gi a a (re + 1)) := hD
        have eq : sr_rch N (C, fr, la, re) a = (sr_wr N C (a + 2) (-1), a, a, re + 1) := by simp only [sr_rch, c_1, c_11, c_27, ↓reduceIte]
        rw [eq]
        refine W.widen (k := 0) (n := 0) (Nat.le_of_ble_eq_true rfl) (Nat.le_of_ble_eq_true rfl) ?_
        exact W.vret hx hb hr (fun t ht hW => ⟨⟨(), rfl, trivial, by rw [ht]; exact hP, va_K.moved hW.alike hK, hD⟩, hS.F ht⟩) hS.2.2 dX_reach_64
    · have eq : sr_rch N (C, fr, la, re) a = (C, fr, la, re) := by simp only [sr_rch, c_1, c_11, ↓reduceIte]
      rw [eq]
      refine W.widen (k := 0) (n := 0) (Nat.le_of_ble_eq_true rfl) (Nat.le_of_ble_eq_true rfl) ?_
      exact W.vret hx hb hr (fun t ht hW => ⟨⟨(), rfl, trivial, by rw [ht]; exact hP, va_K.moved hW.alike hK, hD⟩, hS.F ht⟩) hS.2.2 dX_reach_14

set_option maxHeartbeats 4000000 in
set_option maxRecDepth 100000 in
theorem lp_X_reachFieldsOf {a k : Int32} (hx : p.tables.exec = Jvm.exec) (hb : c.code = bX_reachFieldsOf) (hml : c.maxLocals = 4) (hown : s.vm.findClass RX = some m.cls) (hbg : ∀ w ∈ sr_big, w.before args s = true) (hK : va_K D vwC [(cI, .int)] s) (hA : ∀ q : Nat, s.heap.size ≤ q → A q) (hN : N < 2 ^ 31) :
    ∀ (n j : Nat) (q : sr_Q) (H : Heap) (locs : List Loc) (ls : Array Slot), j + n = k.toNatClampNeg → va_P D vwC (wX h rr cc cI N R q.1 li us ob sl go gi q.2.1 q.2.2.1 q.2.2.2) H → va_D A (wX h rr cc cI N R q.1 li us ob sl go gi q.2.1 q.2.2.1 q.2.2.2) → va_S A s.heap H locs → lv_has ls 4 [(0, .ref h), (1, .int a), (2, .int k), (3, .int (nI j))] →
      (∀ (i' : Int32) (H : Heap) (locs : List Loc) (ls : Array Slot), va_P D vwC (wX h rr cc cI N R ((sr_rcf N a n j q).1) li us ob sl go gi ((sr_rcf N a n j q).2.1) ((sr_rcf N a n j q).2.2.1) ((sr_rcf N a n j q).2.2.2)) H → va_D A (wX h rr cc cI N R ((sr_rcf N a n j q).1) li us ob sl go gi ((sr_rcf N a n j q).2.1) ((sr_rcf N a n j q).2.2.1) ((sr_rcf N a n j q).2.2.2)) → va_S A s.heap H locs → lv_has ls 4 [(0, .ref h), (1, .int a), (2, .int k), (3, .int i')] → W p l e { frames := 2, cells := 0, slots := 0, locals := 43 } s m args below meth c H locs 0 0 Q (F0 m 32 ls [])) →
      W p l e { frames := 2, cells := 0, slots := 0, locals := 43 } s m args below meth c H locs 0 0 Q (F0 m 8 ls []) := by
  intro n
  induction n with
  | zero =>
    intro j q H locs ls hst hP hD hS hl kk
    refine lv_iload_n hx hb dX_reachFieldsOf_8 rfl (lv_at hl 3 rfl) ?_
    refine lv_iload_n hx hb dX_reachFieldsOf_9 rfl (lv_at hl 2 rfl) ?_
    refine lv_icmp_ge (tgt := 32) hx hb dX_reachFieldsOf_10 (by decide) (fun _ => ?_) (fun z => absurd ((sr_cle (by have := sr_clt k; omega)).mpr (by omega)) z)
    exact kk (nI j) _ _ _ hP hD hS (lv_sub hl [0, 1, 2, 3] rfl)
  | succ n ih =>
    intro j q H locs ls hst hP hD hS hl kk
    refine lv_iload_n hx hb dX_reachFieldsOf_8 rfl (lv_at hl 3 rfl) ?_
    refine lv_iload_n hx hb dX_reachFieldsOf_9 rfl (lv_at hl 2 rfl) ?_
    refine lv_icmp_ge (tgt := 32) hx hb dX_reachFieldsOf_10 (by decide) (fun z => absurd z (fun z => absurd ((sr_cle (by have := sr_clt k; omega)).mp z) (by omega))) (fun _ => ?_)
    refine lv_aload_n hx hb dX_reachFieldsOf_13 rfl (lv_at hl 0 rfl) ?_
    refine lv_aload_n hx hb dX_reachFieldsOf_14 rfl (lv_at hl 0 rfl) ?_
    refine lv_iload_n hx hb dX_reachFieldsOf_15 rfl (lv_at hl 1 rfl) ?_
    refine lv_iconst (v := 3) hx hb dX_reachFieldsOf_16 (by decide) ?_
    refine lv_iadd hx hb dX_reachFieldsOf_17 ?_
    refine lv_iload_n hx hb dX_reachFieldsOf_18 rfl (lv_at hl 3 rfl) ?_
    refine lv_iadd hx hb dX_reachFieldsOf_19 ?_
    refine sy_cVi (wc := wX h rr cc cI N R q.1 li us ob sl go gi q.2.1 q.2.2.1 q.2.2.2) (wr := []) (w1 := wX h rr cc cI N R q.1 li us ob sl go gi q.2.1 q.2.2.1 q.2.2.2) (ci := 0) (q0 := 0) (As := [.int ((a + 3) + (nI j))]) (rest := [.ref h]) ⟨hx, hb, hml, hown, hbg⟩ (ct_X_read l D h rr cc cI N R q.1 li us ob sl go gi q.2.1 q.2.2.1 q.2.2.2 H.size ((a + 3) + (nI j)) hN) (cwV 1 hbg (bg_V bw_90 bw_91 bw_4 bw_34 bw_92) rfl rfl rfl (by decide +kernel) ⟨Nat.le_of_ble_eq_true rfl, Nat.le_of_ble_eq_true rfl⟩) hK [0] rfl hP hD hS hA [0, 1, 2] [] rfl rfl rfl rfl (by decide) rfl rfl rfl hl.1 rfl (Nat.le_of_ble_eq_true rfl) dX_reachFieldsOf_20 ⟨Nat.le_of_ble_eq_true rfl, Nat.le_of_ble_eq_true rfl⟩ (fun H locs hP hD hS => ?_)
    have hP : va_P D vwC (wX h rr cc cI N R q.1 li us ob sl go gi q.2.1 q.2.2.1 q.2.2.2) H := hP
    have hD : va_D A (wX h rr cc cI N R q.1 li us ob sl go gi q.2.1 q.2.2.1 q.2.2.2) := hD
    refine sy_cVv (wc := wX h rr cc cI N R q.1 li us ob sl go gi q.2.1 q.2.2.1 q.2.2.2) (wr := []) (w1 := wX h rr cc cI N R ((sr_rch N (q.1, q.2.1, q.2.2.1, q.2.2.2) (sr_rd N q.1 ((a + 3) + (nI j)))).1) li us ob sl go gi ((sr_rch N (q.1, q.2.1, q.2.2.1, q.2.2.2) (sr_rd N q.1 ((a + 3) + (nI j)))).2.1) ((sr_rch N (q.1, q.2.1, q.2.2.1, q.2.2.2) (sr_rd N q.1 ((a + 3) + (nI j)))).2.2.1) ((sr_rch N (q.1, q.2.1, q.2.2.1, q.2.2.2) (sr_rd N q.1 ((a + 3) + (nI j)))).2.2.2)) (ci := 0) (q0 := 0) (As := [.int (sr_rd N q.1 ((a + 3) + (nI j)))]) (rest := []) ⟨hx, hb, hml, hown, hbg⟩ (ct_X_reach l D h rr cc cI N R q.1 li us ob sl go gi q.2.1 q.2.2.1 q.2.2.2 H.size (sr_rd N q.1 ((a + 3) + (nI j))) hN) (cwV 1 hbg (bg_V bw_93 bw_94 bw_5 bw_34 bw_95) rfl rfl rfl (by decide +kernel) ⟨Nat.le_of_ble_eq_true rfl, Nat.le_of_ble_eq_true rfl⟩) hK [0] rfl hP hD hS hA [0, 1, 2] [] rfl rfl rfl rfl (by decide) rfl rfl rfl hl.1 rfl (Nat.le_of_ble_eq_true rfl) dX_reachFieldsOf_23 ⟨Nat.le_of_ble_eq_true rfl, Nat.le_of_ble_eq_true rfl⟩ (fun H locs hP hD hS => ?_)
    have hP : va_P D vwC (wX h rr cc cI N R ((sr_rch N (q.1, q.2.1, q.2.2.1, q.2.2.2) (sr_rd N q.1 ((a + 3) + (nI j)))).1) li us ob sl go gi ((sr_rch N (q.1, q.2.1, q.2.2.1, q.2.2.2) (sr_rd N q.1 ((a + 3) + (nI j)))).2.1) ((sr_rch N (q.1, q.2.1, q.2.2.1, q.2.2.2) (sr_rd N q.1 ((a + 3) + (nI j)))).2.2.1) ((sr_rch N (q.1, q.2.1, q.2.2.1, q.2.2.2) (sr_rd N q.1 ((a + 3) + (nI j)))).2.2.2)) H := hP
    have hD : va_D A (wX h rr cc cI N R ((sr_rch N (q.1, q.2.1, q.2.2.1, q.2.2.2) (sr_rd N q.1 ((a + 3) + (nI j)))).1) li us ob sl go gi ((sr_rch N (q.1, q.2.1, q.2.2.1, q.2.2.2) (sr_rd N q.1 ((a + 3) + (nI j)))).2.1) ((sr_rch N (q.1, q.2.1, q.2.2.1, q.2.2.2) (sr_rd N q.1 ((a + 3) + (nI j)))).2.2.1) ((sr_rch N (q.1, q.2.1, q.2.2.1, q.2.2.2) (sr_rd N q.1 ((a + 3) + (nI j)))).2.2.2)) := hD
    refine lv_iinc (v := nI (j + 1)) (lv' := [(3, .int (nI (j + 1))), (0, .ref h), (1, .int a), (2, .int k)]) hx hb dX_reachFieldsOf_26 hl (k := 3) rfl (nI_1 j) (by decide) rfl (fun ls hl => ?_)
    refine lv_goto (tgt := 8) hx hb dX_reachFieldsOf_29 (by decide) ?_
    exact ih (j + 1) (sr_rch N q (sr_rd N q.1 (a + 3 + nI j))) _ _ _ (by omega) hP hD hS (lv_sub hl [1, 2, 3, 0] rfl) kk

set_option maxHeartbeats 4000000 in
set_option maxRecDepth 100000 in
theorem ct_X_reachFieldsOf (l : Launch) (D : va_G) (h rr cc : Nat) (cI : ClassId) (N : Nat) (R C : Nat → Int32) (li us ob sl go gi fr la re : Int32) (sz : Nat) (a : Int32) (hN : N < 2 ^ 31) : sy_Mv l yX_reachFieldsOf (Cond.code yX_reachFieldsOf bX_reachFieldsOf 4 none :: sr_big) { frames := 2, cells := 0, slots := 0, locals := 43 } D vwC [(cI, .int)] [.ref h, .int a] (wX h rr cc cI N R C li us ob sl go gi fr la re) sz (wX h rr cc cI N R ((sr_rcf N a (sr_fi N C a).toNatClampNeg 0 (C, fr, la, re)).1) li us ob sl go gi ((sr_rcf N a (sr_fi N C a).toNatClampNeg 0 (C, fr, la, re)).2.1) ((sr_rcf N a (sr_fi N C a).toNatClampNeg 0 (C, fr, la, re)).2.2.1) ((sr_rcf N a (sr_fi N C a).toNatClampNeg 0 (C, fr, la, re)).2.2.2)) 0 0 := by
  refine Met.ofW (cc := bX_reachFieldsOf) (maxL := 4) (ret := none) (by decide) rfl ?_
  intro p e s m args below meth c s₁ B hml hv
  obtain ⟨rfl, hsz, hP, hK, hD0⟩ := hv
  have hx := B.exec
  have hb := B.bytes
  have hr := B.returns
  have hbg : ∀ w ∈ sr_big, w.before _ s = true := fun w h => atoms_spec (ws := Cond.code yX_reachFieldsOf bX_reachFieldsOf 4 none :: sr_big) B.pre w (List.mem_cons_of_mem _ h)
  have hown : s.vm.findClass RX = some m.cls := findClass_of_methodNamed B.named
  have hlocks := B.notSynchronized
  subst hsz
  have hD := hD0.self (sz := s.heap.size)
  generalize hAe : va_A (wX h rr cc cI N R C li us ob sl go gi fr la re) s.heap.size = A at *
  have hA : ∀ q : Nat, s.heap.size ≤ q → A q := fun q h => by rw [← hAe]; exact Or.inr h
  have hS : va_S A s.heap s.heap [] := va_S.rf
  have hl := lv_entry ([.ref h, .int a]) (n := 4) (Nat.le_of_ble_eq_true rfl)
  rw [lg_entry_eq]
  generalize (lg_sl ([.ref h, .int a]) ++ List.replicate (4 - (lg_sl ([.ref h, .int a])).length) Slot.unset).toArray = ls at hl ⊢
  have hl : lv_has ls 4 [(0, .ref h), (1, .int a)] := hl
  refine lv_aload_n hx hb dX_reachFieldsOf_0 rfl (lv_at hl 0 rfl) ?_
  refine lv_iload_n hx hb dX_reachFieldsOf_1 rfl (lv_at hl 1 rfl) ?_
  refine sy_cVi (wc := wX h rr cc cI N R C li us ob sl go gi fr la re) (wr := []) (w1 := wX h rr cc cI N R C li us ob sl go gi fr la re) (ci := 0) (q0 := 0) (As := [.int a]) (rest := []) ⟨hx, hb, hml, hown, hbg⟩ (ct_X_fieldsOf l D h rr cc cI N R C li us ob sl go gi fr la re s.heap.size a hN) (cwV 1 hbg (bg_V bw_99 bw_100 bw_7 bw_34 bw_101) rfl rfl rfl (by decide +kernel) ⟨Nat.le_of_ble_eq_true rfl, Nat.le_of_ble_eq_true rfl⟩) hK [0] rfl hP hD hS hA [0, 1, 2] [] rfl rfl rfl rfl (by decide) rfl rfl rfl hl.1 rfl (Nat.le_of_ble_eq_true rfl) dX_reachFieldsOf_2 ⟨Nat.le_of_ble_eq_true rfl, Nat.le_of_ble_eq_true rfl⟩ (fun H locs hP hD hS => ?_)
  have hP : va_P D vwC (wX h rr cc cI N R C li us ob sl go gi fr la re) H := hP
  have hD : va_D A (wX h rr cc cI N R C li us ob sl go gi fr la re) := hD
  refine lv_istore_n (lv' := [(2, .int (sr_fi N C a)), (0, .ref h), (1, .int a)]) hx hb dX_reachFieldsOf_5 rfl hl (by decide) rfl (fun ls hl => ?_)
  refine lv_iconst (v := 0) hx hb dX_reachFieldsOf_6 (by decide) ?_
  refine lv_istore_n (lv' := [(3, .int 0), (2, .int (sr_fi N C a)), (0, .ref h), (1, .int a)]) hx hb dX_reachFieldsOf_7 rfl hl (by decide) rfl (fun ls hl => ?_)
  refine lp_X_reachFieldsOf hx hb hml hown hbg hK hA hN (sr_fi N C a).toNatClampNeg 0 (C, fr, la, re) _ _ _ (by simp) hP hD hS (lv_sub hl [2, 3, 1, 0] rfl) ?_
  intro i' H locs ls hP hD hS hl
  refine W.widen (k := 0) (n := 0) (Nat.le_of_ble_eq_true rfl) (Nat.le_of_ble_eq_true rfl) ?_
  exact W.vret hx hb hr (fun t ht hW => ⟨⟨(), rfl, trivial, by rw [ht]; exact hP, va_K.moved hW.alike hK, hD⟩, hS.F ht⟩) hS.2.2 dX_reachFieldsOf_32

set_option maxHeartbeats 4000000 in
set_option maxRecDepth 100000 in
theorem lp_X_chainA  (hx : p.tables.exec = Jvm.exec) (hb : c.code = bX_chainReached) (hml : c.maxLocals = 3) (hown : s.vm.findClass RX = some m.cls) (hbg : ∀ w ∈ sr_big, w.before args s = true) (hK : va_K D vwC [(cI, .int)] s) (hA : ∀ q : Nat, s.heap.size ≤ q → A q) (hN : N < 2 ^ 31) :
    ∀ (n j : Nat) (q : sr_Q) (H : Heap) (locs : List Loc) (ls : Array Slot), j + n = 16 → va_P D vwC (wX h rr cc cI N R q.1 li us ob sl go gi q.2.1 q.2.2.1 q.2.2.2) H → va_D A (wX h rr cc cI N R q.1 li us ob sl go gi q.2.1 q.2.2.1 q.2.2.2) → va_S A s.heap H locs → lv_has ls 3 [(0, .ref h), (1, .int (nI j))] →
      (∀ (i' : Int32) (H : Heap) (locs : List Loc) (ls : Array Slot), va_P D vwC (wX h rr cc cI N R ((sr_rcr N R n j q).1) li us ob sl go gi ((sr_rcr N R n j q).2.1) ((sr_rcr N R n j q).2.2.1) ((sr_rcr N R n j q).2.2.2)) H → va_D A (wX h rr cc cI N R ((sr_rcr N R n j q).1) li us ob sl go gi ((sr_rcr N R n j q).2.1) ((sr_rcr N R n j q).2.2.1) ((sr_rcr N R n j q).2.2.2)) → va_S A s.heap H locs → lv_has ls 3 [(0, .ref h), (1, .int i')] → W p l e { frames := 3, cells := 0, slots := 0, locals := 66 } s m args below meth c H locs 0 0 Q (F0 m 46 ls [])) →
      W p l e { frames := 3, cells := 0, slots := 0, locals := 66 } s m args below meth c H locs 0 0 Q (F0 m 21 ls []) := by
  intro n
  induction n with
  | zero =>
    intro j q H locs ls hst hP hD hS hl kk
    refine lv_iload_n hx hb dX_chainReached_21 rfl (lv_at hl 1 rfl) ?_
    refine lv_aload_n hx hb dX_chainReached_22 rfl (lv_at hl 0 rfl) ?_
    refine va_get (D := D) (ci := 0) (v := .ref rr) (C := RX) (T := TX) (N := 11) hx hb hbg bg_X hown hK hP 0 rfl rfl 0 (by decide) (hbg _ bw_51) (fun _ h9 => h9) rfl dX_chainReached_23 ?_
    refine va_alen hx hb hK hP 1 0 rfl rfl (v := nI 16) rfl dX_chainReached_26 ?_
    refine lv_icmp_ge (tgt := 46) hx hb dX_chainReached_27 (by decide) (fun _ => ?_) (fun z => absurd (nI_le (by omega) (by omega)) z)
    exact kk (nI j) _ _ _ hP hD hS (lv_sub hl [0, 1] rfl)
  | succ n ih =>
    intro j q H locs ls hst hP hD hS hl kk
    refine lv_iload_n hx hb dX_chainReached_21 rfl (lv_at hl 1 rfl) ?_
    refine lv_aload_n hx hb dX_chainReached_22 rfl (lv_at hl 0 rfl) ?_
    refine va_get (D := D) (ci := 0) (v := .ref rr) (C := RX) (T := TX) (N := 11) hx hb hbg bg_X hown hK hP 0 rfl rfl 0 (by decide) (hbg _ bw_51) (fun _ h9 => h9) rfl dX_chainReached_23 ?_
    refine va_alen hx hb hK hP 1 0 rfl rfl (v := nI 16) rfl dX_chainReached_26 ?_
    refine lv_icmp_ge (tgt := 46) hx hb dX_chainReached_27 (by decide) (fun z => absurd z (nI_ge (by omega) (by omega))) (fun _ => ?_)
    refine lv_aload_n hx hb dX_chainReached_30 rfl (lv_at hl 0 rfl) ?_
    refine lv_aload_n hx hb dX_chainReached_31 rfl (lv_at hl 0 rfl) ?_
    refine va_get (D := D) (ci := 0) (v := .ref rr) (C := RX) (T := TX) (N := 11) hx hb hbg bg_X hown hK hP 0 rfl rfl 0 (by decide) (hbg _ bw_51) (fun _ h9 => h9) rfl dX_chainReached_32 ?_
    refine lv_iload_n hx hb dX_chainReached_35 rfl (lv_at hl 1 rfl) ?_
    refine sy_iald (j := j) hx hb hK hP 1 0 rfl rfl (by omega) (by omega) dX_chainReached_36 ?_
    refine sy_cVv (wc := wX h rr cc cI N R q.1 li us ob sl go gi q.2.1 q.2.2.1 q.2.2.2) (wr := []) (w1 := wX h rr cc cI N R ((sr_rch N (q.1, q.2.1, q.2.2.1, q.2.2.2) (R j)).1) li us ob sl go gi ((sr_rch N (q.1, q.2.1, q.2.2.1, q.2.2.2) (R j)).2.1) ((sr_rch N (q.1, q.2.1, q.2.2.1, q.2.2.2) (R j)).2.2.1) ((sr_rch N (q.1, q.2.1, q.2.2.1, q.2.2.2) (R j)).2.2.2)) (ci := 0) (q0 := 0) (As := [.int (R j)]) (rest := []) ⟨hx, hb, hml, hown, hbg⟩ (ct_X_reach l D h rr cc cI N R q.1 li us ob sl go gi q.2.1 q.2.2.1 q.2.2.2 H.size (R j) hN) (cwV 1 hbg (bg_V bw_93 bw_94 bw_5 bw_34 bw_95) rfl rfl rfl (by decide +kernel) ⟨Nat.le_of_ble_eq_true rfl, Nat.le_of_ble_eq_true rfl⟩) hK [0] rfl hP hD hS hA [0, 1, 2] [] rfl rfl rfl rfl (by decide) rfl rfl rfl hl.1 rfl (Nat.le_of_ble_eq_true rfl) dX_chainReached_37 ⟨Nat.le_of_ble_eq_true rfl, Nat.le_of_ble_eq_true rfl⟩ (fun H locs hP hD hS => ?_)
    have hP : va_P D vwC (wX h rr cc cI N R ((sr_rch N (q.1, q.2.1, q.2.2.1, q.2.2.2) (R j)).1) li us ob sl go gi ((sr_rch N (q.1, q.2.1, q.2.2.1, q.2.2.2) (R j)).2.1) ((sr_rch N (q.1, q.2.1, q.2.2.1, q.2.2.2) (R j)).2.2.1) ((sr_rch N (q.1, q.2.1, q.2.2.1, q.2.2.2) (R j)).2.2.2)) H := hP
    have hD : va_D A (wX h rr cc cI N R ((sr_rch N (q.1, q.2.1, q.2.2.1, q.2.2.2) (R j)).1) li us ob sl go gi ((sr_rch N (q.1, q.2.1, q.2.2.1, q.2.2.2) (R j)).2.1) ((sr_rch N (q.1, q.2.1, q.2.2.1, q.2.2.2) (R j)).2.2.1) ((sr_rch N (q.1, q.2.1, q.2.2.1, q.2.2.2) (R j)).2.2.2)) := hD
    refine lv_iinc (v := nI (j + 1)) (lv' := [(1, .int (nI (j + 1))), (0, .ref h)]) hx hb dX_chainReached_40 hl (k := 1) rfl (nI_1 j) (by decide) rfl (fun ls hl => ?_)
    refine lv_goto (tgt := 21) hx hb dX_chainReached_43 (by decide) ?_
    exact ih (j + 1) (sr_rch N q (R j)) _ _ _ (by omega) hP hD hS (lv_sub hl [1, 0] rfl) kk

set_option maxHeartbeats 4000000 in
set_option maxRecDepth 100000 in
theorem lp_X_chainB  (hx : p.tables.exec = Jvm.exec) (hb : c.code = bX_chainReached) (hml : c.maxLocals = 3) (hown : s.vm.findClass RX = some m.cls) (hbg : ∀ w ∈ sr_big, w.before args s = true) (hK : va_K D vwC [(cI, .int)] s) (hA : ∀ q : Nat, s.heap.size ≤ q → A q) (hN : N < 2 ^ 31) :
    ∀ (n j : Nat) (a : Int32) (q : sr_Q) (H : Heap) (locs : List Loc) (ls : Array Slot), j + n = ob.toNatClampNeg → va_P D vwC (wX h rr cc cI N R q.1 li us ob sl go gi q.2.1 q.2.2.1 q.2.2.2) H → va_D A (wX h rr cc cI N R q.1 li us ob sl go gi q.2.1 q.2.2.1 q.2.2.2) → va_S A s.heap H locs → lv_has ls 3 [(0, .ref h), (1, .int a), (2, .int (nI j))] →
      (∀ (a' i' : Int32) (H : Heap) (locs : List Loc) (ls : Array Slot), va_P D vwC (wX h rr cc cI N R ((sr_chn N n a q).1) li us ob sl go gi ((sr_chn N n a q).2.1) ((sr_chn N n a q).2.2.1) ((sr_chn N n a q).2.2.2)) H → va_D A (wX h rr cc cI N R ((sr_chn N n a q).1) li us ob sl go gi ((sr_chn N n a q).2.1) ((sr_chn N n a q).2.2.1) ((sr_chn N n a q).2.2.2)) → va_S A s.heap H locs → lv_has ls 3 [(0, .ref h), (1, .int a'), (2, .int i')] → W p l e { frames := 3, cells := 0, slots := 0, locals := 66 } s m args below meth c H locs 0 0 Q (F0 m 84 ls [])) →
      W p l e { frames := 3, cells := 0, slots := 0, locals := 66 } s m args below meth c H locs 0 0 Q (F0 m 53 ls []) := by
  intro n
  induction n with
  | zero =>
    intro j a q H locs ls hst hP hD hS hl kk
    refine lv_iload_n hx hb dX_chainReached_53 rfl (lv_at hl 2 rfl) ?_
    refine lv_aload_n hx hb dX_chainReached_54 rfl (lv_at hl 0 rfl) ?_
    refine va_get (D := D) (ci := 0) (v := .int ob) (C := RX) (T := TX) (N := 11) hx hb hbg bg_X hown hK hP 0 rfl rfl 4 (by decide) (hbg _ bw_55) (fun _ h9 => h9) rfl dX_chainReached_55 ?_
    refine lv_icmp_ge (tgt := 84) hx hb dX_chainReached_58 (by decide) (fun _ => ?_) (fun z => absurd ((sr_cle (by have := sr_clt ob; omega)).mpr (by omega)) z)
    exact kk a (nI j) _ _ _ hP hD hS (lv_sub hl [0, 1, 2] rfl)
  | succ n ih =>
    intro j a q H locs ls hst hP hD hS hl kk
    refine lv_iload_n hx hb dX_chainReached_53 rfl (lv_at hl 2 rfl) ?_
    refine lv_aload_n hx hb dX_chainReached_54 rfl (lv_at hl 0 rfl) ?_
    refine va_get (D := D) (ci := 0) (v := .int ob) (C := RX) (T := TX) (N := 11) hx hb hbg bg_X hown hK hP 0 rfl rfl 4 (by decide) (hbg _ bw_55) (fun _ h9 => h9) rfl dX_chainReached_55 ?_
    refine lv_icmp_ge (tgt := 84) hx hb dX_chainReached_58 (by decide) (fun z => absurd z (fun z => absurd ((sr_cle (by have := sr_clt ob; omega)).mp z) (by omega))) (fun _ => ?_)
    refine lv_iload_n hx hb dX_chainReached_61 rfl (lv_at hl 1 rfl) ?_
    refine lv_if_le (tgt := 84) hx hb dX_chainReached_62 (by decide) (fun c_62 => ?_) (fun c_62 => ?_)
    · have es : sr_chn N (n + 1) a q = q := by simp only [sr_chn, c_62, ↓reduceIte]
      rw [es] at kk
      exact kk a (nI j) _ _ _ hP hD hS (lv_sub hl [0, 1, 2] rfl)
    · refine lv_aload_n hx hb dX_chainReached_65 rfl (lv_at hl 0 rfl) ?_
      refine lv_iload_n hx hb dX_chainReached_66 rfl (lv_at hl 1 rfl) ?_
      refine sy_cVv (wc := wX h rr cc cI N R q.1 li us ob sl go gi q.2.1 q.2.2.1 q.2.2.2) (wr := []) (w1 := wX h rr cc cI N R ((sr_rcf N a (sr_fi N q.1 a).toNatClampNeg 0 (q.1, q.2.1, q.2.2.1, q.2.2.2)).1) li us ob sl go gi ((sr_rcf N a (sr_fi N q.1 a).toNatClampNeg 0 (q.1, q.2.1, q.2.2.1, q.2.2.2)).2.1) ((sr_rcf N a (sr_fi N q.1 a).toNatClampNeg 0 (q.1, q.2.1, q.2.2.1, q.2.2.2)).2.2.1) ((sr_rcf N a (sr_fi N q.1 a).toNatClampNeg 0 (q.1, q.2.1, q.2.2.1, q.2.2.2)).2.2.2)) (ci := 0) (q0 := 0) (As := [.int a]) (rest := []) ⟨hx, hb, hml, hown, hbg⟩ (ct_X_reachFieldsOf l D h rr cc cI N R q.1 li us ob sl go gi q.2.1 q.2.2.1 q.2.2.2 H.size a hN) (cwV 1 hbg (bg_V bw_96 bw_97 bw_6 bw_34 bw_98) rfl rfl rfl (by decide +kernel) ⟨Nat.le_of_ble_eq_true rfl, Nat.le_of_ble_eq_true rfl⟩) hK [0] rfl hP hD hS hA [0, 1, 2] [] rfl rfl rfl rfl (by decide) rfl rfl rfl hl.1 rfl (Nat.le_of_ble_eq_true rfl) dX_chainReached_67 ⟨Nat.le_of_ble_eq_true rfl, Nat.le_of_ble_eq_true rfl⟩ (fun H locs hP hD hS => ?_)
      have hP : va_P D vwC (wX h rr cc cI N R ((sr_rcf N a (sr_fi N q.1 a).toNatClampNeg 0 (q.1, q.2.1, q.2.2.1, q.2.2.2)).1) li us ob sl go gi ((sr_rcf N a (sr_fi N q.1 a).toNatClampNeg 0 (q.1, q.2.1, q.2.2.1, q.2.2.2)).2.1) ((sr_rcf N a (sr_fi N q.1 a).toNatClampNeg 0 (q.1, q.2.1, q.2.2.1, q.2.2.2)).2.2.1) ((sr_rcf N a (sr_fi N q.1 a).toNatClampNeg 0 (q.1, q.2.1, q.2.2.1, q.2.2.2)).2.2.2)) H := hP
      have hD : va_D A (wX h rr cc cI N R ((sr_rcf N a (sr_fi N q.1 a).toNatClampNeg 0 (q.1, q.2.1, q.2.2.1, q.2.2.2)).1) li us ob sl go gi ((sr_rcf N a (sr_fi N q.1 a).toNatClampNeg 0 (q.1, q.2.1, q.2.2.1, q.2.2.2)).2.1) ((sr_rcf N a (sr_fi N q.1 a).toNatClampNeg 0 (q.1, q.2.1, q.2.2.1, q.2.2.2)).2.2.1) ((sr_rcf N a (sr_fi N q.1 a).toNatClampNeg 0 (q.1, q.2.1, q.2.2.1, q.2.2.2)).2.2.2)) := hD
      refine lv_aload_n hx hb dX_chainReached_70 rfl (lv_at hl 0 rfl) ?_
      refine lv_iload_n hx hb dX_chainReached_71 rfl (lv_at hl 1 rfl) ?_
      refine lv_iconst (v := 2) hx hb dX_chainReached_72 (by decide) ?_
      refine lv_iadd hx hb dX_chainReached_73 ?_
      refine sy_cVi (wc := wX h rr cc cI N R ((sr_rcf N a (sr_fi N q.1 a).toNatClampNeg 0 (q.1, q.2.1, q.2.2.1, q.2.2.2)).1) li us ob sl go gi ((sr_rcf N a (sr_fi N q.1 a).toNatClampNeg 0 (q.1, q.2.1, q.2.2.1, q.2.2.2)).2.1) ((sr_rcf N a (sr_fi N q.1 a).toNatClampNeg 0 (q.1, q.2.1, q.2.2.1, q.2.2.2)).2.2.1) ((sr_rcf N a (sr_fi N q.1 a).toNatClampNeg 0 (q.1, q.2.1, q.2.2.1, q.2.2.2)).2.2.2)) (wr := []) (w1 := wX h rr cc cI N R ((sr_rcf N a (sr_fi N q.1 a).toNatClampNeg 0 (q.1, q.2.1, q.2.2.1, q.2.2.2)).1) li us ob sl go gi ((sr_rcf N a (sr_fi N q.1 a).toNatClampNeg 0 (q.1, q.2.1, q.2.2.1, q.2.2.2)).2.1) ((sr_rcf N a (sr_fi N q.1 a).toNatClampNeg 0 (q.1, q.2.1, q.2.2.1, q.2.2.2)).2.2.1) ((sr_rcf N a (sr_fi N q.1 a).toNatClampNeg 0 (q.1, q.2.1, q.2.2.1, q.2.2.2)).2.2.2)) (ci := 0) (q0 := 0) (As := [.int (a + 2)]) (rest := []) ⟨hx, hb, hml, hown, hbg⟩ (ct_X_read l D h rr cc cI N R ((sr_rcf N a (sr_fi N q.1 a).toNatClampNeg 0 (q.1, q.2.1, q.2.2.1, q.2.2.2)).1) li us ob sl go gi ((sr_rcf N a (sr_fi N q.1 a).toNatClampNeg 0 (q.1, q.2.1, q.2.2.1, q.2.2.2)).2.1) ((sr_rcf N a (sr_fi N q.1 a).toNatClampNeg 0 (q.1, q.2.1, q.2.2.1, q.2.2.2)).2.2.1) ((sr_rcf N a (sr_fi N q.1 a).toNatClampNeg 0 (q.1, q.2.1, q.2.2.1, q.2.2.2)).2.2.2) H.size (a + 2) hN) (cwV 1 hbg (bg_V bw_90 bw_91 bw_4 bw_34 bw_92) rfl rfl rfl (by decide +kernel) ⟨Nat.le_of_ble_eq_true rfl, Nat.le_of_ble_eq_true rfl⟩) hK [0] rfl hP hD hS hA [0, 1, 2] [] rfl rfl rfl rfl (by decide) rfl rfl rfl hl.1 rfl (Nat.le_of_ble_eq_true rfl) dX_chainReached_74 ⟨Nat.le_of_ble_eq_true rfl, Nat.le_of_ble_eq_true rfl⟩ (fun H locs hP hD hS => ?_)
      have hP : va_P D vwC (wX h rr cc cI N R ((sr_rcf N a (sr_fi N q.1 a).toNatClampNeg 0 (q.1, q.2.1, q.2.2.1, q.2.2.2)).1) li us ob sl go gi ((sr_rcf N a (sr_fi N q.1 a).toNatClampNeg 0 (q.1, q.2.1, q.2.2.1, q.2.2.2)).2.1) ((sr_rcf N a (sr_fi N q.1 a).toNatClampNeg 0 (q.1, q.2.1, q.2.2.1, q.2.2.2)).2.2.1) ((sr_rcf N a (sr_fi N q.1 a).toNatClampNeg 0 (q.1, q.2.1, q.2.2.1, q.2.2.2)).2.2.2)) H := hP
      have hD : va_D A (wX h rr cc cI N R ((sr_rcf N a (sr_fi N q.1 a).toNatClampNeg 0 (q.1, q.2.1, q.2.2.1, q.2.2.2)).1) li us ob sl go gi ((sr_rcf N a (sr_fi N q.1 a).toNatClampNeg 0 (q.1, q.2.1, q.2.2.1, q.2.2.2)).2.1) ((sr_rcf N a (sr_fi N q.1 a).toNatClampNeg 0 (q.1, q.2.1, q.2.2.1, q.2.2.2)).2.2.1) ((sr_rcf N a (sr_fi N q.1 a).toNatClampNeg 0 (q.1, q.2.1, q.2.2.1, q.2.2.2)).2.2.2)) := hD
      refine lv_istore_n (lv' := [(1, .int (sr_rd N ((sr_rcf N a (sr_fi N q.1 a).toNatClampNeg 0 (q.1, q.2.1, q.2.2.1, q.2.2.2)).1) (a + 2))), (0, .ref h), (2, .int (nI j))]) hx hb dX_chainReached_77 rfl hl (by decide) rfl (fun ls hl => ?_)
      refine lv_iinc (v := nI (j + 1)) (lv' := [(2, .int (nI (j + 1))), (1, .int (sr_rd N ((sr_rcf N a (sr_fi N q.1 a).toNatClampNeg 0 (q.1, q.2.1, q.2.2.1, q.2.2.2)).1) (a + 2))), (0, .ref h)]) hx hb dX_chainReached_78 hl (k := 2) rfl (nI_1 j) (by decide) rfl (fun ls hl => ?_)
      refine lv_goto (tgt := 53) hx hb dX_chainReached_81 (by decide) ?_
      have es : sr_chn N (n + 1) a q = sr_chn N n (sr_rd N (sr_rcf N a (sr_fi N q.1 a).toNatClampNeg 0 q).1 (a + 2)) (sr_rcf N a (sr_fi N q.1 a).toNatClampNeg 0 q) := by simp only [sr_chn, c_62, ↓reduceIte]
      rw [es] at kk
      exact ih (j + 1) (sr_rd N ((sr_rcf N a (sr_fi N q.1 a).toNatClampNeg 0 (q.1, q.2.1, q.2.2.1, q.2.2.2)).1) (a + 2)) (sr_rcf N a (sr_fi N q.1 a).toNatClampNeg 0 q) _ _ _ (by omega) hP hD hS (lv_sub hl [2, 1, 0] rfl) kk

set_option maxHeartbeats 4000000 in
set_option maxRecDepth 100000 in
theorem ct_X_chainReached (l : Launch) (D : va_G) (h rr cc : Nat) (cI : ClassId) (N : Nat) (R C : Nat → Int32) (li us ob sl go gi fr la re : Int32) (sz : Nat) (hN : N < 2 ^ 31) : sy_Mv l yX_chainReached (Cond.code yX_chainReached bX_chainReached 3 none :: sr_big) { frames := 3, cells := 0, slots := 0, locals := 66 } D vwC [(cI, .int)] [.ref h] (wX h rr cc cI N R C li us ob sl go gi fr la re) sz (wX h rr cc cI N R ((sr_chR N R ob.toNatClampNeg C).1) li us ob sl go gi ((sr_chR N R ob.toNatClampNeg C).2.1) ((sr_chR N R ob.toNatClampNeg C).2.2.1) ((sr_chR N R ob.toNatClampNeg C).2.2.2)) 0 0 := by
  refine Met.ofW (cc := bX_chainReached) (maxL := 3) (ret := none) (by decide) rfl ?_
  intro p e s m args below meth c s₁ B hml hv
  obtain ⟨rfl, hsz, hP, hK, hD0⟩ := hv
  have hx := B.exec
  have hb := B.bytes
  have hr := B.returns
  have hbg : ∀ w ∈ sr_big, w.before _ s = true := fun w h => atoms_spec (ws := Cond.code yX_chainReached bX_chainReached 3 none :: sr_big) B.pre w (List.mem_cons_of_mem _ h)
  have hown : s.vm.findClass RX = some m.cls := findClass_of_methodNamed B.named
  have hlocks := B.notSynchronized
  subst hsz
  have hD := hD0.self (sz := s.heap.size)
  generalize hAe : va_A (wX h rr cc cI N R C li us ob sl go gi fr la re) s.heap.size = A at *
  have hA : ∀ q : Nat, s.heap.size ≤ q → A q := fun q h => by rw [← hAe]; exact Or.inr h
  have hS : va_S A s.heap s.heap [] := va_S.rf
  have hl := lv_entry ([.ref h]) (n := 3) (Nat.le_of_ble_eq_true rfl)
  rw [lg_entry_eq]
  generalize (lg_sl ([.ref h]) ++ List.replicate (3 - (lg_sl ([.ref h])).length) Slot.unset).toArray = ls at hl ⊢
  have hl : lv_has ls 3 [(0, .ref h)] := hl
  refine lv_aload_n hx hb dX_chainReached_0 rfl (lv_at hl 0 rfl) ?_
  refine sy_cVv (wc := wX h rr cc cI N R C li us ob sl go gi fr la re) (wr := []) (w1 := wX h rr cc cI N R (sr_clr N ob.toNatClampNeg C 1) li us ob sl go gi fr la re) (ci := 0) (q0 := 0) (As := []) (rest := []) ⟨hx, hb, hml, hown, hbg⟩ (ct_X_clearLinks l D h rr cc cI N R C li us ob sl go gi fr la re s.heap.size  hN) (cwV 0 hbg (bg_V bw_81 bw_82 bw_1 bw_34 bw_83) rfl rfl rfl (by decide +kernel) ⟨Nat.le_of_ble_eq_true rfl, Nat.le_of_ble_eq_true rfl⟩) hK [0] rfl hP hD hS hA [0, 1, 2] [] rfl rfl rfl rfl (by decide) rfl rfl rfl hl.1 rfl (Nat.le_of_ble_eq_true rfl) dX_chainReached_1 ⟨Nat.le_of_ble_eq_true rfl, Nat.le_of_ble_eq_true rfl⟩ (fun H locs hP hD hS => ?_)
  have hP : va_P D vwC (wX h rr cc cI N R (sr_clr N ob.toNatClampNeg C 1) li us ob sl go gi fr la re) H := hP
  have hD : va_D A (wX h rr cc cI N R (sr_clr N ob.toNatClampNeg C 1) li us ob sl go gi fr la re) := hD
  refine lv_aload_n hx hb dX_chainReached_4 rfl (lv_at hl 0 rfl) ?_
  refine lv_iconst (v := 0) hx hb dX_chainReached_5 (by decide) ?_
  refine va_put (D := D) (ci := 0) (v := .int 0) (ty := .int) (C := RX) (T := TX) (N := 11) hx hb hbg bg_X tX tX_ok nX hown hK hP hD hS 0 rfl rfl 8 (by decide) (hbg _ bw_59) (fun _ h9 => h9) rfl (by decide +kernel) rfl rfl (Nat.le_of_ble_eq_true rfl) dX_chainReached_6 (fun H locs hP hD hS => ?_)
  have hP : va_P D vwC (wX h rr cc cI N R (sr_clr N ob.toNatClampNeg C 1) li us ob sl go gi 0 la re) H := hP
  have hD : va_D A (wX h rr cc cI N R (sr_clr N ob.toNatClampNeg C 1) li us ob sl go gi 0 la re) := hD
  refine lv_aload_n hx hb dX_chainReached_9 rfl (lv_at hl 0 rfl) ?_
  refine lv_iconst (v := 0) hx hb dX_chainReached_10 (by decide) ?_
  refine va_put (D := D) (ci := 0) (v := .int 0) (ty := .int) (C := RX) (T := TX) (N := 11) hx hb hbg bg_X tX tX_ok nX hown hK hP hD hS 0 rfl rfl 9 (by decide) (hbg _ bw_60) (fun _ h9 => h9) rfl (by decide +kernel) rfl rfl (Nat.le_of_ble_eq_true rfl) dX_chainReached_11 (fun H locs hP hD hS => ?_)
  have hP : va_P D vwC (wX h rr cc cI N R (sr_clr N ob.toNatClampNeg C 1) li us ob sl go gi 0 0 re) H := hP
  have hD : va_D A (wX h rr cc cI N R (sr_clr N ob.toNatClampNeg C 1) li us ob sl go gi 0 0 re) := hD
  refine lv_aload_n hx hb dX_chainReached_14 rfl (lv_at hl 0 rfl) ?_
  refine lv_iconst (v := 0) hx hb dX_chainReached_15 (by decide) ?_
  refine va_put (D := D) (ci := 0) (v := .int 0) (ty := .int) (C := RX) (T := TX) (N := 11) hx hb hbg bg_X tX tX_ok nX hown hK hP hD hS 0 rfl rfl 10 (by decide) (hbg _ bw_61) (fun _ h9 => h9) rfl (by decide +kernel) rfl rfl (Nat.le_of_ble_eq_true rfl) dX_chainReached_16 (fun H locs hP hD hS => ?_)
  have hP : va_P D vwC (wX h rr cc cI N R (sr_clr N ob.toNatClampNeg C 1) li us ob sl go gi 0 0 0) H := hP
  have hD : va_D A (wX h rr cc cI N R (sr_clr N ob.toNatClampNeg C 1) li us ob sl go gi 0 0 0) := hD
  refine lv_iconst (v := 0) hx hb dX_chainReached_19 (by decide) ?_
  refine lv_istore_n (lv' := [(1, .int 0), (0, .ref h)]) hx hb dX_chainReached_20 rfl hl (by decide) rfl (fun ls hl => ?_)
  refine lp_X_chainA hx hb hml hown hbg hK hA hN 16 0 (sr_clr N ob.toNatClampNeg C 1, 0, 0, 0) _ _ _ (by simp) hP hD hS (lv_sub hl [1, 0] rfl) ?_
  intro i' H locs ls hP hD hS hl
  refine lv_aload_n hx hb dX_chainReached_46 rfl (lv_at hl 0 rfl) ?_
  refine va_get (D := D) (ci := 0) (v := .int ((sr_rcr N R 16 0 (sr_clr N ob.toNatClampNeg C 1, 0, 0, 0)).2.1)) (C := RX) (T := TX) (N := 11) hx hb hbg bg_X hown hK hP 0 rfl rfl 8 (by decide) (hbg _ bw_59) (fun _ h9 => h9) rfl dX_chainReached_47 ?_
  refine lv_istore_n (lv' := [(1, .int ((sr_rcr N R 16 0 (sr_clr N ob.toNatClampNeg C 1, 0, 0, 0)).2.1)), (0, .ref h)]) hx hb dX_chainReached_50 rfl hl (by decide) rfl (fun ls hl => ?_)
  refine lv_iconst (v := 0) hx hb dX_chainReached_51 (by decide) ?_
  refine lv_istore_n (lv' := [(2, .int 0), (1, .int ((sr_rcr N R 16 0 (sr_clr N ob.toNatClampNeg C 1, 0, 0, 0)).2.1)), (0, .ref h)]) hx hb dX_chainReached_52 rfl hl (by decide) rfl (fun ls hl => ?_)
  refine lp_X_chainB hx hb hml hown hbg hK hA hN ob.toNatClampNeg 0 (sr_rcr N R 16 0 (sr_clr N ob.toNatClampNeg C 1, 0, 0, 0)).2.1 (sr_rcr N R 16 0 (sr_clr N ob.toNatClampNeg C 1, 0, 0, 0)) _ _ _ (by simp) hP hD hS (lv_sub hl [2, 1, 0] rfl) ?_
  intro a' i' H locs ls hP hD hS hl
  refine W.widen (k := 0) (n := 0) (Nat.le_of_ble_eq_true rfl) (Nat.le_of_ble_eq_true rfl) ?_
  exact W.vret hx hb hr (fun t ht hW => ⟨⟨(), rfl, trivial, by rw [ht]; exact hP, va_K.moved hW.alike hK, hD⟩, hS.F ht⟩) hS.2.2 dX_chainReached_84

set_option maxHeartbeats 4000000 in
set_option maxRecDepth 100000 in
theorem ct_X_placeOf (l : Launch) (D : va_G) (h rr cc : Nat) (cI : ClassId) (N : Nat) (R C : Nat → Int32) (li us ob sl go gi fr la re : Int32) (sz : Nat) (v : Int32) (hN : N < 2 ^ 31) : sy_Mi l yX_placeOf (Cond.code yX_placeOf bX_placeOf 2 (some .int) :: sr_big) { frames := 1, cells := 0, slots := 0, locals := 21 } D vwC [(cI, .int)] [.ref h, .int v] (wX h rr cc cI N R C li us ob sl go gi fr la re) sz (sr_po N C v) (wX h rr cc cI N R C li us ob sl go gi fr la re) 0 0 := by
  refine Met.ofW (cc := bX_placeOf) (maxL := 2) (ret := (some .int)) (by decide) rfl ?_
  intro p e s m args below meth c s₁ B hml hv
  obtain ⟨rfl, hsz, hP, hK, hD0⟩ := hv
  have hx := B.exec
  have hb := B.bytes
  have hr := B.returns
  have hbg : ∀ w ∈ sr_big, w.before _ s = true := fun w h => atoms_spec (ws := Cond.code yX_placeOf bX_placeOf 2 (some .int) :: sr_big) B.pre w (List.mem_cons_of_mem _ h)
  have hown : s.vm.findClass RX = some m.cls := findClass_of_methodNamed B.named
  have hlocks := B.notSynchronized
  subst hsz
  have hD := hD0.self (sz := s.heap.size)
  generalize hAe : va_A (wX h rr cc cI N R C li us ob sl go gi fr la re) s.heap.size = A at *
  have hA : ∀ q : Nat, s.heap.size ≤ q → A q := fun q h => by rw [← hAe]; exact Or.inr h
  have hS : va_S A s.heap s.heap [] := va_S.rf
  have hl := lv_entry ([.ref h, .int v]) (n := 2) (Nat.le_of_ble_eq_true rfl)
  rw [lg_entry_eq]
  generalize (lg_sl ([.ref h, .int v]) ++ List.replicate (2 - (lg_sl ([.ref h, .int v])).length) Slot.unset).toArray = ls at hl ⊢
  have hl : lv_has ls 2 [(0, .ref h), (1, .int v)] := hl
  refine lv_iload_n hx hb dX_placeOf_0 rfl (lv_at hl 1 rfl) ?_
  refine lv_if_ne (tgt := 8) hx hb dX_placeOf_1 (by decide) (fun c_1 => ?_) (fun c_1 => ?_)
  · refine lv_aload_n hx hb dX_placeOf_8 rfl (lv_at hl 0 rfl) ?_
    refine lv_iload_n hx hb dX_placeOf_9 rfl (lv_at hl 1 rfl) ?_
    refine lv_iconst (v := 2) hx hb dX_placeOf_10 (by decide) ?_
    refine lv_iadd hx hb dX_placeOf_11 ?_
    refine sy_cVi (wc := wX h rr cc cI N R C li us ob sl go gi fr la re) (wr := []) (w1 := wX h rr cc cI N R C li us ob sl go gi fr la re) (ci := 0) (q0 := 0) (As := [.int (v + 2)]) (rest := []) ⟨hx, hb, hml, hown, hbg⟩ (ct_X_read l D h rr cc cI N R C li us ob sl go gi fr la re s.heap.size (v + 2) hN) (cwV 1 hbg (bg_V bw_90 bw_91 bw_4 bw_34 bw_92) rfl rfl rfl (by decide +kernel) ⟨Nat.le_of_ble_eq_true rfl, Nat.le_of_ble_eq_true rfl⟩) hK [0] rfl hP hD hS hA [0, 1, 2] [] rfl rfl rfl rfl (by decide) rfl rfl rfl hl.1 rfl (Nat.le_of_ble_eq_true rfl) dX_placeOf_12 ⟨Nat.le_of_ble_eq_true rfl, Nat.le_of_ble_eq_true rfl⟩ (fun H locs hP hD hS => ?_)
    have hP : va_P D vwC (wX h rr cc cI N R C li us ob sl go gi fr la re) H := hP
    have hD : va_D A (wX h rr cc cI N R C li us ob sl go gi fr la re) := hD
    refine W.widen (k := 0) (n := 0) (Nat.le_of_ble_eq_true rfl) (Nat.le_of_ble_eq_true rfl) ?_
    exact W.iret (v := sr_rd N C (v + 2)) hx hb hr (fun t ht hW => ⟨⟨sr_rd N C (v + 2), (), rfl, (by simp only [sr_po, c_1, ↓reduceIte]), by rw [ht]; exact hP, va_K.moved hW.alike hK, hD⟩, hS.F ht⟩) hS.2.2 dX_placeOf_15
  · refine lv_iconst (v := 0) hx hb dX_placeOf_4 (by decide) ?_
    refine lv_goto (tgt := 15) hx hb dX_placeOf_5 (by decide) ?_
    refine W.widen (k := 0) (n := 0) (Nat.le_of_ble_eq_true rfl) (Nat.le_of_ble_eq_true rfl) ?_
    exact W.iret (v := 0) hx hb hr (fun t ht hW => ⟨⟨0, (), rfl, (by simp only [sr_po, c_1, ↓reduceIte]), by rw [ht]; exact hP, va_K.moved hW.alike hK, hD⟩, hS.F ht⟩) hS.2.2 dX_placeOf_15

set_option maxHeartbeats 4000000 in
set_option maxRecDepth 100000 in
theorem lp_X_choosePlaces {fr la re : Int32} (hx : p.tables.exec = Jvm.exec) (hb : c.code = bX_choosePlaces) (hml : c.maxLocals = 5) (hown : s.vm.findClass RX = some m.cls) (hbg : ∀ w ∈ sr_big, w.before args s = true) (hK : va_K D vwC [(cI, .int)] s) (hA : ∀ q : Nat, s.heap.size ≤ q → A q) (hN : N < 2 ^ 31) :
    ∀ (n j : Nat) (C : Nat → Int32) (t a : Int32) (H : Heap) (locs : List Loc) (ls : Array Slot), j + n = ob.toNatClampNeg → va_P D vwC (wX h rr cc cI N R C li us ob sl go gi fr la re) H → va_D A (wX h rr cc cI N R C li us ob sl go gi fr la re) → va_S A s.heap H locs → lv_has ls 5 [(0, .ref h), (1, .int t), (2, .int a), (3, .int (nI j))] →
      (∀ (a' i' : Int32) (H : Heap) (locs : List Loc) (ls : Array Slot), va_P D vwC (wX h rr cc cI N R ((sr_chp N n C t a).1) li us ob sl go gi fr la re) H → va_D A (wX h rr cc cI N R ((sr_chp N n C t a).1) li us ob sl go gi fr la re) → va_S A s.heap H locs → lv_has ls 5 [(0, .ref h), (1, .int ((sr_chp N n C t a).2)), (2, .int a'), (3, .int i')] → W p l e { frames := 2, cells := 0, slots := 0, locals := 43 } s m args below meth c H locs 0 0 Q (F0 m 57 ls [])) →
      W p l e { frames := 2, cells := 0, slots := 0, locals := 43 } s m args below meth c H locs 0 0 Q (F0 m 6 ls []) := by
  intro n
  induction n with
  | zero =>
    intro j C t a H locs ls hst hP hD hS hl kk
    refine lv_iload_n hx hb dX_choosePlaces_6 rfl (lv_at hl 3 rfl) ?_
    refine lv_aload_n hx hb dX_choosePlaces_7 rfl (lv_at hl 0 rfl) ?_
    refine va_get (D := D) (ci := 0) (v := .int ob) (C := RX) (T := TX) (N := 11) hx hb hbg bg_X hown hK hP 0 rfl rfl 4 (by decide) (hbg _ bw_55) (fun _ h9 => h9) rfl dX_choosePlaces_8 ?_
    refine lv_icmp_ge (tgt := 57) hx hb dX_choosePlaces_11 (by decide) (fun _ => ?_) (fun z => absurd ((sr_cle (by have := sr_clt ob; omega)).mpr (by omega)) z)
    exact kk a (nI j) _ _ _ hP hD hS (lv_sub hl [0, 1, 2, 3] rfl)
  | succ n ih =>
    intro j C t a H locs ls hst hP hD hS hl kk
    refine lv_iload_n hx hb dX_choosePlaces_6 rfl (lv_at hl 3 rfl) ?_
    refine lv_aload_n hx hb dX_choosePlaces_7 rfl (lv_at hl 0 rfl) ?_
    refine va_get (D := D) (ci := 0) (v := .int ob) (C := RX) (T := TX) (N := 11) hx hb hbg bg_X hown hK hP 0 rfl rfl 4 (by decide) (hbg _ bw_55) (fun _ h9 => h9) rfl dX_choosePlaces_8 ?_
    refine lv_icmp_ge (tgt := 57) hx hb dX_choosePlaces_11 (by decide) (fun z => absurd z (fun z => absurd ((sr_cle (by have := sr_clt ob; omega)).mp z) (by omega))) (fun _ => ?_)
    refine lv_aload_n hx hb dX_choosePlaces_14 rfl (lv_at hl 0 rfl) ?_
    refine lv_iload_n hx hb dX_choosePlaces_15 rfl (lv_at hl 2 rfl) ?_
    refine sy_cVi (wc := wX h rr cc cI N R C li us ob sl go gi fr la re) (wr := []) (w1 := wX h rr cc cI N R C li us ob sl go gi fr la re) (ci := 0) (q0 := 0) (As := [.int a]) (rest := []) ⟨hx, hb, hml, hown, hbg⟩ (ct_X_sizeOf l D h rr cc cI N R C li us ob sl go gi fr la re H.size a hN) (cwV 1 hbg (bg_V bw_87 bw_88 bw_3 bw_34 bw_89) rfl rfl rfl (by decide +kernel) ⟨Nat.le_of_ble_eq_true rfl, Nat.le_of_ble_eq_true rfl⟩) hK [0] rfl hP hD hS hA [0, 1, 2] [] rfl rfl rfl rfl (by decide) rfl rfl rfl hl.1 rfl (Nat.le_of_ble_eq_true rfl) dX_choosePlaces_16 ⟨Nat.le_of_ble_eq_true rfl, Nat.le_of_ble_eq_true rfl⟩ (fun H locs hP hD hS => ?_)
    have hP : va_P D vwC (wX h rr cc cI N R C li us ob sl go gi fr la re) H := hP
    have hD : va_D A (wX h rr cc cI N R C li us ob sl go gi fr la re) := hD
    refine lv_istore (lv' := [(4, .int (sr_si N C a)), (0, .ref h), (1, .int t), (2, .int a), (3, .int (nI j))]) hx hb dX_choosePlaces_19 hl (by decide) rfl (fun ls hl => ?_)
    refine lv_aload_n hx hb dX_choosePlaces_21 rfl (lv_at hl 1 rfl) ?_
    refine lv_iload_n hx hb dX_choosePlaces_22 rfl (lv_at hl 3 rfl) ?_
    refine lv_iconst (v := 2) hx hb dX_choosePlaces_23 (by decide) ?_
    refine lv_iadd hx hb dX_choosePlaces_24 ?_
    refine sy_cVi (wc := wX h rr cc cI N R C li us ob sl go gi fr la re) (wr := []) (w1 := wX h rr cc cI N R C li us ob sl go gi fr la re) (ci := 0) (q0 := 0) (As := [.int (a + 2)]) (rest := []) ⟨hx, hb, hml, hown, hbg⟩ (ct_X_read l D h rr cc cI N R C li us ob sl go gi fr la re H.size (a + 2) hN) (cwV 1 hbg (bg_V bw_90 bw_91 bw_4 bw_34 bw_92) rfl rfl rfl (by decide +kernel) ⟨Nat.le_of_ble_eq_true rfl, Nat.le_of_ble_eq_true rfl⟩) hK [0] rfl hP hD hS hA [0, 1, 2] [] rfl rfl rfl rfl (by decide) rfl rfl rfl hl.1 rfl (Nat.le_of_ble_eq_true rfl) dX_choosePlaces_25 ⟨Nat.le_of_ble_eq_true rfl, Nat.le_of_ble_eq_true rfl⟩ (fun H locs hP hD hS => ?_)
    have hP : va_P D vwC (wX h rr cc cI N R C li us ob sl go gi fr la re) H := hP
    have hD : va_D A (wX h rr cc cI N R C li us ob sl go gi fr la re) := hD
    refine lv_if_eq (tgt := 46) hx hb dX_choosePlaces_28 (by decide) (fun c_28 => ?_) (fun c_28 => ?_)
    · refine lv_iload_n hx hb dX_choosePlaces_46 rfl (lv_at hl 3 rfl) ?_
      refine lv_iload hx hb dX_choosePlaces_47 (lv_at hl 0 rfl) ?_
      refine lv_iadd hx hb dX_choosePlaces_49 ?_
      refine lv_istore_n (lv' := [(2, .int (a + (sr_si N C a))), (4, .int (sr_si N C a)), (0, .ref h), (1, .int t), (3, .int (nI j))]) hx hb dX_choosePlaces_50 rfl hl (by decide) rfl (fun ls hl => ?_)
      refine lv_iinc (v := nI (j + 1)) (lv' := [(3, .int (nI (j + 1))), (2, .int (a + (sr_si N C a))), (4, .int (sr_si N C a)), (0, .ref h), (1, .int t)]) hx hb dX_choosePlaces_51 hl (k := 4) rfl (nI_1 j) (by decide) rfl (fun ls hl => ?_)
      refine lv_goto (tgt := 6) hx hb dX_choosePlaces_54 (by decide) ?_
      have es : sr_chp N (n + 1) C t a = sr_chp N n C t (a + (sr_si N C a)) := by simp only [sr_chp, c_28, ↓reduceIte]
      rw [es] at kk
      exact ih (j + 1) C t (a + (sr_si N C a)) _ _ _ (by omega) hP hD hS (lv_sub hl [3, 4, 1, 0] rfl) kk
    · refine lv_aload_n hx hb dX_choosePlaces_31 rfl (lv_at hl 1 rfl) ?_
      refine lv_iload_n hx hb dX_choosePlaces_32 rfl (lv_at hl 3 rfl) ?_
      refine lv_iconst (v := 2) hx hb dX_choosePlaces_33 (by decide) ?_
      refine lv_iadd hx hb dX_choosePlaces_34 ?_
      refine lv_iconst (v := 1) hx hb dX_choosePlaces_35 (by decide) ?_
      refine lv_iload_n hx hb dX_choosePlaces_36 rfl (lv_at hl 2 rfl) ?_
      refine lv_iadd hx hb dX_choosePlaces_37 ?_
      refine sy_cVv (wc := wX h rr cc cI N R C li us ob sl go gi fr la re) (wr := []) (w1 := wX h rr cc cI N R (sr_wr N C (a + 2) ((1 : Int32) + t)) li us ob sl go gi fr la re) (ci := 0) (q0 := 0) (As := [.int (a + 2), .int ((1 : Int32) + t)]) (rest := []) ⟨hx, hb, hml, hown, hbg⟩ (ct_X_write l D h rr cc cI N R C li us ob sl go gi fr la re H.size (a + 2) ((1 : Int32) + t) hN) (cwV 2 hbg (bg_V bw_84 bw_85 bw_2 bw_34 bw_86) rfl rfl rfl (by decide +kernel) ⟨Nat.le_of_ble_eq_true rfl, Nat.le_of_ble_eq_true rfl⟩) hK [0] rfl hP hD hS hA [0, 1, 2] [] rfl rfl rfl rfl (by decide) rfl rfl rfl hl.1 rfl (Nat.le_of_ble_eq_true rfl) dX_choosePlaces_38 ⟨Nat.le_of_ble_eq_true rfl, Nat.le_of_ble_eq_true rfl⟩ (fun H locs hP hD hS => ?_)
      have hP : va_P D vwC (wX h rr cc cI N R (sr_wr N C (a + 2) ((1 : Int32) + t)) li us ob sl go gi fr la re) H := hP
      have hD : va_D A (wX h rr cc cI N R (sr_wr N C (a + 2) ((1 : Int32) + t)) li us ob sl go gi fr la re) := hD
      refine lv_iload_n hx hb dX_choosePlaces_41 rfl (lv_at hl 2 rfl) ?_
      refine lv_iload hx hb dX_choosePlaces_42 (lv_at hl 0 rfl) ?_
      refine lv_iadd hx hb dX_choosePlaces_44 ?_
      refine lv_istore_n (lv' := [(1, .int (t + (sr_si N C a))), (4, .int (sr_si N C a)), (0, .ref h), (2, .int a), (3, .int (nI j))]) hx hb dX_choosePlaces_45 rfl hl (by decide) rfl (fun ls hl => ?_)
      refine lv_iload_n hx hb dX_choosePlaces_46 rfl (lv_at hl 3 rfl) ?_
      refine lv_iload hx hb dX_choosePlaces_47 (lv_at hl 1 rfl) ?_
      refine lv_iadd hx hb dX_choosePlaces_49 ?_
      refine lv_istore_n (lv' := [(2, .int (a + (sr_si N C a))), (1, .int (t + (sr_si N C a))), (4, .int (sr_si N C a)), (0, .ref h), (3, .int (nI j))]) hx hb dX_choosePlaces_50 rfl hl (by decide) rfl (fun ls hl => ?_)
      refine lv_iinc (v := nI (j + 1)) (lv' := [(3, .int (nI (j + 1))), (2, .int (a + (sr_si N C a))), (1, .int (t + (sr_si N C a))), (4, .int (sr_si N C a)), (0, .ref h)]) hx hb dX_choosePlaces_51 hl (k := 4) rfl (nI_1 j) (by decide) rfl (fun ls hl => ?_)
      refine lv_goto (tgt := 6) hx hb dX_choosePlaces_54 (by decide) ?_
      have es : sr_chp N (n + 1) C t a = sr_chp N n (sr_wr N C (a + 2) ((1 : Int32) + t)) (t + (sr_si N C a)) (a + (sr_si N C a)) := by simp only [sr_chp, c_28, ↓reduceIte]
      rw [es] at kk
      exact ih (j + 1) (sr_wr N C (a + 2) ((1 : Int32) + t)) (t + (sr_si N C a)) (a + (sr_si N C a)) _ _ _ (by omega) hP hD hS (lv_sub hl [4, 2, 1, 0] rfl) kk

set_option maxHeartbeats 4000000 in
set_option maxRecDepth 100000 in
theorem ct_X_choosePlaces (l : Launch) (D : va_G) (h rr cc : Nat) (cI : ClassId) (N : Nat) (R C : Nat → Int32) (li us ob sl go gi fr la re : Int32) (sz : Nat) (hN : N < 2 ^ 31) : sy_Mi l yX_choosePlaces (Cond.code yX_choosePlaces bX_choosePlaces 5 (some .int) :: sr_big) { frames := 2, cells := 0, slots := 0, locals := 43 } D vwC [(cI, .int)] [.ref h] (wX h rr cc cI N R C li us ob sl go gi fr la re) sz ((sr_chp N ob.toNatClampNeg C 0 1).2) (wX h rr cc cI N R ((sr_chp N ob.toNatClampNeg C 0 1).1) li us ob sl go gi fr la re) 0 0 := by
  refine Met.ofW (cc := bX_choosePlaces) (maxL := 5) (ret := (some .int)) (by decide) rfl ?_
  intro p e s m args below meth c s₁ B hml hv
  obtain ⟨rfl, hsz, hP, hK, hD0⟩ := hv
  have hx := B.exec
  have hb := B.bytes
  have hr := B.returns
  have hbg : ∀ w ∈ sr_big, w.before _ s = true := fun w h => atoms_spec (ws := Cond.code yX_choosePlaces bX_choosePlaces 5 (some .int) :: sr_big) B.pre w (List.mem_cons_of_mem _ h)
  have hown : s.vm.findClass RX = some m.cls := findClass_of_methodNamed B.named
  have hlocks := B.notSynchronized
  subst hsz
  have hD := hD0.self (sz := s.heap.size)
  generalize hAe : va_A (wX h rr cc cI N R C li us ob sl go gi fr la re) s.heap.size = A at *
  have hA : ∀ q : Nat, s.heap.size ≤ q → A q := fun q h => by rw [← hAe]; exact Or.inr h
  have hS : va_S A s.heap s.heap [] := va_S.rf
  have hl := lv_entry ([.ref h]) (n := 5) (Nat.le_of_ble_eq_true rfl)
  rw [lg_entry_eq]
  generalize (lg_sl ([.ref h]) ++ List.replicate (5 - (lg_sl ([.ref h])).length) Slot.unset).toArray = ls at hl ⊢
  have hl : lv_has ls 5 [(0, .ref h)] := hl
  refine lv_iconst (v := 0) hx hb dX_choosePlaces_0 (by decide) ?_
  refine lv_istore_n (lv' := [(1, .int 0), (0, .ref h)]) hx hb dX_choosePlaces_1 rfl hl (by decide) rfl (fun ls hl => ?_)
  refine lv_iconst (v := 1) hx hb dX_choosePlaces_2 (by decide) ?_
  refine lv_istore_n (lv' := [(2, .int 1), (1, .int 0), (0, .ref h)]) hx hb dX_choosePlaces_3 rfl hl (by decide) rfl (fun ls hl => ?_)
  refine lv_iconst (v := 0) hx hb dX_choosePlaces_4 (by decide) ?_
  refine lv_istore_n (lv' := [(3, .int 0), (2, .int 1), (1, .int 0), (0, .ref h)]) hx hb dX_choosePlaces_5 rfl hl (by decide) rfl (fun ls hl => ?_)
  refine lp_X_choosePlaces hx hb hml hown hbg hK hA hN ob.toNatClampNeg 0 C 0 1 _ _ _ (by simp) hP hD hS (lv_sub hl [3, 2, 1, 0] rfl) ?_
  intro a' i' H locs ls hP hD hS hl
  refine lv_iload_n hx hb dX_choosePlaces_57 rfl (lv_at hl 1 rfl) ?_
  refine W.widen (k := 0) (n := 0) (Nat.le_of_ble_eq_true rfl) (Nat.le_of_ble_eq_true rfl) ?_
  exact W.iret (v := (sr_chp N ob.toNatClampNeg C 0 1).2) hx hb hr (fun t ht hW => ⟨⟨(sr_chp N ob.toNatClampNeg C 0 1).2, (), rfl, rfl, by rw [ht]; exact hP, va_K.moved hW.alike hK, hD⟩, hS.F ht⟩) hS.2.2 dX_choosePlaces_58

set_option maxHeartbeats 4000000 in
set_option maxRecDepth 100000 in
theorem lp_X_redirectRoots {C : Nat → Int32} {fr la re : Int32} (hx : p.tables.exec = Jvm.exec) (hb : c.code = bX_redirectRoots) (hml : c.maxLocals = 2) (hown : s.vm.findClass RX = some m.cls) (hbg : ∀ w ∈ sr_big, w.before args s = true) (hK : va_K D vwC [(cI, .int)] s) (hA : ∀ q : Nat, s.heap.size ≤ q → A q) (hN : N < 2 ^ 31) :
    ∀ (n j : Nat) (R' : Nat → Int32) (H : Heap) (locs : List Loc) (ls : Array Slot), j + n = 16 → va_P D vwC (wX h rr cc cI N R' C li us ob sl go gi fr la re) H → va_D A (wX h rr cc cI N R' C li us ob sl go gi fr la re) → va_S A s.heap H locs → lv_has ls 2 [(0, .ref h), (1, .int (nI j))] →
      (∀ (i' : Int32) (H : Heap) (locs : List Loc) (ls : Array Slot), va_P D vwC (wX h rr cc cI N (sr_rr N C n j R') C li us ob sl go gi fr la re) H → va_D A (wX h rr cc cI N (sr_rr N C n j R') C li us ob sl go gi fr la re) → va_S A s.heap H locs → lv_has ls 2 [(0, .ref h), (1, .int i')] → W p l e { frames := 2, cells := 0, slots := 0, locals := 42 } s m args below meth c H locs 0 0 Q (F0 m 33 ls [])) →
      W p l e { frames := 2, cells := 0, slots := 0, locals := 42 } s m args below meth c H locs 0 0 Q (F0 m 2 ls []) := by
  intro n
  induction n with
  | zero =>
    intro j R' H locs ls hst hP hD hS hl kk
    refine lv_iload_n hx hb dX_redirectRoots_2 rfl (lv_at hl 1 rfl) ?_
    refine lv_aload_n hx hb dX_redirectRoots_3 rfl (lv_at hl 0 rfl) ?_
    refine va_get (D := D) (ci := 0) (v := .ref rr) (C := RX) (T := TX) (N := 11) hx hb hbg bg_X hown hK hP 0 rfl rfl 0 (by decide) (hbg _ bw_51) (fun _ h9 => h9) rfl dX_redirectRoots_4 ?_
    refine va_alen hx hb hK hP 1 0 rfl rfl (v := nI 16) rfl dX_redirectRoots_7 ?_
    refine lv_icmp_ge (tgt := 33) hx hb dX_redirectRoots_8 (by decide) (fun _ => ?_) (fun z => absurd (nI_le (by omega) (by omega)) z)
    exact kk (nI j) _ _ _ hP hD hS (lv_sub hl [0, 1] rfl)
  | succ n ih =>
    intro j R' H locs ls hst hP hD hS hl kk
    refine lv_iload_n hx hb dX_redirectRoots_2 rfl (lv_at hl 1 rfl) ?_
    refine lv_aload_n hx hb dX_redirectRoots_3 rfl (lv_at hl 0 rfl) ?_
    refine va_get (D := D) (ci := 0) (v := .ref rr) (C := RX) (T := TX) (N := 11) hx hb hbg bg_X hown hK hP 0 rfl rfl 0 (by decide) (hbg _ bw_51) (fun _ h9 => h9) rfl dX_redirectRoots_4 ?_
    refine va_alen hx hb hK hP 1 0 rfl rfl (v := nI 16) rfl dX_redirectRoots_7 ?_
    refine lv_icmp_ge (tgt := 33) hx hb dX_redirectRoots_8 (by decide) (fun z => absurd z (nI_ge (by omega) (by omega))) (fun _ => ?_)
    refine lv_aload_n hx hb dX_redirectRoots_11 rfl (lv_at hl 0 rfl) ?_
    refine va_get (D := D) (ci := 0) (v := .ref rr) (C := RX) (T := TX) (N := 11) hx hb hbg bg_X hown hK hP 0 rfl rfl 0 (by decide) (hbg _ bw_51) (fun _ h9 => h9) rfl dX_redirectRoots_12 ?_
    refine lv_iload_n hx hb dX_redirectRoots_15 rfl (lv_at hl 1 rfl) ?_
    refine lv_aload_n hx hb dX_redirectRoots_16 rfl (lv_at hl 0 rfl) ?_
    refine lv_aload_n hx hb dX_redirectRoots_17 rfl (lv_at hl 0 rfl) ?_
    refine va_get (D := D) (ci := 0) (v := .ref rr) (C := RX) (T := TX) (N := 11) hx hb hbg bg_X hown hK hP 0 rfl rfl 0 (by decide) (hbg _ bw_51) (fun _ h9 => h9) rfl dX_redirectRoots_18 ?_
    refine lv_iload_n hx hb dX_redirectRoots_21 rfl (lv_at hl 1 rfl) ?_
    refine sy_iald (j := j) hx hb hK hP 1 0 rfl rfl (by omega) (by omega) dX_redirectRoots_22 ?_
    refine sy_cVi (wc := wX h rr cc cI N R' C li us ob sl go gi fr la re) (wr := []) (w1 := wX h rr cc cI N R' C li us ob sl go gi fr la re) (ci := 0) (q0 := 0) (As := [.int (R' j)]) (rest := [.int (nI j), .ref rr]) ⟨hx, hb, hml, hown, hbg⟩ (ct_X_placeOf l D h rr cc cI N R' C li us ob sl go gi fr la re H.size (R' j) hN) (cwV 1 hbg (bg_V bw_108 bw_109 bw_10 bw_34 bw_110) rfl rfl rfl (by decide +kernel) ⟨Nat.le_of_ble_eq_true rfl, Nat.le_of_ble_eq_true rfl⟩) hK [0] rfl hP hD hS hA [0, 1, 2] [] rfl rfl rfl rfl (by decide) rfl rfl rfl hl.1 rfl (Nat.le_of_ble_eq_true rfl) dX_redirectRoots_23 ⟨Nat.le_of_ble_eq_true rfl, Nat.le_of_ble_eq_true rfl⟩ (fun H locs hP hD hS => ?_)
    have hP : va_P D vwC (wX h rr cc cI N R' C li us ob sl go gi fr la re) H := hP
    have hD : va_D A (wX h rr cc cI N R' C li us ob sl go gi fr la re) := hD
    refine sy_iast (j := j) hx hb hK hP hD hS 1 0 rfl rfl (by omega) (by omega) dX_redirectRoots_26 (fun H locs hP hD hS => ?_)
    have hP : va_P D vwC (wX h rr cc cI N (upd R' j (sr_po N C (R' j))) C li us ob sl go gi fr la re) H := hP
    have hD : va_D A (wX h rr cc cI N (upd R' j (sr_po N C (R' j))) C li us ob sl go gi fr la re) := hD
    refine lv_iinc (v := nI (j + 1)) (lv' := [(1, .int (nI (j + 1))), (0, .ref h)]) hx hb dX_redirectRoots_27 hl (k := 1) rfl (nI_1 j) (by decide) rfl (fun ls hl => ?_)
    refine lv_goto (tgt := 2) hx hb dX_redirectRoots_30 (by decide) ?_
    exact ih (j + 1) (upd R' j (sr_po N C (R' j))) _ _ _ (by omega) hP hD hS (lv_sub hl [1, 0] rfl) kk

set_option maxHeartbeats 4000000 in
set_option maxRecDepth 100000 in
theorem ct_X_redirectRoots (l : Launch) (D : va_G) (h rr cc : Nat) (cI : ClassId) (N : Nat) (R C : Nat → Int32) (li us ob sl go gi fr la re : Int32) (sz : Nat) (hN : N < 2 ^ 31) : sy_Mv l yX_redirectRoots (Cond.code yX_redirectRoots bX_redirectRoots 2 none :: sr_big) { frames := 2, cells := 0, slots := 0, locals := 42 } D vwC [(cI, .int)] [.ref h] (wX h rr cc cI N R C li us ob sl go gi fr la re) sz (wX h rr cc cI N (sr_rr N C 16 0 R) C li us ob sl go gi fr la re) 0 0 := by
  refine Met.ofW (cc := bX_redirectRoots) (maxL := 2) (ret := none) (by decide) rfl ?_
  intro p e s m args below meth c s₁ B hml hv
  obtain ⟨rfl, hsz, hP, hK, hD0⟩ := hv
  have hx := B.exec
  have hb := B.bytes
  have hr := B.returns
  have hbg : ∀ w ∈ sr_big, w.before _ s = true := fun w h => atoms_spec (ws := Cond.code yX_redirectRoots bX_redirectRoots 2 none :: sr_big) B.pre w (List.mem_cons_of_mem _ h)
  have hown : s.vm.findClass RX = some m.cls := findClass_of_methodNamed B.named
  have hlocks := B.notSynchronized
  subst hsz
  have hD := hD0.self (sz := s.heap.size)
  generalize hAe : va_A (wX h rr cc cI N R C li us ob sl go gi fr la re) s.heap.size = A at *
  have hA : ∀ q : Nat, s.heap.size ≤ q → A q := fun q h => by rw [← hAe]; exact Or.inr h
  have hS : va_S A s.heap s.heap [] := va_S.rf
  have hl := lv_entry ([.ref h]) (n := 2) (Nat.le_of_ble_eq_true rfl)
  rw [lg_entry_eq]
  generalize (lg_sl ([.ref h]) ++ List.replicate (2 - (lg_sl ([.ref h])).length) Slot.unset).toArray = ls at hl ⊢
  have hl : lv_has ls 2 [(0, .ref h)] := hl
  refine lv_iconst (v := 0) hx hb dX_redirectRoots_0 (by decide) ?_
  refine lv_istore_n (lv' := [(1, .int 0), (0, .ref h)]) hx hb dX_redirectRoots_1 rfl hl (by decide) rfl (fun ls hl => ?_)
  refine lp_X_redirectRoots hx hb hml hown hbg hK hA hN 16 0 R _ _ _ (by simp) hP hD hS (lv_sub hl [1, 0] rfl) ?_
  intro i' H locs ls hP hD hS hl
  refine W.widen (k := 0) (n := 0) (Nat.le_of_ble_eq_true rfl) (Nat.le_of_ble_eq_true rfl) ?_
  exact W.vret hx hb hr (fun t ht hW => ⟨⟨(), rfl, trivial, by rw [ht]; exact hP, va_K.moved hW.alike hK, hD⟩, hS.F ht⟩) hS.2.2 dX_redirectRoots_33

set_option maxHeartbeats 4000000 in
set_option maxRecDepth 100000 in
theorem lp_X_redirectFieldsOf {a k : Int32} {fr la re : Int32} (hx : p.tables.exec = Jvm.exec) (hb : c.code = bX_redirectFieldsOf) (hml : c.maxLocals = 5) (hown : s.vm.findClass RX = some m.cls) (hbg : ∀ w ∈ sr_big, w.before args s = true) (hK : va_K D vwC [(cI, .int)] s) (hA : ∀ q : Nat, s.heap.size ≤ q → A q) (hN : N < 2 ^ 31) :
    ∀ (n j : Nat) (C : Nat → Int32) (H : Heap) (locs : List Loc) (ls : Array Slot), j + n = k.toNatClampNeg → va_P D vwC (wX h rr cc cI N R C li us ob sl go gi fr la re) H → va_D A (wX h rr cc cI N R C li us ob sl go gi fr la re) → va_S A s.heap H locs → lv_has ls 5 [(0, .ref h), (1, .int a), (2, .int k), (3, .int (nI j))] →
      (∀ (i' : Int32) (H : Heap) (locs : List Loc) (ls : Array Slot), va_P D vwC (wX h rr cc cI N R (sr_rdf N a n j C) li us ob sl go gi fr la re) H → va_D A (wX h rr cc cI N R (sr_rdf N a n j C) li us ob sl go gi fr la re) → va_S A s.heap H locs → lv_has ls 5 [(0, .ref h), (1, .int a), (2, .int k), (3, .int i')] → W p l e { frames := 2, cells := 0, slots := 0, locals := 42 } s m args below meth c H locs 0 0 Q (F0 m 42 ls [])) →
      W p l e { frames := 2, cells := 0, slots := 0, locals := 42 } s m args below meth c H locs 0 0 Q (F0 m 8 ls []) := by
  intro n
  induction n with
  | zero =>
    intro j C H locs ls hst hP hD hS hl kk
    refine lv_iload_n hx hb dX_redirectFieldsOf_8 rfl (lv_at hl 3 rfl) ?_
    refine lv_iload_n hx hb dX_redirectFieldsOf_9 rfl (lv_at hl 2 rfl) ?_
    refine lv_icmp_ge (tgt := 42) hx hb dX_redirectFieldsOf_10 (by decide) (fun _ => ?_) (fun z => absurd ((sr_cle (by have := sr_clt k; omega)).mpr (by omega)) z)
    exact kk (nI j) _ _ _ hP hD hS (lv_sub hl [0, 1, 2, 3] rfl)
  | succ n ih =>
    intro j C H locs ls hst hP hD hS hl kk
    refine lv_iload_n hx hb dX_redirectFieldsOf_8 rfl (lv_at hl 3 rfl) ?_
    refine lv_iload_n hx hb dX_redirectFieldsOf_9 rfl (lv_at hl 2 rfl) ?_
    refine lv_icmp_ge (tgt := 42) hx hb dX_redirectFieldsOf_10 (by decide) (fun z => absurd z (fun z => absurd ((sr_cle (by have := sr_clt k; omega)).mp z) (by omega))) (fun _ => ?_)
    refine lv_iload_n hx hb dX_redirectFieldsOf_13 rfl (lv_at hl 1 rfl) ?_
    refine lv_iconst (v := 3) hx hb dX_redirectFieldsOf_14 (by decide) ?_
    refine lv_iadd hx hb dX_redirectFieldsOf_15 ?_
    refine lv_iload_n hx hb dX_redirectFieldsOf_16 rfl (lv_at hl 3 rfl) ?_
    refine lv_iadd hx hb dX_redirectFieldsOf_17 ?_
    refine lv_istore (lv' := [(4, .int ((a + 3) + (nI j))), (0, .ref h), (1, .int a), (2, .int k), (3, .int (nI j))]) hx hb dX_redirectFieldsOf_18 hl (by decide) rfl (fun ls hl => ?_)
    refine lv_aload_n hx hb dX_redirectFieldsOf_20 rfl (lv_at hl 1 rfl) ?_
    refine lv_iload hx hb dX_redirectFieldsOf_21 (lv_at hl 0 rfl) ?_
    refine lv_aload_n hx hb dX_redirectFieldsOf_23 rfl (lv_at hl 1 rfl) ?_
    refine lv_aload_n hx hb dX_redirectFieldsOf_24 rfl (lv_at hl 1 rfl) ?_
    refine lv_iload hx hb dX_redirectFieldsOf_25 (lv_at hl 0 rfl) ?_
    refine sy_cVi (wc := wX h rr cc cI N R C li us ob sl go gi fr la re) (wr := []) (w1 := wX h rr cc cI N R C li us ob sl go gi fr la re) (ci := 0) (q0 := 0) (As := [.int ((a + 3) + (nI j))]) (rest := [.ref h, .int ((a + 3) + (nI j)), .ref h]) ⟨hx, hb, hml, hown, hbg⟩ (ct_X_read l D h rr cc cI N R C li us ob sl go gi fr la re H.size ((a + 3) + (nI j)) hN) (cwV 1 hbg (bg_V bw_90 bw_91 bw_4 bw_34 bw_92) rfl rfl rfl (by decide +kernel) ⟨Nat.le_of_ble_eq_true rfl, Nat.le_of_ble_eq_true rfl⟩) hK [0] rfl hP hD hS hA [0, 1, 2] [] rfl rfl rfl rfl (by decide) rfl rfl rfl hl.1 rfl (Nat.le_of_ble_eq_true rfl) dX_redirectFieldsOf_27 ⟨Nat.le_of_ble_eq_true rfl, Nat.le_of_ble_eq_true rfl⟩ (fun H locs hP hD hS => ?_)
    have hP : va_P D vwC (wX h rr cc cI N R C li us ob sl go gi fr la re) H := hP
    have hD : va_D A (wX h rr cc cI N R C li us ob sl go gi fr la re) := hD
    refine sy_cVi (wc := wX h rr cc cI N R C li us ob sl go gi fr la re) (wr := []) (w1 := wX h rr cc cI N R C li us ob sl go gi fr la re) (ci := 0) (q0 := 0) (As := [.int (sr_rd N C ((a + 3) + (nI j)))]) (rest := [.int ((a + 3) + (nI j)), .ref h]) ⟨hx, hb, hml, hown, hbg⟩ (ct_X_placeOf l D h rr cc cI N R C li us ob sl go gi fr la re H.size (sr_rd N C ((a + 3) + (nI j))) hN) (cwV 1 hbg (bg_V bw_108 bw_109 bw_10 bw_34 bw_110) rfl rfl rfl (by decide +kernel) ⟨Nat.le_of_ble_eq_true rfl, Nat.le_of_ble_eq_true rfl⟩) hK [0] rfl hP hD hS hA [0, 1, 2] [] rfl rfl rfl rfl (by decide) rfl rfl rfl hl.1 rfl (Nat.le_of_ble_eq_true rfl) dX_redirectFieldsOf_30 ⟨Nat.le_of_ble_eq_true rfl, Nat.le_of_ble_eq_true rfl⟩ (fun H locs hP hD hS => ?_)
    have hP : va_P D vwC (wX h rr cc cI N R C li us ob sl go gi fr la re) H := hP
    have hD : va_D A (wX h rr cc cI N R C li us ob sl go gi fr la re) := hD
    refine sy_cVv (wc := wX h rr cc cI N R C li us ob sl go gi fr la re) (wr := []) (w1 := wX h rr cc cI N R (sr_wr N C ((a + 3) + (nI j)) (sr_po N C (sr_rd N C ((a + 3) + (nI j))))) li us ob sl go gi fr la re) (ci := 0) (q0 := 0) (As := [.int ((a + 3) + (nI j)), .int (sr_po N C (sr_rd N C ((a + 3) + (nI j))))]) (rest := []) ⟨hx, hb, hml, hown, hbg⟩ (ct_X_write l D h rr cc cI N R C li us ob sl go gi fr la re H.size ((a + 3) + (nI j)) (sr_po N C (sr_rd N C ((a + 3) + (nI j)))) hN) (cwV 2 hbg (bg_V bw_84 bw_85 bw_2 bw_34 bw_86) rfl rfl rfl (by decide +kernel) ⟨Nat.le_of_ble_eq_true rfl, Nat.le_of_ble_eq_true rfl⟩) hK [0] rfl hP hD hS hA [0, 1, 2] [] rfl rfl rfl rfl (by decide) rfl rfl rfl hl.1 rfl (Nat.le_of_ble_eq_true rfl) dX_redirectFieldsOf_33 ⟨Nat.le_of_ble_eq_true rfl, Nat.le_of_ble_eq_true rfl⟩ (fun H locs hP hD hS => ?_)
    have hP : va_P D vwC (wX h rr cc cI N R (sr_wr N C ((a + 3) + (nI j)) (sr_po N C (sr_rd N C ((a + 3) + (nI j))))) li us ob sl go gi fr la re) H := hP
    have hD : va_D A (wX h rr cc cI N R (sr_wr N C ((a + 3) + (nI j)) (sr_po N C (sr_rd N C ((a + 3) + (nI j))))) li us ob sl go gi fr la re) := hD
    refine lv_iinc (v := nI (j + 1)) (lv' := [(3, .int (nI (j + 1))), (4, .int ((a + 3) + (nI j))), (0, .ref h), (1, .int a), (2, .int k)]) hx hb dX_redirectFieldsOf_36 hl (k := 4) rfl (nI_1 j) (by decide) rfl (fun ls hl => ?_)
    refine lv_goto (tgt := 8) hx hb dX_redirectFieldsOf_39 (by decide) ?_
    exact ih (j + 1) (sr_wr N C ((a + 3) + (nI j)) (sr_po N C (sr_rd N C ((a + 3) + (nI j))))) _ _ _ (by omega) hP hD hS (lv_sub hl [2, 3, 4, 0] rfl) kk

set_option maxHeartbeats 4000000 in
set_option maxRecDepth 100000 in
theorem ct_X_redirectFieldsOf (l : Launch) (D : va_G) (h rr cc : Nat) (cI : ClassId) (N : Nat) (R C : Nat → Int32) (li us ob sl go gi fr la re : Int32) (sz : Nat) (a : Int32) (hN : N < 2 ^ 31) : sy_Mv l yX_redirectFieldsOf (Cond.code yX_redirectFieldsOf bX_redirectFieldsOf 5 none :: sr_big) { frames := 2, cells := 0, slots := 0, locals := 42 } D vwC [(cI, .int)] [.ref h, .int a] (wX h rr cc cI N R C li us ob sl go gi fr la re) sz (wX h rr cc cI N R (sr_rdf N a (sr_fi N C a).toNatClampNeg 0 C) li us ob sl go gi fr la re) 0 0 := by
  refine Met.ofW (cc := bX_redirectFieldsOf) (maxL := 5) (ret := none) (by decide) rfl ?_
  intro p e s m args below meth c s₁ B hml hv
  obtain ⟨rfl, hsz, hP, hK, hD0⟩ := hv
  have hx := B.exec
  have hb := B.bytes
  have hr := B.returns
  have hbg : ∀ w ∈ sr_big, w.before _ s = true := fun w h => atoms_spec (ws := Cond.code yX_redirectFieldsOf bX_redirectFieldsOf 5 none :: sr_big) B.pre w (List.mem_cons_of_mem _ h)
  have hown : s.vm.findClass RX = some m.cls := findClass_of_methodNamed B.named
  have hlocks := B.notSynchronized
  subst hsz
  have hD := hD0.self (sz := s.heap.size)
  generalize hAe : va_A (wX h rr cc cI N R C li us ob sl go gi fr la re) s.heap.size = A at *
  have hA : ∀ q : Nat, s.heap.size ≤ q → A q := fun q h => by rw [← hAe]; exact Or.inr h
  have hS : va_S A s.heap s.heap [] := va_S.rf
  have hl := lv_entry ([.ref h, .int a]) (n := 5) (Nat.le_of_ble_eq_true rfl)
  rw [lg_entry_eq]
  generalize (lg_sl ([.ref h, .int a]) ++ List.replicate (5 - (lg_sl ([.ref h, .int a])).length) Slot.unset).toArray = ls at hl ⊢
  have hl : lv_has ls 5 [(0, .ref h), (1, .int a)] := hl
  refine lv_aload_n hx hb dX_redirectFieldsOf_0 rfl (lv_at hl 0 rfl) ?_
  refine lv_iload_n hx hb dX_redirectFieldsOf_1 rfl (lv_at hl 1 rfl) ?_
  refine sy_cVi (wc := wX h rr cc cI N R C li us ob sl go gi fr la re) (wr := []) (w1 := wX h rr cc cI N R C li us ob sl go gi fr la re) (ci := 0) (q0 := 0) (As := [.int a]) (rest := []) ⟨hx, hb, hml, hown, hbg⟩ (ct_X_fieldsOf l D h rr cc cI N R C li us ob sl go gi fr la re s.heap.size a hN) (cwV 1 hbg (bg_V bw_99 bw_100 bw_7 bw_34 bw_101) rfl rfl rfl (by decide +kernel) ⟨Nat.le_of_ble_eq_true rfl, Nat.le_of_ble_eq_true rfl⟩) hK [0] rfl hP hD hS hA [0, 1, 2] [] rfl rfl rfl rfl (by decide) rfl rfl rfl hl.1 rfl (Nat.le_of_ble_eq_true rfl) dX_redirectFieldsOf_2 ⟨Nat.le_of_ble_eq_true rfl, Nat.le_of_ble_eq_true rfl⟩ (fun H locs hP hD hS => ?_)
  have hP : va_P D vwC (wX h rr cc cI N R C li us ob sl go gi fr la re) H := hP
  have hD : va_D A (wX h rr cc cI N R C li us ob sl go gi fr la re) := hD
  refine lv_istore_n (lv' := [(2, .int (sr_fi N C a)), (0, .ref h), (1, .int a)]) hx hb dX_redirectFieldsOf_5 rfl hl (by decide) rfl (fun ls hl => ?_)
  refine lv_iconst (v := 0) hx hb dX_redirectFieldsOf_6 (by decide) ?_
  refine lv_istore_n (lv' := [(3, .int 0), (2, .int (sr_fi N C a)), (0, .ref h), (1, .int a)]) hx hb dX_redirectFieldsOf_7 rfl hl (by decide) rfl (fun ls hl => ?_)
  refine lp_X_redirectFieldsOf hx hb hml hown hbg hK hA hN (sr_fi N C a).toNatClampNeg 0 C _ _ _ (by simp) hP hD hS (lv_sub hl [2, 3, 1, 0] rfl) ?_
  intro i' H locs ls hP hD hS hl
  refine W.widen (k := 0) (n := 0) (Nat.le_of_ble_eq_true rfl) (Nat.le_of_ble_eq_true rfl) ?_
  exact W.vret hx hb hr (fun t ht hW => ⟨⟨(), rfl, trivial, by rw [ht]; exact hP, va_K.moved hW.alike hK, hD⟩, hS.F ht⟩) hS.2.2 dX_redirectFieldsOf_42

set_option maxHeartbeats 4000000 in
set_option maxRecDepth 100000 in
theorem lp_X_redirectFields {fr la re : Int32} (hx : p.tables.exec = Jvm.exec) (hb : c.code = bX_redirectFields) (hml : c.maxLocals = 3) (hown : s.vm.findClass RX = some m.cls) (hbg : ∀ w ∈ sr_big, w.before args s = true) (hK : va_K D vwC [(cI, .int)] s) (hA : ∀ q : Nat, s.heap.size ≤ q → A q) (hN : N < 2 ^ 31) :
    ∀ (n j : Nat) (C : Nat → Int32) (a : Int32) (H : Heap) (locs : List Loc) (ls : Array Slot), j + n = ob.toNatClampNeg → va_P D vwC (wX h rr cc cI N R C li us ob sl go gi fr la re) H → va_D A (wX h rr cc cI N R C li us ob sl go gi fr la re) → va_S A s.heap H locs → lv_has ls 3 [(0, .ref h), (1, .int a), (2, .int (nI j))] →
      (∀ (a' i' : Int32) (H : Heap) (locs : List Loc) (ls : Array Slot), va_P D vwC (wX h rr cc cI N R (sr_rfs N n C a) li us ob sl go gi fr la re) H → va_D A (wX h rr cc cI N R (sr_rfs N n C a) li us ob sl go gi fr la re) → va_S A s.heap H locs → lv_has ls 3 [(0, .ref h), (1, .int a'), (2, .int i')] → W p l e { frames := 3, cells := 0, slots := 0, locals := 66 } s m args below meth c H locs 0 0 Q (F0 m 41 ls [])) →
      W p l e { frames := 3, cells := 0, slots := 0, locals := 66 } s m args below meth c H locs 0 0 Q (F0 m 4 ls []) := by
  intro n
  induction n with
  | zero =>
    intro j C a H locs ls hst hP hD hS hl kk
    refine lv_iload_n hx hb dX_redirectFields_4 rfl (lv_at hl 2 rfl) ?_
    refine lv_aload_n hx hb dX_redirectFields_5 rfl (lv_at hl 0 rfl) ?_
    refine va_get (D := D) (ci := 0) (v := .int ob) (C := RX) (T := TX) (N := 11) hx hb hbg bg_X hown hK hP 0 rfl rfl 4 (by decide) (hbg _ bw_55) (fun _ h9 => h9) rfl dX_redirectFields_6 ?_
    refine lv_icmp_ge (tgt := 41) hx hb dX_redirectFields_9 (by decide) (fun _ => ?_) (fun z => absurd ((sr_cle (by have := sr_clt ob; omega)).mpr (by omega)) z)
    exact kk a (nI j) _ _ _ hP hD hS (lv_sub hl [0, 1, 2] rfl)
  | succ n ih =>
    intro j C a H locs ls hst hP hD hS hl kk
    refine lv_iload_n hx hb dX_redirectFields_4 rfl (lv_at hl 2 rfl) ?_
    refine lv_aload_n hx hb dX_redirectFields_5 rfl (lv_at hl 0 rfl) ?_
    refine va_get (D := D) (ci := 0) (v := .int ob) (C := RX) (T := TX) (N := 11) hx hb hbg bg_X hown hK hP 0 rfl rfl 4 (by decide) (hbg _ bw_55) (fun _ h9 => h9) rfl dX_redirectFields_6 ?_
    refine lv_icmp_ge (tgt := 41) hx hb dX_redirectFields_9 (by decide) (fun z => absurd z (fun z => absurd ((sr_cle (by have := sr_clt ob; omega)).mp z) (by omega))) (fun _ => ?_)
    refine lv_aload_n hx hb dX_redirectFields_12 rfl (lv_at hl 0 rfl) ?_
    refine lv_iload_n hx hb dX_redirectFields_13 rfl (lv_at hl 1 rfl) ?_
    refine lv_iconst (v := 2) hx hb dX_redirectFields_14 (by decide) ?_
    refine lv_iadd hx hb dX_redirectFields_15 ?_
    refine sy_cVi (wc := wX h rr cc cI N R C li us ob sl go gi fr la re) (wr := []) (w1 := wX h rr cc cI N R C li us ob sl go gi fr la re) (ci := 0) (q0 := 0) (As := [.int (a + 2)]) (rest := []) ⟨hx, hb, hml, hown, hbg⟩ (ct_X_read l D h rr cc cI N R C li us ob sl go gi fr la re H.size (a + 2) hN) (cwV 1 hbg (bg_V bw_90 bw_91 bw_4 bw_34 bw_92) rfl rfl rfl (by decide +kernel) ⟨Nat.le_of_ble_eq_true rfl, Nat.le_of_ble_eq_true rfl⟩) hK [0] rfl hP hD hS hA [0, 1, 2] [] rfl rfl rfl rfl (by decide) rfl rfl rfl hl.1 rfl (Nat.le_of_ble_eq_true rfl) dX_redirectFields_16 ⟨Nat.le_of_ble_eq_true rfl, Nat.le_of_ble_eq_true rfl⟩ (fun H locs hP hD hS => ?_)
    have hP : va_P D vwC (wX h rr cc cI N R C li us ob sl go gi fr la re) H := hP
    have hD : va_D A (wX h rr cc cI N R C li us ob sl go gi fr la re) := hD
    refine lv_if_eq (tgt := 27) hx hb dX_redirectFields_19 (by decide) (fun c_19 => ?_) (fun c_19 => ?_)
    · refine lv_iload_n hx hb dX_redirectFields_27 rfl (lv_at hl 1 rfl) ?_
      refine lv_aload_n hx hb dX_redirectFields_28 rfl (lv_at hl 0 rfl) ?_
      refine lv_iload_n hx hb dX_redirectFields_29 rfl (lv_at hl 1 rfl) ?_
      refine sy_cVi (wc := wX h rr cc cI N R C li us ob sl go gi fr la re) (wr := []) (w1 := wX h rr cc cI N R C li us ob sl go gi fr la re) (ci := 0) (q0 := 0) (As := [.int a]) (rest := [.int a]) ⟨hx, hb, hml, hown, hbg⟩ (ct_X_sizeOf l D h rr cc cI N R C li us ob sl go gi fr la re H.size a hN) (cwV 1 hbg (bg_V bw_87 bw_88 bw_3 bw_34 bw_89) rfl rfl rfl (by decide +kernel) ⟨Nat.le_of_ble_eq_true rfl, Nat.le_of_ble_eq_true rfl⟩) hK [0] rfl hP hD hS hA [0, 1, 2] [] rfl rfl rfl rfl (by decide) rfl rfl rfl hl.1 rfl (Nat.le_of_ble_eq_true rfl) dX_redirectFields_30 ⟨Nat.le_of_ble_eq_true rfl, Nat.le_of_ble_eq_true rfl⟩ (fun H locs hP hD hS => ?_)
      have hP : va_P D vwC (wX h rr cc cI N R C li us ob sl go gi fr la re) H := hP
      have hD : va_D A (wX h rr cc cI N R C li us ob sl go gi fr la re) := hD
      refine lv_iadd hx hb dX_redirectFields_33 ?_
      refine lv_istore_n (lv' := [(1, .int (a + (sr_si N C a))), (0, .ref h), (2, .int (nI j))]) hx hb dX_redirectFields_34 rfl hl (by decide) rfl (fun ls hl => ?_)
      refine lv_iinc (v := nI (j + 1)) (lv' := [(2, .int (nI (j + 1))), (1, .int (a + (sr_si N C a))), (0, .ref h)]) hx hb dX_redirectFields_35 hl (k := 2) rfl (nI_1 j) (by decide) rfl (fun ls hl => ?_)
      refine lv_goto (tgt := 4) hx hb dX_redirectFields_38 (by decide) ?_
      have es : sr_rfs N (n + 1) C a = sr_rfs N n C (a + (sr_si N C a)) := by simp only [sr_rfs, c_19, ↓reduceIte]
      rw [es] at kk
      exact ih (j + 1) C (a + (sr_si N C a)) _ _ _ (by omega) hP hD hS (lv_sub hl [2, 1, 0] rfl) kk
    · refine lv_aload_n hx hb dX_redirectFields_22 rfl (lv_at hl 0 rfl) ?_
      refine lv_iload_n hx hb dX_redirectFields_23 rfl (lv_at hl 1 rfl) ?_
      refine sy_cVv (wc := wX h rr cc cI N R C li us ob sl go gi fr la re) (wr := []) (w1 := wX h rr cc cI N R (sr_rdf N a (sr_fi N C a).toNatClampNeg 0 C) li us ob sl go gi fr la re) (ci := 0) (q0 := 0) (As := [.int a]) (rest := []) ⟨hx, hb, hml, hown, hbg⟩ (ct_X_redirectFieldsOf l D h rr cc cI N R C li us ob sl go gi fr la re H.size a hN) (cwV 1 hbg (bg_V bw_114 bw_115 bw_12 bw_34 bw_116) rfl rfl rfl (by decide +kernel) ⟨Nat.le_of_ble_eq_true rfl, Nat.le_of_ble_eq_true rfl⟩) hK [0] rfl hP hD hS hA [0, 1, 2] [] rfl rfl rfl rfl (by decide) rfl rfl rfl hl.1 rfl (Nat.le_of_ble_eq_true rfl) dX_redirectFields_24 ⟨Nat.le_of_ble_eq_true rfl, Nat.le_of_ble_eq_true rfl⟩ (fun H locs hP hD hS => ?_)
      have hP : va_P D vwC (wX h rr cc cI N R (sr_rdf N a (sr_fi N C a).toNatClampNeg 0 C) li us ob sl go gi fr la re) H := hP
      have hD : va_D A (wX h rr cc cI N R (sr_rdf N a (sr_fi N C a).toNatClampNeg 0 C) li us ob sl go gi fr la re) := hD
      refine lv_iload_n hx hb dX_redirectFields_27 rfl (lv_at hl 1 rfl) ?_
      refine lv_aload_n hx hb dX_redirectFields_28 rfl (lv_at hl 0 rfl) ?_
      refine lv_iload_n hx hb dX_redirectFields_29 rfl (lv_at hl 1 rfl) ?_
      refine sy_cVi (wc := wX h rr cc cI N R (sr_rdf N a (sr_fi N C a).toNatClampNeg 0 C) li us ob sl go gi fr la re) (wr := []) (w1 := wX h rr cc cI N R (sr_rdf N a (sr_fi N C a).toNatClampNeg 0 C) li us ob sl go gi fr la re) (ci := 0) (q0 := 0) (As := [.int a]) (rest := [.int a]) ⟨hx, hb, hml, hown, hbg⟩ (ct_X_sizeOf l D h rr cc cI N R (sr_rdf N a (sr_fi N C a).toNatClampNeg 0 C) li us ob sl go gi fr la re H.size a hN) (cwV 1 hbg (bg_V bw_87 bw_88 bw_3 bw_34 bw_89) rfl rfl rfl (by decide +kernel) ⟨Nat.le_of_ble_eq_true rfl, Nat.le_of_ble_eq_true rfl⟩) hK [0] rfl hP hD hS hA [0, 1, 2] [] rfl rfl rfl rfl (by decide) rfl rfl rfl hl.1 rfl (Nat.le_of_ble_eq_true rfl) dX_redirectFields_30 ⟨Nat.le_of_ble_eq_true rfl, Nat.le_of_ble_eq_true rfl⟩ (fun H locs hP hD hS => ?_)
      have hP : va_P D vwC (wX h rr cc cI N R (sr_rdf N a (sr_fi N C a).toNatClampNeg 0 C) li us ob sl go gi fr la re) H := hP
      have hD : va_D A (wX h rr cc cI N R (sr_rdf N a (sr_fi N C a).toNatClampNeg 0 C) li us ob sl go gi fr la re) := hD
      refine lv_iadd hx hb dX_redirectFields_33 ?_
      refine lv_istore_n (lv' := [(1, .int (a + (sr_si N (sr_rdf N a (sr_fi N C a).toNatClampNeg 0 C) a))), (0, .ref h), (2, .int (nI j))]) hx hb dX_redirectFields_34 rfl hl (by decide) rfl (fun ls hl => ?_)
      refine lv_iinc (v := nI (j + 1)) (lv' := [(2, .int (nI (j + 1))), (1, .int (a + (sr_si N (sr_rdf N a (sr_fi N C a).toNatClampNeg 0 C) a))), (0, .ref h)]) hx hb dX_redirectFields_35 hl (k := 2) rfl (nI_1 j) (by decide) rfl (fun ls hl => ?_)
      refine lv_goto (tgt := 4) hx hb dX_redirectFields_38 (by decide) ?_
      have es : sr_rfs N (n + 1) C a = sr_rfs N n (sr_rdf N a (sr_fi N C a).toNatClampNeg 0 C) (a + (sr_si N (sr_rdf N a (sr_fi N C a).toNatClampNeg 0 C) a)) := by simp only [sr_rfs, c_19, ↓reduceIte]
      rw [es] at kk
      exact ih (j + 1) (sr_rdf N a (sr_fi N C a).toNatClampNeg 0 C) (a + (sr_si N (sr_rdf N a (sr_fi N C a).toNatClampNeg 0 C) a)) _ _ _ (by omega) hP hD hS (lv_sub hl [2, 1, 0] rfl) kk

set_option maxHeartbeats 4000000 in
set_option maxRecDepth 100000 in
theorem ct_X_redirectFields (l : Launch) (D : va_G) (h rr cc : Nat) (cI : ClassId) (N : Nat) (R C : Nat → Int32) (li us ob sl go gi fr la re : Int32) (sz : Nat) (hN : N < 2 ^ 31) : sy_Mv l yX_redirectFields (Cond.code yX_redirectFields bX_redirectFields 3 none :: sr_big) { frames := 3, cells := 0, slots := 0, locals := 66 } D vwC [(cI, .int)] [.ref h] (wX h rr cc cI N R C li us ob sl go gi fr la re) sz (wX h rr cc cI N R (sr_rfs N ob.toNatClampNeg C 1) li us ob sl go gi fr la re) 0 0 := by
  refine Met.ofW (cc := bX_redirectFields) (maxL := 3) (ret := none) (by decide) rfl ?_
  intro p e s m args below meth c s₁ B hml hv
  obtain ⟨rfl, hsz, hP, hK, hD0⟩ := hv
  have hx := B.exec
  have hb := B.bytes
  have hr := B.returns
  have hbg : ∀ w ∈ sr_big, w.before _ s = true := fun w h => atoms_spec (ws := Cond.code yX_redirectFields bX_redirectFields 3 none :: sr_big) B.pre w (List.mem_cons_of_mem _ h)
  have hown : s.vm.findClass RX = some m.cls := findClass_of_methodNamed B.named
  have hlocks := B.notSynchronized
  subst hsz
  have hD := hD0.self (sz := s.heap.size)
  generalize hAe : va_A (wX h rr cc cI N R C li us ob sl go gi fr la re) s.heap.size = A at *
  have hA : ∀ q : Nat, s.heap.size ≤ q → A q := fun q h => by rw [← hAe]; exact Or.inr h
  have hS : va_S A s.heap s.heap [] := va_S.rf
  have hl := lv_entry ([.ref h]) (n := 3) (Nat.le_of_ble_eq_true rfl)
  rw [lg_entry_eq]
  generalize (lg_sl ([.ref h]) ++ List.replicate (3 - (lg_sl ([.ref h])).length) Slot.unset).toArray = ls at hl ⊢
  have hl : lv_has ls 3 [(0, .ref h)] := hl
  refine lv_iconst (v := 1) hx hb dX_redirectFields_0 (by decide) ?_
  refine lv_istore_n (lv' := [(1, .int 1), (0, .ref h)]) hx hb dX_redirectFields_1 rfl hl (by decide) rfl (fun ls hl => ?_)
  refine lv_iconst (v := 0) hx hb dX_redirectFields_2 (by decide) ?_
  refine lv_istore_n (lv' := [(2, .int 0), (1, .int 1), (0, .ref h)]) hx hb dX_redirectFields_3 rfl hl (by decide) rfl (fun ls hl => ?_)
  refine lp_X_redirectFields hx hb hml hown hbg hK hA hN ob.toNatClampNeg 0 C 1 _ _ _ (by simp) hP hD hS (lv_sub hl [2, 1, 0] rfl) ?_
  intro a' i' H locs ls hP hD hS hl
  refine W.widen (k := 0) (n := 0) (Nat.le_of_ble_eq_true rfl) (Nat.le_of_ble_eq_true rfl) ?_
  exact W.vret hx hb hr (fun t ht hW => ⟨⟨(), rfl, trivial, by rw [ht]; exact hP, va_K.moved hW.alike hK, hD⟩, hS.F ht⟩) hS.2.2 dX_redirectFields_41

set_option maxHeartbeats 4000000 in
set_option maxRecDepth 100000 in
theorem ct_X_moveCells (l : Launch) (D : va_G) (h rr cc : Nat) (cI : ClassId) (N : Nat) (R C : Nat → Int32) (li us ob sl go gi fr la re : Int32) (sz : Nat) (a b k : Int32) (hN : N < 2 ^ 31) : sy_Mv l yX_moveCells (Cond.code yX_moveCells bX_moveCells 4 none :: sr_big) { frames := 1, cells := 0, slots := 0, locals := 60 } D vwC [(cI, .int)] [.ref h, .int a, .int b, .int k] (wX h rr cc cI N R C li us ob sl go gi fr la re) sz (wX h rr cc cI N R (sr_mvc N C a b k) li us ob sl go gi fr la re) 0 0 := by
  refine Met.ofW (cc := bX_moveCells) (maxL := 4) (ret := none) (by decide) rfl ?_
  intro p e s m args below meth c s₁ B hml hv
  obtain ⟨rfl, hsz, hP, hK, hD0⟩ := hv
  have hx := B.exec
  have hb := B.bytes
  have hr := B.returns
  have hbg : ∀ w ∈ sr_big, w.before _ s = true := fun w h => atoms_spec (ws := Cond.code yX_moveCells bX_moveCells 4 none :: sr_big) B.pre w (List.mem_cons_of_mem _ h)
  have hown : s.vm.findClass RX = some m.cls := findClass_of_methodNamed B.named
  have hlocks := B.notSynchronized
  subst hsz
  have hD := hD0.self (sz := s.heap.size)
  generalize hAe : va_A (wX h rr cc cI N R C li us ob sl go gi fr la re) s.heap.size = A at *
  have hA : ∀ q : Nat, s.heap.size ≤ q → A q := fun q h => by rw [← hAe]; exact Or.inr h
  have hS : va_S A s.heap s.heap [] := va_S.rf
  have hl := lv_entry ([.ref h, .int a, .int b, .int k]) (n := 4) (Nat.le_of_ble_eq_true rfl)
  rw [lg_entry_eq]
  generalize (lg_sl ([.ref h, .int a, .int b, .int k]) ++ List.replicate (4 - (lg_sl ([.ref h, .int a, .int b, .int k])).length) Slot.unset).toArray = ls at hl ⊢
  have hl : lv_has ls 4 [(0, .ref h), (1, .int a), (2, .int b), (3, .int k)] := hl
  refine lv_iload_n hx hb dX_moveCells_0 rfl (lv_at hl 2 rfl) ?_
  refine lv_iconst (v := 1) hx hb dX_moveCells_1 (by decide) ?_
  refine lv_icmp_lt (tgt := 39) hx hb dX_moveCells_2 (by decide) (fun c_2 => ?_) (fun c_2 => ?_)
  · have eq : sr_mvc N C a b k = C := by simp only [sr_mvc, c_2, ↓reduceIte]
    rw [eq]
    refine W.widen (k := 0) (n := 0) (Nat.le_of_ble_eq_true rfl) (Nat.le_of_ble_eq_true rfl) ?_
    exact W.vret hx hb hr (fun t ht hW => ⟨⟨(), rfl, trivial, by rw [ht]; exact hP, va_K.moved hW.alike hK, hD⟩, hS.F ht⟩) hS.2.2 dX_moveCells_39
  · refine lv_iload_n hx hb dX_moveCells_5 rfl (lv_at hl 2 rfl) ?_
    refine lv_iload_n hx hb dX_moveCells_6 rfl (lv_at hl 1 rfl) ?_
    refine lv_icmp_ge (tgt := 39) hx hb dX_moveCells_7 (by decide) (fun c_7 => ?_) (fun c_7 => ?_)
    · have eq : sr_mvc N C a b k = C := by simp only [sr_mvc, c_2, c_7, ↓reduceIte]
      rw [eq]
      refine W.widen (k := 0) (n := 0) (Nat.le_of_ble_eq_true rfl) (Nat.le_of_ble_eq_true rfl) ?_
      exact W.vret hx hb hr (fun t ht hW => ⟨⟨(), rfl, trivial, by rw [ht]; exact hP, va_K.moved hW.alike hK, hD⟩, hS.F ht⟩) hS.2.2 dX_moveCells_39
    · refine lv_iload_n hx hb dX_moveCells_10 rfl (lv_at hl 3 rfl) ?_
      refine lv_if_le (tgt := 39) hx hb dX_moveCells_11 (by decide) (fun c_11 => ?_) (fun c_11 => ?_)
      · have eq : sr_mvc N C a b k = C := by simp only [sr_mvc, c_2, c_7, c_11, ↓reduceIte]
        rw [eq]
        refine W.widen (k := 0) (n := 0) (Nat.le_of_ble_eq_true rfl) (Nat.le_of_ble_eq_true rfl) ?_
        exact W.vret hx hb hr (fun t ht hW => ⟨⟨(), rfl, trivial, by rw [ht]; exact hP, va_K.moved hW.alike hK, hD⟩, hS.F ht⟩) hS.2.2 dX_moveCells_39
      · refine lv_iload_n hx hb dX_moveCells_14 rfl (lv_at hl 3 rfl) ?_
        refine lv_aload_n hx hb dX_moveCells_15 rfl (lv_at hl 0 rfl) ?_
        refine va_get (D := D) (ci := 0) (v := .ref cc) (C := RX) (T := TX) (N := 11) hx hb hbg bg_X hown hK hP 0 rfl rfl 1 (by decide) (hbg _ bw_52) (fun _ h9 => h9) rfl dX_moveCells_16 ?_
        refine va_alen hx hb hK hP 2 0 rfl rfl (v := nI N) rfl dX_moveCells_19 ?_
        refine lv_iload_n hx hb dX_moveCells_20 rfl (lv_at hl 1 rfl) ?_
        refine lv_isub hx hb dX_moveCells_21 ?_
        refine lv_icmp_gt (tgt := 39) hx hb dX_moveCells_22 (by decide) (fun c_22 => ?_) (fun c_22 => ?_)
        · have eq : sr_mvc N C a b k = C := by simp only [sr_mvc, c_2, c_7, c_11, c_22, ↓reduceIte]
          rw [eq]
          refine W.widen (k := 0) (n := 0) (Nat.le_of_ble_eq_true rfl) (Nat.le_of_ble_eq_true rfl) ?_
          exact W.vret hx hb hr (fun t ht hW => ⟨⟨(), rfl, trivial, by rw [ht]; exact hP, va_K.moved hW.alike hK, hD⟩, hS.F ht⟩) hS.2.2 dX_moveCells_39
        · refine lv_aload_n hx hb dX_moveCells_25 rfl (lv_at hl 0 rfl) ?_
          refine va_get (D := D) (ci := 0) (v := .ref cc) (C := RX) (T := TX) (N := 11) hx hb hbg bg_X hown hK hP 0 rfl rfl 1 (by decide) (hbg _ bw_52) (fun _ h9 => h9) rfl dX_moveCells_26 ?_
          refine lv_iload_n hx hb dX_moveCells_29 rfl (lv_at hl 1 rfl) ?_
          refine lv_aload_n hx hb dX_moveCells_30 rfl (lv_at hl 0 rfl) ?_
          refine va_get (D := D) (ci := 0) (v := .ref cc) (C := RX) (T := TX) (N := 11) hx hb hbg bg_X hown hK hP 0 rfl rfl 1 (by decide) (hbg _ bw_52) (fun _ h9 => h9) rfl dX_moveCells_31 ?_
          refine lv_iload_n hx hb dX_moveCells_34 rfl (lv_at hl 2 rfl) ?_
          refine lv_iload_n hx hb dX_moveCells_35 rfl (lv_at hl 3 rfl) ?_
          obtain ⟨m1, m2, m3, m4, m5⟩ := sr_mvH hN c_2 c_7 c_11 c_22
          refine va_copyi (ty := .int) hx hb (hml.trans hl.1.symm) hown (hbg _ bw_123) (hbg _ bw_125) (hbg _ bw_124) (hbg _ bw_42) hK hP hD hS 2 2 0 0 rfl rfl rfl rfl rfl m1 m2 m3 m4 m5 (fun _ _ => rfl) (Nat.le_of_ble_eq_true rfl) (Nat.le_of_ble_eq_true rfl) dX_moveCells_36 (fun H locs hP hD hS => ?_)
          have hP : va_P D vwC (wX h rr cc cI N R (va_cpy C C a.toNatClampNeg b.toNatClampNeg k.toNatClampNeg) li us ob sl go gi fr la re) H := hP
          have hD : va_D A (wX h rr cc cI N R (va_cpy C C a.toNatClampNeg b.toNatClampNeg k.toNatClampNeg) li us ob sl go gi fr la re) := hD
          have eq : sr_mvc N C a b k = va_cpy C C a.toNatClampNeg b.toNatClampNeg k.toNatClampNeg := by simp only [sr_mvc, c_2, c_7, c_11, c_22, ↓reduceIte]
          rw [eq]
          refine W.widen (k := 0) (n := 0) (Nat.le_of_ble_eq_true rfl) (Nat.le_of_ble_eq_true rfl) ?_
          exact W.vret hx hb hr (fun t ht hW => ⟨⟨(), rfl, trivial, by rw [ht]; exact hP, va_K.moved hW.alike hK, hD⟩, hS.F ht⟩) hS.2.2 dX_moveCells_39

set_option maxHeartbeats 4000000 in
set_option maxRecDepth 100000 in
theorem lp_X_moveReached {fr la re : Int32} (hx : p.tables.exec = Jvm.exec) (hb : c.code = bX_moveReached) (hml : c.maxLocals = 5) (hown : s.vm.findClass RX = some m.cls) (hbg : ∀ w ∈ sr_big, w.before args s = true) (hK : va_K D vwC [(cI, .int)] s) (hA : ∀ q : Nat, s.heap.size ≤ q → A q) (hN : N < 2 ^ 31) :
    ∀ (n j : Nat) (C : Nat → Int32) (a : Int32) (H : Heap) (locs : List Loc) (ls : Array Slot), j + n = ob.toNatClampNeg → va_P D vwC (wX h rr cc cI N R C li us ob sl go gi fr la re) H → va_D A (wX h rr cc cI N R C li us ob sl go gi fr la re) → va_S A s.heap H locs → lv_has ls 5 [(0, .ref h), (1, .int a), (2, .int (nI j))] →
      (∀ (a' i' : Int32) (H : Heap) (locs : List Loc) (ls : Array Slot), va_P D vwC (wX h rr cc cI N R (sr_mv N n C a) li us ob sl go gi fr la re) H → va_D A (wX h rr cc cI N R (sr_mv N n C a) li us ob sl go gi fr la re) → va_S A s.heap H locs → lv_has ls 5 [(0, .ref h), (1, .int a'), (2, .int i')] → W p l e { frames := 2, cells := 0, slots := 0, locals := 83 } s m args below meth c H locs 0 0 Q (F0 m 50 ls [])) →
      W p l e { frames := 2, cells := 0, slots := 0, locals := 83 } s m args below meth c H locs 0 0 Q (F0 m 4 ls []) := by
  intro n
  induction n with
  | zero =>
    intro j C a H locs ls hst hP hD hS hl kk
    refine lv_iload_n hx hb dX_moveReached_4 rfl (lv_at hl 2 rfl) ?_
    refine lv_aload_n hx hb dX_moveReached_5 rfl (lv_at hl 0 rfl) ?_
    refine va_get (D := D) (ci := 0) (v := .int ob) (C := RX) (T := TX) (N := 11) hx hb hbg bg_X hown hK hP 0 rfl rfl 4 (by decide) (hbg _ bw_55) (fun _ h9 => h9) rfl dX_moveReached_6 ?_
    refine lv_icmp_ge (tgt := 50) hx hb dX_moveReached_9 (by decide) (fun _ => ?_) (fun z => absurd ((sr_cle (by have := sr_clt ob; omega)).mpr (by omega)) z)
    exact kk a (nI j) _ _ _ hP hD hS (lv_sub hl [0, 1, 2] rfl)
  | succ n ih =>
    intro j C a H locs ls hst hP hD hS hl kk
    refine lv_iload_n hx hb dX_moveReached_4 rfl (lv_at hl 2 rfl) ?_
    refine lv_aload_n hx hb dX_moveReached_5 rfl (lv_at hl 0 rfl) ?_
    refine va_get (D := D) (ci := 0) (v := .int ob) (C := RX) (T := TX) (N := 11) hx hb hbg bg_X hown hK hP 0 rfl rfl 4 (by decide) (hbg _ bw_55) (fun _ h9 => h9) rfl dX_moveReached_6 ?_
    refine lv_icmp_ge (tgt := 50) hx hb dX_moveReached_9 (by decide) (fun z => absurd z (fun z => absurd ((sr_cle (by have := sr_clt ob; omega)).mp z) (by omega))) (fun _ => ?_)
    refine lv_aload_n hx hb dX_moveReached_12 rfl (lv_at hl 0 rfl) ?_
    refine lv_iload_n hx hb dX_moveReached_13 rfl (lv_at hl 1 rfl) ?_
    refine sy_cVi (wc := wX h rr cc cI N R C li us ob sl go gi fr la re) (wr := []) (w1 := wX h rr cc cI N R C li us ob sl go gi fr la re) (ci := 0) (q0 := 0) (As := [.int a]) (rest := []) ⟨hx, hb, hml, hown, hbg⟩ (ct_X_sizeOf l D h rr cc cI N R C li us ob sl go gi fr la re H.size a hN) (cwV 1 hbg (bg_V bw_87 bw_88 bw_3 bw_34 bw_89) rfl rfl rfl (by decide +kernel) ⟨Nat.le_of_ble_eq_true rfl, Nat.le_of_ble_eq_true rfl⟩) hK [0] rfl hP hD hS hA [0, 1, 2] [] rfl rfl rfl rfl (by decide) rfl rfl rfl hl.1 rfl (Nat.le_of_ble_eq_true rfl) dX_moveReached_14 ⟨Nat.le_of_ble_eq_true rfl, Nat.le_of_ble_eq_true rfl⟩ (fun H locs hP hD hS => ?_)
    have hP : va_P D vwC (wX h rr cc cI N R C li us ob sl go gi fr la re) H := hP
    have hD : va_D A (wX h rr cc cI N R C li us ob sl go gi fr la re) := hD
    refine lv_istore_n (lv' := [(3, .int (sr_si N C a)), (0, .ref h), (1, .int a), (2, .int (nI j))]) hx hb dX_moveReached_17 rfl hl (by decide) rfl (fun ls hl => ?_)
    refine lv_aload_n hx hb dX_moveReached_18 rfl (lv_at hl 1 rfl) ?_
    refine lv_iload_n hx hb dX_moveReached_19 rfl (lv_at hl 2 rfl) ?_
    refine lv_iconst (v := 2) hx hb dX_moveReached_20 (by decide) ?_
    refine lv_iadd hx hb dX_moveReached_21 ?_
    refine sy_cVi (wc := wX h rr cc cI N R C li us ob sl go gi fr la re) (wr := []) (w1 := wX h rr cc cI N R C li us ob sl go gi fr la re) (ci := 0) (q0 := 0) (As := [.int (a + 2)]) (rest := []) ⟨hx, hb, hml, hown, hbg⟩ (ct_X_read l D h rr cc cI N R C li us ob sl go gi fr la re H.size (a + 2) hN) (cwV 1 hbg (bg_V bw_90 bw_91 bw_4 bw_34 bw_92) rfl rfl rfl (by decide +kernel) ⟨Nat.le_of_ble_eq_true rfl, Nat.le_of_ble_eq_true rfl⟩) hK [0] rfl hP hD hS hA [0, 1, 2] [] rfl rfl rfl rfl (by decide) rfl rfl rfl hl.1 rfl (Nat.le_of_ble_eq_true rfl) dX_moveReached_22 ⟨Nat.le_of_ble_eq_true rfl, Nat.le_of_ble_eq_true rfl⟩ (fun H locs hP hD hS => ?_)
    have hP : va_P D vwC (wX h rr cc cI N R C li us ob sl go gi fr la re) H := hP
    have hD : va_D A (wX h rr cc cI N R C li us ob sl go gi fr la re) := hD
    refine lv_istore (lv' := [(4, .int (sr_rd N C (a + 2))), (3, .int (sr_si N C a)), (0, .ref h), (1, .int a), (2, .int (nI j))]) hx hb dX_moveReached_25 hl (by decide) rfl (fun ls hl => ?_)
    refine lv_iload hx hb dX_moveReached_27 (lv_at hl 0 rfl) ?_
    refine lv_if_eq (tgt := 40) hx hb dX_moveReached_29 (by decide) (fun c_29 => ?_) (fun c_29 => ?_)
    · refine lv_iload_n hx hb dX_moveReached_40 rfl (lv_at hl 3 rfl) ?_
      refine lv_iload_n hx hb dX_moveReached_41 rfl (lv_at hl 1 rfl) ?_
      refine lv_iadd hx hb dX_moveReached_42 ?_
      refine lv_istore_n (lv' := [(1, .int (a + (sr_si N C a))), (4, .int (sr_rd N C (a + 2))), (3, .int (sr_si N C a)), (0, .ref h), (2, .int (nI j))]) hx hb dX_moveReached_43 rfl hl (by decide) rfl (fun ls hl => ?_)
      refine lv_iinc (v := nI (j + 1)) (lv' := [(2, .int (nI (j + 1))), (1, .int (a + (sr_si N C a))), (4, .int (sr_rd N C (a + 2))), (3, .int (sr_si N C a)), (0, .ref h)]) hx hb dX_moveReached_44 hl (k := 4) rfl (nI_1 j) (by decide) rfl (fun ls hl => ?_)
      refine lv_goto (tgt := 4) hx hb dX_moveReached_47 (by decide) ?_
      have es : sr_mv N (n + 1) C a = sr_mv N n C (a + (sr_si N C a)) := by simp only [sr_mv, c_29, ↓reduceIte]
      rw [es] at kk
      exact ih (j + 1) C (a + (sr_si N C a)) _ _ _ (by omega) hP hD hS (lv_sub hl [4, 1, 0] rfl) kk
    · refine lv_aload_n hx hb dX_moveReached_32 rfl (lv_at hl 2 rfl) ?_
      refine lv_iload_n hx hb dX_moveReached_33 rfl (lv_at hl 3 rfl) ?_
      refine lv_iload hx hb dX_moveReached_34 (lv_at hl 0 rfl) ?_
      refine lv_iload_n hx hb dX_moveReached_36 rfl (lv_at hl 1 rfl) ?_
      refine sy_cVv (wc := wX h rr cc cI N R C li us ob sl go gi fr la re) (wr := []) (w1 := wX h rr cc cI N R (sr_mvc N C a (sr_rd N C (a + 2)) (sr_si N C a)) li us ob sl go gi fr la re) (ci := 0) (q0 := 0) (As := [.int a, .int (sr_rd N C (a + 2)), .int (sr_si N C a)]) (rest := []) ⟨hx, hb, hml, hown, hbg⟩ (ct_X_moveCells l D h rr cc cI N R C li us ob sl go gi fr la re H.size a (sr_rd N C (a + 2)) (sr_si N C a) hN) (cwV 3 hbg (bg_V bw_120 bw_121 bw_14 bw_34 bw_122) rfl rfl rfl (by decide +kernel) ⟨Nat.le_of_ble_eq_true rfl, Nat.le_of_ble_eq_true rfl⟩) hK [0] rfl hP hD hS hA [0, 1, 2] [] rfl rfl rfl rfl (by decide) rfl rfl rfl hl.1 rfl (Nat.le_of_ble_eq_true rfl) dX_moveReached_37 ⟨Nat.le_of_ble_eq_true rfl, Nat.le_of_ble_eq_true rfl⟩ (fun H locs hP hD hS => ?_)
      have hP : va_P D vwC (wX h rr cc cI N R (sr_mvc N C a (sr_rd N C (a + 2)) (sr_si N C a)) li us ob sl go gi fr la re) H := hP
      have hD : va_D A (wX h rr cc cI N R (sr_mvc N C a (sr_rd N C (a + 2)) (sr_si N C a)) li us ob sl go gi fr la re) := hD
      refine lv_iload_n hx hb dX_moveReached_40 rfl (lv_at hl 3 rfl) ?_
      refine lv_iload_n hx hb dX_moveReached_41 rfl (lv_at hl 1 rfl) ?_
      refine lv_iadd hx hb dX_moveReached_42 ?_
      refine lv_istore_n (lv' := [(1, .int (a + (sr_si N C a))), (4, .int (sr_rd N C (a + 2))), (3, .int (sr_si N C a)), (0, .ref h), (2, .int (nI j))]) hx hb dX_moveReached_43 rfl hl (by decide) rfl (fun ls hl => ?_)
      refine lv_iinc (v := nI (j + 1)) (lv' := [(2, .int (nI (j + 1))), (1, .int (a + (sr_si N C a))), (4, .int (sr_rd N C (a + 2))), (3, .int (sr_si N C a)), (0, .ref h)]) hx hb dX_moveReached_44 hl (k := 4) rfl (nI_1 j) (by decide) rfl (fun ls hl => ?_)
      refine lv_goto (tgt := 4) hx hb dX_moveReached_47 (by decide) ?_
      have es : sr_mv N (n + 1) C a = sr_mv N n (sr_mvc N C a (sr_rd N C (a + 2)) (sr_si N C a)) (a + (sr_si N C a)) := by simp only [sr_mv, c_29, ↓reduceIte]
      rw [es] at kk
      exact ih (j + 1) (sr_mvc N C a (sr_rd N C (a + 2)) (sr_si N C a)) (a + (sr_si N C a)) _ _ _ (by omega) hP hD hS (lv_sub hl [4, 1, 0] rfl) kk

set_option maxHeartbeats 4000000 in
set_option maxRecDepth 100000 in
theorem ct_X_moveReached (l : Launch) (D : va_G) (h rr cc : Nat) (cI : ClassId) (N : Nat) (R C : Nat → Int32) (li us ob sl go gi fr la re : Int32) (sz : Nat) (hN : N < 2 ^ 31) : sy_Mv l yX_moveReached (Cond.code yX_moveReached bX_moveReached 5 none :: sr_big) { frames := 2, cells := 0, slots := 0, locals := 83 } D vwC [(cI, .int)] [.ref h] (wX h rr cc cI N R C li us ob sl go gi fr la re) sz (wX h rr cc cI N R (sr_mv N ob.toNatClampNeg C 1) li us ob sl go gi fr la re) 0 0 := by
  refine Met.ofW (cc := bX_moveReached) (maxL := 5) (ret := none) (by decide) rfl ?_
  intro p e s m args below meth c s₁ B hml hv
  obtain ⟨rfl, hsz, hP, hK, hD0⟩ := hv
  have hx := B.exec
  have hb := B.bytes
  have hr := B.returns
  have hbg : ∀ w ∈ sr_big, w.before _ s = true := fun w h => atoms_spec (ws := Cond.code yX_moveReached bX_moveReached 5 none :: sr_big) B.pre w (List.mem_cons_of_mem _ h)
  have hown : s.vm.findClass RX = some m.cls := findClass_of_methodNamed B.named
  have hlocks := B.notSynchronized
  subst hsz
  have hD := hD0.self (sz := s.heap.size)
  generalize hAe : va_A (wX h rr cc cI N R C li us ob sl go gi fr la re) s.heap.size = A at *
  have hA : ∀ q : Nat, s.heap.size ≤ q → A q := fun q h => by rw [← hAe]; exact Or.inr h
  have hS : va_S A s.heap s.heap [] := va_S.rf
  have hl := lv_entry ([.ref h]) (n := 5) (Nat.le_of_ble_eq_true rfl)
  rw [lg_entry_eq]
  generalize (lg_sl ([.ref h]) ++ List.replicate (5 - (lg_sl ([.ref h])).length) Slot.unset).toArray = ls at hl ⊢
  have hl : lv_has ls 5 [(0, .ref h)] := hl
  refine lv_iconst (v := 1) hx hb dX_moveReached_0 (by decide) ?_
  refine lv_istore_n (lv' := [(1, .int 1), (0, .ref h)]) hx hb dX_moveReached_1 rfl hl (by decide) rfl (fun ls hl => ?_)
  refine lv_iconst (v := 0) hx hb dX_moveReached_2 (by decide) ?_
  refine lv_istore_n (lv' := [(2, .int 0), (1, .int 1), (0, .ref h)]) hx hb dX_moveReached_3 rfl hl (by decide) rfl (fun ls hl => ?_)
  refine lp_X_moveReached hx hb hml hown hbg hK hA hN ob.toNatClampNeg 0 C 1 _ _ _ (by simp) hP hD hS (lv_sub hl [2, 1, 0] rfl) ?_
  intro a' i' H locs ls hP hD hS hl
  refine W.widen (k := 0) (n := 0) (Nat.le_of_ble_eq_true rfl) (Nat.le_of_ble_eq_true rfl) ?_
  exact W.vret hx hb hr (fun t ht hW => ⟨⟨(), rfl, trivial, by rw [ht]; exact hP, va_K.moved hW.alike hK, hD⟩, hS.F ht⟩) hS.2.2 dX_moveReached_50

set_option maxHeartbeats 4000000 in
set_option maxRecDepth 100000 in
theorem ct_X_slide (l : Launch) (D : va_G) (h rr cc : Nat) (cI : ClassId) (N : Nat) (R C : Nat → Int32) (li us ob sl go gi fr la re : Int32) (sz : Nat) (hN : N < 2 ^ 31) : sy_Mi l yX_slide (Cond.code yX_slide bX_slide 2 (some .int) :: sr_big) { frames := 4, cells := 0, slots := 0, locals := 107 } D vwC [(cI, .int)] [.ref h] (wX h rr cc cI N R C li us ob sl go gi fr la re) sz ((sr_chp N ob.toNatClampNeg (sr_chR N R ob.toNatClampNeg C).1 0 1).2) (wX h rr cc cI N (sr_rr N (sr_chp N ob.toNatClampNeg (sr_chR N R ob.toNatClampNeg C).1 0 1).1 16 0 R) (sr_sC N ob.toNatClampNeg (sr_chR N R ob.toNatClampNeg C).1) li ((sr_chp N ob.toNatClampNeg (sr_chR N R ob.toNatClampNeg C).1 0 1).2) ((sr_chR N R ob.toNatClampNeg C).2.2.2) (sl + 1) (go + (ob - (sr_chR N R ob.toNatClampNeg C).2.2.2)) gi ((sr_chR N R ob.toNatClampNeg C).2.1) ((sr_chR N R ob.toNatClampNeg C).2.2.1) ((sr_chR N R ob.toNatClampNeg C).2.2.2)) 0 0 := by
  refine Met.ofW (cc := bX_slide) (maxL := 2) (ret := (some .int)) (by decide) rfl ?_
  intro p e s m args below meth c s₁ B hml hv
  obtain ⟨rfl, hsz, hP, hK, hD0⟩ := hv
  have hx := B.exec
  have hb := B.bytes
  have hr := B.returns
  have hbg : ∀ w ∈ sr_big, w.before _ s = true := fun w h => atoms_spec (ws := Cond.code yX_slide bX_slide 2 (some .int) :: sr_big) B.pre w (List.mem_cons_of_mem _ h)
  have hown : s.vm.findClass RX = some m.cls := findClass_of_methodNamed B.named
  have hlocks := B.notSynchronized
  subst hsz
  have hD := hD0.self (sz := s.heap.size)
  generalize hAe : va_A (wX h rr cc cI N R C li us ob sl go gi fr la re) s.heap.size = A at *
  have hA : ∀ q : Nat, s.heap.size ≤ q → A q := fun q h => by rw [← hAe]; exact Or.inr h
  have hS : va_S A s.heap s.heap [] := va_S.rf
  have hl := lv_entry ([.ref h]) (n := 2) (Nat.le_of_ble_eq_true rfl)
  rw [lg_entry_eq]
  generalize (lg_sl ([.ref h]) ++ List.replicate (2 - (lg_sl ([.ref h])).length) Slot.unset).toArray = ls at hl ⊢
  have hl : lv_has ls 2 [(0, .ref h)] := hl
  refine lv_aload_n hx hb dX_slide_0 rfl (lv_at hl 0 rfl) ?_
  refine sy_cVv (wc := wX h rr cc cI N R C li us ob sl go gi fr la re) (wr := []) (w1 := wX h rr cc cI N R ((sr_chR N R ob.toNatClampNeg C).1) li us ob sl go gi ((sr_chR N R ob.toNatClampNeg C).2.1) ((sr_chR N R ob.toNatClampNeg C).2.2.1) ((sr_chR N R ob.toNatClampNeg C).2.2.2)) (ci := 0) (q0 := 0) (As := []) (rest := []) ⟨hx, hb, hml, hown, hbg⟩ (ct_X_chainReached l D h rr cc cI N R C li us ob sl go gi fr la re s.heap.size  hN) (cwV 0 hbg (bg_V bw_78 bw_79 bw_0 bw_34 bw_80) rfl rfl rfl (by decide +kernel) ⟨Nat.le_of_ble_eq_true rfl, Nat.le_of_ble_eq_true rfl⟩) hK [0] rfl hP hD hS hA [0, 1, 2] [] rfl rfl rfl rfl (by decide) rfl rfl rfl hl.1 rfl (Nat.le_of_ble_eq_true rfl) dX_slide_1 ⟨Nat.le_of_ble_eq_true rfl, Nat.le_of_ble_eq_true rfl⟩ (fun H locs hP hD hS => ?_)
  have hP : va_P D vwC (wX h rr cc cI N R ((sr_chR N R ob.toNatClampNeg C).1) li us ob sl go gi ((sr_chR N R ob.toNatClampNeg C).2.1) ((sr_chR N R ob.toNatClampNeg C).2.2.1) ((sr_chR N R ob.toNatClampNeg C).2.2.2)) H := hP
  have hD : va_D A (wX h rr cc cI N R ((sr_chR N R ob.toNatClampNeg C).1) li us ob sl go gi ((sr_chR N R ob.toNatClampNeg C).2.1) ((sr_chR N R ob.toNatClampNeg C).2.2.1) ((sr_chR N R ob.toNatClampNeg C).2.2.2)) := hD
  refine lv_aload_n hx hb dX_slide_4 rfl (lv_at hl 0 rfl) ?_
  refine sy_cVi (wc := wX h rr cc cI N R ((sr_chR N R ob.toNatClampNeg C).1) li us ob sl go gi ((sr_chR N R ob.toNatClampNeg C).2.1) ((sr_chR N R ob.toNatClampNeg C).2.2.1) ((sr_chR N R ob.toNatClampNeg C).2.2.2)) (wr := []) (w1 := wX h rr cc cI N R ((sr_chp N ob.toNatClampNeg ((sr_chR N R ob.toNatClampNeg C).1) 0 1).1) li us ob sl go gi ((sr_chR N R ob.toNatClampNeg C).2.1) ((sr_chR N R ob.toNatClampNeg C).2.2.1) ((sr_chR N R ob.toNatClampNeg C).2.2.2)) (ci := 0) (q0 := 0) (As := []) (rest := []) ⟨hx, hb, hml, hown, hbg⟩ (ct_X_choosePlaces l D h rr cc cI N R ((sr_chR N R ob.toNatClampNeg C).1) li us ob sl go gi ((sr_chR N R ob.toNatClampNeg C).2.1) ((sr_chR N R ob.toNatClampNeg C).2.2.1) ((sr_chR N R ob.toNatClampNeg C).2.2.2) H.size  hN) (cwV 0 hbg (bg_V bw_102 bw_103 bw_8 bw_34 bw_104) rfl rfl rfl (by decide +kernel) ⟨Nat.le_of_ble_eq_true rfl, Nat.le_of_ble_eq_true rfl⟩) hK [0] rfl hP hD hS hA [0, 1, 2] [] rfl rfl rfl rfl (by decide) rfl rfl rfl hl.1 rfl (Nat.le_of_ble_eq_true rfl) dX_slide_5 ⟨Nat.le_of_ble_eq_true rfl, Nat.le_of_ble_eq_true rfl⟩ (fun H locs hP hD hS => ?_)
  have hP : va_P D vwC (wX h rr cc cI N R ((sr_chp N ob.toNatClampNeg ((sr_chR N R ob.toNatClampNeg C).1) 0 1).1) li us ob sl go gi ((sr_chR N R ob.toNatClampNeg C).2.1) ((sr_chR N R ob.toNatClampNeg C).2.2.1) ((sr_chR N R ob.toNatClampNeg C).2.2.2)) H := hP
  have hD : va_D A (wX h rr cc cI N R ((sr_chp N ob.toNatClampNeg ((sr_chR N R ob.toNatClampNeg C).1) 0 1).1) li us ob sl go gi ((sr_chR N R ob.toNatClampNeg C).2.1) ((sr_chR N R ob.toNatClampNeg C).2.2.1) ((sr_chR N R ob.toNatClampNeg C).2.2.2)) := hD
  refine lv_istore_n (lv' := [(1, .int ((sr_chp N ob.toNatClampNeg ((sr_chR N R ob.toNatClampNeg C).1) 0 1).2)), (0, .ref h)]) hx hb dX_slide_8 rfl hl (by decide) rfl (fun ls hl => ?_)
  refine lv_aload_n hx hb dX_slide_9 rfl (lv_at hl 1 rfl) ?_
  refine sy_cVv (wc := wX h rr cc cI N R ((sr_chp N ob.toNatClampNeg ((sr_chR N R ob.toNatClampNeg C).1) 0 1).1) li us ob sl go gi ((sr_chR N R ob.toNatClampNeg C).2.1) ((sr_chR N R ob.toNatClampNeg C).2.2.1) ((sr_chR N R ob.toNatClampNeg C).2.2.2)) (wr := []) (w1 := wX h rr cc cI N (sr_rr N ((sr_chp N ob.toNatClampNeg ((sr_chR N R ob.toNatClampNeg C).1) 0 1).1) 16 0 R) ((sr_chp N ob.toNatClampNeg ((sr_chR N R ob.toNatClampNeg C).1) 0 1).1) li us ob sl go gi ((sr_chR N R ob.toNatClampNeg C).2.1) ((sr_chR N R ob.toNatClampNeg C).2.2.1) ((sr_chR N R ob.toNatClampNeg C).2.2.2)) (ci := 0) (q0 := 0) (As := []) (rest := []) ⟨hx, hb, hml, hown, hbg⟩ (ct_X_redirectRoots l D h rr cc cI N R ((sr_chp N ob.toNatClampNeg ((sr_chR N R ob.toNatClampNeg C).1) 0 1).1) li us ob sl go gi ((sr_chR N R ob.toNatClampNeg C).2.1) ((sr_chR N R ob.toNatClampNeg C).2.2.1) ((sr_chR N R ob.toNatClampNeg C).2.2.2) H.size  hN) (cwV 0 hbg (bg_V bw_105 bw_106 bw_9 bw_34 bw_107) rfl rfl rfl (by decide +kernel) ⟨Nat.le_of_ble_eq_true rfl, Nat.le_of_ble_eq_true rfl⟩) hK [0] rfl hP hD hS hA [0, 1, 2] [] rfl rfl rfl rfl (by decide) rfl rfl rfl hl.1 rfl (Nat.le_of_ble_eq_true rfl) dX_slide_10 ⟨Nat.le_of_ble_eq_true rfl, Nat.le_of_ble_eq_true rfl⟩ (fun H locs hP hD hS => ?_)
  have hP : va_P D vwC (wX h rr cc cI N (sr_rr N ((sr_chp N ob.toNatClampNeg ((sr_chR N R ob.toNatClampNeg C).1) 0 1).1) 16 0 R) ((sr_chp N ob.toNatClampNeg ((sr_chR N R ob.toNatClampNeg C).1) 0 1).1) li us ob sl go gi ((sr_chR N R ob.toNatClampNeg C).2.1) ((sr_chR N R ob.toNatClampNeg C).2.2.1) ((sr_chR N R ob.toNatClampNeg C).2.2.2)) H := hP
  have hD : va_D A (wX h rr cc cI N (sr_rr N ((sr_chp N ob.toNatClampNeg ((sr_chR N R ob.toNatClampNeg C).1) 0 1).1) 16 0 R) ((sr_chp N ob.toNatClampNeg ((sr_chR N R ob.toNatClampNeg C).1) 0 1).1) li us ob sl go gi ((sr_chR N R ob.toNatClampNeg C).2.1) ((sr_chR N R ob.toNatClampNeg C).2.2.1) ((sr_chR N R ob.toNatClampNeg C).2.2.2)) := hD
  refine lv_aload_n hx hb dX_slide_13 rfl (lv_at hl 1 rfl) ?_
  refine sy_cVv (wc := wX h rr cc cI N (sr_rr N ((sr_chp N ob.toNatClampNeg ((sr_chR N R ob.toNatClampNeg C).1) 0 1).1) 16 0 R) ((sr_chp N ob.toNatClampNeg ((sr_chR N R ob.toNatClampNeg C).1) 0 1).1) li us ob sl go gi ((sr_chR N R ob.toNatClampNeg C).2.1) ((sr_chR N R ob.toNatClampNeg C).2.2.1) ((sr_chR N R ob.toNatClampNeg C).2.2.2)) (wr := []) (w1 := wX h rr cc cI N (sr_rr N ((sr_chp N ob.toNatClampNeg ((sr_chR N R ob.toNatClampNeg C).1) 0 1).1) 16 0 R) (sr_rfs N ob.toNatClampNeg ((sr_chp N ob.toNatClampNeg ((sr_chR N R ob.toNatClampNeg C).1) 0 1).1) 1) li us ob sl go gi ((sr_chR N R ob.toNatClampNeg C).2.1) ((sr_chR N R ob.toNatClampNeg C).2.2.1) ((sr_chR N R ob.toNatClampNeg C).2.2.2)) (ci := 0) (q0 := 0) (As := []) (rest := []) ⟨hx, hb, hml, hown, hbg⟩ (ct_X_redirectFields l D h rr cc cI N (sr_rr N ((sr_chp N ob.toNatClampNeg ((sr_chR N R ob.toNatClampNeg C).1) 0 1).1) 16 0 R) ((sr_chp N ob.toNatClampNeg ((sr_chR N R ob.toNatClampNeg C).1) 0 1).1) li us ob sl go gi ((sr_chR N R ob.toNatClampNeg C).2.1) ((sr_chR N R ob.toNatClampNeg C).2.2.1) ((sr_chR N R ob.toNatClampNeg C).2.2.2) H.size  hN) (cwV 0 hbg (bg_V bw_111 bw_112 bw_11 bw_34 bw_113) rfl rfl rfl (by decide +kernel) ⟨Nat.le_of_ble_eq_true rfl, Nat.le_of_ble_eq_true rfl⟩) hK [0] rfl hP hD hS hA [0, 1, 2] [] rfl rfl rfl rfl (by decide) rfl rfl rfl hl.1 rfl (Nat.le_of_ble_eq_true rfl) dX_slide_14 ⟨Nat.le_of_ble_eq_true rfl, Nat.le_of_ble_eq_true rfl⟩ (fun H locs hP hD hS => ?_)
  have hP : va_P D vwC (wX h rr cc cI N (sr_rr N ((sr_chp N ob.toNatClampNeg ((sr_chR N R ob.toNatClampNeg C).1) 0 1).1) 16 0 R) (sr_rfs N ob.toNatClampNeg ((sr_chp N ob.toNatClampNeg ((sr_chR N R ob.toNatClampNeg C).1) 0 1).1) 1) li us ob sl go gi ((sr_chR N R ob.toNatClampNeg C).2.1) ((sr_chR N R ob.toNatClampNeg C).2.2.1) ((sr_chR N R ob.toNatClampNeg C).2.2.2)) H := hP
  have hD : va_D A (wX h rr cc cI N (sr_rr N ((sr_chp N ob.toNatClampNeg ((sr_chR N R ob.toNatClampNeg C).1) 0 1).1) 16 0 R) (sr_rfs N ob.toNatClampNeg ((sr_chp N ob.toNatClampNeg ((sr_chR N R ob.toNatClampNeg C).1) 0 1).1) 1) li us ob sl go gi ((sr_chR N R ob.toNatClampNeg C).2.1) ((sr_chR N R ob.toNatClampNeg C).2.2.1) ((sr_chR N R ob.toNatClampNeg C).2.2.2)) := hD
  refine lv_aload_n hx hb dX_slide_17 rfl (lv_at hl 1 rfl) ?_
  refine sy_cVv (wc := wX h rr cc cI N (sr_rr N ((sr_chp N ob.toNatClampNeg ((sr_chR N R ob.toNatClampNeg C).1) 0 1).1) 16 0 R) (sr_rfs N ob.toNatClampNeg ((sr_chp N ob.toNatClampNeg ((sr_chR N R ob.toNatClampNeg C).1) 0 1).1) 1) li us ob sl go gi ((sr_chR N R ob.toNatClampNeg C).2.1) ((sr_chR N R ob.toNatClampNeg C).2.2.1) ((sr_chR N R ob.toNatClampNeg C).2.2.2)) (wr := []) (w1 := wX h rr cc cI N (sr_rr N ((sr_chp N ob.toNatClampNeg ((sr_chR N R ob.toNatClampNeg C).1) 0 1).1) 16 0 R) (sr_mv N ob.toNatClampNeg (sr_rfs N ob.toNatClampNeg ((sr_chp N ob.toNatClampNeg ((sr_chR N R ob.toNatClampNeg C).1) 0 1).1) 1) 1) li us ob sl go gi ((sr_chR N R ob.toNatClampNeg C).2.1) ((sr_chR N R ob.toNatClampNeg C).2.2.1) ((sr_chR N R ob.toNatClampNeg C).2.2.2)) (ci := 0) (q0 := 0) (As := []) (rest := []) ⟨hx, hb, hml, hown, hbg⟩ (ct_X_moveReached l D h rr cc cI N (sr_rr N ((sr_chp N ob.toNatClampNeg ((sr_chR N R ob.toNatClampNeg C).1) 0 1).1) 16 0 R) (sr_rfs N ob.toNatClampNeg ((sr_chp N ob.toNatClampNeg ((sr_chR N R ob.toNatClampNeg C).1) 0 1).1) 1) li us ob sl go gi ((sr_chR N R ob.toNatClampNeg C).2.1) ((sr_chR N R ob.toNatClampNeg C).2.2.1) ((sr_chR N R ob.toNatClampNeg C).2.2.2) H.size  hN) (cwV 0 hbg (bg_V bw_117 bw_118 bw_13 bw_34 bw_119) rfl rfl rfl (by decide +kernel) ⟨Nat.le_of_ble_eq_true rfl, Nat.le_of_ble_eq_true rfl⟩) hK [0] rfl hP hD hS hA [0, 1, 2] [] rfl rfl rfl rfl (by decide) rfl rfl rfl hl.1 rfl (Nat.le_of_ble_eq_true rfl) dX_slide_18 ⟨Nat.le_of_ble_eq_true rfl, Nat.le_of_ble_eq_true rfl⟩ (fun H locs hP hD hS => ?_)
  have hP : va_P D vwC (wX h rr cc cI N (sr_rr N ((sr_chp N ob.toNatClampNeg ((sr_chR N R ob.toNatClampNeg C).1) 0 1).1) 16 0 R) (sr_mv N ob.toNatClampNeg (sr_rfs N ob.toNatClampNeg ((sr_chp N ob.toNatClampNeg ((sr_chR N R ob.toNatClampNeg C).1) 0 1).1) 1) 1) li us ob sl go gi ((sr_chR N R ob.toNatClampNeg C).2.1) ((sr_chR N R ob.toNatClampNeg C).2.2.1) ((sr_chR N R ob.toNatClampNeg C).2.2.2)) H := hP
  have hD : va_D A (wX h rr cc cI N (sr_rr N ((sr_chp N ob.toNatClampNeg ((sr_chR N R ob.toNatClampNeg C).1) 0 1).1) 16 0 R) (sr_mv N ob.toNatClampNeg (sr_rfs N ob.toNatClampNeg ((sr_chp N ob.toNatClampNeg ((sr_chR N R ob.toNatClampNeg C).1) 0 1).1) 1) 1) li us ob sl go gi ((sr_chR N R ob.toNatClampNeg C).2.1) ((sr_chR N R ob.toNatClampNeg C).2.2.1) ((sr_chR N R ob.toNatClampNeg C).2.2.2)) := hD
  refine lv_aload_n hx hb dX_slide_21 rfl (lv_at hl 1 rfl) ?_
  refine lv_dup hx hb dX_slide_22 rfl ?_
  refine va_get (D := D) (ci := 0) (v := .int sl) (C := RX) (T := TX) (N := 11) hx hb hbg bg_X hown hK hP 0 rfl rfl 5 (by decide) (hbg _ bw_56) (fun _ h9 => h9) rfl dX_slide_23 ?_
  refine lv_iconst (v := 1) hx hb dX_slide_26 (by decide) ?_
  refine lv_iadd hx hb dX_slide_27 ?_
  refine va_put (D := D) (ci := 0) (v := .int (sl + 1)) (ty := .int) (C := RX) (T := TX) (N := 11) hx hb hbg bg_X tX tX_ok nX hown hK hP hD hS 0 rfl rfl 5 (by decide) (hbg _ bw_56) (fun _ h9 => h9) rfl (by decide +kernel) rfl rfl (Nat.le_of_ble_eq_true rfl) dX_slide_28 (fun H locs hP hD hS => ?_)
  have hP : va_P D vwC (wX h rr cc cI N (sr_rr N ((sr_chp N ob.toNatClampNeg ((sr_chR N R ob.toNatClampNeg C).1) 0 1).1) 16 0 R) (sr_mv N ob.toNatClampNeg (sr_rfs N ob.toNatClampNeg ((sr_chp N ob.toNatClampNeg ((sr_chR N R ob.toNatClampNeg C).1) 0 1).1) 1) 1) li us ob (sl + 1) go gi ((sr_chR N R ob.toNatClampNeg C).2.1) ((sr_chR N R ob.toNatClampNeg C).2.2.1) ((sr_chR N R ob.toNatClampNeg C).2.2.2)) H := hP
  have hD : va_D A (wX h rr cc cI N (sr_rr N ((sr_chp N ob.toNatClampNeg ((sr_chR N R ob.toNatClampNeg C).1) 0 1).1) 16 0 R) (sr_mv N ob.toNatClampNeg (sr_rfs N ob.toNatClampNeg ((sr_chp N ob.toNatClampNeg ((sr_chR N R ob.toNatClampNeg C).1) 0 1).1) 1) 1) li us ob (sl + 1) go gi ((sr_chR N R ob.toNatClampNeg C).2.1) ((sr_chR N R ob.toNatClampNeg C).2.2.1) ((sr_chR N R ob.toNatClampNeg C).2.2.2)) := hD
  refine lv_aload_n hx hb dX_slide_31 rfl (lv_at hl 1 rfl) ?_
  refine lv_dup hx hb dX_slide_32 rfl ?_
  refine va_get (D := D) (ci := 0) (v := .int go) (C := RX) (T := TX) (N := 11) hx hb hbg bg_X hown hK hP 0 rfl rfl 6 (by decide) (hbg _ bw_57) (fun _ h9 => h9) rfl dX_slide_33 ?_
  refine lv_aload_n hx hb dX_slide_36 rfl (lv_at hl 1 rfl) ?_
  refine va_get (D := D) (ci := 0) (v := .int ob) (C := RX) (T := TX) (N := 11) hx hb hbg bg_X hown hK hP 0 rfl rfl 4 (by decide) (hbg _ bw_55) (fun _ h9 => h9) rfl dX_slide_37 ?_
  refine lv_aload_n hx hb dX_slide_40 rfl (lv_at hl 1 rfl) ?_
  refine va_get (D := D) (ci := 0) (v := .int ((sr_chR N R ob.toNatClampNeg C).2.2.2)) (C := RX) (T := TX) (N := 11) hx hb hbg bg_X hown hK hP 0 rfl rfl 10 (by decide) (hbg _ bw_61) (fun _ h9 => h9) rfl dX_slide_41 ?_
  refine lv_isub hx hb dX_slide_44 ?_
  refine lv_iadd hx hb dX_slide_45 ?_
  refine va_put (D := D) (ci := 0) (v := .int (go + (ob - ((sr_chR N R ob.toNatClampNeg C).2.2.2)))) (ty := .int) (C := RX) (T := TX) (N := 11) hx hb hbg bg_X tX tX_ok nX hown hK hP hD hS 0 rfl rfl 6 (by decide) (hbg _ bw_57) (fun _ h9 => h9) rfl (by decide +kernel) rfl rfl (Nat.le_of_ble_eq_true rfl) dX_slide_46 (fun H locs hP hD hS => ?_)
  have hP : va_P D vwC (wX h rr cc cI N (sr_rr N ((sr_chp N ob.toNatClampNeg ((sr_chR N R ob.toNatClampNeg C).1) 0 1).1) 16 0 R) (sr_mv N ob.toNatClampNeg (sr_rfs N ob.toNatClampNeg ((sr_chp N ob.toNatClampNeg ((sr_chR N R ob.toNatClampNeg C).1) 0 1).1) 1) 1) li us ob (sl + 1) (go + (ob - ((sr_chR N R ob.toNatClampNeg C).2.2.2))) gi ((sr_chR N R ob.toNatClampNeg C).2.1) ((sr_chR N R ob.toNatClampNeg C).2.2.1) ((sr_chR N R ob.toNatClampNeg C).2.2.2)) H := hP
  have hD : va_D A (wX h rr cc cI N (sr_rr N ((sr_chp N ob.toNatClampNeg ((sr_chR N R ob.toNatClampNeg C).1) 0 1).1) 16 0 R) (sr_mv N ob.toNatClampNeg (sr_rfs N ob.toNatClampNeg ((sr_chp N ob.toNatClampNeg ((sr_chR N R ob.toNatClampNeg C).1) 0 1).1) 1) 1) li us ob (sl + 1) (go + (ob - ((sr_chR N R ob.toNatClampNeg C).2.2.2))) gi ((sr_chR N R ob.toNatClampNeg C).2.1) ((sr_chR N R ob.toNatClampNeg C).2.2.1) ((sr_chR N R ob.toNatClampNeg C).2.2.2)) := hD
  refine lv_aload_n hx hb dX_slide_49 rfl (lv_at hl 1 rfl) ?_
  refine lv_aload_n hx hb dX_slide_50 rfl (lv_at hl 1 rfl) ?_
  refine va_get (D := D) (ci := 0) (v := .int ((sr_chR N R ob.toNatClampNeg C).2.2.2)) (C := RX) (T := TX) (N := 11) hx hb hbg bg_X hown hK hP 0 rfl rfl 10 (by decide) (hbg _ bw_61) (fun _ h9 => h9) rfl dX_slide_51 ?_
  refine va_put (D := D) (ci := 0) (v := .int ((sr_chR N R ob.toNatClampNeg C).2.2.2)) (ty := .int) (C := RX) (T := TX) (N := 11) hx hb hbg bg_X tX tX_ok nX hown hK hP hD hS 0 rfl rfl 4 (by decide) (hbg _ bw_55) (fun _ h9 => h9) rfl (by decide +kernel) rfl rfl (Nat.le_of_ble_eq_true rfl) dX_slide_54 (fun H locs hP hD hS => ?_)
  have hP : va_P D vwC (wX h rr cc cI N (sr_rr N ((sr_chp N ob.toNatClampNeg ((sr_chR N R ob.toNatClampNeg C).1) 0 1).1) 16 0 R) (sr_mv N ob.toNatClampNeg (sr_rfs N ob.toNatClampNeg ((sr_chp N ob.toNatClampNeg ((sr_chR N R ob.toNatClampNeg C).1) 0 1).1) 1) 1) li us ((sr_chR N R ob.toNatClampNeg C).2.2.2) (sl + 1) (go + (ob - ((sr_chR N R ob.toNatClampNeg C).2.2.2))) gi ((sr_chR N R ob.toNatClampNeg C).2.1) ((sr_chR N R ob.toNatClampNeg C).2.2.1) ((sr_chR N R ob.toNatClampNeg C).2.2.2)) H := hP
  have hD : va_D A (wX h rr cc cI N (sr_rr N ((sr_chp N ob.toNatClampNeg ((sr_chR N R ob.toNatClampNeg C).1) 0 1).1) 16 0 R) (sr_mv N ob.toNatClampNeg (sr_rfs N ob.toNatClampNeg ((sr_chp N ob.toNatClampNeg ((sr_chR N R ob.toNatClampNeg C).1) 0 1).1) 1) 1) li us ((sr_chR N R ob.toNatClampNeg C).2.2.2) (sl + 1) (go + (ob - ((sr_chR N R ob.toNatClampNeg C).2.2.2))) gi ((sr_chR N R ob.toNatClampNeg C).2.1) ((sr_chR N R ob.toNatClampNeg C).2.2.1) ((sr_chR N R ob.toNatClampNeg C).2.2.2)) := hD
  refine lv_aload_n hx hb dX_slide_57 rfl (lv_at hl 1 rfl) ?_
  refine lv_iload_n hx hb dX_slide_58 rfl (lv_at hl 0 rfl) ?_
  refine va_put (D := D) (ci := 0) (v := .int ((sr_chp N ob.toNatClampNeg ((sr_chR N R ob.toNatClampNeg C).1) 0 1).2)) (ty := .int) (C := RX) (T := TX) (N := 11) hx hb hbg bg_X tX tX_ok nX hown hK hP hD hS 0 rfl rfl 3 (by decide) (hbg _ bw_54) (fun _ h9 => h9) rfl (by decide +kernel) rfl rfl (Nat.le_of_ble_eq_true rfl) dX_slide_59 (fun H locs hP hD hS => ?_)
  have hP : va_P D vwC (wX h rr cc cI N (sr_rr N ((sr_chp N ob.toNatClampNeg ((sr_chR N R ob.toNatClampNeg C).1) 0 1).1) 16 0 R) (sr_mv N ob.toNatClampNeg (sr_rfs N ob.toNatClampNeg ((sr_chp N ob.toNatClampNeg ((sr_chR N R ob.toNatClampNeg C).1) 0 1).1) 1) 1) li ((sr_chp N ob.toNatClampNeg ((sr_chR N R ob.toNatClampNeg C).1) 0 1).2) ((sr_chR N R ob.toNatClampNeg C).2.2.2) (sl + 1) (go + (ob - ((sr_chR N R ob.toNatClampNeg C).2.2.2))) gi ((sr_chR N R ob.toNatClampNeg C).2.1) ((sr_chR N R ob.toNatClampNeg C).2.2.1) ((sr_chR N R ob.toNatClampNeg C).2.2.2)) H := hP
  have hD : va_D A (wX h rr cc cI N (sr_rr N ((sr_chp N ob.toNatClampNeg ((sr_chR N R ob.toNatClampNeg C).1) 0 1).1) 16 0 R) (sr_mv N ob.toNatClampNeg (sr_rfs N ob.toNatClampNeg ((sr_chp N ob.toNatClampNeg ((sr_chR N R ob.toNatClampNeg C).1) 0 1).1) 1) 1) li ((sr_chp N ob.toNatClampNeg ((sr_chR N R ob.toNatClampNeg C).1) 0 1).2) ((sr_chR N R ob.toNatClampNeg C).2.2.2) (sl + 1) (go + (ob - ((sr_chR N R ob.toNatClampNeg C).2.2.2))) gi ((sr_chR N R ob.toNatClampNeg C).2.1) ((sr_chR N R ob.toNatClampNeg C).2.2.1) ((sr_chR N R ob.toNatClampNeg C).2.2.2)) := hD
  refine lv_aload_n hx hb dX_slide_62 rfl (lv_at hl 1 rfl) ?_
  refine va_get (D := D) (ci := 0) (v := .int ((sr_chp N ob.toNatClampNeg ((sr_chR N R ob.toNatClampNeg C).1) 0 1).2)) (C := RX) (T := TX) (N := 11) hx hb hbg bg_X hown hK hP 0 rfl rfl 3 (by decide) (hbg _ bw_54) (fun _ h9 => h9) rfl dX_slide_63 ?_
  refine W.widen (k := 0) (n := 0) (Nat.le_of_ble_eq_true rfl) (Nat.le_of_ble_eq_true rfl) ?_
  exact W.iret (v := (sr_chp N ob.toNatClampNeg ((sr_chR N R ob.toNatClampNeg C).1) 0 1).2) hx hb hr (fun t ht hW => ⟨⟨(sr_chp N ob.toNatClampNeg ((sr_chR N R ob.toNatClampNeg C).1) 0 1).2, (), rfl, rfl, by rw [ht]; exact hP, va_K.moved hW.alike hK, hD⟩, hS.F ht⟩) hS.2.2 dX_slide_66

end XM
