/-! CONTRACTS OF SlideRow: loops over the row (rows laid by wip/gen) -/
section XL
variable {p : Program} {l : Launch} {e : Env} {s : State} {m : MethodId} {args : Array Value} {below : List Frame} {meth : Method} {c : Code} {Q : State → Prop} {A : Nat → Prop} {D : va_G} {h rr cc : Nat} {cI : ClassId} {N : Nat} {R : Nat → Int32} {li us ob sl go gi : Int32}

set_option maxHeartbeats 4000000 in
set_option maxRecDepth 100000 in
theorem lp_X_clearCells {a k : Int32} {fr la re : Int32} (hx : p.tables.exec = Jvm.exec) (hb : c.code = bX_clearCells) (hml : c.maxLocals = 4) (hown : s.vm.findClass RX = some m.cls) (hbg : ∀ w ∈ sr_big, w.before args s = true) (hK : va_K D vwC [(cI, .int)] s) (hA : ∀ q : Nat, s.heap.size ≤ q → A q) (hN : N < 2 ^ 31) :
    ∀ (n j : Nat) (C : Nat → Int32) (H : Heap) (locs : List Loc) (ls : Array Slot), j + n = k.toNatClampNeg → va_P D vwC (wX h rr cc cI N R C li us ob sl go gi fr la re) H → va_D A (wX h rr cc cI N R C li us ob sl go gi fr la re) → va_S A s.heap H locs → lv_has ls 4 [(0, .ref h), (1, .int a), (2, .int k), (3, .int (nI j))] →
      (∀ (i' : Int32) (H : Heap) (locs : List Loc) (ls : Array Slot), va_P D vwC (wX h rr cc cI N R (sr_cc N a n j C) li us ob sl go gi fr la re) H → va_D A (wX h rr cc cI N R (sr_cc N a n j C) li us ob sl go gi fr la re) → va_S A s.heap H locs → lv_has ls 4 [(0, .ref h), (1, .int a), (2, .int k), (3, .int i')] → W p l e { frames := 1, cells := 0, slots := 0, locals := 22 } s m args below meth c H locs 0 0 Q (F0 m 21 ls [])) →
      W p l e { frames := 1, cells := 0, slots := 0, locals := 22 } s m args below meth c H locs 0 0 Q (F0 m 2 ls []) := by
  intro n
  induction n with
  | zero =>
    intro j C H locs ls hst hP hD hS hl kk
    refine lv_iload_n hx hb dX_clearCells_2 rfl (lv_at hl 3 rfl) ?_
    refine lv_iload_n hx hb dX_clearCells_3 rfl (lv_at hl 2 rfl) ?_
    refine lv_icmp_ge (tgt := 21) hx hb dX_clearCells_4 (by decide) (fun _ => ?_) (fun z => absurd ((sr_cle (by have := sr_clt k; omega)).mpr (by omega)) z)
    exact kk (nI j) _ _ _ hP hD hS (lv_sub hl [0, 1, 2, 3] rfl)
  | succ n ih =>
    intro j C H locs ls hst hP hD hS hl kk
    refine lv_iload_n hx hb dX_clearCells_2 rfl (lv_at hl 3 rfl) ?_
    refine lv_iload_n hx hb dX_clearCells_3 rfl (lv_at hl 2 rfl) ?_
    refine lv_icmp_ge (tgt := 21) hx hb dX_clearCells_4 (by decide) (fun z => absurd z (fun z => absurd ((sr_cle (by have := sr_clt k; omega)).mp z) (by omega))) (fun _ => ?_)
    refine lv_aload_n hx hb dX_clearCells_7 rfl (lv_at hl 0 rfl) ?_
    refine lv_iload_n hx hb dX_clearCells_8 rfl (lv_at hl 1 rfl) ?_
    refine lv_iload_n hx hb dX_clearCells_9 rfl (lv_at hl 3 rfl) ?_
    refine lv_iadd hx hb dX_clearCells_10 ?_
    refine lv_iconst (v := 0) hx hb dX_clearCells_11 (by decide) ?_
    refine sy_cVv (wc := wX h rr cc cI N R C li us ob sl go gi fr la re) (wr := []) (w1 := wX h rr cc cI N R (sr_wr N C (a + (nI j)) 0) li us ob sl go gi fr la re) (ci := 0) (q0 := 0) (As := [.int (a + (nI j)), .int 0]) (rest := []) ⟨hx, hb, hml, hown, hbg⟩ (ct_X_write l D h rr cc cI N R C li us ob sl go gi fr la re H.size (a + (nI j)) 0 hN) (cwV 2 hbg (bg_V bw_84 bw_85 bw_2 bw_34 bw_86) rfl rfl rfl (by decide +kernel) ⟨Nat.le_of_ble_eq_true rfl, Nat.le_of_ble_eq_true rfl⟩) hK [0] rfl hP hD hS hA [0, 1, 2] [] rfl rfl rfl rfl (by decide) rfl rfl rfl hl.1 rfl (Nat.le_of_ble_eq_true rfl) dX_clearCells_12 ⟨Nat.le_of_ble_eq_true rfl, Nat.le_of_ble_eq_true rfl⟩ (fun H locs hP hD hS => ?_)
    have hP : va_P D vwC (wX h rr cc cI N R (sr_wr N C (a + (nI j)) 0) li us ob sl go gi fr la re) H := hP
    have hD : va_D A (wX h rr cc cI N R (sr_wr N C (a + (nI j)) 0) li us ob sl go gi fr la re) := hD
    refine lv_iinc (v := nI (j + 1)) (lv' := [(3, .int (nI (j + 1))), (0, .ref h), (1, .int a), (2, .int k)]) hx hb dX_clearCells_15 hl (k := 3) rfl (nI_1 j) (by decide) rfl (fun ls hl => ?_)
    refine lv_goto (tgt := 2) hx hb dX_clearCells_18 (by decide) ?_
    exact ih (j + 1) (sr_wr N C (a + (nI j)) 0) _ _ _ (by omega) hP hD hS (lv_sub hl [1, 2, 3, 0] rfl) kk

set_option maxHeartbeats 4000000 in
set_option maxRecDepth 100000 in
theorem ct_X_clearCells (l : Launch) (D : va_G) (h rr cc : Nat) (cI : ClassId) (N : Nat) (R C : Nat → Int32) (li us ob sl go gi fr la re : Int32) (sz : Nat) (a k : Int32) (hN : N < 2 ^ 31) : sy_Mv l yX_clearCells (Cond.code yX_clearCells bX_clearCells 4 none :: sr_big) { frames := 1, cells := 0, slots := 0, locals := 22 } D vwC [(cI, .int)] [.ref h, .int a, .int k] (wX h rr cc cI N R C li us ob sl go gi fr la re) sz (wX h rr cc cI N R (sr_cc N a k.toNatClampNeg 0 C) li us ob sl go gi fr la re) 0 0 := by
  refine Met.ofW (cc := bX_clearCells) (maxL := 4) (ret := none) (by decide) rfl ?_
  intro p e s m args below meth c s₁ B hml hv
  obtain ⟨rfl, hsz, hP, hK, hD0⟩ := hv
  have hx := B.exec
  have hb := B.bytes
  have hr := B.returns
  have hbg : ∀ w ∈ sr_big, w.before _ s = true := fun w h => atoms_spec (ws := Cond.code yX_clearCells bX_clearCells 4 none :: sr_big) B.pre w (List.mem_cons_of_mem _ h)
  have hown : s.vm.findClass RX = some m.cls := findClass_of_methodNamed B.named
  have hlocks := B.notSynchronized
  subst hsz
  have hD := hD0.self (sz := s.heap.size)
  generalize hAe : va_A (wX h rr cc cI N R C li us ob sl go gi fr la re) s.heap.size = A at *
  have hA : ∀ q : Nat, s.heap.size ≤ q → A q := fun q h => by rw [← hAe]; exact Or.inr h
  have hS : va_S A s.heap s.heap [] := va_S.rf
  have hl := lv_entry ([.ref h, .int a, .int k]) (n := 4) (Nat.le_of_ble_eq_true rfl)
  rw [lg_entry_eq]
  generalize (lg_sl ([.ref h, .int a, .int k]) ++ List.replicate (4 - (lg_sl ([.ref h, .int a, .int k])).length) Slot.unset).toArray = ls at hl ⊢
  have hl : lv_has ls 4 [(0, .ref h), (1, .int a), (2, .int k)] := hl
  refine lv_iconst (v := 0) hx hb dX_clearCells_0 (by decide) ?_
  refine lv_istore_n (lv' := [(3, .int 0), (0, .ref h), (1, .int a), (2, .int k)]) hx hb dX_clearCells_1 rfl hl (by decide) rfl (fun ls hl => ?_)
  refine lp_X_clearCells hx hb hml hown hbg hK hA hN k.toNatClampNeg 0 C _ _ _ (by simp) hP hD hS (lv_sub hl [1, 2, 3, 0] rfl) ?_
  intro i' H locs ls hP hD hS hl
  refine W.widen (k := 0) (n := 0) (Nat.le_of_ble_eq_true rfl) (Nat.le_of_ble_eq_true rfl) ?_
  exact W.vret hx hb hr (fun t ht hW => ⟨⟨(), rfl, trivial, by rw [ht]; exact hP, va_K.moved hW.alike hK, hD⟩, hS.F ht⟩) hS.2.2 dX_clearCells_21

set_option maxHeartbeats 4000000 in
set_option maxRecDepth 100000 in
theorem lp_X_clearLinks {fr la re : Int32} (hx : p.tables.exec = Jvm.exec) (hb : c.code = bX_clearLinks) (hml : c.maxLocals = 3) (hown : s.vm.findClass RX = some m.cls) (hbg : ∀ w ∈ sr_big, w.before args s = true) (hK : va_K D vwC [(cI, .int)] s) (hA : ∀ q : Nat, s.heap.size ≤ q → A q) (hN : N < 2 ^ 31) :
    ∀ (n j : Nat) (C : Nat → Int32) (a : Int32) (H : Heap) (locs : List Loc) (ls : Array Slot), j + n = ob.toNatClampNeg → va_P D vwC (wX h rr cc cI N R C li us ob sl go gi fr la re) H → va_D A (wX h rr cc cI N R C li us ob sl go gi fr la re) → va_S A s.heap H locs → lv_has ls 3 [(0, .ref h), (1, .int a), (2, .int (nI j))] →
      (∀ (a' i' : Int32) (H : Heap) (locs : List Loc) (ls : Array Slot), va_P D vwC (wX h rr cc cI N R (sr_clr N n C a) li us ob sl go gi fr la re) H → va_D A (wX h rr cc cI N R (sr_clr N n C a) li us ob sl go gi fr la re) → va_S A s.heap H locs → lv_has ls 3 [(0, .ref h), (1, .int a'), (2, .int i')] → W p l e { frames := 2, cells := 0, slots := 0, locals := 43 } s m args below meth c H locs 0 0 Q (F0 m 34 ls [])) →
      W p l e { frames := 2, cells := 0, slots := 0, locals := 43 } s m args below meth c H locs 0 0 Q (F0 m 4 ls []) := by
  intro n
  induction n with
  | zero =>
    intro j C a H locs ls hst hP hD hS hl kk
    refine lv_iload_n hx hb dX_clearLinks_4 rfl (lv_at hl 2 rfl) ?_
    refine lv_aload_n hx hb dX_clearLinks_5 rfl (lv_at hl 0 rfl) ?_
    refine va_get (D := D) (ci := 0) (v := .int ob) (C := RX) (T := TX) (N := 11) hx hb hbg bg_X hown hK hP 0 rfl rfl 4 (by decide) (hbg _ bw_55) (fun _ h9 => h9) rfl dX_clearLinks_6 ?_
    refine lv_icmp_ge (tgt := 34) hx hb dX_clearLinks_9 (by decide) (fun _ => ?_) (fun z => absurd ((sr_cle (by have := sr_clt ob; omega)).mpr (by omega)) z)
    exact kk a (nI j) _ _ _ hP hD hS (lv_sub hl [0, 1, 2] rfl)
  | succ n ih =>
    intro j C a H locs ls hst hP hD hS hl kk
    refine lv_iload_n hx hb dX_clearLinks_4 rfl (lv_at hl 2 rfl) ?_
    refine lv_aload_n hx hb dX_clearLinks_5 rfl (lv_at hl 0 rfl) ?_
    refine va_get (D := D) (ci := 0) (v := .int ob) (C := RX) (T := TX) (N := 11) hx hb hbg bg_X hown hK hP 0 rfl rfl 4 (by decide) (hbg _ bw_55) (fun _ h9 => h9) rfl dX_clearLinks_6 ?_
    refine lv_icmp_ge (tgt := 34) hx hb dX_clearLinks_9 (by decide) (fun z => absurd z (fun z => absurd ((sr_cle (by have := sr_clt ob; omega)).mp z) (by omega))) (fun _ => ?_)
    refine lv_aload_n hx hb dX_clearLinks_12 rfl (lv_at hl 0 rfl) ?_
    refine lv_iload_n hx hb dX_clearLinks_13 rfl (lv_at hl 1 rfl) ?_
    refine lv_iconst (v := 2) hx hb dX_clearLinks_14 (by decide) ?_
    refine lv_iadd hx hb dX_clearLinks_15 ?_
    refine lv_iconst (v := 0) hx hb dX_clearLinks_16 (by decide) ?_
    refine sy_cVv (wc := wX h rr cc cI N R C li us ob sl go gi fr la re) (wr := []) (w1 := wX h rr cc cI N R (sr_wr N C (a + 2) 0) li us ob sl go gi fr la re) (ci := 0) (q0 := 0) (As := [.int (a + 2), .int 0]) (rest := []) ⟨hx, hb, hml, hown, hbg⟩ (ct_X_write l D h rr cc cI N R C li us ob sl go gi fr la re H.size (a + 2) 0 hN) (cwV 2 hbg (bg_V bw_84 bw_85 bw_2 bw_34 bw_86) rfl rfl rfl (by decide +kernel) ⟨Nat.le_of_ble_eq_true rfl, Nat.le_of_ble_eq_true rfl⟩) hK [0] rfl hP hD hS hA [0, 1, 2] [] rfl rfl rfl rfl (by decide) rfl rfl rfl hl.1 rfl (Nat.le_of_ble_eq_true rfl) dX_clearLinks_17 ⟨Nat.le_of_ble_eq_true rfl, Nat.le_of_ble_eq_true rfl⟩ (fun H locs hP hD hS => ?_)
    have hP : va_P D vwC (wX h rr cc cI N R (sr_wr N C (a + 2) 0) li us ob sl go gi fr la re) H := hP
    have hD : va_D A (wX h rr cc cI N R (sr_wr N C (a + 2) 0) li us ob sl go gi fr la re) := hD
    refine lv_iload_n hx hb dX_clearLinks_20 rfl (lv_at hl 1 rfl) ?_
    refine lv_aload_n hx hb dX_clearLinks_21 rfl (lv_at hl 0 rfl) ?_
    refine lv_iload_n hx hb dX_clearLinks_22 rfl (lv_at hl 1 rfl) ?_
    refine sy_cVi (wc := wX h rr cc cI N R (sr_wr N C (a + 2) 0) li us ob sl go gi fr la re) (wr := []) (w1 := wX h rr cc cI N R (sr_wr N C (a + 2) 0) li us ob sl go gi fr la re) (ci := 0) (q0 := 0) (As := [.int a]) (rest := [.int a]) ⟨hx, hb, hml, hown, hbg⟩ (ct_X_sizeOf l D h rr cc cI N R (sr_wr N C (a + 2) 0) li us ob sl go gi fr la re H.size a hN) (cwV 1 hbg (bg_V bw_87 bw_88 bw_3 bw_34 bw_89) rfl rfl rfl (by decide +kernel) ⟨Nat.le_of_ble_eq_true rfl, Nat.le_of_ble_eq_true rfl⟩) hK [0] rfl hP hD hS hA [0, 1, 2] [] rfl rfl rfl rfl (by decide) rfl rfl rfl hl.1 rfl (Nat.le_of_ble_eq_true rfl) dX_clearLinks_23 ⟨Nat.le_of_ble_eq_true rfl, Nat.le_of_ble_eq_true rfl⟩ (fun H locs hP hD hS => ?_)
    have hP : va_P D vwC (wX h rr cc cI N R (sr_wr N C (a + 2) 0) li us ob sl go gi fr la re) H := hP
    have hD : va_D A (wX h rr cc cI N R (sr_wr N C (a + 2) 0) li us ob sl go gi fr la re) := hD
    refine lv_iadd hx hb dX_clearLinks_26 ?_
    refine lv_istore_n (lv' := [(1, .int (a + (sr_si N (sr_wr N C (a + 2) 0) a))), (0, .ref h), (2, .int (nI j))]) hx hb dX_clearLinks_27 rfl hl (by decide) rfl (fun ls hl => ?_)
    refine lv_iinc (v := nI (j + 1)) (lv' := [(2, .int (nI (j + 1))), (1, .int (a + (sr_si N (sr_wr N C (a + 2) 0) a))), (0, .ref h)]) hx hb dX_clearLinks_28 hl (k := 2) rfl (nI_1 j) (by decide) rfl (fun ls hl => ?_)
    refine lv_goto (tgt := 4) hx hb dX_clearLinks_31 (by decide) ?_
    exact ih (j + 1) (sr_wr N C (a + 2) 0) (a + (sr_si N (sr_wr N C (a + 2) 0) a)) _ _ _ (by omega) hP hD hS (lv_sub hl [2, 1, 0] rfl) kk

set_option maxHeartbeats 4000000 in
set_option maxRecDepth 100000 in
theorem ct_X_clearLinks (l : Launch) (D : va_G) (h rr cc : Nat) (cI : ClassId) (N : Nat) (R C : Nat → Int32) (li us ob sl go gi fr la re : Int32) (sz : Nat) (hN : N < 2 ^ 31) : sy_Mv l yX_clearLinks (Cond.code yX_clearLinks bX_clearLinks 3 none :: sr_big) { frames := 2, cells := 0, slots := 0, locals := 43 } D vwC [(cI, .int)] [.ref h] (wX h rr cc cI N R C li us ob sl go gi fr la re) sz (wX h rr cc cI N R (sr_clr N ob.toNatClampNeg C 1) li us ob sl go gi fr la re) 0 0 := by
  refine Met.ofW (cc := bX_clearLinks) (maxL := 3) (ret := none) (by decide) rfl ?_
  intro p e s m args below meth c s₁ B hml hv
  obtain ⟨rfl, hsz, hP, hK, hD0⟩ := hv
  have hx := B.exec
  have hb := B.bytes
  have hr := B.returns
  have hbg : ∀ w ∈ sr_big, w.before _ s = true := fun w h => atoms_spec (ws := Cond.code yX_clearLinks bX_clearLinks 3 none :: sr_big) B.pre w (List.mem_cons_of_mem _ h)
  have hown : s.vm.findClass RX = some m.cls := findClass_of_methodNamed B.named
  have hlocks := B.notSynchronized
  subst hsz
  have hD := hD0.self (sz := s.heap.size)
  generalize hAe : va_A (wX h rr cc cI N R C li us ob sl go gi fr la re) s.heap.size = A at *
  have hA : ∀ q : Nat, s.heap.size ≤ q → A q := fun q h => by rw [← hAe]; exact Or.inr h
  have hS : va_S A s.heap s.heap [] := va_S.rf
  have hl := lv_entry ([.ref h]) (n := 3) (Nat.le_of_ble_eq_true rfl)
  rw [lg_entry_eq]
  generalize (lg_sl ([.ref h]) ++ List.replicate (3 - (lg_sl ([.ref h])).length) Slot.unset).toArray = ls at hl ⊢
  have hl : lv_has ls 3 [(0, .ref h)] := hl
  refine lv_iconst (v := 1) hx hb dX_clearLinks_0 (by decide) ?_
  refine lv_istore_n (lv' := [(1, .int 1), (0, .ref h)]) hx hb dX_clearLinks_1 rfl hl (by decide) rfl (fun ls hl => ?_)
  refine lv_iconst (v := 0) hx hb dX_clearLinks_2 (by decide) ?_
  refine lv_istore_n (lv' := [(2, .int 0), (1, .int 1), (0, .ref h)]) hx hb dX_clearLinks_3 rfl hl (by decide) rfl (fun ls hl => ?_)
  refine lp_X_clearLinks hx hb hml hown hbg hK hA hN ob.toNatClampNeg 0 C 1 _ _ _ (by simp) hP hD hS (lv_sub hl [2, 1, 0] rfl) ?_
  intro a' i' H locs ls hP hD hS hl
  refine W.widen (k := 0) (n := 0) (Nat.le_of_ble_eq_true rfl) (Nat.le_of_ble_eq_true rfl) ?_
  exact W.vret hx hb hr (fun t ht hW => ⟨⟨(), rfl, trivial, by rw [ht]; exact hP, va_K.moved hW.alike hK, hD⟩, hS.F ht⟩) hS.2.2 dX_clearLinks_34

set_option maxHeartbeats 4000000 in
set_option maxRecDepth 100000 in
theorem lp_X_isObject {C : Nat → Int32} {x : Int32} {fr la re : Int32} (hx : p.tables.exec = Jvm.exec) (hb : c.code = bX_isObject) (hml : c.maxLocals = 4) (hown : s.vm.findClass RX = some m.cls) (hbg : ∀ w ∈ sr_big, w.before args s = true) (hK : va_K D vwC [(cI, .int)] s) (hA : ∀ q : Nat, s.heap.size ≤ q → A q) (hN : N < 2 ^ 31) :
    ∀ (n j : Nat) (a : Int32) (H : Heap) (locs : List Loc) (ls : Array Slot), j + n = ob.toNatClampNeg → va_P D vwC (wX h rr cc cI N R C li us ob sl go gi fr la re) H → va_D A (wX h rr cc cI N R C li us ob sl go gi fr la re) → va_S A s.heap H locs → lv_has ls 4 [(0, .ref h), (1, .int x), (2, .int a), (3, .int (nI j))] →
      (∀ (a' i' : Int32) (H : Heap) (locs : List Loc) (ls : Array Slot), sr_isO N C x n a = false → va_P D vwC (wX h rr cc cI N R C li us ob sl go gi fr la re) H → va_D A (wX h rr cc cI N R C li us ob sl go gi fr la re) → va_S A s.heap H locs → lv_has ls 4 [(0, .ref h), (1, .int x), (2, .int a'), (3, .int i')] → W p l e { frames := 2, cells := 0, slots := 0, locals := 43 } s m args below meth c H locs 0 0 Q (F0 m 38 ls [])) →
      (∀ (a' i' : Int32) (H : Heap) (locs : List Loc) (ls : Array Slot), sr_isO N C x n a = true → va_P D vwC (wX h rr cc cI N R C li us ob sl go gi fr la re) H → va_D A (wX h rr cc cI N R C li us ob sl go gi fr la re) → va_S A s.heap H locs → lv_has ls 4 [(0, .ref h), (1, .int x), (2, .int a'), (3, .int i')] → W p l e { frames := 2, cells := 0, slots := 0, locals := 43 } s m args below meth c H locs 0 0 Q (F0 m 22 ls [])) →
      W p l e { frames := 2, cells := 0, slots := 0, locals := 43 } s m args below meth c H locs 0 0 Q (F0 m 4 ls []) := by
  intro n
  induction n with
  | zero =>
    intro j a H locs ls hst hP hD hS hl k38 k22
    refine lv_iload_n hx hb dX_isObject_4 rfl (lv_at hl 3 rfl) ?_
    refine lv_aload_n hx hb dX_isObject_5 rfl (lv_at hl 0 rfl) ?_
    refine va_get (D := D) (ci := 0) (v := .int ob) (C := RX) (T := TX) (N := 11) hx hb hbg bg_X hown hK hP 0 rfl rfl 4 (by decide) (hbg _ bw_55) (fun _ h9 => h9) rfl dX_isObject_6 ?_
    refine lv_icmp_ge (tgt := 38) hx hb dX_isObject_9 (by decide) (fun _ => ?_) (fun z => absurd ((sr_cle (by have := sr_clt ob; omega)).mpr (by omega)) z)
    exact k38 a (nI j) _ _ _ rfl hP hD hS (lv_sub hl [0, 1, 2, 3] rfl)
  | succ n ih =>
    intro j a H locs ls hst hP hD hS hl k38 k22
    refine lv_iload_n hx hb dX_isObject_4 rfl (lv_at hl 3 rfl) ?_
    refine lv_aload_n hx hb dX_isObject_5 rfl (lv_at hl 0 rfl) ?_
    refine va_get (D := D) (ci := 0) (v := .int ob) (C := RX) (T := TX) (N := 11) hx hb hbg bg_X hown hK hP 0 rfl rfl 4 (by decide) (hbg _ bw_55) (fun _ h9 => h9) rfl dX_isObject_6 ?_
    refine lv_icmp_ge (tgt := 38) hx hb dX_isObject_9 (by decide) (fun z => absurd z (fun z => absurd ((sr_cle (by have := sr_clt ob; omega)).mp z) (by omega))) (fun _ => ?_)
    refine lv_iload_n hx hb dX_isObject_12 rfl (lv_at hl 2 rfl) ?_
    refine lv_iload_n hx hb dX_isObject_13 rfl (lv_at hl 1 rfl) ?_
    refine lv_icmp_gt (tgt := 38) hx hb dX_isObject_14 (by decide) (fun c_14 => ?_) (fun c_14 => ?_)
    · exact k38 a (nI j) _ _ _ (by simp only [sr_isO, c_14, ↓reduceIte]) hP hD hS (lv_sub hl [0, 1, 2, 3] rfl)
    · refine lv_iload_n hx hb dX_isObject_17 rfl (lv_at hl 2 rfl) ?_
      refine lv_iload_n hx hb dX_isObject_18 rfl (lv_at hl 1 rfl) ?_
      refine lv_icmp_ne (tgt := 24) hx hb dX_isObject_19 (by decide) (fun c_19 => ?_) (fun c_19 => ?_)
      · refine lv_iload_n hx hb dX_isObject_24 rfl (lv_at hl 2 rfl) ?_
        refine lv_aload_n hx hb dX_isObject_25 rfl (lv_at hl 0 rfl) ?_
        refine lv_iload_n hx hb dX_isObject_26 rfl (lv_at hl 2 rfl) ?_
        refine sy_cVi (wc := wX h rr cc cI N R C li us ob sl go gi fr la re) (wr := []) (w1 := wX h rr cc cI N R C li us ob sl go gi fr la re) (ci := 0) (q0 := 0) (As := [.int a]) (rest := [.int a]) ⟨hx, hb, hml, hown, hbg⟩ (ct_X_sizeOf l D h rr cc cI N R C li us ob sl go gi fr la re H.size a hN) (cwV 1 hbg (bg_V bw_87 bw_88 bw_3 bw_34 bw_89) rfl rfl rfl (by decide +kernel) ⟨Nat.le_of_ble_eq_true rfl, Nat.le_of_ble_eq_true rfl⟩) hK [0] rfl hP hD hS hA [0, 1, 2] [] rfl rfl rfl rfl (by decide) rfl rfl rfl hl.1 rfl (Nat.le_of_ble_eq_true rfl) dX_isObject_27 ⟨Nat.le_of_ble_eq_true rfl, Nat.le_of_ble_eq_true rfl⟩ (fun H locs hP hD hS => ?_)
        have hP : va_P D vwC (wX h rr cc cI N R C li us ob sl go gi fr la re) H := hP
        have hD : va_D A (wX h rr cc cI N R C li us ob sl go gi fr la re) := hD
        refine lv_iadd hx hb dX_isObject_30 ?_
        refine lv_istore_n (lv' := [(2, .int (a + (sr_si N C a))), (0, .ref h), (1, .int x), (3, .int (nI j))]) hx hb dX_isObject_31 rfl hl (by decide) rfl (fun ls hl => ?_)
        refine lv_iinc (v := nI (j + 1)) (lv' := [(3, .int (nI (j + 1))), (2, .int (a + (sr_si N C a))), (0, .ref h), (1, .int x)]) hx hb dX_isObject_32 hl (k := 3) rfl (nI_1 j) (by decide) rfl (fun ls hl => ?_)
        refine lv_goto (tgt := 4) hx hb dX_isObject_35 (by decide) ?_
        have es : sr_isO N C x (n + 1) a = sr_isO N C x n (a + sr_si N C a) := by simp only [sr_isO, c_14, c_19, ↓reduceIte]
        rw [es] at k38 k22
        exact ih (j + 1) (a + (sr_si N C a)) _ _ _ (by omega) hP hD hS (lv_sub hl [2, 3, 1, 0] rfl) k38 k22
      · exact k22 a (nI j) _ _ _ (by unfold sr_isO; rw [if_neg c_14, if_pos c_19]) hP hD hS (lv_sub hl [0, 1, 2, 3] rfl)

set_option maxHeartbeats 4000000 in
set_option maxRecDepth 100000 in
theorem ct_X_isObject (l : Launch) (D : va_G) (h rr cc : Nat) (cI : ClassId) (N : Nat) (R C : Nat → Int32) (li us ob sl go gi fr la re : Int32) (sz : Nat) (x : Int32) (hN : N < 2 ^ 31) : sy_Mi l yX_isObject (Cond.code yX_isObject bX_isObject 4 (some .boolean) :: sr_big) { frames := 2, cells := 0, slots := 0, locals := 43 } D vwC [(cI, .int)] [.ref h, .int x] (wX h rr cc cI N R C li us ob sl go gi fr la re) sz (if sr_isO N C x ob.toNatClampNeg 1 = true then 1 else 0) (wX h rr cc cI N R C li us ob sl go gi fr la re) 0 0 := by
  refine Met.ofW (cc := bX_isObject) (maxL := 4) (ret := (some .boolean)) (by decide) rfl ?_
  intro p e s m args below meth c s₁ B hml hv
  obtain ⟨rfl, hsz, hP, hK, hD0⟩ := hv
  have hx := B.exec
  have hb := B.bytes
  have hr := B.returns
  have hbg : ∀ w ∈ sr_big, w.before _ s = true := fun w h => atoms_spec (ws := Cond.code yX_isObject bX_isObject 4 (some .boolean) :: sr_big) B.pre w (List.mem_cons_of_mem _ h)
  have hown : s.vm.findClass RX = some m.cls := findClass_of_methodNamed B.named
  have hlocks := B.notSynchronized
  subst hsz
  have hD := hD0.self (sz := s.heap.size)
  generalize hAe : va_A (wX h rr cc cI N R C li us ob sl go gi fr la re) s.heap.size = A at *
  have hA : ∀ q : Nat, s.heap.size ≤ q → A q := fun q h => by rw [← hAe]; exact Or.inr h
  have hS : va_S A s.heap s.heap [] := va_S.rf
  have hl := lv_entry ([.ref h, .int x]) (n := 4) (Nat.le_of_ble_eq_true rfl)
  rw [lg_entry_eq]
  generalize (lg_sl ([.ref h, .int x]) ++ List.replicate (4 - (lg_sl ([.ref h, .int x])).length) Slot.unset).toArray = ls at hl ⊢
  have hl : lv_has ls 4 [(0, .ref h), (1, .int x)] := hl
  refine lv_iconst (v := 1) hx hb dX_isObject_0 (by decide) ?_
  refine lv_istore_n (lv' := [(2, .int 1), (0, .ref h), (1, .int x)]) hx hb dX_isObject_1 rfl hl (by decide) rfl (fun ls hl => ?_)
  refine lv_iconst (v := 0) hx hb dX_isObject_2 (by decide) ?_
  refine lv_istore_n (lv' := [(3, .int 0), (2, .int 1), (0, .ref h), (1, .int x)]) hx hb dX_isObject_3 rfl hl (by decide) rfl (fun ls hl => ?_)
  refine lp_X_isObject hx hb hml hown hbg hK hA hN ob.toNatClampNeg 0 1 _ _ _ (by simp) hP hD hS (lv_sub hl [2, 3, 1, 0] rfl) ?_ ?_
  · intro a' i' H locs ls hc hP hD hS hl
    refine lv_iconst (v := 0) hx hb dX_isObject_38 (by decide) ?_
    refine W.widen (k := 0) (n := 0) (Nat.le_of_ble_eq_true rfl) (Nat.le_of_ble_eq_true rfl) ?_
    exact W.zret (ty := .boolean) (v := 0) hx hb hr rfl (fun t ht hW => ⟨⟨0, (), rfl, (by rw [hc]; rfl), by rw [ht]; exact hP, va_K.moved hW.alike hK, hD⟩, hS.F ht⟩) hS.2.2 dX_isObject_39
  · intro a' i' H locs ls hc hP hD hS hl
    refine lv_iconst (v := 1) hx hb dX_isObject_22 (by decide) ?_
    refine W.widen (k := 0) (n := 0) (Nat.le_of_ble_eq_true rfl) (Nat.le_of_ble_eq_true rfl) ?_
    exact W.zret (ty := .boolean) (v := 1) hx hb hr rfl (fun t ht hW => ⟨⟨1, (), rfl, (by rw [hc]; rfl), by rw [ht]; exact hP, va_K.moved hW.alike hK, hD⟩, hS.F ht⟩) hS.2.2 dX_isObject_23

set_option maxHeartbeats 4000000 in
set_option maxRecDepth 100000 in
theorem lp_X_find {C : Nat → Int32} {x : Int32} {fr la re : Int32} (hx : p.tables.exec = Jvm.exec) (hb : c.code = bX_find) (hml : c.maxLocals = 4) (hown : s.vm.findClass RX = some m.cls) (hbg : ∀ w ∈ sr_big, w.before args s = true) (hK : va_K D vwC [(cI, .int)] s) (hA : ∀ q : Nat, s.heap.size ≤ q → A q) (hN : N < 2 ^ 31) :
    ∀ (n j : Nat) (a : Int32) (H : Heap) (locs : List Loc) (ls : Array Slot), j + n = ob.toNatClampNeg → va_P D vwC (wX h rr cc cI N R C li us ob sl go gi fr la re) H → va_D A (wX h rr cc cI N R C li us ob sl go gi fr la re) → va_S A s.heap H locs → lv_has ls 4 [(0, .ref h), (1, .int x), (2, .int a), (3, .int (nI j))] →
      (∀ (a' i' : Int32) (H : Heap) (locs : List Loc) (ls : Array Slot), sr_fn N C x n a = 0 → va_P D vwC (wX h rr cc cI N R C li us ob sl go gi fr la re) H → va_D A (wX h rr cc cI N R C li us ob sl go gi fr la re) → va_S A s.heap H locs → lv_has ls 4 [(0, .ref h), (1, .int x), (2, .int a'), (3, .int i')] → W p l e { frames := 2, cells := 0, slots := 0, locals := 43 } s m args below meth c H locs 0 0 Q (F0 m 55 ls [])) →
      (∀ (a' i' : Int32) (H : Heap) (locs : List Loc) (ls : Array Slot), sr_fn N C x n a = a' → va_P D vwC (wX h rr cc cI N R C li us ob sl go gi fr la re) H → va_D A (wX h rr cc cI N R C li us ob sl go gi fr la re) → va_S A s.heap H locs → lv_has ls 4 [(0, .ref h), (1, .int x), (2, .int a'), (3, .int i')] → W p l e { frames := 2, cells := 0, slots := 0, locals := 43 } s m args below meth c H locs 0 0 Q (F0 m 39 ls [])) →
      W p l e { frames := 2, cells := 0, slots := 0, locals := 43 } s m args below meth c H locs 0 0 Q (F0 m 18 ls []) := by
  intro n
  induction n with
  | zero =>
    intro j a H locs ls hst hP hD hS hl k55 k39
    refine lv_iload_n hx hb dX_find_18 rfl (lv_at hl 3 rfl) ?_
    refine lv_aload_n hx hb dX_find_19 rfl (lv_at hl 0 rfl) ?_
    refine va_get (D := D) (ci := 0) (v := .int ob) (C := RX) (T := TX) (N := 11) hx hb hbg bg_X hown hK hP 0 rfl rfl 4 (by decide) (hbg _ bw_55) (fun _ h9 => h9) rfl dX_find_20 ?_
    refine lv_icmp_ge (tgt := 55) hx hb dX_find_23 (by decide) (fun _ => ?_) (fun z => absurd ((sr_cle (by have := sr_clt ob; omega)).mpr (by omega)) z)
    exact k55 a (nI j) _ _ _ rfl hP hD hS (lv_sub hl [0, 1, 2, 3] rfl)
  | succ n ih =>
    intro j a H locs ls hst hP hD hS hl k55 k39
    refine lv_iload_n hx hb dX_find_18 rfl (lv_at hl 3 rfl) ?_
    refine lv_aload_n hx hb dX_find_19 rfl (lv_at hl 0 rfl) ?_
    refine va_get (D := D) (ci := 0) (v := .int ob) (C := RX) (T := TX) (N := 11) hx hb hbg bg_X hown hK hP 0 rfl rfl 4 (by decide) (hbg _ bw_55) (fun _ h9 => h9) rfl dX_find_20 ?_
    refine lv_icmp_ge (tgt := 55) hx hb dX_find_23 (by decide) (fun z => absurd z (fun z => absurd ((sr_cle (by have := sr_clt ob; omega)).mp z) (by omega))) (fun _ => ?_)
    refine lv_aload_n hx hb dX_find_26 rfl (lv_at hl 0 rfl) ?_
    refine lv_iload_n hx hb dX_find_27 rfl (lv_at hl 2 rfl) ?_
    refine lv_iconst (v := 1) hx hb dX_find_28 (by decide) ?_
    refine lv_iadd hx hb dX_find_29 ?_
    refine sy_cVi (wc := wX h rr cc cI N R C li us ob sl go gi fr la re) (wr := []) (w1 := wX h rr cc cI N R C li us ob sl go gi fr la re) (ci := 0) (q0 := 0) (As := [.int (a + 1)]) (rest := []) ⟨hx, hb, hml, hown, hbg⟩ (ct_X_read l D h rr cc cI N R C li us ob sl go gi fr la re H.size (a + 1) hN) (cwV 1 hbg (bg_V bw_90 bw_91 bw_4 bw_34 bw_92) rfl rfl rfl (by decide +kernel) ⟨Nat.le_of_ble_eq_true rfl, Nat.le_of_ble_eq_true rfl⟩) hK [0] rfl hP hD hS hA [0, 1, 2] [] rfl rfl rfl rfl (by decide) rfl rfl rfl hl.1 rfl (Nat.le_of_ble_eq_true rfl) dX_find_30 ⟨Nat.le_of_ble_eq_true rfl, Nat.le_of_ble_eq_true rfl⟩ (fun H locs hP hD hS => ?_)
    have hP : va_P D vwC (wX h rr cc cI N R C li us ob sl go gi fr la re) H := hP
    have hD : va_D A (wX h rr cc cI N R C li us ob sl go gi fr la re) := hD
    refine lv_iconst (v := 1) hx hb dX_find_33 (by decide) ?_
    refine lv_isub hx hb dX_find_34 ?_
    refine lv_iload_n hx hb dX_find_35 rfl (lv_at hl 1 rfl) ?_
    refine lv_icmp_ne (tgt := 41) hx hb dX_find_36 (by decide) (fun c_36 => ?_) (fun c_36 => ?_)
    · refine lv_iload_n hx hb dX_find_41 rfl (lv_at hl 2 rfl) ?_
      refine lv_aload_n hx hb dX_find_42 rfl (lv_at hl 0 rfl) ?_
      refine lv_iload_n hx hb dX_find_43 rfl (lv_at hl 2 rfl) ?_
      refine sy_cVi (wc := wX h rr cc cI N R C li us ob sl go gi fr la re) (wr := []) (w1 := wX h rr cc cI N R C li us ob sl go gi fr la re) (ci := 0) (q0 := 0) (As := [.int a]) (rest := [.int a]) ⟨hx, hb, hml, hown, hbg⟩ (ct_X_sizeOf l D h rr cc cI N R C li us ob sl go gi fr la re H.size a hN) (cwV 1 hbg (bg_V bw_87 bw_88 bw_3 bw_34 bw_89) rfl rfl rfl (by decide +kernel) ⟨Nat.le_of_ble_eq_true rfl, Nat.le_of_ble_eq_true rfl⟩) hK [0] rfl hP hD hS hA [0, 1, 2] [] rfl rfl rfl rfl (by decide) rfl rfl rfl hl.1 rfl (Nat.le_of_ble_eq_true rfl) dX_find_44 ⟨Nat.le_of_ble_eq_true rfl, Nat.le_of_ble_eq_true rfl⟩ (fun H locs hP hD hS => ?_)
      have hP : va_P D vwC (wX h rr cc cI N R C li us ob sl go gi fr la re) H := hP
      have hD : va_D A (wX h rr cc cI N R C li us ob sl go gi fr la re) := hD
      refine lv_iadd hx hb dX_find_47 ?_
      refine lv_istore_n (lv' := [(2, .int (a + (sr_si N C a))), (0, .ref h), (1, .int x), (3, .int (nI j))]) hx hb dX_find_48 rfl hl (by decide) rfl (fun ls hl => ?_)
      refine lv_iinc (v := nI (j + 1)) (lv' := [(3, .int (nI (j + 1))), (2, .int (a + (sr_si N C a))), (0, .ref h), (1, .int x)]) hx hb dX_find_49 hl (k := 3) rfl (nI_1 j) (by decide) rfl (fun ls hl => ?_)
      refine lv_goto (tgt := 18) hx hb dX_find_52 (by decide) ?_
      have es : sr_fn N C x (n + 1) a = sr_fn N C x n (a + sr_si N C a) := by simp only [sr_fn, c_36, ↓reduceIte]
      rw [es] at k55 k39
      exact ih (j + 1) (a + (sr_si N C a)) _ _ _ (by omega) hP hD hS (lv_sub hl [2, 3, 1, 0] rfl) k55 k39
    · exact k39 a (nI j) _ _ _ (by simp only [sr_fn, c_36, ↓reduceIte]) hP hD hS (lv_sub hl [0, 1, 2, 3] rfl)

set_option maxHeartbeats 4000000 in
set_option maxRecDepth 100000 in
theorem ct_X_find (l : Launch) (D : va_G) (h rr cc : Nat) (cI : ClassId) (N : Nat) (R C : Nat → Int32) (li us ob sl go gi fr la re : Int32) (sz : Nat) (x : Int32) (hN : N < 2 ^ 31) : sy_Mi l yX_find (Cond.code yX_find bX_find 4 (some .int) :: sr_big) { frames := 2, cells := 0, slots := 0, locals := 43 } D vwC [(cI, .int)] [.ref h, .int x] (wX h rr cc cI N R C li us ob sl go gi fr la re) sz (if x < 0 then 0 else if x < gi then sr_fn N C x ob.toNatClampNeg 1 else 0) (wX h rr cc cI N R C li us ob sl go gi fr la re) 0 0 := by
  refine Met.ofW (cc := bX_find) (maxL := 4) (ret := (some .int)) (by decide) rfl ?_
  intro p e s m args below meth c s₁ B hml hv
  obtain ⟨rfl, hsz, hP, hK, hD0⟩ := hv
  have hx := B.exec
  have hb := B.bytes
  have hr := B.returns
  have hbg : ∀ w ∈ sr_big, w.before _ s = true := fun w h => atoms_spec (ws := Cond.code yX_find bX_find 4 (some .int) :: sr_big) B.pre w (List.mem_cons_of_mem _ h)
  have hown : s.vm.findClass RX = some m.cls := findClass_of_methodNamed B.named
  have hlocks := B.notSynchronized
  subst hsz
  have hD := hD0.self (sz := s.heap.size)
  generalize hAe : va_A (wX h rr cc cI N R C li us ob sl go gi fr la re) s.heap.size = A at *
  have hA : ∀ q : Nat, s.heap.size ≤ q → A q := fun q h => by rw [← hAe]; exact Or.inr h
  have hS : va_S A s.heap s.heap [] := va_S.rf
  have hl := lv_entry ([.ref h, .int x]) (n := 4) (Nat.le_of_ble_eq_true rfl)
  rw [lg_entry_eq]
  generalize (lg_sl ([.ref h, .int x]) ++ List.replicate (4 - (lg_sl ([.ref h, .int x])).length) Slot.unset).toArray = ls at hl ⊢
  have hl : lv_has ls 4 [(0, .ref h), (1, .int x)] := hl
  refine lv_iload_n hx hb dX_find_0 rfl (lv_at hl 1 rfl) ?_
  refine lv_if_lt (tgt := 12) hx hb dX_find_1 (by decide) (fun c_1 => ?_) (fun c_1 => ?_)
  · refine lv_iconst (v := 0) hx hb dX_find_12 (by decide) ?_
    refine W.widen (k := 0) (n := 0) (Nat.le_of_ble_eq_true rfl) (Nat.le_of_ble_eq_true rfl) ?_
    exact W.iret (v := 0) hx hb hr (fun t ht hW => ⟨⟨0, (), rfl, (by simp only [c_1, ↓reduceIte]), by rw [ht]; exact hP, va_K.moved hW.alike hK, hD⟩, hS.F ht⟩) hS.2.2 dX_find_13
  · refine lv_iload_n hx hb dX_find_4 rfl (lv_at hl 1 rfl) ?_
    refine lv_aload_n hx hb dX_find_5 rfl (lv_at hl 0 rfl) ?_
    refine va_get (D := D) (ci := 0) (v := .int gi) (C := RX) (T := TX) (N := 11) hx hb hbg bg_X hown hK hP 0 rfl rfl 7 (by decide) (hbg _ bw_58) (fun _ h9 => h9) rfl dX_find_6 ?_
    refine lv_icmp_lt (tgt := 14) hx hb dX_find_9 (by decide) (fun c_9 => ?_) (fun c_9 => ?_)
    · refine lv_iconst (v := 1) hx hb dX_find_14 (by decide) ?_
      refine lv_istore_n (lv' := [(2, .int 1), (0, .ref h), (1, .int x)]) hx hb dX_find_15 rfl hl (by decide) rfl (fun ls hl => ?_)
      refine lv_iconst (v := 0) hx hb dX_find_16 (by decide) ?_
      refine lv_istore_n (lv' := [(3, .int 0), (2, .int 1), (0, .ref h), (1, .int x)]) hx hb dX_find_17 rfl hl (by decide) rfl (fun ls hl => ?_)
      refine lp_X_find hx hb hml hown hbg hK hA hN ob.toNatClampNeg 0 1 _ _ _ (by simp) hP hD hS (lv_sub hl [2, 3, 1, 0] rfl) ?_ ?_
      · intro a' i' H locs ls hc hP hD hS hl
        refine lv_iconst (v := 0) hx hb dX_find_55 (by decide) ?_
        refine W.widen (k := 0) (n := 0) (Nat.le_of_ble_eq_true rfl) (Nat.le_of_ble_eq_true rfl) ?_
        exact W.iret (v := 0) hx hb hr (fun t ht hW => ⟨⟨0, (), rfl, (by simp only [c_1, c_9, ↓reduceIte, hc]), by rw [ht]; exact hP, va_K.moved hW.alike hK, hD⟩, hS.F ht⟩) hS.2.2 dX_find_56
      · intro a' i' H locs ls hc hP hD hS hl
        refine lv_iload_n hx hb dX_find_39 rfl (lv_at hl 2 rfl) ?_
        refine W.widen (k := 0) (n := 0) (Nat.le_of_ble_eq_true rfl) (Nat.le_of_ble_eq_true rfl) ?_
        exact W.iret (v := a') hx hb hr (fun t ht hW => ⟨⟨a', (), rfl, (by simp only [c_1, c_9, ↓reduceIte, hc]), by rw [ht]; exact hP, va_K.moved hW.alike hK, hD⟩, hS.F ht⟩) hS.2.2 dX_find_40
    · refine lv_iconst (v := 0) hx hb dX_find_12 (by decide) ?_
      refine W.widen (k := 0) (n := 0) (Nat.le_of_ble_eq_true rfl) (Nat.le_of_ble_eq_true rfl) ?_
      exact W.iret (v := 0) hx hb hr (fun t ht hW => ⟨⟨0, (), rfl, (by simp only [c_1, c_9, ↓reduceIte]), by rw [ht]; exact hP, va_K.moved hW.alike hK, hD⟩, hS.F ht⟩) hS.2.2 dX_find_13

end XL
