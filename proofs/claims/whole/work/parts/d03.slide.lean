/-! CONTRACTS OF SlideRowModel: reach, slide, count (rows laid by wip/gen) -/
theorem sm_mm0 {rc : Nat → Int32} {a : Nat} (h : rc a = 0) : ¬ sr_mm rc a = true := fun z => sr_mm_t.mp z h
theorem sm_mm1 {rc : Nat → Int32} {a : Nat} (h : ¬ rc a = 0) : sr_mm rc a = true := sr_mm_t.mpr h
/-- the roots follow -/
def sm_rt (T : Nat → Int32) : Nat → Nat → (Nat → Int32) → Nat → Int32
  | 0, _, R => R
  | n + 1, j, R => sm_rt T n (j + 1) (upd R j (T (R j).toNatClampNeg))
theorem sm_rt_eq {T : Nat → Int32} : ∀ (n j : Nat) (R : Nat → Int32) (q : Nat), sm_rt T n j R q = if j ≤ q ∧ q < j + n then T (R q).toNatClampNeg else R q
  | 0, j, R, q => by rw [if_neg (by omega)]; rfl
  | n + 1, j, R, q => by
    show sm_rt T n (j + 1) _ q = _
    rw [sm_rt_eq n (j + 1) _ q]
    by_cases h : q = j
    · rw [if_neg (by omega), if_pos (by omega), h, pk_us]
    · rw [pk_un h]
      by_cases h2 : j + 1 ≤ q ∧ q < j + 1 + n
      · rw [if_pos h2, if_pos (by omega)]
      · rw [if_neg h2, if_neg (by omega)]
/-- the targets lie in the row -/
theorem sm_tgb {rc : Nat → Int32} : ∀ (us : List sr_O) (a b : Nat) (T : Nat → Int32), b ≤ a → (∀ p o, sr_ob a us p o → ∃ b', sr_tg rc a b us T p = nI b' ∧ b ≤ b' ∧ b' ≤ p) ∧ ∀ q, q < a → sr_tg rc a b us T q = T q
  | [], _, _, _, _ => ⟨fun _ _ h => h.elim, fun _ _ => rfl⟩
  | o :: us, a, b, T, h => by
    have h3 := sr_sz3 o
    have ih := sm_tgb (rc := rc) us (a + sr_sz o) (if sr_mm rc a = true then b + sr_sz o else b) (upd T a (nI b)) (by split <;> omega)
    have hle : b ≤ (if sr_mm rc a = true then b + sr_sz o else b) := by split <;> omega
    constructor
    · rintro p x (⟨rfl, rfl⟩ | hp)
      · refine ⟨b, ?_, Nat.le_refl _, h⟩
        show sr_tg rc _ _ us _ p = _
        rw [ih.2 p (by omega), pk_us]
      · obtain ⟨b', e, h4, h5⟩ := ih.1 p x hp
        exact ⟨b', e, Nat.le_trans hle h4, h5⟩
    · intro q hq
      show sr_tg rc _ _ us _ q = _
      rw [ih.2 q (by omega), pk_un (by omega)]
/-- what reach leaves of the marks -/
def sm_rc (Dt Rt : Nat → Int32) (us : List sr_O) (t : Nat) (Rc : Nat → Int32) : Nat → Int32 := (sr_mp Dt us 6000 (upd (sr_mr Rt 16 0 (sr_fl 0 (t + 1) 0 Rc)) 0 0, 1)).1
/-- what a slide of the model makes of targets, of the arrays -/
def sm_tg (rc : Nat → Int32) (us : List sr_O) (T : Nat → Int32) : Nat → Int32 := upd (sr_tg rc 1 1 us T) 0 0
def sm_bl (rc T : Nat → Int32) (us : List sr_O) (F W Nm D : Nat → Int32) : sr_B := sr_bl rc T 1 us (F, W, Nm, sr_do rc T 1 us D)
theorem sm_vdf {T : Nat → Int32} {a : Nat} {o : sr_O} {us : List sr_O} {D D' : Nat → Int32} (h : ∀ q1 o1, sr_ob a (o :: us) q1 o1 → ∀ i, i < o1.1 → vp_in (D (q1 + 3 + i)) 16386) (hD : D' = D ∨ D' = sr_df T a o.1 0 D) : ∀ q1 o1, sr_ob (a + sr_sz o) us q1 o1 → ∀ i, i < o1.1 → vp_in (D' (q1 + 3 + i)) 16386 := by
  intro q1 o1 h1 i hi
  have hs : sr_sz o = 3 + o.1 + o.2.1 := rfl
  have hb := (sr_ob_bd _ _ _ _ h1).1
  rcases hD with rfl | rfl
  · exact h q1 o1 (Or.inr h1) i hi
  · rw [sr_df_eq, if_neg (by omega)]; exact h q1 o1 (Or.inr h1) i hi

section MS
variable {p : Program} {l : Launch} {e : Env} {s : State} {m : MethodId} {args : Array Value} {below : List Frame} {meth : Method} {c : Code} {Q : State → Prop} {A : Nat → Prop} {D : va_G} {g fA wA nA tA rA dA oA : Nat} {cI cZ : ClassId} {th ce sl go gi : Int32}

set_option maxHeartbeats 4000000 in
set_option maxRecDepth 100000 in
theorem lp_M_reach1 {t : Nat} {F Wd Nm Tg Dt Rt : Nat → Int32} (hx : p.tables.exec = Jvm.exec) (hb : c.code = bM_reach) (hml : c.maxLocals = 6) (hown : s.vm.findClass RM = some m.cls) (hbg : ∀ w ∈ sr_big, w.before args s = true) (hK : va_K D vwC [(cI, .int), (cZ, .boolean)] s) (hA : ∀ q : Nat, s.heap.size ≤ q → A q) (h5 : t ≤ 16385) :
    ∀ (n j : Nat) (Rc : Nat → Int32) (H : Heap) (locs : List Loc) (ls : Array Slot), j + n = t + 1 → va_P D vwC (wM g fA wA nA tA rA dA oA cI cZ F Wd Nm Tg Rc Dt Rt th ce (nI t) sl go gi) H → va_D A (wM g fA wA nA tA rA dA oA cI cZ F Wd Nm Tg Rc Dt Rt th ce (nI t) sl go gi) → va_S A s.heap H locs → lv_has ls 6 [(0, .ref g), (1, .int (nI j))] →
      (∀ (H : Heap) (locs : List Loc) (ls : Array Slot), va_P D vwC (wM g fA wA nA tA rA dA oA cI cZ F Wd Nm Tg (sr_fl 0 n j Rc) Dt Rt th ce (nI t) sl go gi) H → va_D A (wM g fA wA nA tA rA dA oA cI cZ F Wd Nm Tg (sr_fl 0 n j Rc) Dt Rt th ce (nI t) sl go gi) → va_S A s.heap H locs → lv_has ls 6 [(0, .ref g)] → W p l e { frames := 1, cells := 0, slots := 0, locals := 21 } s m args below meth c H locs 0 0 Q (F0 m 23 ls [])) →
      W p l e { frames := 1, cells := 0, slots := 0, locals := 21 } s m args below meth c H locs 0 0 Q (F0 m 2 ls []) := by
  intro n
  induction n with
  | zero =>
    intro j Rc H locs ls hst hP hD hS hl kk
    refine lv_iload_n hx hb dM_reach_2 rfl (lv_at hl 1 rfl) ?_
    refine lv_aload_n hx hb dM_reach_3 rfl (lv_at hl 0 rfl) ?_
    refine va_get (D := D) (ci := 1) (v := .int (nI t)) (C := RM) (T := TM) (N := 13) hx hb hbg bg_M hown hK hP 0 rfl rfl 2 (by decide) (hbg _ bw_311) (fun _ h9 => h9) rfl dM_reach_4 ?_
    refine lv_icmp_gt (tgt := 23) hx hb dM_reach_7 (by decide) (fun _ => ?_) (fun z => absurd (nI_lt (by omega) (by omega)) z)
    exact kk  _ _ _ hP hD hS (lv_sub hl [0] rfl)
  | succ n ih =>
    intro j Rc H locs ls hst hP hD hS hl kk
    refine lv_iload_n hx hb dM_reach_2 rfl (lv_at hl 1 rfl) ?_
    refine lv_aload_n hx hb dM_reach_3 rfl (lv_at hl 0 rfl) ?_
    refine va_get (D := D) (ci := 1) (v := .int (nI t)) (C := RM) (T := TM) (N := 13) hx hb hbg bg_M hown hK hP 0 rfl rfl 2 (by decide) (hbg _ bw_311) (fun _ h9 => h9) rfl dM_reach_4 ?_
    refine lv_icmp_gt (tgt := 23) hx hb dM_reach_7 (by decide) (fun z => absurd z (nI_nlt (by omega) (by omega))) (fun _ => ?_)
    refine lv_aload_n hx hb dM_reach_10 rfl (lv_at hl 0 rfl) ?_
    refine va_get (D := D) (ci := 1) (v := .ref rA) (C := RM) (T := TM) (N := 13) hx hb hbg bg_M hown hK hP 0 rfl rfl 7 (by decide) (hbg _ bw_316) (fun _ h9 => h9) rfl dM_reach_11 ?_
    refine lv_iload_n hx hb dM_reach_14 rfl (lv_at hl 1 rfl) ?_
    refine lv_iconst (v := 0) hx hb dM_reach_15 (by decide) ?_
    refine sy_zast (j := j) hx hb hK hP hD hS 5 1 rfl rfl rfl (by omega) (by omega) dM_reach_16 (fun H locs hP hD hS => ?_)
    have hP : va_P D vwC (wM g fA wA nA tA rA dA oA cI cZ F Wd Nm Tg (upd Rc j 0) Dt Rt th ce (nI t) sl go gi) H := hP
    have hD : va_D A (wM g fA wA nA tA rA dA oA cI cZ F Wd Nm Tg (upd Rc j 0) Dt Rt th ce (nI t) sl go gi) := hD
    refine lv_iinc (v := nI (j + 1)) (lv' := [(1, .int (nI (j + 1))), (0, .ref g)]) hx hb dM_reach_17 hl (k := 1) rfl (nI_1 j) (by decide) rfl (fun ls hl => ?_)
    refine lv_goto (tgt := 2) hx hb dM_reach_20 (by decide) ?_
    exact ih (j + 1) (upd Rc j 0) _ _ _ (by omega) hP hD hS (lv_sub hl [1, 0] rfl) kk

set_option maxHeartbeats 4000000 in
set_option maxRecDepth 100000 in
theorem lp_M_reach2 {tp : Int32} {F Wd Nm Tg Dt Rt : Nat → Int32} (hx : p.tables.exec = Jvm.exec) (hb : c.code = bM_reach) (hml : c.maxLocals = 6) (hown : s.vm.findClass RM = some m.cls) (hbg : ∀ w ∈ sr_big, w.before args s = true) (hK : va_K D vwC [(cI, .int), (cZ, .boolean)] s) (hA : ∀ q : Nat, s.heap.size ≤ q → A q) (hR : ∀ r1, r1 < 16 → vp_in (Rt r1) 16386) :
    ∀ (n j : Nat) (Rc : Nat → Int32) (H : Heap) (locs : List Loc) (ls : Array Slot), j + n = 16 → va_P D vwC (wM g fA wA nA tA rA dA oA cI cZ F Wd Nm Tg Rc Dt Rt th ce tp sl go gi) H → va_D A (wM g fA wA nA tA rA dA oA cI cZ F Wd Nm Tg Rc Dt Rt th ce tp sl go gi) → va_S A s.heap H locs → lv_has ls 6 [(0, .ref g), (1, .int (nI j))] →
      (∀ (H : Heap) (locs : List Loc) (ls : Array Slot), va_P D vwC (wM g fA wA nA tA rA dA oA cI cZ F Wd Nm Tg (sr_mr Rt n j Rc) Dt Rt th ce tp sl go gi) H → va_D A (wM g fA wA nA tA rA dA oA cI cZ F Wd Nm Tg (sr_mr Rt n j Rc) Dt Rt th ce tp sl go gi) → va_S A s.heap H locs → lv_has ls 6 [(0, .ref g)] → W p l e { frames := 1, cells := 0, slots := 0, locals := 21 } s m args below meth c H locs 0 0 Q (F0 m 49 ls [])) →
      W p l e { frames := 1, cells := 0, slots := 0, locals := 21 } s m args below meth c H locs 0 0 Q (F0 m 25 ls []) := by
  intro n
  induction n with
  | zero =>
    intro j Rc H locs ls hst hP hD hS hl kk
    refine lv_iload_n hx hb dM_reach_25 rfl (lv_at hl 1 rfl) ?_
    refine lv_bipush (v := 16) hx hb dM_reach_26 (by decide) ?_
    refine lv_icmp_ge (tgt := 49) hx hb dM_reach_28 (by decide) (fun _ => ?_) (fun z => absurd (nI_le (a := 16) (by omega) (by omega)) z)
    exact kk  _ _ _ hP hD hS (lv_sub hl [0] rfl)
  | succ n ih =>
    intro j Rc H locs ls hst hP hD hS hl kk
    refine lv_iload_n hx hb dM_reach_25 rfl (lv_at hl 1 rfl) ?_
    refine lv_bipush (v := 16) hx hb dM_reach_26 (by decide) ?_
    refine lv_icmp_ge (tgt := 49) hx hb dM_reach_28 (by decide) (fun z => absurd z (nI_ge (b := 16) (by omega) (by omega))) (fun _ => ?_)
    refine lv_aload_n hx hb dM_reach_31 rfl (lv_at hl 0 rfl) ?_
    refine va_get (D := D) (ci := 1) (v := .ref rA) (C := RM) (T := TM) (N := 13) hx hb hbg bg_M hown hK hP 0 rfl rfl 7 (by decide) (hbg _ bw_316) (fun _ h9 => h9) rfl dM_reach_32 ?_
    refine lv_aload_n hx hb dM_reach_35 rfl (lv_at hl 0 rfl) ?_
    refine va_get (D := D) (ci := 1) (v := .ref oA) (C := RM) (T := TM) (N := 13) hx hb hbg bg_M hown hK hP 0 rfl rfl 9 (by decide) (hbg _ bw_318) (fun _ h9 => h9) rfl dM_reach_36 ?_
    refine lv_iload_n hx hb dM_reach_39 rfl (lv_at hl 1 rfl) ?_
    refine sy_iald (j := j) hx hb hK hP 7 0 rfl rfl (by omega) (by omega) dM_reach_40 ?_
    refine lv_iconst (v := 1) hx hb dM_reach_41 (by decide) ?_
    refine va_zast hx hb hK hP hD hS 5 1 rfl rfl (hR j (by omega)) dM_reach_42 (fun H locs hP hD hS => ?_)
    have hP : va_P D vwC (wM g fA wA nA tA rA dA oA cI cZ F Wd Nm Tg (upd Rc ((Rt j).toNatClampNeg) 1) Dt Rt th ce tp sl go gi) H := hP
    have hD : va_D A (wM g fA wA nA tA rA dA oA cI cZ F Wd Nm Tg (upd Rc ((Rt j).toNatClampNeg) 1) Dt Rt th ce tp sl go gi) := hD
    refine lv_iinc (v := nI (j + 1)) (lv' := [(1, .int (nI (j + 1))), (0, .ref g)]) hx hb dM_reach_43 hl (k := 1) rfl (nI_1 j) (by decide) rfl (fun ls hl => ?_)
    refine lv_goto (tgt := 25) hx hb dM_reach_46 (by decide) ?_
    exact ih (j + 1) (upd Rc ((Rt j).toNatClampNeg) 1) _ _ _ (by omega) hP hD hS (lv_sub hl [1, 0] rfl) kk

set_option maxHeartbeats 4000000 in
set_option maxRecDepth 100000 in
theorem lp_M_reach3 {a nf : Nat} {kk2 tp : Int32} {F Wd Nm Tg Dt Rt : Nat → Int32} (hx : p.tables.exec = Jvm.exec) (hb : c.code = bM_reach) (hml : c.maxLocals = 6) (hown : s.vm.findClass RM = some m.cls) (hbg : ∀ w ∈ sr_big, w.before args s = true) (hK : va_K D vwC [(cI, .int), (cZ, .boolean)] s) (hA : ∀ q : Nat, s.heap.size ≤ q → A q) (hF : F a = nI (nf + 1)) (h6 : a + 3 + nf ≤ 16386) (hV : ∀ i1, i1 < nf → vp_in (Dt (a + 3 + i1)) 16386) :
    ∀ (n f : Nat) (Rc : Nat → Int32) (mo : Int32) (H : Heap) (locs : List Loc) (ls : Array Slot), f + n = nf → va_P D vwC (wM g fA wA nA tA rA dA oA cI cZ F Wd Nm Tg Rc Dt Rt th ce tp sl go gi) H → va_D A (wM g fA wA nA tA rA dA oA cI cZ F Wd Nm Tg Rc Dt Rt th ce tp sl go gi) → va_S A s.heap H locs → lv_has ls 6 [(0, .ref g), (1, .int mo), (2, .int kk2), (3, .int (nI a)), (4, .int (nI f))] →
      (∀ (H : Heap) (locs : List Loc) (ls : Array Slot), va_P D vwC (wM g fA wA nA tA rA dA oA cI cZ F Wd Nm Tg ((sr_mf Dt a n f (Rc, mo)).1) Dt Rt th ce tp sl go gi) H → va_D A (wM g fA wA nA tA rA dA oA cI cZ F Wd Nm Tg ((sr_mf Dt a n f (Rc, mo)).1) Dt Rt th ce tp sl go gi) → va_S A s.heap H locs → lv_has ls 6 [(0, .ref g), (1, .int ((sr_mf Dt a n f (Rc, mo)).2)), (2, .int kk2), (3, .int (nI a))] → W p l e { frames := 1, cells := 0, slots := 0, locals := 21 } s m args below meth c H locs 0 0 Q (F0 m 152 ls [])) →
      W p l e { frames := 1, cells := 0, slots := 0, locals := 21 } s m args below meth c H locs 0 0 Q (F0 m 86 ls []) := by
  intro n
  induction n with
  | zero =>
    intro f Rc mo H locs ls hst hP hD hS hl kk
    refine lv_iload hx hb dM_reach_86 (lv_at hl 4 rfl) ?_
    refine lv_aload_n hx hb dM_reach_88 rfl (lv_at hl 0 rfl) ?_
    refine va_get (D := D) (ci := 1) (v := .ref fA) (C := RM) (T := TM) (N := 13) hx hb hbg bg_M hown hK hP 0 rfl rfl 3 (by decide) (hbg _ bw_312) (fun _ h9 => h9) rfl dM_reach_89 ?_
    refine lv_iload_n hx hb dM_reach_92 rfl (lv_at hl 3 rfl) ?_
    refine sy_iald (j := a) hx hb hK hP 1 0 rfl rfl (by omega) (by omega) dM_reach_93 ?_
    refine lv_iconst (v := 1) hx hb dM_reach_94 (by decide) ?_
    refine lv_isub hx hb dM_reach_95 ?_
    rw [show (F a) - 1 = nI nf from by rw [hF, nI_pred]]
    refine lv_icmp_ge (tgt := 152) hx hb dM_reach_96 (by decide) (fun _ => ?_) (fun z => absurd (nI_le (by omega) (by omega)) z)
    exact kk  _ _ _ hP hD hS (lv_sub hl [0, 1, 2, 3] rfl)
  | succ n ih =>
    intro f Rc mo H locs ls hst hP hD hS hl kk
    refine lv_iload hx hb dM_reach_86 (lv_at hl 4 rfl) ?_
    refine lv_aload_n hx hb dM_reach_88 rfl (lv_at hl 0 rfl) ?_
    refine va_get (D := D) (ci := 1) (v := .ref fA) (C := RM) (T := TM) (N := 13) hx hb hbg bg_M hown hK hP 0 rfl rfl 3 (by decide) (hbg _ bw_312) (fun _ h9 => h9) rfl dM_reach_89 ?_
    refine lv_iload_n hx hb dM_reach_92 rfl (lv_at hl 3 rfl) ?_
    refine sy_iald (j := a) hx hb hK hP 1 0 rfl rfl (by omega) (by omega) dM_reach_93 ?_
    refine lv_iconst (v := 1) hx hb dM_reach_94 (by decide) ?_
    refine lv_isub hx hb dM_reach_95 ?_
    rw [show (F a) - 1 = nI nf from by rw [hF, nI_pred]]
    refine lv_icmp_ge (tgt := 152) hx hb dM_reach_96 (by decide) (fun z => absurd z (nI_ge (by omega) (by omega))) (fun _ => ?_)
    refine lv_aload_n hx hb dM_reach_99 rfl (lv_at hl 0 rfl) ?_
    refine va_get (D := D) (ci := 1) (v := .ref rA) (C := RM) (T := TM) (N := 13) hx hb hbg bg_M hown hK hP 0 rfl rfl 7 (by decide) (hbg _ bw_316) (fun _ h9 => h9) rfl dM_reach_100 ?_
    refine lv_iload_n hx hb dM_reach_103 rfl (lv_at hl 3 rfl) ?_
    refine sy_zald (j := a) hx hb hK hP 5 1 rfl rfl (by omega) (by omega) dM_reach_104 ?_
    refine lv_if_eq (tgt := 152) hx hb dM_reach_105 (by decide) (fun c_105 => ?_) (fun c_105 => ?_)
    · rw [show sr_mf Dt a (n + 1) f (Rc, mo) = (Rc, mo) from if_pos c_105] at kk
      exact kk  _ _ _ hP hD hS (lv_sub hl [0, 1, 2, 3] rfl)
    · refine lv_aload_n hx hb dM_reach_108 rfl (lv_at hl 0 rfl) ?_
      refine va_get (D := D) (ci := 1) (v := .ref dA) (C := RM) (T := TM) (N := 13) hx hb hbg bg_M hown hK hP 0 rfl rfl 8 (by decide) (hbg _ bw_317) (fun _ h9 => h9) rfl dM_reach_109 ?_
      refine lv_iload_n hx hb dM_reach_112 rfl (lv_at hl 3 rfl) ?_
      refine lv_iconst (v := 3) hx hb dM_reach_113 (by decide) ?_
      refine lv_iadd hx hb dM_reach_114 ?_
      rw [show (nI a) + 3 = nI (a + 3) from nI_add a 3]
      refine lv_iload hx hb dM_reach_115 (lv_at hl 4 rfl) ?_
      refine lv_iadd hx hb dM_reach_117 ?_
      rw [show (nI (a + 3)) + (nI f) = nI (a + 3 + f) from nI_add (a + 3) f]
      refine sy_iald (j := a + 3 + f) hx hb hK hP 6 0 rfl rfl (by omega) (by omega) dM_reach_118 ?_
      refine lv_istore (lv' := [(5, .int (Dt (a + 3 + f))), (0, .ref g), (1, .int mo), (2, .int kk2), (3, .int (nI a)), (4, .int (nI f))]) hx hb dM_reach_119 hl (by decide) rfl (fun ls hl => ?_)
      refine lv_iload hx hb dM_reach_121 (lv_at hl 0 rfl) ?_
      refine lv_if_le (tgt := 146) hx hb dM_reach_123 (by decide) (fun c_123 => ?_) (fun c_123 => ?_)
      · refine lv_iinc (v := nI (f + 1)) (lv' := [(4, .int (nI (f + 1))), (5, .int (Dt (a + 3 + f))), (0, .ref g), (1, .int mo), (2, .int kk2), (3, .int (nI a))]) hx hb dM_reach_146 hl (k := 5) rfl (nI_1 f) (by decide) rfl (fun ls hl => ?_)
        refine lv_goto (tgt := 86) hx hb dM_reach_149 (by decide) ?_
        have e9 : sr_mk (Rc, mo) (Dt (a + 3 + f)) = (Rc, mo) := if_pos c_123
        rw [show sr_mf Dt a (n + 1) f (Rc, mo) = sr_mf Dt a n (f + 1) (Rc, mo) from (if_neg c_105).trans (congrArg (sr_mf Dt a n (f + 1)) e9)] at kk
        exact ih (f + 1) Rc mo _ _ _ (by omega) hP hD hS (lv_sub hl [2, 3, 4, 5, 0] rfl) kk
      · refine lv_aload_n hx hb dM_reach_126 rfl (lv_at hl 1 rfl) ?_
        refine va_get (D := D) (ci := 1) (v := .ref rA) (C := RM) (T := TM) (N := 13) hx hb hbg bg_M hown hK hP 0 rfl rfl 7 (by decide) (hbg _ bw_316) (fun _ h9 => h9) rfl dM_reach_127 ?_
        refine lv_iload hx hb dM_reach_130 (lv_at hl 0 rfl) ?_
        refine va_zald hx hb hK hP 5 1 rfl rfl (hV f (by omega)) dM_reach_132 ?_
        refine lv_if_ne (tgt := 146) hx hb dM_reach_133 (by decide) (fun c_133 => ?_) (fun c_133 => ?_)
        · refine lv_iinc (v := nI (f + 1)) (lv' := [(4, .int (nI (f + 1))), (5, .int (Dt (a + 3 + f))), (0, .ref g), (1, .int mo), (2, .int kk2), (3, .int (nI a))]) hx hb dM_reach_146 hl (k := 5) rfl (nI_1 f) (by decide) rfl (fun ls hl => ?_)
          refine lv_goto (tgt := 86) hx hb dM_reach_149 (by decide) ?_
          have e9 : sr_mk (Rc, mo) (Dt (a + 3 + f)) = (Rc, mo) := (if_neg c_123).trans (if_neg c_133)
          rw [show sr_mf Dt a (n + 1) f (Rc, mo) = sr_mf Dt a n (f + 1) (Rc, mo) from (if_neg c_105).trans (congrArg (sr_mf Dt a n (f + 1)) e9)] at kk
          exact ih (f + 1) Rc mo _ _ _ (by omega) hP hD hS (lv_sub hl [2, 3, 4, 5, 0] rfl) kk
        · refine lv_aload_n hx hb dM_reach_136 rfl (lv_at hl 1 rfl) ?_
          refine va_get (D := D) (ci := 1) (v := .ref rA) (C := RM) (T := TM) (N := 13) hx hb hbg bg_M hown hK hP 0 rfl rfl 7 (by decide) (hbg _ bw_316) (fun _ h9 => h9) rfl dM_reach_137 ?_
          refine lv_iload hx hb dM_reach_140 (lv_at hl 0 rfl) ?_
          refine lv_iconst (v := 1) hx hb dM_reach_142 (by decide) ?_
          refine va_zast hx hb hK hP hD hS 5 1 rfl rfl (hV f (by omega)) dM_reach_143 (fun H locs hP hD hS => ?_)
          have hP : va_P D vwC (wM g fA wA nA tA rA dA oA cI cZ F Wd Nm Tg (upd Rc ((Dt (a + 3 + f)).toNatClampNeg) 1) Dt Rt th ce tp sl go gi) H := hP
          have hD : va_D A (wM g fA wA nA tA rA dA oA cI cZ F Wd Nm Tg (upd Rc ((Dt (a + 3 + f)).toNatClampNeg) 1) Dt Rt th ce tp sl go gi) := hD
          refine lv_iconst (v := 1) hx hb dM_reach_144 (by decide) ?_
          refine lv_istore_n (lv' := [(1, .int 1), (5, .int (Dt (a + 3 + f))), (0, .ref g), (2, .int kk2), (3, .int (nI a)), (4, .int (nI f))]) hx hb dM_reach_145 rfl hl (by decide) rfl (fun ls hl => ?_)
          refine lv_iinc (v := nI (f + 1)) (lv' := [(4, .int (nI (f + 1))), (1, .int 1), (5, .int (Dt (a + 3 + f))), (0, .ref g), (2, .int kk2), (3, .int (nI a))]) hx hb dM_reach_146 hl (k := 5) rfl (nI_1 f) (by decide) rfl (fun ls hl => ?_)
          refine lv_goto (tgt := 86) hx hb dM_reach_149 (by decide) ?_
          have e9 : sr_mk (Rc, mo) (Dt (a + 3 + f)) = (upd Rc (Dt (a + 3 + f)).toNatClampNeg 1, 1) := (if_neg c_123).trans (if_pos c_133)
          rw [show sr_mf Dt a (n + 1) f (Rc, mo) = sr_mf Dt a n (f + 1) (upd Rc (Dt (a + 3 + f)).toNatClampNeg 1, 1) from (if_neg c_105).trans (congrArg (sr_mf Dt a n (f + 1)) e9)] at kk
          exact ih (f + 1) (upd Rc ((Dt (a + 3 + f)).toNatClampNeg) 1) 1 _ _ _ (by omega) hP hD hS (lv_sub hl [3, 1, 4, 5, 0] rfl) kk

set_option maxHeartbeats 4000000 in
set_option maxRecDepth 100000 in
theorem lp_M_reach4 {t : Nat} {kk2 : Int32} {F Wd Nm Tg Dt Rt : Nat → Int32} (hx : p.tables.exec = Jvm.exec) (hb : c.code = bM_reach) (hml : c.maxLocals = 6) (hown : s.vm.findClass RM = some m.cls) (hbg : ∀ w ∈ sr_big, w.before args s = true) (hK : va_K D vwC [(cI, .int), (cZ, .boolean)] s) (hA : ∀ q : Nat, s.heap.size ≤ q → A q) (h5 : t ≤ 16385) :
    ∀ (us : List sr_O) (a : Nat) (Rc : Nat → Int32) (mo : Int32) (H : Heap) (locs : List Loc) (ls : Array Slot), a + sr_tot us = t ∧ sr_hd F Wd a us ∧ (∀ q1 o1, sr_ob a us q1 o1 → ∀ i1, i1 < o1.1 → vp_in (Dt (q1 + 3 + i1)) 16386) → va_P D vwC (wM g fA wA nA tA rA dA oA cI cZ F Wd Nm Tg Rc Dt Rt th ce (nI t) sl go gi) H → va_D A (wM g fA wA nA tA rA dA oA cI cZ F Wd Nm Tg Rc Dt Rt th ce (nI t) sl go gi) → va_S A s.heap H locs → lv_has ls 6 [(0, .ref g), (1, .int mo), (2, .int kk2), (3, .int (nI a))] →
      (∀ (H : Heap) (locs : List Loc) (ls : Array Slot), va_P D vwC (wM g fA wA nA tA rA dA oA cI cZ F Wd Nm Tg ((sr_mo Dt a us (Rc, mo)).1) Dt Rt th ce (nI t) sl go gi) H → va_D A (wM g fA wA nA tA rA dA oA cI cZ F Wd Nm Tg ((sr_mo Dt a us (Rc, mo)).1) Dt Rt th ce (nI t) sl go gi) → va_S A s.heap H locs → lv_has ls 6 [(0, .ref g), (1, .int ((sr_mo Dt a us (Rc, mo)).2)), (2, .int kk2)] → W p l e { frames := 1, cells := 0, slots := 0, locals := 21 } s m args below meth c H locs 0 0 Q (F0 m 163 ls [])) →
      W p l e { frames := 1, cells := 0, slots := 0, locals := 21 } s m args below meth c H locs 0 0 Q (F0 m 75 ls []) := by
  intro us
  induction us with
  | nil =>
    intro a Rc mo H locs ls hst hP hD hS hl kk
    obtain ⟨hst, -, -⟩ := hst
    simp only [sr_tot] at hst
    refine lv_iload_n hx hb dM_reach_75 rfl (lv_at hl 3 rfl) ?_
    refine lv_aload_n hx hb dM_reach_76 rfl (lv_at hl 0 rfl) ?_
    refine va_get (D := D) (ci := 1) (v := .int (nI t)) (C := RM) (T := TM) (N := 13) hx hb hbg bg_M hown hK hP 0 rfl rfl 2 (by decide) (hbg _ bw_311) (fun _ h9 => h9) rfl dM_reach_77 ?_
    refine lv_icmp_ge (tgt := 163) hx hb dM_reach_80 (by decide) (fun _ => ?_) (fun z => absurd (nI_le (by omega) (by omega)) z)
    exact kk  _ _ _ hP hD hS (lv_sub hl [0, 1, 2] rfl)
  | cons o us ih =>
    intro a Rc mo H locs ls hst hP hD hS hl kk
    have h3 := sr_sz3 o
    have hsz : sr_sz o = 3 + o.1 + o.2.1 := rfl
    obtain ⟨hst, hhd, hvd⟩ := hst
    simp only [sr_tot] at hst
    obtain ⟨hh, hhd⟩ := sr_hd_cons hhd
    have hvo := hvd a o (Or.inl ⟨rfl, rfl⟩)
    refine lv_iload_n hx hb dM_reach_75 rfl (lv_at hl 3 rfl) ?_
    refine lv_aload_n hx hb dM_reach_76 rfl (lv_at hl 0 rfl) ?_
    refine va_get (D := D) (ci := 1) (v := .int (nI t)) (C := RM) (T := TM) (N := 13) hx hb hbg bg_M hown hK hP 0 rfl rfl 2 (by decide) (hbg _ bw_311) (fun _ h9 => h9) rfl dM_reach_77 ?_
    refine lv_icmp_ge (tgt := 163) hx hb dM_reach_80 (by decide) (fun z => absurd z (nI_ge (by omega) (by omega))) (fun _ => ?_)
    refine lv_iconst (v := 0) hx hb dM_reach_83 (by decide) ?_
    refine lv_istore (lv' := [(4, .int 0), (0, .ref g), (1, .int mo), (2, .int kk2), (3, .int (nI a))]) hx hb dM_reach_84 hl (by decide) rfl (fun ls hl => ?_)
    refine lp_M_reach3 hx hb hml hown hbg hK hA hh.1 (by omega) hvo o.1 0 Rc mo _ _ _ (Nat.zero_add _) hP hD hS (lv_sub hl [1, 2, 3, 4, 0] rfl) ?_
    intro H locs ls hP hD hS hl
    refine lv_iload_n hx hb dM_reach_152 rfl (lv_at hl 3 rfl) ?_
    refine lv_aload_n hx hb dM_reach_153 rfl (lv_at hl 0 rfl) ?_
    refine lv_iload_n hx hb dM_reach_154 rfl (lv_at hl 3 rfl) ?_
    refine sy_cVi (wc := wM g fA wA nA tA rA dA oA cI cZ F Wd Nm Tg ((sr_mf Dt a o.1 0 (Rc, mo)).1) Dt Rt th ce (nI t) sl go gi) (wr := []) (w1 := wM g fA wA nA tA rA dA oA cI cZ F Wd Nm Tg ((sr_mf Dt a o.1 0 (Rc, mo)).1) Dt Rt th ce (nI t) sl go gi) (ci := 1) (q0 := 0) (As := [.int (nI a)]) (rest := [.int (nI a)]) ⟨hx, hb, hml, hown, hbg⟩ (ct_M_size_o l D g fA wA nA tA rA dA oA cI cZ F Wd Nm Tg ((sr_mf Dt a o.1 0 (Rc, mo)).1) Dt Rt th ce (nI t) sl go gi H.size a o (by omega) hh.1 hh.2) (cwV 1 hbg (bg_V bw_394 bw_395 bw_30 bw_35 bw_396) rfl rfl rfl (by decide +kernel) ⟨Nat.le_of_ble_eq_true rfl, Nat.le_of_ble_eq_true rfl⟩) hK [0, 1] rfl hP hD hS hA [0, 1, 2, 3, 4, 5, 6, 7] [] rfl rfl rfl rfl (by decide) rfl rfl rfl hl.1 rfl (Nat.le_of_ble_eq_true rfl) dM_reach_155 ⟨Nat.le_of_ble_eq_true rfl, Nat.le_of_ble_eq_true rfl⟩ (fun H locs hP hD hS => ?_)
    have hP : va_P D vwC (wM g fA wA nA tA rA dA oA cI cZ F Wd Nm Tg ((sr_mf Dt a o.1 0 (Rc, mo)).1) Dt Rt th ce (nI t) sl go gi) H := hP
    have hD : va_D A (wM g fA wA nA tA rA dA oA cI cZ F Wd Nm Tg ((sr_mf Dt a o.1 0 (Rc, mo)).1) Dt Rt th ce (nI t) sl go gi) := hD
    refine lv_iadd hx hb dM_reach_158 ?_
    rw [show (nI a) + (nI (sr_sz o)) = nI (a + sr_sz o) from nI_add a (sr_sz o)]
    refine lv_istore_n (lv' := [(3, .int (nI (a + sr_sz o))), (0, .ref g), (1, .int ((sr_mf Dt a o.1 0 (Rc, mo)).2)), (2, .int kk2)]) hx hb dM_reach_159 rfl hl (by decide) rfl (fun ls hl => ?_)
    refine lv_goto (tgt := 75) hx hb dM_reach_160 (by decide) ?_
    exact ih (a + sr_sz o) ((sr_mf Dt a o.1 0 (Rc, mo)).1) ((sr_mf Dt a o.1 0 (Rc, mo)).2) _ _ _ ⟨by omega, hhd, fun q1 o1 h1 => hvd q1 o1 (Or.inr h1)⟩ hP hD hS (lv_sub hl [1, 2, 3, 0] rfl) kk

set_option maxHeartbeats 4000000 in
set_option maxRecDepth 100000 in
theorem lp_M_reach5 {t : Nat} {us : List sr_O} {F Wd Nm Tg Dt Rt : Nat → Int32} (hx : p.tables.exec = Jvm.exec) (hb : c.code = bM_reach) (hml : c.maxLocals = 6) (hown : s.vm.findClass RM = some m.cls) (hbg : ∀ w ∈ sr_big, w.before args s = true) (hK : va_K D vwC [(cI, .int), (cZ, .boolean)] s) (hA : ∀ q : Nat, s.heap.size ≤ q → A q) (h5 : t ≤ 16385) (hos : 1 + sr_tot us = t ∧ sr_hd F Wd 1 us ∧ (∀ q1 o1, sr_ob 1 us q1 o1 → ∀ i1, i1 < o1.1 → vp_in (Dt (q1 + 3 + i1)) 16386)) :
    ∀ (n k : Nat) (Rc : Nat → Int32) (mo : Int32) (H : Heap) (locs : List Loc) (ls : Array Slot), k + n = 6000 → va_P D vwC (wM g fA wA nA tA rA dA oA cI cZ F Wd Nm Tg Rc Dt Rt th ce (nI t) sl go gi) H → va_D A (wM g fA wA nA tA rA dA oA cI cZ F Wd Nm Tg Rc Dt Rt th ce (nI t) sl go gi) → va_S A s.heap H locs → lv_has ls 6 [(0, .ref g), (1, .int mo), (2, .int (nI k))] →
      (∀ (H : Heap) (locs : List Loc) (ls : Array Slot), va_P D vwC (wM g fA wA nA tA rA dA oA cI cZ F Wd Nm Tg ((sr_mp Dt us n (Rc, mo)).1) Dt Rt th ce (nI t) sl go gi) H → va_D A (wM g fA wA nA tA rA dA oA cI cZ F Wd Nm Tg ((sr_mp Dt us n (Rc, mo)).1) Dt Rt th ce (nI t) sl go gi) → va_S A s.heap H locs → lv_has ls 6 [(0, .ref g)] → W p l e { frames := 1, cells := 0, slots := 0, locals := 21 } s m args below meth c H locs 0 0 Q (F0 m 169 ls [])) →
      W p l e { frames := 1, cells := 0, slots := 0, locals := 21 } s m args below meth c H locs 0 0 Q (F0 m 60 ls []) := by
  intro n
  induction n with
  | zero =>
    intro k Rc mo H locs ls hst hP hD hS hl kk
    refine lv_iload_n hx hb dM_reach_60 rfl (lv_at hl 2 rfl) ?_
    refine lv_sipush (v := 6000) hx hb dM_reach_61 (by decide) ?_
    refine lv_icmp_ge (tgt := 169) hx hb dM_reach_64 (by decide) (fun _ => ?_) (fun z => absurd (nI_le (a := 6000) (by omega) (by omega)) z)
    exact kk  _ _ _ hP hD hS (lv_sub hl [0] rfl)
  | succ n ih =>
    intro k Rc mo H locs ls hst hP hD hS hl kk
    refine lv_iload_n hx hb dM_reach_60 rfl (lv_at hl 2 rfl) ?_
    refine lv_sipush (v := 6000) hx hb dM_reach_61 (by decide) ?_
    refine lv_icmp_ge (tgt := 169) hx hb dM_reach_64 (by decide) (fun z => absurd z (nI_ge (b := 6000) (by omega) (by omega))) (fun _ => ?_)
    refine lv_iload_n hx hb dM_reach_67 rfl (lv_at hl 1 rfl) ?_
    refine lv_if_eq (tgt := 169) hx hb dM_reach_68 (by decide) (fun c_68 => ?_) (fun c_68 => ?_)
    · rw [show sr_mp Dt us (n + 1) (Rc, mo) = (Rc, mo) from if_pos c_68] at kk
      exact kk  _ _ _ hP hD hS (lv_sub hl [0] rfl)
    · refine lv_iconst (v := 0) hx hb dM_reach_71 (by decide) ?_
      refine lv_istore_n (lv' := [(1, .int 0), (0, .ref g), (2, .int (nI k))]) hx hb dM_reach_72 rfl hl (by decide) rfl (fun ls hl => ?_)
      refine lv_iconst (v := 1) hx hb dM_reach_73 (by decide) ?_
      refine lv_istore_n (lv' := [(3, .int 1), (1, .int 0), (0, .ref g), (2, .int (nI k))]) hx hb dM_reach_74 rfl hl (by decide) rfl (fun ls hl => ?_)
      refine lp_M_reach4 hx hb hml hown hbg hK hA h5 us 1 Rc 0 _ _ _ hos hP hD hS (lv_sub hl [2, 1, 3, 0] rfl) ?_
      intro H locs ls hP hD hS hl
      refine lv_iinc (v := nI (k + 1)) (lv' := [(2, .int (nI (k + 1))), (0, .ref g), (1, .int ((sr_mo Dt 1 us (Rc, 0)).2))]) hx hb dM_reach_163 hl (k := 2) rfl (nI_1 k) (by decide) rfl (fun ls hl => ?_)
      refine lv_goto (tgt := 60) hx hb dM_reach_166 (by decide) ?_
      rw [show sr_mp Dt us (n + 1) (Rc, mo) = sr_mp Dt us n (sr_mo Dt 1 us (Rc, 0)) from if_neg c_68] at kk
      exact ih (k + 1) ((sr_mo Dt 1 us (Rc, 0)).1) ((sr_mo Dt 1 us (Rc, 0)).2) _ _ _ (by omega) hP hD hS (lv_sub hl [1, 2, 0] rfl) kk

set_option maxHeartbeats 4000000 in
set_option maxRecDepth 100000 in
theorem lp_M_reach6 {t : Nat} {F Wd Nm Tg Rc Dt Rt : Nat → Int32} (hx : p.tables.exec = Jvm.exec) (hb : c.code = bM_reach) (hml : c.maxLocals = 6) (hown : s.vm.findClass RM = some m.cls) (hbg : ∀ w ∈ sr_big, w.before args s = true) (hK : va_K D vwC [(cI, .int), (cZ, .boolean)] s) (hA : ∀ q : Nat, s.heap.size ≤ q → A q) (h5 : t ≤ 16385) :
    ∀ (us : List sr_O) (a k : Nat) (H : Heap) (locs : List Loc) (ls : Array Slot), a + sr_tot us = t ∧ sr_hd F Wd a us → va_P D vwC (wM g fA wA nA tA rA dA oA cI cZ F Wd Nm Tg Rc Dt Rt th ce (nI t) sl go gi) H → va_D A (wM g fA wA nA tA rA dA oA cI cZ F Wd Nm Tg Rc Dt Rt th ce (nI t) sl go gi) → va_S A s.heap H locs → lv_has ls 6 [(0, .ref g), (2, .int (nI k)), (3, .int (nI a))] →
      (∀ (H : Heap) (locs : List Loc) (ls : Array Slot), va_P D vwC (wM g fA wA nA tA rA dA oA cI cZ F Wd Nm Tg Rc Dt Rt th ce (nI t) sl go gi) H → va_D A (wM g fA wA nA tA rA dA oA cI cZ F Wd Nm Tg Rc Dt Rt th ce (nI t) sl go gi) → va_S A s.heap H locs → lv_has ls 6 [(0, .ref g), (2, .int (nI (k + (sr_kp (sr_mm Rc) a us).length)))] → W p l e { frames := 1, cells := 0, slots := 0, locals := 21 } s m args below meth c H locs 0 0 Q (F0 m 209 ls [])) →
      W p l e { frames := 1, cells := 0, slots := 0, locals := 21 } s m args below meth c H locs 0 0 Q (F0 m 173 ls []) := by
  intro us
  induction us with
  | nil =>
    intro a k H locs ls hst hP hD hS hl kk
    obtain ⟨hst, -⟩ := hst
    simp only [sr_tot] at hst
    refine lv_iload_n hx hb dM_reach_173 rfl (lv_at hl 2 rfl) ?_
    refine lv_aload_n hx hb dM_reach_174 rfl (lv_at hl 0 rfl) ?_
    refine va_get (D := D) (ci := 1) (v := .int (nI t)) (C := RM) (T := TM) (N := 13) hx hb hbg bg_M hown hK hP 0 rfl rfl 2 (by decide) (hbg _ bw_311) (fun _ h9 => h9) rfl dM_reach_175 ?_
    refine lv_icmp_ge (tgt := 209) hx hb dM_reach_178 (by decide) (fun _ => ?_) (fun z => absurd (nI_le (by omega) (by omega)) z)
    exact kk  _ _ _ hP hD hS (lv_sub hl [0, 1] rfl)
  | cons o us ih =>
    intro a k H locs ls hst hP hD hS hl kk
    have h3 := sr_sz3 o
    obtain ⟨hst, hhd⟩ := hst
    simp only [sr_tot] at hst
    obtain ⟨hh, hhd⟩ := sr_hd_cons hhd
    refine lv_iload_n hx hb dM_reach_173 rfl (lv_at hl 2 rfl) ?_
    refine lv_aload_n hx hb dM_reach_174 rfl (lv_at hl 0 rfl) ?_
    refine va_get (D := D) (ci := 1) (v := .int (nI t)) (C := RM) (T := TM) (N := 13) hx hb hbg bg_M hown hK hP 0 rfl rfl 2 (by decide) (hbg _ bw_311) (fun _ h9 => h9) rfl dM_reach_175 ?_
    refine lv_icmp_ge (tgt := 209) hx hb dM_reach_178 (by decide) (fun z => absurd z (nI_ge (by omega) (by omega))) (fun _ => ?_)
    refine lv_aload_n hx hb dM_reach_181 rfl (lv_at hl 0 rfl) ?_
    refine va_get (D := D) (ci := 1) (v := .ref rA) (C := RM) (T := TM) (N := 13) hx hb hbg bg_M hown hK hP 0 rfl rfl 7 (by decide) (hbg _ bw_316) (fun _ h9 => h9) rfl dM_reach_182 ?_
    refine lv_iload_n hx hb dM_reach_185 rfl (lv_at hl 2 rfl) ?_
    refine sy_zald (j := a) hx hb hK hP 5 1 rfl rfl (by omega) (by omega) dM_reach_186 ?_
    refine lv_if_eq (tgt := 196) hx hb dM_reach_187 (by decide) (fun c_187 => ?_) (fun c_187 => ?_)
    · refine lv_iload_n hx hb dM_reach_196 rfl (lv_at hl 1 rfl) ?_
      refine lv_istore_n (lv' := [(2, .int (nI k)), (0, .ref g), (3, .int (nI a))]) hx hb dM_reach_197 rfl hl (by decide) rfl (fun ls hl => ?_)
      refine lv_iload_n hx hb dM_reach_198 rfl (lv_at hl 2 rfl) ?_
      refine lv_aload_n hx hb dM_reach_199 rfl (lv_at hl 1 rfl) ?_
      refine lv_iload_n hx hb dM_reach_200 rfl (lv_at hl 2 rfl) ?_
      refine sy_cVi (wc := wM g fA wA nA tA rA dA oA cI cZ F Wd Nm Tg Rc Dt Rt th ce (nI t) sl go gi) (wr := []) (w1 := wM g fA wA nA tA rA dA oA cI cZ F Wd Nm Tg Rc Dt Rt th ce (nI t) sl go gi) (ci := 1) (q0 := 0) (As := [.int (nI a)]) (rest := [.int (nI a)]) ⟨hx, hb, hml, hown, hbg⟩ (ct_M_size_o l D g fA wA nA tA rA dA oA cI cZ F Wd Nm Tg Rc Dt Rt th ce (nI t) sl go gi H.size a o (by omega) hh.1 hh.2) (cwV 1 hbg (bg_V bw_394 bw_395 bw_30 bw_35 bw_396) rfl rfl rfl (by decide +kernel) ⟨Nat.le_of_ble_eq_true rfl, Nat.le_of_ble_eq_true rfl⟩) hK [0, 1] rfl hP hD hS hA [0, 1, 2, 3, 4, 5, 6, 7] [] rfl rfl rfl rfl (by decide) rfl rfl rfl hl.1 rfl (Nat.le_of_ble_eq_true rfl) dM_reach_201 ⟨Nat.le_of_ble_eq_true rfl, Nat.le_of_ble_eq_true rfl⟩ (fun H locs hP hD hS => ?_)
      have hP : va_P D vwC (wM g fA wA nA tA rA dA oA cI cZ F Wd Nm Tg Rc Dt Rt th ce (nI t) sl go gi) H := hP
      have hD : va_D A (wM g fA wA nA tA rA dA oA cI cZ F Wd Nm Tg Rc Dt Rt th ce (nI t) sl go gi) := hD
      refine lv_iadd hx hb dM_reach_204 ?_
      rw [show (nI a) + (nI (sr_sz o)) = nI (a + sr_sz o) from nI_add a (sr_sz o)]
      refine lv_istore_n (lv' := [(3, .int (nI (a + sr_sz o))), (2, .int (nI k)), (0, .ref g)]) hx hb dM_reach_205 rfl hl (by decide) rfl (fun ls hl => ?_)
      refine lv_goto (tgt := 173) hx hb dM_reach_206 (by decide) ?_
      rw [show sr_kp (sr_mm Rc) a (o :: us) = sr_kp (sr_mm Rc) (a + sr_sz o) us from if_neg (sm_mm0 c_187)] at kk
      exact ih (a + sr_sz o) k _ _ _ ⟨by omega, hhd⟩ hP hD hS (lv_sub hl [2, 1, 0] rfl) kk
    · refine lv_iload_n hx hb dM_reach_190 rfl (lv_at hl 1 rfl) ?_
      refine lv_iconst (v := 1) hx hb dM_reach_191 (by decide) ?_
      refine lv_iadd hx hb dM_reach_192 ?_
      rw [show (nI k) + 1 = nI (k + 1) from nI_1 k]
      refine lv_goto (tgt := 197) hx hb dM_reach_193 (by decide) ?_
      refine lv_istore_n (lv' := [(2, .int (nI (k + 1))), (0, .ref g), (3, .int (nI a))]) hx hb dM_reach_197 rfl hl (by decide) rfl (fun ls hl => ?_)
      refine lv_iload_n hx hb dM_reach_198 rfl (lv_at hl 2 rfl) ?_
      refine lv_aload_n hx hb dM_reach_199 rfl (lv_at hl 1 rfl) ?_
      refine lv_iload_n hx hb dM_reach_200 rfl (lv_at hl 2 rfl) ?_
      refine sy_cVi (wc := wM g fA wA nA tA rA dA oA cI cZ F Wd Nm Tg Rc Dt Rt th ce (nI t) sl go gi) (wr := []) (w1 := wM g fA wA nA tA rA dA oA cI cZ F Wd Nm Tg Rc Dt Rt th ce (nI t) sl go gi) (ci := 1) (q0 := 0) (As := [.int (nI a)]) (rest := [.int (nI a)]) ⟨hx, hb, hml, hown, hbg⟩ (ct_M_size_o l D g fA wA nA tA rA dA oA cI cZ F Wd Nm Tg Rc Dt Rt th ce (nI t) sl go gi H.size a o (by omega) hh.1 hh.2) (cwV 1 hbg (bg_V bw_394 bw_395 bw_30 bw_35 bw_396) rfl rfl rfl (by decide +kernel) ⟨Nat.le_of_ble_eq_true rfl, Nat.le_of_ble_eq_true rfl⟩) hK [0, 1] rfl hP hD hS hA [0, 1, 2, 3, 4, 5, 6, 7] [] rfl rfl rfl rfl (by decide) rfl rfl rfl hl.1 rfl (Nat.le_of_ble_eq_true rfl) dM_reach_201 ⟨Nat.le_of_ble_eq_true rfl, Nat.le_of_ble_eq_true rfl⟩ (fun H locs hP hD hS => ?_)
      have hP : va_P D vwC (wM g fA wA nA tA rA dA oA cI cZ F Wd Nm Tg Rc Dt Rt th ce (nI t) sl go gi) H := hP
      have hD : va_D A (wM g fA wA nA tA rA dA oA cI cZ F Wd Nm Tg Rc Dt Rt th ce (nI t) sl go gi) := hD
      refine lv_iadd hx hb dM_reach_204 ?_
      rw [show (nI a) + (nI (sr_sz o)) = nI (a + sr_sz o) from nI_add a (sr_sz o)]
      refine lv_istore_n (lv' := [(3, .int (nI (a + sr_sz o))), (2, .int (nI (k + 1))), (0, .ref g)]) hx hb dM_reach_205 rfl hl (by decide) rfl (fun ls hl => ?_)
      refine lv_goto (tgt := 173) hx hb dM_reach_206 (by decide) ?_
      rw [show sr_kp (sr_mm Rc) a (o :: us) = o :: sr_kp (sr_mm Rc) (a + sr_sz o) us from if_pos (sm_mm1 c_187), show k + (o :: sr_kp (sr_mm Rc) (a + sr_sz o) us).length = k + 1 + (sr_kp (sr_mm Rc) (a + sr_sz o) us).length from by simp only [List.length_cons]; omega] at kk
      exact ih (a + sr_sz o) (k + 1) _ _ _ ⟨by omega, hhd⟩ hP hD hS (lv_sub hl [2, 1, 0] rfl) kk

set_option maxHeartbeats 4000000 in
set_option maxRecDepth 100000 in
theorem ct_M_reach (l : Launch) (D : va_G) (g fA wA nA tA rA dA oA : Nat) (cI cZ : ClassId) (F Wd Nm Tg Rc Dt Rt : Nat → Int32) (th ce sl go gi : Int32) (sz : Nat) (us : List sr_O) (t : Nat) (hst : 1 + sr_tot us = t ∧ sr_hd F Wd 1 us) (h5 : t ≤ 16385) (hR : ∀ r1, r1 < 16 → vp_in (Rt r1) 16386) (hV : ∀ q1 o1, sr_ob 1 us q1 o1 → ∀ i1, i1 < o1.1 → vp_in (Dt (q1 + 3 + i1)) 16386)  : sy_Mi l yM_reach (Cond.code yM_reach bM_reach 6 (some .int) :: sr_big) { frames := 1, cells := 0, slots := 0, locals := 21 } D vwC [(cI, .int), (cZ, .boolean)] [.ref g] (wM g fA wA nA tA rA dA oA cI cZ F Wd Nm Tg Rc Dt Rt th ce (nI t) sl go gi) sz (nI (sr_kp (sr_mm (sm_rc Dt Rt us t Rc)) 1 us).length) (wM g fA wA nA tA rA dA oA cI cZ F Wd Nm Tg (sm_rc Dt Rt us t Rc) Dt Rt th ce (nI t) sl go gi) 0 0 := by
  refine Met.ofW (cc := bM_reach) (maxL := 6) (ret := (some .int)) (by decide) rfl ?_
  intro p e s m args below meth c s₁ B hml hv
  obtain ⟨rfl, hsz, hP, hK, hD0⟩ := hv
  have hx := B.exec
  have hb := B.bytes
  have hr := B.returns
  have hbg : ∀ w ∈ sr_big, w.before _ s = true := fun w h => atoms_spec (ws := Cond.code yM_reach bM_reach 6 (some .int) :: sr_big) B.pre w (List.mem_cons_of_mem _ h)
  have hown : s.vm.findClass RM = some m.cls := findClass_of_methodNamed B.named
  have hlocks := B.notSynchronized
  subst hsz
  have hD := hD0.self (sz := s.heap.size)
  generalize hAe : va_A (wM g fA wA nA tA rA dA oA cI cZ F Wd Nm Tg Rc Dt Rt th ce (nI t) sl go gi) s.heap.size = A at *
  have hA : ∀ q : Nat, s.heap.size ≤ q → A q := fun q h => by rw [← hAe]; exact Or.inr h
  have hS : va_S A s.heap s.heap [] := va_S.rf
  have hl := lv_entry ([.ref g]) (n := 6) (Nat.le_of_ble_eq_true rfl)
  rw [lg_entry_eq]
  generalize (lg_sl ([.ref g]) ++ List.replicate (6 - (lg_sl ([.ref g])).length) Slot.unset).toArray = ls at hl ⊢
  have hl : lv_has ls 6 [(0, .ref g)] := hl
  refine lv_iconst (v := 0) hx hb dM_reach_0 (by decide) ?_
  refine lv_istore_n (lv' := [(1, .int 0), (0, .ref g)]) hx hb dM_reach_1 rfl hl (by decide) rfl (fun ls hl => ?_)
  refine lp_M_reach1 hx hb hml hown hbg hK hA h5 (t + 1) 0 Rc _ _ _ (Nat.zero_add _) hP hD hS (lv_sub hl [1, 0] rfl) ?_
  intro H locs ls hP hD hS hl
  refine lv_iconst (v := 0) hx hb dM_reach_23 (by decide) ?_
  refine lv_istore_n (lv' := [(1, .int 0), (0, .ref g)]) hx hb dM_reach_24 rfl hl (by decide) rfl (fun ls hl => ?_)
  refine lp_M_reach2 hx hb hml hown hbg hK hA hR 16 0 (sr_fl 0 (t + 1) 0 Rc) _ _ _ (by simp) hP hD hS (lv_sub hl [1, 0] rfl) ?_
  intro H locs ls hP hD hS hl
  refine lv_aload_n hx hb dM_reach_49 rfl (lv_at hl 0 rfl) ?_
  refine va_get (D := D) (ci := 1) (v := .ref rA) (C := RM) (T := TM) (N := 13) hx hb hbg bg_M hown hK hP 0 rfl rfl 7 (by decide) (hbg _ bw_316) (fun _ h9 => h9) rfl dM_reach_50 ?_
  refine lv_iconst (v := 0) hx hb dM_reach_53 (by decide) ?_
  refine lv_iconst (v := 0) hx hb dM_reach_54 (by decide) ?_
  refine sy_zast (j := 0) hx hb hK hP hD hS 5 1 rfl rfl rfl (by omega) (by omega) dM_reach_55 (fun H locs hP hD hS => ?_)
  have hP : va_P D vwC (wM g fA wA nA tA rA dA oA cI cZ F Wd Nm Tg (upd (sr_mr Rt 16 0 (sr_fl 0 (t + 1) 0 Rc)) 0 0) Dt Rt th ce (nI t) sl go gi) H := hP
  have hD : va_D A (wM g fA wA nA tA rA dA oA cI cZ F Wd Nm Tg (upd (sr_mr Rt 16 0 (sr_fl 0 (t + 1) 0 Rc)) 0 0) Dt Rt th ce (nI t) sl go gi) := hD
  refine lv_iconst (v := 1) hx hb dM_reach_56 (by decide) ?_
  refine lv_istore_n (lv' := [(1, .int 1), (0, .ref g)]) hx hb dM_reach_57 rfl hl (by decide) rfl (fun ls hl => ?_)
  refine lv_iconst (v := 0) hx hb dM_reach_58 (by decide) ?_
  refine lv_istore_n (lv' := [(2, .int 0), (1, .int 1), (0, .ref g)]) hx hb dM_reach_59 rfl hl (by decide) rfl (fun ls hl => ?_)
  refine lp_M_reach5 hx hb hml hown hbg hK hA h5 ⟨hst.1, hst.2, hV⟩ 6000 0 (upd (sr_mr Rt 16 0 (sr_fl 0 (t + 1) 0 Rc)) 0 0) 1 _ _ _ (by simp) hP hD hS (lv_sub hl [2, 1, 0] rfl) ?_
  intro H locs ls hP hD hS hl
  refine lv_iconst (v := 0) hx hb dM_reach_169 (by decide) ?_
  refine lv_istore_n (lv' := [(2, .int 0), (0, .ref g)]) hx hb dM_reach_170 rfl hl (by decide) rfl (fun ls hl => ?_)
  refine lv_iconst (v := 1) hx hb dM_reach_171 (by decide) ?_
  refine lv_istore_n (lv' := [(3, .int 1), (2, .int 0), (0, .ref g)]) hx hb dM_reach_172 rfl hl (by decide) rfl (fun ls hl => ?_)
  refine lp_M_reach6 hx hb hml hown hbg hK hA h5 us 1 0 _ _ _ hst hP hD hS (lv_sub hl [2, 1, 0] rfl) ?_
  intro H locs ls hP hD hS hl
  refine lv_iload_n hx hb dM_reach_209 rfl (lv_at hl 1 rfl) ?_
  refine W.widen (k := 0) (n := 0) (Nat.le_of_ble_eq_true rfl) (Nat.le_of_ble_eq_true rfl) ?_
  exact W.iret (v := nI (0 + (sr_kp (sr_mm (sr_mp Dt us 6000 (upd (sr_mr Rt 16 0 (sr_fl 0 (t + 1) 0 Rc)) 0 0, 1)).1) 1 us).length)) hx hb hr (fun t9 ht hW => ⟨⟨nI (0 + (sr_kp (sr_mm (sr_mp Dt us 6000 (upd (sr_mr Rt 16 0 (sr_fl 0 (t + 1) 0 Rc)) 0 0, 1)).1) 1 us).length), (), rfl, (by rw [Nat.zero_add]; rfl), by rw [ht]; exact hP, va_K.moved hW.alike hK, hD⟩, hS.F ht⟩) hS.2.2 dM_reach_210

set_option maxHeartbeats 4000000 in
set_option maxRecDepth 100000 in
theorem lp_M_bring {a b k : Nat} {v4 v5 v6 tp : Int32} {F Wd Nm Tg Rc Rt : Nat → Int32} (hx : p.tables.exec = Jvm.exec) (hb : c.code = bM_bring) (hml : c.maxLocals = 8) (hown : s.vm.findClass RM = some m.cls) (hbg : ∀ w ∈ sr_big, w.before args s = true) (hK : va_K D vwC [(cI, .int), (cZ, .boolean)] s) (hA : ∀ q : Nat, s.heap.size ≤ q → A q) (h6 : a + k ≤ 16386) (h7 : b + k ≤ 16386) :
    ∀ (n j : Nat) (Dt : Nat → Int32) (H : Heap) (locs : List Loc) (ls : Array Slot), j + n = k → va_P D vwC (wM g fA wA nA tA rA dA oA cI cZ F Wd Nm Tg Rc Dt Rt th ce tp sl go gi) H → va_D A (wM g fA wA nA tA rA dA oA cI cZ F Wd Nm Tg Rc Dt Rt th ce tp sl go gi) → va_S A s.heap H locs → lv_has ls 8 [(0, .ref g), (1, .int (nI a)), (2, .int (nI k)), (3, .int (nI b)), (4, .int v4), (5, .int v5), (6, .int v6), (7, .int (nI j))] →
      (∀ (H : Heap) (locs : List Loc) (ls : Array Slot), va_P D vwC (wM g fA wA nA tA rA dA oA cI cZ F Wd Nm Tg Rc (sr_cp a b n j Dt) Rt th ce tp sl go gi) H → va_D A (wM g fA wA nA tA rA dA oA cI cZ F Wd Nm Tg Rc (sr_cp a b n j Dt) Rt th ce tp sl go gi) → va_S A s.heap H locs → lv_has ls 8 [(0, .ref g), (1, .int (nI a)), (2, .int (nI k)), (3, .int (nI b)), (4, .int v4), (5, .int v5), (6, .int v6)] → W p l e { frames := 0, cells := 0, slots := 0, locals := 0 } s m args below meth c H locs 0 0 Q (F0 m 85 ls [])) →
      W p l e { frames := 0, cells := 0, slots := 0, locals := 0 } s m args below meth c H locs 0 0 Q (F0 m 55 ls []) := by
  intro n
  induction n with
  | zero =>
    intro j Dt H locs ls hst hP hD hS hl kk
    refine lv_iload hx hb dM_bring_55 (lv_at hl 7 rfl) ?_
    refine lv_iload_n hx hb dM_bring_57 rfl (lv_at hl 2 rfl) ?_
    refine lv_icmp_ge (tgt := 85) hx hb dM_bring_58 (by decide) (fun _ => ?_) (fun z => absurd (nI_le (by omega) (by omega)) z)
    exact kk  _ _ _ hP hD hS (lv_sub hl [0, 1, 2, 3, 4, 5, 6] rfl)
  | succ n ih =>
    intro j Dt H locs ls hst hP hD hS hl kk
    refine lv_iload hx hb dM_bring_55 (lv_at hl 7 rfl) ?_
    refine lv_iload_n hx hb dM_bring_57 rfl (lv_at hl 2 rfl) ?_
    refine lv_icmp_ge (tgt := 85) hx hb dM_bring_58 (by decide) (fun z => absurd z (nI_ge (by omega) (by omega))) (fun _ => ?_)
    refine lv_aload_n hx hb dM_bring_61 rfl (lv_at hl 0 rfl) ?_
    refine va_get (D := D) (ci := 1) (v := .ref dA) (C := RM) (T := TM) (N := 13) hx hb hbg bg_M hown hK hP 0 rfl rfl 8 (by decide) (hbg _ bw_317) (fun _ h9 => h9) rfl dM_bring_62 ?_
    refine lv_iload_n hx hb dM_bring_65 rfl (lv_at hl 3 rfl) ?_
    refine lv_iload hx hb dM_bring_66 (lv_at hl 7 rfl) ?_
    refine lv_iadd hx hb dM_bring_68 ?_
    rw [show (nI b) + (nI j) = nI (b + j) from nI_add b j]
    refine lv_aload_n hx hb dM_bring_69 rfl (lv_at hl 0 rfl) ?_
    refine va_get (D := D) (ci := 1) (v := .ref dA) (C := RM) (T := TM) (N := 13) hx hb hbg bg_M hown hK hP 0 rfl rfl 8 (by decide) (hbg _ bw_317) (fun _ h9 => h9) rfl dM_bring_70 ?_
    refine lv_iload_n hx hb dM_bring_73 rfl (lv_at hl 1 rfl) ?_
    refine lv_iload hx hb dM_bring_74 (lv_at hl 7 rfl) ?_
    refine lv_iadd hx hb dM_bring_76 ?_
    rw [show (nI a) + (nI j) = nI (a + j) from nI_add a j]
    refine sy_iald (j := a + j) hx hb hK hP 6 0 rfl rfl (by omega) (by omega) dM_bring_77 ?_
    refine sy_iast (j := b + j) hx hb hK hP hD hS 6 0 rfl rfl (by omega) (by omega) dM_bring_78 (fun H locs hP hD hS => ?_)
    have hP : va_P D vwC (wM g fA wA nA tA rA dA oA cI cZ F Wd Nm Tg Rc (upd Dt (b + j) (Dt (a + j))) Rt th ce tp sl go gi) H := hP
    have hD : va_D A (wM g fA wA nA tA rA dA oA cI cZ F Wd Nm Tg Rc (upd Dt (b + j) (Dt (a + j))) Rt th ce tp sl go gi) := hD
    refine lv_iinc (v := nI (j + 1)) (lv' := [(7, .int (nI (j + 1))), (0, .ref g), (1, .int (nI a)), (2, .int (nI k)), (3, .int (nI b)), (4, .int v4), (5, .int v5), (6, .int v6)]) hx hb dM_bring_79 hl (k := 7) rfl (nI_1 j) (by decide) rfl (fun ls hl => ?_)
    refine lv_goto (tgt := 55) hx hb dM_bring_82 (by decide) ?_
    exact ih (j + 1) (upd Dt (b + j) (Dt (a + j))) _ _ _ (by omega) hP hD hS (lv_sub hl [1, 2, 3, 4, 5, 6, 7, 0] rfl) kk

set_option maxHeartbeats 4000000 in
set_option maxRecDepth 100000 in
theorem ct_M_bring (l : Launch) (D : va_G) (g fA wA nA tA rA dA oA : Nat) (cI cZ : ClassId) (F Wd Nm Tg Rc Dt Rt : Nat → Int32) (th ce tp sl go gi : Int32) (sz : Nat) (a k b : Nat) (hT : Tg a = nI b) (hk : 1 ≤ k) (h6 : a + k ≤ 16386) (h7 : b + k ≤ 16386)  : sy_Mv l yM_bring (Cond.code yM_bring bM_bring 8 none :: sr_big) { frames := 0, cells := 0, slots := 0, locals := 0 } D vwC [(cI, .int), (cZ, .boolean)] [.ref g, .int (nI a), .int (nI k)] (wM g fA wA nA tA rA dA oA cI cZ F Wd Nm Tg Rc Dt Rt th ce tp sl go gi) sz (wM g fA wA nA tA rA dA oA cI cZ (upd (upd F a 0) b (F a)) (upd (upd Wd a 0) b (Wd a)) (upd (upd Nm a 0) b (Nm a)) Tg Rc (sr_cp a b k 0 Dt) Rt th ce tp sl go gi) 0 0 := by
  refine Met.ofW (cc := bM_bring) (maxL := 8) (ret := none) (by decide) rfl ?_
  intro p e s m args below meth c s₁ B hml hv
  obtain ⟨rfl, hsz, hP, hK, hD0⟩ := hv
  have hx := B.exec
  have hb := B.bytes
  have hr := B.returns
  have hbg : ∀ w ∈ sr_big, w.before _ s = true := fun w h => atoms_spec (ws := Cond.code yM_bring bM_bring 8 none :: sr_big) B.pre w (List.mem_cons_of_mem _ h)
  have hown : s.vm.findClass RM = some m.cls := findClass_of_methodNamed B.named
  have hlocks := B.notSynchronized
  subst hsz
  have hD := hD0.self (sz := s.heap.size)
  generalize hAe : va_A (wM g fA wA nA tA rA dA oA cI cZ F Wd Nm Tg Rc Dt Rt th ce tp sl go gi) s.heap.size = A at *
  have hA : ∀ q : Nat, s.heap.size ≤ q → A q := fun q h => by rw [← hAe]; exact Or.inr h
  have hS : va_S A s.heap s.heap [] := va_S.rf
  have hl := lv_entry ([.ref g, .int (nI a), .int (nI k)]) (n := 8) (Nat.le_of_ble_eq_true rfl)
  rw [lg_entry_eq]
  generalize (lg_sl ([.ref g, .int (nI a), .int (nI k)]) ++ List.replicate (8 - (lg_sl ([.ref g, .int (nI a), .int (nI k)])).length) Slot.unset).toArray = ls at hl ⊢
  have hl : lv_has ls 8 [(0, .ref g), (1, .int (nI a)), (2, .int (nI k))] := hl
  refine lv_aload_n hx hb dM_bring_0 rfl (lv_at hl 0 rfl) ?_
  refine va_get (D := D) (ci := 1) (v := .ref tA) (C := RM) (T := TM) (N := 13) hx hb hbg bg_M hown hK hP 0 rfl rfl 6 (by decide) (hbg _ bw_315) (fun _ h9 => h9) rfl dM_bring_1 ?_
  refine lv_iload_n hx hb dM_bring_4 rfl (lv_at hl 1 rfl) ?_
  refine sy_iald (j := a) hx hb hK hP 4 0 rfl rfl (by omega) (by omega) dM_bring_5 ?_
  rw [show Tg a = nI b from hT]
  refine lv_istore_n (lv' := [(3, .int (nI b)), (0, .ref g), (1, .int (nI a)), (2, .int (nI k))]) hx hb dM_bring_6 rfl hl (by decide) rfl (fun ls hl => ?_)
  refine lv_aload_n hx hb dM_bring_7 rfl (lv_at hl 1 rfl) ?_
  refine va_get (D := D) (ci := 1) (v := .ref fA) (C := RM) (T := TM) (N := 13) hx hb hbg bg_M hown hK hP 0 rfl rfl 3 (by decide) (hbg _ bw_312) (fun _ h9 => h9) rfl dM_bring_8 ?_
  refine lv_iload_n hx hb dM_bring_11 rfl (lv_at hl 2 rfl) ?_
  refine sy_iald (j := a) hx hb hK hP 1 0 rfl rfl (by omega) (by omega) dM_bring_12 ?_
  refine lv_istore (lv' := [(4, .int (F a)), (3, .int (nI b)), (0, .ref g), (1, .int (nI a)), (2, .int (nI k))]) hx hb dM_bring_13 hl (by decide) rfl (fun ls hl => ?_)
  refine lv_aload_n hx hb dM_bring_15 rfl (lv_at hl 2 rfl) ?_
  refine va_get (D := D) (ci := 1) (v := .ref wA) (C := RM) (T := TM) (N := 13) hx hb hbg bg_M hown hK hP 0 rfl rfl 4 (by decide) (hbg _ bw_313) (fun _ h9 => h9) rfl dM_bring_16 ?_
  refine lv_iload_n hx hb dM_bring_19 rfl (lv_at hl 3 rfl) ?_
  refine sy_iald (j := a) hx hb hK hP 2 0 rfl rfl (by omega) (by omega) dM_bring_20 ?_
  refine lv_istore (lv' := [(5, .int (Wd a)), (4, .int (F a)), (3, .int (nI b)), (0, .ref g), (1, .int (nI a)), (2, .int (nI k))]) hx hb dM_bring_21 hl (by decide) rfl (fun ls hl => ?_)
  refine lv_aload_n hx hb dM_bring_23 rfl (lv_at hl 3 rfl) ?_
  refine va_get (D := D) (ci := 1) (v := .ref nA) (C := RM) (T := TM) (N := 13) hx hb hbg bg_M hown hK hP 0 rfl rfl 5 (by decide) (hbg _ bw_314) (fun _ h9 => h9) rfl dM_bring_24 ?_
  refine lv_iload_n hx hb dM_bring_27 rfl (lv_at hl 4 rfl) ?_
  refine sy_iald (j := a) hx hb hK hP 3 0 rfl rfl (by omega) (by omega) dM_bring_28 ?_
  refine lv_istore (lv' := [(6, .int (Nm a)), (5, .int (Wd a)), (4, .int (F a)), (3, .int (nI b)), (0, .ref g), (1, .int (nI a)), (2, .int (nI k))]) hx hb dM_bring_29 hl (by decide) rfl (fun ls hl => ?_)
  refine lv_aload_n hx hb dM_bring_31 rfl (lv_at hl 4 rfl) ?_
  refine va_get (D := D) (ci := 1) (v := .ref fA) (C := RM) (T := TM) (N := 13) hx hb hbg bg_M hown hK hP 0 rfl rfl 3 (by decide) (hbg _ bw_312) (fun _ h9 => h9) rfl dM_bring_32 ?_
  refine lv_iload_n hx hb dM_bring_35 rfl (lv_at hl 5 rfl) ?_
  refine lv_iconst (v := 0) hx hb dM_bring_36 (by decide) ?_
  refine sy_iast (j := a) hx hb hK hP hD hS 1 0 rfl rfl (by omega) (by omega) dM_bring_37 (fun H locs hP hD hS => ?_)
  have hP : va_P D vwC (wM g fA wA nA tA rA dA oA cI cZ (upd F a 0) Wd Nm Tg Rc Dt Rt th ce tp sl go gi) H := hP
  have hD : va_D A (wM g fA wA nA tA rA dA oA cI cZ (upd F a 0) Wd Nm Tg Rc Dt Rt th ce tp sl go gi) := hD
  refine lv_aload_n hx hb dM_bring_38 rfl (lv_at hl 4 rfl) ?_
  refine va_get (D := D) (ci := 1) (v := .ref wA) (C := RM) (T := TM) (N := 13) hx hb hbg bg_M hown hK hP 0 rfl rfl 4 (by decide) (hbg _ bw_313) (fun _ h9 => h9) rfl dM_bring_39 ?_
  refine lv_iload_n hx hb dM_bring_42 rfl (lv_at hl 5 rfl) ?_
  refine lv_iconst (v := 0) hx hb dM_bring_43 (by decide) ?_
  refine sy_iast (j := a) hx hb hK hP hD hS 2 0 rfl rfl (by omega) (by omega) dM_bring_44 (fun H locs hP hD hS => ?_)
  have hP : va_P D vwC (wM g fA wA nA tA rA dA oA cI cZ (upd F a 0) (upd Wd a 0) Nm Tg Rc Dt Rt th ce tp sl go gi) H := hP
  have hD : va_D A (wM g fA wA nA tA rA dA oA cI cZ (upd F a 0) (upd Wd a 0) Nm Tg Rc Dt Rt th ce tp sl go gi) := hD
  refine lv_aload_n hx hb dM_bring_45 rfl (lv_at hl 4 rfl) ?_
  refine va_get (D := D) (ci := 1) (v := .ref nA) (C := RM) (T := TM) (N := 13) hx hb hbg bg_M hown hK hP 0 rfl rfl 5 (by decide) (hbg _ bw_314) (fun _ h9 => h9) rfl dM_bring_46 ?_
  refine lv_iload_n hx hb dM_bring_49 rfl (lv_at hl 5 rfl) ?_
  refine lv_iconst (v := 0) hx hb dM_bring_50 (by decide) ?_
  refine sy_iast (j := a) hx hb hK hP hD hS 3 0 rfl rfl (by omega) (by omega) dM_bring_51 (fun H locs hP hD hS => ?_)
  have hP : va_P D vwC (wM g fA wA nA tA rA dA oA cI cZ (upd F a 0) (upd Wd a 0) (upd Nm a 0) Tg Rc Dt Rt th ce tp sl go gi) H := hP
  have hD : va_D A (wM g fA wA nA tA rA dA oA cI cZ (upd F a 0) (upd Wd a 0) (upd Nm a 0) Tg Rc Dt Rt th ce tp sl go gi) := hD
  refine lv_iconst (v := 0) hx hb dM_bring_52 (by decide) ?_
  refine lv_istore (lv' := [(7, .int 0), (6, .int (Nm a)), (5, .int (Wd a)), (4, .int (F a)), (3, .int (nI b)), (0, .ref g), (1, .int (nI a)), (2, .int (nI k))]) hx hb dM_bring_53 hl (by decide) rfl (fun ls hl => ?_)
  refine lp_M_bring hx hb hml hown hbg hK hA h6 h7 k 0 Dt _ _ _ (Nat.zero_add _) hP hD hS (lv_sub hl [5, 6, 7, 4, 3, 2, 1, 0] rfl) ?_
  intro H locs ls hP hD hS hl
  refine lv_aload_n hx hb dM_bring_85 rfl (lv_at hl 0 rfl) ?_
  refine va_get (D := D) (ci := 1) (v := .ref fA) (C := RM) (T := TM) (N := 13) hx hb hbg bg_M hown hK hP 0 rfl rfl 3 (by decide) (hbg _ bw_312) (fun _ h9 => h9) rfl dM_bring_86 ?_
  refine lv_iload_n hx hb dM_bring_89 rfl (lv_at hl 3 rfl) ?_
  refine lv_iload hx hb dM_bring_90 (lv_at hl 4 rfl) ?_
  refine sy_iast (j := b) hx hb hK hP hD hS 1 0 rfl rfl (by omega) (by omega) dM_bring_92 (fun H locs hP hD hS => ?_)
  have hP : va_P D vwC (wM g fA wA nA tA rA dA oA cI cZ (upd (upd F a 0) b (F a)) (upd Wd a 0) (upd Nm a 0) Tg Rc (sr_cp a b k 0 Dt) Rt th ce tp sl go gi) H := hP
  have hD : va_D A (wM g fA wA nA tA rA dA oA cI cZ (upd (upd F a 0) b (F a)) (upd Wd a 0) (upd Nm a 0) Tg Rc (sr_cp a b k 0 Dt) Rt th ce tp sl go gi) := hD
  refine lv_aload_n hx hb dM_bring_93 rfl (lv_at hl 0 rfl) ?_
  refine va_get (D := D) (ci := 1) (v := .ref wA) (C := RM) (T := TM) (N := 13) hx hb hbg bg_M hown hK hP 0 rfl rfl 4 (by decide) (hbg _ bw_313) (fun _ h9 => h9) rfl dM_bring_94 ?_
  refine lv_iload_n hx hb dM_bring_97 rfl (lv_at hl 3 rfl) ?_
  refine lv_iload hx hb dM_bring_98 (lv_at hl 5 rfl) ?_
  refine sy_iast (j := b) hx hb hK hP hD hS 2 0 rfl rfl (by omega) (by omega) dM_bring_100 (fun H locs hP hD hS => ?_)
  have hP : va_P D vwC (wM g fA wA nA tA rA dA oA cI cZ (upd (upd F a 0) b (F a)) (upd (upd Wd a 0) b (Wd a)) (upd Nm a 0) Tg Rc (sr_cp a b k 0 Dt) Rt th ce tp sl go gi) H := hP
  have hD : va_D A (wM g fA wA nA tA rA dA oA cI cZ (upd (upd F a 0) b (F a)) (upd (upd Wd a 0) b (Wd a)) (upd Nm a 0) Tg Rc (sr_cp a b k 0 Dt) Rt th ce tp sl go gi) := hD
  refine lv_aload_n hx hb dM_bring_101 rfl (lv_at hl 0 rfl) ?_
  refine va_get (D := D) (ci := 1) (v := .ref nA) (C := RM) (T := TM) (N := 13) hx hb hbg bg_M hown hK hP 0 rfl rfl 5 (by decide) (hbg _ bw_314) (fun _ h9 => h9) rfl dM_bring_102 ?_
  refine lv_iload_n hx hb dM_bring_105 rfl (lv_at hl 3 rfl) ?_
  refine lv_iload hx hb dM_bring_106 (lv_at hl 6 rfl) ?_
  refine sy_iast (j := b) hx hb hK hP hD hS 3 0 rfl rfl (by omega) (by omega) dM_bring_108 (fun H locs hP hD hS => ?_)
  have hP : va_P D vwC (wM g fA wA nA tA rA dA oA cI cZ (upd (upd F a 0) b (F a)) (upd (upd Wd a 0) b (Wd a)) (upd (upd Nm a 0) b (Nm a)) Tg Rc (sr_cp a b k 0 Dt) Rt th ce tp sl go gi) H := hP
  have hD : va_D A (wM g fA wA nA tA rA dA oA cI cZ (upd (upd F a 0) b (F a)) (upd (upd Wd a 0) b (Wd a)) (upd (upd Nm a 0) b (Nm a)) Tg Rc (sr_cp a b k 0 Dt) Rt th ce tp sl go gi) := hD
  refine W.widen (k := 0) (n := 0) (Nat.le_of_ble_eq_true rfl) (Nat.le_of_ble_eq_true rfl) ?_
  exact W.vret hx hb hr (fun t9 ht hW => ⟨⟨(), rfl, trivial, by rw [ht]; exact hP, va_K.moved hW.alike hK, hD⟩, hS.F ht⟩) hS.2.2 dM_bring_109

set_option maxHeartbeats 4000000 in
set_option maxRecDepth 100000 in
theorem lp_M_slide1 {t : Nat} {x1 x2 : Int32} {F Wd Nm Rc Dt Rt : Nat → Int32} (hx : p.tables.exec = Jvm.exec) (hb : c.code = bM_slide) (hml : c.maxLocals = 6) (hown : s.vm.findClass RM = some m.cls) (hbg : ∀ w ∈ sr_big, w.before args s = true) (hK : va_K D vwC [(cI, .int), (cZ, .boolean)] s) (hA : ∀ q : Nat, s.heap.size ≤ q → A q) (h5 : t ≤ 16385) :
    ∀ (us : List sr_O) (a b : Nat) (Tg : Nat → Int32) (H : Heap) (locs : List Loc) (ls : Array Slot), a + sr_tot us = t ∧ sr_hd F Wd a us → va_P D vwC (wM g fA wA nA tA rA dA oA cI cZ F Wd Nm Tg Rc Dt Rt th ce (nI t) sl go gi) H → va_D A (wM g fA wA nA tA rA dA oA cI cZ F Wd Nm Tg Rc Dt Rt th ce (nI t) sl go gi) → va_S A s.heap H locs → lv_has ls 6 [(0, .ref g), (1, .int x1), (2, .int x2), (3, .int (nI b)), (4, .int (nI a))] →
      (∀ (H : Heap) (locs : List Loc) (ls : Array Slot), va_P D vwC (wM g fA wA nA tA rA dA oA cI cZ F Wd Nm (sr_tg Rc a b us Tg) Rc Dt Rt th ce (nI t) sl go gi) H → va_D A (wM g fA wA nA tA rA dA oA cI cZ F Wd Nm (sr_tg Rc a b us Tg) Rc Dt Rt th ce (nI t) sl go gi) → va_S A s.heap H locs → lv_has ls 6 [(0, .ref g), (1, .int x1), (2, .int x2), (3, .int (nI (b + sr_tot (sr_kp (sr_mm Rc) a us))))] → W p l e { frames := 2, cells := 0, slots := 0, locals := 46 } s m args below meth c H locs 0 0 Q (F0 m 74 ls [])) →
      W p l e { frames := 2, cells := 0, slots := 0, locals := 46 } s m args below meth c H locs 0 0 Q (F0 m 20 ls []) := by
  intro us
  induction us with
  | nil =>
    intro a b Tg H locs ls hst hP hD hS hl kk
    obtain ⟨hst, -⟩ := hst
    simp only [sr_tot] at hst
    refine lv_iload hx hb dM_slide_20 (lv_at hl 4 rfl) ?_
    refine lv_aload_n hx hb dM_slide_22 rfl (lv_at hl 0 rfl) ?_
    refine va_get (D := D) (ci := 1) (v := .int (nI t)) (C := RM) (T := TM) (N := 13) hx hb hbg bg_M hown hK hP 0 rfl rfl 2 (by decide) (hbg _ bw_311) (fun _ h9 => h9) rfl dM_slide_23 ?_
    refine lv_icmp_ge (tgt := 74) hx hb dM_slide_26 (by decide) (fun _ => ?_) (fun z => absurd (nI_le (by omega) (by omega)) z)
    exact kk  _ _ _ hP hD hS (lv_sub hl [0, 1, 2, 3] rfl)
  | cons o us ih =>
    intro a b Tg H locs ls hst hP hD hS hl kk
    have h3 := sr_sz3 o
    obtain ⟨hst, hhd⟩ := hst
    simp only [sr_tot] at hst
    obtain ⟨hh, hhd⟩ := sr_hd_cons hhd
    refine lv_iload hx hb dM_slide_20 (lv_at hl 4 rfl) ?_
    refine lv_aload_n hx hb dM_slide_22 rfl (lv_at hl 0 rfl) ?_
    refine va_get (D := D) (ci := 1) (v := .int (nI t)) (C := RM) (T := TM) (N := 13) hx hb hbg bg_M hown hK hP 0 rfl rfl 2 (by decide) (hbg _ bw_311) (fun _ h9 => h9) rfl dM_slide_23 ?_
    refine lv_icmp_ge (tgt := 74) hx hb dM_slide_26 (by decide) (fun z => absurd z (nI_ge (by omega) (by omega))) (fun _ => ?_)
    refine lv_aload_n hx hb dM_slide_29 rfl (lv_at hl 0 rfl) ?_
    refine va_get (D := D) (ci := 1) (v := .ref tA) (C := RM) (T := TM) (N := 13) hx hb hbg bg_M hown hK hP 0 rfl rfl 6 (by decide) (hbg _ bw_315) (fun _ h9 => h9) rfl dM_slide_30 ?_
    refine lv_iload hx hb dM_slide_33 (lv_at hl 4 rfl) ?_
    refine lv_iload_n hx hb dM_slide_35 rfl (lv_at hl 3 rfl) ?_
    refine sy_iast (j := a) hx hb hK hP hD hS 4 0 rfl rfl (by omega) (by omega) dM_slide_36 (fun H locs hP hD hS => ?_)
    have hP : va_P D vwC (wM g fA wA nA tA rA dA oA cI cZ F Wd Nm (upd Tg a (nI b)) Rc Dt Rt th ce (nI t) sl go gi) H := hP
    have hD : va_D A (wM g fA wA nA tA rA dA oA cI cZ F Wd Nm (upd Tg a (nI b)) Rc Dt Rt th ce (nI t) sl go gi) := hD
    refine lv_aload_n hx hb dM_slide_37 rfl (lv_at hl 0 rfl) ?_
    refine va_get (D := D) (ci := 1) (v := .ref rA) (C := RM) (T := TM) (N := 13) hx hb hbg bg_M hown hK hP 0 rfl rfl 7 (by decide) (hbg _ bw_316) (fun _ h9 => h9) rfl dM_slide_38 ?_
    refine lv_iload hx hb dM_slide_41 (lv_at hl 4 rfl) ?_
    refine sy_zald (j := a) hx hb hK hP 5 1 rfl rfl (by omega) (by omega) dM_slide_43 ?_
    refine lv_if_eq (tgt := 58) hx hb dM_slide_44 (by decide) (fun c_44 => ?_) (fun c_44 => ?_)
    · refine lv_iload_n hx hb dM_slide_58 rfl (lv_at hl 3 rfl) ?_
      refine lv_istore_n (lv' := [(3, .int (nI b)), (0, .ref g), (1, .int x1), (2, .int x2), (4, .int (nI a))]) hx hb dM_slide_59 rfl hl (by decide) rfl (fun ls hl => ?_)
      refine lv_iload hx hb dM_slide_60 (lv_at hl 4 rfl) ?_
      refine lv_aload_n hx hb dM_slide_62 rfl (lv_at hl 1 rfl) ?_
      refine lv_iload hx hb dM_slide_63 (lv_at hl 4 rfl) ?_
      refine sy_cVi (wc := wM g fA wA nA tA rA dA oA cI cZ F Wd Nm (upd Tg a (nI b)) Rc Dt Rt th ce (nI t) sl go gi) (wr := []) (w1 := wM g fA wA nA tA rA dA oA cI cZ F Wd Nm (upd Tg a (nI b)) Rc Dt Rt th ce (nI t) sl go gi) (ci := 1) (q0 := 0) (As := [.int (nI a)]) (rest := [.int (nI a)]) ⟨hx, hb, hml, hown, hbg⟩ (ct_M_size_o l D g fA wA nA tA rA dA oA cI cZ F Wd Nm (upd Tg a (nI b)) Rc Dt Rt th ce (nI t) sl go gi H.size a o (by omega) hh.1 hh.2) (cwV 1 hbg (bg_V bw_394 bw_395 bw_30 bw_35 bw_396) rfl rfl rfl (by decide +kernel) ⟨Nat.le_of_ble_eq_true rfl, Nat.le_of_ble_eq_true rfl⟩) hK [0, 1] rfl hP hD hS hA [0, 1, 2, 3, 4, 5, 6, 7] [] rfl rfl rfl rfl (by decide) rfl rfl rfl hl.1 rfl (Nat.le_of_ble_eq_true rfl) dM_slide_65 ⟨Nat.le_of_ble_eq_true rfl, Nat.le_of_ble_eq_true rfl⟩ (fun H locs hP hD hS => ?_)
      have hP : va_P D vwC (wM g fA wA nA tA rA dA oA cI cZ F Wd Nm (upd Tg a (nI b)) Rc Dt Rt th ce (nI t) sl go gi) H := hP
      have hD : va_D A (wM g fA wA nA tA rA dA oA cI cZ F Wd Nm (upd Tg a (nI b)) Rc Dt Rt th ce (nI t) sl go gi) := hD
      refine lv_iadd hx hb dM_slide_68 ?_
      rw [show (nI a) + (nI (sr_sz o)) = nI (a + sr_sz o) from nI_add a (sr_sz o)]
      refine lv_istore (lv' := [(4, .int (nI (a + sr_sz o))), (3, .int (nI b)), (0, .ref g), (1, .int x1), (2, .int x2)]) hx hb dM_slide_69 hl (by decide) rfl (fun ls hl => ?_)
      refine lv_goto (tgt := 20) hx hb dM_slide_71 (by decide) ?_
      rw [show sr_tg Rc a b (o :: us) Tg = sr_tg Rc (a + sr_sz o) b us (upd Tg a (nI b)) from congrArg (fun z => sr_tg Rc (a + sr_sz o) z us (upd Tg a (nI b))) (if_neg (sm_mm0 c_44)), show sr_kp (sr_mm Rc) a (o :: us) = sr_kp (sr_mm Rc) (a + sr_sz o) us from if_neg (sm_mm0 c_44)] at kk
      exact ih (a + sr_sz o) b (upd Tg a (nI b)) _ _ _ ⟨by omega, hhd⟩ hP hD hS (lv_sub hl [2, 3, 4, 1, 0] rfl) kk
    · refine lv_iload_n hx hb dM_slide_47 rfl (lv_at hl 3 rfl) ?_
      refine lv_aload_n hx hb dM_slide_48 rfl (lv_at hl 0 rfl) ?_
      refine lv_iload hx hb dM_slide_49 (lv_at hl 4 rfl) ?_
      refine sy_cVi (wc := wM g fA wA nA tA rA dA oA cI cZ F Wd Nm (upd Tg a (nI b)) Rc Dt Rt th ce (nI t) sl go gi) (wr := []) (w1 := wM g fA wA nA tA rA dA oA cI cZ F Wd Nm (upd Tg a (nI b)) Rc Dt Rt th ce (nI t) sl go gi) (ci := 1) (q0 := 0) (As := [.int (nI a)]) (rest := [.int (nI b)]) ⟨hx, hb, hml, hown, hbg⟩ (ct_M_size_o l D g fA wA nA tA rA dA oA cI cZ F Wd Nm (upd Tg a (nI b)) Rc Dt Rt th ce (nI t) sl go gi H.size a o (by omega) hh.1 hh.2) (cwV 1 hbg (bg_V bw_394 bw_395 bw_30 bw_35 bw_396) rfl rfl rfl (by decide +kernel) ⟨Nat.le_of_ble_eq_true rfl, Nat.le_of_ble_eq_true rfl⟩) hK [0, 1] rfl hP hD hS hA [0, 1, 2, 3, 4, 5, 6, 7] [] rfl rfl rfl rfl (by decide) rfl rfl rfl hl.1 rfl (Nat.le_of_ble_eq_true rfl) dM_slide_51 ⟨Nat.le_of_ble_eq_true rfl, Nat.le_of_ble_eq_true rfl⟩ (fun H locs hP hD hS => ?_)
      have hP : va_P D vwC (wM g fA wA nA tA rA dA oA cI cZ F Wd Nm (upd Tg a (nI b)) Rc Dt Rt th ce (nI t) sl go gi) H := hP
      have hD : va_D A (wM g fA wA nA tA rA dA oA cI cZ F Wd Nm (upd Tg a (nI b)) Rc Dt Rt th ce (nI t) sl go gi) := hD
      refine lv_iadd hx hb dM_slide_54 ?_
      rw [show (nI b) + (nI (sr_sz o)) = nI (b + sr_sz o) from nI_add b (sr_sz o)]
      refine lv_goto (tgt := 59) hx hb dM_slide_55 (by decide) ?_
      refine lv_istore_n (lv' := [(3, .int (nI (b + sr_sz o))), (0, .ref g), (1, .int x1), (2, .int x2), (4, .int (nI a))]) hx hb dM_slide_59 rfl hl (by decide) rfl (fun ls hl => ?_)
      refine lv_iload hx hb dM_slide_60 (lv_at hl 4 rfl) ?_
      refine lv_aload_n hx hb dM_slide_62 rfl (lv_at hl 1 rfl) ?_
      refine lv_iload hx hb dM_slide_63 (lv_at hl 4 rfl) ?_
      refine sy_cVi (wc := wM g fA wA nA tA rA dA oA cI cZ F Wd Nm (upd Tg a (nI b)) Rc Dt Rt th ce (nI t) sl go gi) (wr := []) (w1 := wM g fA wA nA tA rA dA oA cI cZ F Wd Nm (upd Tg a (nI b)) Rc Dt Rt th ce (nI t) sl go gi) (ci := 1) (q0 := 0) (As := [.int (nI a)]) (rest := [.int (nI a)]) ⟨hx, hb, hml, hown, hbg⟩ (ct_M_size_o l D g fA wA nA tA rA dA oA cI cZ F Wd Nm (upd Tg a (nI b)) Rc Dt Rt th ce (nI t) sl go gi H.size a o (by omega) hh.1 hh.2) (cwV 1 hbg (bg_V bw_394 bw_395 bw_30 bw_35 bw_396) rfl rfl rfl (by decide +kernel) ⟨Nat.le_of_ble_eq_true rfl, Nat.le_of_ble_eq_true rfl⟩) hK [0, 1] rfl hP hD hS hA [0, 1, 2, 3, 4, 5, 6, 7] [] rfl rfl rfl rfl (by decide) rfl rfl rfl hl.1 rfl (Nat.le_of_ble_eq_true rfl) dM_slide_65 ⟨Nat.le_of_ble_eq_true rfl, Nat.le_of_ble_eq_true rfl⟩ (fun H locs hP hD hS => ?_)
      have hP : va_P D vwC (wM g fA wA nA tA rA dA oA cI cZ F Wd Nm (upd Tg a (nI b)) Rc Dt Rt th ce (nI t) sl go gi) H := hP
      have hD : va_D A (wM g fA wA nA tA rA dA oA cI cZ F Wd Nm (upd Tg a (nI b)) Rc Dt Rt th ce (nI t) sl go gi) := hD
      refine lv_iadd hx hb dM_slide_68 ?_
      rw [show (nI a) + (nI (sr_sz o)) = nI (a + sr_sz o) from nI_add a (sr_sz o)]
      refine lv_istore (lv' := [(4, .int (nI (a + sr_sz o))), (3, .int (nI (b + sr_sz o))), (0, .ref g), (1, .int x1), (2, .int x2)]) hx hb dM_slide_69 hl (by decide) rfl (fun ls hl => ?_)
      refine lv_goto (tgt := 20) hx hb dM_slide_71 (by decide) ?_
      rw [show sr_tg Rc a b (o :: us) Tg = sr_tg Rc (a + sr_sz o) (b + sr_sz o) us (upd Tg a (nI b)) from congrArg (fun z => sr_tg Rc (a + sr_sz o) z us (upd Tg a (nI b))) (if_pos (sm_mm1 c_44)), show sr_kp (sr_mm Rc) a (o :: us) = o :: sr_kp (sr_mm Rc) (a + sr_sz o) us from if_pos (sm_mm1 c_44), show b + sr_tot (o :: sr_kp (sr_mm Rc) (a + sr_sz o) us) = b + sr_sz o + sr_tot (sr_kp (sr_mm Rc) (a + sr_sz o) us) from by simp only [sr_tot]; omega] at kk
      exact ih (a + sr_sz o) (b + sr_sz o) (upd Tg a (nI b)) _ _ _ ⟨by omega, hhd⟩ hP hD hS (lv_sub hl [2, 3, 4, 1, 0] rfl) kk

set_option maxHeartbeats 4000000 in
set_option maxRecDepth 100000 in
theorem lp_M_slide2 {tp x1 x2 x3 : Int32} {F Wd Nm Tg Rc Dt : Nat → Int32} (hx : p.tables.exec = Jvm.exec) (hb : c.code = bM_slide) (hml : c.maxLocals = 6) (hown : s.vm.findClass RM = some m.cls) (hbg : ∀ w ∈ sr_big, w.before args s = true) (hK : va_K D vwC [(cI, .int), (cZ, .boolean)] s) (hA : ∀ q : Nat, s.heap.size ≤ q → A q) :
    ∀ (n j : Nat) (Rt : Nat → Int32) (H : Heap) (locs : List Loc) (ls : Array Slot), j + n = 16 ∧ (∀ r1, j ≤ r1 → r1 < 16 → vp_in (Rt r1) 16386) → va_P D vwC (wM g fA wA nA tA rA dA oA cI cZ F Wd Nm Tg Rc Dt Rt th ce tp sl go gi) H → va_D A (wM g fA wA nA tA rA dA oA cI cZ F Wd Nm Tg Rc Dt Rt th ce tp sl go gi) → va_S A s.heap H locs → lv_has ls 6 [(0, .ref g), (1, .int x1), (2, .int x2), (3, .int x3), (4, .int (nI j))] →
      (∀ (H : Heap) (locs : List Loc) (ls : Array Slot), va_P D vwC (wM g fA wA nA tA rA dA oA cI cZ F Wd Nm Tg Rc Dt (sm_rt Tg n j Rt) th ce tp sl go gi) H → va_D A (wM g fA wA nA tA rA dA oA cI cZ F Wd Nm Tg Rc Dt (sm_rt Tg n j Rt) th ce tp sl go gi) → va_S A s.heap H locs → lv_has ls 6 [(0, .ref g), (1, .int x1), (2, .int x2), (3, .int x3)] → W p l e { frames := 2, cells := 0, slots := 0, locals := 46 } s m args below meth c H locs 0 0 Q (F0 m 116 ls [])) →
      W p l e { frames := 2, cells := 0, slots := 0, locals := 46 } s m args below meth c H locs 0 0 Q (F0 m 84 ls []) := by
  intro n
  induction n with
  | zero =>
    intro j Rt H locs ls hst hP hD hS hl kk
    obtain ⟨hst, hR⟩ := hst
    refine lv_iload hx hb dM_slide_84 (lv_at hl 4 rfl) ?_
    refine lv_bipush (v := 16) hx hb dM_slide_86 (by decide) ?_
    refine lv_icmp_ge (tgt := 116) hx hb dM_slide_88 (by decide) (fun _ => ?_) (fun z => absurd (nI_le (a := 16) (by omega) (by omega)) z)
    exact kk  _ _ _ hP hD hS (lv_sub hl [0, 1, 2, 3] rfl)
  | succ n ih =>
    intro j Rt H locs ls hst hP hD hS hl kk
    obtain ⟨hst, hR⟩ := hst
    refine lv_iload hx hb dM_slide_84 (lv_at hl 4 rfl) ?_
    refine lv_bipush (v := 16) hx hb dM_slide_86 (by decide) ?_
    refine lv_icmp_ge (tgt := 116) hx hb dM_slide_88 (by decide) (fun z => absurd z (nI_ge (b := 16) (by omega) (by omega))) (fun _ => ?_)
    refine lv_aload_n hx hb dM_slide_91 rfl (lv_at hl 0 rfl) ?_
    refine va_get (D := D) (ci := 1) (v := .ref oA) (C := RM) (T := TM) (N := 13) hx hb hbg bg_M hown hK hP 0 rfl rfl 9 (by decide) (hbg _ bw_318) (fun _ h9 => h9) rfl dM_slide_92 ?_
    refine lv_iload hx hb dM_slide_95 (lv_at hl 4 rfl) ?_
    refine lv_aload_n hx hb dM_slide_97 rfl (lv_at hl 0 rfl) ?_
    refine va_get (D := D) (ci := 1) (v := .ref tA) (C := RM) (T := TM) (N := 13) hx hb hbg bg_M hown hK hP 0 rfl rfl 6 (by decide) (hbg _ bw_315) (fun _ h9 => h9) rfl dM_slide_98 ?_
    refine lv_aload_n hx hb dM_slide_101 rfl (lv_at hl 0 rfl) ?_
    refine va_get (D := D) (ci := 1) (v := .ref oA) (C := RM) (T := TM) (N := 13) hx hb hbg bg_M hown hK hP 0 rfl rfl 9 (by decide) (hbg _ bw_318) (fun _ h9 => h9) rfl dM_slide_102 ?_
    refine lv_iload hx hb dM_slide_105 (lv_at hl 4 rfl) ?_
    refine sy_iald (j := j) hx hb hK hP 7 0 rfl rfl (by omega) (by omega) dM_slide_107 ?_
    refine va_iald hx hb hK hP 4 0 rfl rfl (hR j (Nat.le_refl _) (by omega)) dM_slide_108 ?_
    refine sy_iast (j := j) hx hb hK hP hD hS 7 0 rfl rfl (by omega) (by omega) dM_slide_109 (fun H locs hP hD hS => ?_)
    have hP : va_P D vwC (wM g fA wA nA tA rA dA oA cI cZ F Wd Nm Tg Rc Dt (upd Rt j (Tg (Rt j).toNatClampNeg)) th ce tp sl go gi) H := hP
    have hD : va_D A (wM g fA wA nA tA rA dA oA cI cZ F Wd Nm Tg Rc Dt (upd Rt j (Tg (Rt j).toNatClampNeg)) th ce tp sl go gi) := hD
    refine lv_iinc (v := nI (j + 1)) (lv' := [(4, .int (nI (j + 1))), (0, .ref g), (1, .int x1), (2, .int x2), (3, .int x3)]) hx hb dM_slide_110 hl (k := 4) rfl (nI_1 j) (by decide) rfl (fun ls hl => ?_)
    refine lv_goto (tgt := 84) hx hb dM_slide_113 (by decide) ?_
    exact ih (j + 1) (upd Rt j (Tg (Rt j).toNatClampNeg)) _ _ _ ⟨by omega, fun r1 h1 h2 => by rw [pk_un (by omega)]; exact hR r1 (by omega) h2⟩ hP hD hS (lv_sub hl [1, 2, 3, 4, 0] rfl) kk

set_option maxHeartbeats 4000000 in
set_option maxRecDepth 100000 in
theorem lp_M_slide3 {a nf : Nat} {tp x1 x2 x3 : Int32} {F Wd Nm Tg Rc Rt : Nat → Int32} (hx : p.tables.exec = Jvm.exec) (hb : c.code = bM_slide) (hml : c.maxLocals = 6) (hown : s.vm.findClass RM = some m.cls) (hbg : ∀ w ∈ sr_big, w.before args s = true) (hK : va_K D vwC [(cI, .int), (cZ, .boolean)] s) (hA : ∀ q : Nat, s.heap.size ≤ q → A q) (hF : F a = nI (nf + 1)) (h6 : a + 3 + nf ≤ 16386) (hr : ¬ Rc a = 0) :
    ∀ (n f : Nat) (Dt : Nat → Int32) (H : Heap) (locs : List Loc) (ls : Array Slot), f + n = nf ∧ (∀ i1, f ≤ i1 → i1 < nf → vp_in (Dt (a + 3 + i1)) 16386) → va_P D vwC (wM g fA wA nA tA rA dA oA cI cZ F Wd Nm Tg Rc Dt Rt th ce tp sl go gi) H → va_D A (wM g fA wA nA tA rA dA oA cI cZ F Wd Nm Tg Rc Dt Rt th ce tp sl go gi) → va_S A s.heap H locs → lv_has ls 6 [(0, .ref g), (1, .int x1), (2, .int x2), (3, .int x3), (4, .int (nI a)), (5, .int (nI f))] →
      (∀ (H : Heap) (locs : List Loc) (ls : Array Slot), va_P D vwC (wM g fA wA nA tA rA dA oA cI cZ F Wd Nm Tg Rc (sr_df Tg a n f Dt) Rt th ce tp sl go gi) H → va_D A (wM g fA wA nA tA rA dA oA cI cZ F Wd Nm Tg Rc (sr_df Tg a n f Dt) Rt th ce tp sl go gi) → va_S A s.heap H locs → lv_has ls 6 [(0, .ref g), (1, .int x1), (2, .int x2), (3, .int x3), (4, .int (nI a))] → W p l e { frames := 2, cells := 0, slots := 0, locals := 46 } s m args below meth c H locs 0 0 Q (F0 m 190 ls [])) →
      W p l e { frames := 2, cells := 0, slots := 0, locals := 46 } s m args below meth c H locs 0 0 Q (F0 m 131 ls []) := by
  intro n
  induction n with
  | zero =>
    intro f Dt H locs ls hst hP hD hS hl kk
    obtain ⟨hst, hV⟩ := hst
    refine lv_iload hx hb dM_slide_131 (lv_at hl 5 rfl) ?_
    refine lv_aload_n hx hb dM_slide_133 rfl (lv_at hl 0 rfl) ?_
    refine va_get (D := D) (ci := 1) (v := .ref fA) (C := RM) (T := TM) (N := 13) hx hb hbg bg_M hown hK hP 0 rfl rfl 3 (by decide) (hbg _ bw_312) (fun _ h9 => h9) rfl dM_slide_134 ?_
    refine lv_iload hx hb dM_slide_137 (lv_at hl 4 rfl) ?_
    refine sy_iald (j := a) hx hb hK hP 1 0 rfl rfl (by omega) (by omega) dM_slide_139 ?_
    refine lv_iconst (v := 1) hx hb dM_slide_140 (by decide) ?_
    refine lv_isub hx hb dM_slide_141 ?_
    rw [show (F a) - 1 = nI nf from by rw [hF, nI_pred]]
    refine lv_icmp_ge (tgt := 190) hx hb dM_slide_142 (by decide) (fun _ => ?_) (fun z => absurd (nI_le (by omega) (by omega)) z)
    exact kk  _ _ _ hP hD hS (lv_sub hl [0, 1, 2, 3, 4] rfl)
  | succ n ih =>
    intro f Dt H locs ls hst hP hD hS hl kk
    obtain ⟨hst, hV⟩ := hst
    refine lv_iload hx hb dM_slide_131 (lv_at hl 5 rfl) ?_
    refine lv_aload_n hx hb dM_slide_133 rfl (lv_at hl 0 rfl) ?_
    refine va_get (D := D) (ci := 1) (v := .ref fA) (C := RM) (T := TM) (N := 13) hx hb hbg bg_M hown hK hP 0 rfl rfl 3 (by decide) (hbg _ bw_312) (fun _ h9 => h9) rfl dM_slide_134 ?_
    refine lv_iload hx hb dM_slide_137 (lv_at hl 4 rfl) ?_
    refine sy_iald (j := a) hx hb hK hP 1 0 rfl rfl (by omega) (by omega) dM_slide_139 ?_
    refine lv_iconst (v := 1) hx hb dM_slide_140 (by decide) ?_
    refine lv_isub hx hb dM_slide_141 ?_
    rw [show (F a) - 1 = nI nf from by rw [hF, nI_pred]]
    refine lv_icmp_ge (tgt := 190) hx hb dM_slide_142 (by decide) (fun z => absurd z (nI_ge (by omega) (by omega))) (fun _ => ?_)
    refine lv_aload_n hx hb dM_slide_145 rfl (lv_at hl 0 rfl) ?_
    refine va_get (D := D) (ci := 1) (v := .ref rA) (C := RM) (T := TM) (N := 13) hx hb hbg bg_M hown hK hP 0 rfl rfl 7 (by decide) (hbg _ bw_316) (fun _ h9 => h9) rfl dM_slide_146 ?_
    refine lv_iload hx hb dM_slide_149 (lv_at hl 4 rfl) ?_
    refine sy_zald (j := a) hx hb hK hP 5 1 rfl rfl (by omega) (by omega) dM_slide_151 ?_
    refine lv_if_eq (tgt := 190) hx hb dM_slide_152 (by decide) (fun z => absurd z hr) (fun _ => ?_)
    refine lv_aload_n hx hb dM_slide_155 rfl (lv_at hl 0 rfl) ?_
    refine va_get (D := D) (ci := 1) (v := .ref dA) (C := RM) (T := TM) (N := 13) hx hb hbg bg_M hown hK hP 0 rfl rfl 8 (by decide) (hbg _ bw_317) (fun _ h9 => h9) rfl dM_slide_156 ?_
    refine lv_iload hx hb dM_slide_159 (lv_at hl 4 rfl) ?_
    refine lv_iconst (v := 3) hx hb dM_slide_161 (by decide) ?_
    refine lv_iadd hx hb dM_slide_162 ?_
    rw [show (nI a) + 3 = nI (a + 3) from nI_add a 3]
    refine lv_iload hx hb dM_slide_163 (lv_at hl 5 rfl) ?_
    refine lv_iadd hx hb dM_slide_165 ?_
    rw [show (nI (a + 3)) + (nI f) = nI (a + 3 + f) from nI_add (a + 3) f]
    refine lv_aload_n hx hb dM_slide_166 rfl (lv_at hl 0 rfl) ?_
    refine va_get (D := D) (ci := 1) (v := .ref tA) (C := RM) (T := TM) (N := 13) hx hb hbg bg_M hown hK hP 0 rfl rfl 6 (by decide) (hbg _ bw_315) (fun _ h9 => h9) rfl dM_slide_167 ?_
    refine lv_aload_n hx hb dM_slide_170 rfl (lv_at hl 0 rfl) ?_
    refine va_get (D := D) (ci := 1) (v := .ref dA) (C := RM) (T := TM) (N := 13) hx hb hbg bg_M hown hK hP 0 rfl rfl 8 (by decide) (hbg _ bw_317) (fun _ h9 => h9) rfl dM_slide_171 ?_
    refine lv_iload hx hb dM_slide_174 (lv_at hl 4 rfl) ?_
    refine lv_iconst (v := 3) hx hb dM_slide_176 (by decide) ?_
    refine lv_iadd hx hb dM_slide_177 ?_
    rw [show (nI a) + 3 = nI (a + 3) from nI_add a 3]
    refine lv_iload hx hb dM_slide_178 (lv_at hl 5 rfl) ?_
    refine lv_iadd hx hb dM_slide_180 ?_
    rw [show (nI (a + 3)) + (nI f) = nI (a + 3 + f) from nI_add (a + 3) f]
    refine sy_iald (j := a + 3 + f) hx hb hK hP 6 0 rfl rfl (by omega) (by omega) dM_slide_181 ?_
    refine va_iald hx hb hK hP 4 0 rfl rfl (hV f (Nat.le_refl _) (by omega)) dM_slide_182 ?_
    refine sy_iast (j := a + 3 + f) hx hb hK hP hD hS 6 0 rfl rfl (by omega) (by omega) dM_slide_183 (fun H locs hP hD hS => ?_)
    have hP : va_P D vwC (wM g fA wA nA tA rA dA oA cI cZ F Wd Nm Tg Rc (upd Dt (a + 3 + f) (Tg (Dt (a + 3 + f)).toNatClampNeg)) Rt th ce tp sl go gi) H := hP
    have hD : va_D A (wM g fA wA nA tA rA dA oA cI cZ F Wd Nm Tg Rc (upd Dt (a + 3 + f) (Tg (Dt (a + 3 + f)).toNatClampNeg)) Rt th ce tp sl go gi) := hD
    refine lv_iinc (v := nI (f + 1)) (lv' := [(5, .int (nI (f + 1))), (0, .ref g), (1, .int x1), (2, .int x2), (3, .int x3), (4, .int (nI a))]) hx hb dM_slide_184 hl (k := 5) rfl (nI_1 f) (by decide) rfl (fun ls hl => ?_)
    refine lv_goto (tgt := 131) hx hb dM_slide_187 (by decide) ?_
    exact ih (f + 1) (upd Dt (a + 3 + f) (Tg (Dt (a + 3 + f)).toNatClampNeg)) _ _ _ ⟨by omega, fun i1 h1 h2 => by rw [pk_un (by omega)]; exact hV i1 (by omega) h2⟩ hP hD hS (lv_sub hl [1, 2, 3, 4, 5, 0] rfl) kk

set_option maxHeartbeats 4000000 in
set_option maxRecDepth 100000 in
theorem lp_M_slide4 {t : Nat} {x1 x2 x3 : Int32} {F Wd Nm Tg Rc Rt : Nat → Int32} (hx : p.tables.exec = Jvm.exec) (hb : c.code = bM_slide) (hml : c.maxLocals = 6) (hown : s.vm.findClass RM = some m.cls) (hbg : ∀ w ∈ sr_big, w.before args s = true) (hK : va_K D vwC [(cI, .int), (cZ, .boolean)] s) (hA : ∀ q : Nat, s.heap.size ≤ q → A q) (h5 : t ≤ 16385) :
    ∀ (us : List sr_O) (a : Nat) (Dt : Nat → Int32) (H : Heap) (locs : List Loc) (ls : Array Slot), a + sr_tot us = t ∧ sr_hd F Wd a us ∧ (∀ q1 o1, sr_ob a us q1 o1 → ∀ i1, i1 < o1.1 → vp_in (Dt (q1 + 3 + i1)) 16386) → va_P D vwC (wM g fA wA nA tA rA dA oA cI cZ F Wd Nm Tg Rc Dt Rt th ce (nI t) sl go gi) H → va_D A (wM g fA wA nA tA rA dA oA cI cZ F Wd Nm Tg Rc Dt Rt th ce (nI t) sl go gi) → va_S A s.heap H locs → lv_has ls 6 [(0, .ref g), (1, .int x1), (2, .int x2), (3, .int x3), (4, .int (nI a))] →
      (∀ (H : Heap) (locs : List Loc) (ls : Array Slot), va_P D vwC (wM g fA wA nA tA rA dA oA cI cZ F Wd Nm Tg Rc (sr_do Rc Tg a us Dt) Rt th ce (nI t) sl go gi) H → va_D A (wM g fA wA nA tA rA dA oA cI cZ F Wd Nm Tg Rc (sr_do Rc Tg a us Dt) Rt th ce (nI t) sl go gi) → va_S A s.heap H locs → lv_has ls 6 [(0, .ref g), (1, .int x1), (2, .int x2), (3, .int x3)] → W p l e { frames := 2, cells := 0, slots := 0, locals := 46 } s m args below meth c H locs 0 0 Q (F0 m 204 ls [])) →
      W p l e { frames := 2, cells := 0, slots := 0, locals := 46 } s m args below meth c H locs 0 0 Q (F0 m 119 ls []) := by
  intro us
  induction us with
  | nil =>
    intro a Dt H locs ls hst hP hD hS hl kk
    obtain ⟨hst, -, -⟩ := hst
    simp only [sr_tot] at hst
    refine lv_iload hx hb dM_slide_119 (lv_at hl 4 rfl) ?_
    refine lv_aload_n hx hb dM_slide_121 rfl (lv_at hl 0 rfl) ?_
    refine va_get (D := D) (ci := 1) (v := .int (nI t)) (C := RM) (T := TM) (N := 13) hx hb hbg bg_M hown hK hP 0 rfl rfl 2 (by decide) (hbg _ bw_311) (fun _ h9 => h9) rfl dM_slide_122 ?_
    refine lv_icmp_ge (tgt := 204) hx hb dM_slide_125 (by decide) (fun _ => ?_) (fun z => absurd (nI_le (by omega) (by omega)) z)
    exact kk  _ _ _ hP hD hS (lv_sub hl [0, 1, 2, 3] rfl)
  | cons o us ih =>
    intro a Dt H locs ls hst hP hD hS hl kk
    have h3 := sr_sz3 o
    have hsz : sr_sz o = 3 + o.1 + o.2.1 := rfl
    obtain ⟨hst, hhd, hvd⟩ := hst
    simp only [sr_tot] at hst
    obtain ⟨hh, hhd⟩ := sr_hd_cons hhd
    have hvo := hvd a o (Or.inl ⟨rfl, rfl⟩)
    refine lv_iload hx hb dM_slide_119 (lv_at hl 4 rfl) ?_
    refine lv_aload_n hx hb dM_slide_121 rfl (lv_at hl 0 rfl) ?_
    refine va_get (D := D) (ci := 1) (v := .int (nI t)) (C := RM) (T := TM) (N := 13) hx hb hbg bg_M hown hK hP 0 rfl rfl 2 (by decide) (hbg _ bw_311) (fun _ h9 => h9) rfl dM_slide_122 ?_
    refine lv_icmp_ge (tgt := 204) hx hb dM_slide_125 (by decide) (fun z => absurd z (nI_ge (by omega) (by omega))) (fun _ => ?_)
    refine lv_iconst (v := 0) hx hb dM_slide_128 (by decide) ?_
    refine lv_istore (lv' := [(5, .int 0), (0, .ref g), (1, .int x1), (2, .int x2), (3, .int x3), (4, .int (nI a))]) hx hb dM_slide_129 hl (by decide) rfl (fun ls hl => ?_)
    by_cases hr : Rc a = 0
    · refine lv_iload hx hb dM_slide_131 (lv_at hl 0 rfl) ?_
      refine lv_aload_n hx hb dM_slide_133 rfl (lv_at hl 1 rfl) ?_
      refine va_get (D := D) (ci := 1) (v := .ref fA) (C := RM) (T := TM) (N := 13) hx hb hbg bg_M hown hK hP 0 rfl rfl 3 (by decide) (hbg _ bw_312) (fun _ h9 => h9) rfl dM_slide_134 ?_
      refine lv_iload hx hb dM_slide_137 (lv_at hl 5 rfl) ?_
      refine sy_iald (j := a) hx hb hK hP 1 0 rfl rfl (by omega) (by omega) dM_slide_139 ?_
      refine lv_iconst (v := 1) hx hb dM_slide_140 (by decide) ?_
      refine lv_isub hx hb dM_slide_141 ?_
      rw [show (F a) - 1 = nI o.1 from by rw [hh.1, nI_pred]]
      refine lv_icmp_ge (tgt := 190) hx hb dM_slide_142 (by decide) (fun c_142 => ?_) (fun c_142 => ?_)
      · refine lv_iload hx hb dM_slide_190 (lv_at hl 5 rfl) ?_
        refine lv_aload_n hx hb dM_slide_192 rfl (lv_at hl 1 rfl) ?_
        refine lv_iload hx hb dM_slide_193 (lv_at hl 5 rfl) ?_
        refine sy_cVi (wc := wM g fA wA nA tA rA dA oA cI cZ F Wd Nm Tg Rc Dt Rt th ce (nI t) sl go gi) (wr := []) (w1 := wM g fA wA nA tA rA dA oA cI cZ F Wd Nm Tg Rc Dt Rt th ce (nI t) sl go gi) (ci := 1) (q0 := 0) (As := [.int (nI a)]) (rest := [.int (nI a)]) ⟨hx, hb, hml, hown, hbg⟩ (ct_M_size_o l D g fA wA nA tA rA dA oA cI cZ F Wd Nm Tg Rc Dt Rt th ce (nI t) sl go gi H.size a o (by omega) hh.1 hh.2) (cwV 1 hbg (bg_V bw_394 bw_395 bw_30 bw_35 bw_396) rfl rfl rfl (by decide +kernel) ⟨Nat.le_of_ble_eq_true rfl, Nat.le_of_ble_eq_true rfl⟩) hK [0, 1] rfl hP hD hS hA [0, 1, 2, 3, 4, 5, 6, 7] [] rfl rfl rfl rfl (by decide) rfl rfl rfl hl.1 rfl (Nat.le_of_ble_eq_true rfl) dM_slide_195 ⟨Nat.le_of_ble_eq_true rfl, Nat.le_of_ble_eq_true rfl⟩ (fun H locs hP hD hS => ?_)
        have hP : va_P D vwC (wM g fA wA nA tA rA dA oA cI cZ F Wd Nm Tg Rc Dt Rt th ce (nI t) sl go gi) H := hP
        have hD : va_D A (wM g fA wA nA tA rA dA oA cI cZ F Wd Nm Tg Rc Dt Rt th ce (nI t) sl go gi) := hD
        refine lv_iadd hx hb dM_slide_198 ?_
        rw [show (nI a) + (nI (sr_sz o)) = nI (a + sr_sz o) from nI_add a (sr_sz o)]
        refine lv_istore (lv' := [(4, .int (nI (a + sr_sz o))), (5, .int 0), (0, .ref g), (1, .int x1), (2, .int x2), (3, .int x3)]) hx hb dM_slide_199 hl (by decide) rfl (fun ls hl => ?_)
        refine lv_goto (tgt := 119) hx hb dM_slide_201 (by decide) ?_
        rw [show sr_do Rc Tg a (o :: us) Dt = sr_do Rc Tg (a + sr_sz o) us Dt from congrArg (sr_do Rc Tg (a + sr_sz o) us) (if_neg (sm_mm0 hr))] at kk
        exact ih (a + sr_sz o) Dt _ _ _ ⟨by omega, hhd, sm_vdf (T := Tg) hvd (Or.inl rfl)⟩ hP hD hS (lv_sub hl [2, 3, 4, 5, 0] rfl) kk
      · refine lv_aload_n hx hb dM_slide_145 rfl (lv_at hl 1 rfl) ?_
        refine va_get (D := D) (ci := 1) (v := .ref rA) (C := RM) (T := TM) (N := 13) hx hb hbg bg_M hown hK hP 0 rfl rfl 7 (by decide) (hbg _ bw_316) (fun _ h9 => h9) rfl dM_slide_146 ?_
        refine lv_iload hx hb dM_slide_149 (lv_at hl 5 rfl) ?_
        refine sy_zald (j := a) hx hb hK hP 5 1 rfl rfl (by omega) (by omega) dM_slide_151 ?_
        refine lv_if_eq (tgt := 190) hx hb dM_slide_152 (by decide) (fun _ => ?_) (fun z => absurd hr z)
        refine lv_iload hx hb dM_slide_190 (lv_at hl 5 rfl) ?_
        refine lv_aload_n hx hb dM_slide_192 rfl (lv_at hl 1 rfl) ?_
        refine lv_iload hx hb dM_slide_193 (lv_at hl 5 rfl) ?_
        refine sy_cVi (wc := wM g fA wA nA tA rA dA oA cI cZ F Wd Nm Tg Rc Dt Rt th ce (nI t) sl go gi) (wr := []) (w1 := wM g fA wA nA tA rA dA oA cI cZ F Wd Nm Tg Rc Dt Rt th ce (nI t) sl go gi) (ci := 1) (q0 := 0) (As := [.int (nI a)]) (rest := [.int (nI a)]) ⟨hx, hb, hml, hown, hbg⟩ (ct_M_size_o l D g fA wA nA tA rA dA oA cI cZ F Wd Nm Tg Rc Dt Rt th ce (nI t) sl go gi H.size a o (by omega) hh.1 hh.2) (cwV 1 hbg (bg_V bw_394 bw_395 bw_30 bw_35 bw_396) rfl rfl rfl (by decide +kernel) ⟨Nat.le_of_ble_eq_true rfl, Nat.le_of_ble_eq_true rfl⟩) hK [0, 1] rfl hP hD hS hA [0, 1, 2, 3, 4, 5, 6, 7] [] rfl rfl rfl rfl (by decide) rfl rfl rfl hl.1 rfl (Nat.le_of_ble_eq_true rfl) dM_slide_195 ⟨Nat.le_of_ble_eq_true rfl, Nat.le_of_ble_eq_true rfl⟩ (fun H locs hP hD hS => ?_)
        have hP : va_P D vwC (wM g fA wA nA tA rA dA oA cI cZ F Wd Nm Tg Rc Dt Rt th ce (nI t) sl go gi) H := hP
        have hD : va_D A (wM g fA wA nA tA rA dA oA cI cZ F Wd Nm Tg Rc Dt Rt th ce (nI t) sl go gi) := hD
        refine lv_iadd hx hb dM_slide_198 ?_
        rw [show (nI a) + (nI (sr_sz o)) = nI (a + sr_sz o) from nI_add a (sr_sz o)]
        refine lv_istore (lv' := [(4, .int (nI (a + sr_sz o))), (5, .int 0), (0, .ref g), (1, .int x1), (2, .int x2), (3, .int x3)]) hx hb dM_slide_199 hl (by decide) rfl (fun ls hl => ?_)
        refine lv_goto (tgt := 119) hx hb dM_slide_201 (by decide) ?_
        rw [show sr_do Rc Tg a (o :: us) Dt = sr_do Rc Tg (a + sr_sz o) us Dt from congrArg (sr_do Rc Tg (a + sr_sz o) us) (if_neg (sm_mm0 hr))] at kk
        exact ih (a + sr_sz o) Dt _ _ _ ⟨by omega, hhd, sm_vdf (T := Tg) hvd (Or.inl rfl)⟩ hP hD hS (lv_sub hl [2, 3, 4, 5, 0] rfl) kk
    · refine lp_M_slide3 hx hb hml hown hbg hK hA hh.1 (by omega) hr o.1 0 Dt _ _ _ ⟨Nat.zero_add _, fun i1 _ h2 => hvo i1 h2⟩ hP hD hS (lv_sub hl [1, 2, 3, 4, 5, 0] rfl) ?_
      intro H locs ls hP hD hS hl
      refine lv_iload hx hb dM_slide_190 (lv_at hl 4 rfl) ?_
      refine lv_aload_n hx hb dM_slide_192 rfl (lv_at hl 0 rfl) ?_
      refine lv_iload hx hb dM_slide_193 (lv_at hl 4 rfl) ?_
      refine sy_cVi (wc := wM g fA wA nA tA rA dA oA cI cZ F Wd Nm Tg Rc (sr_df Tg a o.1 0 Dt) Rt th ce (nI t) sl go gi) (wr := []) (w1 := wM g fA wA nA tA rA dA oA cI cZ F Wd Nm Tg Rc (sr_df Tg a o.1 0 Dt) Rt th ce (nI t) sl go gi) (ci := 1) (q0 := 0) (As := [.int (nI a)]) (rest := [.int (nI a)]) ⟨hx, hb, hml, hown, hbg⟩ (ct_M_size_o l D g fA wA nA tA rA dA oA cI cZ F Wd Nm Tg Rc (sr_df Tg a o.1 0 Dt) Rt th ce (nI t) sl go gi H.size a o (by omega) hh.1 hh.2) (cwV 1 hbg (bg_V bw_394 bw_395 bw_30 bw_35 bw_396) rfl rfl rfl (by decide +kernel) ⟨Nat.le_of_ble_eq_true rfl, Nat.le_of_ble_eq_true rfl⟩) hK [0, 1] rfl hP hD hS hA [0, 1, 2, 3, 4, 5, 6, 7] [] rfl rfl rfl rfl (by decide) rfl rfl rfl hl.1 rfl (Nat.le_of_ble_eq_true rfl) dM_slide_195 ⟨Nat.le_of_ble_eq_true rfl, Nat.le_of_ble_eq_true rfl⟩ (fun H locs hP hD hS => ?_)
      have hP : va_P D vwC (wM g fA wA nA tA rA dA oA cI cZ F Wd Nm Tg Rc (sr_df Tg a o.1 0 Dt) Rt th ce (nI t) sl go gi) H := hP
      have hD : va_D A (wM g fA wA nA tA rA dA oA cI cZ F Wd Nm Tg Rc (sr_df Tg a o.1 0 Dt) Rt th ce (nI t) sl go gi) := hD
      refine lv_iadd hx hb dM_slide_198 ?_
      rw [show (nI a) + (nI (sr_sz o)) = nI (a + sr_sz o) from nI_add a (sr_sz o)]
      refine lv_istore (lv' := [(4, .int (nI (a + sr_sz o))), (0, .ref g), (1, .int x1), (2, .int x2), (3, .int x3)]) hx hb dM_slide_199 hl (by decide) rfl (fun ls hl => ?_)
      refine lv_goto (tgt := 119) hx hb dM_slide_201 (by decide) ?_
      rw [show sr_do Rc Tg a (o :: us) Dt = sr_do Rc Tg (a + sr_sz o) us (sr_df Tg a o.1 0 Dt) from congrArg (sr_do Rc Tg (a + sr_sz o) us) (if_pos (sm_mm1 hr))] at kk
      exact ih (a + sr_sz o) (sr_df Tg a o.1 0 Dt) _ _ _ ⟨by omega, hhd, sm_vdf (T := Tg) hvd (Or.inr rfl)⟩ hP hD hS (lv_sub hl [1, 2, 3, 4, 0] rfl) kk

set_option maxHeartbeats 4000000 in
set_option maxRecDepth 100000 in
theorem lp_M_slide5 {t : Nat} {x1 x2 x3 : Int32} {Tg Rc Rt : Nat → Int32} (hx : p.tables.exec = Jvm.exec) (hb : c.code = bM_slide) (hml : c.maxLocals = 6) (hown : s.vm.findClass RM = some m.cls) (hbg : ∀ w ∈ sr_big, w.before args s = true) (hK : va_K D vwC [(cI, .int), (cZ, .boolean)] s) (hA : ∀ q : Nat, s.heap.size ≤ q → A q) (h5 : t ≤ 16385) :
    ∀ (us : List sr_O) (a : Nat) (F Wd Nm Dt : Nat → Int32) (H : Heap) (locs : List Loc) (ls : Array Slot), a + sr_tot us = t ∧ sr_hd F Wd a us ∧ (∀ q1 o1, sr_ob a us q1 o1 → ∃ b, Tg q1 = nI b ∧ b ≤ q1) → va_P D vwC (wM g fA wA nA tA rA dA oA cI cZ F Wd Nm Tg Rc Dt Rt th ce (nI t) sl go gi) H → va_D A (wM g fA wA nA tA rA dA oA cI cZ F Wd Nm Tg Rc Dt Rt th ce (nI t) sl go gi) → va_S A s.heap H locs → lv_has ls 6 [(0, .ref g), (1, .int x1), (2, .int x2), (3, .int x3), (4, .int (nI a))] →
      (∀ (H : Heap) (locs : List Loc) (ls : Array Slot), va_P D vwC (wM g fA wA nA tA rA dA oA cI cZ ((sr_bl Rc Tg a us (F, Wd, Nm, Dt)).1) ((sr_bl Rc Tg a us (F, Wd, Nm, Dt)).2.1) ((sr_bl Rc Tg a us (F, Wd, Nm, Dt)).2.2.1) Tg Rc ((sr_bl Rc Tg a us (F, Wd, Nm, Dt)).2.2.2) Rt th ce (nI t) sl go gi) H → va_D A (wM g fA wA nA tA rA dA oA cI cZ ((sr_bl Rc Tg a us (F, Wd, Nm, Dt)).1) ((sr_bl Rc Tg a us (F, Wd, Nm, Dt)).2.1) ((sr_bl Rc Tg a us (F, Wd, Nm, Dt)).2.2.1) Tg Rc ((sr_bl Rc Tg a us (F, Wd, Nm, Dt)).2.2.2) Rt th ce (nI t) sl go gi) → va_S A s.heap H locs → lv_has ls 6 [(0, .ref g), (1, .int x1), (2, .int x2), (3, .int x3)] → W p l e { frames := 2, cells := 0, slots := 0, locals := 46 } s m args below meth c H locs 0 0 Q (F0 m 279 ls [])) →
      W p l e { frames := 2, cells := 0, slots := 0, locals := 46 } s m args below meth c H locs 0 0 Q (F0 m 207 ls []) := by
  intro us
  induction us with
  | nil =>
    intro a F Wd Nm Dt H locs ls hst hP hD hS hl kk
    obtain ⟨hst, -, -⟩ := hst
    simp only [sr_tot] at hst
    refine lv_iload hx hb dM_slide_207 (lv_at hl 4 rfl) ?_
    refine lv_aload_n hx hb dM_slide_209 rfl (lv_at hl 0 rfl) ?_
    refine va_get (D := D) (ci := 1) (v := .int (nI t)) (C := RM) (T := TM) (N := 13) hx hb hbg bg_M hown hK hP 0 rfl rfl 2 (by decide) (hbg _ bw_311) (fun _ h9 => h9) rfl dM_slide_210 ?_
    refine lv_icmp_ge (tgt := 279) hx hb dM_slide_213 (by decide) (fun _ => ?_) (fun z => absurd (nI_le (by omega) (by omega)) z)
    exact kk  _ _ _ hP hD hS (lv_sub hl [0, 1, 2, 3] rfl)
  | cons o us ih =>
    intro a F Wd Nm Dt H locs ls hst hP hD hS hl kk
    have h3 := sr_sz3 o
    have hsz : sr_sz o = 3 + o.1 + o.2.1 := rfl
    obtain ⟨hst, hhd0, htb⟩ := hst
    simp only [sr_tot] at hst
    obtain ⟨hh, hhd⟩ := sr_hd_cons hhd0
    obtain ⟨b, hTa, hba⟩ := htb a o (Or.inl ⟨rfl, rfl⟩)
    refine lv_iload hx hb dM_slide_207 (lv_at hl 4 rfl) ?_
    refine lv_aload_n hx hb dM_slide_209 rfl (lv_at hl 0 rfl) ?_
    refine va_get (D := D) (ci := 1) (v := .int (nI t)) (C := RM) (T := TM) (N := 13) hx hb hbg bg_M hown hK hP 0 rfl rfl 2 (by decide) (hbg _ bw_311) (fun _ h9 => h9) rfl dM_slide_210 ?_
    refine lv_icmp_ge (tgt := 279) hx hb dM_slide_213 (by decide) (fun z => absurd z (nI_ge (by omega) (by omega))) (fun _ => ?_)
    refine lv_aload_n hx hb dM_slide_216 rfl (lv_at hl 0 rfl) ?_
    refine lv_iload hx hb dM_slide_217 (lv_at hl 4 rfl) ?_
    refine sy_cVi (wc := wM g fA wA nA tA rA dA oA cI cZ F Wd Nm Tg Rc Dt Rt th ce (nI t) sl go gi) (wr := []) (w1 := wM g fA wA nA tA rA dA oA cI cZ F Wd Nm Tg Rc Dt Rt th ce (nI t) sl go gi) (ci := 1) (q0 := 0) (As := [.int (nI a)]) (rest := []) ⟨hx, hb, hml, hown, hbg⟩ (ct_M_size_o l D g fA wA nA tA rA dA oA cI cZ F Wd Nm Tg Rc Dt Rt th ce (nI t) sl go gi H.size a o (by omega) hh.1 hh.2) (cwV 1 hbg (bg_V bw_394 bw_395 bw_30 bw_35 bw_396) rfl rfl rfl (by decide +kernel) ⟨Nat.le_of_ble_eq_true rfl, Nat.le_of_ble_eq_true rfl⟩) hK [0, 1] rfl hP hD hS hA [0, 1, 2, 3, 4, 5, 6, 7] [] rfl rfl rfl rfl (by decide) rfl rfl rfl hl.1 rfl (Nat.le_of_ble_eq_true rfl) dM_slide_219 ⟨Nat.le_of_ble_eq_true rfl, Nat.le_of_ble_eq_true rfl⟩ (fun H locs hP hD hS => ?_)
    have hP : va_P D vwC (wM g fA wA nA tA rA dA oA cI cZ F Wd Nm Tg Rc Dt Rt th ce (nI t) sl go gi) H := hP
    have hD : va_D A (wM g fA wA nA tA rA dA oA cI cZ F Wd Nm Tg Rc Dt Rt th ce (nI t) sl go gi) := hD
    refine lv_istore (lv' := [(5, .int (nI (sr_sz o))), (0, .ref g), (1, .int x1), (2, .int x2), (3, .int x3), (4, .int (nI a))]) hx hb dM_slide_222 hl (by decide) rfl (fun ls hl => ?_)
    refine lv_aload_n hx hb dM_slide_224 rfl (lv_at hl 1 rfl) ?_
    refine va_get (D := D) (ci := 1) (v := .ref rA) (C := RM) (T := TM) (N := 13) hx hb hbg bg_M hown hK hP 0 rfl rfl 7 (by decide) (hbg _ bw_316) (fun _ h9 => h9) rfl dM_slide_225 ?_
    refine lv_iload hx hb dM_slide_228 (lv_at hl 5 rfl) ?_
    refine sy_zald (j := a) hx hb hK hP 5 1 rfl rfl (by omega) (by omega) dM_slide_230 ?_
    refine lv_if_eq (tgt := 245) hx hb dM_slide_231 (by decide) (fun c_231 => ?_) (fun c_231 => ?_)
    · refine lv_aload_n hx hb dM_slide_245 rfl (lv_at hl 1 rfl) ?_
      refine va_get (D := D) (ci := 1) (v := .ref fA) (C := RM) (T := TM) (N := 13) hx hb hbg bg_M hown hK hP 0 rfl rfl 3 (by decide) (hbg _ bw_312) (fun _ h9 => h9) rfl dM_slide_246 ?_
      refine lv_iload hx hb dM_slide_249 (lv_at hl 5 rfl) ?_
      refine lv_iconst (v := 0) hx hb dM_slide_251 (by decide) ?_
      refine sy_iast (j := a) hx hb hK hP hD hS 1 0 rfl rfl (by omega) (by omega) dM_slide_252 (fun H locs hP hD hS => ?_)
      have hP : va_P D vwC (wM g fA wA nA tA rA dA oA cI cZ (upd F a 0) Wd Nm Tg Rc Dt Rt th ce (nI t) sl go gi) H := hP
      have hD : va_D A (wM g fA wA nA tA rA dA oA cI cZ (upd F a 0) Wd Nm Tg Rc Dt Rt th ce (nI t) sl go gi) := hD
      refine lv_aload_n hx hb dM_slide_253 rfl (lv_at hl 1 rfl) ?_
      refine va_get (D := D) (ci := 1) (v := .ref wA) (C := RM) (T := TM) (N := 13) hx hb hbg bg_M hown hK hP 0 rfl rfl 4 (by decide) (hbg _ bw_313) (fun _ h9 => h9) rfl dM_slide_254 ?_
      refine lv_iload hx hb dM_slide_257 (lv_at hl 5 rfl) ?_
      refine lv_iconst (v := 0) hx hb dM_slide_259 (by decide) ?_
      refine sy_iast (j := a) hx hb hK hP hD hS 2 0 rfl rfl (by omega) (by omega) dM_slide_260 (fun H locs hP hD hS => ?_)
      have hP : va_P D vwC (wM g fA wA nA tA rA dA oA cI cZ (upd F a 0) (upd Wd a 0) Nm Tg Rc Dt Rt th ce (nI t) sl go gi) H := hP
      have hD : va_D A (wM g fA wA nA tA rA dA oA cI cZ (upd F a 0) (upd Wd a 0) Nm Tg Rc Dt Rt th ce (nI t) sl go gi) := hD
      refine lv_aload_n hx hb dM_slide_261 rfl (lv_at hl 1 rfl) ?_
      refine va_get (D := D) (ci := 1) (v := .ref nA) (C := RM) (T := TM) (N := 13) hx hb hbg bg_M hown hK hP 0 rfl rfl 5 (by decide) (hbg _ bw_314) (fun _ h9 => h9) rfl dM_slide_262 ?_
      refine lv_iload hx hb dM_slide_265 (lv_at hl 5 rfl) ?_
      refine lv_iconst (v := 0) hx hb dM_slide_267 (by decide) ?_
      refine sy_iast (j := a) hx hb hK hP hD hS 3 0 rfl rfl (by omega) (by omega) dM_slide_268 (fun H locs hP hD hS => ?_)
      have hP : va_P D vwC (wM g fA wA nA tA rA dA oA cI cZ (upd F a 0) (upd Wd a 0) (upd Nm a 0) Tg Rc Dt Rt th ce (nI t) sl go gi) H := hP
      have hD : va_D A (wM g fA wA nA tA rA dA oA cI cZ (upd F a 0) (upd Wd a 0) (upd Nm a 0) Tg Rc Dt Rt th ce (nI t) sl go gi) := hD
      refine lv_iload hx hb dM_slide_269 (lv_at hl 5 rfl) ?_
      refine lv_iload hx hb dM_slide_271 (lv_at hl 0 rfl) ?_
      refine lv_iadd hx hb dM_slide_273 ?_
      rw [show (nI a) + (nI (sr_sz o)) = nI (a + sr_sz o) from nI_add a (sr_sz o)]
      refine lv_istore (lv' := [(4, .int (nI (a + sr_sz o))), (5, .int (nI (sr_sz o))), (0, .ref g), (1, .int x1), (2, .int x2), (3, .int x3)]) hx hb dM_slide_274 hl (by decide) rfl (fun ls hl => ?_)
      refine lv_goto (tgt := 207) hx hb dM_slide_276 (by decide) ?_
      rw [show sr_bl Rc Tg a (o :: us) (F, Wd, Nm, Dt) = sr_bl Rc Tg (a + sr_sz o) us (upd F a 0, upd Wd a 0, upd Nm a 0, Dt) from congrArg (sr_bl Rc Tg (a + sr_sz o) us) (if_neg (sm_mm0 c_231))] at kk
      exact ih (a + sr_sz o) (upd F a 0) (upd Wd a 0) (upd Nm a 0) Dt _ _ _ ⟨by omega, sr_bl_hd (rc := Rc) hba hhd0 (Or.inr rfl) (Or.inr rfl), fun q1 o1 h1 => htb q1 o1 (Or.inr h1)⟩ hP hD hS (lv_sub hl [2, 3, 4, 5, 0] rfl) kk
    · refine lv_aload_n hx hb dM_slide_234 rfl (lv_at hl 1 rfl) ?_
      refine lv_iload hx hb dM_slide_235 (lv_at hl 5 rfl) ?_
      refine lv_iload hx hb dM_slide_237 (lv_at hl 0 rfl) ?_
      refine sy_cVv (wc := wM g fA wA nA tA rA dA oA cI cZ F Wd Nm Tg Rc Dt Rt th ce (nI t) sl go gi) (wr := []) (w1 := wM g fA wA nA tA rA dA oA cI cZ (upd (upd F a 0) b (F a)) (upd (upd Wd a 0) b (Wd a)) (upd (upd Nm a 0) b (Nm a)) Tg Rc (sr_cp a b (sr_sz o) 0 Dt) Rt th ce (nI t) sl go gi) (ci := 1) (q0 := 0) (As := [.int (nI a), .int (nI (sr_sz o))]) (rest := []) ⟨hx, hb, hml, hown, hbg⟩ (ct_M_bring l D g fA wA nA tA rA dA oA cI cZ F Wd Nm Tg Rc Dt Rt th ce (nI t) sl go gi H.size a (sr_sz o) b hTa (by omega) (by omega) (by omega)) (cwV 2 hbg (bg_V bw_400 bw_401 bw_32 bw_35 bw_402) rfl rfl rfl (by decide +kernel) ⟨Nat.le_of_ble_eq_true rfl, Nat.le_of_ble_eq_true rfl⟩) hK [0, 1] rfl hP hD hS hA [0, 1, 2, 3, 4, 5, 6, 7] [] rfl rfl rfl rfl (by decide) rfl rfl rfl hl.1 rfl (Nat.le_of_ble_eq_true rfl) dM_slide_239 ⟨Nat.le_of_ble_eq_true rfl, Nat.le_of_ble_eq_true rfl⟩ (fun H locs hP hD hS => ?_)
      have hP : va_P D vwC (wM g fA wA nA tA rA dA oA cI cZ (upd (upd F a 0) b (F a)) (upd (upd Wd a 0) b (Wd a)) (upd (upd Nm a 0) b (Nm a)) Tg Rc (sr_cp a b (sr_sz o) 0 Dt) Rt th ce (nI t) sl go gi) H := hP
      have hD : va_D A (wM g fA wA nA tA rA dA oA cI cZ (upd (upd F a 0) b (F a)) (upd (upd Wd a 0) b (Wd a)) (upd (upd Nm a 0) b (Nm a)) Tg Rc (sr_cp a b (sr_sz o) 0 Dt) Rt th ce (nI t) sl go gi) := hD
      refine lv_goto (tgt := 269) hx hb dM_slide_242 (by decide) ?_
      refine lv_iload hx hb dM_slide_269 (lv_at hl 5 rfl) ?_
      refine lv_iload hx hb dM_slide_271 (lv_at hl 0 rfl) ?_
      refine lv_iadd hx hb dM_slide_273 ?_
      rw [show (nI a) + (nI (sr_sz o)) = nI (a + sr_sz o) from nI_add a (sr_sz o)]
      refine lv_istore (lv' := [(4, .int (nI (a + sr_sz o))), (5, .int (nI (sr_sz o))), (0, .ref g), (1, .int x1), (2, .int x2), (3, .int x3)]) hx hb dM_slide_274 hl (by decide) rfl (fun ls hl => ?_)
      refine lv_goto (tgt := 207) hx hb dM_slide_276 (by decide) ?_
      rw [show sr_bl Rc Tg a (o :: us) (F, Wd, Nm, Dt) = sr_bl Rc Tg (a + sr_sz o) us (sr_bg b (F, Wd, Nm, Dt) a (sr_sz o)) from congrArg (sr_bl Rc Tg (a + sr_sz o) us) ((if_pos (sm_mm1 c_231)).trans (by rw [hTa, nI_clamp (by omega)]))] at kk
      exact ih (a + sr_sz o) (upd (upd F a 0) b (F a)) (upd (upd Wd a 0) b (Wd a)) (upd (upd Nm a 0) b (Nm a)) (sr_cp a b (sr_sz o) 0 Dt) _ _ _ ⟨by omega, sr_bl_hd (rc := Rc) hba hhd0 (Or.inl rfl) (Or.inl rfl), fun q1 o1 h1 => htb q1 o1 (Or.inr h1)⟩ hP hD hS (lv_sub hl [2, 3, 4, 5, 0] rfl) kk

set_option maxHeartbeats 4000000 in
set_option maxRecDepth 100000 in
theorem ct_M_slide (l : Launch) (D : va_G) (g fA wA nA tA rA dA oA : Nat) (cI cZ : ClassId) (F Wd Nm Tg Rc Dt Rt : Nat → Int32) (th ce sl go gi : Int32) (sz : Nat) (us : List sr_O) (t : Nat) (hst : 1 + sr_tot us = t ∧ sr_hd F Wd 1 us) (h5 : t ≤ 16385) (hR : ∀ r1, r1 < 16 → vp_in (Rt r1) 16386) (hV : ∀ q1 o1, sr_ob 1 us q1 o1 → ∀ i1, i1 < o1.1 → vp_in (Dt (q1 + 3 + i1)) 16386)  : sy_Mi l yM_slide (Cond.code yM_slide bM_slide 6 (some .int) :: sr_big) { frames := 2, cells := 0, slots := 0, locals := 46 } D vwC [(cI, .int), (cZ, .boolean)] [.ref g] (wM g fA wA nA tA rA dA oA cI cZ F Wd Nm Tg Rc Dt Rt th ce (nI t) sl go gi) sz (nI (1 + sr_tot (sr_kp (sr_mm (sm_rc Dt Rt us t Rc)) 1 us)) - 1) (wM g fA wA nA tA rA dA oA cI cZ ((sr_bl (sm_rc Dt Rt us t Rc) (upd (sr_tg (sm_rc Dt Rt us t Rc) 1 1 us Tg) 0 0) 1 us (F, Wd, Nm, sr_do (sm_rc Dt Rt us t Rc) (upd (sr_tg (sm_rc Dt Rt us t Rc) 1 1 us Tg) 0 0) 1 us Dt)).1) ((sr_bl (sm_rc Dt Rt us t Rc) (upd (sr_tg (sm_rc Dt Rt us t Rc) 1 1 us Tg) 0 0) 1 us (F, Wd, Nm, sr_do (sm_rc Dt Rt us t Rc) (upd (sr_tg (sm_rc Dt Rt us t Rc) 1 1 us Tg) 0 0) 1 us Dt)).2.1) ((sr_bl (sm_rc Dt Rt us t Rc) (upd (sr_tg (sm_rc Dt Rt us t Rc) 1 1 us Tg) 0 0) 1 us (F, Wd, Nm, sr_do (sm_rc Dt Rt us t Rc) (upd (sr_tg (sm_rc Dt Rt us t Rc) 1 1 us Tg) 0 0) 1 us Dt)).2.2.1) (upd (sr_tg (sm_rc Dt Rt us t Rc) 1 1 us Tg) 0 0) (sm_rc Dt Rt us t Rc) ((sr_bl (sm_rc Dt Rt us t Rc) (upd (sr_tg (sm_rc Dt Rt us t Rc) 1 1 us Tg) 0 0) 1 us (F, Wd, Nm, sr_do (sm_rc Dt Rt us t Rc) (upd (sr_tg (sm_rc Dt Rt us t Rc) 1 1 us Tg) 0 0) 1 us Dt)).2.2.2) (sm_rt (upd (sr_tg (sm_rc Dt Rt us t Rc) 1 1 us Tg) 0 0) 16 0 Rt) 0 ce (nI (1 + sr_tot (sr_kp (sr_mm (sm_rc Dt Rt us t Rc)) 1 us))) (sl + 1) (go + nI us.length - nI (sr_kp (sr_mm (sm_rc Dt Rt us t Rc)) 1 us).length) gi) 0 0 := by
  refine Met.ofW (cc := bM_slide) (maxL := 6) (ret := (some .int)) (by decide) rfl ?_
  intro p e s m args below meth c s₁ B hml hv
  obtain ⟨rfl, hsz, hP, hK, hD0⟩ := hv
  have hx := B.exec
  have hb := B.bytes
  have hr := B.returns
  have hbg : ∀ w ∈ sr_big, w.before _ s = true := fun w h => atoms_spec (ws := Cond.code yM_slide bM_slide 6 (some .int) :: sr_big) B.pre w (List.mem_cons_of_mem _ h)
  have hown : s.vm.findClass RM = some m.cls := findClass_of_methodNamed B.named
  have hlocks := B.notSynchronized
  subst hsz
  have hD := hD0.self (sz := s.heap.size)
  generalize hAe : va_A (wM g fA wA nA tA rA dA oA cI cZ F Wd Nm Tg Rc Dt Rt th ce (nI t) sl go gi) s.heap.size = A at *
  have hA : ∀ q : Nat, s.heap.size ≤ q → A q := fun q h => by rw [← hAe]; exact Or.inr h
  have hS : va_S A s.heap s.heap [] := va_S.rf
  have hl := lv_entry ([.ref g]) (n := 6) (Nat.le_of_ble_eq_true rfl)
  rw [lg_entry_eq]
  generalize (lg_sl ([.ref g]) ++ List.replicate (6 - (lg_sl ([.ref g])).length) Slot.unset).toArray = ls at hl ⊢
  have hl : lv_has ls 6 [(0, .ref g)] := hl
  refine lv_aload_n hx hb dM_slide_0 rfl (lv_at hl 0 rfl) ?_
  refine lv_iconst (v := 0) hx hb dM_slide_1 (by decide) ?_
  refine va_put (D := D) (ci := 1) (v := .int 0) (ty := .int) (C := RM) (T := TM) (N := 13) hx hb hbg bg_M tM tM_ok nM hown hK hP hD hS 0 rfl rfl 0 (by decide) (hbg _ bw_309) (fun _ h9 => h9) rfl (by decide +kernel) rfl rfl (Nat.le_of_ble_eq_true rfl) dM_slide_2 (fun H locs hP hD hS => ?_)
  have hP : va_P D vwC (wM g fA wA nA tA rA dA oA cI cZ F Wd Nm Tg Rc Dt Rt 0 ce (nI t) sl go gi) H := hP
  have hD : va_D A (wM g fA wA nA tA rA dA oA cI cZ F Wd Nm Tg Rc Dt Rt 0 ce (nI t) sl go gi) := hD
  refine lv_aload_n hx hb dM_slide_5 rfl (lv_at hl 0 rfl) ?_
  refine sy_cVi (wc := wM g fA wA nA tA rA dA oA cI cZ F Wd Nm Tg Rc Dt Rt 0 ce (nI t) sl go gi) (wr := []) (w1 := wM g fA wA nA tA rA dA oA cI cZ F Wd Nm Tg (sm_rc Dt Rt us t Rc) Dt Rt 0 ce (nI t) sl go gi) (ci := 1) (q0 := 0) (As := []) (rest := []) ⟨hx, hb, hml, hown, hbg⟩ (ct_M_reach l D g fA wA nA tA rA dA oA cI cZ F Wd Nm Tg Rc Dt Rt 0 ce sl go gi H.size us t hst h5 hR hV) (cwV 0 hbg (bg_V bw_391 bw_392 bw_29 bw_35 bw_393) rfl rfl rfl (by decide +kernel) ⟨Nat.le_of_ble_eq_true rfl, Nat.le_of_ble_eq_true rfl⟩) hK [0, 1] rfl hP hD hS hA [0, 1, 2, 3, 4, 5, 6, 7] [] rfl rfl rfl rfl (by decide) rfl rfl rfl hl.1 rfl (Nat.le_of_ble_eq_true rfl) dM_slide_6 ⟨Nat.le_of_ble_eq_true rfl, Nat.le_of_ble_eq_true rfl⟩ (fun H locs hP hD hS => ?_)
  have hP : va_P D vwC (wM g fA wA nA tA rA dA oA cI cZ F Wd Nm Tg (sm_rc Dt Rt us t Rc) Dt Rt 0 ce (nI t) sl go gi) H := hP
  have hD : va_D A (wM g fA wA nA tA rA dA oA cI cZ F Wd Nm Tg (sm_rc Dt Rt us t Rc) Dt Rt 0 ce (nI t) sl go gi) := hD
  refine lv_istore_n (lv' := [(1, .int (nI (sr_kp (sr_mm (sm_rc Dt Rt us t Rc)) 1 us).length)), (0, .ref g)]) hx hb dM_slide_9 rfl hl (by decide) rfl (fun ls hl => ?_)
  refine lv_aload_n hx hb dM_slide_10 rfl (lv_at hl 1 rfl) ?_
  refine sy_cVi (wc := wM g fA wA nA tA rA dA oA cI cZ F Wd Nm Tg (sm_rc Dt Rt us t Rc) Dt Rt 0 ce (nI t) sl go gi) (wr := []) (w1 := wM g fA wA nA tA rA dA oA cI cZ F Wd Nm Tg (sm_rc Dt Rt us t Rc) Dt Rt 0 ce (nI t) sl go gi) (ci := 1) (q0 := 0) (As := []) (rest := []) ⟨hx, hb, hml, hown, hbg⟩ (ct_M_objects l D g fA wA nA tA rA dA oA cI cZ F Wd Nm Tg (sm_rc Dt Rt us t Rc) Dt Rt 0 ce sl go gi H.size us t hst h5) (cwV 0 hbg (bg_V bw_397 bw_398 bw_31 bw_35 bw_399) rfl rfl rfl (by decide +kernel) ⟨Nat.le_of_ble_eq_true rfl, Nat.le_of_ble_eq_true rfl⟩) hK [0, 1] rfl hP hD hS hA [0, 1, 2, 3, 4, 5, 6, 7] [] rfl rfl rfl rfl (by decide) rfl rfl rfl hl.1 rfl (Nat.le_of_ble_eq_true rfl) dM_slide_11 ⟨Nat.le_of_ble_eq_true rfl, Nat.le_of_ble_eq_true rfl⟩ (fun H locs hP hD hS => ?_)
  have hP : va_P D vwC (wM g fA wA nA tA rA dA oA cI cZ F Wd Nm Tg (sm_rc Dt Rt us t Rc) Dt Rt 0 ce (nI t) sl go gi) H := hP
  have hD : va_D A (wM g fA wA nA tA rA dA oA cI cZ F Wd Nm Tg (sm_rc Dt Rt us t Rc) Dt Rt 0 ce (nI t) sl go gi) := hD
  refine lv_istore_n (lv' := [(2, .int (nI us.length)), (1, .int (nI (sr_kp (sr_mm (sm_rc Dt Rt us t Rc)) 1 us).length)), (0, .ref g)]) hx hb dM_slide_14 rfl hl (by decide) rfl (fun ls hl => ?_)
  refine lv_iconst (v := 1) hx hb dM_slide_15 (by decide) ?_
  refine lv_istore_n (lv' := [(3, .int 1), (2, .int (nI us.length)), (1, .int (nI (sr_kp (sr_mm (sm_rc Dt Rt us t Rc)) 1 us).length)), (0, .ref g)]) hx hb dM_slide_16 rfl hl (by decide) rfl (fun ls hl => ?_)
  refine lv_iconst (v := 1) hx hb dM_slide_17 (by decide) ?_
  refine lv_istore (lv' := [(4, .int 1), (3, .int 1), (2, .int (nI us.length)), (1, .int (nI (sr_kp (sr_mm (sm_rc Dt Rt us t Rc)) 1 us).length)), (0, .ref g)]) hx hb dM_slide_18 hl (by decide) rfl (fun ls hl => ?_)
  refine lp_M_slide1 hx hb hml hown hbg hK hA h5 us 1 1 Tg _ _ _ hst hP hD hS (lv_sub hl [4, 3, 2, 1, 0] rfl) ?_
  intro H locs ls hP hD hS hl
  refine lv_aload_n hx hb dM_slide_74 rfl (lv_at hl 0 rfl) ?_
  refine va_get (D := D) (ci := 1) (v := .ref tA) (C := RM) (T := TM) (N := 13) hx hb hbg bg_M hown hK hP 0 rfl rfl 6 (by decide) (hbg _ bw_315) (fun _ h9 => h9) rfl dM_slide_75 ?_
  refine lv_iconst (v := 0) hx hb dM_slide_78 (by decide) ?_
  refine lv_iconst (v := 0) hx hb dM_slide_79 (by decide) ?_
  refine sy_iast (j := 0) hx hb hK hP hD hS 4 0 rfl rfl (by omega) (by omega) dM_slide_80 (fun H locs hP hD hS => ?_)
  have hP : va_P D vwC (wM g fA wA nA tA rA dA oA cI cZ F Wd Nm (upd (sr_tg (sm_rc Dt Rt us t Rc) 1 1 us Tg) 0 0) (sm_rc Dt Rt us t Rc) Dt Rt 0 ce (nI t) sl go gi) H := hP
  have hD : va_D A (wM g fA wA nA tA rA dA oA cI cZ F Wd Nm (upd (sr_tg (sm_rc Dt Rt us t Rc) 1 1 us Tg) 0 0) (sm_rc Dt Rt us t Rc) Dt Rt 0 ce (nI t) sl go gi) := hD
  refine lv_iconst (v := 0) hx hb dM_slide_81 (by decide) ?_
  refine lv_istore (lv' := [(4, .int 0), (0, .ref g), (1, .int (nI (sr_kp (sr_mm (sm_rc Dt Rt us t Rc)) 1 us).length)), (2, .int (nI us.length)), (3, .int (nI (1 + sr_tot (sr_kp (sr_mm (sm_rc Dt Rt us t Rc)) 1 us))))]) hx hb dM_slide_82 hl (by decide) rfl (fun ls hl => ?_)
  refine lp_M_slide2 hx hb hml hown hbg hK hA  16 0 Rt _ _ _ ⟨rfl, fun r1 _ h2 => hR r1 h2⟩ hP hD hS (lv_sub hl [1, 2, 3, 4, 0] rfl) ?_
  intro H locs ls hP hD hS hl
  refine lv_iconst (v := 1) hx hb dM_slide_116 (by decide) ?_
  refine lv_istore (lv' := [(4, .int 1), (0, .ref g), (1, .int (nI (sr_kp (sr_mm (sm_rc Dt Rt us t Rc)) 1 us).length)), (2, .int (nI us.length)), (3, .int (nI (1 + sr_tot (sr_kp (sr_mm (sm_rc Dt Rt us t Rc)) 1 us))))]) hx hb dM_slide_117 hl (by decide) rfl (fun ls hl => ?_)
  refine lp_M_slide4 hx hb hml hown hbg hK hA h5 us 1 Dt _ _ _ ⟨hst.1, hst.2, hV⟩ hP hD hS (lv_sub hl [1, 2, 3, 4, 0] rfl) ?_
  intro H locs ls hP hD hS hl
  refine lv_iconst (v := 1) hx hb dM_slide_204 (by decide) ?_
  refine lv_istore (lv' := [(4, .int 1), (0, .ref g), (1, .int (nI (sr_kp (sr_mm (sm_rc Dt Rt us t Rc)) 1 us).length)), (2, .int (nI us.length)), (3, .int (nI (1 + sr_tot (sr_kp (sr_mm (sm_rc Dt Rt us t Rc)) 1 us))))]) hx hb dM_slide_205 hl (by decide) rfl (fun ls hl => ?_)
  have htg : ∀ q1 o1, sr_ob 1 us q1 o1 → ∃ b, (upd (sr_tg (sm_rc Dt Rt us t Rc) 1 1 us Tg) 0 0) q1 = nI b ∧ b ≤ q1 := fun q1 o1 h1 => by
    obtain ⟨b, e1, -, e3⟩ := (sm_tgb (rc := sm_rc Dt Rt us t Rc) us 1 1 Tg (Nat.le_refl _)).1 q1 o1 h1
    exact ⟨b, by rw [pk_un (by have := (sr_ob_bd _ _ _ _ h1).1; omega)]; exact e1, e3⟩
  refine lp_M_slide5 hx hb hml hown hbg hK hA h5 us 1 F Wd Nm (sr_do (sm_rc Dt Rt us t Rc) (upd (sr_tg (sm_rc Dt Rt us t Rc) 1 1 us Tg) 0 0) 1 us Dt) _ _ _ ⟨hst.1, hst.2, htg⟩ hP hD hS (lv_sub hl [1, 2, 3, 4, 0] rfl) ?_
  intro H locs ls hP hD hS hl
  refine lv_aload_n hx hb dM_slide_279 rfl (lv_at hl 0 rfl) ?_
  refine lv_iload_n hx hb dM_slide_280 rfl (lv_at hl 3 rfl) ?_
  refine va_put (D := D) (ci := 1) (v := .int (nI (1 + sr_tot (sr_kp (sr_mm (sm_rc Dt Rt us t Rc)) 1 us)))) (ty := .int) (C := RM) (T := TM) (N := 13) hx hb hbg bg_M tM tM_ok nM hown hK hP hD hS 0 rfl rfl 2 (by decide) (hbg _ bw_311) (fun _ h9 => h9) rfl (by decide +kernel) rfl rfl (Nat.le_of_ble_eq_true rfl) dM_slide_281 (fun H locs hP hD hS => ?_)
  have hP : va_P D vwC (wM g fA wA nA tA rA dA oA cI cZ ((sr_bl (sm_rc Dt Rt us t Rc) (upd (sr_tg (sm_rc Dt Rt us t Rc) 1 1 us Tg) 0 0) 1 us (F, Wd, Nm, sr_do (sm_rc Dt Rt us t Rc) (upd (sr_tg (sm_rc Dt Rt us t Rc) 1 1 us Tg) 0 0) 1 us Dt)).1) ((sr_bl (sm_rc Dt Rt us t Rc) (upd (sr_tg (sm_rc Dt Rt us t Rc) 1 1 us Tg) 0 0) 1 us (F, Wd, Nm, sr_do (sm_rc Dt Rt us t Rc) (upd (sr_tg (sm_rc Dt Rt us t Rc) 1 1 us Tg) 0 0) 1 us Dt)).2.1) ((sr_bl (sm_rc Dt Rt us t Rc) (upd (sr_tg (sm_rc Dt Rt us t Rc) 1 1 us Tg) 0 0) 1 us (F, Wd, Nm, sr_do (sm_rc Dt Rt us t Rc) (upd (sr_tg (sm_rc Dt Rt us t Rc) 1 1 us Tg) 0 0) 1 us Dt)).2.2.1) (upd (sr_tg (sm_rc Dt Rt us t Rc) 1 1 us Tg) 0 0) (sm_rc Dt Rt us t Rc) ((sr_bl (sm_rc Dt Rt us t Rc) (upd (sr_tg (sm_rc Dt Rt us t Rc) 1 1 us Tg) 0 0) 1 us (F, Wd, Nm, sr_do (sm_rc Dt Rt us t Rc) (upd (sr_tg (sm_rc Dt Rt us t Rc) 1 1 us Tg) 0 0) 1 us Dt)).2.2.2) (sm_rt (upd (sr_tg (sm_rc Dt Rt us t Rc) 1 1 us Tg) 0 0) 16 0 Rt) 0 ce (nI (1 + sr_tot (sr_kp (sr_mm (sm_rc Dt Rt us t Rc)) 1 us))) sl go gi) H := hP
  have hD : va_D A (wM g fA wA nA tA rA dA oA cI cZ ((sr_bl (sm_rc Dt Rt us t Rc) (upd (sr_tg (sm_rc Dt Rt us t Rc) 1 1 us Tg) 0 0) 1 us (F, Wd, Nm, sr_do (sm_rc Dt Rt us t Rc) (upd (sr_tg (sm_rc Dt Rt us t Rc) 1 1 us Tg) 0 0) 1 us Dt)).1) ((sr_bl (sm_rc Dt Rt us t Rc) (upd (sr_tg (sm_rc Dt Rt us t Rc) 1 1 us Tg) 0 0) 1 us (F, Wd, Nm, sr_do (sm_rc Dt Rt us t Rc) (upd (sr_tg (sm_rc Dt Rt us t Rc) 1 1 us Tg) 0 0) 1 us Dt)).2.1) ((sr_bl (sm_rc Dt Rt us t Rc) (upd (sr_tg (sm_rc Dt Rt us t Rc) 1 1 us Tg) 0 0) 1 us (F, Wd, Nm, sr_do (sm_rc Dt Rt us t Rc) (upd (sr_tg (sm_rc Dt Rt us t Rc) 1 1 us Tg) 0 0) 1 us Dt)).2.2.1) (upd (sr_tg (sm_rc Dt Rt us t Rc) 1 1 us Tg) 0 0) (sm_rc Dt Rt us t Rc) ((sr_bl (sm_rc Dt Rt us t Rc) (upd (sr_tg (sm_rc Dt Rt us t Rc) 1 1 us Tg) 0 0) 1 us (F, Wd, Nm, sr_do (sm_rc Dt Rt us t Rc) (upd (sr_tg (sm_rc Dt Rt us t Rc) 1 1 us Tg) 0 0) 1 us Dt)).2.2.2) (sm_rt (upd (sr_tg (sm_rc Dt Rt us t Rc) 1 1 us Tg) 0 0) 16 0 Rt) 0 ce (nI (1 + sr_tot (sr_kp (sr_mm (sm_rc Dt Rt us t Rc)) 1 us))) sl go gi) := hD
  refine lv_aload_n hx hb dM_slide_284 rfl (lv_at hl 0 rfl) ?_
  refine lv_dup hx hb dM_slide_285 rfl ?_
  refine va_get (D := D) (ci := 1) (v := .int sl) (C := RM) (T := TM) (N := 13) hx hb hbg bg_M hown hK hP 0 rfl rfl 10 (by decide) (hbg _ bw_319) (fun _ h9 => h9) rfl dM_slide_286 ?_
  refine lv_iconst (v := 1) hx hb dM_slide_289 (by decide) ?_
  refine lv_iadd hx hb dM_slide_290 ?_
  refine va_put (D := D) (ci := 1) (v := .int (sl + 1)) (ty := .int) (C := RM) (T := TM) (N := 13) hx hb hbg bg_M tM tM_ok nM hown hK hP hD hS 0 rfl rfl 10 (by decide) (hbg _ bw_319) (fun _ h9 => h9) rfl (by decide +kernel) rfl rfl (Nat.le_of_ble_eq_true rfl) dM_slide_291 (fun H locs hP hD hS => ?_)
  have hP : va_P D vwC (wM g fA wA nA tA rA dA oA cI cZ ((sr_bl (sm_rc Dt Rt us t Rc) (upd (sr_tg (sm_rc Dt Rt us t Rc) 1 1 us Tg) 0 0) 1 us (F, Wd, Nm, sr_do (sm_rc Dt Rt us t Rc) (upd (sr_tg (sm_rc Dt Rt us t Rc) 1 1 us Tg) 0 0) 1 us Dt)).1) ((sr_bl (sm_rc Dt Rt us t Rc) (upd (sr_tg (sm_rc Dt Rt us t Rc) 1 1 us Tg) 0 0) 1 us (F, Wd, Nm, sr_do (sm_rc Dt Rt us t Rc) (upd (sr_tg (sm_rc Dt Rt us t Rc) 1 1 us Tg) 0 0) 1 us Dt)).2.1) ((sr_bl (sm_rc Dt Rt us t Rc) (upd (sr_tg (sm_rc Dt Rt us t Rc) 1 1 us Tg) 0 0) 1 us (F, Wd, Nm, sr_do (sm_rc Dt Rt us t Rc) (upd (sr_tg (sm_rc Dt Rt us t Rc) 1 1 us Tg) 0 0) 1 us Dt)).2.2.1) (upd (sr_tg (sm_rc Dt Rt us t Rc) 1 1 us Tg) 0 0) (sm_rc Dt Rt us t Rc) ((sr_bl (sm_rc Dt Rt us t Rc) (upd (sr_tg (sm_rc Dt Rt us t Rc) 1 1 us Tg) 0 0) 1 us (F, Wd, Nm, sr_do (sm_rc Dt Rt us t Rc) (upd (sr_tg (sm_rc Dt Rt us t Rc) 1 1 us Tg) 0 0) 1 us Dt)).2.2.2) (sm_rt (upd (sr_tg (sm_rc Dt Rt us t Rc) 1 1 us Tg) 0 0) 16 0 Rt) 0 ce (nI (1 + sr_tot (sr_kp (sr_mm (sm_rc Dt Rt us t Rc)) 1 us))) (sl + 1) go gi) H := hP
  have hD : va_D A (wM g fA wA nA tA rA dA oA cI cZ ((sr_bl (sm_rc Dt Rt us t Rc) (upd (sr_tg (sm_rc Dt Rt us t Rc) 1 1 us Tg) 0 0) 1 us (F, Wd, Nm, sr_do (sm_rc Dt Rt us t Rc) (upd (sr_tg (sm_rc Dt Rt us t Rc) 1 1 us Tg) 0 0) 1 us Dt)).1) ((sr_bl (sm_rc Dt Rt us t Rc) (upd (sr_tg (sm_rc Dt Rt us t Rc) 1 1 us Tg) 0 0) 1 us (F, Wd, Nm, sr_do (sm_rc Dt Rt us t Rc) (upd (sr_tg (sm_rc Dt Rt us t Rc) 1 1 us Tg) 0 0) 1 us Dt)).2.1) ((sr_bl (sm_rc Dt Rt us t Rc) (upd (sr_tg (sm_rc Dt Rt us t Rc) 1 1 us Tg) 0 0) 1 us (F, Wd, Nm, sr_do (sm_rc Dt Rt us t Rc) (upd (sr_tg (sm_rc Dt Rt us t Rc) 1 1 us Tg) 0 0) 1 us Dt)).2.2.1) (upd (sr_tg (sm_rc Dt Rt us t Rc) 1 1 us Tg) 0 0) (sm_rc Dt Rt us t Rc) ((sr_bl (sm_rc Dt Rt us t Rc) (upd (sr_tg (sm_rc Dt Rt us t Rc) 1 1 us Tg) 0 0) 1 us (F, Wd, Nm, sr_do (sm_rc Dt Rt us t Rc) (upd (sr_tg (sm_rc Dt Rt us t Rc) 1 1 us Tg) 0 0) 1 us Dt)).2.2.2) (sm_rt (upd (sr_tg (sm_rc Dt Rt us t Rc) 1 1 us Tg) 0 0) 16 0 Rt) 0 ce (nI (1 + sr_tot (sr_kp (sr_mm (sm_rc Dt Rt us t Rc)) 1 us))) (sl + 1) go gi) := hD
  refine lv_aload_n hx hb dM_slide_294 rfl (lv_at hl 0 rfl) ?_
  refine lv_aload_n hx hb dM_slide_295 rfl (lv_at hl 0 rfl) ?_
  refine va_get (D := D) (ci := 1) (v := .int go) (C := RM) (T := TM) (N := 13) hx hb hbg bg_M hown hK hP 0 rfl rfl 11 (by decide) (hbg _ bw_320) (fun _ h9 => h9) rfl dM_slide_296 ?_
  refine lv_iload_n hx hb dM_slide_299 rfl (lv_at hl 2 rfl) ?_
  refine lv_iadd hx hb dM_slide_300 ?_
  refine lv_iload_n hx hb dM_slide_301 rfl (lv_at hl 1 rfl) ?_
  refine lv_isub hx hb dM_slide_302 ?_
  refine va_put (D := D) (ci := 1) (v := .int ((go + (nI us.length)) - (nI (sr_kp (sr_mm (sm_rc Dt Rt us t Rc)) 1 us).length))) (ty := .int) (C := RM) (T := TM) (N := 13) hx hb hbg bg_M tM tM_ok nM hown hK hP hD hS 0 rfl rfl 11 (by decide) (hbg _ bw_320) (fun _ h9 => h9) rfl (by decide +kernel) rfl rfl (Nat.le_of_ble_eq_true rfl) dM_slide_303 (fun H locs hP hD hS => ?_)
  have hP : va_P D vwC (wM g fA wA nA tA rA dA oA cI cZ ((sr_bl (sm_rc Dt Rt us t Rc) (upd (sr_tg (sm_rc Dt Rt us t Rc) 1 1 us Tg) 0 0) 1 us (F, Wd, Nm, sr_do (sm_rc Dt Rt us t Rc) (upd (sr_tg (sm_rc Dt Rt us t Rc) 1 1 us Tg) 0 0) 1 us Dt)).1) ((sr_bl (sm_rc Dt Rt us t Rc) (upd (sr_tg (sm_rc Dt Rt us t Rc) 1 1 us Tg) 0 0) 1 us (F, Wd, Nm, sr_do (sm_rc Dt Rt us t Rc) (upd (sr_tg (sm_rc Dt Rt us t Rc) 1 1 us Tg) 0 0) 1 us Dt)).2.1) ((sr_bl (sm_rc Dt Rt us t Rc) (upd (sr_tg (sm_rc Dt Rt us t Rc) 1 1 us Tg) 0 0) 1 us (F, Wd, Nm, sr_do (sm_rc Dt Rt us t Rc) (upd (sr_tg (sm_rc Dt Rt us t Rc) 1 1 us Tg) 0 0) 1 us Dt)).2.2.1) (upd (sr_tg (sm_rc Dt Rt us t Rc) 1 1 us Tg) 0 0) (sm_rc Dt Rt us t Rc) ((sr_bl (sm_rc Dt Rt us t Rc) (upd (sr_tg (sm_rc Dt Rt us t Rc) 1 1 us Tg) 0 0) 1 us (F, Wd, Nm, sr_do (sm_rc Dt Rt us t Rc) (upd (sr_tg (sm_rc Dt Rt us t Rc) 1 1 us Tg) 0 0) 1 us Dt)).2.2.2) (sm_rt (upd (sr_tg (sm_rc Dt Rt us t Rc) 1 1 us Tg) 0 0) 16 0 Rt) 0 ce (nI (1 + sr_tot (sr_kp (sr_mm (sm_rc Dt Rt us t Rc)) 1 us))) (sl + 1) ((go + (nI us.length)) - (nI (sr_kp (sr_mm (sm_rc Dt Rt us t Rc)) 1 us).length)) gi) H := hP
  have hD : va_D A (wM g fA wA nA tA rA dA oA cI cZ ((sr_bl (sm_rc Dt Rt us t Rc) (upd (sr_tg (sm_rc Dt Rt us t Rc) 1 1 us Tg) 0 0) 1 us (F, Wd, Nm, sr_do (sm_rc Dt Rt us t Rc) (upd (sr_tg (sm_rc Dt Rt us t Rc) 1 1 us Tg) 0 0) 1 us Dt)).1) ((sr_bl (sm_rc Dt Rt us t Rc) (upd (sr_tg (sm_rc Dt Rt us t Rc) 1 1 us Tg) 0 0) 1 us (F, Wd, Nm, sr_do (sm_rc Dt Rt us t Rc) (upd (sr_tg (sm_rc Dt Rt us t Rc) 1 1 us Tg) 0 0) 1 us Dt)).2.1) ((sr_bl (sm_rc Dt Rt us t Rc) (upd (sr_tg (sm_rc Dt Rt us t Rc) 1 1 us Tg) 0 0) 1 us (F, Wd, Nm, sr_do (sm_rc Dt Rt us t Rc) (upd (sr_tg (sm_rc Dt Rt us t Rc) 1 1 us Tg) 0 0) 1 us Dt)).2.2.1) (upd (sr_tg (sm_rc Dt Rt us t Rc) 1 1 us Tg) 0 0) (sm_rc Dt Rt us t Rc) ((sr_bl (sm_rc Dt Rt us t Rc) (upd (sr_tg (sm_rc Dt Rt us t Rc) 1 1 us Tg) 0 0) 1 us (F, Wd, Nm, sr_do (sm_rc Dt Rt us t Rc) (upd (sr_tg (sm_rc Dt Rt us t Rc) 1 1 us Tg) 0 0) 1 us Dt)).2.2.2) (sm_rt (upd (sr_tg (sm_rc Dt Rt us t Rc) 1 1 us Tg) 0 0) 16 0 Rt) 0 ce (nI (1 + sr_tot (sr_kp (sr_mm (sm_rc Dt Rt us t Rc)) 1 us))) (sl + 1) ((go + (nI us.length)) - (nI (sr_kp (sr_mm (sm_rc Dt Rt us t Rc)) 1 us).length)) gi) := hD
  refine lv_aload_n hx hb dM_slide_306 rfl (lv_at hl 0 rfl) ?_
  refine va_get (D := D) (ci := 1) (v := .int (nI (1 + sr_tot (sr_kp (sr_mm (sm_rc Dt Rt us t Rc)) 1 us)))) (C := RM) (T := TM) (N := 13) hx hb hbg bg_M hown hK hP 0 rfl rfl 2 (by decide) (hbg _ bw_311) (fun _ h9 => h9) rfl dM_slide_307 ?_
  refine lv_iconst (v := 1) hx hb dM_slide_310 (by decide) ?_
  refine lv_isub hx hb dM_slide_311 ?_
  refine W.widen (k := 0) (n := 0) (Nat.le_of_ble_eq_true rfl) (Nat.le_of_ble_eq_true rfl) ?_
  exact W.iret (v := (nI (1 + sr_tot (sr_kp (sr_mm (sm_rc Dt Rt us t Rc)) 1 us))) - 1) hx hb hr (fun t9 ht hW => ⟨⟨(nI (1 + sr_tot (sr_kp (sr_mm (sm_rc Dt Rt us t Rc)) 1 us))) - 1, (), rfl, rfl, by rw [ht]; exact hP, va_K.moved hW.alike hK, hD⟩, hS.F ht⟩) hS.2.2 dM_slide_312

end MS
