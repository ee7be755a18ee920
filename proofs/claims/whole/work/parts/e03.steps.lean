/-! ONE CALL, BOTH SIDES: what the wrapper and the model answer, and the state behind them (rows laid by wip/gen) -/
theorem sy_cast {l : Launch} {y : MethodName} {wds : List Cond} {rm : Room} {D : va_G} {cl : List vw_C} {tys : List (ClassId × FieldType)} {av : List Value} {ws : va_W} {sz : Nat} {r r' : Int32} {w1 w1' : va_W} {mc ms : Nat} (h : sy_Mi l y wds rm D cl tys av ws sz r w1 mc ms) (e1 : r = r') (e2 : w1 = w1') : sy_Mi l y wds rm D cl tys av ws sz r' w1' mc ms := by
  subst e1; subst e2; exact h
section Steps
variable {l : Launch} {D : va_G} {h rr cc g fA wA nA tA rA dA oA oo : Nat} {cI cZ cJ : ClassId} {os : List sr_O} {L N : Nat} {R C F Wd Nm Tg Rc Dt Rt : Nat → Int32} {sl go gi fr la re th : Int32} {O : Nat → Int64}

set_option maxHeartbeats 1000000 in
theorem st_get (hst : l.stackTraces = false) (hF : sg_F os L N R C F Wd Nm Dt Rt) (a f : Int32) : ∃ (k r : Int32) (w1 w2 : va_W) (O' : Nat → Int64),
    (∀ sz, sy_Mg l yL_get (Cond.codeWith yL_get bL_get 5 (some .int) [(0, 10, 13, 23)] :: sr_big) { frames := 9, cells := 1, slots := 6, locals := 155 } D vwC [(cI, .int), (cJ, .long)] [.ref h, .int a, .int f, .ref oo] ([(oo, .inl (cJ, 1, .inr (.inl O)))] ++ wX h rr cc cI N R C (nI L) (nI (sr_tot os)) (nI os.length) sl go gi fr la re) sz k (fun _ => [(oo, .inl (cJ, 1, .inr (.inl O')))] ++ w1) 1 6) ∧
    (∀ sz, sy_Mi l yM_get (Cond.code yM_get bM_get 3 (some .int) :: sr_big) { frames := 2, cells := 0, slots := 0, locals := 43 } D vwC [(cI, .int), (cZ, .boolean)] [.ref g, .int a, .int f] (wM g fA wA nA tA rA dA oA cI cZ F Wd Nm Tg Rc Dt Rt th (nI L) (nI (1 + sr_tot os)) sl go gi) sz r w2 0 0) ∧ sg_W h rr g fA wA nA tA rA dA oA cI cZ k N w1 w2 ∧ (k = 1 ∨ (k = 0 ∧ O' 0 = r.toInt64)) := by
  obtain ⟨hN, hb, h5, hti, -⟩ := sg_b hF
  rcases sg_dec hF a with ⟨p, o, ho, rfl, x1, m1⟩ | ⟨x0, m0, -⟩ | ⟨-, x0, m0⟩
  · have ha : vp_in (nI p) 16386 := by have := sg_bd hF ho; exact vp_in_nI (by omega) (by omega)
    rcases sg_fd hF ho f with ⟨i, hi, rfl, hf, f1, f2⟩ | ⟨hbad, hf⟩
    · refine ⟨0, _, _, _, _, fun sz => wk_get l D h rr cc cI N R C (nI L) (nI (sr_tot os)) (nI os.length) sl go gi fr la re sz oo cJ O _ _ _ _ (fun sz => sy_cast (ct_X_get_k l D h rr cc cI N R C (nI L) (nI (sr_tot os)) (nI os.length) sl go gi fr la re sz _ _ hN x1 f1 f2) (show _ = o.2.2.2 i from by rw [sg_fx p i, sg_rd hF ho (by omega)]) rfl), fun sz => sy_cast (ct_M_get_k l D g fA wA nA tA rA dA oA cI cZ F Wd Nm Tg Rc Dt Rt th (nI L) (nI (1 + sr_tot os)) sl go gi sz _ _ hti hf (by rw [sg_fx p i]; exact sg_vi hF ho (by omega))) (show _ = o.2.2.2 i from by rw [sg_fx p i, sg_dt hF ho (by omega)]) rfl, sg_mk hF, Or.inr ⟨rfl, rfl⟩⟩
    · exact ⟨1, 0, _, _, O, fun sz => wb_get l D h rr cc cI N R C (nI L) (nI (sr_tot os)) (nI os.length) sl go gi fr la re sz oo cJ O _ _ (fun sz => ct_X_get_b l D h rr cc cI N R C (nI L) (nI (sr_tot os)) (nI os.length) sl go gi fr la re sz _ _ hN hst (Or.inr ⟨x1, hbad⟩)), fun sz => ct_M_get_b l D g fA wA nA tA rA dA oA cI cZ F Wd Nm Tg Rc Dt Rt th (nI L) (nI (1 + sr_tot os)) sl go gi sz _ _ hti hf, sg_mk hF, Or.inl rfl⟩
  · exact ⟨1, 0, _, _, O, fun sz => wb_get l D h rr cc cI N R C (nI L) (nI (sr_tot os)) (nI os.length) sl go gi fr la re sz oo cJ O _ _ (fun sz => ct_X_get_b l D h rr cc cI N R C (nI L) (nI (sr_tot os)) (nI os.length) sl go gi fr la re sz _ _ hN hst (Or.inl x0)), fun sz => ct_M_get_b l D g fA wA nA tA rA dA oA cI cZ F Wd Nm Tg Rc Dt Rt th (nI L) (nI (1 + sr_tot os)) sl go gi sz _ _ hti (sg_iF0 m0), sg_mk hF, Or.inl rfl⟩
  · exact ⟨1, 0, _, _, O, fun sz => wb_get l D h rr cc cI N R C (nI L) (nI (sr_tot os)) (nI os.length) sl go gi fr la re sz oo cJ O _ _ (fun sz => ct_X_get_b l D h rr cc cI N R C (nI L) (nI (sr_tot os)) (nI os.length) sl go gi fr la re sz _ _ hN hst (Or.inl x0)), fun sz => ct_M_get_b l D g fA wA nA tA rA dA oA cI cZ F Wd Nm Tg Rc Dt Rt th (nI L) (nI (1 + sr_tot os)) sl go gi sz _ _ hti (sg_iF0 m0), sg_mk hF, Or.inl rfl⟩

set_option maxHeartbeats 1000000 in
theorem st_word (hst : l.stackTraces = false) (hF : sg_F os L N R C F Wd Nm Dt Rt) (a f : Int32) : ∃ (k r : Int32) (w1 w2 : va_W) (O' : Nat → Int64),
    (∀ sz, sy_Mg l yL_word (Cond.codeWith yL_word bL_word 5 (some .int) [(0, 10, 13, 23)] :: sr_big) { frames := 9, cells := 1, slots := 6, locals := 155 } D vwC [(cI, .int), (cJ, .long)] [.ref h, .int a, .int f, .ref oo] ([(oo, .inl (cJ, 1, .inr (.inl O)))] ++ wX h rr cc cI N R C (nI L) (nI (sr_tot os)) (nI os.length) sl go gi fr la re) sz k (fun _ => [(oo, .inl (cJ, 1, .inr (.inl O')))] ++ w1) 1 6) ∧
    (∀ sz, sy_Mi l yM_word (Cond.code yM_word bM_word 3 (some .int) :: sr_big) { frames := 2, cells := 0, slots := 0, locals := 43 } D vwC [(cI, .int), (cZ, .boolean)] [.ref g, .int a, .int f] (wM g fA wA nA tA rA dA oA cI cZ F Wd Nm Tg Rc Dt Rt th (nI L) (nI (1 + sr_tot os)) sl go gi) sz r w2 0 0) ∧ sg_W h rr g fA wA nA tA rA dA oA cI cZ k N w1 w2 ∧ (k = 1 ∨ (k = 0 ∧ O' 0 = r.toInt64)) := by
  obtain ⟨hN, hb, h5, hti, -⟩ := sg_b hF
  rcases sg_dec hF a with ⟨p, o, ho, rfl, x1, m1⟩ | ⟨x0, m0, -⟩ | ⟨-, x0, m0⟩
  · have ha : vp_in (nI p) 16386 := by have := sg_bd hF ho; exact vp_in_nI (by omega) (by omega)
    rcases sg_wd hF ho f with ⟨i, hi, rfl, hf, f1, f2⟩ | ⟨hbad, hf⟩
    · refine ⟨0, _, _, _, _, fun sz => wk_word l D h rr cc cI N R C (nI L) (nI (sr_tot os)) (nI os.length) sl go gi fr la re sz oo cJ O _ _ _ _ (fun sz => sy_cast (ct_X_word_k l D h rr cc cI N R C (nI L) (nI (sr_tot os)) (nI os.length) sl go gi fr la re sz _ _ hN x1 f1 f2) (show _ = o.2.2.2 (o.1 + i) from by rw [sg_wx hF ho i, sg_rd hF ho (by omega)]) rfl), fun sz => sy_cast (ct_M_word_k l D g fA wA nA tA rA dA oA cI cZ F Wd Nm Tg Rc Dt Rt th (nI L) (nI (1 + sr_tot os)) sl go gi sz _ _ hti hf ha (by rw [sg_wm hF ho i]; exact sg_vi hF ho (by omega))) (show _ = o.2.2.2 (o.1 + i) from by rw [sg_wm hF ho i, sg_dt hF ho (by omega)]) rfl, sg_mk hF, Or.inr ⟨rfl, rfl⟩⟩
    · exact ⟨1, 0, _, _, O, fun sz => wb_word l D h rr cc cI N R C (nI L) (nI (sr_tot os)) (nI os.length) sl go gi fr la re sz oo cJ O _ _ (fun sz => ct_X_word_b l D h rr cc cI N R C (nI L) (nI (sr_tot os)) (nI os.length) sl go gi fr la re sz _ _ hN hst (Or.inr ⟨x1, hbad⟩)), fun sz => ct_M_word_b l D g fA wA nA tA rA dA oA cI cZ F Wd Nm Tg Rc Dt Rt th (nI L) (nI (1 + sr_tot os)) sl go gi sz _ _ hti hf, sg_mk hF, Or.inl rfl⟩
  · exact ⟨1, 0, _, _, O, fun sz => wb_word l D h rr cc cI N R C (nI L) (nI (sr_tot os)) (nI os.length) sl go gi fr la re sz oo cJ O _ _ (fun sz => ct_X_word_b l D h rr cc cI N R C (nI L) (nI (sr_tot os)) (nI os.length) sl go gi fr la re sz _ _ hN hst (Or.inl x0)), fun sz => ct_M_word_b l D g fA wA nA tA rA dA oA cI cZ F Wd Nm Tg Rc Dt Rt th (nI L) (nI (1 + sr_tot os)) sl go gi sz _ _ hti (sg_iW0 m0), sg_mk hF, Or.inl rfl⟩
  · exact ⟨1, 0, _, _, O, fun sz => wb_word l D h rr cc cI N R C (nI L) (nI (sr_tot os)) (nI os.length) sl go gi fr la re sz oo cJ O _ _ (fun sz => ct_X_word_b l D h rr cc cI N R C (nI L) (nI (sr_tot os)) (nI os.length) sl go gi fr la re sz _ _ hN hst (Or.inl x0)), fun sz => ct_M_word_b l D g fA wA nA tA rA dA oA cI cZ F Wd Nm Tg Rc Dt Rt th (nI L) (nI (1 + sr_tot os)) sl go gi sz _ _ hti (sg_iW0 m0), sg_mk hF, Or.inl rfl⟩

set_option maxHeartbeats 1000000 in
theorem st_put (hst : l.stackTraces = false) (hF : sg_F os L N R C F Wd Nm Dt Rt) (a f v : Int32) : ∃ (k r : Int32) (w1 w2 : va_W) (O' : Nat → Int64),
    (∀ sz, sy_Mg l yL_put (Cond.codeWith yL_put bL_put 6 (some .int) [(0, 12, 15, 23)] :: sr_big) { frames := 9, cells := 1, slots := 6, locals := 156 } D vwC [(cI, .int), (cJ, .long)] [.ref h, .int a, .int f, .int v, .ref oo] ([(oo, .inl (cJ, 1, .inr (.inl O)))] ++ wX h rr cc cI N R C (nI L) (nI (sr_tot os)) (nI os.length) sl go gi fr la re) sz k (fun _ => [(oo, .inl (cJ, 1, .inr (.inl O')))] ++ w1) 1 6) ∧
    (∀ sz, sy_Mi l yM_put (Cond.code yM_put bM_put 6 (some .int) :: sr_big) { frames := 2, cells := 0, slots := 0, locals := 43 } D vwC [(cI, .int), (cZ, .boolean)] [.ref g, .int a, .int f, .int v] (wM g fA wA nA tA rA dA oA cI cZ F Wd Nm Tg Rc Dt Rt th (nI L) (nI (1 + sr_tot os)) sl go gi) sz r w2 0 0) ∧ sg_W h rr g fA wA nA tA rA dA oA cI cZ k N w1 w2 ∧ (k = 1 ∨ (k = 0 ∧ O' 0 = r.toInt64)) := by
  obtain ⟨hN, hb, h5, hti, -⟩ := sg_b hF
  rcases sg_dec hF a with ⟨p, o, ho, rfl, x1, m1⟩ | ⟨x0, m0, -⟩ | ⟨-, x0, m0⟩
  · have ha : vp_in (nI p) 16386 := by have := sg_bd hF ho; exact vp_in_nI (by omega) (by omega)
    rcases sg_wd hF ho f with ⟨i, hi, rfl, hf, f1, f2⟩ | ⟨hbad, hf⟩
    · have hx := sg_wx hF ho i
      have hm := sg_wm hF ho i
      have hb2 := sg_bd hF ho
      refine ⟨0, _, _, _, _, fun sz => wk_put l D h rr cc cI N R C (nI L) (nI (sr_tot os)) (nI os.length) sl go gi fr la re sz oo cJ O _ _ _ _ _ (fun sz => sy_cast (ct_X_put_k l D h rr cc cI N R C (nI L) (nI (sr_tot os)) (nI os.length) sl go gi fr la re sz _ _ _ hN x1 f1 f2) (show _ = o.2.2.2 (o.1 + i) from by rw [hx, sg_rd hF ho (by omega)]) (show _ = wX h rr cc cI N R (upd C (p + 3 + (o.1 + i)) v) (nI L) (nI (sr_tot os)) (nI os.length) sl go gi fr la re from by rw [hx, sg_wr hF ho (by omega)])), fun sz => sy_cast (ct_M_put_k l D g fA wA nA tA rA dA oA cI cZ F Wd Nm Tg Rc Dt Rt th (nI L) (nI (1 + sr_tot os)) sl go gi sz _ _ _ hti hf ha (by rw [hm]; exact sg_vi hF ho (by omega))) (show _ = o.2.2.2 (o.1 + i) from by rw [hm, sg_dt hF ho (by omega)]) (show _ = wM g fA wA nA tA rA dA oA cI cZ F Wd Nm Tg Rc (upd Dt (p + 3 + (o.1 + i)) v) Rt 0 (nI L) (nI (1 + sr_tot os)) sl go gi from by rw [hm, nI_clamp (by omega)]), sg_mk2 (sg_gs hF ho (by omega) (fun z => absurd z (by omega))) (sr_up_tot (sr_gs_sh _ _) os 1 p) (sr_up_len os 1 p), Or.inr ⟨rfl, rfl⟩⟩
    · exact ⟨1, 0, _, _, O, fun sz => wb_put l D h rr cc cI N R C (nI L) (nI (sr_tot os)) (nI os.length) sl go gi fr la re sz oo cJ O _ _ _ (fun sz => ct_X_put_b l D h rr cc cI N R C (nI L) (nI (sr_tot os)) (nI os.length) sl go gi fr la re sz _ _ _ hN hst (Or.inr ⟨x1, hbad⟩)), fun sz => ct_M_put_b l D g fA wA nA tA rA dA oA cI cZ F Wd Nm Tg Rc Dt Rt th (nI L) (nI (1 + sr_tot os)) sl go gi sz _ _ _ hti hf, sg_mk hF, Or.inl rfl⟩
  · exact ⟨1, 0, _, _, O, fun sz => wb_put l D h rr cc cI N R C (nI L) (nI (sr_tot os)) (nI os.length) sl go gi fr la re sz oo cJ O _ _ _ (fun sz => ct_X_put_b l D h rr cc cI N R C (nI L) (nI (sr_tot os)) (nI os.length) sl go gi fr la re sz _ _ _ hN hst (Or.inl x0)), fun sz => ct_M_put_b l D g fA wA nA tA rA dA oA cI cZ F Wd Nm Tg Rc Dt Rt th (nI L) (nI (1 + sr_tot os)) sl go gi sz _ _ _ hti (sg_iW0 m0), sg_mk hF, Or.inl rfl⟩
  · exact ⟨1, 0, _, _, O, fun sz => wb_put l D h rr cc cI N R C (nI L) (nI (sr_tot os)) (nI os.length) sl go gi fr la re sz oo cJ O _ _ _ (fun sz => ct_X_put_b l D h rr cc cI N R C (nI L) (nI (sr_tot os)) (nI os.length) sl go gi fr la re sz _ _ _ hN hst (Or.inl x0)), fun sz => ct_M_put_b l D g fA wA nA tA rA dA oA cI cZ F Wd Nm Tg Rc Dt Rt th (nI L) (nI (1 + sr_tot os)) sl go gi sz _ _ _ hti (sg_iW0 m0), sg_mk hF, Or.inl rfl⟩

set_option maxHeartbeats 1000000 in
theorem st_set (hst : l.stackTraces = false) (hF : sg_F os L N R C F Wd Nm Dt Rt) (a f b : Int32) : ∃ (k r : Int32) (w1 w2 : va_W) (O' : Nat → Int64),
    (∀ sz, sy_Mg l yL_set (Cond.codeWith yL_set bL_set 6 (some .int) [(0, 12, 15, 23)] :: sr_big) { frames := 9, cells := 1, slots := 6, locals := 157 } D vwC [(cI, .int), (cJ, .long)] [.ref h, .int a, .int f, .int b, .ref oo] ([(oo, .inl (cJ, 1, .inr (.inl O)))] ++ wX h rr cc cI N R C (nI L) (nI (sr_tot os)) (nI os.length) sl go gi fr la re) sz k (fun _ => [(oo, .inl (cJ, 1, .inr (.inl O')))] ++ w1) 1 6) ∧
    (∀ sz, sy_Mi l yM_set (Cond.code yM_set bM_set 5 (some .int) :: sr_big) { frames := 2, cells := 0, slots := 0, locals := 43 } D vwC [(cI, .int), (cZ, .boolean)] [.ref g, .int a, .int f, .int b] (wM g fA wA nA tA rA dA oA cI cZ F Wd Nm Tg Rc Dt Rt th (nI L) (nI (1 + sr_tot os)) sl go gi) sz r w2 0 0) ∧ sg_W h rr g fA wA nA tA rA dA oA cI cZ k N w1 w2 ∧ (k = 1 ∨ (k = 0 ∧ O' 0 = r.toInt64)) := by
  obtain ⟨hN, hb, h5, hti, -⟩ := sg_b hF
  rcases sg_dec hF a with ⟨p, o, ho, rfl, x1, m1⟩ | ⟨x0, m0, -⟩ | ⟨-, x0, m0⟩
  · rcases sg_fd hF ho f with ⟨i, hi, rfl, hf, f1, f2⟩ | ⟨hbad, hf⟩
    · have hb2 := sg_bd hF ho
      rcases sg_dec hF b with ⟨p2, o2, ho2, hb3, x2, m2⟩ | ⟨x2, m2, hb0⟩ | ⟨hb0, -, -⟩
      · refine ⟨0, _, _, _, _, fun sz => wk_set l D h rr cc cI N R C (nI L) (nI (sr_tot os)) (nI os.length) sl go gi fr la re sz oo cJ O _ _ _ _ _ (fun sz => sy_cast (ct_X_set_k l D h rr cc cI N R C (nI L) (nI (sr_tot os)) (nI os.length) sl go gi fr la re sz _ _ _ hN x1 f1 f2 (Or.inr x2)) (show _ = o.2.2.2 i from by rw [sg_fx, sg_rd hF ho (by omega)]) (show _ = wX h rr cc cI N R (upd C (p + 3 + i) b) (nI L) (nI (sr_tot os)) (nI os.length) sl go gi fr la re from by rw [sg_fx, sg_wr hF ho (by omega)])), fun sz => sy_cast (ct_M_set_k l D g fA wA nA tA rA dA oA cI cZ F Wd Nm Tg Rc Dt Rt th (nI L) (nI (1 + sr_tot os)) sl go gi sz _ _ _ hti hf (Or.inr m2) (by rw [sg_fx]; exact sg_vi hF ho (by omega))) (show _ = o.2.2.2 i from by rw [sg_fx, sg_dt hF ho (by omega)]) (show _ = wM g fA wA nA tA rA dA oA cI cZ F Wd Nm Tg Rc (upd Dt (p + 3 + i) b) Rt 0 (nI L) (nI (1 + sr_tot os)) sl go gi from by rw [sg_fx, nI_clamp (by omega)]), sg_mk2 (sg_gs hF ho (by omega) (fun _ => Or.inr ⟨p2, o2, ho2, hb3⟩)) (sr_up_tot (sr_gs_sh _ _) os 1 p) (sr_up_len os 1 p), Or.inr ⟨rfl, rfl⟩⟩
      · exact ⟨1, 0, _, _, O, fun sz => wb_set l D h rr cc cI N R C (nI L) (nI (sr_tot os)) (nI os.length) sl go gi fr la re sz oo cJ O _ _ _ (fun sz => ct_X_set_b2 l D h rr cc cI N R C (nI L) (nI (sr_tot os)) (nI os.length) sl go gi fr la re sz _ _ _ hN hst x1 f1 f2 hb0 x2), fun sz => ct_M_set_b2 l D g fA wA nA tA rA dA oA cI cZ F Wd Nm Tg Rc Dt Rt th (nI L) (nI (1 + sr_tot os)) sl go gi sz _ _ _ hti hf hb0 m2, sg_mk hF, Or.inl rfl⟩
      · refine ⟨0, _, _, _, _, fun sz => wk_set l D h rr cc cI N R C (nI L) (nI (sr_tot os)) (nI os.length) sl go gi fr la re sz oo cJ O _ _ _ _ _ (fun sz => sy_cast (ct_X_set_k l D h rr cc cI N R C (nI L) (nI (sr_tot os)) (nI os.length) sl go gi fr la re sz _ _ _ hN x1 f1 f2 (Or.inl hb0)) (show _ = o.2.2.2 i from by rw [sg_fx, sg_rd hF ho (by omega)]) (show _ = wX h rr cc cI N R (upd C (p + 3 + i) b) (nI L) (nI (sr_tot os)) (nI os.length) sl go gi fr la re from by rw [sg_fx, sg_wr hF ho (by omega)])), fun sz => sy_cast (ct_M_set_k l D g fA wA nA tA rA dA oA cI cZ F Wd Nm Tg Rc Dt Rt th (nI L) (nI (1 + sr_tot os)) sl go gi sz _ _ _ hti hf (Or.inl hb0) (by rw [sg_fx]; exact sg_vi hF ho (by omega))) (show _ = o.2.2.2 i from by rw [sg_fx, sg_dt hF ho (by omega)]) (show _ = wM g fA wA nA tA rA dA oA cI cZ F Wd Nm Tg Rc (upd Dt (p + 3 + i) b) Rt 0 (nI L) (nI (1 + sr_tot os)) sl go gi from by rw [sg_fx, nI_clamp (by omega)]), sg_mk2 (sg_gs hF ho (by omega) (fun _ => Or.inl hb0)) (sr_up_tot (sr_gs_sh _ _) os 1 p) (sr_up_len os 1 p), Or.inr ⟨rfl, rfl⟩⟩
    · exact ⟨1, 0, _, _, O, fun sz => wb_set l D h rr cc cI N R C (nI L) (nI (sr_tot os)) (nI os.length) sl go gi fr la re sz oo cJ O _ _ _ (fun sz => ct_X_set_b1 l D h rr cc cI N R C (nI L) (nI (sr_tot os)) (nI os.length) sl go gi fr la re sz _ _ _ hN hst (Or.inr ⟨x1, hbad⟩)), fun sz => ct_M_set_b1 l D g fA wA nA tA rA dA oA cI cZ F Wd Nm Tg Rc Dt Rt th (nI L) (nI (1 + sr_tot os)) sl go gi sz _ _ _ hti hf, sg_mk hF, Or.inl rfl⟩
  · exact ⟨1, 0, _, _, O, fun sz => wb_set l D h rr cc cI N R C (nI L) (nI (sr_tot os)) (nI os.length) sl go gi fr la re sz oo cJ O _ _ _ (fun sz => ct_X_set_b1 l D h rr cc cI N R C (nI L) (nI (sr_tot os)) (nI os.length) sl go gi fr la re sz _ _ _ hN hst (Or.inl x0)), fun sz => ct_M_set_b1 l D g fA wA nA tA rA dA oA cI cZ F Wd Nm Tg Rc Dt Rt th (nI L) (nI (1 + sr_tot os)) sl go gi sz _ _ _ hti (sg_iF0 m0), sg_mk hF, Or.inl rfl⟩
  · exact ⟨1, 0, _, _, O, fun sz => wb_set l D h rr cc cI N R C (nI L) (nI (sr_tot os)) (nI os.length) sl go gi fr la re sz oo cJ O _ _ _ (fun sz => ct_X_set_b1 l D h rr cc cI N R C (nI L) (nI (sr_tot os)) (nI os.length) sl go gi fr la re sz _ _ _ hN hst (Or.inl x0)), fun sz => ct_M_set_b1 l D g fA wA nA tA rA dA oA cI cZ F Wd Nm Tg Rc Dt Rt th (nI L) (nI (1 + sr_tot os)) sl go gi sz _ _ _ hti (sg_iF0 m0), sg_mk hF, Or.inl rfl⟩

set_option maxHeartbeats 1000000 in
theorem st_rooted (hst : l.stackTraces = false) (hF : sg_F os L N R C F Wd Nm Dt Rt) (x : Int32) : ∃ (k r : Int32) (w1 w2 : va_W) (O' : Nat → Int64),
    (∀ sz, sy_Mg l yL_rooted (Cond.codeWith yL_rooted bL_rooted 4 (some .int) [(0, 9, 12, 23)] :: sr_big) { frames := 8, cells := 1, slots := 6, locals := 132 } D vwC [(cI, .int), (cJ, .long)] [.ref h, .int x, .ref oo] ([(oo, .inl (cJ, 1, .inr (.inl O)))] ++ wX h rr cc cI N R C (nI L) (nI (sr_tot os)) (nI os.length) sl go gi fr la re) sz k (fun _ => [(oo, .inl (cJ, 1, .inr (.inl O')))] ++ w1) 1 6) ∧
    (∀ sz, sy_Mi l yM_rooted (Cond.code yM_rooted bM_rooted 2 (some .int) :: sr_big) { frames := 1, cells := 0, slots := 0, locals := 21 } D vwC [(cI, .int), (cZ, .boolean)] [.ref g, .int x] (wM g fA wA nA tA rA dA oA cI cZ F Wd Nm Tg Rc Dt Rt th (nI L) (nI (1 + sr_tot os)) sl go gi) sz r w2 0 0) ∧ sg_W h rr g fA wA nA tA rA dA oA cI cZ k N w1 w2 ∧ (k = 1 ∨ (k = 0 ∧ O' 0 = r.toInt64)) := by
  obtain ⟨hN, hb, h5, hti, -⟩ := sg_b hF
  rcases sg_rx x with ⟨j, hj, rfl, j1, j2, j3⟩ | ⟨hbad, j3⟩
  · refine ⟨0, _, _, _, _, fun sz => wk_rooted l D h rr cc cI N R C (nI L) (nI (sr_tot os)) (nI os.length) sl go gi fr la re sz oo cJ O _ _ _ (fun sz => sy_cast (ct_X_rooted_k l D h rr cc cI N R C (nI L) (nI (sr_tot os)) (nI os.length) sl go gi fr la re sz _ hN j1 j2) (show _ = R j from by rw [nI_clamp (by omega)]) rfl), fun sz => sy_cast (ct_M_rooted_k l D g fA wA nA tA rA dA oA cI cZ F Wd Nm Tg Rc Dt Rt th (nI L) (nI (1 + sr_tot os)) sl go gi sz _ j3) (show _ = R j from by rw [nI_clamp (by omega), hF.2.2.1 j hj]) rfl, sg_mk hF, Or.inr ⟨rfl, rfl⟩⟩
  · exact ⟨1, 0, _, _, O, fun sz => wb_rooted l D h rr cc cI N R C (nI L) (nI (sr_tot os)) (nI os.length) sl go gi fr la re sz oo cJ O _ (fun sz => ct_X_rooted_b l D h rr cc cI N R C (nI L) (nI (sr_tot os)) (nI os.length) sl go gi fr la re sz _ hN hst hbad), fun sz => ct_M_rooted_b l D g fA wA nA tA rA dA oA cI cZ F Wd Nm Tg Rc Dt Rt th (nI L) (nI (1 + sr_tot os)) sl go gi sz _ j3, sg_mk hF, Or.inl rfl⟩

set_option maxHeartbeats 1000000 in
theorem st_root (hst : l.stackTraces = false) (hF : sg_F os L N R C F Wd Nm Dt Rt) (x a : Int32) : ∃ (k r : Int32) (w1 w2 : va_W) (O' : Nat → Int64),
    (∀ sz, sy_Mg l yL_root (Cond.codeWith yL_root bL_root 5 (some .int) [(0, 10, 13, 23)] :: sr_big) { frames := 9, cells := 1, slots := 6, locals := 155 } D vwC [(cI, .int), (cJ, .long)] [.ref h, .int x, .int a, .ref oo] ([(oo, .inl (cJ, 1, .inr (.inl O)))] ++ wX h rr cc cI N R C (nI L) (nI (sr_tot os)) (nI os.length) sl go gi fr la re) sz k (fun _ => [(oo, .inl (cJ, 1, .inr (.inl O')))] ++ w1) 1 6) ∧
    (∀ sz, sy_Mi l yM_root (Cond.code yM_root bM_root 4 (some .int) :: sr_big) { frames := 1, cells := 0, slots := 0, locals := 21 } D vwC [(cI, .int), (cZ, .boolean)] [.ref g, .int x, .int a] (wM g fA wA nA tA rA dA oA cI cZ F Wd Nm Tg Rc Dt Rt th (nI L) (nI (1 + sr_tot os)) sl go gi) sz r w2 0 0) ∧ sg_W h rr g fA wA nA tA rA dA oA cI cZ k N w1 w2 ∧ (k = 1 ∨ (k = 0 ∧ O' 0 = r.toInt64)) := by
  obtain ⟨hN, hb, h5, hti, -⟩ := sg_b hF
  rcases sg_rx x with ⟨j, hj, rfl, j1, j2, j3⟩ | ⟨hbad, j3⟩
  · rcases sg_dec hF a with ⟨p2, o2, ho2, hb3, x2, m2⟩ | ⟨x2, m2, hb0⟩ | ⟨hb0, -, -⟩
    · refine ⟨0, _, _, _, _, fun sz => wk_root l D h rr cc cI N R C (nI L) (nI (sr_tot os)) (nI os.length) sl go gi fr la re sz oo cJ O _ _ _ _ (fun sz => sy_cast (ct_X_root_k l D h rr cc cI N R C (nI L) (nI (sr_tot os)) (nI os.length) sl go gi fr la re sz _ _ hN j1 j2 (Or.inr x2)) (show _ = R j from by rw [nI_clamp (by omega)]) (show _ = wX h rr cc cI N (upd R j a) C (nI L) (nI (sr_tot os)) (nI os.length) sl go gi fr la re from by rw [nI_clamp (by omega)])), fun sz => sy_cast (ct_M_root_k l D g fA wA nA tA rA dA oA cI cZ F Wd Nm Tg Rc Dt Rt th (nI L) (nI (1 + sr_tot os)) sl go gi sz _ _ hti j3 (Or.inr m2)) (show _ = R j from by rw [nI_clamp (by omega), hF.2.2.1 j hj]) (show _ = wM g fA wA nA tA rA dA oA cI cZ F Wd Nm Tg Rc Dt (upd Rt j a) 0 (nI L) (nI (1 + sr_tot os)) sl go gi from by rw [nI_clamp (by omega)]), sg_mk (sg_rt hF hj (Or.inr ⟨p2, o2, ho2, hb3⟩)), Or.inr ⟨rfl, rfl⟩⟩
    · exact ⟨1, 0, _, _, O, fun sz => wb_root l D h rr cc cI N R C (nI L) (nI (sr_tot os)) (nI os.length) sl go gi fr la re sz oo cJ O _ _ (fun sz => ct_X_root_b2 l D h rr cc cI N R C (nI L) (nI (sr_tot os)) (nI os.length) sl go gi fr la re sz _ _ hN hst j1 j2 hb0 x2), fun sz => ct_M_root_b2 l D g fA wA nA tA rA dA oA cI cZ F Wd Nm Tg Rc Dt Rt th (nI L) (nI (1 + sr_tot os)) sl go gi sz _ _ hti j3 hb0 m2, sg_mk hF, Or.inl rfl⟩
    · refine ⟨0, _, _, _, _, fun sz => wk_root l D h rr cc cI N R C (nI L) (nI (sr_tot os)) (nI os.length) sl go gi fr la re sz oo cJ O _ _ _ _ (fun sz => sy_cast (ct_X_root_k l D h rr cc cI N R C (nI L) (nI (sr_tot os)) (nI os.length) sl go gi fr la re sz _ _ hN j1 j2 (Or.inl hb0)) (show _ = R j from by rw [nI_clamp (by omega)]) (show _ = wX h rr cc cI N (upd R j a) C (nI L) (nI (sr_tot os)) (nI os.length) sl go gi fr la re from by rw [nI_clamp (by omega)])), fun sz => sy_cast (ct_M_root_k l D g fA wA nA tA rA dA oA cI cZ F Wd Nm Tg Rc Dt Rt th (nI L) (nI (1 + sr_tot os)) sl go gi sz _ _ hti j3 (Or.inl hb0)) (show _ = R j from by rw [nI_clamp (by omega), hF.2.2.1 j hj]) (show _ = wM g fA wA nA tA rA dA oA cI cZ F Wd Nm Tg Rc Dt (upd Rt j a) 0 (nI L) (nI (1 + sr_tot os)) sl go gi from by rw [nI_clamp (by omega)]), sg_mk (sg_rt hF hj (Or.inl hb0)), Or.inr ⟨rfl, rfl⟩⟩
  · exact ⟨1, 0, _, _, O, fun sz => wb_root l D h rr cc cI N R C (nI L) (nI (sr_tot os)) (nI os.length) sl go gi fr la re sz oo cJ O _ _ (fun sz => ct_X_root_b1 l D h rr cc cI N R C (nI L) (nI (sr_tot os)) (nI os.length) sl go gi fr la re sz _ _ hN hst hbad), fun sz => ct_M_root_b1 l D g fA wA nA tA rA dA oA cI cZ F Wd Nm Tg Rc Dt Rt th (nI L) (nI (1 + sr_tot os)) sl go gi sz _ _ hti j3, sg_mk hF, Or.inl rfl⟩

set_option maxHeartbeats 1000000 in
theorem st_number (hst : l.stackTraces = false) (hF : sg_F os L N R C F Wd Nm Dt Rt) (a : Int32) : ∃ (k r : Int32) (w1 w2 : va_W) (O' : Nat → Int64),
    (∀ sz, sy_Mg l yL_number (Cond.codeWith yL_number bL_number 4 (some .int) [(0, 9, 12, 23)] :: sr_big) { frames := 8, cells := 1, slots := 6, locals := 132 } D vwC [(cI, .int), (cJ, .long)] [.ref h, .int a, .ref oo] ([(oo, .inl (cJ, 1, .inr (.inl O)))] ++ wX h rr cc cI N R C (nI L) (nI (sr_tot os)) (nI os.length) sl go gi fr la re) sz k (fun _ => [(oo, .inl (cJ, 1, .inr (.inl O')))] ++ w1) 1 6) ∧
    (∀ sz, sy_Mi l yM_number (Cond.code yM_number bM_number 2 (some .int) :: sr_big) { frames := 1, cells := 0, slots := 0, locals := 21 } D vwC [(cI, .int), (cZ, .boolean)] [.ref g, .int a] (wM g fA wA nA tA rA dA oA cI cZ F Wd Nm Tg Rc Dt Rt th (nI L) (nI (1 + sr_tot os)) sl go gi) sz r w2 0 0) ∧ sg_W h rr g fA wA nA tA rA dA oA cI cZ k N w1 w2 ∧ (k = 1 ∨ (k = 0 ∧ O' 0 = r.toInt64)) := by
  obtain ⟨hN, hb, h5, hti, -⟩ := sg_b hF
  rcases sg_dec hF a with ⟨p, o, ho, rfl, x1, m1⟩ | ⟨x0, m0, -⟩ | ⟨-, x0, m0⟩
  · have hb2 := sg_bd hF ho
    have e1 : nI p + 1 = nI (p + 1) := nI_1 p
    have e2 : sr_rd N C (nI p + 1) = o.2.2.1 := by rw [e1, sr_rd_in (by omega) (by omega) hN]; exact (hF.2.2.2.1 p o ho).2.1
    have e3 : Nm (nI p).toNatClampNeg = o.2.2.1 := by rw [nI_clamp (by omega)]; exact (hF.2.2.2.2.2.1 p o ho).1
    by_cases hn : o.2.2.1 = 0
    · refine ⟨0, _, _, _, _, fun sz => wk_number l D h rr cc cI N R C (nI L) (nI (sr_tot os)) (nI os.length) sl go gi fr la re sz oo cJ O _ _ _ (fun sz => sy_cast (ct_X_number_k1 l D h rr cc cI N R C (nI L) (nI (sr_tot os)) (nI os.length) sl go gi fr la re sz _ hN x1 (e2.trans hn)) (show _ = gi + 1 - 1 from by rw [e1, sr_wr_in (by omega) (by omega) hN, sr_rd_in (by omega) (by omega) hN, pk_us]) (show _ = wX h rr cc cI N R (upd C (p + 1) (gi + 1)) (nI L) (nI (sr_tot os)) (nI os.length) sl go (gi + 1) fr la re from by rw [e1, sr_wr_in (by omega) (by omega) hN])), fun sz => sy_cast (ct_M_number_k1 l D g fA wA nA tA rA dA oA cI cZ F Wd Nm Tg Rc Dt Rt th (nI L) (nI (1 + sr_tot os)) sl go gi sz _ hti m1 (e3.trans hn)) rfl (show _ = wM g fA wA nA tA rA dA oA cI cZ F Wd (upd Nm p (gi + 1)) Tg Rc Dt Rt 0 (nI L) (nI (1 + sr_tot os)) sl go (gi + 1) from by rw [nI_clamp (by omega)]), sg_mk2 (sg_gn hF ho (gi + 1)) (sr_up_tot (sr_gn_sh _) os 1 p) (sr_up_len os 1 p), Or.inr ⟨rfl, rfl⟩⟩
    · refine ⟨0, _, _, _, _, fun sz => wk_number l D h rr cc cI N R C (nI L) (nI (sr_tot os)) (nI os.length) sl go gi fr la re sz oo cJ O _ _ _ (fun sz => sy_cast (ct_X_number_k2 l D h rr cc cI N R C (nI L) (nI (sr_tot os)) (nI os.length) sl go gi fr la re sz _ hN x1 (by rw [e2]; exact hn)) (show _ = o.2.2.1 - 1 from by rw [e2]) rfl), fun sz => sy_cast (ct_M_number_k2 l D g fA wA nA tA rA dA oA cI cZ F Wd Nm Tg Rc Dt Rt th (nI L) (nI (1 + sr_tot os)) sl go gi sz _ hti m1 (by rw [e3]; exact hn)) (show _ = o.2.2.1 - 1 from by rw [e3]) rfl, sg_mk hF, Or.inr ⟨rfl, rfl⟩⟩
  · exact ⟨1, 0, _, _, O, fun sz => wb_number l D h rr cc cI N R C (nI L) (nI (sr_tot os)) (nI os.length) sl go gi fr la re sz oo cJ O _ (fun sz => ct_X_number_b l D h rr cc cI N R C (nI L) (nI (sr_tot os)) (nI os.length) sl go gi fr la re sz _ hN hst x0), fun sz => ct_M_number_b l D g fA wA nA tA rA dA oA cI cZ F Wd Nm Tg Rc Dt Rt th (nI L) (nI (1 + sr_tot os)) sl go gi sz _ hti m0, sg_mk hF, Or.inl rfl⟩
  · exact ⟨1, 0, _, _, O, fun sz => wb_number l D h rr cc cI N R C (nI L) (nI (sr_tot os)) (nI os.length) sl go gi fr la re sz oo cJ O _ (fun sz => ct_X_number_b l D h rr cc cI N R C (nI L) (nI (sr_tot os)) (nI os.length) sl go gi fr la re sz _ hN hst x0), fun sz => ct_M_number_b l D g fA wA nA tA rA dA oA cI cZ F Wd Nm Tg Rc Dt Rt th (nI L) (nI (1 + sr_tot os)) sl go gi sz _ hti m0, sg_mk hF, Or.inl rfl⟩

set_option maxHeartbeats 1000000 in
theorem st_next (hst : l.stackTraces = false) (hF : sg_F os L N R C F Wd Nm Dt Rt) (a : Int32) : ∃ (k r : Int32) (w1 w2 : va_W) (O' : Nat → Int64),
    (∀ sz, sy_Mg l yL_next (Cond.codeWith yL_next bL_next 4 (some .int) [(0, 9, 12, 23)] :: sr_big) { frames := 9, cells := 1, slots := 6, locals := 154 } D vwC [(cI, .int), (cJ, .long)] [.ref h, .int a, .ref oo] ([(oo, .inl (cJ, 1, .inr (.inl O)))] ++ wX h rr cc cI N R C (nI L) (nI (sr_tot os)) (nI os.length) sl go gi fr la re) sz k (fun _ => [(oo, .inl (cJ, 1, .inr (.inl O')))] ++ w1) 1 6) ∧
    (∀ sz, sy_Mi l yM_next (Cond.code yM_next bM_next 3 (some .int) :: sr_big) { frames := 1, cells := 0, slots := 0, locals := 21 } D vwC [(cI, .int), (cZ, .boolean)] [.ref g, .int a] (wM g fA wA nA tA rA dA oA cI cZ F Wd Nm Tg Rc Dt Rt th (nI L) (nI (1 + sr_tot os)) sl go gi) sz r w2 0 0) ∧ sg_W h rr g fA wA nA tA rA dA oA cI cZ k N w1 w2 ∧ (k = 1 ∨ (k = 0 ∧ O' 0 = r.toInt64)) := by
  obtain ⟨hN, hb, h5, hti, -⟩ := sg_b hF
  rcases sg_dec hF a with ⟨p, o, ho, rfl, x1, m1⟩ | ⟨x0, m0, hb0⟩ | ⟨rfl, -, -⟩
  · have hb2 := sg_bd hF ho
    have hs : sr_sz o = 3 + o.1 + o.2.1 := rfl
    have n0 : ¬ nI p = 0 := nI_ne0 (by omega) (by omega)
    have e1 : (3 : Int32) + F (nI p).toNatClampNeg - 1 + Wd (nI p).toNatClampNeg = nI (sr_sz o) := by rw [nI_clamp (by omega)]; exact sr_ms (hF.2.2.2.2.1 p o ho).1 (hF.2.2.2.2.1 p o ho).2
    refine ⟨0, _, _, _, _, fun sz => wk_next l D h rr cc cI N R C (nI L) (nI (sr_tot os)) (nI os.length) sl go gi fr la re sz oo cJ O _ _ _ (fun sz => sy_cast (ct_X_next_k l D h rr cc cI N R C (nI L) (nI (sr_tot os)) (nI os.length) sl go gi fr la re sz _ hN (Or.inr x1)) (show _ = (if nI (sr_tot os) < nI (p + sr_sz o) then 0 else nI (p + sr_sz o)) from by rw [if_neg n0, sg_si hF ho, nI_add]) rfl), fun sz => sy_cast (ct_M_next_k l D g fA wA nA tA rA dA oA cI cZ F Wd Nm Tg Rc Dt Rt th (nI L) (nI (1 + sr_tot os)) sl go gi sz _ hti (Or.inr m1)) (show _ = (if nI (sr_tot os) < nI (p + sr_sz o) then 0 else nI (p + sr_sz o)) from by rw [if_neg n0, e1, nI_add]; exact (sg_nx (by omega) (by omega)).symm) rfl, sg_mk hF, Or.inr ⟨rfl, rfl⟩⟩
  · exact ⟨1, 0, _, _, O, fun sz => wb_next l D h rr cc cI N R C (nI L) (nI (sr_tot os)) (nI os.length) sl go gi fr la re sz oo cJ O _ (fun sz => ct_X_next_b l D h rr cc cI N R C (nI L) (nI (sr_tot os)) (nI os.length) sl go gi fr la re sz _ hN hst hb0 x0), fun sz => ct_M_next_b l D g fA wA nA tA rA dA oA cI cZ F Wd Nm Tg Rc Dt Rt th (nI L) (nI (1 + sr_tot os)) sl go gi sz _ hti hb0 m0, sg_mk hF, Or.inl rfl⟩
  · refine ⟨0, _, _, _, _, fun sz => wk_next l D h rr cc cI N R C (nI L) (nI (sr_tot os)) (nI os.length) sl go gi fr la re sz oo cJ O _ _ _ (fun sz => sy_cast (ct_X_next_k l D h rr cc cI N R C (nI L) (nI (sr_tot os)) (nI os.length) sl go gi fr la re sz _ hN (Or.inl rfl)) (show _ = (if nI (sr_tot os) < nI 1 then 0 else nI 1) from by rw [if_pos rfl]; rfl) rfl), fun sz => sy_cast (ct_M_next_k l D g fA wA nA tA rA dA oA cI cZ F Wd Nm Tg Rc Dt Rt th (nI L) (nI (1 + sr_tot os)) sl go gi sz _ hti (Or.inl rfl)) (show _ = (if nI (sr_tot os) < nI 1 then 0 else nI 1) from by rw [if_pos rfl]; exact (sg_nx (q := 1) (by omega) (by omega)).symm) rfl, sg_mk hF, Or.inr ⟨rfl, rfl⟩⟩

theorem sg_p2 (x : Int32) : (∃ j : Nat, j ≤ 2000 ∧ x = nI j) ∨ (x < 0 ∨ 2000 < x) := by
  have e : (2000 : Int32).toInt = 2000 := by decide
  by_cases c1 : x < 0
  · exact Or.inr (Or.inl c1)
  · by_cases c2 : 2000 < x
    · exact Or.inr (Or.inr c2)
    · refine Or.inl (nI_of2 (M := 2000) (by decide) c1 ?_)
      rw [Int32.lt_iff_toInt_lt, e] at c2
      rw [Int32.le_iff_toInt_le, e]
      omega
theorem sg_p3 {j : Nat} (h : j ≤ 2000) : ¬ nI j < 0 ∧ ¬ 2000 < nI j := ⟨nI_pos (by omega), nI_nlt (a := 2000) h (by omega)⟩

set_option maxHeartbeats 1000000 in
theorem st_make (hst : l.stackTraces = false) (hF : sg_F os L N R C F Wd Nm Dt Rt) (f w : Int32) : ∃ (k r : Int32) (w1 w2 : va_W) (O' : Nat → Int64),
    (∀ sz, sy_Mg l yL_make (Cond.codeWith yL_make bL_make 5 (some .int) [(0, 10, 13, 13)] :: sr_big) { frames := 7, cells := 1, slots := 6, locals := 114 } D vwC [(cI, .int), (cJ, .long)] [.ref h, .int f, .int w, .ref oo] ([(oo, .inl (cJ, 1, .inr (.inl O)))] ++ wX h rr cc cI N R C (nI L) (nI (sr_tot os)) (nI os.length) sl go gi fr la re) sz k (fun _ => [(oo, .inl (cJ, 1, .inr (.inl O')))] ++ w1) 1 6) ∧
    (∀ sz, sy_Mi l yM_make (Cond.code yM_make bM_make 6 (some .int) :: sr_big) { frames := 1, cells := 0, slots := 0, locals := 21 } D vwC [(cI, .int), (cZ, .boolean)] [.ref g, .int f, .int w] (wM g fA wA nA tA rA dA oA cI cZ F Wd Nm Tg Rc Dt Rt th (nI L) (nI (1 + sr_tot os)) sl go gi) sz r w2 0 0) ∧ sg_W h rr g fA wA nA tA rA dA oA cI cZ k N w1 w2 ∧ (k = 1 ∨ (k = 0 ∧ O' 0 = r.toInt64)) := by
  obtain ⟨hN, hb, h5, hti, -⟩ := sg_b hF
  rcases sg_p2 f with ⟨f, hf, rfl⟩ | hf
  · rcases sg_p2 w with ⟨w, hw, rfl⟩ | hw
    · obtain ⟨f1, f2⟩ := sg_p3 hf
      obtain ⟨w1, w2⟩ := sg_p3 hw
      have hL := hF.1
      have e1 : (3 : Int32) + nI f + nI w = nI (3 + f + w) := by rw [show (3 : Int32) + nI f = nI (3 + f) from nI_add 3 f, nI_add]
      have e2 : nI L - nI (sr_tot os) = nI (L - sr_tot os) := pk_sub hL.2.1
      have e3 : nI (1 + sr_tot os) + nI (3 + f + w) - 1 = nI (sr_tot os + (3 + f + w)) := by rw [nI_add, show 1 + sr_tot os + (3 + f + w) = sr_tot os + (3 + f + w) + 1 from by omega, nI_pred]
      have e4 : nI (sr_tot os) + ((3 : Int32) + nI f + nI w) = nI (sr_tot (os ++ [sr_nw f w])) := by rw [e1, nI_add, sr_nw_tot]
      have e7 : nI os.length + 1 = nI (os ++ [sr_nw f w]).length := by rw [nI_1, List.length_append]; rfl
      have e8 : 1 + sr_tot os + (3 + f + w) = 1 + sr_tot (os ++ [sr_nw f w]) := by rw [sr_nw_tot]; omega
      by_cases hr : sr_tot os + (3 + f + w) ≤ L
      · have hr1 : (3 : Int32) + nI f + nI w ≤ nI L - nI (sr_tot os) := by rw [e1, e2]; exact nI_le (by omega) (by omega)
        refine ⟨0, _, _, _, _, fun sz => wk_make l D h rr cc cI N R C (nI L) (nI (sr_tot os)) (nI os.length) sl go gi fr la re sz oo cJ O _ _ _ _ (fun sz => sy_cast (ct_X_make_k2 l D h rr cc cI N R C (nI L) (nI (sr_tot os)) (nI os.length) sl go gi fr la re sz _ _ hN f1 f2 w1 w2 hr1) (show _ = nI (1 + sr_tot os) from by rw [nI_1, Nat.add_comm]) (show _ = wX h rr cc cI N R (sr_wr N (sr_cc N (nI (sr_tot os) + 1) ((3 : Int32) + nI f + nI w).toNatClampNeg 0 C) (nI (sr_tot os) + 1 + 0) (nI f <<< ((12 : Int32) &&& 31) ||| nI w)) (nI L) (nI (sr_tot (os ++ [sr_nw f w]))) (nI (os ++ [sr_nw f w]).length) sl go gi fr la re from by rw [e4, e7])), fun sz => sy_cast (ct_M_make_k2 l D g fA wA nA tA rA dA oA cI cZ F Wd Nm Tg Rc Dt Rt th (nI L) sl go gi sz f w (1 + sr_tot os) hf hw (by omega) (by rw [e3]; exact nI_le hr (by omega))) rfl (show _ = wM g fA wA nA tA rA dA oA cI cZ (upd F (1 + sr_tot os) (nI (f + 1))) (upd Wd (1 + sr_tot os) (nI w)) (upd Nm (1 + sr_tot os) 0) Tg Rc (sm_c (1 + sr_tot os) (3 + f + w) 0 Dt) Rt 0 (nI L) (nI (1 + sr_tot (os ++ [sr_nw f w]))) sl go gi from by rw [e8]), sg_mk (sg_nw hF hf hw hr), Or.inr ⟨rfl, rfl⟩⟩
      · have hr1 : ¬ (3 : Int32) + nI f + nI w ≤ nI L - nI (sr_tot os) := by rw [e1, e2]; exact nI_ge (by omega) (by omega)
        have hr2 : ¬ nI (1 + sr_tot os) + ((3 : Int32) + nI f + nI w) - 1 ≤ nI L := by rw [e1, e3]; exact nI_ge (by omega) (by omega)
        refine ⟨0, _, _, _, _, fun sz => wk_make l D h rr cc cI N R C (nI L) (nI (sr_tot os)) (nI os.length) sl go gi fr la re sz oo cJ O _ _ _ _ (fun sz => ct_X_make_k1 l D h rr cc cI N R C (nI L) (nI (sr_tot os)) (nI os.length) sl go gi fr la re sz _ _ hN f1 f2 w1 w2 hr1), fun sz => ct_M_make_k1 l D g fA wA nA tA rA dA oA cI cZ F Wd Nm Tg Rc Dt Rt th (nI L) (nI (1 + sr_tot os)) sl go gi sz _ _ f1 f2 w1 w2 hr2, sg_mk hF, Or.inr ⟨rfl, rfl⟩⟩
    · obtain ⟨f1, f2⟩ := sg_p3 hf
      exact ⟨1, 0, _, _, O, fun sz => wb_make l D h rr cc cI N R C (nI L) (nI (sr_tot os)) (nI os.length) sl go gi fr la re sz oo cJ O _ _ (fun sz => ct_X_make_b2 l D h rr cc cI N R C (nI L) (nI (sr_tot os)) (nI os.length) sl go gi fr la re sz _ _ hN hst f1 f2 hw), fun sz => ct_M_make_b l D g fA wA nA tA rA dA oA cI cZ F Wd Nm Tg Rc Dt Rt th (nI L) (nI (1 + sr_tot os)) sl go gi sz _ _ (Or.inr (Or.inr hw)), sg_mk hF, Or.inl rfl⟩
  · exact ⟨1, 0, _, _, O, fun sz => wb_make l D h rr cc cI N R C (nI L) (nI (sr_tot os)) (nI os.length) sl go gi fr la re sz oo cJ O _ _ (fun sz => ct_X_make_b1 l D h rr cc cI N R C (nI L) (nI (sr_tot os)) (nI os.length) sl go gi fr la re sz _ _ hN hst hf), fun sz => ct_M_make_b l D g fA wA nA tA rA dA oA cI cZ F Wd Nm Tg Rc Dt Rt th (nI L) (nI (1 + sr_tot os)) sl go gi sz _ _ (hf.elim Or.inl (fun z => Or.inr (Or.inl z))), sg_mk hF, Or.inl rfl⟩

theorem sg_c7 (x : Int32) : (x = 0 ∨ x = 1 ∨ x = 2 ∨ x = 3 ∨ x = 4 ∨ x = 5 ∨ x = 6) ∨ ((x.toInt < 0 ∨ 6 < x.toInt) ∧ (x < 0 ∨ 6 < x)) := by
  have e0 : (0 : Int32).toInt = 0 := by decide
  have e6 : (6 : Int32).toInt = 6 := by decide
  by_cases c : x.toInt < 0 ∨ 6 < x.toInt
  · refine Or.inr ⟨c, ?_⟩
    rw [Int32.lt_iff_toInt_lt, Int32.lt_iff_toInt_lt, e0, e6]
    exact c
  · refine Or.inl ?_
    have hx : x = nI x.toInt.toNat := by
      apply Int32.toInt_inj.mp
      rw [nI_toInt (by omega)]
      omega
    generalize hk : x.toInt.toNat = k at hx
    have hk7 : k < 7 := by omega
    subst hx
    match k, hk7 with
    | 0, _ => exact Or.inl rfl
    | 1, _ => exact Or.inr (Or.inl rfl)
    | 2, _ => exact Or.inr (Or.inr (Or.inl rfl))
    | 3, _ => exact Or.inr (Or.inr (Or.inr (Or.inl rfl)))
    | 4, _ => exact Or.inr (Or.inr (Or.inr (Or.inr (Or.inl rfl))))
    | 5, _ => exact Or.inr (Or.inr (Or.inr (Or.inr (Or.inr (Or.inl rfl)))))
    | 6, _ => exact Or.inr (Or.inr (Or.inr (Or.inr (Or.inr (Or.inr rfl)))))

set_option maxHeartbeats 1000000 in
theorem st_count (hst : l.stackTraces = false) (hF : sg_F os L N R C F Wd Nm Dt Rt) (x : Int32) : ∃ (k r : Int32) (w1 w2 : va_W) (O' : Nat → Int64),
    (∀ sz, sy_Mg l yL_count (Cond.codeWith yL_count bL_count 4 (some .int) [(0, 9, 12, 13)] :: sr_big) { frames := 7, cells := 1, slots := 6, locals := 111 } D vwC [(cI, .int), (cJ, .long)] [.ref h, .int x, .ref oo] ([(oo, .inl (cJ, 1, .inr (.inl O)))] ++ wX h rr cc cI N R C (nI L) (nI (sr_tot os)) (nI os.length) sl go gi fr la re) sz k (fun _ => [(oo, .inl (cJ, 1, .inr (.inl O')))] ++ w1) 1 6) ∧
    (∀ sz, sy_Mi l yM_count (Cond.code yM_count bM_count 2 (some .int) :: sr_big) { frames := 2, cells := 0, slots := 0, locals := 46 } D vwC [(cI, .int), (cZ, .boolean)] [.ref g, .int x] (wM g fA wA nA tA rA dA oA cI cZ F Wd Nm Tg Rc Dt Rt th (nI L) (nI (1 + sr_tot os)) sl go gi) sz r w2 0 0) ∧ sg_W h rr g fA wA nA tA rA dA oA cI cZ k N w1 w2 ∧ (k = 1 ∨ (k = 0 ∧ O' 0 = r.toInt64)) := by
  obtain ⟨hN, hb, h5, hti, -⟩ := sg_b hF
  rcases sg_c7 x with (rfl | rfl | rfl | rfl | rfl | rfl | rfl) | ⟨b1, b2⟩
  · refine ⟨0, _, _, _, _, fun sz => wk_count l D h rr cc cI N R C (nI L) (nI (sr_tot os)) (nI os.length) sl go gi fr la re sz oo cJ O _ _ _ (fun sz => ct_X_count_0 l D h rr cc cI N R C (nI L) (nI (sr_tot os)) (nI os.length) sl go gi fr la re sz  hN), fun sz => ct_M_count_0 l D g fA wA nA tA rA dA oA cI cZ F Wd Nm Tg Rc Dt Rt th (nI L) sl go gi sz os (1 + sr_tot os) ⟨rfl, hF.2.2.2.2.1⟩ h5, sg_mk hF, Or.inr ⟨rfl, rfl⟩⟩
  · refine ⟨0, _, _, _, _, fun sz => wk_count l D h rr cc cI N R C (nI L) (nI (sr_tot os)) (nI os.length) sl go gi fr la re sz oo cJ O _ _ _ (fun sz => ct_X_count_1 l D h rr cc cI N R C (nI L) (nI (sr_tot os)) (nI os.length) sl go gi fr la re sz  hN), fun sz => sy_cast (ct_M_count_1 l D g fA wA nA tA rA dA oA cI cZ F Wd Nm Tg Rc Dt Rt th (nI L) (nI (1 + sr_tot os)) sl go gi sz  ) (show _ = nI (sr_tot os) from by rw [Nat.add_comm, nI_pred]) rfl, sg_mk hF, Or.inr ⟨rfl, rfl⟩⟩
  · obtain ⟨hF2, e9⟩ := sg_ch hF
    have ec : (nI os.length).toNatClampNeg = os.length := nI_clamp (by have := sr_len_tot os; omega)
    refine ⟨0, _, _, _, _, fun sz => wk_count l D h rr cc cI N R C (nI L) (nI (sr_tot os)) (nI os.length) sl go gi fr la re sz oo cJ O _ _ _ (fun sz => sy_cast (ct_X_count_2 l D h rr cc cI N R C (nI L) (nI (sr_tot os)) (nI os.length) sl go gi fr la re sz  hN) (show _ = nI (sr_kp (sr_m os R) 1 os).length from by rw [ec, e9]) (show _ = wX h rr cc cI N R (sr_chR N R os.length C).1 (nI L) (nI (sr_tot os)) (nI os.length) sl go gi (sr_chR N R os.length C).2.1 (sr_chR N R os.length C).2.2.1 (sr_chR N R os.length C).2.2.2 from by rw [ec])), fun sz => sy_cast (ct_M_count_2 l D g fA wA nA tA rA dA oA cI cZ F Wd Nm Tg Rc Dt Rt th (nI L) sl go gi sz os (1 + sr_tot os) ⟨rfl, hF.2.2.2.2.1⟩ h5 (sg_hR hF) (sg_hV hF)) (show _ = nI (sr_kp (sr_m os R) 1 os).length from by rw [sg_kp hF]) rfl, sg_mk hF2, Or.inr ⟨rfl, rfl⟩⟩
  · refine ⟨0, _, _, _, _, fun sz => wk_count l D h rr cc cI N R C (nI L) (nI (sr_tot os)) (nI os.length) sl go gi fr la re sz oo cJ O _ _ _ (fun sz => ct_X_count_3 l D h rr cc cI N R C (nI L) (nI (sr_tot os)) (nI os.length) sl go gi fr la re sz  hN), fun sz => ct_M_count_3 l D g fA wA nA tA rA dA oA cI cZ F Wd Nm Tg Rc Dt Rt th (nI L) (nI (1 + sr_tot os)) sl go gi sz  , sg_mk hF, Or.inr ⟨rfl, rfl⟩⟩
  · refine ⟨0, _, _, _, _, fun sz => wk_count l D h rr cc cI N R C (nI L) (nI (sr_tot os)) (nI os.length) sl go gi fr la re sz oo cJ O _ _ _ (fun sz => ct_X_count_4 l D h rr cc cI N R C (nI L) (nI (sr_tot os)) (nI os.length) sl go gi fr la re sz  hN), fun sz => ct_M_count_4 l D g fA wA nA tA rA dA oA cI cZ F Wd Nm Tg Rc Dt Rt th (nI L) (nI (1 + sr_tot os)) sl go gi sz  , sg_mk hF, Or.inr ⟨rfl, rfl⟩⟩
  · refine ⟨0, _, _, _, _, fun sz => wk_count l D h rr cc cI N R C (nI L) (nI (sr_tot os)) (nI os.length) sl go gi fr la re sz oo cJ O _ _ _ (fun sz => ct_X_count_5 l D h rr cc cI N R C (nI L) (nI (sr_tot os)) (nI os.length) sl go gi fr la re sz  hN), fun sz => ct_M_count_5 l D g fA wA nA tA rA dA oA cI cZ F Wd Nm Tg Rc Dt Rt th (nI L) (nI (1 + sr_tot os)) sl go gi sz  , sg_mk hF, Or.inr ⟨rfl, rfl⟩⟩
  · refine ⟨0, _, _, _, _, fun sz => wk_count l D h rr cc cI N R C (nI L) (nI (sr_tot os)) (nI os.length) sl go gi fr la re sz oo cJ O _ _ _ (fun sz => ct_X_count_6 l D h rr cc cI N R C (nI L) (nI (sr_tot os)) (nI os.length) sl go gi fr la re sz  hN), fun sz => ct_M_count_6 l D g fA wA nA tA rA dA oA cI cZ F Wd Nm Tg Rc Dt Rt th (nI L) (nI (1 + sr_tot os)) sl go gi sz  , sg_mk hF, Or.inr ⟨rfl, rfl⟩⟩
  · exact ⟨1, 0, _, _, O, fun sz => wb_count l D h rr cc cI N R C (nI L) (nI (sr_tot os)) (nI os.length) sl go gi fr la re sz oo cJ O _ (fun sz => ct_X_count_b l D h rr cc cI N R C (nI L) (nI (sr_tot os)) (nI os.length) sl go gi fr la re sz _ hN hst b1), fun sz => ct_M_count_b l D g fA wA nA tA rA dA oA cI cZ F Wd Nm Tg Rc Dt Rt th (nI L) (nI (1 + sr_tot os)) sl go gi sz _ b2, sg_mk hF, Or.inl rfl⟩

set_option maxHeartbeats 1000000 in
theorem st_find (hF : sg_F os L N R C F Wd Nm Dt Rt) (x : Int32) : ∃ (r : Int32) (w2 : va_W),
    (∀ sz, sy_Mi l yX_find (Cond.code yX_find bX_find 4 (some .int) :: sr_big) { frames := 2, cells := 0, slots := 0, locals := 43 } D vwC [(cI, .int)] [.ref h, .int x] (wX h rr cc cI N R C (nI L) (nI (sr_tot os)) (nI os.length) sl go gi fr la re) sz r (wX h rr cc cI N R C (nI L) (nI (sr_tot os)) (nI os.length) sl go gi fr la re) 0 0) ∧ (∀ sz, sy_Mi l yM_find (Cond.code yM_find bM_find 3 (some .int) :: sr_big) { frames := 1, cells := 0, slots := 0, locals := 21 } D vwC [(cI, .int), (cZ, .boolean)] [.ref g, .int x] (wM g fA wA nA tA rA dA oA cI cZ F Wd Nm Tg Rc Dt Rt th (nI L) (nI (1 + sr_tot os)) sl go gi) sz r w2 0 0) ∧ sg_W h rr g fA wA nA tA rA dA oA cI cZ 0 N (wX h rr cc cI N R C (nI L) (nI (sr_tot os)) (nI os.length) sl go gi fr la re) w2 := by
  obtain ⟨hN, hb, h5, hti, h6⟩ := sg_b hF
  by_cases c1 : x < 0
  · exact ⟨0, _, fun sz => sy_cast (ct_X_find l D h rr cc cI N R C (nI L) (nI (sr_tot os)) (nI os.length) sl go gi fr la re sz x hN) (if_pos c1) rfl, fun sz => ct_M_find_b l D g fA wA nA tA rA dA oA cI cZ F Wd Nm Tg Rc Dt Rt th (nI L) (nI (1 + sr_tot os)) sl go gi sz x (Or.inl c1), sg_mk hF⟩
  · by_cases c2 : x < gi
    · have c3 : ¬ gi ≤ x := by rw [Int32.le_iff_toInt_le]; rw [Int32.lt_iff_toInt_lt] at c2; omega
      exact ⟨nI (sr_fa x 1 os), _, fun sz => sy_cast (ct_X_find l D h rr cc cI N R C (nI L) (nI (sr_tot os)) (nI os.length) sl go gi fr la re sz x hN) (by rw [if_neg c1, if_pos c2, nI_clamp (by omega)]; exact sr_fn_eq hN os 1 hF.2.2.2.1 hF.1.1 (Nat.le_refl _) hb) rfl, fun sz => ct_M_find_k l D g fA wA nA tA rA dA oA cI cZ F Wd Nm Tg Rc Dt Rt th (nI L) sl go gi sz x os (1 + sr_tot os) ⟨rfl, hF.2.2.2.2.1, fun q1 o1 h1 => (hF.2.2.2.2.2.1 q1 o1 h1).1⟩ h5 c1 c3, sg_mk hF⟩
    · exact ⟨0, _, fun sz => sy_cast (ct_X_find l D h rr cc cI N R C (nI L) (nI (sr_tot os)) (nI os.length) sl go gi fr la re sz x hN) (by rw [if_neg c1, if_neg c2]) rfl, fun sz => ct_M_find_b l D g fA wA nA tA rA dA oA cI cZ F Wd Nm Tg Rc Dt Rt th (nI L) (nI (1 + sr_tot os)) sl go gi sz x (Or.inr (sg_le c2)), sg_mk hF⟩

set_option maxHeartbeats 2000000 in
theorem st_slide (hF : sg_F os L N R C F Wd Nm Dt Rt) : ∃ (r : Int32) (w1 w2 : va_W),
    (∀ sz, sy_Mi l yX_slide (Cond.code yX_slide bX_slide 2 (some .int) :: sr_big) { frames := 4, cells := 0, slots := 0, locals := 107 } D vwC [(cI, .int)] [.ref h] (wX h rr cc cI N R C (nI L) (nI (sr_tot os)) (nI os.length) sl go gi fr la re) sz r w1 0 0) ∧ (∀ sz, sy_Mi l yM_slide (Cond.code yM_slide bM_slide 6 (some .int) :: sr_big) { frames := 2, cells := 0, slots := 0, locals := 46 } D vwC [(cI, .int), (cZ, .boolean)] [.ref g] (wM g fA wA nA tA rA dA oA cI cZ F Wd Nm Tg Rc Dt Rt th (nI L) (nI (1 + sr_tot os)) sl go gi) sz r w2 0 0) ∧ sg_W h rr g fA wA nA tA rA dA oA cI cZ 0 N w1 w2 := by
  obtain ⟨hN, hb, h5, hti, h6⟩ := sg_b hF
  obtain ⟨c1, c2, c3⟩ := sr_chR_spec hN hb hF.1.1 hF.2.1 hF.2.2.2.1
  obtain ⟨s1, s2, s3⟩ := sr_sC_spec hN hb hF.1.1 hF.2.1 c1 c2
  have ec : (nI os.length).toNatClampNeg = os.length := nI_clamp (by omega)
  have hm := sg_m (os := os) hF.2.2.1
  have ef : sr_f os Rt = sr_f os R := by unfold sr_f; rw [hm]
  have eo : sr_so os Rt = sr_so os R := by unfold sr_so; rw [hm, ef]
  have hvt : sr_va os Rt := sg_va hF.2.1 hF.2.2.1
  obtain ⟨m1, m2, m3, m4, m5, m6⟩ := sr_sM_spec (T0 := Tg) (by omega) hvt hF.2.2.2.2.1 hF.2.2.2.2.2.1 hF.2.2.2.2.2.2 (sg_mk9 (Rc := Rc) hF)
  rw [ef] at m1
  rw [eo] at m2 m3 m4 m5 m6
  rw [← sr_so_len] at c3
  have hX : ∀ sz, sy_Mi l yX_slide (Cond.code yX_slide bX_slide 2 (some .int) :: sr_big) { frames := 4, cells := 0, slots := 0, locals := 107 } D vwC [(cI, .int)] [.ref h] (wX h rr cc cI N R C (nI L) (nI (sr_tot os)) (nI os.length) sl go gi fr la re) sz (nI (sr_tot (sr_so os R))) (wX h rr cc cI N (sr_rr N (sr_chp N os.length (sr_chR N R os.length C).1 0 1).1 16 0 R) (sr_sC N os.length (sr_chR N R os.length C).1) (nI L) (nI (sr_tot (sr_so os R))) (nI (sr_so os R).length) (sl + 1) (go + nI os.length - nI (sr_so os R).length) gi (sr_chR N R os.length C).2.1 (sr_chR N R os.length C).2.2.1 (sr_chR N R os.length C).2.2.2) 0 0 := fun sz =>
    sy_cast (ct_X_slide l D h rr cc cI N R C (nI L) (nI (sr_tot os)) (nI os.length) sl go gi fr la re sz  hN) (by rw [ec, s1]) (by rw [ec, s1, c3, sg_as])
  refine ⟨nI (sr_tot (sr_so os R)), _, _, hX, fun sz => sy_cast (ct_M_slide l D g fA wA nA tA rA dA oA cI cZ F Wd Nm Tg Rc Dt Rt th (nI L) sl go gi sz os (1 + sr_tot os) ⟨rfl, hF.2.2.2.2.1⟩ h5 (sg_hR hF) (sg_hV hF)) (by rw [m2, Nat.add_comm, nI_pred]) (by rw [m2, m3]), ?_⟩
  refine sg_mk (os := sr_so os R) ⟨⟨sr_so_ok hF.1.1, Nat.le_trans (sr_so_le os R) hF.1.2.1, hF.1.2.2⟩, ?_, fun r hr => ?_, s3, m4, m5, m6⟩
  · refine sg_va (sr_so_va (by omega) hF.2.1) fun r hr => ?_
    rw [sr_rr_eq, if_pos (by omega), s2 r hr]
  · rw [sm_rt_eq, if_pos (by omega), m1 r hr, sr_rr_eq, if_pos (by omega), s2 r hr, hF.2.2.1 r hr]

theorem sg_p16 (x : Int32) : (∃ j : Nat, 16 ≤ j ∧ j ≤ 16384 ∧ x = nI j) ∨ ((x < 16 ∨ ¬ x ≤ 16384) ∧ (x < 16 ∨ 16384 < x)) := by
  have e16 : (16 : Int32).toInt = 16 := by decide
  have e0 : (0 : Int32).toInt = 0 := by decide
  have e : (16384 : Int32).toInt = 16384 := by decide
  by_cases c1 : x < 16
  · exact Or.inr ⟨Or.inl c1, Or.inl c1⟩
  · by_cases c2 : x ≤ 16384
    · rw [Int32.lt_iff_toInt_lt, e16] at c1
      obtain ⟨j, hj, rfl⟩ := nI_of2 (x := x) (M := 16384) (n := 16384) (by decide) (by rw [Int32.lt_iff_toInt_lt, e0]; omega) c2
      rw [nI_toInt (by omega)] at c1
      exact Or.inl ⟨j, by omega, hj, rfl⟩
    · refine Or.inr ⟨Or.inr c2, Or.inr ?_⟩
      rw [Int32.le_iff_toInt_le, e] at c2
      rw [Int32.lt_iff_toInt_lt, e]
      omega
set_option maxHeartbeats 1000000 in
theorem st_space (hst : l.stackTraces = false) (hF : sg_F os L N R C F Wd Nm Dt Rt) (x : Int32) : (∃ (k r : Int32) (w1 w2 : va_W) (O' : Nat → Int64),
    (∀ sz, sy_Mg l yL_space (Cond.codeWith yL_space bL_space 4 (some .int) [(0, 9, 12, 13)] :: sr_big) { frames := 7, cells := 1, slots := 6, locals := 112 } D vwC [(cI, .int), (cJ, .long)] [.ref h, .int x, .ref oo] ([(oo, .inl (cJ, 1, .inr (.inl O)))] ++ wX h rr cc cI N R C (nI L) (nI (sr_tot os)) (nI os.length) sl go gi fr la re) sz k (fun _ => [(oo, .inl (cJ, 1, .inr (.inl O')))] ++ w1) 1 6) ∧
    (∀ sz, sy_Mi l yM_space (Cond.code yM_space bM_space 4 (some .int) :: sr_big) { frames := 1, cells := 0, slots := 0, locals := 21 } D vwC [(cI, .int), (cZ, .boolean)] [.ref g, .int x] (wM g fA wA nA tA rA dA oA cI cZ F Wd Nm Tg Rc Dt Rt th (nI L) (nI (1 + sr_tot os)) sl go gi) sz r w2 0 0) ∧ sg_W h rr g fA wA nA tA rA dA oA cI cZ k N w1 w2 ∧ (k = 1 ∨ (k = 0 ∧ O' 0 = r.toInt64))) ∨
    (N = 2049 ∧ ∃ (r : Int32) (w1 : Nat → va_W) (w2 : va_W) (O' : Nat → Int64),
    (∀ sz, sy_Mg l yL_space (Cond.codeWith yL_space bL_space 4 (some .int) [(0, 9, 12, 13)] :: sr_big) { frames := 7, cells := 1, slots := 16385, locals := 112 } D vwC [(cI, .int), (cJ, .long)] [.ref h, .int x, .ref oo] ([(oo, .inl (cJ, 1, .inr (.inl O)))] ++ wX h rr cc cI N R C (nI L) (nI (sr_tot os)) (nI os.length) sl go gi fr la re) sz 0 (fun q => [(oo, .inl (cJ, 1, .inr (.inl O')))] ++ w1 q) 1 16385) ∧
    (∀ sz, sy_Mi l yM_space (Cond.code yM_space bM_space 4 (some .int) :: sr_big) { frames := 1, cells := 0, slots := 0, locals := 21 } D vwC [(cI, .int), (cZ, .boolean)] [.ref g, .int x] (wM g fA wA nA tA rA dA oA cI cZ F Wd Nm Tg Rc Dt Rt th (nI L) (nI (1 + sr_tot os)) sl go gi) sz r w2 0 0) ∧ (∀ q, sg_W h rr g fA wA nA tA rA dA oA cI cZ 0 16385 (w1 q) w2) ∧ O' 0 = r.toInt64) := by
  obtain ⟨hN, hb, h5, hti, -⟩ := sg_b hF
  rcases sg_p16 x with ⟨L2, a1, a2, rfl⟩ | ⟨b1, b2⟩
  · have g1 : ¬ nI L2 < 16 := nI_nlt (b := 16) a1 (by omega)
    have g2 : nI L2 ≤ 16384 := nI_le (b := 16384) a2 (by omega)
    have g3 : ¬ 16384 < nI L2 := nI_nlt (a := 16384) a2 (by omega)
    have hM : ∀ sz, sy_Mi l yM_space (Cond.code yM_space bM_space 4 (some .int) :: sr_big) { frames := 1, cells := 0, slots := 0, locals := 21 } D vwC [(cI, .int), (cZ, .boolean)] [.ref g, .int (nI L2)] (wM g fA wA nA tA rA dA oA cI cZ F Wd Nm Tg Rc Dt Rt th (nI L) (nI (1 + sr_tot os)) sl go gi) sz (nI L) (wM g fA wA nA tA rA dA oA cI cZ (sr_fl 0 16386 0 F) (sr_fl 0 16386 0 Wd) (sr_fl 0 16386 0 Nm) Tg Rc (sr_fl 0 16386 0 Dt) (sr_fl 0 16 0 Rt) 0 (nI L2) (nI (1 + sr_tot [])) 0 0 0) 0 0 := fun sz => ct_M_space_k l D g fA wA nA tA rA dA oA cI cZ F Wd Nm Tg Rc Dt Rt th (nI L) (nI (1 + sr_tot os)) sl go gi sz _ g1 g3
    by_cases c : L2 < N
    · left
      exact ⟨0, nI L, _, _, _, fun sz => wk_space l D h rr cc cI N R C (nI L) (nI (sr_tot os)) (nI os.length) sl go gi fr la re sz oo cJ O _ _ _ (fun sz => ct_X_space_k1 l D h rr cc cI N R C (nI L) (nI (sr_tot os)) (nI os.length) sl go gi fr la re sz _ hN g1 g2 (nI_lt c hN)), hM, sg_mk (os := []) (sg_e a2 c hF.1.2.2.2.2), Or.inr ⟨rfl, rfl⟩⟩
    · right
      refine ⟨by have := hF.1; omega, nI L, _, _, _, fun sz => we_space l D h rr cc cI N R C (nI L) (nI (sr_tot os)) (nI os.length) sl go gi fr la re sz oo cJ O _ _ _ (fun sz => ct_X_space_k2 l D h rr cc cI N R C (nI L) (nI (sr_tot os)) (nI os.length) sl go gi fr la re sz _ hN g1 g2 (nI_nlt (by omega) (by omega))), hM, fun q => sg_mk (os := []) (sg_e a2 (by omega) (Or.inr rfl)), rfl⟩
  · left
    exact ⟨1, 0, _, _, O, fun sz => wb_space l D h rr cc cI N R C (nI L) (nI (sr_tot os)) (nI os.length) sl go gi fr la re sz oo cJ O _ (fun sz => ct_X_space_b l D h rr cc cI N R C (nI L) (nI (sr_tot os)) (nI os.length) sl go gi fr la re sz _ hN hst b1), fun sz => ct_M_space_b l D g fA wA nA tA rA dA oA cI cZ F Wd Nm Tg Rc Dt Rt th (nI L) (nI (1 + sr_tot os)) sl go gi sz _ b2, sg_mk hF, Or.inl rfl⟩
end Steps
