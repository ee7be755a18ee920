/-! BOTH SIDES HOLD ONE STATE: objects os, roots, the limit L; the class's cells have N -/
def sg_F (os : List sr_O) (L N : Nat) (R C F Wd Nm Dt Rt : Nat → Int32) : Prop :=
  (sr_ok os ∧ sr_tot os ≤ L ∧ L ≤ 16384 ∧ L < N ∧ (N = 2049 ∨ N = 16385)) ∧ sr_va os R ∧ (∀ r, r < 16 → Rt r = R r) ∧ sr_hc C 1 os ∧ sr_hd F Wd 1 os ∧ sr_hv Nm Dt 1 os ∧ sr_hz F os
def sg_W (h rr g fA wA nA tA rA dA oA : Nat) (cI cZ : ClassId) (th : Int32) (N : Nat) (wx wm : va_W) : Prop :=
  ∃ (cc : Nat) (os : List sr_O) (L : Nat) (R C F Wd Nm Tg Rc Dt Rt : Nat → Int32) (sl go gi fr la re : Int32), wx = wX h rr cc cI N R C (nI L) (nI (sr_tot os)) (nI os.length) sl go gi fr la re ∧ wm = wM g fA wA nA tA rA dA oA cI cZ F Wd Nm Tg Rc Dt Rt th (nI L) (nI (1 + sr_tot os)) sl go gi ∧ sg_F os L N R C F Wd Nm Dt Rt
section Glue
variable {h rr cc g fA wA nA tA rA dA oA : Nat} {cI cZ : ClassId} {os : List sr_O} {L N : Nat} {R C F Wd Nm Tg Rc Dt Rt : Nat → Int32} {sl go gi fr la re th : Int32}
theorem sg_mk (hF : sg_F os L N R C F Wd Nm Dt Rt) : sg_W h rr g fA wA nA tA rA dA oA cI cZ th N (wX h rr cc cI N R C (nI L) (nI (sr_tot os)) (nI os.length) sl go gi fr la re) (wM g fA wA nA tA rA dA oA cI cZ F Wd Nm Tg Rc Dt Rt th (nI L) (nI (1 + sr_tot os)) sl go gi) :=
  ⟨cc, os, L, R, C, F, Wd, Nm, Tg, Rc, Dt, Rt, sl, go, gi, fr, la, re, rfl, rfl, hF⟩
theorem sg_mk2 {os' : List sr_O} (hF : sg_F os' L N R C F Wd Nm Dt Rt) (h1 : sr_tot os' = sr_tot os) (h2 : os'.length = os.length) : sg_W h rr g fA wA nA tA rA dA oA cI cZ th N (wX h rr cc cI N R C (nI L) (nI (sr_tot os)) (nI os.length) sl go gi fr la re) (wM g fA wA nA tA rA dA oA cI cZ F Wd Nm Tg Rc Dt Rt th (nI L) (nI (1 + sr_tot os)) sl go gi) :=
  ⟨cc, os', L, R, C, F, Wd, Nm, Tg, Rc, Dt, Rt, sl, go, gi, fr, la, re, by rw [h1, h2], by rw [h1], hF⟩
theorem sg_b (hF : sg_F os L N R C F Wd Nm Dt Rt) : N < 2 ^ 31 ∧ 1 + sr_tot os ≤ N ∧ 1 + sr_tot os ≤ 16385 ∧ (nI (1 + sr_tot os)).toInt ≤ 16385 ∧ os.length < 6000 := by
  obtain ⟨⟨-, h1, h2, h3, h4⟩, -⟩ := hF
  have h5 := sr_len_tot os
  refine ⟨by omega, by omega, by omega, ?_, by omega⟩
  rw [nI_toInt (by omega)]
  omega
theorem sg_isO (hF : sg_F os L N R C F Wd Nm Dt Rt) (a : Int32) : sr_isO N C a (nI os.length).toNatClampNeg 1 = true ↔ ∃ p o, sr_ob 1 os p o ∧ a = nI p := by
  obtain ⟨h1, h2, -, -, h4⟩ := sg_b hF
  rw [nI_clamp (by omega)]
  exact sr_isO_iff h1 os 1 hF.2.2.2.1 hF.1.1 (Nat.le_refl _) h2
theorem sg_mO (hF : sg_F os L N R C F Wd Nm Dt Rt) {p : Nat} {o : sr_O} (ho : sr_ob 1 os p o) : sm_iO F (nI (1 + sr_tot os)) (nI p) = 1 := by
  obtain ⟨h1, h2, h5, -, -⟩ := sg_b hF
  have hb := sr_ob_bd _ _ _ _ ho
  have h3 := sr_sz3 o
  have hk := hF.1.1 o (sr_ob_mem _ _ _ _ ho)
  unfold sm_iO
  rw [if_neg (sr_n1 hb.1 (by omega)), if_neg (nI_ge (by omega) (by omega)), nI_clamp (by omega), (hF.2.2.2.2.1 p o ho).1, if_neg (nI_nle (by omega) (by omega))]
theorem sg_mO0 (hF : sg_F os L N R C F Wd Nm Dt Rt) {a : Int32} (ha : ¬ ∃ p o, sr_ob 1 os p o ∧ a = nI p) : sm_iO F (nI (1 + sr_tot os)) a = 0 := by
  obtain ⟨h1, h2, h5, -, -⟩ := sg_b hF
  unfold sm_iO
  by_cases c1 : a < 1
  · rw [if_pos c1]
  · rw [if_neg c1]
    by_cases c2 : nI (1 + sr_tot os) ≤ a
    · rw [if_pos c2]
    · rw [if_neg c2]
      have e1 : (1 : Int32).toInt = 1 := by decide
      have e0 : (0 : Int32).toInt = 0 := by decide
      obtain ⟨j, hj, rfl⟩ := nI_of (x := a) (by rw [Int32.lt_iff_toInt_lt, e0]; rw [Int32.lt_iff_toInt_lt, e1] at c1; omega)
      rw [nI_leI (by omega) hj] at c2
      rw [nI_clamp hj, hF.2.2.2.2.2.2 j (fun o ho => ha ⟨j, o, ho, rfl⟩) (by omega)]
      exact if_pos (by decide)
/-- an address: an object's, or not -/
theorem sg_dec (hF : sg_F os L N R C F Wd Nm Dt Rt) (a : Int32) : (∃ p o, sr_ob 1 os p o ∧ a = nI p ∧ sr_isO N C a (nI os.length).toNatClampNeg 1 = true ∧ sm_iO F (nI (1 + sr_tot os)) a = 1) ∨ (sr_isO N C a (nI os.length).toNatClampNeg 1 = false ∧ sm_iO F (nI (1 + sr_tot os)) a = 0 ∧ ¬ a = 0) ∨ (a = 0 ∧ sr_isO N C a (nI os.length).toNatClampNeg 1 = false ∧ sm_iO F (nI (1 + sr_tot os)) a = 0) := by
  by_cases ha : ∃ p o, sr_ob 1 os p o ∧ a = nI p
  · obtain ⟨p, o, ho, rfl⟩ := ha
    exact Or.inl ⟨p, o, ho, rfl, (sg_isO hF _).mpr ⟨p, o, ho, rfl⟩, sg_mO hF ho⟩
  · have h1 : sr_isO N C a (nI os.length).toNatClampNeg 1 = false := by
      cases hh : sr_isO N C a (nI os.length).toNatClampNeg 1 with
      | false => rfl
      | true => exact absurd ((sg_isO hF a).mp hh) ha
    by_cases h0 : a = 0
    · exact Or.inr (Or.inr ⟨h0, h1, sg_mO0 hF ha⟩)
    · exact Or.inr (Or.inl ⟨h1, sg_mO0 hF ha, h0⟩)
theorem sg_bd (hF : sg_F os L N R C F Wd Nm Dt Rt) {p : Nat} {o : sr_O} (ho : sr_ob 1 os p o) : 1 ≤ p ∧ p + 3 + o.1 + o.2.1 ≤ N ∧ p + 3 + o.1 + o.2.1 ≤ 16385 ∧ o.1 ≤ 2000 ∧ o.2.1 ≤ 2000 := by
  obtain ⟨h1, h2, h5, -, -⟩ := sg_b hF
  have hb := sr_ob_bd _ _ _ _ ho
  have hs : sr_sz o = 3 + o.1 + o.2.1 := rfl
  have hk := hF.1.1 o (sr_ob_mem _ _ _ _ ho)
  omega
theorem sg_fi (hF : sg_F os L N R C F Wd Nm Dt Rt) {p : Nat} {o : sr_O} (ho : sr_ob 1 os p o) : sr_fi N C (nI p) = nI o.1 := by
  have hb := sg_bd hF ho
  exact sr_fi_eq (hF.2.2.2.1 p o ho) ⟨hb.2.2.2.1, hb.2.2.2.2⟩ hb.1 (by omega) (sg_b hF).1
theorem sg_wi (hF : sg_F os L N R C F Wd Nm Dt Rt) {p : Nat} {o : sr_O} (ho : sr_ob 1 os p o) : sr_wi N C (nI p) = nI o.2.1 := by
  have hb := sg_bd hF ho
  exact sr_wi_eq (hF.2.2.2.1 p o ho) ⟨hb.2.2.2.1, hb.2.2.2.2⟩ hb.1 (by omega) (sg_b hF).1
theorem sg_si (hF : sg_F os L N R C F Wd Nm Dt Rt) {p : Nat} {o : sr_O} (ho : sr_ob 1 os p o) : sr_si N C (nI p) = nI (sr_sz o) := by
  have hb := sg_bd hF ho
  exact sr_si_eq (hF.2.2.2.1 p o ho) ⟨hb.2.2.2.1, hb.2.2.2.2⟩ hb.1 (by omega) (sg_b hF).1
/-- a field's number: one of the object's, or not -/
theorem sg_n1 {k : Nat} (hk : k ≤ 2000) (f : Int32) : (∃ i, i < k ∧ f = nI i) ∨ (f < 0 ∨ ¬ f < nI k) := by
  by_cases c1 : f < 0
  · exact Or.inr (Or.inl c1)
  · obtain ⟨j, hj, rfl⟩ := nI_of c1
    by_cases c2 : nI j < nI k
    · exact Or.inl ⟨j, (nI_ltI hj (by omega)).mp c2, rfl⟩
    · exact Or.inr (Or.inr c2)
theorem sg_le {k j : Int32} (h : ¬ j < k) : k ≤ j := by
  rw [Int32.lt_iff_toInt_lt] at h
  rw [Int32.le_iff_toInt_le]
  omega
theorem sg_fd (hF : sg_F os L N R C F Wd Nm Dt Rt) {p : Nat} {o : sr_O} (ho : sr_ob 1 os p o) (f : Int32) : (∃ i, i < o.1 ∧ f = nI i ∧ sm_iF F (nI (1 + sr_tot os)) (nI p) f = 1 ∧ ¬ f < 0 ∧ f < sr_fi N C (nI p)) ∨ ((f < 0 ∨ ¬ f < sr_fi N C (nI p)) ∧ sm_iF F (nI (1 + sr_tot os)) (nI p) f = 0) := by
  have hb := sg_bd hF ho
  rw [sg_fi hF ho]
  have e : F (nI p).toNatClampNeg - 1 = nI o.1 := by rw [nI_clamp (by omega), (hF.2.2.2.2.1 p o ho).1, nI_pred]
  unfold sm_iF
  rw [sg_mO hF ho, if_neg (by decide), e]
  rcases sg_n1 hb.2.2.2.1 f with ⟨i, hi, rfl⟩ | h1
  · exact Or.inl ⟨i, hi, rfl, by rw [if_neg (nI_pos (by omega)), if_neg (nI_ge hi (by omega))], nI_pos (by omega), nI_lt hi (by omega)⟩
  · refine Or.inr ⟨h1, ?_⟩
    by_cases c1 : f < 0
    · rw [if_pos c1]
    · rw [if_neg c1, if_pos (sg_le (h1.resolve_left c1))]
theorem sg_wd (hF : sg_F os L N R C F Wd Nm Dt Rt) {p : Nat} {o : sr_O} (ho : sr_ob 1 os p o) (f : Int32) : (∃ i, i < o.2.1 ∧ f = nI i ∧ sm_iW F Wd (nI (1 + sr_tot os)) (nI p) f = 1 ∧ ¬ f < 0 ∧ f < sr_wi N C (nI p)) ∨ ((f < 0 ∨ ¬ f < sr_wi N C (nI p)) ∧ sm_iW F Wd (nI (1 + sr_tot os)) (nI p) f = 0) := by
  have hb := sg_bd hF ho
  rw [sg_wi hF ho]
  have e : Wd (nI p).toNatClampNeg = nI o.2.1 := by rw [nI_clamp (by omega), (hF.2.2.2.2.1 p o ho).2]
  unfold sm_iW
  rw [sg_mO hF ho, if_neg (by decide), e]
  rcases sg_n1 hb.2.2.2.2 f with ⟨i, hi, rfl⟩ | h1
  · exact Or.inl ⟨i, hi, rfl, by rw [if_neg (nI_pos (by omega)), if_neg (nI_ge hi (by omega))], nI_pos (by omega), nI_lt hi (by omega)⟩
  · refine Or.inr ⟨h1, ?_⟩
    by_cases c1 : f < 0
    · rw [if_pos c1]
    · rw [if_neg c1, if_pos (sg_le (h1.resolve_left c1))]
/-- without an object: no field, no word -/
theorem sg_iF0 {tp a f : Int32} (h0 : sm_iO F tp a = 0) : sm_iF F tp a f = 0 := by unfold sm_iF; rw [if_pos h0]
theorem sg_iW0 {tp a f : Int32} (h0 : sm_iO F tp a = 0) : sm_iW F Wd tp a f = 0 := by unfold sm_iW; rw [if_pos h0]
/-- where a content stands -/
theorem sg_fx (p i : Nat) : nI p + 3 + nI i = nI (p + 3 + i) := by rw [show nI p + 3 = nI (p + 3) from nI_add p 3, nI_add]
theorem sg_wx (hF : sg_F os L N R C F Wd Nm Dt Rt) {p : Nat} {o : sr_O} (ho : sr_ob 1 os p o) (j : Nat) : nI p + 3 + sr_fi N C (nI p) + nI j = nI (p + 3 + (o.1 + j)) := by
  rw [sg_fi hF ho, sg_fx, nI_add, Nat.add_assoc]
theorem sg_wm (hF : sg_F os L N R C F Wd Nm Dt Rt) {p : Nat} {o : sr_O} (ho : sr_ob 1 os p o) (j : Nat) : nI p + 2 + F (nI p).toNatClampNeg + nI j = nI (p + 3 + (o.1 + j)) := by
  have hb := sg_bd hF ho
  rw [nI_clamp (by omega), (hF.2.2.2.2.1 p o ho).1, show nI p + 2 = nI (p + 2) from nI_add p 2, nI_add, nI_add]
  congr 1
  omega
theorem sg_rd (hF : sg_F os L N R C F Wd Nm Dt Rt) {p : Nat} {o : sr_O} (ho : sr_ob 1 os p o) {i : Nat} (hi : i < o.1 + o.2.1) : sr_rd N C (nI (p + 3 + i)) = o.2.2.2 i := by
  have hb := sg_bd hF ho
  rw [sr_rd_in (by omega) (by omega) (sg_b hF).1]
  exact (hF.2.2.2.1 p o ho).2.2 i hi
theorem sg_wr (hF : sg_F os L N R C F Wd Nm Dt Rt) {p : Nat} {o : sr_O} (ho : sr_ob 1 os p o) {i : Nat} (hi : i < o.1 + o.2.1) (v : Int32) : sr_wr N C (nI (p + 3 + i)) v = upd C (p + 3 + i) v := by
  have hb := sg_bd hF ho
  exact sr_wr_in (by omega) (by omega) (sg_b hF).1
theorem sg_dt (hF : sg_F os L N R C F Wd Nm Dt Rt) {p : Nat} {o : sr_O} (ho : sr_ob 1 os p o) {i : Nat} (hi : i < o.1 + o.2.1) : Dt (nI (p + 3 + i)).toNatClampNeg = o.2.2.2 i := by
  have hb := sg_bd hF ho
  rw [nI_clamp (by omega)]
  exact (hF.2.2.2.2.2.1 p o ho).2 i hi
theorem sg_vi (hF : sg_F os L N R C F Wd Nm Dt Rt) {p : Nat} {o : sr_O} (ho : sr_ob 1 os p o) {i : Nat} (hi : i < o.1 + o.2.1) : vp_in (nI (p + 3 + i)) 16386 := by
  have hb := sg_bd hF ho
  exact vp_in_nI (by omega) (by omega)
theorem sg_gs (hF : sg_F os L N R C F Wd Nm Dt Rt) {p : Nat} {o : sr_O} (ho : sr_ob 1 os p o) {i : Nat} (hi : i < o.1 + o.2.1) {v : Int32} (hv : i < o.1 → sr_ad os v) : sg_F (sr_up (sr_gs i v) 1 os p) L N R (upd C (p + 3 + i) v) F Wd Nm (upd Dt (p + 3 + i) v) Rt := by
  obtain ⟨⟨h1, h2, h3, h4, h5⟩, h6, h7, h8, h9, h10, h11⟩ := hF
  exact ⟨⟨sr_up_ok (sr_gs_sh i v) os 1 p h1, by rw [sr_up_tot (sr_gs_sh i v)]; exact h2, h3, h4, h5⟩, sr_gs_va ho h6 hv, h7, sr_gs_hc ho h8 hi v, sr_up_hd (sr_gs_sh i v) h9, sr_gs_hv ho h10 hi v, sr_up_hz (sr_gs_sh i v) h11⟩
theorem sg_gn (hF : sg_F os L N R C F Wd Nm Dt Rt) {p : Nat} {o : sr_O} (ho : sr_ob 1 os p o) (v : Int32) : sg_F (sr_up (sr_gn v) 1 os p) L N R (upd C (p + 1) v) F Wd (upd Nm p v) Dt Rt := by
  obtain ⟨⟨h1, h2, h3, h4, h5⟩, h6, h7, h8, h9, h10, h11⟩ := hF
  exact ⟨⟨sr_up_ok (sr_gn_sh v) os 1 p h1, by rw [sr_up_tot (sr_gn_sh v)]; exact h2, h3, h4, h5⟩, sr_gn_va h6, h7, sr_gn_hc ho h8 v, sr_up_hd (sr_gn_sh v) h9, sr_gn_hv ho h10 v, sr_up_hz (sr_gn_sh v) h11⟩
/-- the roots -/
theorem sg_rx (x : Int32) : (∃ j, j < 16 ∧ x = nI j ∧ ¬ x < 0 ∧ x < nI 16 ∧ sm_iR x = 1) ∨ ((x < 0 ∨ ¬ x < nI 16) ∧ sm_iR x = 0) := by
  have e15 : (15 : Int32).toInt = 15 := by decide
  have e16 : (nI 16).toInt = 16 := by decide
  unfold sm_iR
  rcases sg_n1 (k := 16) (by omega) x with ⟨i, hi, rfl⟩ | h1
  · exact Or.inl ⟨i, hi, rfl, nI_pos (by omega), nI_lt hi (by omega), by rw [if_neg (nI_pos (by omega)), if_neg (show ¬ (15 : Int32) < nI i from nI_nlt (a := 15) (by omega) (by omega))]⟩
  · refine Or.inr ⟨h1, ?_⟩
    by_cases c1 : x < 0
    · rw [if_pos c1]
    · rw [if_neg c1, if_pos]
      have h2 := h1.resolve_left c1
      rw [Int32.lt_iff_toInt_lt, e16] at h2
      rw [Int32.lt_iff_toInt_lt, e15]
      omega
theorem sg_rt (hF : sg_F os L N R C F Wd Nm Dt Rt) {j : Nat} (hj : j < 16) {v : Int32} (hv : sr_ad os v) : sg_F os L N (upd R j v) C F Wd Nm Dt (upd Rt j v) := by
  obtain ⟨h1, h6, h7, h8⟩ := hF
  refine ⟨h1, ⟨fun r hr => ?_, h6.2⟩, fun r hr => ?_, h8⟩
  · by_cases e : r = j
    · rw [e, pk_us]; exact hv
    · rw [pk_un e]; exact h6.1 r hr
  · by_cases e : r = j
    · rw [e, pk_us, pk_us]
    · rw [pk_un e, pk_un e]; exact h7 r hr
/-- next -/
theorem sg_nx {t q : Nat} (ht : t < 2 ^ 30) (hq : q < 2 ^ 31) : (if nI t < nI q then (0 : Int32) else nI q) = if nI (1 + t) ≤ nI q then 0 else nI q := by
  by_cases c : t < q
  · rw [if_pos (nI_lt c hq), if_pos (nI_le (by omega) hq)]
  · rw [if_neg (nI_nlt (by omega) (by omega)), if_neg (nI_ge (by omega) (by omega))]
/-- reached alike -/
theorem sg_m (h7 : ∀ r, r < 16 → Rt r = R r) : sr_m os Rt = sr_m os R := by
  have hcl : ∀ S, sr_cl os Rt S ↔ sr_cl os R S := fun S => ⟨fun z => ⟨fun r hr p o hp he => z.1 r hr p o hp (by rw [h7 r hr]; exact he), z.2⟩, fun z => ⟨fun r hr p o hp he => z.1 r hr p o hp (by rw [← h7 r hr]; exact he), z.2⟩⟩
  have hR : ∀ p, sr_R os Rt p = sr_R os R p := fun p => propext ⟨fun z S hS => z S ((hcl S).mpr hS), fun z S hS => z S ((hcl S).mp hS)⟩
  funext p
  unfold sr_m
  rw [hR p]
theorem sg_va {R' : Nat → Int32} (h : sr_va os R) (h7 : ∀ r, r < 16 → R' r = R r) : sr_va os R' := ⟨fun r hr => by rw [h7 r hr]; exact h.1 r hr, h.2⟩
theorem sg_adv (hF : sg_F os L N R C F Wd Nm Dt Rt) {v : Int32} (h : sr_ad os v) : vp_in v 16386 := by
  rcases h with rfl | ⟨p, o, ho, rfl⟩
  · exact vp_in_nI (n := 0) (by omega) (by omega)
  · have := sg_bd hF ho
    exact vp_in_nI (by omega) (by omega)
theorem sg_hR (hF : sg_F os L N R C F Wd Nm Dt Rt) : ∀ r1, r1 < 16 → vp_in (Rt r1) 16386 := fun r hr => by rw [hF.2.2.1 r hr]; exact sg_adv hF (hF.2.1.1 r hr)
theorem sg_hV (hF : sg_F os L N R C F Wd Nm Dt Rt) : ∀ q1 o1, sr_ob 1 os q1 o1 → ∀ i1, i1 < o1.1 → vp_in (Dt (q1 + 3 + i1)) 16386 := fun q o ho i hi => by
  rw [(hF.2.2.2.2.2.1 q o ho).2 i (by omega)]
  exact sg_adv hF (hF.2.1.2 q o ho i hi)
/-- what the model marks -/
theorem sg_mk9 (hF : sg_F os L N R C F Wd Nm Dt Rt) : ∀ p o, sr_ob 1 os p o → (sm_rc Dt Rt os (1 + sr_tot os) Rc p ≠ 0 ↔ sr_R os Rt p) := by
  obtain ⟨h1, h2, h5, -, h6⟩ := sg_b hF
  refine sr_reach_spec (by omega) h6 (sg_va hF.2.1 hF.2.2.1) (fun p o ho i hi => (hF.2.2.2.2.2.1 p o ho).2 i (by omega)) (fun p hp => ?_)
  rw [sr_fl_eq, if_pos (by omega)]
theorem sg_kp (hF : sg_F os L N R C F Wd Nm Dt Rt) : sr_kp (sr_mm (sm_rc Dt Rt os (1 + sr_tot os) Rc)) 1 os = sr_kp (sr_m os R) 1 os := by
  rw [← sg_m hF.2.2.1]
  refine sr_kp_congr os 1 fun p o hp => ?_
  have hm := sg_mk9 (Rc := Rc) hF p o hp
  cases h9 : sr_m os Rt p with
  | true => exact sr_mm_t.mpr (hm.mpr (sr_b_iff.mp h9))
  | false =>
    cases h2 : sr_mm (sm_rc Dt Rt os (1 + sr_tot os) Rc) p with
    | false => rfl
    | true => exact absurd (hm.mp (sr_mm_t.mp h2)) (sr_b_not.mp h9)
/-- reach, and what it leaves of the class's cells -/
theorem sg_ch (hF : sg_F os L N R C F Wd Nm Dt Rt) : sg_F os L N R (sr_chR N R os.length C).1 F Wd Nm Dt Rt ∧ (sr_chR N R os.length C).2.2.2 = nI (sr_kp (sr_m os R) 1 os).length := by
  obtain ⟨h1, h2, -, -, -⟩ := sg_b hF
  obtain ⟨e1, e2, e3⟩ := sr_chR_spec h1 h2 hF.1.1 hF.2.1 hF.2.2.2.1
  exact ⟨⟨hF.1, hF.2.1, hF.2.2.1, e1, hF.2.2.2.2⟩, e3⟩
/-- make -/
theorem sg_nw (hF : sg_F os L N R C F Wd Nm Dt Rt) {f w : Nat} (hf : f ≤ 2000) (hw : w ≤ 2000) (hr : sr_tot os + (3 + f + w) ≤ L) :
    sg_F (os ++ [sr_nw f w]) L N R (sr_wr N (sr_cc N (nI (sr_tot os) + 1) ((3 : Int32) + nI f + nI w).toNatClampNeg 0 C) (nI (sr_tot os) + 1 + 0) (nI f <<< ((12 : Int32) &&& 31) ||| nI w)) (upd F (1 + sr_tot os) (nI (f + 1))) (upd Wd (1 + sr_tot os) (nI w)) (upd Nm (1 + sr_tot os) 0) (sm_c (1 + sr_tot os) (3 + f + w) 0 Dt) Rt := by
  obtain ⟨⟨h1, h2, h3, h4, h5⟩, h6, h7, h8, h9, h10, h11⟩ := hF
  have e1 : (3 : Int32) + nI f + nI w = nI (3 + f + w) := by rw [show (3 : Int32) + nI f = nI (3 + f) from nI_add 3 f, nI_add]
  have e2 : nI (sr_tot os) + 1 = nI (1 + sr_tot os) := by rw [nI_1, Nat.add_comm]
  have e3 : nI (sr_tot os) + 1 + 0 = nI (1 + sr_tot os) := by rw [e2, sr_a0]
  rw [e3, e2, e1, nI_clamp (by omega), sr_or hf hw, sr_wr_in (by omega) (by omega) (by omega)]
  have hcc : ∀ q, sr_cc N (nI (1 + sr_tot os)) (3 + f + w) 0 C q = if 1 + sr_tot os + 0 ≤ q ∧ q < 1 + sr_tot os + 0 + (3 + f + w) then 0 else C q := sr_cc_eq (by omega) (by omega) _ _ _ (by omega)
  refine ⟨⟨sr_nw_ok h1 hf hw, by rw [sr_nw_tot]; exact hr, h3, h4, h5⟩, sr_nw_va h6, h7, ?_, sr_nw_hd h9, ?_, sr_nw_hz h11⟩
  · refine sr_nw_hc h8 (fun q hq => ?_) pk_us (fun q hq1 hq2 => ?_)
    · rw [pk_un (by omega), hcc, if_neg (by omega)]
    · rw [pk_un (by omega), hcc, if_pos (by omega)]
  · refine sr_nw_hv h10 (fun q hq => ?_) (fun q hq1 hq2 => ?_)
    · rw [sm_c_eq, if_neg (by omega)]
    · rw [sm_c_eq, if_pos (by omega)]
/-- space: nothing stands there -/
theorem sg_e {L' N' : Nat} {C' : Nat → Int32} (h3 : L' ≤ 16384) (h4 : L' < N') (h5 : N' = 2049 ∨ N' = 16385) : sg_F [] L' N' (sr_fl 0 16 0 R) C' (sr_fl 0 16386 0 F) (sr_fl 0 16386 0 Wd) (sr_fl 0 16386 0 Nm) (sr_fl 0 16386 0 Dt) (sr_fl 0 16 0 Rt) :=
  ⟨⟨fun _ z => (List.not_mem_nil z).elim, Nat.zero_le _, h3, h4, h5⟩, ⟨fun r hr => Or.inl (by rw [sr_fl_eq, if_pos (by omega)]), fun _ _ z => z.elim⟩, fun r hr => by rw [sr_fl_eq, sr_fl_eq, if_pos (by omega), if_pos (by omega)], fun _ _ z => z.elim, fun _ _ z => z.elim, fun _ _ z => z.elim, fun q _ hq => by rw [sr_fl_eq, if_pos (by omega)]⟩
theorem sg_e0 : sg_F [] 2048 2049 (fun _ => 0) (fun _ => 0) (fun _ => 0) (fun _ => 0) (fun _ => 0) (fun _ => 0) (fun _ => 0) :=
  ⟨⟨fun _ z => (List.not_mem_nil z).elim, Nat.zero_le _, by omega, by omega, Or.inl rfl⟩, ⟨fun r hr => Or.inl rfl, fun _ _ z => z.elim⟩, fun r hr => rfl, fun _ _ z => z.elim, fun _ _ z => z.elim, fun _ _ z => z.elim, fun q _ hq => rfl⟩
theorem sg_as (a b c : Int32) : a + (b - c) = a + b - c := by rw [Int32.sub_eq_add_neg, Int32.sub_eq_add_neg, Int32.add_assoc]
end Glue
