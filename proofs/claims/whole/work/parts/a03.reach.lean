/-! WHAT IS REACHED, PURE; the class's chain -/
def sr_kp (m : Nat → Bool) : Nat → List sr_O → List sr_O
  | _, [] => []
  | a, o :: os => if m a = true then o :: sr_kp m (a + sr_sz o) os else sr_kp m (a + sr_sz o) os
theorem sr_kp_congr {m m' : Nat → Bool} : ∀ (os : List sr_O) (a : Nat), (∀ p o, sr_ob a os p o → m p = m' p) → sr_kp m a os = sr_kp m' a os
  | [], _, _ => rfl
  | o :: os, a, h => by
    have e := h a o (Or.inl ⟨rfl, rfl⟩)
    simp only [sr_kp, e, sr_kp_congr os (a + sr_sz o) (fun p x hx => h p x (Or.inr hx))]
theorem sr_kp_len {m : Nat → Bool} : ∀ (os : List sr_O) (a : Nat), (sr_kp m a os).length ≤ os.length
  | [], _ => Nat.le_refl _
  | o :: os, a => by
    have h := sr_kp_len (m := m) os (a + sr_sz o)
    simp only [sr_kp]
    split
    · simp only [List.length_cons]; omega
    · simp only [List.length_cons]; omega
theorem sr_kp_tot {m : Nat → Bool} : ∀ (os : List sr_O) (a : Nat), sr_tot (sr_kp m a os) ≤ sr_tot os
  | [], _ => Nat.le_refl _
  | o :: os, a => by
    have h := sr_kp_tot (m := m) os (a + sr_sz o)
    simp only [sr_kp]
    split
    · simp only [sr_tot]; omega
    · simp only [sr_tot]; omega
theorem sr_kp_app {m : Nat → Bool} : ∀ (xs ys : List sr_O) (a : Nat), sr_kp m a (xs ++ ys) = sr_kp m a xs ++ sr_kp m (a + sr_tot xs) ys
  | [], ys, a => by simp [sr_kp, sr_tot]
  | x :: xs, ys, a => by
    have h := sr_kp_app (m := m) xs ys (a + sr_sz x)
    rw [show a + sr_sz x + sr_tot xs = a + sr_tot (x :: xs) from by simp only [sr_tot]; omega] at h
    simp only [List.cons_append, sr_kp, h]
    split <;> simp
theorem sr_kp_mem {m : Nat → Bool} : ∀ (os : List sr_O) (a : Nat), ∀ x ∈ sr_kp m a os, x ∈ os
  | [], _, x, h => h
  | o :: os, a, x, h => by
    simp only [sr_kp] at h
    split at h
    · rcases List.mem_cons.mp h with rfl | h
      · exact List.mem_cons_self
      · exact List.mem_cons_of_mem _ (sr_kp_mem os _ x h)
    · exact List.mem_cons_of_mem _ (sr_kp_mem os _ x h)
theorem sr_kp_add {m m' : Nat → Bool} {x : Nat} (hx : m x = false) (hx' : m' x = true) (hne : ∀ p, p ≠ x → m' p = m p) : ∀ (os : List sr_O) (a : Nat) (o : sr_O), sr_ob a os x o → (sr_kp m' a os).length = (sr_kp m a os).length + 1
  | [], _, _, h => h.elim
  | y :: ys, a, o, h => by
    rcases h with ⟨rfl, rfl⟩ | h
    · have e := sr_kp_congr (m := m') (m' := m) ys (x + sr_sz o) (fun p z hz => hne p (by have h1 := (sr_ob_bd _ _ _ _ hz).1; have h2 := sr_sz3 o; omega))
      simp only [sr_kp, hx, hx', e]
      simp
    · have h1 := (sr_ob_bd _ _ _ _ h).1
      have h2 := sr_sz3 y
      have e := hne a (by omega)
      have ih := sr_kp_add hx hx' hne ys (a + sr_sz y) o h
      simp only [sr_kp, e]
      split
      · simp only [List.length_cons, ih]
      · exact ih
/-- a set of addresses that holds what the roots tell, and with an object what its fields tell -/
def sr_cl (os : List sr_O) (rt : Nat → Int32) (S : Nat → Prop) : Prop :=
  (∀ r, r < 16 → ∀ p o, sr_ob 1 os p o → rt r = nI p → S p) ∧ ∀ p o, sr_ob 1 os p o → S p → ∀ i, i < o.1 → ∀ q x, sr_ob 1 os q x → o.2.2.2 i = nI q → S q
def sr_R (os : List sr_O) (rt : Nat → Int32) (p : Nat) : Prop := ∀ S : Nat → Prop, sr_cl os rt S → S p
theorem sr_R_cl (os : List sr_O) (rt : Nat → Int32) : sr_cl os rt (sr_R os rt) :=
  ⟨fun r hr p o hp he S hS => hS.1 r hr p o hp he, fun p o hp h i hi q x hq he S hS => hS.2 p o hp (h S hS) i hi q x hq he⟩
noncomputable def sr_b (P : Prop) : Bool := @decide P (Classical.propDecidable P)
theorem sr_b_iff {P : Prop} : sr_b P = true ↔ P := by
  unfold sr_b
  exact @decide_eq_true_iff P (Classical.propDecidable P)
theorem sr_b_not {P : Prop} : sr_b P = false ↔ ¬ P := by
  cases h : sr_b P with
  | true => simp [sr_b_iff.mp h]
  | false => simp; intro q; rw [sr_b_iff.mpr q] at h; cases h
noncomputable def sr_m (os : List sr_O) (rt : Nat → Int32) : Nat → Bool := fun p => sr_b (sr_R os rt p)
/-- an address that is nothing or an object's -/
def sr_ad (os : List sr_O) (v : Int32) : Prop := v = 0 ∨ ∃ p o, sr_ob 1 os p o ∧ v = nI p
def sr_va (os : List sr_O) (rt : Nat → Int32) : Prop := (∀ r, r < 16 → sr_ad os (rt r)) ∧ ∀ p o, sr_ob 1 os p o → ∀ i, i < o.1 → sr_ad os (o.2.2.2 i)
/-! the class's chain: cells, first, last, how many -/
abbrev sr_Q : Type := (Nat → Int32) × Int32 × Int32 × Int32
def sr_rch (N : Nat) (q : sr_Q) (a : Int32) : sr_Q :=
  if a = 0 then q else if sr_rd N q.1 (a + 2) = 0 then
    (if q.2.1 = 0 then (sr_wr N q.1 (a + 2) (-1), a, a, q.2.2.2 + 1) else (sr_wr N (sr_wr N q.1 (a + 2) (-1)) (q.2.2.1 + 2) a, q.2.1, a, q.2.2.2 + 1))
  else q
def sr_rcf (N : Nat) (a : Int32) : Nat → Nat → sr_Q → sr_Q
  | 0, _, q => q
  | n + 1, i, q => sr_rcf N a n (i + 1) (sr_rch N q (sr_rd N q.1 (a + 3 + nI i)))
def sr_rcr (N : Nat) (rt : Nat → Int32) : Nat → Nat → sr_Q → sr_Q
  | 0, _, q => q
  | n + 1, i, q => sr_rcr N rt n (i + 1) (sr_rch N q (rt i))
def sr_chn (N : Nat) : Nat → Int32 → sr_Q → sr_Q
  | 0, _, q => q
  | n + 1, a, q => if a ≤ 0 then q else sr_chn N n (sr_rd N (sr_rcf N a (sr_fi N q.1 a).toNatClampNeg 0 q).1 (a + 2)) (sr_rcf N a (sr_fi N q.1 a).toNatClampNeg 0 q)
def sr_lk (C : Nat → Int32) : List Nat → Prop
  | [] => True
  | [x] => C (x + 2) = -1
  | x :: y :: t => C (x + 2) = nI y ∧ sr_lk C (y :: t)
theorem sr_lk_snoc {C C' : Nat → Int32} {x z : Nat} (h1 : C' (z + 2) = nI x) (h2 : C' (x + 2) = -1) : ∀ (L : List Nat), sr_lk C (L ++ [z]) → (∀ y ∈ L, C' (y + 2) = C (y + 2)) → sr_lk C' (L ++ [z] ++ [x])
  | [], _, _ => ⟨h1, h2⟩
  | [y], h, g => ⟨(g y List.mem_cons_self).trans h.1, h1, h2⟩
  | y :: w :: t, h, g => ⟨(g y List.mem_cons_self).trans h.1, sr_lk_snoc h1 h2 (w :: t) h.2 (fun v hv => g v (List.mem_cons_of_mem _ hv))⟩
theorem sr_lk_next {C : Nat → Int32} {x y : Nat} {t : List Nat} : ∀ (L : List Nat), sr_lk C (L ++ x :: y :: t) → C (x + 2) = nI y
  | [], h => h.1
  | [_], h => h.2.1
  | _ :: w :: u, h => sr_lk_next (w :: u) h.2
theorem sr_lk_last {C : Nat → Int32} {x : Nat} : ∀ (L : List Nat), sr_lk C (L ++ [x]) → C (x + 2) = -1
  | [], h => h
  | [_], h => h.2
  | _ :: w :: u, h => sr_lk_last (w :: u) h.2
def sr_J (os : List sr_O) (rt : Nat → Int32) (q : sr_Q) (L : List Nat) : Prop :=
  sr_hc q.1 1 os ∧ (∀ x ∈ L, ∃ o, sr_ob 1 os x o) ∧ L.Nodup ∧ (∀ p o, sr_ob 1 os p o → (q.1 (p + 2) = 0 ↔ p ∉ L)) ∧ sr_lk q.1 L ∧
  ((L = [] ∧ q.2.1 = 0) ∨ ∃ x t L' z, L = x :: t ∧ L = L' ++ [z] ∧ q.2.1 = nI x ∧ q.2.2.1 = nI z) ∧ q.2.2.2 = nI L.length ∧ (∀ x ∈ L, sr_R os rt x) ∧
  (sr_kp (fun p => decide (p ∈ L)) 1 os).length = L.length
section Reach
variable {N : Nat} {os : List sr_O} {rt : Nat → Int32}
theorem sr_ne0 {x : Nat} (h : 1 ≤ x) (h2 : x < 2 ^ 31) : nI x ≠ 0 := nI_ne0 h h2
theorem sr_m10 : (-1 : Int32) ≠ 0 := by decide
theorem sr_J_rch (hN : N < 2 ^ 31) (hb : 1 + sr_tot os ≤ N) {q : sr_Q} {L : List Nat} (J : sr_J os rt q L) {x : Nat} {o : sr_O} (ho : sr_ob 1 os x o) (hR : sr_R os rt x) :
    ∃ E, sr_J os rt (sr_rch N q (nI x)) (L ++ E) ∧ x ∈ L ++ E := by
  obtain ⟨C, fr, la, re⟩ := q
  obtain ⟨hc, hL, hnd, hmk, hlk, hends, hre, hLR, hcnt⟩ := J
  dsimp only at hc hmk hlk hends hre
  have hbd := sr_ob_bd _ _ _ _ ho
  have h3 := sr_sz3 o
  have hx0 : nI x ≠ 0 := sr_ne0 hbd.1 (by omega)
  have erd : sr_rd N C (nI x + 2) = C (x + 2) := by rw [show nI x + 2 = nI (x + 2) from nI_add x 2, sr_rd_in (by omega) (by omega) hN]
  by_cases hm : x ∈ L
  · refine ⟨[], ?_, by simpa using hm⟩
    have e : sr_rch N (C, fr, la, re) (nI x) = (C, fr, la, re) := by
      unfold sr_rch
      rw [if_neg hx0]
      dsimp only
      rw [erd, if_neg (fun h => (hmk x o ho).mp h hm)]
    rw [e, List.append_nil]
    exact ⟨hc, hL, hnd, hmk, hlk, hends, hre, hLR, hcnt⟩
  · have hC0 : C (x + 2) = 0 := (hmk x o ho).mpr hm
    have ewr : ∀ v, sr_wr N C (nI x + 2) v = upd C (x + 2) v := fun v => by rw [show nI x + 2 = nI (x + 2) from nI_add x 2, sr_wr_in (by omega) (by omega) hN]
    have hcnt' : (sr_kp (fun p => decide (p ∈ L ++ [x])) 1 os).length = (L ++ [x]).length := by
      rw [sr_kp_add (m := fun p => decide (p ∈ L)) (m' := fun p => decide (p ∈ L ++ [x])) (x := x) (by simpa using hm) (by simp) (fun p hp => by simp [hp]) os 1 o ho, hcnt]
      simp
    have hnd' : (L ++ [x]).Nodup := by
      rw [List.nodup_append]
      refine ⟨hnd, by simp, fun a ha b hb => ?_⟩
      rw [List.mem_singleton.mp hb]
      exact fun h => hm (h ▸ ha)
    have hL' : ∀ y ∈ L ++ [x], ∃ o, sr_ob 1 os y o := fun y hy => by
      rcases List.mem_append.mp hy with h | h
      · exact hL y h
      · rw [List.mem_singleton.mp h]; exact ⟨o, ho⟩
    have hLR' : ∀ y ∈ L ++ [x], sr_R os rt y := fun y hy => by
      rcases List.mem_append.mp hy with h | h
      · exact hLR y h
      · rw [List.mem_singleton.mp h]; exact hR
    have hre' : re + 1 = nI (L ++ [x]).length := by rw [hre, List.length_append]; exact nI_1 _
    refine ⟨[x], ?_, by simp⟩
    rcases hends with ⟨hLe, hfr⟩ | ⟨y, t, L', z, hy, hz, hfr, hla⟩
    · have e : sr_rch N (C, fr, la, re) (nI x) = (upd C (x + 2) (-1), nI x, nI x, re + 1) := by
        unfold sr_rch
        rw [if_neg hx0]
        dsimp only
        rw [erd, if_pos hC0, if_pos hfr, ewr]
      rw [e]
      refine ⟨(sr_lo.put ho (-1)).hc hc, hL', hnd', fun p y hp => ?_, ?_, Or.inr ⟨x, [], [], x, by rw [hLe]; rfl, by rw [hLe], rfl, rfl⟩, hre', hLR', hcnt'⟩
      · subst hLe
        show upd C (x + 2) (-1) (p + 2) = 0 ↔ _
        by_cases hpx : p = x
        · subst hpx
          rw [pk_us]
          simp [sr_m10]
        · rw [pk_un (by omega)]
          rw [hmk p y hp]
          simp [hpx]
      · subst hLe
        exact pk_us
    · have hfr0 : fr ≠ 0 := by
        rw [hfr]
        obtain ⟨o', ho'⟩ := hL y (by rw [hy]; exact List.mem_cons_self)
        have := sr_ob_bd _ _ _ _ ho'
        have := sr_sz3 o'
        exact sr_ne0 (by omega) (by omega)
      have hzL : z ∈ L := by rw [hz]; simp
      obtain ⟨oz, hoz⟩ := hL z hzL
      have hbz := sr_ob_bd _ _ _ _ hoz
      have hz3 := sr_sz3 oz
      have hzx : z ≠ x := fun h => hm (h ▸ hzL)
      have e : sr_rch N (C, fr, la, re) (nI x) = (upd (upd C (x + 2) (-1)) (z + 2) (nI x), fr, nI x, re + 1) := by
        unfold sr_rch
        rw [if_neg hx0]
        dsimp only
        rw [erd, if_pos hC0, if_neg hfr0, ewr, hla, show nI z + 2 = nI (z + 2) from nI_add z 2, sr_wr_in (by omega) (by omega) hN]
      rw [e]
      have hzL' : z ∉ L' := by
        rw [hz, List.nodup_append] at hnd
        exact fun h => hnd.2.2 z h z (by simp) rfl
      refine ⟨(sr_lo.put hoz (nI x)).hc ((sr_lo.put ho (-1)).hc hc), hL', hnd', fun p w hp => ?_, ?_, Or.inr ⟨y, t ++ [x], L, x, by rw [hy]; rfl, rfl, hfr, rfl⟩, hre', hLR', hcnt'⟩
      · show upd (upd C (x + 2) (-1)) (z + 2) (nI x) (p + 2) = 0 ↔ _
        by_cases hpz : p = z
        · subst hpz
          rw [pk_us]
          simp [hx0, hzL]
        · rw [pk_un (by omega)]
          by_cases hpx : p = x
          · subst hpx
            rw [pk_us]
            simp [sr_m10]
          · rw [pk_un (by omega), hmk p w hp]
            simp [hpx]
      · show sr_lk (upd (upd C (x + 2) (-1)) (z + 2) (nI x)) (L ++ [x])
        rw [hz]
        refine sr_lk_snoc (C := C) pk_us ?_ L' (hz ▸ hlk) (fun v hv => ?_)
        · rw [pk_un (by omega)]; exact pk_us
        · have hvL : v ∈ L := by rw [hz]; exact List.mem_append_left _ hv
          have h1 : v ≠ z := fun h => hzL' (h ▸ hv)
          have h2 : v ≠ x := fun h => hm (h ▸ hvL)
          rw [pk_un (by omega), pk_un (by omega)]
theorem sr_J_rch0 {q : sr_Q} : sr_rch N q 0 = q := by
  unfold sr_rch
  rw [if_pos rfl]
/-- one object's fields -/
theorem sr_J_rcf (hN : N < 2 ^ 31) (hb : 1 + sr_tot os ≤ N) (hva : sr_va os rt) {a : Nat} {o : sr_O} (ho : sr_ob 1 os a o) (hR : sr_R os rt a) :
    ∀ (n i : Nat) (q : sr_Q) (L : List Nat), i + n = o.1 → sr_J os rt q L → ∃ E, sr_J os rt (sr_rcf N (nI a) n i q) (L ++ E) ∧ ∀ j, i ≤ j → j < o.1 → ∀ p x, sr_ob 1 os p x → o.2.2.2 j = nI p → p ∈ L ++ E
  | 0, i, q, L, hi, J => ⟨[], by rw [List.append_nil]; exact J, fun j h1 h2 => by omega⟩
  | n + 1, i, q, L, hi, J => by
    have hbd := sr_ob_bd _ _ _ _ ho
    have hs : sr_sz o = 3 + o.1 + o.2.1 := rfl
    have erd : sr_rd N q.1 (nI a + 3 + nI i) = o.2.2.2 i := by
      rw [show nI a + 3 = nI (a + 3) from nI_add a 3, nI_add, sr_rd_in (by omega) (by omega) hN]
      exact (J.1 a o ho).2.2 i (by omega)
    have step : ∃ E, sr_J os rt (sr_rch N q (o.2.2.2 i)) (L ++ E) ∧ ∀ p x, sr_ob 1 os p x → o.2.2.2 i = nI p → p ∈ L ++ E := by
      rcases hva.2 a o ho i (by omega) with h0 | ⟨p, x, hp, hv⟩
      · refine ⟨[], by rw [h0, sr_J_rch0, List.append_nil]; exact J, fun p x hp he => ?_⟩
        have hb2 := sr_ob_bd _ _ _ _ hp
        have h3 := sr_sz3 x
        exact absurd (he.symm.trans h0) (sr_ne0 (by omega) (by omega))
      · rw [hv]
        obtain ⟨E, h1, h2⟩ := sr_J_rch hN hb J hp ((sr_R_cl os rt).2 a o ho hR i (by omega) p x hp hv)
        refine ⟨E, h1, fun p' x' hp' he => ?_⟩
        have hb1 := sr_ob_bd _ _ _ _ hp
        have hb2 := sr_ob_bd _ _ _ _ hp'
        have h3 := sr_sz3 x
        have h4 := sr_sz3 x'
        have : p = p' := (nI_eq (by omega) (by omega)).mp he
        exact this ▸ h2
    obtain ⟨E, J1, hE⟩ := step
    obtain ⟨E', J2, hE'⟩ := sr_J_rcf hN hb hva ho hR n (i + 1) (sr_rch N q (o.2.2.2 i)) (L ++ E) (by omega) J1
    refine ⟨E ++ E', ?_, fun j h1 h2 p x hp he => ?_⟩
    · show sr_J os rt (sr_rcf N (nI a) n (i + 1) (sr_rch N q (sr_rd N q.1 (nI a + 3 + nI i)))) (L ++ (E ++ E'))
      rw [erd, ← List.append_assoc]
      exact J2
    · rw [← List.append_assoc]
      by_cases hj : j = i
      · subst hj
        exact List.mem_append_left _ (hE p x hp he)
      · exact hE' j (by omega) h2 p x hp he
/-- the roots -/
theorem sr_J_rcr (hN : N < 2 ^ 31) (hb : 1 + sr_tot os ≤ N) (hva : sr_va os rt) :
    ∀ (n i : Nat) (q : sr_Q) (L : List Nat), i + n = 16 → sr_J os rt q L → ∃ E, sr_J os rt (sr_rcr N rt n i q) (L ++ E) ∧ ∀ j, i ≤ j → j < 16 → ∀ p x, sr_ob 1 os p x → rt j = nI p → p ∈ L ++ E
  | 0, i, q, L, hi, J => ⟨[], by rw [List.append_nil]; exact J, fun j h1 h2 => by omega⟩
  | n + 1, i, q, L, hi, J => by
    have step : ∃ E, sr_J os rt (sr_rch N q (rt i)) (L ++ E) ∧ ∀ p x, sr_ob 1 os p x → rt i = nI p → p ∈ L ++ E := by
      rcases hva.1 i (by omega) with h0 | ⟨p, x, hp, hv⟩
      · refine ⟨[], by rw [h0, sr_J_rch0, List.append_nil]; exact J, fun p x hp he => ?_⟩
        have hb2 := sr_ob_bd _ _ _ _ hp
        have h3 := sr_sz3 x
        exact absurd (he.symm.trans h0) (sr_ne0 (by omega) (by omega))
      · rw [hv]
        obtain ⟨E, h1, h2⟩ := sr_J_rch hN hb J hp ((sr_R_cl os rt).1 i (by omega) p x hp hv)
        refine ⟨E, h1, fun p' x' hp' he => ?_⟩
        have hb1 := sr_ob_bd _ _ _ _ hp
        have hb2 := sr_ob_bd _ _ _ _ hp'
        have h3 := sr_sz3 x
        have h4 := sr_sz3 x'
        have : p = p' := (nI_eq (by omega) (by omega)).mp he
        exact this ▸ h2
    obtain ⟨E, J1, hE⟩ := step
    obtain ⟨E', J2, hE'⟩ := sr_J_rcr hN hb hva n (i + 1) (sr_rch N q (rt i)) (L ++ E) (by omega) J1
    refine ⟨E ++ E', ?_, fun j h1 h2 p x hp he => ?_⟩
    · show sr_J os rt (sr_rcr N rt n (i + 1) (sr_rch N q (rt i))) (L ++ (E ++ E'))
      rw [← List.append_assoc]
      exact J2
    · rw [← List.append_assoc]
      by_cases hj : j = i
      · subst hj
        exact List.mem_append_left _ (hE p x hp he)
      · exact hE' j (by omega) h2 p x hp he
/-- the chain: what stands ahead of a has been looked at -/
theorem sr_J_chn (hN : N < 2 ^ 31) (hb : 1 + sr_tot os ≤ N) (hok : sr_ok os) (hva : sr_va os rt) :
    ∀ (n : Nat) (a : Int32) (q : sr_Q) (P Q : List Nat), sr_J os rt q (P ++ Q) → os.length ≤ P.length + n → (Q = [] → a ≤ 0) → (∀ x t, Q = x :: t → a = nI x) →
      (∀ p o, sr_ob 1 os p o → p ∈ P → ∀ i, i < o.1 → ∀ p' x', sr_ob 1 os p' x' → o.2.2.2 i = nI p' → p' ∈ P ++ Q) →
      ∃ E, sr_J os rt (sr_chn N n a q) (P ++ Q ++ E) ∧ ∀ p o, sr_ob 1 os p o → p ∈ P ++ Q ++ E → ∀ i, i < o.1 → ∀ p' x', sr_ob 1 os p' x' → o.2.2.2 i = nI p' → p' ∈ P ++ Q ++ E
  | 0, a, q, P, Q, J, hlen, h0, h1, hcl => by
    have hl : (P ++ Q).length ≤ os.length := by rw [← J.2.2.2.2.2.2.2.2]; exact sr_kp_len os 1
    rw [List.length_append] at hl
    have hQ : Q = [] := List.eq_nil_of_length_eq_zero (by omega)
    subst hQ
    refine ⟨[], by show sr_J os rt q _; simpa using J, ?_⟩
    simpa using hcl
  | n + 1, a, q, P, [], J, hlen, h0, h1, hcl => by
    refine ⟨[], ?_, by simpa using hcl⟩
    show sr_J os rt (if a ≤ 0 then q else _) _
    rw [if_pos (h0 rfl)]
    simpa using J
  | n + 1, a, q, P, x :: t, J, hlen, h0, h1, hcl => by
    have ha := h1 x t rfl
    have hxL : x ∈ P ++ x :: t := by simp
    obtain ⟨o, ho⟩ := J.2.1 x hxL
    have hbd := sr_ob_bd _ _ _ _ ho
    have h3 := sr_sz3 o
    have hf : (sr_fi N q.1 (nI x)).toNatClampNeg = o.1 := by
      have hk := hok o (sr_ob_mem _ _ _ _ ho)
      rw [sr_fi_eq (J.1 x o ho) hk hbd.1 (by omega) hN, nI_clamp (by omega)]
    obtain ⟨E, J1, hE⟩ := sr_J_rcf hN hb hva ho (J.2.2.2.2.2.2.2.1 x hxL) o.1 0 q (P ++ x :: t) (by omega) J
    have hstep : sr_chn N (n + 1) a q = sr_chn N n (sr_rd N (sr_rcf N (nI x) o.1 0 q).1 (nI (x + 2))) (sr_rcf N (nI x) o.1 0 q) := by
      show (if a ≤ 0 then q else sr_chn N n (sr_rd N (sr_rcf N a (sr_fi N q.1 a).toNatClampNeg 0 q).1 (a + 2)) (sr_rcf N a (sr_fi N q.1 a).toNatClampNeg 0 q)) = _
      rw [ha, if_neg (nI_nle (by omega) (by omega)), hf, show nI x + 2 = nI (x + 2) from nI_add x 2]
    have eL : P ++ x :: t ++ E = (P ++ [x]) ++ (t ++ E) := by simp
    rw [eL] at J1
    have hnext := J1.2.2.2.2.1
    obtain ⟨E', J2, hE2⟩ := sr_J_chn hN hb hok hva n (sr_rd N (sr_rcf N (nI x) o.1 0 q).1 (nI (x + 2))) (sr_rcf N (nI x) o.1 0 q) (P ++ [x]) (t ++ E) J1 (by simp; omega)
      (fun hQ => by
        rw [sr_rd_in (by omega) (by omega) hN]
        rw [hQ, List.append_nil] at hnext
        rw [sr_lk_last P hnext]
        decide)
      (fun y u hQ => by
        rw [sr_rd_in (by omega) (by omega) hN]
        rw [hQ, List.append_assoc] at hnext
        exact sr_lk_next P hnext)
      (fun p o' hp hpm i hi p' x' hp' he => by
        rcases List.mem_append.mp hpm with h | h
        · have := hcl p o' hp h i hi p' x' hp' he
          rw [← eL]
          exact List.mem_append_left _ this
        · have hpx := List.mem_singleton.mp h
          subst hpx
          obtain rfl := sr_ob_eq ho hp
          rw [← eL]
          exact hE i (Nat.zero_le _) hi p' x' hp' he)
    refine ⟨E ++ E', ?_, ?_⟩
    · rw [hstep, ← List.append_assoc, eL]
      exact J2
    · rw [← List.append_assoc, eL]
      exact hE2
end Reach
