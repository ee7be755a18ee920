/-! THE CLASS'S SLIDE, PURE -/
def sr_chR (N : Nat) (rt : Nat → Int32) (k : Nat) (C : Nat → Int32) : sr_Q :=
  sr_chn N k (sr_rcr N rt 16 0 (sr_clr N k C 1, 0, 0, 0)).2.1 (sr_rcr N rt 16 0 (sr_clr N k C 1, 0, 0, 0))
theorem sr_kp_none : ∀ (os : List sr_O) (a : Nat), sr_kp (fun p => decide (p ∈ ([] : List Nat))) a os = []
  | [], _ => rfl
  | o :: os, a => by
    simp only [sr_kp]
    rw [if_neg (by simp)]
    exact sr_kp_none os _
theorem sr_chR_spec {N : Nat} {os : List sr_O} {rt C : Nat → Int32} (hN : N < 2 ^ 31) (hb : 1 + sr_tot os ≤ N) (hok : sr_ok os) (hva : sr_va os rt) (hc : sr_hc C 1 os) :
    sr_hc (sr_chR N rt os.length C).1 1 os ∧ (∀ p o, sr_ob 1 os p o → ((sr_chR N rt os.length C).1 (p + 2) = 0 ↔ sr_m os rt p = false)) ∧ (sr_chR N rt os.length C).2.2.2 = nI (sr_kp (sr_m os rt) 1 os).length := by
  obtain ⟨c1, c2⟩ := sr_clr_eq hN os 1 C hc hok (Nat.le_refl _) hb
  rw [show nI 1 = (1 : Int32) from rfl] at c1 c2
  have J0 : sr_J os rt (sr_clr N os.length C 1, 0, 0, 0) [] :=
    ⟨c1.hc hc, fun x h => (List.not_mem_nil h).elim, List.nodup_nil, fun p o hp => ⟨fun _ => List.not_mem_nil, fun _ => c2 p o hp⟩, trivial, Or.inl ⟨rfl, rfl⟩, rfl, fun x h => (List.not_mem_nil h).elim, by rw [sr_kp_none]; rfl⟩
  obtain ⟨E, J1, hr⟩ := sr_J_rcr hN hb hva 16 0 _ [] rfl J0
  rw [List.nil_append] at J1 hr
  obtain ⟨E2, J2, hf⟩ := sr_J_chn hN hb hok hva os.length (sr_rcr N rt 16 0 (sr_clr N os.length C 1, 0, 0, 0)).2.1 _ [] E J1 (by simp)
    (fun hE => by
      rcases J1.2.2.2.2.2.1 with ⟨-, h⟩ | ⟨x, t, -, -, h, -⟩
      · rw [h]; decide
      · rw [hE] at h; cases h)
    (fun x t hE => by
      rcases J1.2.2.2.2.2.1 with ⟨h, -⟩ | ⟨x', t', -, -, h, -, h2, -⟩
      · rw [hE] at h; cases h
      · rw [hE] at h; cases h; exact h2)
    (fun p o _ h => (List.not_mem_nil h).elim)
  rw [List.nil_append] at J2 hf
  have hcl : sr_cl os rt (fun p => p ∈ E ++ E2) := ⟨fun r hr' p o hp he => List.mem_append_left _ (hr r (Nat.zero_le _) hr' p o hp he), fun p o hp hS i hi q x hq he => hf p o hp hS i hi q x hq he⟩
  have hiff : ∀ p, p ∈ E ++ E2 ↔ sr_R os rt p := fun p => ⟨J2.2.2.2.2.2.2.2.1 p, fun h => h _ hcl⟩
  refine ⟨J2.1, fun p o hp => ?_, ?_⟩
  · refine (J2.2.2.2.1 p o hp).trans ?_
    rw [hiff p]
    exact sr_b_not.symm
  · rw [show (sr_chR N rt os.length C).2.2.2 = nI (E ++ E2).length from J2.2.2.2.2.2.2.1, ← J2.2.2.2.2.2.2.2.2]
    rw [sr_kp_congr (m := fun p => decide (p ∈ E ++ E2)) (m' := sr_m os rt) os 1 (fun p o _ => ?_)]
    by_cases h : sr_R os rt p
    · rw [show sr_m os rt p = true from sr_b_iff.mpr h]
      exact decide_eq_true ((hiff p).mpr h)
    · rw [show sr_m os rt p = false from sr_b_not.mpr h]
      exact decide_eq_false (fun z => h ((hiff p).mp z))
/-- the new address of what stands at v, where the first stands at a and comes to b -/
def sr_pl (m : Nat → Bool) : Nat → Nat → List sr_O → Int32 → Int32
  | _, _, [], _ => 0
  | a, b, o :: os, v => if v = nI a then nI b else sr_pl m (a + sr_sz o) (if m a = true then b + sr_sz o else b) os v
theorem sr_pl_at {m : Nat → Bool} : ∀ (xs : List sr_O) (o : sr_O) (ys : List sr_O) (a b : Nat), a + sr_tot (xs ++ o :: ys) < 2 ^ 31 → sr_pl m a b (xs ++ o :: ys) (nI (a + sr_tot xs)) = nI (b + sr_tot (sr_kp m a xs))
  | [], o, ys, a, b, _ => by simp [sr_pl, sr_tot, sr_kp]
  | x :: xs, o, ys, a, b, h => by
    have h3 := sr_sz3 x
    have e : a + sr_tot (x :: xs) = a + sr_sz x + sr_tot xs := by simp only [sr_tot]; omega
    have h4 : a + sr_sz x + sr_tot (xs ++ o :: ys) < 2 ^ 31 := by
      have : sr_tot (x :: xs ++ o :: ys) = sr_sz x + sr_tot (xs ++ o :: ys) := rfl
      omega
    have h5 : sr_tot (xs ++ o :: ys) = sr_tot xs + sr_tot (o :: ys) := sr_tot_app _ _
    rw [e]
    show (if nI (a + sr_sz x + sr_tot xs) = nI a then nI b else sr_pl m (a + sr_sz x) (if m a = true then b + sr_sz x else b) (xs ++ o :: ys) (nI (a + sr_sz x + sr_tot xs))) = _
    rw [if_neg (fun z => by have := (nI_eq (by omega) (by omega)).mp z; omega), sr_pl_at xs o ys (a + sr_sz x) _ h4]
    congr 1
    simp only [sr_kp]
    split
    · simp only [sr_tot]; omega
    · rfl
theorem sr_pl_0 {m : Nat → Bool} : ∀ (os : List sr_O) (a b : Nat), 1 ≤ a → a + sr_tot os < 2 ^ 31 → sr_pl m a b os 0 = 0
  | [], _, _, _, _ => rfl
  | o :: os, a, b, h1, h => by
    have h3 := sr_sz3 o
    simp only [sr_tot] at h
    show (if (0 : Int32) = nI a then nI b else sr_pl m (a + sr_sz o) (if m a = true then b + sr_sz o else b) os 0) = 0
    rw [if_neg (fun z => sr_ne0 h1 (by omega) z.symm), sr_pl_0 os _ _ (by omega) (by omega)]
/-- an object whose fields tell the new addresses -/
def sr_ro (f : Int32 → Int32) (o : sr_O) : sr_O := (o.1, o.2.1, o.2.2.1, fun i => if i < o.1 then f (o.2.2.2 i) else o.2.2.2 i)
theorem sr_ro_sz (f : Int32 → Int32) (o : sr_O) : sr_sz (sr_ro f o) = sr_sz o := rfl
theorem sr_tot_map (f : Int32 → Int32) : ∀ (os : List sr_O), sr_tot (os.map (sr_ro f)) = sr_tot os
  | [] => rfl
  | o :: os => by
    show sr_sz o + sr_tot (os.map (sr_ro f)) = sr_sz o + sr_tot os
    rw [sr_tot_map f os]
theorem sr_ob_map (f : Int32 → Int32) : ∀ (os : List sr_O) (a p : Nat) (x : sr_O), sr_ob a (os.map (sr_ro f)) p x ↔ ∃ o, sr_ob a os p o ∧ x = sr_ro f o
  | [], _, _, _ => by simp [sr_ob]
  | o :: os, a, p, x => by
    show ((p = a ∧ x = sr_ro f o) ∨ sr_ob (a + sr_sz o) (os.map (sr_ro f)) p x) ↔ _
    rw [sr_ob_map f os]
    constructor
    · rintro (⟨h1, h2⟩ | ⟨y, h1, h2⟩)
      · exact ⟨o, Or.inl ⟨h1, rfl⟩, h2⟩
      · exact ⟨y, Or.inr h1, h2⟩
    · rintro ⟨y, ⟨h1, rfl⟩ | h1, h2⟩
      · exact Or.inl ⟨h1, h2⟩
      · exact Or.inr ⟨y, h1, h2⟩
/-- choosePlaces -/
def sr_chp (N : Nat) : Nat → (Nat → Int32) → Int32 → Int32 → (Nat → Int32) × Int32
  | 0, C, t, _ => (C, t)
  | n + 1, C, t, a => if sr_rd N C (a + 2) = 0 then sr_chp N n C t (a + sr_si N C a) else sr_chp N n (sr_wr N C (a + 2) (1 + t)) (t + sr_si N C a) (a + sr_si N C a)
theorem sr_chp_eq {N : Nat} {m : Nat → Bool} (hN : N < 2 ^ 31) : ∀ (os : List sr_O) (a t : Nat) (C : Nat → Int32), sr_hc C a os → sr_ok os → 1 ≤ a → a + sr_tot os ≤ N → t + 1 ≤ a → (∀ p o, sr_ob a os p o → (C (p + 2) = 0 ↔ m p = false)) →
    ∃ C', sr_chp N os.length C (nI t) (nI a) = (C', nI (t + sr_tot (sr_kp m a os))) ∧ sr_lo a os C C' ∧ ∀ p o, sr_ob a os p o → C' (p + 2) = if m p = true then sr_pl m a (1 + t) os (nI p) else 0
  | [], a, t, C, _, _, _, _, _, _ => ⟨C, by simp [sr_chp, sr_kp, sr_tot], sr_lo.rf, fun _ _ h => h.elim⟩
  | o :: os, a, t, C, hc, hk, h1, h2, ht, hm => by
    have h3 := sr_sz3 o
    simp only [sr_tot] at h2
    have h0 : sr_ob a (o :: os) a o := Or.inl ⟨rfl, rfl⟩
    have hce := sr_hc_cons.mp hc
    have hk' : sr_ok os := fun y hy => hk y (List.mem_cons_of_mem _ hy)
    have esi := sr_si_eq hce.1 (hk o List.mem_cons_self) h1 (by omega) hN
    have erd : sr_rd N C (nI a + 2) = C (a + 2) := by rw [show nI a + 2 = nI (a + 2) from nI_add a 2, sr_rd_in (by omega) (by omega) hN]
    have e : sr_chp N (o :: os).length C (nI t) (nI a) = if C (a + 2) = 0 then sr_chp N os.length C (nI t) (nI (a + sr_sz o)) else sr_chp N os.length (upd C (a + 2) (nI (1 + t))) (nI (t + sr_sz o)) (nI (a + sr_sz o)) := by
      show (if sr_rd N C (nI a + 2) = 0 then sr_chp N os.length C (nI t) (nI a + sr_si N C (nI a)) else sr_chp N os.length (sr_wr N C (nI a + 2) (1 + nI t)) (nI t + sr_si N C (nI a)) (nI a + sr_si N C (nI a))) = _
      rw [erd, esi, nI_add, nI_add, show nI a + 2 = nI (a + 2) from nI_add a 2, sr_wr_in (by omega) (by omega) hN, show 1 + nI t = nI (1 + t) from nI_add 1 t]
    have far : ∀ p y, sr_ob (a + sr_sz o) os p y → a + sr_sz o ≤ p ∧ p < 2 ^ 31 := fun p y hy => by
      have hb := sr_ob_bd _ _ _ _ hy
      have := sr_sz3 y
      omega
    have hpl : ∀ b p y, sr_ob (a + sr_sz o) os p y → sr_pl m a b (o :: os) (nI p) = sr_pl m (a + sr_sz o) (if m a = true then b + sr_sz o else b) os (nI p) := fun b p y hy => by
      have := far p y hy
      show (if nI p = nI a then nI b else _) = _
      rw [if_neg (fun z => by have := (nI_eq (by omega) (by omega)).mp z; omega)]
    rw [e]
    cases hma : m a with
    | false =>
      have hC0 := (hm a o h0).mpr hma
      obtain ⟨C', e1, e2, e3⟩ := sr_chp_eq (m := m) hN os (a + sr_sz o) t C hce.2 hk' (by omega) (by omega) (by omega) (fun p y hy => hm p y (Or.inr hy))
      refine ⟨C', ?_, e2.tail, ?_⟩
      · rw [if_pos hC0, e1]
        simp [sr_kp, hma]
      · rintro p y (⟨rfl, rfl⟩ | hy)
        · rw [hma, e2 (p + 2) (fun q z hz hq => by have := (far q z hz).1; omega), hC0]
          simp
        · rw [e3 p y hy, hpl _ p y hy, hma]
          simp
    | true =>
      have hC0 : ¬ C (a + 2) = 0 := fun z => by rw [(hm a o h0).mp z] at hma; cases hma
      have hc1 := (sr_lo.put (C := C) h0 (nI (1 + t))).hc hc
      obtain ⟨C', e1, e2, e3⟩ := sr_chp_eq (m := m) hN os (a + sr_sz o) (t + sr_sz o) (upd C (a + 2) (nI (1 + t))) (sr_hc_cons.mp hc1).2 hk' (by omega) (by omega) (by omega) (fun p y hy => by
        rw [pk_un (by have := (far p y hy).1; omega)]
        exact hm p y (Or.inr hy))
      refine ⟨C', ?_, (sr_lo.put h0 _).tr e2.tail, ?_⟩
      · rw [if_neg hC0, e1]
        simp only [sr_kp, hma, if_true, sr_tot]
        rw [Nat.add_assoc]
      · rintro p y (⟨rfl, rfl⟩ | hy)
        · rw [hma, e2 (p + 2) (fun q z hz hq => by have := (far q z hz).1; omega), pk_us]
          simp [sr_pl]
        · rw [e3 p y hy, hpl _ p y hy, hma]
          simp only [if_true]
          rw [show 1 + (t + sr_sz o) = 1 + t + sr_sz o from by omega]
/-- placeOf -/
def sr_po (N : Nat) (C : Nat → Int32) (v : Int32) : Int32 := if v = 0 then 0 else sr_rd N C (v + 2)
/-- redirectFieldsOf -/
def sr_rdf (N : Nat) (a : Int32) : Nat → Nat → (Nat → Int32) → Nat → Int32
  | 0, _, C => C
  | n + 1, i, C => sr_rdf N a n (i + 1) (sr_wr N C (a + 3 + nI i) (sr_po N C (sr_rd N C (a + 3 + nI i))))
/-- redirectFields -/
def sr_rfs (N : Nat) : Nat → (Nat → Int32) → Int32 → Nat → Int32
  | 0, C, _ => C
  | n + 1, C, a => sr_rfs N n (if sr_rd N C (a + 2) = 0 then C else sr_rdf N a (sr_fi N C a).toNatClampNeg 0 C) (a + sr_si N (if sr_rd N C (a + 2) = 0 then C else sr_rdf N a (sr_fi N C a).toNatClampNeg 0 C) a)
/-- the objects, the fields of the reached ones redirected, each where it stood -/
def sr_rl (m : Nat → Bool) (f : Int32 → Int32) : Nat → List sr_O → List sr_O
  | _, [] => []
  | a, o :: os => (if m a = true then sr_ro f o else o) :: sr_rl m f (a + sr_sz o) os
theorem sr_rl_sz (m : Nat → Bool) (f : Int32 → Int32) (a : Nat) (o : sr_O) : sr_sz (if m a = true then sr_ro f o else o) = sr_sz o := by split <;> rfl
theorem sr_rl_tot (m : Nat → Bool) (f : Int32 → Int32) : ∀ (os : List sr_O) (a : Nat), sr_tot (sr_rl m f a os) = sr_tot os
  | [], _ => rfl
  | o :: os, a => by simp only [sr_rl, sr_tot, sr_rl_sz, sr_rl_tot m f os]
theorem sr_rl_len (m : Nat → Bool) (f : Int32 → Int32) : ∀ (os : List sr_O) (a : Nat), (sr_rl m f a os).length = os.length
  | [], _ => rfl
  | o :: os, a => by simp only [sr_rl, List.length_cons, sr_rl_len m f os]
theorem sr_rl_ok (m : Nat → Bool) (f : Int32 → Int32) : ∀ (os : List sr_O) (a : Nat), sr_ok os → sr_ok (sr_rl m f a os)
  | [], _, h => h
  | o :: os, a, h => by
    intro x hx
    rcases List.mem_cons.mp hx with rfl | hx
    · have := h o List.mem_cons_self
      split
      · exact this
      · exact this
    · exact sr_rl_ok m f os _ (fun y hy => h y (List.mem_cons_of_mem _ hy)) x hx
theorem sr_rl_kp (m : Nat → Bool) (f : Int32 → Int32) : ∀ (os : List sr_O) (a : Nat), sr_kp m a (sr_rl m f a os) = (sr_kp m a os).map (sr_ro f)
  | [], _ => rfl
  | o :: os, a => by
    simp only [sr_rl, sr_kp, sr_rl_sz, sr_rl_kp m f os]
    split <;> simp
theorem sr_rl_ob (m : Nat → Bool) (f : Int32 → Int32) : ∀ (os : List sr_O) (a p : Nat) (x : sr_O), sr_ob a (sr_rl m f a os) p x → ∃ o, sr_ob a os p o ∧ x = if m p = true then sr_ro f o else o
  | [], _, _, _, h => h.elim
  | o :: os, a, p, x, h => by
    rcases h with ⟨rfl, rfl⟩ | h
    · exact ⟨o, Or.inl ⟨rfl, rfl⟩, rfl⟩
    · rw [sr_rl_sz] at h
      obtain ⟨y, h1, h2⟩ := sr_rl_ob m f os _ _ _ h
      exact ⟨y, Or.inr h1, h2⟩
theorem sr_rdf_eq {N : Nat} (hN : N < 2 ^ 31) {a k : Nat} (h1 : 1 ≤ a) (h2 : a + 3 + k ≤ N) {f : Int32 → Int32} {C0 : Nat → Int32}
    (hpo : ∀ C' : Nat → Int32, (∀ q, ¬ (a + 3 ≤ q ∧ q < a + 3 + k) → C' q = C0 q) → ∀ j, j < k → sr_po N C' (C0 (a + 3 + j)) = f (C0 (a + 3 + j))) :
    ∀ (n i : Nat) (C : Nat → Int32), i + n = k → (∀ q, ¬ (a + 3 ≤ q ∧ q < a + 3 + k) → C q = C0 q) → (∀ j, i ≤ j → j < k → C (a + 3 + j) = C0 (a + 3 + j)) →
      ∀ q, sr_rdf N (nI a) n i C q = if a + 3 + i ≤ q ∧ q < a + 3 + k then f (C0 q) else C q
  | 0, i, C, hi, _, _, q => by
    rw [if_neg (by omega)]; rfl
  | n + 1, i, C, hi, hq, hj, q => by
    have erd : sr_rd N C (nI a + 3 + nI i) = C0 (a + 3 + i) := by
      rw [show nI a + 3 = nI (a + 3) from nI_add a 3, nI_add, sr_rd_in (by omega) (by omega) hN]
      exact hj i (Nat.le_refl _) (by omega)
    have ewr : ∀ v, sr_wr N C (nI a + 3 + nI i) v = upd C (a + 3 + i) v := fun v => by
      rw [show nI a + 3 = nI (a + 3) from nI_add a 3, nI_add, sr_wr_in (by omega) (by omega) hN]
    show sr_rdf N (nI a) n (i + 1) (sr_wr N C (nI a + 3 + nI i) (sr_po N C (sr_rd N C (nI a + 3 + nI i)))) q = _
    rw [erd, ewr, hpo C hq i (by omega)]
    rw [sr_rdf_eq hN h1 h2 hpo n (i + 1) (upd C (a + 3 + i) (f (C0 (a + 3 + i)))) (by omega) (fun q hq' => by rw [pk_un (by omega)]; exact hq q hq') (fun j h3 h4 => by rw [pk_un (by omega)]; exact hj j (by omega) h4) q]
    by_cases h : a + 3 + (i + 1) ≤ q ∧ q < a + 3 + k
    · rw [if_pos h, if_pos (by omega)]
    · rw [if_neg h]
      by_cases h' : q = a + 3 + i
      · rw [if_pos (by omega), h']; exact pk_us
      · rw [if_neg (by omega)]; exact pk_un h'
theorem sr_rfs_eq {N : Nat} {m : Nat → Bool} {f : Int32 → Int32} {full : List sr_O} (hN : N < 2 ^ 31) : ∀ (os : List sr_O) (a : Nat) (C : Nat → Int32), sr_hc C a os → sr_ok os → 1 ≤ a → a + sr_tot os ≤ N →
    (∀ p o, sr_ob a os p o → (C (p + 2) = 0 ↔ m p = false)) → (∀ p o, sr_ob a os p o → sr_ob 1 full p o) →
    (∀ C' : Nat → Int32, (∀ p o, sr_ob 1 full p o → C' (p + 2) = C (p + 2)) → ∀ p o, sr_ob a os p o → m p = true → ∀ i, i < o.1 → sr_po N C' (o.2.2.2 i) = f (o.2.2.2 i)) →
    sr_hc (sr_rfs N os.length C (nI a)) a (sr_rl m f a os) ∧ ∀ q, (∀ p o, sr_ob a os p o → ¬ (p + 3 ≤ q ∧ q < p + 3 + o.1)) → sr_rfs N os.length C (nI a) q = C q
  | [], a, C, _, _, _, _, _, _, _ => ⟨fun _ _ h => h.elim, fun _ _ => rfl⟩
  | o :: os, a, C, hc, hk, h1, h2, hm, hfu, hpo => by
    have hs : sr_sz o = 3 + o.1 + o.2.1 := rfl
    simp only [sr_tot] at h2
    have h0 : sr_ob a (o :: os) a o := Or.inl ⟨rfl, rfl⟩
    have hce := sr_hc_cons.mp hc
    have hk' : sr_ok os := fun y hy => hk y (List.mem_cons_of_mem _ hy)
    have hko := hk o List.mem_cons_self
    have erd : sr_rd N C (nI a + 2) = C (a + 2) := by rw [show nI a + 2 = nI (a + 2) from nI_add a 2, sr_rd_in (by omega) (by omega) hN]
    have efi : (sr_fi N C (nI a)).toNatClampNeg = o.1 := by rw [sr_fi_eq hce.1 hko h1 (by omega) hN, nI_clamp (by omega)]
    have apart : ∀ p y, sr_ob 1 full p y → ¬ (a + 3 ≤ p + 2 ∧ p + 2 < a + 3 + o.1) := fun p y hy => by
      have h3 := sr_sz3 y
      rcases sr_ob_sep full 1 a p o y (hfu a o h0) hy with h | h | h
      · omega
      · omega
      · omega
    -- the cells behind this object's turn
    have key : ∃ C1 : Nat → Int32, (if sr_rd N C (nI a + 2) = 0 then C else sr_rdf N (nI a) (sr_fi N C (nI a)).toNatClampNeg 0 C) = C1 ∧ sr_ce C1 a (if m a = true then sr_ro f o else o) ∧ ∀ q, ¬ (a + 3 ≤ q ∧ q < a + 3 + o.1) → C1 q = C q := by
      rw [erd]
      cases hma : m a with
      | false =>
        rw [if_pos ((hm a o h0).mpr hma), if_neg (by decide)]
        exact ⟨C, rfl, hce.1, fun _ _ => rfl⟩
      | true =>
        rw [if_neg (fun z => by rw [(hm a o h0).mp z] at hma; cases hma), if_pos rfl, efi]
        have hr := sr_rdf_eq (N := N) hN (a := a) (k := o.1) h1 (by omega) (f := f) (C0 := C) (fun C' hC' j hj => by
          rw [hce.1.2.2 j (by omega)]
          exact hpo C' (fun p y hy => hC' _ (apart p y hy)) a o h0 hma j hj) o.1 0 C (by omega) (fun _ _ => rfl) (fun _ _ _ => rfl)
        refine ⟨_, rfl, ⟨?_, ?_, fun i hi => ?_⟩, fun q hq => ?_⟩
        · rw [hr, if_neg (by omega)]; exact hce.1.1
        · rw [hr, if_neg (by omega)]; exact hce.1.2.1
        · rw [hr]
          by_cases hi2 : i < o.1
          · rw [if_pos (by omega), hce.1.2.2 i hi]
            exact (if_pos hi2).symm
          · rw [if_neg (by omega), hce.1.2.2 i hi]
            exact (if_neg hi2).symm
        · rw [hr, if_neg (by omega)]
    obtain ⟨C1, e1, e2, e3⟩ := key
    have hhead : sr_ce C1 a o ∨ True := Or.inr trivial
    have esi : sr_si N C1 (nI a) = nI (sr_sz o) := by
      rw [sr_si_eq e2 (by split <;> exact hko) h1 (by omega) hN, sr_rl_sz]
    have e : sr_rfs N (o :: os).length C (nI a) = sr_rfs N os.length C1 (nI (a + sr_sz o)) := by
      show sr_rfs N os.length (if sr_rd N C (nI a + 2) = 0 then C else sr_rdf N (nI a) (sr_fi N C (nI a)).toNatClampNeg 0 C) (nI a + sr_si N (if sr_rd N C (nI a + 2) = 0 then C else sr_rdf N (nI a) (sr_fi N C (nI a)).toNatClampNeg 0 C) (nI a)) = _
      rw [e1, esi, nI_add]
    have far : ∀ p y, sr_ob (a + sr_sz o) os p y → a + sr_sz o ≤ p := fun p y hy => (sr_ob_bd _ _ _ _ hy).1
    have ih := sr_rfs_eq (m := m) (f := f) (full := full) hN os (a + sr_sz o) C1
      (fun p y hy => sr_ce_frame (hce.2 p y hy) fun q g1 g2 g3 => e3 q (by have := far p y hy; omega)) hk' (by omega) (by omega)
      (fun p y hy => by rw [e3 _ (by have := far p y hy; omega)]; exact hm p y (Or.inr hy)) (fun p y hy => hfu p y (Or.inr hy))
      (fun C' hC' p y hy => hpo C' (fun p' y' hy' => by rw [hC' p' y' hy', e3 _ (apart p' y' hy')]) p y (Or.inr hy))
    rw [e]
    constructor
    · show sr_hc _ a ((if m a = true then sr_ro f o else o) :: sr_rl m f (a + sr_sz o) os)
      rw [sr_hc_cons, sr_rl_sz]
      refine ⟨sr_ce_frame e2 fun q g1 g2 g3 => ih.2 q (fun p y hy => ?_), ih.1⟩
      rw [sr_rl_sz] at g2
      have := far p y hy
      omega
    · intro q hq
      rw [ih.2 q (fun p y hy => hq p y (Or.inr hy))]
      exact e3 q (hq a o h0)
/-- moveCells -/
def sr_mvc (N : Nat) (C : Nat → Int32) (a b k : Int32) : Nat → Int32 :=
  if b < 1 then C else if a ≤ b then C else if k ≤ 0 then C else if nI N - a < k then C else va_cpy C C a.toNatClampNeg b.toNatClampNeg k.toNatClampNeg
/-- moveReached -/
def sr_mv (N : Nat) : Nat → (Nat → Int32) → Int32 → Nat → Int32
  | 0, C, _ => C
  | n + 1, C, a => sr_mv N n (if sr_rd N C (a + 2) = 0 then C else sr_mvc N C a (sr_rd N C (a + 2)) (sr_si N C a)) (a + sr_si N C a)
theorem sr_mvc_eq {N : Nat} (hN : N < 2 ^ 31) {C : Nat → Int32} {a b k : Nat} (h1 : 1 ≤ b) (h2 : b ≤ a) (h3 : 1 ≤ k) (h4 : a + k ≤ N) (q : Nat) : sr_mvc N C (nI a) (nI b) (nI k) q = if b ≤ q ∧ q < b + k then C (a + (q - b)) else C q := by
  unfold sr_mvc
  rw [if_neg (sr_n1 h1 (by omega))]
  by_cases hab : a = b
  · subst hab
    rw [if_pos (nI_le (Nat.le_refl _) (by omega))]
    split
    · rename_i h
      rw [show a + (q - a) = q from by omega]
    · rfl
  · rw [if_neg (nI_ge (by omega) (by omega)), if_neg (nI_nle (by omega) (by omega)), pk_sub (by omega), if_neg (nI_nlt (by omega) (by omega)), nI_clamp (by omega), nI_clamp (by omega), nI_clamp (by omega)]
    rfl
theorem sr_mv_eq {N : Nat} {m : Nat → Bool} (hN : N < 2 ^ 31) : ∀ (os : List sr_O) (a b : Nat) (C : Nat → Int32), sr_hc C a os → sr_ok os → 1 ≤ b → b ≤ a → a + sr_tot os ≤ N →
    (∀ p o, sr_ob a os p o → C (p + 2) = if m p = true then sr_pl m a b os (nI p) else 0) →
    sr_hc (sr_mv N os.length C (nI a)) b (sr_kp m a os) ∧ ∀ q, q < b → sr_mv N os.length C (nI a) q = C q
  | [], a, b, C, _, _, _, _, _, _ => ⟨fun _ _ h => h.elim, fun _ _ => rfl⟩
  | o :: os, a, b, C, hc, hk, h1, hba, h2, hl => by
    have h3 := sr_sz3 o
    have hs : sr_sz o = 3 + o.1 + o.2.1 := rfl
    simp only [sr_tot] at h2
    have h0 : sr_ob a (o :: os) a o := Or.inl ⟨rfl, rfl⟩
    have hce := sr_hc_cons.mp hc
    have hk' : sr_ok os := fun y hy => hk y (List.mem_cons_of_mem _ hy)
    have esi := sr_si_eq hce.1 (hk o List.mem_cons_self) (show 1 ≤ a by omega) (show a < N by omega) hN
    have erd : sr_rd N C (nI a + 2) = C (a + 2) := by rw [show nI a + 2 = nI (a + 2) from nI_add a 2, sr_rd_in (by omega) (by omega) hN]
    have far : ∀ p y, sr_ob (a + sr_sz o) os p y → a + sr_sz o ≤ p ∧ p < 2 ^ 31 := fun p y hy => by
      have hb := sr_ob_bd _ _ _ _ hy
      have := sr_sz3 y
      omega
    have hpl : ∀ p y, sr_ob (a + sr_sz o) os p y → sr_pl m a b (o :: os) (nI p) = sr_pl m (a + sr_sz o) (if m a = true then b + sr_sz o else b) os (nI p) := fun p y hy => by
      have := far p y hy
      show (if nI p = nI a then nI b else _) = _
      rw [if_neg (fun z => by have := (nI_eq (by omega) (by omega)).mp z; omega)]
    have e : sr_mv N (o :: os).length C (nI a) = sr_mv N os.length (if C (a + 2) = 0 then C else sr_mvc N C (nI a) (C (a + 2)) (nI (sr_sz o))) (nI (a + sr_sz o)) := by
      show sr_mv N os.length (if sr_rd N C (nI a + 2) = 0 then C else sr_mvc N C (nI a) (sr_rd N C (nI a + 2)) (sr_si N C (nI a))) (nI a + sr_si N C (nI a)) = _
      rw [erd, esi, nI_add]
    have hla := hl a o h0
    rw [e]
    cases hma : m a with
    | false =>
      rw [hma] at hla
      rw [if_neg (by decide)] at hla
      rw [if_pos hla]
      have ih := sr_mv_eq (m := m) hN os (a + sr_sz o) b C hce.2 hk' h1 (by omega) (by omega) (fun p y hy => by rw [hl p y (Or.inr hy), hpl p y hy, hma]; simp)
      simp only [sr_kp, hma]
      exact ih
    | true =>
      rw [hma, if_pos rfl, show sr_pl m a b (o :: os) (nI a) = nI b from if_pos rfl] at hla
      rw [hla, if_neg (sr_ne0 h1 (by omega))]
      have hC1 := sr_mvc_eq hN (C := C) (a := a) (b := b) (k := sr_sz o) h1 hba (by omega) (by omega)
      generalize sr_mvc N C (nI a) (nI b) (nI (sr_sz o)) = C1 at hC1
      have ih := sr_mv_eq (m := m) hN os (a + sr_sz o) (b + sr_sz o) C1
        (fun p y hy => sr_ce_frame (hce.2 p y hy) fun q g1 g2 g3 => by rw [hC1, if_neg (by have := far p y hy; omega)]) hk' (by omega) (by omega) (by omega)
        (fun p y hy => by rw [hC1, if_neg (by have := far p y hy; omega), hl p y (Or.inr hy), hpl p y hy, hma]; simp)
      simp only [sr_kp, hma, if_true]
      constructor
      · rw [sr_hc_cons]
        refine ⟨⟨?_, ?_, fun i hi => ?_⟩, ih.1⟩
        · rw [ih.2 _ (by omega), hC1, if_pos (by omega), show a + (b - b) = a from by omega]; exact hce.1.1
        · rw [ih.2 _ (by omega), hC1, if_pos (by omega), show a + (b + 1 - b) = a + 1 from by omega]; exact hce.1.2.1
        · rw [ih.2 _ (by omega), hC1, if_pos (by omega), show a + (b + 3 + i - b) = a + 3 + i from by omega]; exact hce.1.2.2 i hi
      · intro q hq
        rw [ih.2 q (by omega), hC1, if_neg (by omega)]
