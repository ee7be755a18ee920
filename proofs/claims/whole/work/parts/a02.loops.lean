/-! THE CLASS'S LOOPS, PURE -/
/-- isObject: a walk from the first object -/
def sr_isO (N : Nat) (C : Nat → Int32) (x : Int32) : Nat → Int32 → Bool
  | 0, _ => false
  | n + 1, a => if x < a then false else if a = x then true else sr_isO N C x n (a + sr_si N C a)
theorem sr_isO_iff {N : Nat} {C : Nat → Int32} {x : Int32} (hN : N < 2 ^ 31) : ∀ (os : List sr_O) (a : Nat), sr_hc C a os → sr_ok os → 1 ≤ a → a + sr_tot os ≤ N →
    (sr_isO N C x os.length (nI a) = true ↔ ∃ p o, sr_ob a os p o ∧ x = nI p)
  | [], a, _, _, _, _ => by simp [sr_isO, sr_ob]
  | o :: os, a, hc, hk, h1, h2 => by
    have h3 := sr_sz3 o
    simp only [sr_tot] at h2
    have hce := sr_hc_cons.mp hc
    have ih := sr_isO_iff (x := x) hN os (a + sr_sz o) hce.2 (fun y hy => hk y (List.mem_cons_of_mem _ hy)) (by omega) (by omega)
    show (if x < nI a then false else if nI a = x then true else sr_isO N C x os.length (nI a + sr_si N C (nI a))) = true ↔ _
    rw [sr_si_eq hce.1 (hk o List.mem_cons_self) h1 (by omega) hN, nI_add]
    by_cases hx : x < nI a
    · rw [if_pos hx]
      constructor
      · intro h; cases h
      · rintro ⟨p, y, hy, rfl⟩
        have hb := sr_ob_bd _ _ _ _ hy
        simp only [sr_tot] at hb
        have h5 := sr_sz3 y
        exact absurd ((nI_ltI (by omega) (by omega)).mp hx) (by omega)
    · rw [if_neg hx]
      by_cases he : nI a = x
      · rw [if_pos he]
        exact ⟨fun _ => ⟨a, o, Or.inl ⟨rfl, rfl⟩, he.symm⟩, fun _ => rfl⟩
      · rw [if_neg he, ih]
        constructor
        · rintro ⟨p, y, hy, hp⟩
          exact ⟨p, y, Or.inr hy, hp⟩
        · rintro ⟨p, y, hy | hy, hp⟩
          · exact absurd (by rw [hp, hy.1]) he
          · exact ⟨p, y, hy, hp⟩
/-- find: a walk from the first object -/
def sr_fn (N : Nat) (C : Nat → Int32) (x : Int32) : Nat → Int32 → Int32
  | 0, _ => 0
  | n + 1, a => if sr_rd N C (a + 1) - 1 = x then a else sr_fn N C x n (a + sr_si N C a)
def sr_fa (x : Int32) : Nat → List sr_O → Nat
  | _, [] => 0
  | a, o :: os => if o.2.2.1 = x + 1 then a else sr_fa x (a + sr_sz o) os
theorem sr_m1 (y x : Int32) : y - 1 = x ↔ y = x + 1 := by
  constructor
  · intro h; rw [← h, Int32.sub_add_cancel]
  · intro h; rw [h, Int32.add_sub_cancel]
theorem sr_fn_eq {N : Nat} {C : Nat → Int32} {x : Int32} (hN : N < 2 ^ 31) : ∀ (os : List sr_O) (a : Nat), sr_hc C a os → sr_ok os → 1 ≤ a → a + sr_tot os ≤ N →
    sr_fn N C x os.length (nI a) = nI (sr_fa x a os)
  | [], a, _, _, _, _ => rfl
  | o :: os, a, hc, hk, h1, h2 => by
    have h3 := sr_sz3 o
    simp only [sr_tot] at h2
    have hce := sr_hc_cons.mp hc
    have ih := sr_fn_eq (x := x) hN os (a + sr_sz o) hce.2 (fun y hy => hk y (List.mem_cons_of_mem _ hy)) (by omega) (by omega)
    show (if sr_rd N C (nI a + 1) - 1 = x then nI a else sr_fn N C x os.length (nI a + sr_si N C (nI a))) = nI (if o.2.2.1 = x + 1 then a else sr_fa x (a + sr_sz o) os)
    rw [sr_si_eq hce.1 (hk o List.mem_cons_self) h1 (by omega) hN, nI_add, ih, show nI a + 1 = nI (a + 1) from nI_1 a, sr_rd_in (by omega) (by omega) hN, hce.1.2.1]
    by_cases he : o.2.2.1 = x + 1
    · rw [if_pos he, if_pos ((sr_m1 _ _).mpr he)]
    · rw [if_neg he, if_neg (fun h => he ((sr_m1 _ _).mp h))]
/-- clearCells -/
def sr_cc (N : Nat) (a : Int32) : Nat → Nat → (Nat → Int32) → Nat → Int32
  | 0, _, C => C
  | n + 1, i, C => sr_cc N a n (i + 1) (sr_wr N C (a + nI i) 0)
theorem sr_cc_eq {N : Nat} (hN : N < 2 ^ 31) {a : Nat} (h1 : 1 ≤ a) : ∀ (n i : Nat) (C : Nat → Int32), a + i + n ≤ N → ∀ q, sr_cc N (nI a) n i C q = if a + i ≤ q ∧ q < a + i + n then 0 else C q
  | 0, i, C, _, q => by
    rw [if_neg (by omega)]; rfl
  | n + 1, i, C, h, q => by
    show sr_cc N (nI a) n (i + 1) (sr_wr N C (nI a + nI i) 0) q = _
    rw [nI_add, sr_wr_in (by omega) (by omega) hN, sr_cc_eq hN h1 n (i + 1) _ (by omega) q]
    by_cases hq : a + (i + 1) ≤ q ∧ q < a + (i + 1) + n
    · rw [if_pos hq, if_pos (by omega)]
    · rw [if_neg hq]
      by_cases hq2 : q = a + i
      · rw [if_pos (by omega), hq2]; exact pk_us
      · rw [if_neg (by omega)]; exact pk_un hq2
/-- clearLinks -/
def sr_clr (N : Nat) : Nat → (Nat → Int32) → Int32 → Nat → Int32
  | 0, C, _ => C
  | n + 1, C, a => sr_clr N n (sr_wr N C (a + 2) 0) (a + sr_si N (sr_wr N C (a + 2) 0) a)
/-- nothing but links has changed -/
def sr_lo (a : Nat) (os : List sr_O) (C C' : Nat → Int32) : Prop := ∀ q, (∀ p o, sr_ob a os p o → q ≠ p + 2) → C' q = C q
theorem sr_lo.hc {a : Nat} {os : List sr_O} {C C' : Nat → Int32} (h : sr_lo a os C C') (hc : sr_hc C a os) : sr_hc C' a os := sr_hc_frame hc fun q _ _ hq => h q hq
theorem sr_lo.rf {a : Nat} {os : List sr_O} {C : Nat → Int32} : sr_lo a os C C := fun _ _ => rfl
theorem sr_lo.tr {a : Nat} {os : List sr_O} {C C' C'' : Nat → Int32} (h : sr_lo a os C C') (g : sr_lo a os C' C'') : sr_lo a os C C'' := fun q hq => (g q hq).trans (h q hq)
theorem sr_lo.put {a p : Nat} {os : List sr_O} {o : sr_O} {C : Nat → Int32} (ho : sr_ob a os p o) (v : Int32) : sr_lo a os C (upd C (p + 2) v) := fun q hq => pk_un (hq p o ho)
theorem sr_lo.tail {a : Nat} {o : sr_O} {os : List sr_O} {C C' : Nat → Int32} (h : sr_lo (a + sr_sz o) os C C') : sr_lo a (o :: os) C C' := fun q hq => h q fun p x hx => hq p x (Or.inr hx)
theorem sr_clr_eq {N : Nat} (hN : N < 2 ^ 31) : ∀ (os : List sr_O) (a : Nat) (C : Nat → Int32), sr_hc C a os → sr_ok os → 1 ≤ a → a + sr_tot os ≤ N →
    sr_lo a os C (sr_clr N os.length C (nI a)) ∧ ∀ p o, sr_ob a os p o → sr_clr N os.length C (nI a) (p + 2) = 0
  | [], a, C, _, _, _, _ => ⟨sr_lo.rf, fun _ _ h => h.elim⟩
  | o :: os, a, C, hc, hk, h1, h2 => by
    have h3 := sr_sz3 o
    simp only [sr_tot] at h2
    have h0 : sr_ob a (o :: os) a o := Or.inl ⟨rfl, rfl⟩
    have hc1 := (sr_lo.put (C := C) h0 0).hc hc
    have hce := sr_hc_cons.mp hc1
    have ih := sr_clr_eq hN os (a + sr_sz o) (upd C (a + 2) 0) hce.2 (fun y hy => hk y (List.mem_cons_of_mem _ hy)) (by omega) (by omega)
    have e : sr_clr N (o :: os).length C (nI a) = sr_clr N os.length (upd C (a + 2) 0) (nI (a + sr_sz o)) := by
      show sr_clr N os.length (sr_wr N C (nI a + 2) 0) (nI a + sr_si N (sr_wr N C (nI a + 2) 0) (nI a)) = _
      rw [show nI a + 2 = nI (a + 2) from nI_add a 2, sr_wr_in (by omega) (by omega) hN, sr_si_eq hce.1 (hk o List.mem_cons_self) h1 (by omega) hN, nI_add]
    rw [e]
    refine ⟨(sr_lo.put h0 0).tr ih.1.tail, ?_⟩
    rintro p x (⟨rfl, rfl⟩ | hx)
    · rw [ih.1 (p + 2) (fun q y hy hq => by have := (sr_ob_bd _ _ _ _ hy).1; omega)]
      exact pk_us
    · exact ih.2 p x hx
