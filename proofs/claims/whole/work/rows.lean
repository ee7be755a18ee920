section
/-! THE ROW OF CELLS, PURE: objects one behind another; where they stand; what is reached; what a slide makes of them -/
/-- an object: how many fields, how many words, its number (0: none yet), its contents (fields, then words) -/
abbrev sr_O : Type := Nat × Nat × Int32 × (Nat → Int32)
def sr_sz (o : sr_O) : Nat := 3 + o.1 + o.2.1
def sr_tot : List sr_O → Nat
  | [] => 0
  | o :: os => sr_sz o + sr_tot os
/-- at p stands the object x, where the first of them stands at a -/
def sr_ob : Nat → List sr_O → Nat → sr_O → Prop
  | _, [], _, _ => False
  | a, o :: os, p, x => (p = a ∧ x = o) ∨ sr_ob (a + sr_sz o) os p x
def sr_ok (os : List sr_O) : Prop := ∀ o ∈ os, o.1 ≤ 2000 ∧ o.2.1 ≤ 2000
theorem sr_sz3 (o : sr_O) : 3 ≤ sr_sz o := by unfold sr_sz; omega
theorem sr_tot_app : ∀ (xs ys : List sr_O), sr_tot (xs ++ ys) = sr_tot xs + sr_tot ys
  | [], ys => by simp [sr_tot]
  | x :: xs, ys => by
    simp only [List.cons_append, sr_tot, sr_tot_app xs ys]
    omega
theorem sr_len_tot : ∀ (os : List sr_O), 3 * os.length ≤ sr_tot os
  | [] => by simp [sr_tot]
  | o :: os => by
    have h := sr_len_tot os
    have h2 := sr_sz3 o
    simp only [List.length_cons, sr_tot]
    omega
theorem sr_ob_app : ∀ (xs ys : List sr_O) (a p : Nat) (o : sr_O), sr_ob a (xs ++ ys) p o ↔ sr_ob a xs p o ∨ sr_ob (a + sr_tot xs) ys p o
  | [], ys, a, p, o => by simp [sr_ob, sr_tot]
  | x :: xs, ys, a, p, o => by
    simp only [List.cons_append, sr_ob, sr_tot, sr_ob_app xs ys (a + sr_sz x) p o, Nat.add_assoc, or_assoc]
theorem sr_ob_bd : ∀ (os : List sr_O) (a p : Nat) (o : sr_O), sr_ob a os p o → a ≤ p ∧ p + sr_sz o ≤ a + sr_tot os
  | [], _, _, _, h => h.elim
  | x :: xs, a, p, o, h => by
    have h3 := sr_sz3 x
    simp only [sr_tot]
    rcases h with ⟨rfl, rfl⟩ | h
    · omega
    · have := sr_ob_bd xs _ _ _ h
      omega
theorem sr_ob_mem : ∀ (os : List sr_O) (a p : Nat) (o : sr_O), sr_ob a os p o → o ∈ os
  | [], _, _, _, h => h.elim
  | x :: xs, a, p, o, h => by
    rcases h with ⟨-, rfl⟩ | h
    · exact List.mem_cons_self
    · exact List.mem_cons_of_mem _ (sr_ob_mem xs _ _ _ h)
/-- two of them are one, or stand apart -/
theorem sr_ob_sep : ∀ (os : List sr_O) (a p q : Nat) (o x : sr_O), sr_ob a os p o → sr_ob a os q x → (p = q ∧ o = x) ∨ p + sr_sz o ≤ q ∨ q + sr_sz x ≤ p
  | [], _, _, _, _, _, h, _ => h.elim
  | y :: ys, a, p, q, o, x, h, g => by
    rcases h with ⟨rfl, rfl⟩ | h <;> rcases g with ⟨hq, rfl⟩ | g
    · exact Or.inl ⟨hq.symm, rfl⟩
    · exact Or.inr (Or.inl (sr_ob_bd ys _ _ _ g).1)
    · subst hq
      exact Or.inr (Or.inr (sr_ob_bd ys _ _ _ h).1)
    · exact sr_ob_sep ys _ _ _ _ _ h g
theorem sr_ob_eq {os : List sr_O} {a p : Nat} {o x : sr_O} (h : sr_ob a os p o) (g : sr_ob a os p x) : o = x := by
  rcases sr_ob_sep os a p p o x h g with h1 | h1 | h1
  · exact h1.2
  · have := sr_sz3 o
    omega
  · have := sr_sz3 x
    omega
theorem sr_ob_split : ∀ (os : List sr_O) (a p : Nat) (o : sr_O), sr_ob a os p o → ∃ xs ys, os = xs ++ o :: ys ∧ p = a + sr_tot xs
  | [], _, _, _, h => h.elim
  | x :: xs, a, p, o, h => by
    rcases h with ⟨rfl, rfl⟩ | h
    · exact ⟨[], xs, rfl, by simp [sr_tot]⟩
    · obtain ⟨us, vs, h1, h2⟩ := sr_ob_split xs _ _ _ h
      exact ⟨x :: us, vs, by rw [h1]; rfl, by rw [h2, sr_tot]; omega⟩
theorem sr_ob_mid (xs : List sr_O) (o : sr_O) (ys : List sr_O) (a : Nat) : sr_ob a (xs ++ o :: ys) (a + sr_tot xs) o :=
  (sr_ob_app xs (o :: ys) a _ o).mpr (Or.inr (Or.inl ⟨rfl, rfl⟩))
/-! what a reads of the class's cells, of the model's arrays -/
def sr_ce (C : Nat → Int32) (p : Nat) (o : sr_O) : Prop := C p = nI (o.1 * 4096 + o.2.1) ∧ C (p + 1) = o.2.2.1 ∧ ∀ i, i < o.1 + o.2.1 → C (p + 3 + i) = o.2.2.2 i
def sr_hc (C : Nat → Int32) (a : Nat) (os : List sr_O) : Prop := ∀ p o, sr_ob a os p o → sr_ce C p o
theorem sr_hc_cons {C : Nat → Int32} {a : Nat} {o : sr_O} {os : List sr_O} : sr_hc C a (o :: os) ↔ sr_ce C a o ∧ sr_hc C (a + sr_sz o) os := by
  constructor
  · intro h
    exact ⟨h a o (Or.inl ⟨rfl, rfl⟩), fun p x hx => h p x (Or.inr hx)⟩
  · intro h p x hx
    rcases hx with ⟨rfl, rfl⟩ | hx
    · exact h.1
    · exact h.2 p x hx
theorem sr_hc_app {C : Nat → Int32} {a : Nat} {xs ys : List sr_O} : sr_hc C a (xs ++ ys) ↔ sr_hc C a xs ∧ sr_hc C (a + sr_tot xs) ys := by
  constructor
  · intro h
    exact ⟨fun p x hx => h p x ((sr_ob_app _ _ _ _ _).mpr (Or.inl hx)), fun p x hx => h p x ((sr_ob_app _ _ _ _ _).mpr (Or.inr hx))⟩
  · intro h p x hx
    rcases (sr_ob_app _ _ _ _ _).mp hx with hx | hx
    · exact h.1 p x hx
    · exact h.2 p x hx
theorem sr_ce_frame {C C' : Nat → Int32} {p : Nat} {o : sr_O} (h : sr_ce C p o) (hq : ∀ q, p ≤ q → q < p + sr_sz o → q ≠ p + 2 → C' q = C q) : sr_ce C' p o := by
  have hs : sr_sz o = 3 + o.1 + o.2.1 := rfl
  refine ⟨?_, ?_, fun i hi => ?_⟩
  · rw [hq p (Nat.le_refl _) (by omega) (by omega)]; exact h.1
  · rw [hq (p + 1) (by omega) (by omega) (by omega)]; exact h.2.1
  · rw [hq (p + 3 + i) (by omega) (by omega) (by omega)]; exact h.2.2 i hi
theorem sr_hc_frame {C C' : Nat → Int32} {a : Nat} {os : List sr_O} (h : sr_hc C a os) (hq : ∀ q, a ≤ q → q < a + sr_tot os → (∀ p o, sr_ob a os p o → q ≠ p + 2) → C' q = C q) : sr_hc C' a os := by
  intro p o ho
  have hb := sr_ob_bd os a p o ho
  refine sr_ce_frame (h p o ho) fun q h1 h2 h3 => hq q (by omega) (by omega) fun p' o' ho' hqe => ?_
  have h5 := sr_sz3 o'
  have h6 := sr_sz3 o
  rcases sr_ob_sep os a p p' o o' ho ho' with h4 | h4 | h4
  · exact h3 (by omega)
  · omega
  · omega
/-! reads and writes of the class: guarded -/
def sr_rd (N : Nat) (C : Nat → Int32) (i : Int32) : Int32 := if i < 1 then 0 else if nI N ≤ i then 0 else C i.toNatClampNeg
def sr_wr (N : Nat) (C : Nat → Int32) (i v : Int32) : Nat → Int32 := if i < 1 then C else if nI N ≤ i then C else upd C i.toNatClampNeg v
theorem sr_n1 {a : Nat} (h1 : 1 ≤ a) (h : a < 2 ^ 31) : ¬ nI a < 1 := nI_nlt (a := a) (b := 1) h1 h
theorem sr_rd_in {N : Nat} {C : Nat → Int32} {a : Nat} (h1 : 1 ≤ a) (h2 : a < N) (hN : N < 2 ^ 31) : sr_rd N C (nI a) = C a := by
  unfold sr_rd
  rw [if_neg (sr_n1 h1 (by omega)), if_neg (nI_ge h2 hN), nI_clamp (by omega)]
theorem sr_wr_in {N : Nat} {C : Nat → Int32} {a : Nat} {v : Int32} (h1 : 1 ≤ a) (h2 : a < N) (hN : N < 2 ^ 31) : sr_wr N C (nI a) v = upd C a v := by
  unfold sr_wr
  rw [if_neg (sr_n1 h1 (by omega)), if_neg (nI_ge h2 hN), nI_clamp (by omega)]
theorem sr_p (a b : Nat) : nI a + nI b = nI (a + b) := nI_add a b
/-- the shape's two halves -/
theorem sr_shr {f w : Nat} (hf : f ≤ 2000) (hw : w ≤ 2000) : nI (f * 4096 + w) >>> ((12 : Int32) &&& 31) = nI f := by
  rw [pk_shrN (by omega) _ 12 (by decide +kernel)]
  congr 1
  omega
theorem sr_and {f w : Nat} (hf : f ≤ 2000) (hw : w ≤ 2000) : nI (f * 4096 + w) &&& (4095 : Int32) = nI w := by
  rw [pk_andN (by omega) 12 (by decide +kernel)]
  congr 1
  omega
theorem sr_or {f w : Nat} (hf : f ≤ 2000) (hw : w ≤ 2000) : nI f <<< ((12 : Int32) &&& 31) ||| nI w = nI (f * 4096 + w) := by
  rw [pk_shlN _ 12 (by decide +kernel) (by omega)]
  apply Int32.toBitVec_inj.mp
  apply BitVec.eq_of_toNat_eq
  rw [Int32.toBitVec_or, BitVec.toNat_or, pk_tn (by omega), pk_tn (by omega), pk_tn (by omega)]
  have := Nat.two_pow_add_eq_or_of_lt (i := 12) (b := w) (by omega) f
  rw [Nat.mul_comm f (2 ^ 12), ← this]
/-- sizeOf, as the class counts it -/
def sr_si (N : Nat) (C : Nat → Int32) (a : Int32) : Int32 := 3 + (sr_rd N C (a + 0) >>> ((12 : Int32) &&& 31)) + (sr_rd N C (a + 0) &&& 4095)
def sr_fi (N : Nat) (C : Nat → Int32) (a : Int32) : Int32 := sr_rd N C (a + 0) >>> ((12 : Int32) &&& 31)
def sr_wi (N : Nat) (C : Nat → Int32) (a : Int32) : Int32 := sr_rd N C (a + 0) &&& 4095
theorem sr_a0 (a : Nat) : nI a + 0 = nI a := nI_add a 0
section Cells
variable {N : Nat} {C : Nat → Int32} {p : Nat} {o : sr_O}
theorem sr_fi_eq (h : sr_ce C p o) (hk : o.1 ≤ 2000 ∧ o.2.1 ≤ 2000) (h1 : 1 ≤ p) (h2 : p < N) (hN : N < 2 ^ 31) : sr_fi N C (nI p) = nI o.1 := by
  unfold sr_fi
  rw [sr_a0, sr_rd_in h1 h2 hN, h.1, sr_shr hk.1 hk.2]
theorem sr_wi_eq (h : sr_ce C p o) (hk : o.1 ≤ 2000 ∧ o.2.1 ≤ 2000) (h1 : 1 ≤ p) (h2 : p < N) (hN : N < 2 ^ 31) : sr_wi N C (nI p) = nI o.2.1 := by
  unfold sr_wi
  rw [sr_a0, sr_rd_in h1 h2 hN, h.1, sr_and hk.1 hk.2]
theorem sr_si_eq (h : sr_ce C p o) (hk : o.1 ≤ 2000 ∧ o.2.1 ≤ 2000) (h1 : 1 ≤ p) (h2 : p < N) (hN : N < 2 ^ 31) : sr_si N C (nI p) = nI (sr_sz o) := by
  show 3 + sr_fi N C (nI p) + sr_wi N C (nI p) = _
  rw [sr_fi_eq h hk h1 h2 hN, sr_wi_eq h hk h1 h2 hN]
  show nI 3 + nI o.1 + nI o.2.1 = _
  rw [nI_add, nI_add]
  rfl
end Cells
end
section
/-! THE CLASS'S LOOPS, PURE -/
/-- isObject: a walk from the first object -/
def sr_isO (N : Nat) (C : Nat → Int32) (x : Int32) : Nat → Int32 → Bool
  | 0, _ => false
  | n + 1, a => if x < a then false else if a = x then true else sr_isO N C x n (a + sr_si N C a)
theorem sr_isO_iff {N : Nat} {C : Nat → Int32} {x : Int32} (hN : N < 2 ^ 31) : ∀ (os : List sr_O) (a : Nat), sr_hc C a os → sr_ok os → 1 ≤ a → a + sr_tot os ≤ N →
    (sr_isO N C x os.length (nI a) = true ↔ ∃ p o, sr_ob a os p o ∧ x = nI p)
  | [], a, _, _, _, _ => by simp [sr_isO, sr_ob]
  | o :: os, a, hc, hk, h1, h2 => by
    have h3 := sr_sz3 o
    simp only [sr_tot] at h2
    have hce := sr_hc_cons.mp hc
    have ih := sr_isO_iff (x := x) hN os (a + sr_sz o) hce.2 (fun y hy => hk y (List.mem_cons_of_mem _ hy)) (by omega) (by omega)
    show (if x < nI a then false else if nI a = x then true else sr_isO N C x os.length (nI a + sr_si N C (nI a))) = true ↔ _
    rw [sr_si_eq hce.1 (hk o List.mem_cons_self) h1 (by omega) hN, nI_add]
    by_cases hx : x < nI a
    · rw [if_pos hx]
      constructor
      · intro h; cases h
      · rintro ⟨p, y, hy, rfl⟩
        have hb := sr_ob_bd _ _ _ _ hy
        simp only [sr_tot] at hb
        have h5 := sr_sz3 y
        exact absurd ((nI_ltI (by omega) (by omega)).mp hx) (by omega)
    · rw [if_neg hx]
      by_cases he : nI a = x
      · rw [if_pos he]
        exact ⟨fun _ => ⟨a, o, Or.inl ⟨rfl, rfl⟩, he.symm⟩, fun _ => rfl⟩
      · rw [if_neg he, ih]
        constructor
        · rintro ⟨p, y, hy, hp⟩
          exact ⟨p, y, Or.inr hy, hp⟩
        · rintro ⟨p, y, hy | hy, hp⟩
          · exact absurd (by rw [hp, hy.1]) he
          · exact ⟨p, y, hy, hp⟩
/-- find: a walk from the first object -/
def sr_fn (N : Nat) (C : Nat → Int32) (x : Int32) : Nat → Int32 → Int32
  | 0, _ => 0
  | n + 1, a => if sr_rd N C (a + 1) - 1 = x then a else sr_fn N C x n (a + sr_si N C a)
def sr_fa (x : Int32) : Nat → List sr_O → Nat
  | _, [] => 0
  | a, o :: os => if o.2.2.1 = x + 1 then a else sr_fa x (a + sr_sz o) os
theorem sr_m1 (y x : Int32) : y - 1 = x ↔ y = x + 1 := by
  constructor
  · intro h; rw [← h, Int32.sub_add_cancel]
  · intro h; rw [h, Int32.add_sub_cancel]
theorem sr_fn_eq {N : Nat} {C : Nat → Int32} {x : Int32} (hN : N < 2 ^ 31) : ∀ (os : List sr_O) (a : Nat), sr_hc C a os → sr_ok os → 1 ≤ a → a + sr_tot os ≤ N →
    sr_fn N C x os.length (nI a) = nI (sr_fa x a os)
  | [], a, _, _, _, _ => rfl
  | o :: os, a, hc, hk, h1, h2 => by
    have h3 := sr_sz3 o
    simp only [sr_tot] at h2
    have hce := sr_hc_cons.mp hc
    have ih := sr_fn_eq (x := x) hN os (a + sr_sz o) hce.2 (fun y hy => hk y (List.mem_cons_of_mem _ hy)) (by omega) (by omega)
    show (if sr_rd N C (nI a + 1) - 1 = x then nI a else sr_fn N C x os.length (nI a + sr_si N C (nI a))) = nI (if o.2.2.1 = x + 1 then a else sr_fa x (a + sr_sz o) os)
    rw [sr_si_eq hce.1 (hk o List.mem_cons_self) h1 (by omega) hN, nI_add, ih, show nI a + 1 = nI (a + 1) from nI_1 a, sr_rd_in (by omega) (by omega) hN, hce.1.2.1]
    by_cases he : o.2.2.1 = x + 1
    · rw [if_pos he, if_pos ((sr_m1 _ _).mpr he)]
    · rw [if_neg he, if_neg (fun h => he ((sr_m1 _ _).mp h))]
/-- clearCells -/
def sr_cc (N : Nat) (a : Int32) : Nat → Nat → (Nat → Int32) → Nat → Int32
  | 0, _, C => C
  | n + 1, i, C => sr_cc N a n (i + 1) (sr_wr N C (a + nI i) 0)
theorem sr_cc_eq {N : Nat} (hN : N < 2 ^ 31) {a : Nat} (h1 : 1 ≤ a) : ∀ (n i : Nat) (C : Nat → Int32), a + i + n ≤ N → ∀ q, sr_cc N (nI a) n i C q = if a + i ≤ q ∧ q < a + i + n then 0 else C q
  | 0, i, C, _, q => by
    rw [if_neg (by omega)]; rfl
  | n + 1, i, C, h, q => by
    show sr_cc N (nI a) n (i + 1) (sr_wr N C (nI a + nI i) 0) q = _
    rw [nI_add, sr_wr_in (by omega) (by omega) hN, sr_cc_eq hN h1 n (i + 1) _ (by omega) q]
    by_cases hq : a + (i + 1) ≤ q ∧ q < a + (i + 1) + n
    · rw [if_pos hq, if_pos (by omega)]
    · rw [if_neg hq]
      by_cases hq2 : q = a + i
      · rw [if_pos (by omega), hq2]; exact pk_us
      · rw [if_neg (by omega)]; exact pk_un hq2
/-- clearLinks -/
def sr_clr (N : Nat) : Nat → (Nat → Int32) → Int32 → Nat → Int32
  | 0, C, _ => C
  | n + 1, C, a => sr_clr N n (sr_wr N C (a + 2) 0) (a + sr_si N (sr_wr N C (a + 2) 0) a)
/-- nothing but links has changed -/
def sr_lo (a : Nat) (os : List sr_O) (C C' : Nat → Int32) : Prop := ∀ q, (∀ p o, sr_ob a os p o → q ≠ p + 2) → C' q = C q
theorem sr_lo.hc {a : Nat} {os : List sr_O} {C C' : Nat → Int32} (h : sr_lo a os C C') (hc : sr_hc C a os) : sr_hc C' a os := sr_hc_frame hc fun q _ _ hq => h q hq
theorem sr_lo.rf {a : Nat} {os : List sr_O} {C : Nat → Int32} : sr_lo a os C C := fun _ _ => rfl
theorem sr_lo.tr {a : Nat} {os : List sr_O} {C C' C'' : Nat → Int32} (h : sr_lo a os C C') (g : sr_lo a os C' C'') : sr_lo a os C C'' := fun q hq => (g q hq).trans (h q hq)
theorem sr_lo.put {a p : Nat} {os : List sr_O} {o : sr_O} {C : Nat → Int32} (ho : sr_ob a os p o) (v : Int32) : sr_lo a os C (upd C (p + 2) v) := fun q hq => pk_un (hq p o ho)
theorem sr_lo.tail {a : Nat} {o : sr_O} {os : List sr_O} {C C' : Nat → Int32} (h : sr_lo (a + sr_sz o) os C C') : sr_lo a (o :: os) C C' := fun q hq => h q fun p x hx => hq p x (Or.inr hx)
theorem sr_clr_eq {N : Nat} (hN : N < 2 ^ 31) : ∀ (os : List sr_O) (a : Nat) (C : Nat → Int32), sr_hc C a os → sr_ok os → 1 ≤ a → a + sr_tot os ≤ N →
    sr_lo a os C (sr_clr N os.length C (nI a)) ∧ ∀ p o, sr_ob a os p o → sr_clr N os.length C (nI a) (p + 2) = 0
  | [], a, C, _, _, _, _ => ⟨sr_lo.rf, fun _ _ h => h.elim⟩
  | o :: os, a, C, hc, hk, h1, h2 => by
    have h3 := sr_sz3 o
    simp only [sr_tot] at h2
    have h0 : sr_ob a (o :: os) a o := Or.inl ⟨rfl, rfl⟩
    have hc1 := (sr_lo.put (C := C) h0 0).hc hc
    have hce := sr_hc_cons.mp hc1
    have ih := sr_clr_eq hN os (a + sr_sz o) (upd C (a + 2) 0) hce.2 (fun y hy => hk y (List.mem_cons_of_mem _ hy)) (by omega) (by omega)
    have e : sr_clr N (o :: os).length C (nI a) = sr_clr N os.length (upd C (a + 2) 0) (nI (a + sr_sz o)) := by
      show sr_clr N os.length (sr_wr N C (nI a + 2) 0) (nI a + sr_si N (sr_wr N C (nI a + 2) 0) (nI a)) = _
      rw [show nI a + 2 = nI (a + 2) from nI_add a 2, sr_wr_in (by omega) (by omega) hN, sr_si_eq hce.1 (hk o List.mem_cons_self) h1 (by omega) hN, nI_add]
    rw [e]
    refine ⟨(sr_lo.put h0 0).tr ih.1.tail, ?_⟩
    rintro p x (⟨rfl, rfl⟩ | hx)
    · rw [ih.1 (p + 2) (fun q y hy hq => by have := (sr_ob_bd _ _ _ _ hy).1; omega)]
      exact pk_us
    · exact ih.2 p x hx
end
section
/-! WHAT IS REACHED, PURE; the class's chain -/
def sr_kp (m : Nat → Bool) : Nat → List sr_O → List sr_O
  | _, [] => []
  | a, o :: os => if m a = true then o :: sr_kp m (a + sr_sz o) os else sr_kp m (a + sr_sz o) os
theorem sr_kp_congr {m m' : Nat → Bool} : ∀ (os : List sr_O) (a : Nat), (∀ p o, sr_ob a os p o → m p = m' p) → sr_kp m a os = sr_kp m' a os
  | [], _, _ => rfl
  | o :: os, a, h => by
    have e := h a o (Or.inl ⟨rfl, rfl⟩)
    simp only [sr_kp, e, sr_kp_congr os (a + sr_sz o) (fun p x hx => h p x (Or.inr hx))]
theorem sr_kp_len {m : Nat → Bool} : ∀ (os : List sr_O) (a : Nat), (sr_kp m a os).length ≤ os.length
  | [], _ => Nat.le_refl _
  | o :: os, a => by
    have h := sr_kp_len (m := m) os (a + sr_sz o)
    simp only [sr_kp]
    split
    · simp only [List.length_cons]; omega
    · simp only [List.length_cons]; omega
theorem sr_kp_tot {m : Nat → Bool} : ∀ (os : List sr_O) (a : Nat), sr_tot (sr_kp m a os) ≤ sr_tot os
  | [], _ => Nat.le_refl _
  | o :: os, a => by
    have h := sr_kp_tot (m := m) os (a + sr_sz o)
    simp only [sr_kp]
    split
    · simp only [sr_tot]; omega
    · simp only [sr_tot]; omega
theorem sr_kp_app {m : Nat → Bool} : ∀ (xs ys : List sr_O) (a : Nat), sr_kp m a (xs ++ ys) = sr_kp m a xs ++ sr_kp m (a + sr_tot xs) ys
  | [], ys, a => by simp [sr_kp, sr_tot]
  | x :: xs, ys, a => by
    have h := sr_kp_app (m := m) xs ys (a + sr_sz x)
    rw [show a + sr_sz x + sr_tot xs = a + sr_tot (x :: xs) from by simp only [sr_tot]; omega] at h
    simp only [List.cons_append, sr_kp, h]
    split <;> simp
theorem sr_kp_mem {m : Nat → Bool} : ∀ (os : List sr_O) (a : Nat), ∀ x ∈ sr_kp m a os, x ∈ os
  | [], _, x, h => h
  | o :: os, a, x, h => by
    simp only [sr_kp] at h
    split at h
    · rcases List.mem_cons.mp h with rfl | h
      · exact List.mem_cons_self
      · exact List.mem_cons_of_mem _ (sr_kp_mem os _ x h)
    · exact List.mem_cons_of_mem _ (sr_kp_mem os _ x h)
theorem sr_kp_add {m m' : Nat → Bool} {x : Nat} (hx : m x = false) (hx' : m' x = true) (hne : ∀ p, p ≠ x → m' p = m p) : ∀ (os : List sr_O) (a : Nat) (o : sr_O), sr_ob a os x o → (sr_kp m' a os).length = (sr_kp m a os).length + 1
  | [], _, _, h => h.elim
  | y :: ys, a, o, h => by
    rcases h with ⟨rfl, rfl⟩ | h
    · have e := sr_kp_congr (m := m') (m' := m) ys (x + sr_sz o) (fun p z hz => hne p (by have h1 := (sr_ob_bd _ _ _ _ hz).1; have h2 := sr_sz3 o; omega))
      simp only [sr_kp, hx, hx', e]
      simp
    · have h1 := (sr_ob_bd _ _ _ _ h).1
      have h2 := sr_sz3 y
      have e := hne a (by omega)
      have ih := sr_kp_add hx hx' hne ys (a + sr_sz y) o h
      simp only [sr_kp, e]
      split
      · simp only [List.length_cons, ih]
      · exact ih
/-- a set of addresses that holds what the roots tell, and with an object what its fields tell -/
def sr_cl (os : List sr_O) (rt : Nat → Int32) (S : Nat → Prop) : Prop :=
  (∀ r, r < 16 → ∀ p o, sr_ob 1 os p o → rt r = nI p → S p) ∧ ∀ p o, sr_ob 1 os p o → S p → ∀ i, i < o.1 → ∀ q x, sr_ob 1 os q x → o.2.2.2 i = nI q → S q
def sr_R (os : List sr_O) (rt : Nat → Int32) (p : Nat) : Prop := ∀ S : Nat → Prop, sr_cl os rt S → S p
theorem sr_R_cl (os : List sr_O) (rt : Nat → Int32) : sr_cl os rt (sr_R os rt) :=
  ⟨fun r hr p o hp he S hS => hS.1 r hr p o hp he, fun p o hp h i hi q x hq he S hS => hS.2 p o hp (h S hS) i hi q x hq he⟩
noncomputable def sr_b (P : Prop) : Bool := @decide P (Classical.propDecidable P)
theorem sr_b_iff {P : Prop} : sr_b P = true ↔ P := by
  unfold sr_b
  exact @decide_eq_true_iff P (Classical.propDecidable P)
theorem sr_b_not {P : Prop} : sr_b P = false ↔ ¬ P := by
  cases h : sr_b P with
  | true => simp [sr_b_iff.mp h]
  | false => simp; intro q; rw [sr_b_iff.mpr q] at h; cases h
noncomputable def sr_m (os : List sr_O) (rt : Nat → Int32) : Nat → Bool := fun p => sr_b (sr_R os rt p)
/-- an address that is nothing or an object's -/
def sr_ad (os : List sr_O) (v : Int32) : Prop := v = 0 ∨ ∃ p o, sr_ob 1 os p o ∧ v = nI p
def sr_va (os : List sr_O) (rt : Nat → Int32) : Prop := (∀ r, r < 16 → sr_ad os (rt r)) ∧ ∀ p o, sr_ob 1 os p o → ∀ i, i < o.1 → sr_ad os (o.2.2.2 i)
/-! the class's chain: cells, first, last, how many -/
abbrev sr_Q : Type := (Nat → Int32) × Int32 × Int32 × Int32
def sr_rch (N : Nat) (q : sr_Q) (a : Int32) : sr_Q :=
  if a = 0 then q else if sr_rd N q.1 (a + 2) = 0 then
    (if q.2.1 = 0 then (sr_wr N q.1 (a + 2) (-1), a, a, q.2.2.2 + 1) else (sr_wr N (sr_wr N q.1 (a + 2) (-1)) (q.2.2.1 + 2) a, q.2.1, a, q.2.2.2 + 1))
  else q
def sr_rcf (N : Nat) (a : Int32) : Nat → Nat → sr_Q → sr_Q
  | 0, _, q => q
  | n + 1, i, q => sr_rcf N a n (i + 1) (sr_rch N q (sr_rd N q.1 (a + 3 + nI i)))
def sr_rcr (N : Nat) (rt : Nat → Int32) : Nat → Nat → sr_Q → sr_Q
  | 0, _, q => q
  | n + 1, i, q => sr_rcr N rt n (i + 1) (sr_rch N q (rt i))
def sr_chn (N : Nat) : Nat → Int32 → sr_Q → sr_Q
  | 0, _, q => q
  | n + 1, a, q => if a ≤ 0 then q else sr_chn N n (sr_rd N (sr_rcf N a (sr_fi N q.1 a).toNatClampNeg 0 q).1 (a + 2)) (sr_rcf N a (sr_fi N q.1 a).toNatClampNeg 0 q)
def sr_lk (C : Nat → Int32) : List Nat → Prop
  | [] => True
  | [x] => C (x + 2) = -1
  | x :: y :: t => C (x + 2) = nI y ∧ sr_lk C (y :: t)
theorem sr_lk_snoc {C C' : Nat → Int32} {x z : Nat} (h1 : C' (z + 2) = nI x) (h2 : C' (x + 2) = -1) : ∀ (L : List Nat), sr_lk C (L ++ [z]) → (∀ y ∈ L, C' (y + 2) = C (y + 2)) → sr_lk C' (L ++ [z] ++ [x])
  | [], _, _ => ⟨h1, h2⟩
  | [y], h, g => ⟨(g y List.mem_cons_self).trans h.1, h1, h2⟩
  | y :: w :: t, h, g => ⟨(g y List.mem_cons_self).trans h.1, sr_lk_snoc h1 h2 (w :: t) h.2 (fun v hv => g v (List.mem_cons_of_mem _ hv))⟩
theorem sr_lk_next {C : Nat → Int32} {x y : Nat} {t : List Nat} : ∀ (L : List Nat), sr_lk C (L ++ x :: y :: t) → C (x + 2) = nI y
  | [], h => h.1
  | [_], h => h.2.1
  | _ :: w :: u, h => sr_lk_next (w :: u) h.2
theorem sr_lk_last {C : Nat → Int32} {x : Nat} : ∀ (L : List Nat), sr_lk C (L ++ [x]) → C (x + 2) = -1
  | [], h => h
  | [_], h => h.2
  | _ :: w :: u, h => sr_lk_last (w :: u) h.2
def sr_J (os : List sr_O) (rt : Nat → Int32) (q : sr_Q) (L : List Nat) : Prop :=
  sr_hc q.1 1 os ∧ (∀ x ∈ L, ∃ o, sr_ob 1 os x o) ∧ L.Nodup ∧ (∀ p o, sr_ob 1 os p o → (q.1 (p + 2) = 0 ↔ p ∉ L)) ∧ sr_lk q.1 L ∧
  ((L = [] ∧ q.2.1 = 0) ∨ ∃ x t L' z, L = x :: t ∧ L = L' ++ [z] ∧ q.2.1 = nI x ∧ q.2.2.1 = nI z) ∧ q.2.2.2 = nI L.length ∧ (∀ x ∈ L, sr_R os rt x) ∧
  (sr_kp (fun p => decide (p ∈ L)) 1 os).length = L.length
section Reach
variable {N : Nat} {os : List sr_O} {rt : Nat → Int32}
theorem sr_ne0 {x : Nat} (h : 1 ≤ x) (h2 : x < 2 ^ 31) : nI x ≠ 0 := nI_ne0 h h2
theorem sr_m10 : (-1 : Int32) ≠ 0 := by decide
theorem sr_J_rch (hN : N < 2 ^ 31) (hb : 1 + sr_tot os ≤ N) {q : sr_Q} {L : List Nat} (J : sr_J os rt q L) {x : Nat} {o : sr_O} (ho : sr_ob 1 os x o) (hR : sr_R os rt x) :
    ∃ E, sr_J os rt (sr_rch N q (nI x)) (L ++ E) ∧ x ∈ L ++ E := by
  obtain ⟨C, fr, la, re⟩ := q
  obtain ⟨hc, hL, hnd, hmk, hlk, hends, hre, hLR, hcnt⟩ := J
  dsimp only at hc hmk hlk hends hre
  have hbd := sr_ob_bd _ _ _ _ ho
  have h3 := sr_sz3 o
  have hx0 : nI x ≠ 0 := sr_ne0 hbd.1 (by omega)
  have erd : sr_rd N C (nI x + 2) = C (x + 2) := by rw [show nI x + 2 = nI (x + 2) from nI_add x 2, sr_rd_in (by omega) (by omega) hN]
  by_cases hm : x ∈ L
  · refine ⟨[], ?_, by simpa using hm⟩
    have e : sr_rch N (C, fr, la, re) (nI x) = (C, fr, la, re) := by
      unfold sr_rch
      rw [if_neg hx0]
      dsimp only
      rw [erd, if_neg (fun h => (hmk x o ho).mp h hm)]
    rw [e, List.append_nil]
    exact ⟨hc, hL, hnd, hmk, hlk, hends, hre, hLR, hcnt⟩
  · have hC0 : C (x + 2) = 0 := (hmk x o ho).mpr hm
    have ewr : ∀ v, sr_wr N C (nI x + 2) v = upd C (x + 2) v := fun v => by rw [show nI x + 2 = nI (x + 2) from nI_add x 2, sr_wr_in (by omega) (by omega) hN]
    have hcnt' : (sr_kp (fun p => decide (p ∈ L ++ [x])) 1 os).length = (L ++ [x]).length := by
      rw [sr_kp_add (m := fun p => decide (p ∈ L)) (m' := fun p => decide (p ∈ L ++ [x])) (x := x) (by simpa using hm) (by simp) (fun p hp => by simp [hp]) os 1 o ho, hcnt]
      simp
    have hnd' : (L ++ [x]).Nodup := by
      rw [List.nodup_append]
      refine ⟨hnd, by simp, fun a ha b hb => ?_⟩
      rw [List.mem_singleton.mp hb]
      exact fun h => hm (h ▸ ha)
    have hL' : ∀ y ∈ L ++ [x], ∃ o, sr_ob 1 os y o := fun y hy => by
      rcases List.mem_append.mp hy with h | h
      · exact hL y h
      · rw [List.mem_singleton.mp h]; exact ⟨o, ho⟩
    have hLR' : ∀ y ∈ L ++ [x], sr_R os rt y := fun y hy => by
      rcases List.mem_append.mp hy with h | h
      · exact hLR y h
      · rw [List.mem_singleton.mp h]; exact hR
    have hre' : re + 1 = nI (L ++ [x]).length := by rw [hre, List.length_append]; exact nI_1 _
    refine ⟨[x], ?_, by simp⟩
    rcases hends with ⟨hLe, hfr⟩ | ⟨y, t, L', z, hy, hz, hfr, hla⟩
    · have e : sr_rch N (C, fr, la, re) (nI x) = (upd C (x + 2) (-1), nI x, nI x, re + 1) := by
        unfold sr_rch
        rw [if_neg hx0]
        dsimp only
        rw [erd, if_pos hC0, if_pos hfr, ewr]
      rw [e]
      refine ⟨(sr_lo.put ho (-1)).hc hc, hL', hnd', fun p y hp => ?_, ?_, Or.inr ⟨x, [], [], x, by rw [hLe]; rfl, by rw [hLe], rfl, rfl⟩, hre', hLR', hcnt'⟩
      · subst hLe
        show upd C (x + 2) (-1) (p + 2) = 0 ↔ _
        by_cases hpx : p = x
        · subst hpx
          rw [pk_us]
          simp [sr_m10]
        · rw [pk_un (by omega)]
          rw [hmk p y hp]
          simp [hpx]
      · subst hLe
        exact pk_us
    · have hfr0 : fr ≠ 0 := by
        rw [hfr]
        obtain ⟨o', ho'⟩ := hL y (by rw [hy]; exact List.mem_cons_self)
        have := sr_ob_bd _ _ _ _ ho'
        have := sr_sz3 o'
        exact sr_ne0 (by omega) (by omega)
      have hzL : z ∈ L := by rw [hz]; simp
      obtain ⟨oz, hoz⟩ := hL z hzL
      have hbz := sr_ob_bd _ _ _ _ hoz
      have hz3 := sr_sz3 oz
      have hzx : z ≠ x := fun h => hm (h ▸ hzL)
      have e : sr_rch N (C, fr, la, re) (nI x) = (upd (upd C (x + 2) (-1)) (z + 2) (nI x), fr, nI x, re + 1) := by
        unfold sr_rch
        rw [if_neg hx0]
        dsimp only
        rw [erd, if_pos hC0, if_neg hfr0, ewr, hla, show nI z + 2 = nI (z + 2) from nI_add z 2, sr_wr_in (by omega) (by omega) hN]
      rw [e]
      have hzL' : z ∉ L' := by
        rw [hz, List.nodup_append] at hnd
        exact fun h => hnd.2.2 z h z (by simp) rfl
      refine ⟨(sr_lo.put hoz (nI x)).hc ((sr_lo.put ho (-1)).hc hc), hL', hnd', fun p w hp => ?_, ?_, Or.inr ⟨y, t ++ [x], L, x, by rw [hy]; rfl, rfl, hfr, rfl⟩, hre', hLR', hcnt'⟩
      · show upd (upd C (x + 2) (-1)) (z + 2) (nI x) (p + 2) = 0 ↔ _
        by_cases hpz : p = z
        · subst hpz
          rw [pk_us]
          simp [hx0, hzL]
        · rw [pk_un (by omega)]
          by_cases hpx : p = x
          · subst hpx
            rw [pk_us]
            simp [sr_m10]
          · rw [pk_un (by omega), hmk p w hp]
            simp [hpx]
      · show sr_lk (upd (upd C (x + 2) (-1)) (z + 2) (nI x)) (L ++ [x])
        rw [hz]
        refine sr_lk_snoc (C := C) pk_us ?_ L' (hz ▸ hlk) (fun v hv => ?_)
        · rw [pk_un (by omega)]; exact pk_us
        · have hvL : v ∈ L := by rw [hz]; exact List.mem_append_left _ hv
          have h1 : v ≠ z := fun h => hzL' (h ▸ hv)
          have h2 : v ≠ x := fun h => hm (h ▸ hvL)
          rw [pk_un (by omega), pk_un (by omega)]
theorem sr_J_rch0 {q : sr_Q} : sr_rch N q 0 = q := by
  unfold sr_rch
  rw [if_pos rfl]
/-- one object's fields -/
theorem sr_J_rcf (hN : N < 2 ^ 31) (hb : 1 + sr_tot os ≤ N) (hva : sr_va os rt) {a : Nat} {o : sr_O} (ho : sr_ob 1 os a o) (hR : sr_R os rt a) :
    ∀ (n i : Nat) (q : sr_Q) (L : List Nat), i + n = o.1 → sr_J os rt q L → ∃ E, sr_J os rt (sr_rcf N (nI a) n i q) (L ++ E) ∧ ∀ j, i ≤ j → j < o.1 → ∀ p x, sr_ob 1 os p x → o.2.2.2 j = nI p → p ∈ L ++ E
  | 0, i, q, L, hi, J => ⟨[], by rw [List.append_nil]; exact J, fun j h1 h2 => by omega⟩
  | n + 1, i, q, L, hi, J => by
    have hbd := sr_ob_bd _ _ _ _ ho
    have hs : sr_sz o = 3 + o.1 + o.2.1 := rfl
    have erd : sr_rd N q.1 (nI a + 3 + nI i) = o.2.2.2 i := by
      rw [show nI a + 3 = nI (a + 3) from nI_add a 3, nI_add, sr_rd_in (by omega) (by omega) hN]
      exact (J.1 a o ho).2.2 i (by omega)
    have step : ∃ E, sr_J os rt (sr_rch N q (o.2.2.2 i)) (L ++ E) ∧ ∀ p x, sr_ob 1 os p x → o.2.2.2 i = nI p → p ∈ L ++ E := by
      rcases hva.2 a o ho i (by omega) with h0 | ⟨p, x, hp, hv⟩
      · refine ⟨[], by rw [h0, sr_J_rch0, List.append_nil]; exact J, fun p x hp he => ?_⟩
        have hb2 := sr_ob_bd _ _ _ _ hp
        have h3 := sr_sz3 x
        exact absurd (he.symm.trans h0) (sr_ne0 (by omega) (by omega))
      · rw [hv]
        obtain ⟨E, h1, h2⟩ := sr_J_rch hN hb J hp ((sr_R_cl os rt).2 a o ho hR i (by omega) p x hp hv)
        refine ⟨E, h1, fun p' x' hp' he => ?_⟩
        have hb1 := sr_ob_bd _ _ _ _ hp
        have hb2 := sr_ob_bd _ _ _ _ hp'
        have h3 := sr_sz3 x
        have h4 := sr_sz3 x'
        have : p = p' := (nI_eq (by omega) (by omega)).mp he
        exact this ▸ h2
    obtain ⟨E, J1, hE⟩ := step
    obtain ⟨E', J2, hE'⟩ := sr_J_rcf hN hb hva ho hR n (i + 1) (sr_rch N q (o.2.2.2 i)) (L ++ E) (by omega) J1
    refine ⟨E ++ E', ?_, fun j h1 h2 p x hp he => ?_⟩
    · show sr_J os rt (sr_rcf N (nI a) n (i + 1) (sr_rch N q (sr_rd N q.1 (nI a + 3 + nI i)))) (L ++ (E ++ E'))
      rw [erd, ← List.append_assoc]
      exact J2
    · rw [← List.append_assoc]
      by_cases hj : j = i
      · subst hj
        exact List.mem_append_left _ (hE p x hp he)
      · exact hE' j (by omega) h2 p x hp he
/-- the roots -/
theorem sr_J_rcr (hN : N < 2 ^ 31) (hb : 1 + sr_tot os ≤ N) (hva : sr_va os rt) :
    ∀ (n i : Nat) (q : sr_Q) (L : List Nat), i + n = 16 → sr_J os rt q L → ∃ E, sr_J os rt (sr_rcr N rt n i q) (L ++ E) ∧ ∀ j, i ≤ j → j < 16 → ∀ p x, sr_ob 1 os p x → rt j = nI p → p ∈ L ++ E
  | 0, i, q, L, hi, J => ⟨[], by rw [List.append_nil]; exact J, fun j h1 h2 => by omega⟩
  | n + 1, i, q, L, hi, J => by
    have step : ∃ E, sr_J os rt (sr_rch N q (rt i)) (L ++ E) ∧ ∀ p x, sr_ob 1 os p x → rt i = nI p → p ∈ L ++ E := by
      rcases hva.1 i (by omega) with h0 | ⟨p, x, hp, hv⟩
      · refine ⟨[], by rw [h0, sr_J_rch0, List.append_nil]; exact J, fun p x hp he => ?_⟩
        have hb2 := sr_ob_bd _ _ _ _ hp
        have h3 := sr_sz3 x
        exact absurd (he.symm.trans h0) (sr_ne0 (by omega) (by omega))
      · rw [hv]
        obtain ⟨E, h1, h2⟩ := sr_J_rch hN hb J hp ((sr_R_cl os rt).1 i (by omega) p x hp hv)
        refine ⟨E, h1, fun p' x' hp' he => ?_⟩
        have hb1 := sr_ob_bd _ _ _ _ hp
        have hb2 := sr_ob_bd _ _ _ _ hp'
        have h3 := sr_sz3 x
        have h4 := sr_sz3 x'
        have : p = p' := (nI_eq (by omega) (by omega)).mp he
        exact this ▸ h2
    obtain ⟨E, J1, hE⟩ := step
    obtain ⟨E', J2, hE'⟩ := sr_J_rcr hN hb hva n (i + 1) (sr_rch N q (rt i)) (L ++ E) (by omega) J1
    refine ⟨E ++ E', ?_, fun j h1 h2 p x hp he => ?_⟩
    · show sr_J os rt (sr_rcr N rt n (i + 1) (sr_rch N q (rt i))) (L ++ (E ++ E'))
      rw [← List.append_assoc]
      exact J2
    · rw [← List.append_assoc]
      by_cases hj : j = i
      · subst hj
        exact List.mem_append_left _ (hE p x hp he)
      · exact hE' j (by omega) h2 p x hp he
/-- the chain: what stands ahead of a has been looked at -/
theorem sr_J_chn (hN : N < 2 ^ 31) (hb : 1 + sr_tot os ≤ N) (hok : sr_ok os) (hva : sr_va os rt) :
    ∀ (n : Nat) (a : Int32) (q : sr_Q) (P Q : List Nat), sr_J os rt q (P ++ Q) → os.length ≤ P.length + n → (Q = [] → a ≤ 0) → (∀ x t, Q = x :: t → a = nI x) →
      (∀ p o, sr_ob 1 os p o → p ∈ P → ∀ i, i < o.1 → ∀ p' x', sr_ob 1 os p' x' → o.2.2.2 i = nI p' → p' ∈ P ++ Q) →
      ∃ E, sr_J os rt (sr_chn N n a q) (P ++ Q ++ E) ∧ ∀ p o, sr_ob 1 os p o → p ∈ P ++ Q ++ E → ∀ i, i < o.1 → ∀ p' x', sr_ob 1 os p' x' → o.2.2.2 i = nI p' → p' ∈ P ++ Q ++ E
  | 0, a, q, P, Q, J, hlen, h0, h1, hcl => by
    have hl : (P ++ Q).length ≤ os.length := by rw [← J.2.2.2.2.2.2.2.2]; exact sr_kp_len os 1
    rw [List.length_append] at hl
    have hQ : Q = [] := List.eq_nil_of_length_eq_zero (by omega)
    subst hQ
    refine ⟨[], by show sr_J os rt q _; simpa using J, ?_⟩
    simpa using hcl
  | n + 1, a, q, P, [], J, hlen, h0, h1, hcl => by
    refine ⟨[], ?_, by simpa using hcl⟩
    show sr_J os rt (if a ≤ 0 then q else _) _
    rw [if_pos (h0 rfl)]
    simpa using J
  | n + 1, a, q, P, x :: t, J, hlen, h0, h1, hcl => by
    have ha := h1 x t rfl
    have hxL : x ∈ P ++ x :: t := by simp
    obtain ⟨o, ho⟩ := J.2.1 x hxL
    have hbd := sr_ob_bd _ _ _ _ ho
    have h3 := sr_sz3 o
    have hf : (sr_fi N q.1 (nI x)).toNatClampNeg = o.1 := by
      have hk := hok o (sr_ob_mem _ _ _ _ ho)
      rw [sr_fi_eq (J.1 x o ho) hk hbd.1 (by omega) hN, nI_clamp (by omega)]
    obtain ⟨E, J1, hE⟩ := sr_J_rcf hN hb hva ho (J.2.2.2.2.2.2.2.1 x hxL) o.1 0 q (P ++ x :: t) (by omega) J
    have hstep : sr_chn N (n + 1) a q = sr_chn N n (sr_rd N (sr_rcf N (nI x) o.1 0 q).1 (nI (x + 2))) (sr_rcf N (nI x) o.1 0 q) := by
      show (if a ≤ 0 then q else sr_chn N n (sr_rd N (sr_rcf N a (sr_fi N q.1 a).toNatClampNeg 0 q).1 (a + 2)) (sr_rcf N a (sr_fi N q.1 a).toNatClampNeg 0 q)) = _
      rw [ha, if_neg (nI_nle (by omega) (by omega)), hf, show nI x + 2 = nI (x + 2) from nI_add x 2]
    have eL : P ++ x :: t ++ E = (P ++ [x]) ++ (t ++ E) := by simp
    rw [eL] at J1
    have hnext := J1.2.2.2.2.1
    obtain ⟨E', J2, hE2⟩ := sr_J_chn hN hb hok hva n (sr_rd N (sr_rcf N (nI x) o.1 0 q).1 (nI (x + 2))) (sr_rcf N (nI x) o.1 0 q) (P ++ [x]) (t ++ E) J1 (by simp; omega)
      (fun hQ => by
        rw [sr_rd_in (by omega) (by omega) hN]
        rw [hQ, List.append_nil] at hnext
        rw [sr_lk_last P hnext]
        decide)
      (fun y u hQ => by
        rw [sr_rd_in (by omega) (by omega) hN]
        rw [hQ, List.append_assoc] at hnext
        exact sr_lk_next P hnext)
      (fun p o' hp hpm i hi p' x' hp' he => by
        rcases List.mem_append.mp hpm with h | h
        · have := hcl p o' hp h i hi p' x' hp' he
          rw [← eL]
          exact List.mem_append_left _ this
        · have hpx := List.mem_singleton.mp h
          subst hpx
          obtain rfl := sr_ob_eq ho hp
          rw [← eL]
          exact hE i (Nat.zero_le _) hi p' x' hp' he)
    refine ⟨E ++ E', ?_, ?_⟩
    · rw [hstep, ← List.append_assoc, eL]
      exact J2
    · rw [← List.append_assoc, eL]
      exact hE2
end Reach
end
section
/-! THE CLASS'S SLIDE, PURE -/
def sr_chR (N : Nat) (rt : Nat → Int32) (k : Nat) (C : Nat → Int32) : sr_Q :=
  sr_chn N k (sr_rcr N rt 16 0 (sr_clr N k C 1, 0, 0, 0)).2.1 (sr_rcr N rt 16 0 (sr_clr N k C 1, 0, 0, 0))
theorem sr_kp_none : ∀ (os : List sr_O) (a : Nat), sr_kp (fun p => decide (p ∈ ([] : List Nat))) a os = []
  | [], _ => rfl
  | o :: os, a => by
    simp only [sr_kp]
    rw [if_neg (by simp)]
    exact sr_kp_none os _
theorem sr_chR_spec {N : Nat} {os : List sr_O} {rt C : Nat → Int32} (hN : N < 2 ^ 31) (hb : 1 + sr_tot os ≤ N) (hok : sr_ok os) (hva : sr_va os rt) (hc : sr_hc C 1 os) :
    sr_hc (sr_chR N rt os.length C).1 1 os ∧ (∀ p o, sr_ob 1 os p o → ((sr_chR N rt os.length C).1 (p + 2) = 0 ↔ sr_m os rt p = false)) ∧ (sr_chR N rt os.length C).2.2.2 = nI (sr_kp (sr_m os rt) 1 os).length := by
  obtain ⟨c1, c2⟩ := sr_clr_eq hN os 1 C hc hok (Nat.le_refl _) hb
  rw [show nI 1 = (1 : Int32) from rfl] at c1 c2
  have J0 : sr_J os rt (sr_clr N os.length C 1, 0, 0, 0) [] :=
    ⟨c1.hc hc, fun x h => (List.not_mem_nil h).elim, List.nodup_nil, fun p o hp => ⟨fun _ => List.not_mem_nil, fun _ => c2 p o hp⟩, trivial, Or.inl ⟨rfl, rfl⟩, rfl, fun x h => (List.not_mem_nil h).elim, by rw [sr_kp_none]; rfl⟩
  obtain ⟨E, J1, hr⟩ := sr_J_rcr hN hb hva 16 0 _ [] rfl J0
  rw [List.nil_append] at J1 hr
  obtain ⟨E2, J2, hf⟩ := sr_J_chn hN hb hok hva os.length (sr_rcr N rt 16 0 (sr_clr N os.length C 1, 0, 0, 0)).2.1 _ [] E J1 (by simp)
    (fun hE => by
      rcases J1.2.2.2.2.2.1 with ⟨-, h⟩ | ⟨x, t, -, -, h, -⟩
      · rw [h]; decide
      · rw [hE] at h; cases h)
    (fun x t hE => by
      rcases J1.2.2.2.2.2.1 with ⟨h, -⟩ | ⟨x', t', -, -, h, -, h2, -⟩
      · rw [hE] at h; cases h
      · rw [hE] at h; cases h; exact h2)
    (fun p o _ h => (List.not_mem_nil h).elim)
  rw [List.nil_append] at J2 hf
  have hcl : sr_cl os rt (fun p => p ∈ E ++ E2) := ⟨fun r hr' p o hp he => List.mem_append_left _ (hr r (Nat.zero_le _) hr' p o hp he), fun p o hp hS i hi q x hq he => hf p o hp hS i hi q x hq he⟩
  have hiff : ∀ p, p ∈ E ++ E2 ↔ sr_R os rt p := fun p => ⟨J2.2.2.2.2.2.2.2.1 p, fun h => h _ hcl⟩
  refine ⟨J2.1, fun p o hp => ?_, ?_⟩
  · refine (J2.2.2.2.1 p o hp).trans ?_
    rw [hiff p]
    exact sr_b_not.symm
  · rw [show (sr_chR N rt os.length C).2.2.2 = nI (E ++ E2).length from J2.2.2.2.2.2.2.1, ← J2.2.2.2.2.2.2.2.2]
    rw [sr_kp_congr (m := fun p => decide (p ∈ E ++ E2)) (m' := sr_m os rt) os 1 (fun p o _ => ?_)]
    by_cases h : sr_R os rt p
    · rw [show sr_m os rt p = true from sr_b_iff.mpr h]
      exact decide_eq_true ((hiff p).mpr h)
    · rw [show sr_m os rt p = false from sr_b_not.mpr h]
      exact decide_eq_false (fun z => h ((hiff p).mp z))
/-- the new address of what stands at v, where the first stands at a and comes to b -/
def sr_pl (m : Nat → Bool) : Nat → Nat → List sr_O → Int32 → Int32
  | _, _, [], _ => 0
  | a, b, o :: os, v => if v = nI a then nI b else sr_pl m (a + sr_sz o) (if m a = true then b + sr_sz o else b) os v
theorem sr_pl_at {m : Nat → Bool} : ∀ (xs : List sr_O) (o : sr_O) (ys : List sr_O) (a b : Nat), a + sr_tot (xs ++ o :: ys) < 2 ^ 31 → sr_pl m a b (xs ++ o :: ys) (nI (a + sr_tot xs)) = nI (b + sr_tot (sr_kp m a xs))
  | [], o, ys, a, b, _ => by simp [sr_pl, sr_tot, sr_kp]
  | x :: xs, o, ys, a, b, h => by
    have h3 := sr_sz3 x
    have e : a + sr_tot (x :: xs) = a + sr_sz x + sr_tot xs := by simp only [sr_tot]; omega
    have h4 : a + sr_sz x + sr_tot (xs ++ o :: ys) < 2 ^ 31 := by
      have : sr_tot (x :: xs ++ o :: ys) = sr_sz x + sr_tot (xs ++ o :: ys) := rfl
      omega
    have h5 : sr_tot (xs ++ o :: ys) = sr_tot xs + sr_tot (o :: ys) := sr_tot_app _ _
    rw [e]
    show (if nI (a + sr_sz x + sr_tot xs) = nI a then nI b else sr_pl m (a + sr_sz x) (if m a = true then b + sr_sz x else b) (xs ++ o :: ys) (nI (a + sr_sz x + sr_tot xs))) = _
    rw [if_neg (fun z => by have := (nI_eq (by omega) (by omega)).mp z; omega), sr_pl_at xs o ys (a + sr_sz x) _ h4]
    congr 1
    simp only [sr_kp]
    split
    · simp only [sr_tot]; omega
    · rfl
theorem sr_pl_0 {m : Nat → Bool} : ∀ (os : List sr_O) (a b : Nat), 1 ≤ a → a + sr_tot os < 2 ^ 31 → sr_pl m a b os 0 = 0
  | [], _, _, _, _ => rfl
  | o :: os, a, b, h1, h => by
    have h3 := sr_sz3 o
    simp only [sr_tot] at h
    show (if (0 : Int32) = nI a then nI b else sr_pl m (a + sr_sz o) (if m a = true then b + sr_sz o else b) os 0) = 0
    rw [if_neg (fun z => sr_ne0 h1 (by omega) z.symm), sr_pl_0 os _ _ (by omega) (by omega)]
/-- an object whose fields tell the new addresses -/
def sr_ro (f : Int32 → Int32) (o : sr_O) : sr_O := (o.1, o.2.1, o.2.2.1, fun i => if i < o.1 then f (o.2.2.2 i) else o.2.2.2 i)
theorem sr_ro_sz (f : Int32 → Int32) (o : sr_O) : sr_sz (sr_ro f o) = sr_sz o := rfl
theorem sr_tot_map (f : Int32 → Int32) : ∀ (os : List sr_O), sr_tot (os.map (sr_ro f)) = sr_tot os
  | [] => rfl
  | o :: os => by
    show sr_sz o + sr_tot (os.map (sr_ro f)) = sr_sz o + sr_tot os
    rw [sr_tot_map f os]
theorem sr_ob_map (f : Int32 → Int32) : ∀ (os : List sr_O) (a p : Nat) (x : sr_O), sr_ob a (os.map (sr_ro f)) p x ↔ ∃ o, sr_ob a os p o ∧ x = sr_ro f o
  | [], _, _, _ => by simp [sr_ob]
  | o :: os, a, p, x => by
    show ((p = a ∧ x = sr_ro f o) ∨ sr_ob (a + sr_sz o) (os.map (sr_ro f)) p x) ↔ _
    rw [sr_ob_map f os]
    constructor
    · rintro (⟨h1, h2⟩ | ⟨y, h1, h2⟩)
      · exact ⟨o, Or.inl ⟨h1, rfl⟩, h2⟩
      · exact ⟨y, Or.inr h1, h2⟩
    · rintro ⟨y, ⟨h1, rfl⟩ | h1, h2⟩
      · exact Or.inl ⟨h1, h2⟩
      · exact Or.inr ⟨y, h1, h2⟩
/-- choosePlaces -/
def sr_chp (N : Nat) : Nat → (Nat → Int32) → Int32 → Int32 → (Nat → Int32) × Int32
  | 0, C, t, _ => (C, t)
  | n + 1, C, t, a => if sr_rd N C (a + 2) = 0 then sr_chp N n C t (a + sr_si N C a) else sr_chp N n (sr_wr N C (a + 2) (1 + t)) (t + sr_si N C a) (a + sr_si N C a)
theorem sr_chp_eq {N : Nat} {m : Nat → Bool} (hN : N < 2 ^ 31) : ∀ (os : List sr_O) (a t : Nat) (C : Nat → Int32), sr_hc C a os → sr_ok os → 1 ≤ a → a + sr_tot os ≤ N → t + 1 ≤ a → (∀ p o, sr_ob a os p o → (C (p + 2) = 0 ↔ m p = false)) →
    ∃ C', sr_chp N os.length C (nI t) (nI a) = (C', nI (t + sr_tot (sr_kp m a os))) ∧ sr_lo a os C C' ∧ ∀ p o, sr_ob a os p o → C' (p + 2) = if m p = true then sr_pl m a (1 + t) os (nI p) else 0
  | [], a, t, C, _, _, _, _, _, _ => ⟨C, by simp [sr_chp, sr_kp, sr_tot], sr_lo.rf, fun _ _ h => h.elim⟩
  | o :: os, a, t, C, hc, hk, h1, h2, ht, hm => by
    have h3 := sr_sz3 o
    simp only [sr_tot] at h2
    have h0 : sr_ob a (o :: os) a o := Or.inl ⟨rfl, rfl⟩
    have hce := sr_hc_cons.mp hc
    have hk' : sr_ok os := fun y hy => hk y (List.mem_cons_of_mem _ hy)
    have esi := sr_si_eq hce.1 (hk o List.mem_cons_self) h1 (by omega) hN
    have erd : sr_rd N C (nI a + 2) = C (a + 2) := by rw [show nI a + 2 = nI (a + 2) from nI_add a 2, sr_rd_in (by omega) (by omega) hN]
    have e : sr_chp N (o :: os).length C (nI t) (nI a) = if C (a + 2) = 0 then sr_chp N os.length C (nI t) (nI (a + sr_sz o)) else sr_chp N os.length (upd C (a + 2) (nI (1 + t))) (nI (t + sr_sz o)) (nI (a + sr_sz o)) := by
      show (if sr_rd N C (nI a + 2) = 0 then sr_chp N os.length C (nI t) (nI a + sr_si N C (nI a)) else sr_chp N os.length (sr_wr N C (nI a + 2) (1 + nI t)) (nI t + sr_si N C (nI a)) (nI a + sr_si N C (nI a))) = _
      rw [erd, esi, nI_add, nI_add, show nI a + 2 = nI (a + 2) from nI_add a 2, sr_wr_in (by omega) (by omega) hN, show 1 + nI t = nI (1 + t) from nI_add 1 t]
    have far : ∀ p y, sr_ob (a + sr_sz o) os p y → a + sr_sz o ≤ p ∧ p < 2 ^ 31 := fun p y hy => by
      have hb := sr_ob_bd _ _ _ _ hy
      have := sr_sz3 y
      omega
    have hpl : ∀ b p y, sr_ob (a + sr_sz o) os p y → sr_pl m a b (o :: os) (nI p) = sr_pl m (a + sr_sz o) (if m a = true then b + sr_sz o else b) os (nI p) := fun b p y hy => by
      have := far p y hy
      show (if nI p = nI a then nI b else _) = _
      rw [if_neg (fun z => by have := (nI_eq (by omega) (by omega)).mp z; omega)]
    rw [e]
    cases hma : m a with
    | false =>
      have hC0 := (hm a o h0).mpr hma
      obtain ⟨C', e1, e2, e3⟩ := sr_chp_eq (m := m) hN os (a + sr_sz o) t C hce.2 hk' (by omega) (by omega) (by omega) (fun p y hy => hm p y (Or.inr hy))
      refine ⟨C', ?_, e2.tail, ?_⟩
      · rw [if_pos hC0, e1]
        simp [sr_kp, hma]
      · rintro p y (⟨rfl, rfl⟩ | hy)
        · rw [hma, e2 (p + 2) (fun q z hz hq => by have := (far q z hz).1; omega), hC0]
          simp
        · rw [e3 p y hy, hpl _ p y hy, hma]
          simp
    | true =>
      have hC0 : ¬ C (a + 2) = 0 := fun z => by rw [(hm a o h0).mp z] at hma; cases hma
      have hc1 := (sr_lo.put (C := C) h0 (nI (1 + t))).hc hc
      obtain ⟨C', e1, e2, e3⟩ := sr_chp_eq (m := m) hN os (a + sr_sz o) (t + sr_sz o) (upd C (a + 2) (nI (1 + t))) (sr_hc_cons.mp hc1).2 hk' (by omega) (by omega) (by omega) (fun p y hy => by
        rw [pk_un (by have := (far p y hy).1; omega)]
        exact hm p y (Or.inr hy))
      refine ⟨C', ?_, (sr_lo.put h0 _).tr e2.tail, ?_⟩
      · rw [if_neg hC0, e1]
        simp only [sr_kp, hma, if_true, sr_tot]
        rw [Nat.add_assoc]
      · rintro p y (⟨rfl, rfl⟩ | hy)
        · rw [hma, e2 (p + 2) (fun q z hz hq => by have := (far q z hz).1; omega), pk_us]
          simp [sr_pl]
        · rw [e3 p y hy, hpl _ p y hy, hma]
          simp only [if_true]
          rw [show 1 + (t + sr_sz o) = 1 + t + sr_sz o from by omega]
/-- placeOf -/
def sr_po (N : Nat) (C : Nat → Int32) (v : Int32) : Int32 := if v = 0 then 0 else sr_rd N C (v + 2)
/-- redirectFieldsOf -/
def sr_rdf (N : Nat) (a : Int32) : Nat → Nat → (Nat → Int32) → Nat → Int32
  | 0, _, C => C
  | n + 1, i, C => sr_rdf N a n (i + 1) (sr_wr N C (a + 3 + nI i) (sr_po N C (sr_rd N C (a + 3 + nI i))))
/-- redirectFields -/
def sr_rfs (N : Nat) : Nat → (Nat → Int32) → Int32 → Nat → Int32
  | 0, C, _ => C
  | n + 1, C, a => sr_rfs N n (if sr_rd N C (a + 2) = 0 then C else sr_rdf N a (sr_fi N C a).toNatClampNeg 0 C) (a + sr_si N (if sr_rd N C (a + 2) = 0 then C else sr_rdf N a (sr_fi N C a).toNatClampNeg 0 C) a)
/-- the objects, the fields of the reached ones redirected, each where it stood -/
def sr_rl (m : Nat → Bool) (f : Int32 → Int32) : Nat → List sr_O → List sr_O
  | _, [] => []
  | a, o :: os => (if m a = true then sr_ro f o else o) :: sr_rl m f (a + sr_sz o) os
theorem sr_rl_sz (m : Nat → Bool) (f : Int32 → Int32) (a : Nat) (o : sr_O) : sr_sz (if m a = true then sr_ro f o else o) = sr_sz o := by split <;> rfl
theorem sr_rl_tot (m : Nat → Bool) (f : Int32 → Int32) : ∀ (os : List sr_O) (a : Nat), sr_tot (sr_rl m f a os) = sr_tot os
  | [], _ => rfl
  | o :: os, a => by simp only [sr_rl, sr_tot, sr_rl_sz, sr_rl_tot m f os]
theorem sr_rl_len (m : Nat → Bool) (f : Int32 → Int32) : ∀ (os : List sr_O) (a : Nat), (sr_rl m f a os).length = os.length
  | [], _ => rfl
  | o :: os, a => by simp only [sr_rl, List.length_cons, sr_rl_len m f os]
theorem sr_rl_ok (m : Nat → Bool) (f : Int32 → Int32) : ∀ (os : List sr_O) (a : Nat), sr_ok os → sr_ok (sr_rl m f a os)
  | [], _, h => h
  | o :: os, a, h => by
    intro x hx
    rcases List.mem_cons.mp hx with rfl | hx
    · have := h o List.mem_cons_self
      split
      · exact this
      · exact this
    · exact sr_rl_ok m f os _ (fun y hy => h y (List.mem_cons_of_mem _ hy)) x hx
theorem sr_rl_kp (m : Nat → Bool) (f : Int32 → Int32) : ∀ (os : List sr_O) (a : Nat), sr_kp m a (sr_rl m f a os) = (sr_kp m a os).map (sr_ro f)
  | [], _ => rfl
  | o :: os, a => by
    simp only [sr_rl, sr_kp, sr_rl_sz, sr_rl_kp m f os]
    split <;> simp
theorem sr_rl_ob (m : Nat → Bool) (f : Int32 → Int32) : ∀ (os : List sr_O) (a p : Nat) (x : sr_O), sr_ob a (sr_rl m f a os) p x → ∃ o, sr_ob a os p o ∧ x = if m p = true then sr_ro f o else o
  | [], _, _, _, h => h.elim
  | o :: os, a, p, x, h => by
    rcases h with ⟨rfl, rfl⟩ | h
    · exact ⟨o, Or.inl ⟨rfl, rfl⟩, rfl⟩
    · rw [sr_rl_sz] at h
      obtain ⟨y, h1, h2⟩ := sr_rl_ob m f os _ _ _ h
      exact ⟨y, Or.inr h1, h2⟩
theorem sr_rdf_eq {N : Nat} (hN : N < 2 ^ 31) {a k : Nat} (h1 : 1 ≤ a) (h2 : a + 3 + k ≤ N) {f : Int32 → Int32} {C0 : Nat → Int32}
    (hpo : ∀ C' : Nat → Int32, (∀ q, ¬ (a + 3 ≤ q ∧ q < a + 3 + k) → C' q = C0 q) → ∀ j, j < k → sr_po N C' (C0 (a + 3 + j)) = f (C0 (a + 3 + j))) :
    ∀ (n i : Nat) (C : Nat → Int32), i + n = k → (∀ q, ¬ (a + 3 ≤ q ∧ q < a + 3 + k) → C q = C0 q) → (∀ j, i ≤ j → j < k → C (a + 3 + j) = C0 (a + 3 + j)) →
      ∀ q, sr_rdf N (nI a) n i C q = if a + 3 + i ≤ q ∧ q < a + 3 + k then f (C0 q) else C q
  | 0, i, C, hi, _, _, q => by
    rw [if_neg (by omega)]; rfl
  | n + 1, i, C, hi, hq, hj, q => by
    have erd : sr_rd N C (nI a + 3 + nI i) = C0 (a + 3 + i) := by
      rw [show nI a + 3 = nI (a + 3) from nI_add a 3, nI_add, sr_rd_in (by omega) (by omega) hN]
      exact hj i (Nat.le_refl _) (by omega)
    have ewr : ∀ v, sr_wr N C (nI a + 3 + nI i) v = upd C (a + 3 + i) v := fun v => by
      rw [show nI a + 3 = nI (a + 3) from nI_add a 3, nI_add, sr_wr_in (by omega) (by omega) hN]
    show sr_rdf N (nI a) n (i + 1) (sr_wr N C (nI a + 3 + nI i) (sr_po N C (sr_rd N C (nI a + 3 + nI i)))) q = _
    rw [erd, ewr, hpo C hq i (by omega)]
    rw [sr_rdf_eq hN h1 h2 hpo n (i + 1) (upd C (a + 3 + i) (f (C0 (a + 3 + i)))) (by omega) (fun q hq' => by rw [pk_un (by omega)]; exact hq q hq') (fun j h3 h4 => by rw [pk_un (by omega)]; exact hj j (by omega) h4) q]
    by_cases h : a + 3 + (i + 1) ≤ q ∧ q < a + 3 + k
    · rw [if_pos h, if_pos (by omega)]
    · rw [if_neg h]
      by_cases h' : q = a + 3 + i
      · rw [if_pos (by omega), h']; exact pk_us
      · rw [if_neg (by omega)]; exact pk_un h'
theorem sr_rfs_eq {N : Nat} {m : Nat → Bool} {f : Int32 → Int32} {full : List sr_O} (hN : N < 2 ^ 31) : ∀ (os : List sr_O) (a : Nat) (C : Nat → Int32), sr_hc C a os → sr_ok os → 1 ≤ a → a + sr_tot os ≤ N →
    (∀ p o, sr_ob a os p o → (C (p + 2) = 0 ↔ m p = false)) → (∀ p o, sr_ob a os p o → sr_ob 1 full p o) →
    (∀ C' : Nat → Int32, (∀ p o, sr_ob 1 full p o → C' (p + 2) = C (p + 2)) → ∀ p o, sr_ob a os p o → m p = true → ∀ i, i < o.1 → sr_po N C' (o.2.2.2 i) = f (o.2.2.2 i)) →
    sr_hc (sr_rfs N os.length C (nI a)) a (sr_rl m f a os) ∧ ∀ q, (∀ p o, sr_ob a os p o → ¬ (p + 3 ≤ q ∧ q < p + 3 + o.1)) → sr_rfs N os.length C (nI a) q = C q
  | [], a, C, _, _, _, _, _, _, _ => ⟨fun _ _ h => h.elim, fun _ _ => rfl⟩
  | o :: os, a, C, hc, hk, h1, h2, hm, hfu, hpo => by
    have hs : sr_sz o = 3 + o.1 + o.2.1 := rfl
    simp only [sr_tot] at h2
    have h0 : sr_ob a (o :: os) a o := Or.inl ⟨rfl, rfl⟩
    have hce := sr_hc_cons.mp hc
    have hk' : sr_ok os := fun y hy => hk y (List.mem_cons_of_mem _ hy)
    have hko := hk o List.mem_cons_self
    have erd : sr_rd N C (nI a + 2) = C (a + 2) := by rw [show nI a + 2 = nI (a + 2) from nI_add a 2, sr_rd_in (by omega) (by omega) hN]
    have efi : (sr_fi N C (nI a)).toNatClampNeg = o.1 := by rw [sr_fi_eq hce.1 hko h1 (by omega) hN, nI_clamp (by omega)]
    have apart : ∀ p y, sr_ob 1 full p y → ¬ (a + 3 ≤ p + 2 ∧ p + 2 < a + 3 + o.1) := fun p y hy => by
      have h3 := sr_sz3 y
      rcases sr_ob_sep full 1 a p o y (hfu a o h0) hy with h | h | h
      · omega
      · omega
      · omega
    -- the cells behind this object's turn
    have key : ∃ C1 : Nat → Int32, (if sr_rd N C (nI a + 2) = 0 then C else sr_rdf N (nI a) (sr_fi N C (nI a)).toNatClampNeg 0 C) = C1 ∧ sr_ce C1 a (if m a = true then sr_ro f o else o) ∧ ∀ q, ¬ (a + 3 ≤ q ∧ q < a + 3 + o.1) → C1 q = C q := by
      rw [erd]
      cases hma : m a with
      | false =>
        rw [if_pos ((hm a o h0).mpr hma), if_neg (by decide)]
        exact ⟨C, rfl, hce.1, fun _ _ => rfl⟩
      | true =>
        rw [if_neg (fun z => by rw [(hm a o h0).mp z] at hma; cases hma), if_pos rfl, efi]
        have hr := sr_rdf_eq (N := N) hN (a := a) (k := o.1) h1 (by omega) (f := f) (C0 := C) (fun C' hC' j hj => by
          rw [hce.1.2.2 j (by omega)]
          exact hpo C' (fun p y hy => hC' _ (apart p y hy)) a o h0 hma j hj) o.1 0 C (by omega) (fun _ _ => rfl) (fun _ _ _ => rfl)
        refine ⟨_, rfl, ⟨?_, ?_, fun i hi => ?_⟩, fun q hq => ?_⟩
        · rw [hr, if_neg (by omega)]; exact hce.1.1
        · rw [hr, if_neg (by omega)]; exact hce.1.2.1
        · rw [hr]
          by_cases hi2 : i < o.1
          · rw [if_pos (by omega), hce.1.2.2 i hi]
            exact (if_pos hi2).symm
          · rw [if_neg (by omega), hce.1.2.2 i hi]
            exact (if_neg hi2).symm
        · rw [hr, if_neg (by omega)]
    obtain ⟨C1, e1, e2, e3⟩ := key
    have hhead : sr_ce C1 a o ∨ True := Or.inr trivial
    have esi : sr_si N C1 (nI a) = nI (sr_sz o) := by
      rw [sr_si_eq e2 (by split <;> exact hko) h1 (by omega) hN, sr_rl_sz]
    have e : sr_rfs N (o :: os).length C (nI a) = sr_rfs N os.length C1 (nI (a + sr_sz o)) := by
      show sr_rfs N os.length (if sr_rd N C (nI a + 2) = 0 then C else sr_rdf N (nI a) (sr_fi N C (nI a)).toNatClampNeg 0 C) (nI a + sr_si N (if sr_rd N C (nI a + 2) = 0 then C else sr_rdf N (nI a) (sr_fi N C (nI a)).toNatClampNeg 0 C) (nI a)) = _
      rw [e1, esi, nI_add]
    have far : ∀ p y, sr_ob (a + sr_sz o) os p y → a + sr_sz o ≤ p := fun p y hy => (sr_ob_bd _ _ _ _ hy).1
    have ih := sr_rfs_eq (m := m) (f := f) (full := full) hN os (a + sr_sz o) C1
      (fun p y hy => sr_ce_frame (hce.2 p y hy) fun q g1 g2 g3 => e3 q (by have := far p y hy; omega)) hk' (by omega) (by omega)
      (fun p y hy => by rw [e3 _ (by have := far p y hy; omega)]; exact hm p y (Or.inr hy)) (fun p y hy => hfu p y (Or.inr hy))
      (fun C' hC' p y hy => hpo C' (fun p' y' hy' => by rw [hC' p' y' hy', e3 _ (apart p' y' hy')]) p y (Or.inr hy))
    rw [e]
    constructor
    · show sr_hc _ a ((if m a = true then sr_ro f o else o) :: sr_rl m f (a + sr_sz o) os)
      rw [sr_hc_cons, sr_rl_sz]
      refine ⟨sr_ce_frame e2 fun q g1 g2 g3 => ih.2 q (fun p y hy => ?_), ih.1⟩
      rw [sr_rl_sz] at g2
      have := far p y hy
      omega
    · intro q hq
      rw [ih.2 q (fun p y hy => hq p y (Or.inr hy))]
      exact e3 q (hq a o h0)
/-- moveCells -/
def sr_mvc (N : Nat) (C : Nat → Int32) (a b k : Int32) : Nat → Int32 :=
  if b < 1 then C else if a ≤ b then C else if k ≤ 0 then C else if nI N - a < k then C else va_cpy C C a.toNatClampNeg b.toNatClampNeg k.toNatClampNeg
/-- moveReached -/
def sr_mv (N : Nat) : Nat → (Nat → Int32) → Int32 → Nat → Int32
  | 0, C, _ => C
  | n + 1, C, a => sr_mv N n (if sr_rd N C (a + 2) = 0 then C else sr_mvc N C a (sr_rd N C (a + 2)) (sr_si N C a)) (a + sr_si N C a)
theorem sr_mvc_eq {N : Nat} (hN : N < 2 ^ 31) {C : Nat → Int32} {a b k : Nat} (h1 : 1 ≤ b) (h2 : b ≤ a) (h3 : 1 ≤ k) (h4 : a + k ≤ N) (q : Nat) : sr_mvc N C (nI a) (nI b) (nI k) q = if b ≤ q ∧ q < b + k then C (a + (q - b)) else C q := by
  unfold sr_mvc
  rw [if_neg (sr_n1 h1 (by omega))]
  by_cases hab : a = b
  · subst hab
    rw [if_pos (nI_le (Nat.le_refl _) (by omega))]
    split
    · rename_i h
      rw [show a + (q - a) = q from by omega]
    · rfl
  · rw [if_neg (nI_ge (by omega) (by omega)), if_neg (nI_nle (by omega) (by omega)), pk_sub (by omega), if_neg (nI_nlt (by omega) (by omega)), nI_clamp (by omega), nI_clamp (by omega), nI_clamp (by omega)]
    rfl
theorem sr_mv_eq {N : Nat} {m : Nat → Bool} (hN : N < 2 ^ 31) : ∀ (os : List sr_O) (a b : Nat) (C : Nat → Int32), sr_hc C a os → sr_ok os → 1 ≤ b → b ≤ a → a + sr_tot os ≤ N →
    (∀ p o, sr_ob a os p o → C (p + 2) = if m p = true then sr_pl m a b os (nI p) else 0) →
    sr_hc (sr_mv N os.length C (nI a)) b (sr_kp m a os) ∧ ∀ q, q < b → sr_mv N os.length C (nI a) q = C q
  | [], a, b, C, _, _, _, _, _, _ => ⟨fun _ _ h => h.elim, fun _ _ => rfl⟩
  | o :: os, a, b, C, hc, hk, h1, hba, h2, hl => by
    have h3 := sr_sz3 o
    have hs : sr_sz o = 3 + o.1 + o.2.1 := rfl
    simp only [sr_tot] at h2
    have h0 : sr_ob a (o :: os) a o := Or.inl ⟨rfl, rfl⟩
    have hce := sr_hc_cons.mp hc
    have hk' : sr_ok os := fun y hy => hk y (List.mem_cons_of_mem _ hy)
    have esi := sr_si_eq hce.1 (hk o List.mem_cons_self) (show 1 ≤ a by omega) (show a < N by omega) hN
    have erd : sr_rd N C (nI a + 2) = C (a + 2) := by rw [show nI a + 2 = nI (a + 2) from nI_add a 2, sr_rd_in (by omega) (by omega) hN]
    have far : ∀ p y, sr_ob (a + sr_sz o) os p y → a + sr_sz o ≤ p ∧ p < 2 ^ 31 := fun p y hy => by
      have hb := sr_ob_bd _ _ _ _ hy
      have := sr_sz3 y
      omega
    have hpl : ∀ p y, sr_ob (a + sr_sz o) os p y → sr_pl m a b (o :: os) (nI p) = sr_pl m (a + sr_sz o) (if m a = true then b + sr_sz o else b) os (nI p) := fun p y hy => by
      have := far p y hy
      show (if nI p = nI a then nI b else _) = _
      rw [if_neg (fun z => by have := (nI_eq (by omega) (by omega)).mp z; omega)]
    have e : sr_mv N (o :: os).length C (nI a) = sr_mv N os.length (if C (a + 2) = 0 then C else sr_mvc N C (nI a) (C (a + 2)) (nI (sr_sz o))) (nI (a + sr_sz o)) := by
      show sr_mv N os.length (if sr_rd N C (nI a + 2) = 0 then C else sr_mvc N C (nI a) (sr_rd N C (nI a + 2)) (sr_si N C (nI a))) (nI a + sr_si N C (nI a)) = _
      rw [erd, esi, nI_add]
    have hla := hl a o h0
    rw [e]
    cases hma : m a with
    | false =>
      rw [hma] at hla
      rw [if_neg (by decide)] at hla
      rw [if_pos hla]
      have ih := sr_mv_eq (m := m) hN os (a + sr_sz o) b C hce.2 hk' h1 (by omega) (by omega) (fun p y hy => by rw [hl p y (Or.inr hy), hpl p y hy, hma]; simp)
      simp only [sr_kp, hma]
      exact ih
    | true =>
      rw [hma, if_pos rfl, show sr_pl m a b (o :: os) (nI a) = nI b from if_pos rfl] at hla
      rw [hla, if_neg (sr_ne0 h1 (by omega))]
      have hC1 := sr_mvc_eq hN (C := C) (a := a) (b := b) (k := sr_sz o) h1 hba (by omega) (by omega)
      generalize sr_mvc N C (nI a) (nI b) (nI (sr_sz o)) = C1 at hC1
      have ih := sr_mv_eq (m := m) hN os (a + sr_sz o) (b + sr_sz o) C1
        (fun p y hy => sr_ce_frame (hce.2 p y hy) fun q g1 g2 g3 => by rw [hC1, if_neg (by have := far p y hy; omega)]) hk' (by omega) (by omega) (by omega)
        (fun p y hy => by rw [hC1, if_neg (by have := far p y hy; omega), hl p y (Or.inr hy), hpl p y hy, hma]; simp)
      simp only [sr_kp, hma, if_true]
      constructor
      · rw [sr_hc_cons]
        refine ⟨⟨?_, ?_, fun i hi => ?_⟩, ih.1⟩
        · rw [ih.2 _ (by omega), hC1, if_pos (by omega), show a + (b - b) = a from by omega]; exact hce.1.1
        · rw [ih.2 _ (by omega), hC1, if_pos (by omega), show a + (b + 1 - b) = a + 1 from by omega]; exact hce.1.2.1
        · rw [ih.2 _ (by omega), hC1, if_pos (by omega), show a + (b + 3 + i - b) = a + 3 + i from by omega]; exact hce.1.2.2 i hi
      · intro q hq
        rw [ih.2 q (by omega), hC1, if_neg (by omega)]
end
section
/-! THE SLIDE ITSELF: what comes of the objects and the roots; the class's way to it -/
noncomputable def sr_f (os : List sr_O) (rt : Nat → Int32) : Int32 → Int32 := sr_pl (sr_m os rt) 1 1 os
noncomputable def sr_so (os : List sr_O) (rt : Nat → Int32) : List sr_O := (sr_kp (sr_m os rt) 1 os).map (sr_ro (sr_f os rt))
theorem sr_so_tot (os : List sr_O) (rt : Nat → Int32) : sr_tot (sr_so os rt) = sr_tot (sr_kp (sr_m os rt) 1 os) := sr_tot_map _ _
theorem sr_so_le (os : List sr_O) (rt : Nat → Int32) : sr_tot (sr_so os rt) ≤ sr_tot os := by rw [sr_so_tot]; exact sr_kp_tot os 1
theorem sr_so_len (os : List sr_O) (rt : Nat → Int32) : (sr_so os rt).length = (sr_kp (sr_m os rt) 1 os).length := List.length_map _
theorem sr_so_ok {os : List sr_O} {rt : Nat → Int32} (h : sr_ok os) : sr_ok (sr_so os rt) := by
  intro x hx
  obtain ⟨o, ho, rfl⟩ := List.mem_map.mp hx
  exact h o (sr_kp_mem os 1 o ho)
theorem sr_f_at {os : List sr_O} {rt : Nat → Int32} (hb : 1 + sr_tot os < 2 ^ 31) {p : Nat} {o : sr_O} (hp : sr_ob 1 os p o) (hm : sr_m os rt p = true) : ∃ p', sr_f os rt (nI p) = nI p' ∧ sr_ob 1 (sr_so os rt) p' (sr_ro (sr_f os rt) o) := by
  obtain ⟨xs, ys, h1, h2⟩ := sr_ob_split os 1 p o hp
  refine ⟨1 + sr_tot (sr_kp (sr_m os rt) 1 xs), ?_, ?_⟩
  · show sr_pl (sr_m os rt) 1 1 os (nI p) = _
    generalize sr_m os rt = m
    subst h1; subst h2
    exact sr_pl_at xs o ys 1 1 hb
  · refine (sr_ob_map _ _ _ _ _).mpr ⟨o, ?_, rfl⟩
    have e : sr_kp (sr_m os rt) 1 os = sr_kp (sr_m os rt) 1 xs ++ o :: sr_kp (sr_m os rt) (p + sr_sz o) ys := by
      generalize sr_m os rt = m at hm ⊢
      rw [h1, sr_kp_app, ← h2]
      show _ ++ (if m p = true then _ else _) = _
      rw [if_pos hm]
    rw [e]
    exact sr_ob_mid _ _ _ _
theorem sr_f_0 {os : List sr_O} {rt : Nat → Int32} (hb : 1 + sr_tot os < 2 ^ 31) : sr_f os rt 0 = 0 := sr_pl_0 os 1 1 (Nat.le_refl _) hb
theorem sr_so_va {os : List sr_O} {rt : Nat → Int32} (hb : 1 + sr_tot os < 2 ^ 31) (hva : sr_va os rt) : sr_va (sr_so os rt) (fun r => sr_f os rt (rt r)) := by
  have key : ∀ v, (v = 0 ∨ ∃ p o, sr_ob 1 os p o ∧ v = nI p ∧ sr_m os rt p = true) → sr_ad (sr_so os rt) (sr_f os rt v) := by
    rintro v (rfl | ⟨p, o, hp, rfl, hm⟩)
    · exact Or.inl (sr_f_0 hb)
    · obtain ⟨p', e, h⟩ := sr_f_at hb hp hm
      exact Or.inr ⟨p', _, h, e⟩
  refine ⟨fun r hr => key _ ?_, fun p x hx i hi => ?_⟩
  · rcases hva.1 r hr with h | ⟨p, o, hp, he⟩
    · exact Or.inl h
    · exact Or.inr ⟨p, o, hp, he, sr_b_iff.mpr ((sr_R_cl os rt).1 r hr p o hp he)⟩
  · obtain ⟨o, ho, rfl⟩ := (sr_ob_map _ _ _ _ _).mp hx
    obtain ⟨q, hq, hm⟩ : ∃ q, sr_ob 1 os q o ∧ sr_m os rt q = true := by
      have : ∀ (us : List sr_O) (a b p : Nat) (o : sr_O), sr_ob b (sr_kp (sr_m os rt) a us) p o → ∃ q, sr_ob a us q o ∧ sr_m os rt q = true := by
        intro us
        induction us with
        | nil => intro a b p o h; exact h.elim
        | cons u us ih =>
          intro a b p o h
          simp only [sr_kp] at h
          split at h
          · rename_i hma
            rcases h with ⟨-, rfl⟩ | h
            · exact ⟨a, Or.inl ⟨rfl, rfl⟩, hma⟩
            · obtain ⟨q, h1, h2⟩ := ih _ _ _ _ h
              exact ⟨q, Or.inr h1, h2⟩
          · obtain ⟨q, h1, h2⟩ := ih _ _ _ _ h
            exact ⟨q, Or.inr h1, h2⟩
      exact this os 1 1 p o ho
    have hi' : i < o.1 := hi
    show sr_ad _ (if i < o.1 then sr_f os rt (o.2.2.2 i) else o.2.2.2 i)
    rw [if_pos hi']
    refine key _ ?_
    rcases hva.2 q o hq i hi' with h | ⟨p', o', hp', he⟩
    · exact Or.inl h
    · exact Or.inr ⟨p', o', hp', he, sr_b_iff.mpr ((sr_R_cl os rt).2 q o hq (sr_b_iff.mp hm) i hi' p' o' hp' he)⟩
theorem sr_pl_rl (m : Nat → Bool) (f : Int32 → Int32) : ∀ (os : List sr_O) (a b : Nat) (v : Int32), sr_pl m a b (sr_rl m f a os) v = sr_pl m a b os v
  | [], _, _, _ => rfl
  | o :: os, a, b, v => by simp only [sr_rl, sr_pl, sr_rl_sz, sr_pl_rl m f os]
/-- the class's slide: places, fields, moves, over the chain's cells C -/
def sr_sC (N : Nat) (k : Nat) (C : Nat → Int32) : Nat → Int32 := sr_mv N k (sr_rfs N k (sr_chp N k C 0 1).1 1) 1
theorem sr_sC_spec {N : Nat} {os : List sr_O} {rt C : Nat → Int32} (hN : N < 2 ^ 31) (hb : 1 + sr_tot os ≤ N) (hok : sr_ok os) (hva : sr_va os rt) (hc : sr_hc C 1 os) (hmk : ∀ p o, sr_ob 1 os p o → (C (p + 2) = 0 ↔ sr_m os rt p = false)) :
    (sr_chp N os.length C 0 1).2 = nI (sr_tot (sr_so os rt)) ∧ (∀ r, r < 16 → sr_po N (sr_chp N os.length C 0 1).1 (rt r) = sr_f os rt (rt r)) ∧ sr_hc (sr_sC N os.length C) 1 (sr_so os rt) := by
  have hb' : 1 + sr_tot os < 2 ^ 31 := by omega
  obtain ⟨C2, e1, e2, e3⟩ := sr_chp_eq (m := sr_m os rt) hN os 1 0 C hc hok (Nat.le_refl _) hb (Nat.le_refl _) hmk
  have e1' : sr_chp N os.length C 0 1 = (C2, nI (sr_tot (sr_so os rt))) := by rw [sr_so_tot]; rw [Nat.zero_add] at e1; exact e1
  have hpo : ∀ C' : Nat → Int32, (∀ p o, sr_ob 1 os p o → C' (p + 2) = C2 (p + 2)) → ∀ v, (v = 0 ∨ ∃ p o, sr_ob 1 os p o ∧ v = nI p ∧ sr_m os rt p = true) → sr_po N C' v = sr_f os rt v := by
    rintro C' hC' v (rfl | ⟨p, o, hp, rfl, hm⟩)
    · rw [sr_f_0 hb']; exact if_pos rfl
    · have hbd := sr_ob_bd _ _ _ _ hp
      have h3 := sr_sz3 o
      unfold sr_po
      rw [if_neg (sr_ne0 (by omega) (by omega)), show nI p + 2 = nI (p + 2) from nI_add p 2, sr_rd_in (by omega) (by omega) hN, hC' p o hp, e3 p o hp, if_pos hm]
      rfl
  have hfld : ∀ p o, sr_ob 1 os p o → sr_m os rt p = true → ∀ i, i < o.1 → (o.2.2.2 i = 0 ∨ ∃ q x, sr_ob 1 os q x ∧ o.2.2.2 i = nI q ∧ sr_m os rt q = true) := fun p o hp hm i hi => by
    rcases hva.2 p o hp i hi with h | ⟨p', o', hp', he⟩
    · exact Or.inl h
    · exact Or.inr ⟨p', o', hp', he, sr_b_iff.mpr ((sr_R_cl os rt).2 p o hp (sr_b_iff.mp hm) i hi p' o' hp' he)⟩
  have hmk2 : ∀ p o, sr_ob 1 os p o → (C2 (p + 2) = 0 ↔ sr_m os rt p = false) := fun p o hp => by
    rw [e3 p o hp]
    cases hm : sr_m os rt p with
    | false => simp
    | true =>
      obtain ⟨p', h1, h2⟩ := sr_f_at hb' hp hm
      rw [if_pos rfl, show sr_pl (sr_m os rt) 1 (1 + 0) os (nI p) = sr_f os rt (nI p) from rfl, h1]
      have hbd := sr_ob_bd _ _ _ _ h2
      have h4 := sr_so_le os rt
      have h5 := sr_sz3 (sr_ro (sr_f os rt) o)
      simp [sr_ne0 (show 1 ≤ p' by omega) (show p' < 2 ^ 31 by omega)]
  have hrf := sr_rfs_eq (N := N) (m := sr_m os rt) (f := sr_f os rt) (full := os) hN os 1 C2 (e2.hc hc) hok (Nat.le_refl _) hb hmk2 (fun _ _ h => h) (fun C' hC' p o hp hm i hi => hpo C' hC' _ (hfld p o hp hm i hi))
  rw [show nI 1 = (1 : Int32) from rfl] at hrf
  have hmv := sr_mv_eq (N := N) (m := sr_m os rt) hN (sr_rl (sr_m os rt) (sr_f os rt) 1 os) 1 1 (sr_rfs N os.length C2 1) hrf.1 (sr_rl_ok _ _ os 1 hok) (Nat.le_refl _) (Nat.le_refl _) (by rw [sr_rl_tot]; exact hb)
    (fun p x hx => by
      obtain ⟨o, ho, -⟩ := sr_rl_ob _ _ os 1 p x hx
      rw [sr_pl_rl, hrf.2 (p + 2) (fun q y hy hq => ?_), e3 p o ho]
      have h3 := sr_sz3 o
      have hs : sr_sz y = 3 + y.1 + y.2.1 := rfl
      rcases sr_ob_sep os 1 p q o y ho hy with h | h | h
      · omega
      · omega
      · omega)
  rw [sr_rl_len, sr_rl_kp, show nI 1 = (1 : Int32) from rfl] at hmv
  rw [e1']
  refine ⟨rfl, fun r hr => hpo C2 (fun _ _ _ => rfl) _ ?_, ?_⟩
  · rcases hva.1 r hr with h | ⟨p, o, hp, he⟩
    · exact Or.inl h
    · exact Or.inr ⟨p, o, hp, he, sr_b_iff.mpr ((sr_R_cl os rt).1 r hr p o hp he)⟩
  · unfold sr_sC
    rw [e1']
    exact hmv.1
end
section
/-! THE MODEL'S ARRAYS, PURE -/
def sr_hd (F W : Nat → Int32) (a : Nat) (os : List sr_O) : Prop := ∀ p o, sr_ob a os p o → F p = nI (o.1 + 1) ∧ W p = nI o.2.1
def sr_hv (Nm D : Nat → Int32) (a : Nat) (os : List sr_O) : Prop := ∀ p o, sr_ob a os p o → Nm p = o.2.2.1 ∧ ∀ i, i < o.1 + o.2.1 → D (p + 3 + i) = o.2.2.2 i
def sr_hz (F : Nat → Int32) (os : List sr_O) : Prop := ∀ q, (∀ o, ¬ sr_ob 1 os q o) → q < 16386 → F q = 0
theorem sr_hd_cons {F W : Nat → Int32} {a : Nat} {o : sr_O} {os : List sr_O} (h : sr_hd F W a (o :: os)) : (F a = nI (o.1 + 1) ∧ W a = nI o.2.1) ∧ sr_hd F W (a + sr_sz o) os :=
  ⟨h a o (Or.inl ⟨rfl, rfl⟩), fun p x hx => h p x (Or.inr hx)⟩
/-- size, as the model counts it -/
theorem sr_ms {F W : Int32} {o : sr_O} (h1 : F = nI (o.1 + 1)) (h2 : W = nI o.2.1) : 3 + F - 1 + W = nI (sr_sz o) := by
  rw [h1, h2, show (3 : Int32) + nI (o.1 + 1) = nI (3 + o.1 + 1) from by rw [show (3 : Int32) = nI 3 from rfl, nI_add]; rfl, nI_pred, nI_add]
  rfl
theorem sr_mf1 {F : Int32} {o : sr_O} (h1 : F = nI (o.1 + 1)) : F - 1 = nI o.1 := by rw [h1, nI_pred]
/-! its marks -/
abbrev sr_P : Type := (Nat → Int32) × Int32
def sr_mk (s : sr_P) (b : Int32) : sr_P := if b ≤ 0 then s else if s.1 b.toNatClampNeg = 0 then (upd s.1 b.toNatClampNeg 1, 1) else s
def sr_mf (D : Nat → Int32) (a : Nat) : Nat → Nat → sr_P → sr_P
  | 0, _, s => s
  | n + 1, f, s => if s.1 a = 0 then s else sr_mf D a n (f + 1) (sr_mk s (D (a + 3 + f)))
def sr_mo (D : Nat → Int32) : Nat → List sr_O → sr_P → sr_P
  | _, [], s => s
  | a, o :: os, s => sr_mo D (a + sr_sz o) os (sr_mf D a o.1 0 s)
def sr_mp (D : Nat → Int32) (os : List sr_O) : Nat → sr_P → sr_P
  | 0, s => s
  | n + 1, s => if s.2 = 0 then s else sr_mp D os n (sr_mo D 1 os (s.1, 0))
def sr_mr (rt : Nat → Int32) : Nat → Nat → (Nat → Int32) → Nat → Int32
  | 0, _, rc => rc
  | n + 1, r, rc => sr_mr rt n (r + 1) (upd rc (rt r).toNatClampNeg 1)
/-- what the array marks -/
def sr_mm (rc : Nat → Int32) : Nat → Bool := fun p => decide (rc p ≠ 0)
theorem sr_mm_t {rc : Nat → Int32} {p : Nat} : sr_mm rc p = true ↔ rc p ≠ 0 := decide_eq_true_iff
theorem sr_kp_mono {m m' : Nat → Bool} : ∀ (os : List sr_O) (a : Nat), (∀ p o, sr_ob a os p o → m p = true → m' p = true) → (sr_kp m a os).length ≤ (sr_kp m' a os).length
  | [], _, _ => Nat.le_refl _
  | o :: os, a, h => by
    have ih := sr_kp_mono os (a + sr_sz o) (fun p x hx => h p x (Or.inr hx))
    simp only [sr_kp]
    by_cases hma : m a = true
    · rw [if_pos hma, if_pos (h a o (Or.inl ⟨rfl, rfl⟩) hma)]
      simp only [List.length_cons]; omega
    · rw [if_neg hma]
      split
      · simp only [List.length_cons]; omega
      · exact ih
theorem sr_kp_lt {m m' : Nat → Bool} {os : List sr_O} {x : Nat} {o : sr_O} (ho : sr_ob 1 os x o) (h1 : m x = false) (h2 : m' x = true) (h : ∀ p o, sr_ob 1 os p o → m p = true → m' p = true) : (sr_kp m 1 os).length + 1 ≤ (sr_kp m' 1 os).length := by
  rw [← sr_kp_add (m := m) (m' := fun p => if p = x then true else m p) h1 (by simp) (fun p hp => by simp [hp]) os 1 o ho]
  refine sr_kp_mono os 1 fun p y hy hp => ?_
  by_cases hpx : p = x
  · rw [hpx]; exact h2
  · simp only [hpx, if_false] at hp; exact h p y hy hp
section Marks
variable {os : List sr_O} {rt : Nat → Int32}
/-- only what is reached is marked -/
def sr_K (os : List sr_O) (rt rc : Nat → Int32) : Prop := ∀ p o, sr_ob 1 os p o → rc p ≠ 0 → sr_R os rt p
def sr_T (os : List sr_O) (rt : Nat → Int32) (s s' : sr_P) : Prop :=
  (∀ p, s.1 p ≠ 0 → s'.1 p ≠ 0) ∧ (s'.2 = 0 → s.2 = 0 ∧ s'.1 = s.1) ∧ (s.2 = 0 → s'.2 ≠ 0 → ∃ x o, sr_ob 1 os x o ∧ s.1 x = 0 ∧ s'.1 x ≠ 0) ∧ (sr_K os rt s.1 → sr_K os rt s'.1)
theorem sr_T.rf {s : sr_P} : sr_T os rt s s := ⟨fun _ h => h, fun h => ⟨h, rfl⟩, fun h h' => absurd h h', fun h => h⟩
theorem sr_T.tr {s s' s'' : sr_P} (h : sr_T os rt s s') (g : sr_T os rt s' s'') : sr_T os rt s s'' := by
  refine ⟨fun p hp => g.1 p (h.1 p hp), fun h0 => ?_, fun h0 h1 => ?_, fun hK => g.2.2.2 (h.2.2.2 hK)⟩
  · obtain ⟨a1, a2⟩ := g.2.1 h0
    obtain ⟨b1, b2⟩ := h.2.1 a1
    exact ⟨b1, a2.trans b2⟩
  · by_cases hs : s'.2 = 0
    · obtain ⟨x, o, h2, h3, h4⟩ := g.2.2.1 hs h1
      rw [(h.2.1 hs).2] at h3
      exact ⟨x, o, h2, h3, h4⟩
    · obtain ⟨x, o, h2, h3, h4⟩ := h.2.2.1 h0 hs
      exact ⟨x, o, h2, h3, g.1 x h4⟩
theorem sr_T_mk (hb : 1 + sr_tot os < 2 ^ 31) {s : sr_P} {b : Int32} (had : sr_ad os b) (hR : sr_K os rt s.1 → ∀ p o, sr_ob 1 os p o → b = nI p → sr_R os rt p) : sr_T os rt s (sr_mk s b) := by
  unfold sr_mk
  rcases had with rfl | ⟨p, o, hp, rfl⟩
  · rw [if_pos (by decide)]; exact sr_T.rf
  · have hbd := sr_ob_bd _ _ _ _ hp
    have h3 := sr_sz3 o
    rw [if_neg (nI_nle (by omega) (by omega)), nI_clamp (by omega)]
    by_cases h0 : s.1 p = 0
    · rw [if_pos h0]
      refine ⟨fun q hq => ?_, fun h => absurd (show (1 : Int32) = 0 from h) (by decide), fun _ _ => ⟨p, o, hp, h0, by show upd s.1 p 1 p ≠ 0; rw [pk_us]; decide⟩, fun hK q x hx hq => ?_⟩
      · by_cases hqp : q = p
        · show upd s.1 p 1 q ≠ 0
          rw [hqp, pk_us]; decide
        · show upd s.1 p 1 q ≠ 0
          rw [pk_un hqp]; exact hq
      · by_cases hqp : q = p
        · rw [hqp]; exact hR hK p o hp rfl
        · have hq' : upd s.1 p 1 q ≠ 0 := hq
          rw [pk_un hqp] at hq'
          exact hK q x hx hq'
    · rw [if_neg h0]; exact sr_T.rf
theorem sr_T_mf (hb : 1 + sr_tot os < 2 ^ 31) (hva : sr_va os rt) {D : Nat → Int32} {a : Nat} {o : sr_O} (ho : sr_ob 1 os a o) (hD : ∀ i, i < o.1 → D (a + 3 + i) = o.2.2.2 i) :
    ∀ (n f : Nat) (s : sr_P), f + n = o.1 → sr_T os rt s (sr_mf D a n f s)
  | 0, _, _, _ => sr_T.rf
  | n + 1, f, s, hf => by
    show sr_T os rt s (if s.1 a = 0 then s else _)
    by_cases h0 : s.1 a = 0
    · rw [if_pos h0]; exact sr_T.rf
    · rw [if_neg h0]
      refine (sr_T_mk hb (b := D (a + 3 + f)) ?_ ?_).tr (sr_T_mf hb hva ho hD n (f + 1) _ (by omega))
      · rw [hD f (by omega)]; exact hva.2 a o ho f (by omega)
      · intro hK p x hp he
        rw [hD f (by omega)] at he
        exact (sr_R_cl os rt).2 a o ho (hK a o ho h0) f (by omega) p x hp he
theorem sr_T_mo (hb : 1 + sr_tot os < 2 ^ 31) (hva : sr_va os rt) {D : Nat → Int32} (hD : ∀ p o, sr_ob 1 os p o → ∀ i, i < o.1 → D (p + 3 + i) = o.2.2.2 i) :
    ∀ (us : List sr_O) (a : Nat) (s : sr_P), (∀ p o, sr_ob a us p o → sr_ob 1 os p o) → sr_T os rt s (sr_mo D a us s)
  | [], _, _, _ => sr_T.rf
  | u :: us, a, s, hs => by
    have h0 := hs a u (Or.inl ⟨rfl, rfl⟩)
    exact (sr_T_mf hb hva h0 (hD a u h0) u.1 0 s (by omega)).tr (sr_T_mo hb hva hD us (a + sr_sz u) _ (fun p o h => hs p o (Or.inr h)))
/-- a pass that marks nothing more: what is marked is closed -/
theorem sr_mf_cl (hb : 1 + sr_tot os < 2 ^ 31) (hva : sr_va os rt) {D : Nat → Int32} {a : Nat} {o : sr_O} (ho : sr_ob 1 os a o) (hD : ∀ i, i < o.1 → D (a + 3 + i) = o.2.2.2 i) :
    ∀ (n f : Nat) (s : sr_P), f + n = o.1 → (sr_mf D a n f s).2 = 0 → s.1 a ≠ 0 → ∀ j, f ≤ j → j < o.1 → ∀ p x, sr_ob 1 os p x → o.2.2.2 j = nI p → s.1 p ≠ 0
  | 0, f, s, hf, _, _, j, h1, h2 => by omega
  | n + 1, f, s, hf, h0, ha, j, h1, h2 => by
    intro p x hp he
    have e : sr_mf D a (n + 1) f s = sr_mf D a n (f + 1) (sr_mk s (D (a + 3 + f))) := if_neg ha
    rw [e] at h0
    have hT2 := sr_T_mf (rt := rt) hb hva ho hD n (f + 1) (sr_mk s (D (a + 3 + f))) (by omega)
    have hm0 := (hT2.2.1 h0).1
    have hbd := sr_ob_bd _ _ _ _ hp
    have h3 := sr_sz3 x
    have hms : sr_mk s (D (a + 3 + f)) = s ∧ (j = f → s.1 p ≠ 0) := by
      rw [hD f (by omega)] at hm0 ⊢
      rcases hva.2 a o ho f (by omega) with hz | ⟨p', o', hp', he'⟩
      · refine ⟨by rw [hz]; exact if_pos (by decide), fun hj => ?_⟩
        subst hj
        exact absurd (he.symm.trans hz) (sr_ne0 (by omega) (by omega))
      · have hbd' := sr_ob_bd _ _ _ _ hp'
        have h3' := sr_sz3 o'
        rw [he'] at hm0 ⊢
        unfold sr_mk at hm0 ⊢
        rw [if_neg (nI_nle (by omega) (by omega)), nI_clamp (by omega)] at hm0 ⊢
        by_cases hz : s.1 p' = 0
        · rw [if_pos hz] at hm0
          exact absurd (show (1 : Int32) = 0 from hm0) (by decide)
        · rw [if_neg hz]
          refine ⟨rfl, fun hj => ?_⟩
          subst hj
          have : p = p' := (nI_eq (by omega) (by omega)).mp (he.symm.trans he')
          rw [this]; exact hz
    by_cases hj : j = f
    · exact hms.2 hj
    · rw [hms.1] at h0
      exact sr_mf_cl hb hva ho hD n (f + 1) s (by omega) h0 ha j (by omega) h2 p x hp he
theorem sr_mo_cl (hb : 1 + sr_tot os < 2 ^ 31) (hva : sr_va os rt) {D : Nat → Int32} (hD : ∀ p o, sr_ob 1 os p o → ∀ i, i < o.1 → D (p + 3 + i) = o.2.2.2 i) :
    ∀ (us : List sr_O) (a : Nat) (s : sr_P), (∀ p o, sr_ob a us p o → sr_ob 1 os p o) → (sr_mo D a us s).2 = 0 → ∀ p o, sr_ob a us p o → s.1 p ≠ 0 → ∀ i, i < o.1 → ∀ q x, sr_ob 1 os q x → o.2.2.2 i = nI q → s.1 q ≠ 0
  | [], _, _, _, _, p, o, h => h.elim
  | u :: us, a, s, hs, h0, p, o, hp => by
    have hu := hs a u (Or.inl ⟨rfl, rfl⟩)
    have h0' : (sr_mo D (a + sr_sz u) us (sr_mf D a u.1 0 s)).2 = 0 := h0
    have hT := sr_T_mo (rt := rt) hb hva hD us (a + sr_sz u) (sr_mf D a u.1 0 s) (fun p o h => hs p o (Or.inr h))
    have hm := (hT.2.1 h0').1
    have he := ((sr_T_mf (rt := rt) hb hva hu (hD a u hu) u.1 0 s (by omega)).2.1 hm).2
    intro h1 i hi q x hq hv
    rcases hp with ⟨rfl, rfl⟩ | hp
    · exact sr_mf_cl hb hva hu (hD p o hu) o.1 0 s (by omega) hm h1 i (Nat.zero_le _) hi q x hq hv
    · have := sr_mo_cl hb hva hD us (a + sr_sz u) (sr_mf D a u.1 0 s) (fun p o h => hs p o (Or.inr h)) h0' p o hp (by rw [he]; exact h1) i hi q x hq hv
      rw [he] at this
      exact this
theorem sr_mp_spec (hb : 1 + sr_tot os < 2 ^ 31) (hva : sr_va os rt) {D : Nat → Int32} (hD : ∀ p o, sr_ob 1 os p o → ∀ i, i < o.1 → D (p + 3 + i) = o.2.2.2 i) :
    ∀ (n : Nat) (s : sr_P), s.2 ≠ 0 → os.length < (sr_kp (sr_mm s.1) 1 os).length + n → sr_K os rt s.1 → (∀ r, r < 16 → ∀ p o, sr_ob 1 os p o → rt r = nI p → s.1 p ≠ 0) →
      ∀ p o, sr_ob 1 os p o → ((sr_mp D os n s).1 p ≠ 0 ↔ sr_R os rt p)
  | 0, s, _, hn, _, _ => by
    have := sr_kp_len (m := sr_mm s.1) os 1
    omega
  | n + 1, s, h0, hn, hK, hr => by
    have hT := sr_T_mo (rt := rt) hb hva hD os 1 (s.1, 0) (fun _ _ h => h)
    have e : sr_mp D os (n + 1) s = sr_mp D os n (sr_mo D 1 os (s.1, 0)) := if_neg h0
    rw [e]
    by_cases hz : (sr_mo D 1 os (s.1, 0)).2 = 0
    · have e2 : sr_mp D os n (sr_mo D 1 os (s.1, 0)) = sr_mo D 1 os (s.1, 0) := by
        cases n with
        | zero => rfl
        | succ n => exact if_pos hz
      rw [e2, (hT.2.1 hz).2]
      have hcl : sr_cl os rt (fun p => s.1 p ≠ 0) := ⟨hr, fun p o hp hS i hi q x hq he => sr_mo_cl hb hva hD os 1 (s.1, 0) (fun _ _ h => h) hz p o hp hS i hi q x hq he⟩
      exact fun p o hp => ⟨hK p o hp, fun h => h _ hcl⟩
    · obtain ⟨x, o, hx, h1, h2⟩ := hT.2.2.1 rfl hz
      have hlt := sr_kp_lt (m := sr_mm s.1) (m' := sr_mm (sr_mo D 1 os (s.1, 0)).1) hx (by simp only [sr_mm]; exact decide_eq_false (fun z => z h1)) (sr_mm_t.mpr h2) (fun p y _ hp => sr_mm_t.mpr (hT.1 p (sr_mm_t.mp hp)))
      exact sr_mp_spec hb hva hD n (sr_mo D 1 os (s.1, 0)) hz (by omega) (hT.2.2.2 hK) (fun r hr' p o hp he => hT.1 p (hr r hr' p o hp he))
/-- the roots' marks -/
theorem sr_mr_spec : ∀ (n r : Nat) (rc : Nat → Int32), r + n = 16 → ∀ p, (sr_mr rt n r rc p ≠ 0 ↔ rc p ≠ 0 ∨ ∃ j, r ≤ j ∧ j < 16 ∧ (rt j).toNatClampNeg = p)
  | 0, r, rc, h, p => by
    show rc p ≠ 0 ↔ _
    constructor
    · exact Or.inl
    · rintro (h1 | ⟨j, h1, h2, -⟩)
      · exact h1
      · omega
  | n + 1, r, rc, h, p => by
    show sr_mr rt n (r + 1) (upd rc (rt r).toNatClampNeg 1) p ≠ 0 ↔ _
    rw [sr_mr_spec n (r + 1) _ (by omega) p]
    by_cases hp : p = (rt r).toNatClampNeg
    · constructor
      · intro _; exact Or.inr ⟨r, Nat.le_refl _, by omega, hp.symm⟩
      · intro _; refine Or.inl ?_; rw [hp, pk_us]; decide
    · rw [pk_un hp]
      constructor
      · rintro (h1 | ⟨j, h1, h2, h3⟩)
        · exact Or.inl h1
        · exact Or.inr ⟨j, by omega, h2, h3⟩
      · rintro (h1 | ⟨j, h1, h2, h3⟩)
        · exact Or.inl h1
        · refine Or.inr ⟨j, ?_, h2, h3⟩
          have : j ≠ r := fun z => hp (by rw [← z]; exact h3.symm)
          omega
/-- reach, whole: from marks that are all off -/
theorem sr_reach_spec (hb : 1 + sr_tot os < 2 ^ 31) (hn : os.length < 6000) (hva : sr_va os rt) {D rc : Nat → Int32} (hD : ∀ p o, sr_ob 1 os p o → ∀ i, i < o.1 → D (p + 3 + i) = o.2.2.2 i) (h0 : ∀ p, p ≤ 1 + sr_tot os → rc p = 0) :
    ∀ p o, sr_ob 1 os p o → ((sr_mp D os 6000 (upd (sr_mr rt 16 0 rc) 0 0, 1)).1 p ≠ 0 ↔ sr_R os rt p) := by
  have hmr : ∀ p o, sr_ob 1 os p o → (upd (sr_mr rt 16 0 rc) 0 0 p ≠ 0 ↔ ∃ j, j < 16 ∧ rt j = nI p) := fun p o hp => by
    have hbd := sr_ob_bd _ _ _ _ hp
    have h3 := sr_sz3 o
    rw [pk_un (by omega), sr_mr_spec 16 0 rc rfl p]
    constructor
    · rintro (h | ⟨j, -, h1, h2⟩)
      · exact absurd (h0 p (by omega)) h
      · refine ⟨j, h1, ?_⟩
        rcases hva.1 j h1 with hz | ⟨q, x, hq, he⟩
        · rw [hz] at h2
          have : (0 : Int32).toNatClampNeg = 0 := by decide
          omega
        · have hbq := sr_ob_bd _ _ _ _ hq
          have h4 := sr_sz3 x
          rw [he, nI_clamp (by omega)] at h2
          rw [he, h2]
    · rintro ⟨j, h1, h2⟩
      exact Or.inr ⟨j, Nat.zero_le _, h1, by rw [h2, nI_clamp (by omega)]⟩
  refine sr_mp_spec hb hva hD 6000 _ (show (1 : Int32) ≠ 0 from by decide) (by omega) (fun p o hp hm => ?_) (fun r hr p o hp he => (hmr p o hp).mpr ⟨r, hr, he⟩)
  obtain ⟨j, h1, h2⟩ := (hmr p o hp).mp hm
  exact (sr_R_cl os rt).1 j h1 p o hp h2
end Marks
end
section
/-! THE MODEL'S SLIDE, PURE -/
def sr_tg (rc : Nat → Int32) : Nat → Nat → List sr_O → (Nat → Int32) → Nat → Int32
  | _, _, [], T => T
  | a, b, o :: os, T => sr_tg rc (a + sr_sz o) (if sr_mm rc a = true then b + sr_sz o else b) os (upd T a (nI b))
theorem sr_tg_eq {rc : Nat → Int32} : ∀ (os : List sr_O) (a b : Nat) (T : Nat → Int32), a + sr_tot os < 2 ^ 31 → (∀ p o, sr_ob a os p o → sr_tg rc a b os T p = sr_pl (sr_mm rc) a b os (nI p)) ∧ ∀ q, q < a → sr_tg rc a b os T q = T q
  | [], _, _, _, _ => ⟨fun _ _ h => h.elim, fun _ _ => rfl⟩
  | o :: os, a, b, T, h => by
    have h3 := sr_sz3 o
    simp only [sr_tot] at h
    have ih := sr_tg_eq (rc := rc) os (a + sr_sz o) (if sr_mm rc a = true then b + sr_sz o else b) (upd T a (nI b)) (by omega)
    constructor
    · rintro p x (⟨rfl, rfl⟩ | hp)
      · show sr_tg rc _ _ os _ p = _
        rw [ih.2 p (by omega), pk_us]
        exact (if_pos rfl).symm
      · have hbd := sr_ob_bd _ _ _ _ hp
        have h4 := sr_sz3 x
        show sr_tg rc _ _ os _ p = (if nI p = nI a then nI b else _)
        have hne : ¬ nI p = nI a := fun z => by have := (nI_eq (by omega) (by omega)).mp z; omega
        rw [ih.1 p x hp, if_neg hne]
    · intro q hq
      show sr_tg rc _ _ os _ q = _
      rw [ih.2 q (by omega), pk_un (by omega)]
theorem sr_pl_congr {m m' : Nat → Bool} : ∀ (os : List sr_O) (a b : Nat), (∀ p o, sr_ob a os p o → m p = m' p) → ∀ v, sr_pl m a b os v = sr_pl m' a b os v
  | [], _, _, _, _ => rfl
  | o :: os, a, b, h, v => by
    have e := h a o (Or.inl ⟨rfl, rfl⟩)
    simp only [sr_pl, e]
    rw [sr_pl_congr os _ _ (fun p x hx => h p x (Or.inr hx)) v]
def sr_df (T : Nat → Int32) (a : Nat) : Nat → Nat → (Nat → Int32) → Nat → Int32
  | 0, _, D => D
  | n + 1, f, D => sr_df T a n (f + 1) (upd D (a + 3 + f) (T (D (a + 3 + f)).toNatClampNeg))
theorem sr_df_eq {T : Nat → Int32} {a : Nat} : ∀ (n f : Nat) (D : Nat → Int32) (q : Nat), sr_df T a n f D q = if a + 3 + f ≤ q ∧ q < a + 3 + f + n then T (D q).toNatClampNeg else D q
  | 0, f, D, q => by rw [if_neg (by omega)]; rfl
  | n + 1, f, D, q => by
    show sr_df T a n (f + 1) _ q = _
    rw [sr_df_eq n (f + 1) _ q]
    by_cases h : q = a + 3 + f
    · rw [if_neg (by omega), if_pos (by omega), h, pk_us]
    · rw [pk_un h]
      by_cases h2 : a + 3 + (f + 1) ≤ q ∧ q < a + 3 + (f + 1) + n
      · rw [if_pos h2, if_pos (by omega)]
      · rw [if_neg h2, if_neg (by omega)]
def sr_do (rc T : Nat → Int32) : Nat → List sr_O → (Nat → Int32) → Nat → Int32
  | _, [], D => D
  | a, o :: os, D => sr_do rc T (a + sr_sz o) os (if sr_mm rc a = true then sr_df T a o.1 0 D else D)
theorem sr_do_eq {rc T Nm : Nat → Int32} {f : Int32 → Int32} : ∀ (os : List sr_O) (a : Nat) (D : Nat → Int32), sr_hv Nm D a os → (∀ p o, sr_ob a os p o → sr_mm rc p = true → ∀ i, i < o.1 → T (o.2.2.2 i).toNatClampNeg = f (o.2.2.2 i)) →
    sr_hv Nm (sr_do rc T a os D) a (sr_rl (sr_mm rc) f a os) ∧ ∀ q, q < a ∨ a + sr_tot os ≤ q → sr_do rc T a os D q = D q
  | [], _, _, _, _ => ⟨fun _ _ h => h.elim, fun _ _ => rfl⟩
  | o :: os, a, D, hv, hT => by
    have hs : sr_sz o = 3 + o.1 + o.2.1 := rfl
    have h0 : sr_ob a (o :: os) a o := Or.inl ⟨rfl, rfl⟩
    have hh := hv a o h0
    have key : ∃ D1 : Nat → Int32, (if sr_mm rc a = true then sr_df T a o.1 0 D else D) = D1 ∧ (∀ i, i < o.1 + o.2.1 → D1 (a + 3 + i) = (if sr_mm rc a = true then sr_ro f o else o).2.2.2 i) ∧ ∀ q, q < a + 3 ∨ a + sr_sz o ≤ q → D1 q = D q := by
      cases hma : sr_mm rc a with
      | false =>
        rw [if_neg (by decide), if_neg (by decide)]
        exact ⟨D, rfl, hh.2, fun _ _ => rfl⟩
      | true =>
        rw [if_pos rfl, if_pos rfl]
        refine ⟨_, rfl, fun i hi => ?_, fun q hq => ?_⟩
        · rw [sr_df_eq]
          show _ = if i < o.1 then f (o.2.2.2 i) else o.2.2.2 i
          by_cases hi2 : i < o.1
          · rw [if_pos (by omega), if_pos hi2, hh.2 i hi, hT a o h0 hma i hi2]
          · rw [if_neg (by omega), if_neg hi2, hh.2 i hi]
        · rw [sr_df_eq, if_neg (by omega)]
    obtain ⟨D1, e1, e2, e3⟩ := key
    have far : ∀ p y, sr_ob (a + sr_sz o) os p y → a + sr_sz o ≤ p := fun p y hy => (sr_ob_bd _ _ _ _ hy).1
    have ih := sr_do_eq (rc := rc) (T := T) (Nm := Nm) (f := f) os (a + sr_sz o) D1
      (fun p y hy => ⟨(hv p y (Or.inr hy)).1, fun i hi => by rw [e3 _ (by have := far p y hy; omega)]; exact (hv p y (Or.inr hy)).2 i hi⟩) (fun p y hy => hT p y (Or.inr hy))
    show sr_hv Nm (sr_do rc T (a + sr_sz o) os (if sr_mm rc a = true then sr_df T a o.1 0 D else D)) a (_ :: _) ∧ _
    rw [show sr_do rc T a (o :: os) D = sr_do rc T (a + sr_sz o) os (if sr_mm rc a = true then sr_df T a o.1 0 D else D) from rfl, e1]
    constructor
    · rintro p x (⟨rfl, rfl⟩ | hp)
      · have hnum : (if sr_mm rc p = true then sr_ro f o else o).2.2.1 = o.2.2.1 := by split <;> rfl
        have hn1 : (if sr_mm rc p = true then sr_ro f o else o).1 = o.1 := by split <;> rfl
        have hn2 : (if sr_mm rc p = true then sr_ro f o else o).2.1 = o.2.1 := by split <;> rfl
        refine ⟨by rw [hnum]; exact hh.1, fun i hi => ?_⟩
        rw [hn1, hn2] at hi
        rw [ih.2 _ (Or.inl (by omega))]
        exact e2 i hi
      · rw [sr_rl_sz] at hp
        exact ih.1 p x hp
    · intro q hq
      simp only [sr_tot] at hq
      rw [ih.2 q (by omega)]
      exact e3 q (by omega)
abbrev sr_B : Type := (Nat → Int32) × (Nat → Int32) × (Nat → Int32) × (Nat → Int32)
def sr_cp (a b : Nat) : Nat → Nat → (Nat → Int32) → Nat → Int32
  | 0, _, D => D
  | n + 1, k, D => sr_cp a b n (k + 1) (upd D (b + k) (D (a + k)))
theorem sr_cp_eq {a b : Nat} (hba : b ≤ a) : ∀ (n k : Nat) (D : Nat → Int32) (q : Nat), sr_cp a b n k D q = if b + k ≤ q ∧ q < b + k + n then D (a + (q - b)) else D q
  | 0, k, D, q => by rw [if_neg (by omega)]; rfl
  | n + 1, k, D, q => by
    show sr_cp a b n (k + 1) _ q = _
    rw [sr_cp_eq hba n (k + 1) _ q]
    by_cases h2 : b + (k + 1) ≤ q ∧ q < b + (k + 1) + n
    · rw [if_pos h2, if_pos (by omega), pk_un (by omega)]
    · rw [if_neg h2]
      by_cases h : q = b + k
      · rw [if_pos (by omega), h, pk_us]
        congr 1
        omega
      · rw [if_neg (by omega), pk_un h]
def sr_bg (b : Nat) (s : sr_B) (a k : Nat) : sr_B := (upd (upd s.1 a 0) b (s.1 a), upd (upd s.2.1 a 0) b (s.2.1 a), upd (upd s.2.2.1 a 0) b (s.2.2.1 a), sr_cp a b k 0 s.2.2.2)
def sr_bl (rc T : Nat → Int32) : Nat → List sr_O → sr_B → sr_B
  | _, [], s => s
  | a, o :: os, s => sr_bl rc T (a + sr_sz o) os (if sr_mm rc a = true then sr_bg (T a).toNatClampNeg s a (sr_sz o) else (upd s.1 a 0, upd s.2.1 a 0, upd s.2.2.1 a 0, s.2.2.2))
/-- one object's turn leaves the headers behind it as they were -/
theorem sr_bl_hd {rc : Nat → Int32} {F W : Nat → Int32} {a b : Nat} {o : sr_O} {os : List sr_O} (hba : b ≤ a) (h : sr_hd F W a (o :: os)) {F' W' : Nat → Int32}
    (hF : F' = upd (upd F a 0) b (F a) ∨ F' = upd F a 0) (hW : W' = upd (upd W a 0) b (W a) ∨ W' = upd W a 0) : sr_hd F' W' (a + sr_sz o) os := by
  intro p y hy
  have h3 := sr_sz3 o
  have hp := (sr_ob_bd _ _ _ _ hy).1
  have := h p y (Or.inr hy)
  constructor
  · rcases hF with rfl | rfl
    · rw [pk_un (by omega), pk_un (by omega)]; exact this.1
    · rw [pk_un (by omega)]; exact this.1
  · rcases hW with rfl | rfl
    · rw [pk_un (by omega), pk_un (by omega)]; exact this.2
    · rw [pk_un (by omega)]; exact this.2
theorem sr_upup {F : Nat → Int32} {a b q : Nat} {v : Int32} : upd (upd F a 0) b v q = if q = b then v else if q = a then 0 else F q := rfl
theorem sr_bl_eq {rc T : Nat → Int32} : ∀ (os : List sr_O) (a b : Nat) (s : sr_B), sr_hd s.1 s.2.1 a os → sr_hv s.2.2.1 s.2.2.2 a os → 1 ≤ b → b ≤ a → a + sr_tot os < 2 ^ 31 →
    (∀ p o, sr_ob a os p o → T p = sr_pl (sr_mm rc) a b os (nI p)) → (∀ q, b ≤ q → q < 16386 → (∀ o, ¬ sr_ob a os q o) → s.1 q = 0) →
    sr_hd (sr_bl rc T a os s).1 (sr_bl rc T a os s).2.1 b (sr_kp (sr_mm rc) a os) ∧ sr_hv (sr_bl rc T a os s).2.2.1 (sr_bl rc T a os s).2.2.2 b (sr_kp (sr_mm rc) a os) ∧
    (∀ q, b ≤ q → q < 16386 → (∀ o, ¬ sr_ob b (sr_kp (sr_mm rc) a os) q o) → (sr_bl rc T a os s).1 q = 0) ∧
    ∀ q, q < b → (sr_bl rc T a os s).1 q = s.1 q ∧ (sr_bl rc T a os s).2.1 q = s.2.1 q ∧ (sr_bl rc T a os s).2.2.1 q = s.2.2.1 q ∧ (sr_bl rc T a os s).2.2.2 q = s.2.2.2 q
  | [], a, b, s, _, _, _, _, _, _, hz => ⟨fun _ _ h => h.elim, fun _ _ h => h.elim, fun q h1 h2 _ => hz q h1 h2 (fun _ h => h), fun _ _ => ⟨rfl, rfl, rfl, rfl⟩⟩
  | o :: os, a, b, s, hd, hv, h1, hba, hN, hT, hz => by
    obtain ⟨F, W, Nm, D⟩ := s
    dsimp only at hd hv hz
    have h3 := sr_sz3 o
    have hs : sr_sz o = 3 + o.1 + o.2.1 := rfl
    simp only [sr_tot] at hN
    have h0 : sr_ob a (o :: os) a o := Or.inl ⟨rfl, rfl⟩
    have far : ∀ p y, sr_ob (a + sr_sz o) os p y → a + sr_sz o ≤ p ∧ p < 2 ^ 31 := fun p y hy => by
      have hb := sr_ob_bd _ _ _ _ hy
      have := sr_sz3 y
      omega
    have hpl : ∀ p y, sr_ob (a + sr_sz o) os p y → sr_pl (sr_mm rc) a b (o :: os) (nI p) = sr_pl (sr_mm rc) (a + sr_sz o) (if sr_mm rc a = true then b + sr_sz o else b) os (nI p) := fun p y hy => by
      have := far p y hy
      show (if nI p = nI a then nI b else _) = _
      rw [if_neg (fun z => by have := (nI_eq (by omega) (by omega)).mp z; omega)]
    have hTa : (T a).toNatClampNeg = b := by
      rw [hT a o h0, show sr_pl (sr_mm rc) a b (o :: os) (nI a) = nI b from if_pos rfl, nI_clamp (by omega)]
    have hha := hd a o h0
    have hva := hv a o h0
    rw [show sr_bl rc T a (o :: os) (F, W, Nm, D) = sr_bl rc T (a + sr_sz o) os (if sr_mm rc a = true then sr_bg (T a).toNatClampNeg (F, W, Nm, D) a (sr_sz o) else (upd F a 0, upd W a 0, upd Nm a 0, D)) from rfl, hTa]
    cases hma : sr_mm rc a with
    | false =>
      rw [if_neg (by decide)]
      simp only [sr_kp, hma]
      have ih := sr_bl_eq (rc := rc) (T := T) os (a + sr_sz o) b (upd F a 0, upd W a 0, upd Nm a 0, D)
        (fun p y hy => by have := far p y hy; dsimp only; rw [pk_un (by omega), pk_un (by omega)]; exact hd p y (Or.inr hy))
        (fun p y hy => by have := far p y hy; dsimp only; rw [pk_un (by omega)]; exact hv p y (Or.inr hy)) h1 (by omega) (by omega)
        (fun p y hy => by rw [hT p y (Or.inr hy), hpl p y hy, hma]; rfl)
        (fun q g1 g2 g3 => by
          dsimp only
          by_cases hqa : q = a
          · rw [hqa]; exact pk_us
          · rw [pk_un hqa]
            refine hz q g1 g2 fun y hy => ?_
            rcases hy with ⟨h, -⟩ | hy
            · exact hqa h
            · exact g3 y hy)
      refine ⟨ih.1, ih.2.1, ih.2.2.1, fun q hq => ?_⟩
      obtain ⟨i1, i2, i3, i4⟩ := ih.2.2.2 q hq
      rw [i1, i2, i3, i4]
      dsimp only
      rw [pk_un (by omega), pk_un (by omega), pk_un (by omega)]
      exact ⟨rfl, rfl, rfl, rfl⟩
    | true =>
      rw [if_pos rfl]
      simp only [sr_kp, hma, if_true]
      have ih := sr_bl_eq (rc := rc) (T := T) os (a + sr_sz o) (b + sr_sz o) (sr_bg b (F, W, Nm, D) a (sr_sz o))
        (fun p y hy => by
          have := far p y hy
          show upd (upd F a 0) b (F a) p = _ ∧ upd (upd W a 0) b (W a) p = _
          rw [pk_un (by omega), pk_un (by omega), pk_un (by omega), pk_un (by omega)]; exact hd p y (Or.inr hy))
        (fun p y hy => by
          have := far p y hy
          show upd (upd Nm a 0) b (Nm a) p = _ ∧ ∀ i, _ → sr_cp a b (sr_sz o) 0 D (p + 3 + i) = _
          rw [pk_un (by omega), pk_un (by omega)]
          refine ⟨(hv p y (Or.inr hy)).1, fun i hi => ?_⟩
          rw [sr_cp_eq hba, if_neg (by omega)]
          exact (hv p y (Or.inr hy)).2 i hi) (by omega) (by omega) (by omega)
        (fun p y hy => by rw [hT p y (Or.inr hy), hpl p y hy, hma]; rfl)
        (fun q g1 g2 g3 => by
          show upd (upd F a 0) b (F a) q = 0
          rw [pk_un (by omega)]
          by_cases hqa : q = a
          · rw [hqa]; exact pk_us
          · rw [pk_un hqa]
            refine hz q (by omega) g2 fun y hy => ?_
            rcases hy with ⟨h, -⟩ | hy
            · exact hqa h
            · exact g3 y hy)
      have hfr := ih.2.2.2
      have eF : ∀ q, q < b + sr_sz o → (sr_bl rc T (a + sr_sz o) os (sr_bg b (F, W, Nm, D) a (sr_sz o))).1 q = if q = b then F a else if q = a then 0 else F q := fun q hq => (hfr q hq).1
      have eW : ∀ q, q < b + sr_sz o → (sr_bl rc T (a + sr_sz o) os (sr_bg b (F, W, Nm, D) a (sr_sz o))).2.1 q = if q = b then W a else if q = a then 0 else W q := fun q hq => (hfr q hq).2.1
      have eN : ∀ q, q < b + sr_sz o → (sr_bl rc T (a + sr_sz o) os (sr_bg b (F, W, Nm, D) a (sr_sz o))).2.2.1 q = if q = b then Nm a else if q = a then 0 else Nm q := fun q hq => (hfr q hq).2.2.1
      have eD : ∀ q, q < b + sr_sz o → (sr_bl rc T (a + sr_sz o) os (sr_bg b (F, W, Nm, D) a (sr_sz o))).2.2.2 q = if b ≤ q then D (a + (q - b)) else D q := fun q hq => by
        rw [(hfr q hq).2.2.2]
        show sr_cp a b (sr_sz o) 0 D q = _
        rw [sr_cp_eq hba]
        by_cases hbq : b ≤ q
        · rw [if_pos (by omega), if_pos hbq]
        · rw [if_neg (by omega), if_neg hbq]
      refine ⟨?_, ?_, ?_, fun q hq => ?_⟩
      · rintro p y (⟨rfl, rfl⟩ | hy)
        · rw [eF p (by omega), eW p (by omega), if_pos rfl, if_pos rfl]; exact hha
        · exact ih.1 p y hy
      · rintro p y (⟨rfl, rfl⟩ | hy)
        · rw [eN p (by omega), if_pos rfl]
          refine ⟨hva.1, fun i hi => ?_⟩
          rw [eD _ (by omega), if_pos (by omega), show a + (p + 3 + i - p) = a + 3 + i from by omega]
          exact hva.2 i hi
        · exact ih.2.1 p y hy
      · intro q g1 g2 g3
        by_cases hqb : q < b + sr_sz o
        · have hqne : q ≠ b := fun h => g3 o (Or.inl ⟨h, rfl⟩)
          rw [eF q hqb, if_neg hqne]
          by_cases hqa : q = a
          · rw [if_pos hqa]
          · rw [if_neg hqa]
            refine hz q (by omega) g2 fun y hy => ?_
            rcases hy with ⟨h, -⟩ | hy
            · exact hqa h
            · have := far q y hy; omega
        · exact ih.2.2.1 q (by omega) g2 (fun y hy => g3 y (Or.inr hy))
      · rw [eF q (by omega), eW q (by omega), eN q (by omega), eD q (by omega), if_neg (by omega), if_neg (by omega), if_neg (by omega), if_neg (by omega), if_neg (by omega), if_neg (by omega), if_neg (by omega)]
        exact ⟨rfl, rfl, rfl, rfl⟩
/-- the model's slide, whole -/
theorem sr_sM_spec {os : List sr_O} {rt F W Nm D rc T0 : Nat → Int32} (hb : 1 + sr_tot os < 2 ^ 31) (hva : sr_va os rt) (hd : sr_hd F W 1 os) (hv : sr_hv Nm D 1 os) (hz : sr_hz F os)
    (hm : ∀ p o, sr_ob 1 os p o → (rc p ≠ 0 ↔ sr_R os rt p)) :
    (∀ r, r < 16 → upd (sr_tg rc 1 1 os T0) 0 0 (rt r).toNatClampNeg = sr_f os rt (rt r)) ∧
    sr_tot (sr_kp (sr_mm rc) 1 os) = sr_tot (sr_so os rt) ∧ (sr_kp (sr_mm rc) 1 os).length = (sr_so os rt).length ∧
    sr_hd (sr_bl rc (upd (sr_tg rc 1 1 os T0) 0 0) 1 os (F, W, Nm, sr_do rc (upd (sr_tg rc 1 1 os T0) 0 0) 1 os D)).1 (sr_bl rc (upd (sr_tg rc 1 1 os T0) 0 0) 1 os (F, W, Nm, sr_do rc (upd (sr_tg rc 1 1 os T0) 0 0) 1 os D)).2.1 1 (sr_so os rt) ∧
    sr_hv (sr_bl rc (upd (sr_tg rc 1 1 os T0) 0 0) 1 os (F, W, Nm, sr_do rc (upd (sr_tg rc 1 1 os T0) 0 0) 1 os D)).2.2.1 (sr_bl rc (upd (sr_tg rc 1 1 os T0) 0 0) 1 os (F, W, Nm, sr_do rc (upd (sr_tg rc 1 1 os T0) 0 0) 1 os D)).2.2.2 1 (sr_so os rt) ∧
    sr_hz (sr_bl rc (upd (sr_tg rc 1 1 os T0) 0 0) 1 os (F, W, Nm, sr_do rc (upd (sr_tg rc 1 1 os T0) 0 0) 1 os D)).1 (sr_so os rt) := by
  have hmm : ∀ p o, sr_ob 1 os p o → sr_mm rc p = sr_m os rt p := fun p o hp => by
    cases h : sr_m os rt p with
    | true => exact sr_mm_t.mpr ((hm p o hp).mpr (sr_b_iff.mp h))
    | false =>
      cases h2 : sr_mm rc p with
      | false => rfl
      | true => exact absurd ((hm p o hp).mp (sr_mm_t.mp h2)) (sr_b_not.mp h)
  have hkp : sr_kp (sr_mm rc) 1 os = sr_kp (sr_m os rt) 1 os := sr_kp_congr os 1 hmm
  have hplE : ∀ v, sr_pl (sr_mm rc) 1 1 os v = sr_f os rt v := sr_pl_congr os 1 1 hmm
  obtain ⟨t1, t2⟩ := sr_tg_eq (rc := rc) os 1 1 T0 hb
  have hTp : ∀ p o, sr_ob 1 os p o → upd (sr_tg rc 1 1 os T0) 0 0 p = sr_pl (sr_mm rc) 1 1 os (nI p) := fun p o hp => by
    have := (sr_ob_bd _ _ _ _ hp).1
    rw [pk_un (by omega)]
    exact t1 p o hp
  generalize hTe : upd (sr_tg rc 1 1 os T0) 0 0 = T at hTp
  have hT0 : T 0 = 0 := by rw [← hTe]; exact pk_us
  have hTv : ∀ v, sr_ad os v → T v.toNatClampNeg = sr_f os rt v := by
    rintro v (rfl | ⟨p, o, hp, rfl⟩)
    · rw [show (0 : Int32).toNatClampNeg = 0 from by decide, hT0, sr_f_0 hb]
    · have hbd := sr_ob_bd _ _ _ _ hp
      have h3 := sr_sz3 o
      rw [nI_clamp (by omega), hTp p o hp, hplE]
  obtain ⟨d1, d2⟩ := sr_do_eq (rc := rc) (T := T) (Nm := Nm) (f := sr_f os rt) os 1 D hv (fun p o hp _ i hi => hTv _ (hva.2 p o hp i hi))
  have hrl : ∀ p x, sr_ob 1 (sr_rl (sr_mm rc) (sr_f os rt) 1 os) p x → ∃ o, sr_ob 1 os p o ∧ x.1 = o.1 ∧ x.2.1 = o.2.1 := fun p x hx => by
    obtain ⟨o, ho, e⟩ := sr_rl_ob _ _ os 1 p x hx
    refine ⟨o, ho, ?_, ?_⟩
    · rw [e]; split <;> rfl
    · rw [e]; split <;> rfl
  have hrl2 : ∀ (us : List sr_O) (a p : Nat) (o : sr_O), sr_ob a us p o → ∃ x, sr_ob a (sr_rl (sr_mm rc) (sr_f os rt) a us) p x := by
    intro us
    induction us with
    | nil => intro a p o h; exact h.elim
    | cons u us ih =>
      intro a p o h
      rcases h with ⟨rfl, rfl⟩ | h
      · exact ⟨_, Or.inl ⟨rfl, rfl⟩⟩
      · obtain ⟨x, hx⟩ := ih _ _ _ h
        refine ⟨x, Or.inr ?_⟩
        rw [sr_rl_sz]
        exact hx
  have hbl := sr_bl_eq (rc := rc) (T := T) (sr_rl (sr_mm rc) (sr_f os rt) 1 os) 1 1 (F, W, Nm, sr_do rc T 1 os D)
    (fun p x hx => by
      obtain ⟨o, ho, e1, e2⟩ := hrl p x hx
      rw [e1, e2]
      exact hd p o ho) d1 (Nat.le_refl _) (Nat.le_refl _) (by rw [sr_rl_tot]; exact hb)
    (fun p x hx => by
      obtain ⟨o, ho, -⟩ := hrl p x hx
      rw [sr_pl_rl]
      exact hTp p o ho)
    (fun q h1 h2 h3 => hz q (fun o ho => by
      obtain ⟨x, hx⟩ := hrl2 os 1 q o ho
      exact h3 x hx) h2)
  have hble : ∀ (us : List sr_O) (a : Nat) (s : sr_B), sr_bl rc T a (sr_rl (sr_mm rc) (sr_f os rt) a us) s = sr_bl rc T a us s := by
    intro us
    induction us with
    | nil => intro a s; rfl
    | cons u us ih =>
      intro a s
      simp only [sr_rl, sr_bl, sr_rl_sz]
      exact ih _ _
  rw [hble, sr_rl_kp, show (sr_kp (sr_mm rc) 1 os).map (sr_ro (sr_f os rt)) = sr_so os rt from by rw [hkp]; rfl] at hbl
  refine ⟨fun r hr => hTv _ (hva.1 r hr), by rw [hkp, sr_so_tot], by rw [hkp, sr_so_len], hbl.1, hbl.2.1, ?_⟩
  intro q h1 h2
  by_cases hq : q = 0
  · subst hq
    rw [(hbl.2.2.2 0 (by omega)).1]
    exact hz 0 (fun o ho => by have := (sr_ob_bd _ _ _ _ ho).1; omega) (by omega)
  · exact hbl.2.2.1 q (by omega) h2 h1
end
section
/-! ONE OBJECT CHANGES; ONE COMES -/
def sr_up (g : sr_O → sr_O) : Nat → List sr_O → Nat → List sr_O
  | _, [], _ => []
  | a, o :: os, p => if p = a then g o :: os else o :: sr_up g (a + sr_sz o) os p
def sr_gs (i : Nat) (v : Int32) (o : sr_O) : sr_O := (o.1, o.2.1, o.2.2.1, upd o.2.2.2 i v)
def sr_gn (v : Int32) (o : sr_O) : sr_O := (o.1, o.2.1, v, o.2.2.2)
def sr_sh (g : sr_O → sr_O) : Prop := ∀ o, (g o).1 = o.1 ∧ (g o).2.1 = o.2.1
theorem sr_gs_sh (i : Nat) (v : Int32) : sr_sh (sr_gs i v) := fun _ => ⟨rfl, rfl⟩
theorem sr_gn_sh (v : Int32) : sr_sh (sr_gn v) := fun _ => ⟨rfl, rfl⟩
section Up
variable {g : sr_O → sr_O} (hg : sr_sh g)
theorem sr_sh_sz {g : sr_O → sr_O} (hg : sr_sh g) (o : sr_O) : sr_sz (g o) = sr_sz o := by unfold sr_sz; rw [(hg o).1, (hg o).2]
theorem sr_up_tot {g : sr_O → sr_O} (hg : sr_sh g) : ∀ (os : List sr_O) (a p : Nat), sr_tot (sr_up g a os p) = sr_tot os
  | [], _, _ => rfl
  | o :: os, a, p => by
    simp only [sr_up]
    split
    · simp only [sr_tot, sr_sh_sz hg]
    · simp only [sr_tot, sr_up_tot hg os]
theorem sr_up_len {g : sr_O → sr_O} : ∀ (os : List sr_O) (a p : Nat), (sr_up g a os p).length = os.length
  | [], _, _ => rfl
  | o :: os, a, p => by
    simp only [sr_up]
    split
    · rfl
    · simp only [List.length_cons, sr_up_len os]
theorem sr_up_ok {g : sr_O → sr_O} (hg : sr_sh g) : ∀ (os : List sr_O) (a p : Nat), sr_ok os → sr_ok (sr_up g a os p)
  | [], _, _, h => h
  | o :: os, a, p, h => by
    have hh : sr_ok os := fun y hy => h y (List.mem_cons_of_mem _ hy)
    simp only [sr_up]
    split
    · intro x hx
      rcases List.mem_cons.mp hx with rfl | hx
      · rw [(hg o).1, (hg o).2]; exact h o List.mem_cons_self
      · exact hh x hx
    · intro x hx
      rcases List.mem_cons.mp hx with rfl | hx
      · exact h _ List.mem_cons_self
      · exact sr_up_ok hg os _ _ hh x hx
theorem sr_up_ob {g : sr_O → sr_O} (hg : sr_sh g) : ∀ (os : List sr_O) (a p q : Nat) (x : sr_O), sr_ob a (sr_up g a os p) q x → (q = p ∧ ∃ o, sr_ob a os p o ∧ x = g o) ∨ (q ≠ p ∧ sr_ob a os q x)
  | [], _, _, _, _, h => h.elim
  | o :: os, a, p, q, x, h => by
    have h3 := sr_sz3 o
    simp only [sr_up] at h
    split at h
    · rename_i hpa
      subst hpa
      rcases h with ⟨rfl, rfl⟩ | h
      · exact Or.inl ⟨rfl, o, Or.inl ⟨rfl, rfl⟩, rfl⟩
      · rw [sr_sh_sz hg] at h
        have := (sr_ob_bd _ _ _ _ h).1
        exact Or.inr ⟨by omega, Or.inr h⟩
    · rename_i hpa
      rcases h with ⟨rfl, rfl⟩ | h
      · exact Or.inr ⟨fun z => hpa z.symm, Or.inl ⟨rfl, rfl⟩⟩
      · rcases sr_up_ob hg os _ _ _ _ h with ⟨h1, y, h2, h4⟩ | ⟨h1, h2⟩
        · exact Or.inl ⟨h1, y, Or.inr h2, h4⟩
        · exact Or.inr ⟨h1, Or.inr h2⟩
theorem sr_up_in {g : sr_O → sr_O} (hg : sr_sh g) : ∀ (os : List sr_O) (a p q : Nat) (x : sr_O), sr_ob a os q x → ∃ y, sr_ob a (sr_up g a os p) q y
  | [], _, _, _, _, h => h.elim
  | o :: os, a, p, q, x, h => by
    simp only [sr_up]
    split
    · rcases h with ⟨rfl, rfl⟩ | h
      · exact ⟨_, Or.inl ⟨rfl, rfl⟩⟩
      · exact ⟨x, Or.inr (by rw [sr_sh_sz hg]; exact h)⟩
    · rcases h with ⟨rfl, rfl⟩ | h
      · exact ⟨_, Or.inl ⟨rfl, rfl⟩⟩
      · obtain ⟨y, hy⟩ := sr_up_in hg os _ p _ _ h
        exact ⟨y, Or.inr hy⟩
end Up
theorem sr_up_ad {g : sr_O → sr_O} (hg : sr_sh g) {os : List sr_O} {p : Nat} {v : Int32} (h : sr_ad os v) : sr_ad (sr_up g 1 os p) v := by
  rcases h with h | ⟨q, x, hq, he⟩
  · exact Or.inl h
  · obtain ⟨y, hy⟩ := sr_up_in hg os 1 p q x hq
    exact Or.inr ⟨q, y, hy, he⟩
theorem sr_up_hz {g : sr_O → sr_O} (hg : sr_sh g) {os : List sr_O} {p : Nat} {F : Nat → Int32} (h : sr_hz F os) : sr_hz F (sr_up g 1 os p) := fun q h1 h2 => h q (fun o ho => by
  obtain ⟨y, hy⟩ := sr_up_in hg os 1 p q o ho
  exact h1 y hy) h2
theorem sr_up_hd {g : sr_O → sr_O} (hg : sr_sh g) {os : List sr_O} {p : Nat} {F W : Nat → Int32} (h : sr_hd F W 1 os) : sr_hd F W 1 (sr_up g 1 os p) := fun q x hx => by
  rcases sr_up_ob hg os 1 p q x hx with ⟨rfl, o, ho, rfl⟩ | ⟨-, ho⟩
  · rw [(hg o).1, (hg o).2]; exact h q o ho
  · exact h q x ho
section One
variable {os : List sr_O} {p : Nat} {o : sr_O} (ho : sr_ob 1 os p o)
/-- a content of the object at p changes: the class's cells, the model's -/
theorem sr_gs_hc {os : List sr_O} {p : Nat} {o : sr_O} (ho : sr_ob 1 os p o) {C : Nat → Int32} (h : sr_hc C 1 os) {i : Nat} (hi : i < o.1 + o.2.1) (v : Int32) : sr_hc (upd C (p + 3 + i) v) 1 (sr_up (sr_gs i v) 1 os p) := by
  have hs : sr_sz o = 3 + o.1 + o.2.1 := rfl
  intro q x hx
  rcases sr_up_ob (sr_gs_sh i v) os 1 p q x hx with ⟨rfl, y, hy, rfl⟩ | ⟨hne, hq⟩
  · obtain rfl := sr_ob_eq ho hy
    obtain ⟨h1, h2, h3⟩ := h q o ho
    refine ⟨?_, ?_, fun j hj => ?_⟩
    · rw [pk_un (by omega)]; exact h1
    · rw [pk_un (by omega)]; exact h2
    · show upd C (q + 3 + i) v (q + 3 + j) = upd o.2.2.2 i v j
      by_cases hji : j = i
      · rw [hji, pk_us, pk_us]
      · rw [pk_un (by omega), pk_un hji]; exact h3 j hj
  · refine sr_ce_frame (h q x hq) fun r h1 h2 h3 => pk_un ?_
    rcases sr_ob_sep os 1 q p x o hq ho with h4 | h4 | h4
    · exact absurd h4.1 hne
    · omega
    · omega
theorem sr_gs_hv {os : List sr_O} {p : Nat} {o : sr_O} (ho : sr_ob 1 os p o) {Nm D : Nat → Int32} (h : sr_hv Nm D 1 os) {i : Nat} (hi : i < o.1 + o.2.1) (v : Int32) : sr_hv Nm (upd D (p + 3 + i) v) 1 (sr_up (sr_gs i v) 1 os p) := by
  have hs : sr_sz o = 3 + o.1 + o.2.1 := rfl
  intro q x hx
  rcases sr_up_ob (sr_gs_sh i v) os 1 p q x hx with ⟨rfl, y, hy, rfl⟩ | ⟨hne, hq⟩
  · obtain rfl := sr_ob_eq ho hy
    refine ⟨(h q o ho).1, fun j hj => ?_⟩
    show upd D (q + 3 + i) v (q + 3 + j) = upd o.2.2.2 i v j
    by_cases hji : j = i
    · rw [hji, pk_us, pk_us]
    · rw [pk_un (by omega), pk_un hji]; exact (h q o ho).2 j hj
  · have hsx : sr_sz x = 3 + x.1 + x.2.1 := rfl
    refine ⟨(h q x hq).1, fun j hj => ?_⟩
    rw [pk_un ?_]
    · exact (h q x hq).2 j hj
    · rcases sr_ob_sep os 1 q p x o hq ho with h4 | h4 | h4
      · exact absurd h4.1 hne
      · omega
      · omega
/-- its number changes -/
theorem sr_gn_hc {os : List sr_O} {p : Nat} {o : sr_O} (ho : sr_ob 1 os p o) {C : Nat → Int32} (h : sr_hc C 1 os) (v : Int32) : sr_hc (upd C (p + 1) v) 1 (sr_up (sr_gn v) 1 os p) := by
  have hs : sr_sz o = 3 + o.1 + o.2.1 := rfl
  intro q x hx
  rcases sr_up_ob (sr_gn_sh v) os 1 p q x hx with ⟨rfl, y, hy, rfl⟩ | ⟨hne, hq⟩
  · obtain rfl := sr_ob_eq ho hy
    obtain ⟨h1, h2, h3⟩ := h q o ho
    refine ⟨?_, ?_, fun j hj => ?_⟩
    · rw [pk_un (by omega)]; exact h1
    · exact pk_us
    · rw [pk_un (by omega)]; exact h3 j hj
  · refine sr_ce_frame (h q x hq) fun r h1 h2 h3 => pk_un ?_
    rcases sr_ob_sep os 1 q p x o hq ho with h4 | h4 | h4
    · exact absurd h4.1 hne
    · omega
    · omega
theorem sr_gn_hv {os : List sr_O} {p : Nat} {o : sr_O} (ho : sr_ob 1 os p o) {Nm D : Nat → Int32} (h : sr_hv Nm D 1 os) (v : Int32) : sr_hv (upd Nm p v) D 1 (sr_up (sr_gn v) 1 os p) := by
  intro q x hx
  rcases sr_up_ob (sr_gn_sh v) os 1 p q x hx with ⟨rfl, y, hy, rfl⟩ | ⟨hne, hq⟩
  · obtain rfl := sr_ob_eq ho hy
    exact ⟨pk_us, (h q o ho).2⟩
  · exact ⟨by rw [pk_un hne]; exact (h q x hq).1, (h q x hq).2⟩
theorem sr_gs_va {os : List sr_O} {p : Nat} {o : sr_O} (ho : sr_ob 1 os p o) {rt : Nat → Int32} (h : sr_va os rt) {i : Nat} {v : Int32} (hv : i < o.1 → sr_ad os v) : sr_va (sr_up (sr_gs i v) 1 os p) rt := by
  refine ⟨fun r hr => sr_up_ad (sr_gs_sh i v) (h.1 r hr), fun q x hx j hj => ?_⟩
  rcases sr_up_ob (sr_gs_sh i v) os 1 p q x hx with ⟨rfl, y, hy, rfl⟩ | ⟨hne, hq⟩
  · obtain rfl := sr_ob_eq ho hy
    show sr_ad _ (upd o.2.2.2 i v j)
    by_cases hji : j = i
    · subst hji; rw [pk_us]; exact sr_up_ad (sr_gs_sh j v) (hv hj)
    · rw [pk_un hji]; exact sr_up_ad (sr_gs_sh i v) (h.2 q o ho j hj)
  · exact sr_up_ad (sr_gs_sh i v) (h.2 q x hq j hj)
theorem sr_gn_va {os : List sr_O} {p : Nat} {rt : Nat → Int32} (h : sr_va os rt) {v : Int32} : sr_va (sr_up (sr_gn v) 1 os p) rt := by
  refine ⟨fun r hr => sr_up_ad (sr_gn_sh v) (h.1 r hr), fun q x hx j hj => ?_⟩
  rcases sr_up_ob (sr_gn_sh v) os 1 p q x hx with ⟨rfl, y, hy, rfl⟩ | ⟨hne, hq⟩
  · exact sr_up_ad (sr_gn_sh v) (h.2 q y hy j hj)
  · exact sr_up_ad (sr_gn_sh v) (h.2 q x hq j hj)
end One
/-! an object more -/
def sr_nw (f w : Nat) : sr_O := (f, w, 0, fun _ => 0)
theorem sr_nw_ob {os : List sr_O} {f w p : Nat} {x : sr_O} : sr_ob 1 (os ++ [sr_nw f w]) p x ↔ sr_ob 1 os p x ∨ (p = 1 + sr_tot os ∧ x = sr_nw f w) := by
  rw [sr_ob_app]
  simp [sr_ob]
theorem sr_nw_tot (os : List sr_O) (f w : Nat) : sr_tot (os ++ [sr_nw f w]) = sr_tot os + (3 + f + w) := by
  rw [sr_tot_app]
  rfl
theorem sr_nw_ok {os : List sr_O} (h : sr_ok os) {f w : Nat} (hf : f ≤ 2000) (hw : w ≤ 2000) : sr_ok (os ++ [sr_nw f w]) := by
  intro x hx
  rcases List.mem_append.mp hx with hx | hx
  · exact h x hx
  · rw [List.mem_singleton.mp hx]; exact ⟨hf, hw⟩
theorem sr_nw_ad {os : List sr_O} {f w : Nat} {v : Int32} (h : sr_ad os v) : sr_ad (os ++ [sr_nw f w]) v := by
  rcases h with h | ⟨q, x, hq, he⟩
  · exact Or.inl h
  · exact Or.inr ⟨q, x, sr_nw_ob.mpr (Or.inl hq), he⟩
theorem sr_nw_va {os : List sr_O} {rt : Nat → Int32} (h : sr_va os rt) {f w : Nat} : sr_va (os ++ [sr_nw f w]) rt := by
  refine ⟨fun r hr => sr_nw_ad (h.1 r hr), fun q x hx j hj => ?_⟩
  rcases sr_nw_ob.mp hx with hx | ⟨-, rfl⟩
  · exact sr_nw_ad (h.2 q x hx j hj)
  · exact Or.inl rfl
theorem sr_nw_hc {os : List sr_O} {C C' : Nat → Int32} (h : sr_hc C 1 os) {f w : Nat} (h1 : ∀ q, q < 1 + sr_tot os → C' q = C q) (h2 : C' (1 + sr_tot os) = nI (f * 4096 + w)) (h3 : ∀ q, 1 + sr_tot os < q → q < 1 + sr_tot os + (3 + f + w) → C' q = 0) : sr_hc C' 1 (os ++ [sr_nw f w]) := by
  intro q x hx
  rcases sr_nw_ob.mp hx with hx | ⟨rfl, rfl⟩
  · have hb := sr_ob_bd _ _ _ _ hx
    exact sr_ce_frame (h q x hx) fun r g1 g2 g3 => h1 r (by omega)
  · exact ⟨h2, h3 _ (by omega) (by omega), fun i hi => by
      have hi' : i < f + w := hi
      exact h3 _ (by omega) (by omega)⟩
theorem sr_nw_hd {os : List sr_O} {F W : Nat → Int32} (h : sr_hd F W 1 os) {f w : Nat} : sr_hd (upd F (1 + sr_tot os) (nI (f + 1))) (upd W (1 + sr_tot os) (nI w)) 1 (os ++ [sr_nw f w]) := by
  intro q x hx
  rcases sr_nw_ob.mp hx with hx | ⟨rfl, rfl⟩
  · have hb := sr_ob_bd _ _ _ _ hx
    have h3 := sr_sz3 x
    rw [pk_un (by omega), pk_un (by omega)]
    exact h q x hx
  · exact ⟨pk_us, pk_us⟩
theorem sr_nw_hv {os : List sr_O} {Nm D D' : Nat → Int32} (h : sr_hv Nm D 1 os) {f w : Nat} (h1 : ∀ q, q < 1 + sr_tot os → D' q = D q) (h2 : ∀ q, 1 + sr_tot os ≤ q → q < 1 + sr_tot os + (3 + f + w) → D' q = 0) : sr_hv (upd Nm (1 + sr_tot os) 0) D' 1 (os ++ [sr_nw f w]) := by
  intro q x hx
  rcases sr_nw_ob.mp hx with hx | ⟨rfl, rfl⟩
  · have hb := sr_ob_bd _ _ _ _ hx
    have hs : sr_sz x = 3 + x.1 + x.2.1 := rfl
    rw [pk_un (by omega)]
    exact ⟨(h q x hx).1, fun i hi => by rw [h1 _ (by omega)]; exact (h q x hx).2 i hi⟩
  · exact ⟨pk_us, fun i hi => by
      have hi' : i < f + w := hi
      exact h2 _ (by omega) (by omega)⟩
theorem sr_nw_hz {os : List sr_O} {F : Nat → Int32} (h : sr_hz F os) {f w : Nat} {v : Int32} : sr_hz (upd F (1 + sr_tot os) v) (os ++ [sr_nw f w]) := by
  intro q h1 h2
  have hne : q ≠ 1 + sr_tot os := fun z => h1 (sr_nw f w) (sr_nw_ob.mpr (Or.inr ⟨z, rfl⟩))
  rw [pk_un hne]
  exact h q (fun o ho => h1 o (sr_nw_ob.mpr (Or.inl ho))) h2
end
